def mf_first (N : Nat) (S : mS) (a1 : Int32) (a2 : Int32) (a3 : Int32) (a4 : Int32) (a5 : Int32) : Option (mS) := (if ok a1 1200 then (if ok (a1 + 1) 1200 then (if ok (a1 + 2) 1200 then (if ok (a1 + 3) 1200 then some (ms (ms (ms (ms S 19 a1.toNatClampNeg a2) 19 (a1 + 1).toNatClampNeg a3) 19 (a1 + 2).toNatClampNeg a4) 19 (a1 + 3).toNatClampNeg a5) else none) else none) else none) else none)
set_option maxRecDepth 100000 in
theorem cm_first (l : Launch) (N : Nat) (S : mS) (a1 : Int32) (a2 : Int32) (a3 : Int32) (a4 : Int32) (a5 : Int32) (S1 : mS) (hf : mf_first N S a1 a2 a3 a4 a5 = some S1) : mMv l yX12_first cX12_first 6 1 (fun g => [.ref (mr g 0), .int a1, .int a2, .int a3, .int a4, .int a5]) S S1 := by
  refine mMv_of (own := RX12) (by decide) rfl (fun g => Nat.le_of_ble_eq_true rfl) ?_
  intro p e R s m args below meth c Q g A H0 H locs ls hc hR hml hw hl hQ
  have hl : lv_has ls 6 [(0, .ref (mr g 0)), (1, .int a1), (2, .int a2), (3, .int a3), (4, .int a4), (5, .int a5)] := hl
  have hx := hc.1
  have hb := hc.2.1
  unfold mf_first at hf
  refine lv_aload_n hx hb dX12_first_0 rfl (lv_at hl 0 rfl) ?_
  refine m_g19 hc hw dX12_first_1 ?_
  refine lv_iload_n hx hb dX12_first_4 rfl (lv_at hl 1 rfl) ?_
  refine lv_iload_n hx hb dX12_first_5 rfl (lv_at hl 2 rfl) ?_
  obtain ⟨hi1, hf⟩ := gd_some hf
  refine m_s19 hc hw (ok_in hi1) dX12_first_6 (fun H locs hw => ?_)
  refine lv_aload_n hx hb dX12_first_7 rfl (lv_at hl 0 rfl) ?_
  refine m_g19 hc hw dX12_first_8 ?_
  refine lv_iload_n hx hb dX12_first_11 rfl (lv_at hl 1 rfl) ?_
  refine lv_iconst (v := 1) hx hb dX12_first_12 (by decide) ?_
  refine lv_iadd hx hb dX12_first_13 ?_
  refine lv_iload_n hx hb dX12_first_14 rfl (lv_at hl 3 rfl) ?_
  obtain ⟨hi2, hf⟩ := gd_some hf
  refine m_s19 hc hw (ok_in hi2) dX12_first_15 (fun H locs hw => ?_)
  refine lv_aload_n hx hb dX12_first_16 rfl (lv_at hl 0 rfl) ?_
  refine m_g19 hc hw dX12_first_17 ?_
  refine lv_iload_n hx hb dX12_first_20 rfl (lv_at hl 1 rfl) ?_
  refine lv_iconst (v := 2) hx hb dX12_first_21 (by decide) ?_
  refine lv_iadd hx hb dX12_first_22 ?_
  refine lv_iload hx hb dX12_first_23 (lv_at hl 4 rfl) ?_
  obtain ⟨hi3, hf⟩ := gd_some hf
  refine m_s19 hc hw (ok_in hi3) dX12_first_25 (fun H locs hw => ?_)
  refine lv_aload_n hx hb dX12_first_26 rfl (lv_at hl 0 rfl) ?_
  refine m_g19 hc hw dX12_first_27 ?_
  refine lv_iload_n hx hb dX12_first_30 rfl (lv_at hl 1 rfl) ?_
  refine lv_iconst (v := 3) hx hb dX12_first_31 (by decide) ?_
  refine lv_iadd hx hb dX12_first_32 ?_
  refine lv_iload hx hb dX12_first_33 (lv_at hl 5 rfl) ?_
  obtain ⟨hi4, hf⟩ := gd_some hf
  refine m_s19 hc hw (ok_in hi4) dX12_first_35 (fun H locs hw => ?_)
  obtain rfl := Option.some.inj hf
  exact hQ _ _ _ _ dX12_first_36 hw
theorem mq_first : qCv RX12 151 yX12_first cX12_first 6 none 5 := ⟨⟨(mem_g 1142 (by decide +kernel) rfl), (mem_g 1144 (by decide +kernel) rfl), (mem_g 33 (by decide +kernel) rfl), (mem_g 89 (by decide +kernel) rfl), (mem_g 1145 (by decide +kernel) rfl)⟩, by decide, by decide +kernel, by decide⟩
def mf_in (a1 : Int32) (a2 : Int32) (a3 : Int32) : Bool := (if a1 < a2 then false else (if a3 < a1 then false else true))
set_option maxRecDepth 100000 in
theorem cm_in (l : Launch) (S : mS) (a1 : Int32) (a2 : Int32) (a3 : Int32) (res : Bool) (hf : mf_in a1 a2 a3 = res) : mMi l yX12_in cX12_in 3 .boolean 1 (fun g => [.int a1, .int a2, .int a3]) S (bi res) S := by
  refine mMi_of (own := RX12) (by decide) rfl (narrow_bi _) (fun g => Nat.le_of_ble_eq_true rfl) ?_
  intro p e R s m args below meth c Q g A H0 H locs ls hc hR hml hw hl hQ
  have hl : lv_has ls 3 [(0, .int a1), (1, .int a2), (2, .int a3)] := hl
  have hx := hc.1
  have hb := hc.2.1
  unfold mf_in at hf
  refine lv_iload_n hx hb dX12_in_0 rfl (lv_at hl 0 rfl) ?_
  refine lv_iload_n hx hb dX12_in_1 rfl (lv_at hl 1 rfl) ?_
  refine lv_icmp_lt (tgt := 14) hx hb dX12_in_2 (by decide) (fun cn1 => ?_) (fun cn1 => ?_)
  · have hf := (if_pos cn1).symm.trans hf
    refine lv_iconst (v := 0) hx hb dX12_in_14 (by decide) ?_
    obtain rfl := hf
    exact hQ _ _ _ _ dX12_in_15 hw
  · have hf := (if_neg cn1).symm.trans hf
    refine lv_iload_n hx hb dX12_in_5 rfl (lv_at hl 0 rfl) ?_
    refine lv_iload_n hx hb dX12_in_6 rfl (lv_at hl 2 rfl) ?_
    refine lv_icmp_gt (tgt := 14) hx hb dX12_in_7 (by decide) (fun cn2 => ?_) (fun cn2 => ?_)
    · have hf := (if_pos cn2).symm.trans hf
      refine lv_iconst (v := 0) hx hb dX12_in_14 (by decide) ?_
      obtain rfl := hf
      exact hQ _ _ _ _ dX12_in_15 hw
    · have hf := (if_neg cn2).symm.trans hf
      refine lv_iconst (v := 1) hx hb dX12_in_10 (by decide) ?_
      refine lv_goto (tgt := 15) hx hb dX12_in_11 (by decide) ?_
      obtain rfl := hf
      exact hQ _ _ _ _ dX12_in_15 hw
theorem mq_in : qCs RX12 159 yX12_in cX12_in 3 (some .boolean) 3 := ⟨⟨(mem_g 1329 (by decide +kernel) rfl), (mem_g 1330 (by decide +kernel) rfl), (mem_g 89 (by decide +kernel) rfl), (mem_g 1331 (by decide +kernel) rfl)⟩, by decide, by decide +kernel, by decide⟩
def mf_placeOf (N : Nat) (S : mS) (a1 : Int32) (a2 : Int32) : Option (Int32) := (if ok a1 6 then (if (S.1 4 a1.toNatClampNeg) = 1 then some (((2 * a2) + (S.1 8 a1.toNatClampNeg)) + 1) else (if (S.1 4 a1.toNatClampNeg) = 3 then some (((2 * a2) + (S.1 8 a1.toNatClampNeg)) + (1 + ((S.1 6 a1.toNatClampNeg) - (S.1 6 a1.toNatClampNeg) / 10 * 10))) else some (((2 * a2) + (S.1 8 a1.toNatClampNeg)) + 0))) else none)
set_option maxRecDepth 100000 in
theorem cm_placeOf (l : Launch) (N : Nat) (S : mS) (a1 : Int32) (a2 : Int32) (res : Int32) (hf : mf_placeOf N S a1 a2 = some res) : mMi l yX12_placeOf cX12_placeOf 3 .int 1 (fun g => [.ref (mr g 0), .int a1, .int a2]) S res S := by
  refine mMi_of (own := RX12) (by decide) rfl rfl (fun g => Nat.le_of_ble_eq_true rfl) ?_
  intro p e R s m args below meth c Q g A H0 H locs ls hc hR hml hw hl hQ
  have hl : lv_has ls 3 [(0, .ref (mr g 0)), (1, .int a1), (2, .int a2)] := hl
  have hx := hc.1
  have hb := hc.2.1
  unfold mf_placeOf at hf
  refine lv_iconst (v := 2) hx hb dX12_placeOf_0 (by decide) ?_
  refine lv_iload_n hx hb dX12_placeOf_1 rfl (lv_at hl 2 rfl) ?_
  refine lv_imul hx hb dX12_placeOf_2 ?_
  refine lv_aload_n hx hb dX12_placeOf_3 rfl (lv_at hl 0 rfl) ?_
  refine m_g8 hc hw dX12_placeOf_4 ?_
  refine lv_iload_n hx hb dX12_placeOf_7 rfl (lv_at hl 1 rfl) ?_
  obtain ⟨hi1, hf⟩ := gd_some hf
  refine m_l8 hc hw (ok_in hi1) dX12_placeOf_8 ?_
  refine lv_iadd hx hb dX12_placeOf_9 ?_
  refine lv_aload_n hx hb dX12_placeOf_10 rfl (lv_at hl 0 rfl) ?_
  refine m_g4 hc hw dX12_placeOf_11 ?_
  refine lv_iload_n hx hb dX12_placeOf_14 rfl (lv_at hl 1 rfl) ?_
  refine m_l4 hc hw (ok_in hi1) dX12_placeOf_15 ?_
  refine lv_iconst (v := 1) hx hb dX12_placeOf_16 (by decide) ?_
  refine lv_icmp_ne (tgt := 24) hx hb dX12_placeOf_17 (by decide) (fun cn2 => ?_) (fun cn2 => ?_)
  · have hf := (if_neg cn2).symm.trans hf
    refine lv_aload_n hx hb dX12_placeOf_24 rfl (lv_at hl 0 rfl) ?_
    refine m_g4 hc hw dX12_placeOf_25 ?_
    refine lv_iload_n hx hb dX12_placeOf_28 rfl (lv_at hl 1 rfl) ?_
    refine m_l4 hc hw (ok_in hi1) dX12_placeOf_29 ?_
    refine lv_iconst (v := 3) hx hb dX12_placeOf_30 (by decide) ?_
    refine lv_icmp_ne (tgt := 48) hx hb dX12_placeOf_31 (by decide) (fun cn3 => ?_) (fun cn3 => ?_)
    · have hf := (if_neg cn3).symm.trans hf
      refine lv_iconst (v := 0) hx hb dX12_placeOf_48 (by decide) ?_
      refine lv_iadd hx hb dX12_placeOf_49 ?_
      obtain rfl := Option.some.inj hf
      exact hQ _ _ _ _ dX12_placeOf_50 hw
    · have hf := (if_pos cn3).symm.trans hf
      refine lv_iconst (v := 1) hx hb dX12_placeOf_34 (by decide) ?_
      refine lv_aload_n hx hb dX12_placeOf_35 rfl (lv_at hl 0 rfl) ?_
      refine m_g6 hc hw dX12_placeOf_36 ?_
      refine lv_iload_n hx hb dX12_placeOf_39 rfl (lv_at hl 1 rfl) ?_
      refine m_l6 hc hw (ok_in hi1) dX12_placeOf_40 ?_
      refine lv_bipush (v := 10) hx hb dX12_placeOf_41 (by decide) ?_
      refine lv_irem hx hb dX12_placeOf_43 (by decide) ?_
      refine lv_iadd hx hb dX12_placeOf_44 ?_
      refine lv_goto (tgt := 49) hx hb dX12_placeOf_45 (by decide) ?_
      refine lv_iadd hx hb dX12_placeOf_49 ?_
      obtain rfl := Option.some.inj hf
      exact hQ _ _ _ _ dX12_placeOf_50 hw
  · have hf := (if_pos cn2).symm.trans hf
    refine lv_iconst (v := 1) hx hb dX12_placeOf_20 (by decide) ?_
    refine lv_goto (tgt := 49) hx hb dX12_placeOf_21 (by decide) ?_
    refine lv_iadd hx hb dX12_placeOf_49 ?_
    obtain rfl := Option.some.inj hf
    exact hQ _ _ _ _ dX12_placeOf_50 hw
theorem mq_placeOf : qCv RX12 182 yX12_placeOf cX12_placeOf 3 (some .int) 2 := ⟨⟨(mem_g 1356 (by decide +kernel) rfl), (mem_g 1358 (by decide +kernel) rfl), (mem_g 36 (by decide +kernel) rfl), (mem_g 89 (by decide +kernel) rfl), (mem_g 1359 (by decide +kernel) rfl)⟩, by decide, by decide +kernel, by decide⟩
def mf_floorOf (N : Nat) (S : mS) (a1 : Int32) : Option (Int32) := (if ok a1 6 then (if (S.1 4 a1.toNatClampNeg) = 2 then some ((S.1 7 a1.toNatClampNeg) + (S.1 6 a1.toNatClampNeg)) else (if (S.1 4 a1.toNatClampNeg) = 4 then some ((S.1 7 a1.toNatClampNeg) + (3 * (S.1 6 a1.toNatClampNeg))) else some ((S.1 7 a1.toNatClampNeg) + 0))) else none)
set_option maxRecDepth 100000 in
theorem cm_floorOf (l : Launch) (N : Nat) (S : mS) (a1 : Int32) (res : Int32) (hf : mf_floorOf N S a1 = some res) : mMi l yX12_floorOf cX12_floorOf 2 .int 1 (fun g => [.ref (mr g 0), .int a1]) S res S := by
  refine mMi_of (own := RX12) (by decide) rfl rfl (fun g => Nat.le_of_ble_eq_true rfl) ?_
  intro p e R s m args below meth c Q g A H0 H locs ls hc hR hml hw hl hQ
  have hl : lv_has ls 2 [(0, .ref (mr g 0)), (1, .int a1)] := hl
  have hx := hc.1
  have hb := hc.2.1
  unfold mf_floorOf at hf
  refine lv_aload_n hx hb dX12_floorOf_0 rfl (lv_at hl 0 rfl) ?_
  refine m_g7 hc hw dX12_floorOf_1 ?_
  refine lv_iload_n hx hb dX12_floorOf_4 rfl (lv_at hl 1 rfl) ?_
  obtain ⟨hi1, hf⟩ := gd_some hf
  refine m_l7 hc hw (ok_in hi1) dX12_floorOf_5 ?_
  refine lv_aload_n hx hb dX12_floorOf_6 rfl (lv_at hl 0 rfl) ?_
  refine m_g4 hc hw dX12_floorOf_7 ?_
  refine lv_iload_n hx hb dX12_floorOf_10 rfl (lv_at hl 1 rfl) ?_
  refine m_l4 hc hw (ok_in hi1) dX12_floorOf_11 ?_
  refine lv_iconst (v := 2) hx hb dX12_floorOf_12 (by decide) ?_
  refine lv_icmp_ne (tgt := 25) hx hb dX12_floorOf_13 (by decide) (fun cn2 => ?_) (fun cn2 => ?_)
  · have hf := (if_neg cn2).symm.trans hf
    refine lv_aload_n hx hb dX12_floorOf_25 rfl (lv_at hl 0 rfl) ?_
    refine m_g4 hc hw dX12_floorOf_26 ?_
    refine lv_iload_n hx hb dX12_floorOf_29 rfl (lv_at hl 1 rfl) ?_
    refine m_l4 hc hw (ok_in hi1) dX12_floorOf_30 ?_
    refine lv_iconst (v := 4) hx hb dX12_floorOf_31 (by decide) ?_
    refine lv_icmp_ne (tgt := 46) hx hb dX12_floorOf_32 (by decide) (fun cn3 => ?_) (fun cn3 => ?_)
    · have hf := (if_neg cn3).symm.trans hf
      refine lv_iconst (v := 0) hx hb dX12_floorOf_46 (by decide) ?_
      refine lv_iadd hx hb dX12_floorOf_47 ?_
      obtain rfl := Option.some.inj hf
      exact hQ _ _ _ _ dX12_floorOf_48 hw
    · have hf := (if_pos cn3).symm.trans hf
      refine lv_iconst (v := 3) hx hb dX12_floorOf_35 (by decide) ?_
      refine lv_aload_n hx hb dX12_floorOf_36 rfl (lv_at hl 0 rfl) ?_
      refine m_g6 hc hw dX12_floorOf_37 ?_
      refine lv_iload_n hx hb dX12_floorOf_40 rfl (lv_at hl 1 rfl) ?_
      refine m_l6 hc hw (ok_in hi1) dX12_floorOf_41 ?_
      refine lv_imul hx hb dX12_floorOf_42 ?_
      refine lv_goto (tgt := 47) hx hb dX12_floorOf_43 (by decide) ?_
      refine lv_iadd hx hb dX12_floorOf_47 ?_
      obtain rfl := Option.some.inj hf
      exact hQ _ _ _ _ dX12_floorOf_48 hw
  · have hf := (if_pos cn2).symm.trans hf
    refine lv_aload_n hx hb dX12_floorOf_16 rfl (lv_at hl 0 rfl) ?_
    refine m_g6 hc hw dX12_floorOf_17 ?_
    refine lv_iload_n hx hb dX12_floorOf_20 rfl (lv_at hl 1 rfl) ?_
    refine m_l6 hc hw (ok_in hi1) dX12_floorOf_21 ?_
    refine lv_goto (tgt := 47) hx hb dX12_floorOf_22 (by decide) ?_
    refine lv_iadd hx hb dX12_floorOf_47 ?_
    obtain rfl := Option.some.inj hf
    exact hQ _ _ _ _ dX12_floorOf_48 hw
theorem mq_floorOf : qCv RX12 171 yX12_floorOf cX12_floorOf 2 (some .int) 1 := ⟨⟨(mem_g 1360 (by decide +kernel) rfl), (mem_g 1362 (by decide +kernel) rfl), (mem_g 37 (by decide +kernel) rfl), (mem_g 89 (by decide +kernel) rfl), (mem_g 1363 (by decide +kernel) rfl)⟩, by decide, by decide +kernel, by decide⟩
def mf_farOf (N : Nat) (S : mS) (a1 : Int32) : Option (Int32) := (if ok a1 6 then (if (S.1 4 a1.toNatClampNeg) = 3 then some ((10 + (10 * a1)) - 3) else some ((10 + (10 * a1)) - 0)) else none)
set_option maxRecDepth 100000 in
theorem cm_farOf (l : Launch) (N : Nat) (S : mS) (a1 : Int32) (res : Int32) (hf : mf_farOf N S a1 = some res) : mMi l yX12_farOf cX12_farOf 2 .int 1 (fun g => [.ref (mr g 0), .int a1]) S res S := by
  refine mMi_of (own := RX12) (by decide) rfl rfl (fun g => Nat.le_of_ble_eq_true rfl) ?_
  intro p e R s m args below meth c Q g A H0 H locs ls hc hR hml hw hl hQ
  have hl : lv_has ls 2 [(0, .ref (mr g 0)), (1, .int a1)] := hl
  have hx := hc.1
  have hb := hc.2.1
  unfold mf_farOf at hf
  refine lv_bipush (v := 10) hx hb dX12_farOf_0 (by decide) ?_
  refine lv_bipush (v := 10) hx hb dX12_farOf_2 (by decide) ?_
  refine lv_iload_n hx hb dX12_farOf_4 rfl (lv_at hl 1 rfl) ?_
  refine lv_imul hx hb dX12_farOf_5 ?_
  refine lv_iadd hx hb dX12_farOf_6 ?_
  refine lv_aload_n hx hb dX12_farOf_7 rfl (lv_at hl 0 rfl) ?_
  refine m_g4 hc hw dX12_farOf_8 ?_
  refine lv_iload_n hx hb dX12_farOf_11 rfl (lv_at hl 1 rfl) ?_
  obtain ⟨hi1, hf⟩ := gd_some hf
  refine m_l4 hc hw (ok_in hi1) dX12_farOf_12 ?_
  refine lv_iconst (v := 3) hx hb dX12_farOf_13 (by decide) ?_
  refine lv_icmp_ne (tgt := 21) hx hb dX12_farOf_14 (by decide) (fun cn2 => ?_) (fun cn2 => ?_)
  · have hf := (if_neg cn2).symm.trans hf
    refine lv_iconst (v := 0) hx hb dX12_farOf_21 (by decide) ?_
    refine lv_isub hx hb dX12_farOf_22 ?_
    obtain rfl := Option.some.inj hf
    exact hQ _ _ _ _ dX12_farOf_23 hw
  · have hf := (if_pos cn2).symm.trans hf
    refine lv_iconst (v := 3) hx hb dX12_farOf_17 (by decide) ?_
    refine lv_goto (tgt := 22) hx hb dX12_farOf_18 (by decide) ?_
    refine lv_isub hx hb dX12_farOf_22 ?_
    obtain rfl := Option.some.inj hf
    exact hQ _ _ _ _ dX12_farOf_23 hw
theorem mq_farOf : qCv RX12 185 yX12_farOf cX12_farOf 2 (some .int) 1 := ⟨⟨(mem_g 1364 (by decide +kernel) rfl), (mem_g 1366 (by decide +kernel) rfl), (mem_g 38 (by decide +kernel) rfl), (mem_g 89 (by decide +kernel) rfl), (mem_g 1367 (by decide +kernel) rfl)⟩, by decide, by decide +kernel, by decide⟩
def mf_isAmong (N : Nat) (S : mS) (a1 : Int32) : Option (Bool) := (if ok a1 6 then (if (S.1 4 a1.toNatClampNeg) = 4 then some false else some true) else none)
set_option maxRecDepth 100000 in
theorem cm_isAmong (l : Launch) (N : Nat) (S : mS) (a1 : Int32) (res : Bool) (hf : mf_isAmong N S a1 = some res) : mMi l yX12_isAmong cX12_isAmong 2 .boolean 1 (fun g => [.ref (mr g 0), .int a1]) S (bi res) S := by
  refine mMi_of (own := RX12) (by decide) rfl (narrow_bi _) (fun g => Nat.le_of_ble_eq_true rfl) ?_
  intro p e R s m args below meth c Q g A H0 H locs ls hc hR hml hw hl hQ
  have hl : lv_has ls 2 [(0, .ref (mr g 0)), (1, .int a1)] := hl
  have hx := hc.1
  have hb := hc.2.1
  unfold mf_isAmong at hf
  refine lv_aload_n hx hb dX12_isAmong_0 rfl (lv_at hl 0 rfl) ?_
  refine m_g4 hc hw dX12_isAmong_1 ?_
  refine lv_iload_n hx hb dX12_isAmong_4 rfl (lv_at hl 1 rfl) ?_
  obtain ⟨hi1, hf⟩ := gd_some hf
  refine m_l4 hc hw (ok_in hi1) dX12_isAmong_5 ?_
  refine lv_iconst (v := 4) hx hb dX12_isAmong_6 (by decide) ?_
  refine lv_icmp_eq (tgt := 14) hx hb dX12_isAmong_7 (by decide) (fun cn2 => ?_) (fun cn2 => ?_)
  · have hf := (if_pos cn2).symm.trans hf
    refine lv_iconst (v := 0) hx hb dX12_isAmong_14 (by decide) ?_
    obtain rfl := Option.some.inj hf
    exact hQ _ _ _ _ dX12_isAmong_15 hw
  · have hf := (if_neg cn2).symm.trans hf
    refine lv_iconst (v := 1) hx hb dX12_isAmong_10 (by decide) ?_
    refine lv_goto (tgt := 15) hx hb dX12_isAmong_11 (by decide) ?_
    obtain rfl := Option.some.inj hf
    exact hQ _ _ _ _ dX12_isAmong_15 hw
theorem mq_isAmong : qCv RX12 194 yX12_isAmong cX12_isAmong 2 (some .boolean) 1 := ⟨⟨(mem_g 1380 (by decide +kernel) rfl), (mem_g 1382 (by decide +kernel) rfl), (mem_g 42 (by decide +kernel) rfl), (mem_g 89 (by decide +kernel) rfl), (mem_g 1383 (by decide +kernel) rfl)⟩, by decide, by decide +kernel, by decide⟩
def mf_count (S : mS) (a1 : Int32) : Int32 := (if a1 = 0 then S.1 3 0 else (if a1 = 1 then S.1 10 0 else (if a1 = 2 then S.1 14 0 else (if a1 = 3 then S.1 21 0 else (if a1 = 4 then S.1 22 0 else (if a1 = 5 then S.1 18 0 else (-2)))))))
set_option maxRecDepth 100000 in
theorem cm_count (l : Launch) (S : mS) (a1 : Int32) (res : Int32) (hf : mf_count S a1 = res) : mMi l yX12_count cX12_count 2 .int 1 (fun g => [.ref (mr g 0), .int a1]) S res S := by
  refine mMi_of (own := RX12) (by decide) rfl rfl (fun g => Nat.le_of_ble_eq_true rfl) ?_
  intro p e R s m args below meth c Q g A H0 H locs ls hc hR hml hw hl hQ
  have hl : lv_has ls 2 [(0, .ref (mr g 0)), (1, .int a1)] := hl
  have hx := hc.1
  have hb := hc.2.1
  unfold mf_count at hf
  refine lv_iload_n hx hb dX12_count_0 rfl (lv_at hl 1 rfl) ?_
  by_cases cn1 : a1 = 0
  · have hf := (if_pos cn1).symm.trans hf
    refine lv_tableIn (tgt := 40) (off := 39) hx hb dX12_count_1 (by rw [cn1]; decide) (by rw [cn1]; decide) (by rw [cn1]; decide) (by decide) ?_
    refine lv_aload_n hx hb dX12_count_40 rfl (lv_at hl 0 rfl) ?_
    refine m_g3 hc hw dX12_count_41 ?_
    obtain rfl := hf
    exact hQ _ _ _ _ dX12_count_44 hw
  have hf := (if_neg cn1).symm.trans hf
  by_cases cn2 : a1 = 1
  · have hf := (if_pos cn2).symm.trans hf
    refine lv_tableIn (tgt := 45) (off := 44) hx hb dX12_count_1 (by rw [cn2]; decide) (by rw [cn2]; decide) (by rw [cn2]; decide) (by decide) ?_
    refine lv_aload_n hx hb dX12_count_45 rfl (lv_at hl 0 rfl) ?_
    refine m_g10 hc hw dX12_count_46 ?_
    obtain rfl := hf
    exact hQ _ _ _ _ dX12_count_49 hw
  have hf := (if_neg cn2).symm.trans hf
  by_cases cn3 : a1 = 2
  · have hf := (if_pos cn3).symm.trans hf
    refine lv_tableIn (tgt := 50) (off := 49) hx hb dX12_count_1 (by rw [cn3]; decide) (by rw [cn3]; decide) (by rw [cn3]; decide) (by decide) ?_
    refine lv_aload_n hx hb dX12_count_50 rfl (lv_at hl 0 rfl) ?_
    refine m_g14 hc hw dX12_count_51 ?_
    obtain rfl := hf
    exact hQ _ _ _ _ dX12_count_54 hw
  have hf := (if_neg cn3).symm.trans hf
  by_cases cn4 : a1 = 3
  · have hf := (if_pos cn4).symm.trans hf
    refine lv_tableIn (tgt := 55) (off := 54) hx hb dX12_count_1 (by rw [cn4]; decide) (by rw [cn4]; decide) (by rw [cn4]; decide) (by decide) ?_
    refine lv_aload_n hx hb dX12_count_55 rfl (lv_at hl 0 rfl) ?_
    refine m_g21 hc hw dX12_count_56 ?_
    obtain rfl := hf
    exact hQ _ _ _ _ dX12_count_59 hw
  have hf := (if_neg cn4).symm.trans hf
  by_cases cn5 : a1 = 4
  · have hf := (if_pos cn5).symm.trans hf
    refine lv_tableIn (tgt := 60) (off := 59) hx hb dX12_count_1 (by rw [cn5]; decide) (by rw [cn5]; decide) (by rw [cn5]; decide) (by decide) ?_
    refine lv_aload_n hx hb dX12_count_60 rfl (lv_at hl 0 rfl) ?_
    refine m_g22 hc hw dX12_count_61 ?_
    obtain rfl := hf
    exact hQ _ _ _ _ dX12_count_64 hw
  have hf := (if_neg cn5).symm.trans hf
  by_cases cn6 : a1 = 5
  · have hf := (if_pos cn6).symm.trans hf
    refine lv_tableIn (tgt := 65) (off := 64) hx hb dX12_count_1 (by rw [cn6]; decide) (by rw [cn6]; decide) (by rw [cn6]; decide) (by decide) ?_
    refine lv_aload_n hx hb dX12_count_65 rfl (lv_at hl 0 rfl) ?_
    refine m_g18 hc hw dX12_count_66 ?_
    obtain rfl := hf
    exact hQ _ _ _ _ dX12_count_69 hw
  have hf := (if_neg cn6).symm.trans hf
  refine lv_tableOut (tgt := 70) hx hb dX12_count_1 (by have hcn1 := sw_ne cn1 (k := 0) (by decide); have hcn2 := sw_ne cn2 (k := 1) (by decide); have hcn3 := sw_ne cn3 (k := 2) (by decide); have hcn4 := sw_ne cn4 (k := 3) (by decide); have hcn5 := sw_ne cn5 (k := 4) (by decide); have hcn6 := sw_ne cn6 (k := 5) (by decide); omega) (by decide) ?_
  refine lv_bipush (v := (-2)) hx hb dX12_count_70 (by decide) ?_
  obtain rfl := hf
  exact hQ _ _ _ _ dX12_count_72 hw
def mf_rank (a1 : Int32) : Int32 := (if a1 = 0 then 0 else (if a1 = 11 then 1 else (if a1 = 12 then 2 else (if a1 = 13 then 3 else (if 15 < a1 then (if 17 < a1 then (if a1 = 18 then 6 else 7) else 5) else 4)))))
set_option maxRecDepth 100000 in
theorem cm_rank (l : Launch) (S : mS) (a1 : Int32) (res : Int32) (hf : mf_rank a1 = res) : mMi l yX12_rank cX12_rank 1 .int 1 (fun g => [.int a1]) S res S := by
  refine mMi_of (own := RX12) (by decide) rfl rfl (fun g => Nat.le_of_ble_eq_true rfl) ?_
  intro p e R s m args below meth c Q g A H0 H locs ls hc hR hml hw hl hQ
  have hl : lv_has ls 1 [(0, .int a1)] := hl
  have hx := hc.1
  have hb := hc.2.1
  unfold mf_rank at hf
  refine lv_iload_n hx hb dX12_rank_0 rfl (lv_at hl 0 rfl) ?_
  refine lv_if_ne (tgt := 8) hx hb dX12_rank_1 (by decide) (fun cn1 => ?_) (fun cn1 => ?_)
  · have hf := (if_neg cn1).symm.trans hf
    refine lv_iload_n hx hb dX12_rank_8 rfl (lv_at hl 0 rfl) ?_
    refine lv_bipush (v := 11) hx hb dX12_rank_9 (by decide) ?_
    refine lv_icmp_ne (tgt := 18) hx hb dX12_rank_11 (by decide) (fun cn2 => ?_) (fun cn2 => ?_)
    · have hf := (if_neg cn2).symm.trans hf
      refine lv_iload_n hx hb dX12_rank_18 rfl (lv_at hl 0 rfl) ?_
      refine lv_bipush (v := 12) hx hb dX12_rank_19 (by decide) ?_
      refine lv_icmp_ne (tgt := 28) hx hb dX12_rank_21 (by decide) (fun cn3 => ?_) (fun cn3 => ?_)
      · have hf := (if_neg cn3).symm.trans hf
        refine lv_iload_n hx hb dX12_rank_28 rfl (lv_at hl 0 rfl) ?_
        refine lv_bipush (v := 13) hx hb dX12_rank_29 (by decide) ?_
        refine lv_icmp_ne (tgt := 38) hx hb dX12_rank_31 (by decide) (fun cn4 => ?_) (fun cn4 => ?_)
        · have hf := (if_neg cn4).symm.trans hf
          refine lv_iload_n hx hb dX12_rank_38 rfl (lv_at hl 0 rfl) ?_
          refine lv_bipush (v := 15) hx hb dX12_rank_39 (by decide) ?_
          refine lv_icmp_gt (tgt := 48) hx hb dX12_rank_41 (by decide) (fun cn5 => ?_) (fun cn5 => ?_)
          · have hf := (if_pos cn5).symm.trans hf
            refine lv_iload_n hx hb dX12_rank_48 rfl (lv_at hl 0 rfl) ?_
            refine lv_bipush (v := 17) hx hb dX12_rank_49 (by decide) ?_
            refine lv_icmp_gt (tgt := 58) hx hb dX12_rank_51 (by decide) (fun cn6 => ?_) (fun cn6 => ?_)
            · have hf := (if_pos cn6).symm.trans hf
              refine lv_iload_n hx hb dX12_rank_58 rfl (lv_at hl 0 rfl) ?_
              refine lv_bipush (v := 18) hx hb dX12_rank_59 (by decide) ?_
              refine lv_icmp_ne (tgt := 69) hx hb dX12_rank_61 (by decide) (fun cn7 => ?_) (fun cn7 => ?_)
              · have hf := (if_neg cn7).symm.trans hf
                refine lv_bipush (v := 7) hx hb dX12_rank_69 (by decide) ?_
                obtain rfl := hf
                exact hQ _ _ _ _ dX12_rank_71 hw
              · have hf := (if_pos cn7).symm.trans hf
                refine lv_bipush (v := 6) hx hb dX12_rank_64 (by decide) ?_
                refine lv_goto (tgt := 71) hx hb dX12_rank_66 (by decide) ?_
                obtain rfl := hf
                exact hQ _ _ _ _ dX12_rank_71 hw
            · have hf := (if_neg cn6).symm.trans hf
              refine lv_iconst (v := 5) hx hb dX12_rank_54 (by decide) ?_
              refine lv_goto (tgt := 71) hx hb dX12_rank_55 (by decide) ?_
              obtain rfl := hf
              exact hQ _ _ _ _ dX12_rank_71 hw
          · have hf := (if_neg cn5).symm.trans hf
            refine lv_iconst (v := 4) hx hb dX12_rank_44 (by decide) ?_
            refine lv_goto (tgt := 71) hx hb dX12_rank_45 (by decide) ?_
            obtain rfl := hf
            exact hQ _ _ _ _ dX12_rank_71 hw
        · have hf := (if_pos cn4).symm.trans hf
          refine lv_iconst (v := 3) hx hb dX12_rank_34 (by decide) ?_
          refine lv_goto (tgt := 71) hx hb dX12_rank_35 (by decide) ?_
          obtain rfl := hf
          exact hQ _ _ _ _ dX12_rank_71 hw
      · have hf := (if_pos cn3).symm.trans hf
        refine lv_iconst (v := 2) hx hb dX12_rank_24 (by decide) ?_
        refine lv_goto (tgt := 71) hx hb dX12_rank_25 (by decide) ?_
        obtain rfl := hf
        exact hQ _ _ _ _ dX12_rank_71 hw
    · have hf := (if_pos cn2).symm.trans hf
      refine lv_iconst (v := 1) hx hb dX12_rank_14 (by decide) ?_
      refine lv_goto (tgt := 71) hx hb dX12_rank_15 (by decide) ?_
      obtain rfl := hf
      exact hQ _ _ _ _ dX12_rank_71 hw
  · have hf := (if_pos cn1).symm.trans hf
    refine lv_iconst (v := 0) hx hb dX12_rank_4 (by decide) ?_
    refine lv_goto (tgt := 71) hx hb dX12_rank_5 (by decide) ?_
    obtain rfl := hf
    exact hQ _ _ _ _ dX12_rank_71 hw
theorem mq_rank : qCs RX12 233 yX12_rank cX12_rank 1 (some .int) 1 := ⟨⟨(mem_g 1430 (by decide +kernel) rfl), (mem_g 1431 (by decide +kernel) rfl), (mem_g 89 (by decide +kernel) rfl), (mem_g 1432 (by decide +kernel) rfl)⟩, by decide, by decide +kernel, by decide⟩
def mf_puts (N : Nat) (S : mS) (a1 : Int32) : Option (mS) := (if ok ((200 * (S.1 21 0)) + (S.1 48 0)) 1200 then some (ms (ms S 19 ((200 * (S.1 21 0)) + (S.1 48 0)).toNatClampNeg a1) 48 0 (((ms S 19 ((200 * (S.1 21 0)) + (S.1 48 0)).toNatClampNeg a1).1 48 0) + 1)) else none)
set_option maxRecDepth 100000 in
theorem cm_puts (l : Launch) (N : Nat) (S : mS) (a1 : Int32) (S1 : mS) (hf : mf_puts N S a1 = some S1) : mMv l yX12_puts cX12_puts 2 1 (fun g => [.ref (mr g 0), .int a1]) S S1 := by
  refine mMv_of (own := RX12) (by decide) rfl (fun g => Nat.le_of_ble_eq_true rfl) ?_
  intro p e R s m args below meth c Q g A H0 H locs ls hc hR hml hw hl hQ
  have hl : lv_has ls 2 [(0, .ref (mr g 0)), (1, .int a1)] := hl
  have hx := hc.1
  have hb := hc.2.1
  unfold mf_puts at hf
  refine lv_aload_n hx hb dX12_puts_0 rfl (lv_at hl 0 rfl) ?_
  refine m_g19 hc hw dX12_puts_1 ?_
  refine lv_sipush (v := 200) hx hb dX12_puts_4 (by decide) ?_
  refine lv_aload_n hx hb dX12_puts_7 rfl (lv_at hl 0 rfl) ?_
  refine m_g21 hc hw dX12_puts_8 ?_
  refine lv_imul hx hb dX12_puts_11 ?_
  refine lv_aload_n hx hb dX12_puts_12 rfl (lv_at hl 0 rfl) ?_
  refine m_g48 hc hw dX12_puts_13 ?_
  refine lv_iadd hx hb dX12_puts_16 ?_
  refine lv_iload_n hx hb dX12_puts_17 rfl (lv_at hl 1 rfl) ?_
  obtain ⟨hi1, hf⟩ := gd_some hf
  refine m_s19 hc hw (ok_in hi1) dX12_puts_18 (fun H locs hw => ?_)
  refine lv_aload_n hx hb dX12_puts_19 rfl (lv_at hl 0 rfl) ?_
  refine lv_dup hx hb dX12_puts_20 rfl ?_
  refine m_g48 hc hw dX12_puts_21 ?_
  refine lv_iconst (v := 1) hx hb dX12_puts_24 (by decide) ?_
  refine lv_iadd hx hb dX12_puts_25 ?_
  refine m_p48 hc hw dX12_puts_26 (fun H locs hw => ?_)
  obtain rfl := Option.some.inj hf
  exact hQ _ _ _ _ dX12_puts_29 hw
theorem mq_puts : qCv RX12 239 yX12_puts cX12_puts 2 none 1 := ⟨⟨(mem_g 1422 (by decide +kernel) rfl), (mem_g 1424 (by decide +kernel) rfl), (mem_g 46 (by decide +kernel) rfl), (mem_g 89 (by decide +kernel) rfl), (mem_g 1425 (by decide +kernel) rfl)⟩, by decide, by decide +kernel, by decide⟩
def mf_holds (N : Nat) (S : mS) (a1 : Int32) : Option (mS) := (if ok (S.1 46 0) 200 then some (ms (ms S 45 (S.1 46 0).toNatClampNeg a1) 46 0 (((ms S 45 (S.1 46 0).toNatClampNeg a1).1 46 0) + 1)) else none)
set_option maxRecDepth 100000 in
theorem cm_holds (l : Launch) (N : Nat) (S : mS) (a1 : Int32) (S1 : mS) (hf : mf_holds N S a1 = some S1) : mMv l yX12_holds cX12_holds 2 1 (fun g => [.ref (mr g 0), .int a1]) S S1 := by
  refine mMv_of (own := RX12) (by decide) rfl (fun g => Nat.le_of_ble_eq_true rfl) ?_
  intro p e R s m args below meth c Q g A H0 H locs ls hc hR hml hw hl hQ
  have hl : lv_has ls 2 [(0, .ref (mr g 0)), (1, .int a1)] := hl
  have hx := hc.1
  have hb := hc.2.1
  unfold mf_holds at hf
  refine lv_aload_n hx hb dX12_holds_0 rfl (lv_at hl 0 rfl) ?_
  refine m_g45 hc hw dX12_holds_1 ?_
  refine lv_aload_n hx hb dX12_holds_4 rfl (lv_at hl 0 rfl) ?_
  refine m_g46 hc hw dX12_holds_5 ?_
  refine lv_iload_n hx hb dX12_holds_8 rfl (lv_at hl 1 rfl) ?_
  obtain ⟨hi1, hf⟩ := gd_some hf
  refine m_s45 hc hw (ok_in hi1) dX12_holds_9 (fun H locs hw => ?_)
  refine lv_aload_n hx hb dX12_holds_10 rfl (lv_at hl 0 rfl) ?_
  refine lv_dup hx hb dX12_holds_11 rfl ?_
  refine m_g46 hc hw dX12_holds_12 ?_
  refine lv_iconst (v := 1) hx hb dX12_holds_15 (by decide) ?_
  refine lv_iadd hx hb dX12_holds_16 ?_
  refine m_p46 hc hw dX12_holds_17 (fun H locs hw => ?_)
  obtain rfl := Option.some.inj hf
  exact hQ _ _ _ _ dX12_holds_20 hw
theorem mq_holds : qCv RX12 243 yX12_holds cX12_holds 2 none 1 := ⟨⟨(mem_g 1437 (by decide +kernel) rfl), (mem_g 1439 (by decide +kernel) rfl), (mem_g 49 (by decide +kernel) rfl), (mem_g 89 (by decide +kernel) rfl), (mem_g 1440 (by decide +kernel) rfl)⟩, by decide, by decide +kernel, by decide⟩
def mf_signOf (S : mS) : Int32 := (if (S.1 42 0) = 4 then 11 else (if (S.1 42 0) = 5 then 12 else (if (S.1 42 0) = 60 then 14 else (if (S.1 42 0) = 61 then 15 else (if (S.1 42 0) = 43 then 16 else (if (S.1 42 0) = 45 then 17 else (if (S.1 42 0) = 42 then 18 else (-1))))))))
set_option maxRecDepth 100000 in
theorem cm_signOf (l : Launch) (S : mS) (res : Int32) (hf : mf_signOf S = res) : mMi l yX12_signOf cX12_signOf 1 .int 1 (fun g => [.ref (mr g 0)]) S res S := by
  refine mMi_of (own := RX12) (by decide) rfl rfl (fun g => Nat.le_of_ble_eq_true rfl) ?_
  intro p e R s m args below meth c Q g A H0 H locs ls hc hR hml hw hl hQ
  have hl : lv_has ls 1 [(0, .ref (mr g 0))] := hl
  have hx := hc.1
  have hb := hc.2.1
  unfold mf_signOf at hf
  refine lv_aload_n hx hb dX12_signOf_0 rfl (lv_at hl 0 rfl) ?_
  refine m_g42 hc hw dX12_signOf_1 ?_
  refine lv_iconst (v := 4) hx hb dX12_signOf_4 (by decide) ?_
  refine lv_icmp_ne (tgt := 13) hx hb dX12_signOf_5 (by decide) (fun cn1 => ?_) (fun cn1 => ?_)
  · have hf := (if_neg cn1).symm.trans hf
    refine lv_aload_n hx hb dX12_signOf_13 rfl (lv_at hl 0 rfl) ?_
    refine m_g42 hc hw dX12_signOf_14 ?_
    refine lv_iconst (v := 5) hx hb dX12_signOf_17 (by decide) ?_
    refine lv_icmp_ne (tgt := 26) hx hb dX12_signOf_18 (by decide) (fun cn2 => ?_) (fun cn2 => ?_)
    · have hf := (if_neg cn2).symm.trans hf
      refine lv_aload_n hx hb dX12_signOf_26 rfl (lv_at hl 0 rfl) ?_
      refine m_g42 hc hw dX12_signOf_27 ?_
      refine lv_bipush (v := 60) hx hb dX12_signOf_30 (by decide) ?_
      refine lv_icmp_ne (tgt := 40) hx hb dX12_signOf_32 (by decide) (fun cn3 => ?_) (fun cn3 => ?_)
      · have hf := (if_neg cn3).symm.trans hf
        refine lv_aload_n hx hb dX12_signOf_40 rfl (lv_at hl 0 rfl) ?_
        refine m_g42 hc hw dX12_signOf_41 ?_
        refine lv_bipush (v := 61) hx hb dX12_signOf_44 (by decide) ?_
        refine lv_icmp_ne (tgt := 54) hx hb dX12_signOf_46 (by decide) (fun cn4 => ?_) (fun cn4 => ?_)
        · have hf := (if_neg cn4).symm.trans hf
          refine lv_aload_n hx hb dX12_signOf_54 rfl (lv_at hl 0 rfl) ?_
          refine m_g42 hc hw dX12_signOf_55 ?_
          refine lv_bipush (v := 43) hx hb dX12_signOf_58 (by decide) ?_
          refine lv_icmp_ne (tgt := 68) hx hb dX12_signOf_60 (by decide) (fun cn5 => ?_) (fun cn5 => ?_)
          · have hf := (if_neg cn5).symm.trans hf
            refine lv_aload_n hx hb dX12_signOf_68 rfl (lv_at hl 0 rfl) ?_
            refine m_g42 hc hw dX12_signOf_69 ?_
            refine lv_bipush (v := 45) hx hb dX12_signOf_72 (by decide) ?_
            refine lv_icmp_ne (tgt := 82) hx hb dX12_signOf_74 (by decide) (fun cn6 => ?_) (fun cn6 => ?_)
            · have hf := (if_neg cn6).symm.trans hf
              refine lv_aload_n hx hb dX12_signOf_82 rfl (lv_at hl 0 rfl) ?_
              refine m_g42 hc hw dX12_signOf_83 ?_
              refine lv_bipush (v := 42) hx hb dX12_signOf_86 (by decide) ?_
              refine lv_icmp_ne (tgt := 96) hx hb dX12_signOf_88 (by decide) (fun cn7 => ?_) (fun cn7 => ?_)
              · have hf := (if_neg cn7).symm.trans hf
                refine lv_iconst (v := (-1)) hx hb dX12_signOf_96 (by decide) ?_
                obtain rfl := hf
                exact hQ _ _ _ _ dX12_signOf_97 hw
              · have hf := (if_pos cn7).symm.trans hf
                refine lv_bipush (v := 18) hx hb dX12_signOf_91 (by decide) ?_
                refine lv_goto (tgt := 97) hx hb dX12_signOf_93 (by decide) ?_
                obtain rfl := hf
                exact hQ _ _ _ _ dX12_signOf_97 hw
            · have hf := (if_pos cn6).symm.trans hf
              refine lv_bipush (v := 17) hx hb dX12_signOf_77 (by decide) ?_
              refine lv_goto (tgt := 97) hx hb dX12_signOf_79 (by decide) ?_
              obtain rfl := hf
              exact hQ _ _ _ _ dX12_signOf_97 hw
          · have hf := (if_pos cn5).symm.trans hf
            refine lv_bipush (v := 16) hx hb dX12_signOf_63 (by decide) ?_
            refine lv_goto (tgt := 97) hx hb dX12_signOf_65 (by decide) ?_
            obtain rfl := hf
            exact hQ _ _ _ _ dX12_signOf_97 hw
        · have hf := (if_pos cn4).symm.trans hf
          refine lv_bipush (v := 15) hx hb dX12_signOf_49 (by decide) ?_
          refine lv_goto (tgt := 97) hx hb dX12_signOf_51 (by decide) ?_
          obtain rfl := hf
          exact hQ _ _ _ _ dX12_signOf_97 hw
      · have hf := (if_pos cn3).symm.trans hf
        refine lv_bipush (v := 14) hx hb dX12_signOf_35 (by decide) ?_
        refine lv_goto (tgt := 97) hx hb dX12_signOf_37 (by decide) ?_
        obtain rfl := hf
        exact hQ _ _ _ _ dX12_signOf_97 hw
    · have hf := (if_pos cn2).symm.trans hf
      refine lv_bipush (v := 12) hx hb dX12_signOf_21 (by decide) ?_
      refine lv_goto (tgt := 97) hx hb dX12_signOf_23 (by decide) ?_
      obtain rfl := hf
      exact hQ _ _ _ _ dX12_signOf_97 hw
  · have hf := (if_pos cn1).symm.trans hf
    refine lv_bipush (v := 11) hx hb dX12_signOf_8 (by decide) ?_
    refine lv_goto (tgt := 97) hx hb dX12_signOf_10 (by decide) ?_
    obtain rfl := hf
    exact hQ _ _ _ _ dX12_signOf_97 hw
theorem mq_signOf : qCv RX12 256 yX12_signOf cX12_signOf 1 (some .int) 0 := ⟨⟨(mem_g 1441 (by decide +kernel) rfl), (mem_g 1443 (by decide +kernel) rfl), (mem_g 50 (by decide +kernel) rfl), (mem_g 89 (by decide +kernel) rfl), (mem_g 1444 (by decide +kernel) rfl)⟩, by decide, by decide +kernel, by decide⟩
def mf_two (a1 : Int32) (a2 : Int32) (a3 : Int32) : Int32 := (if a1 = 11 then (if a2 = 0 then (if a3 = 0 then 0 else 1) else 1) else (if a1 = 12 then (if a2 = 0 then 0 else (if a3 = 0 then 0 else 1)) else (if a1 = 14 then (if a3 ≤ a2 then 0 else 1) else (if a1 = 15 then (if a2 = a3 then 1 else 0) else (if a1 = 16 then a2 + a3 else (if a1 = 17 then a2 - a3 else a2 * a3))))))
set_option maxRecDepth 100000 in
theorem cm_two (l : Launch) (S : mS) (a1 : Int32) (a2 : Int32) (a3 : Int32) (res : Int32) (hf : mf_two a1 a2 a3 = res) : mMi l yX12_two cX12_two 3 .int 1 (fun g => [.int a1, .int a2, .int a3]) S res S := by
  refine mMi_of (own := RX12) (by decide) rfl rfl (fun g => Nat.le_of_ble_eq_true rfl) ?_
  intro p e R s m args below meth c Q g A H0 H locs ls hc hR hml hw hl hQ
  have hl : lv_has ls 3 [(0, .int a1), (1, .int a2), (2, .int a3)] := hl
  have hx := hc.1
  have hb := hc.2.1
  unfold mf_two at hf
  refine lv_iload_n hx hb dX12_two_0 rfl (lv_at hl 0 rfl) ?_
  by_cases cn3 : a1 = 11
  · have hf := (if_pos cn3).symm.trans hf
    refine lv_tableIn (tgt := 44) (off := 43) hx hb dX12_two_1 (by rw [cn3]; decide) (by rw [cn3]; decide) (by rw [cn3]; decide) (by decide) ?_
    refine lv_iload_n hx hb dX12_two_44 rfl (lv_at hl 1 rfl) ?_
    refine lv_if_ne (tgt := 52) hx hb dX12_two_45 (by decide) (fun cn1 => ?_) (fun cn1 => ?_)
    · have hf := (if_neg cn1).symm.trans hf
      refine lv_iconst (v := 1) hx hb dX12_two_52 (by decide) ?_
      refine lv_goto (tgt := 57) hx hb dX12_two_53 (by decide) ?_
      obtain rfl := hf
      exact hQ _ _ _ _ dX12_two_57 hw
    · have hf := (if_pos cn1).symm.trans hf
      refine lv_iload_n hx hb dX12_two_48 rfl (lv_at hl 2 rfl) ?_
      refine lv_if_eq (tgt := 56) hx hb dX12_two_49 (by decide) (fun cn2 => ?_) (fun cn2 => ?_)
      · have hf := (if_pos cn2).symm.trans hf
        refine lv_iconst (v := 0) hx hb dX12_two_56 (by decide) ?_
        obtain rfl := hf
        exact hQ _ _ _ _ dX12_two_57 hw
      · have hf := (if_neg cn2).symm.trans hf
        refine lv_iconst (v := 1) hx hb dX12_two_52 (by decide) ?_
        refine lv_goto (tgt := 57) hx hb dX12_two_53 (by decide) ?_
        obtain rfl := hf
        exact hQ _ _ _ _ dX12_two_57 hw
  have hf := (if_neg cn3).symm.trans hf
  by_cases cn6 : a1 = 12
  · have hf := (if_pos cn6).symm.trans hf
    refine lv_tableIn (tgt := 58) (off := 57) hx hb dX12_two_1 (by rw [cn6]; decide) (by rw [cn6]; decide) (by rw [cn6]; decide) (by decide) ?_
    refine lv_iload_n hx hb dX12_two_58 rfl (lv_at hl 1 rfl) ?_
    refine lv_if_eq (tgt := 70) hx hb dX12_two_59 (by decide) (fun cn4 => ?_) (fun cn4 => ?_)
    · have hf := (if_pos cn4).symm.trans hf
      refine lv_iconst (v := 0) hx hb dX12_two_70 (by decide) ?_
      obtain rfl := hf
      exact hQ _ _ _ _ dX12_two_71 hw
    · have hf := (if_neg cn4).symm.trans hf
      refine lv_iload_n hx hb dX12_two_62 rfl (lv_at hl 2 rfl) ?_
      refine lv_if_eq (tgt := 70) hx hb dX12_two_63 (by decide) (fun cn5 => ?_) (fun cn5 => ?_)
      · have hf := (if_pos cn5).symm.trans hf
        refine lv_iconst (v := 0) hx hb dX12_two_70 (by decide) ?_
        obtain rfl := hf
        exact hQ _ _ _ _ dX12_two_71 hw
      · have hf := (if_neg cn5).symm.trans hf
        refine lv_iconst (v := 1) hx hb dX12_two_66 (by decide) ?_
        refine lv_goto (tgt := 71) hx hb dX12_two_67 (by decide) ?_
        obtain rfl := hf
        exact hQ _ _ _ _ dX12_two_71 hw
  have hf := (if_neg cn6).symm.trans hf
  by_cases cn8 : a1 = 14
  · have hf := (if_pos cn8).symm.trans hf
    refine lv_tableIn (tgt := 72) (off := 71) hx hb dX12_two_1 (by rw [cn8]; decide) (by rw [cn8]; decide) (by rw [cn8]; decide) (by decide) ?_
    refine lv_iload_n hx hb dX12_two_72 rfl (lv_at hl 1 rfl) ?_
    refine lv_iload_n hx hb dX12_two_73 rfl (lv_at hl 2 rfl) ?_
    refine lv_icmp_ge (tgt := 81) hx hb dX12_two_74 (by decide) (fun cn7 => ?_) (fun cn7 => ?_)
    · have hf := (if_pos cn7).symm.trans hf
      refine lv_iconst (v := 0) hx hb dX12_two_81 (by decide) ?_
      obtain rfl := hf
      exact hQ _ _ _ _ dX12_two_82 hw
    · have hf := (if_neg cn7).symm.trans hf
      refine lv_iconst (v := 1) hx hb dX12_two_77 (by decide) ?_
      refine lv_goto (tgt := 82) hx hb dX12_two_78 (by decide) ?_
      obtain rfl := hf
      exact hQ _ _ _ _ dX12_two_82 hw
  have hf := (if_neg cn8).symm.trans hf
  by_cases cn10 : a1 = 15
  · have hf := (if_pos cn10).symm.trans hf
    refine lv_tableIn (tgt := 83) (off := 82) hx hb dX12_two_1 (by rw [cn10]; decide) (by rw [cn10]; decide) (by rw [cn10]; decide) (by decide) ?_
    refine lv_iload_n hx hb dX12_two_83 rfl (lv_at hl 1 rfl) ?_
    refine lv_iload_n hx hb dX12_two_84 rfl (lv_at hl 2 rfl) ?_
    refine lv_icmp_ne (tgt := 92) hx hb dX12_two_85 (by decide) (fun cn9 => ?_) (fun cn9 => ?_)
    · have hf := (if_neg cn9).symm.trans hf
      refine lv_iconst (v := 0) hx hb dX12_two_92 (by decide) ?_
      obtain rfl := hf
      exact hQ _ _ _ _ dX12_two_93 hw
    · have hf := (if_pos cn9).symm.trans hf
      refine lv_iconst (v := 1) hx hb dX12_two_88 (by decide) ?_
      refine lv_goto (tgt := 93) hx hb dX12_two_89 (by decide) ?_
      obtain rfl := hf
      exact hQ _ _ _ _ dX12_two_93 hw
  have hf := (if_neg cn10).symm.trans hf
  by_cases cn11 : a1 = 16
  · have hf := (if_pos cn11).symm.trans hf
    refine lv_tableIn (tgt := 94) (off := 93) hx hb dX12_two_1 (by rw [cn11]; decide) (by rw [cn11]; decide) (by rw [cn11]; decide) (by decide) ?_
    refine lv_iload_n hx hb dX12_two_94 rfl (lv_at hl 1 rfl) ?_
    refine lv_iload_n hx hb dX12_two_95 rfl (lv_at hl 2 rfl) ?_
    refine lv_iadd hx hb dX12_two_96 ?_
    obtain rfl := hf
    exact hQ _ _ _ _ dX12_two_97 hw
  have hf := (if_neg cn11).symm.trans hf
  by_cases cn12 : a1 = 17
  · have hf := (if_pos cn12).symm.trans hf
    refine lv_tableIn (tgt := 98) (off := 97) hx hb dX12_two_1 (by rw [cn12]; decide) (by rw [cn12]; decide) (by rw [cn12]; decide) (by decide) ?_
    refine lv_iload_n hx hb dX12_two_98 rfl (lv_at hl 1 rfl) ?_
    refine lv_iload_n hx hb dX12_two_99 rfl (lv_at hl 2 rfl) ?_
    refine lv_isub hx hb dX12_two_100 ?_
    obtain rfl := hf
    exact hQ _ _ _ _ dX12_two_101 hw
  have hf := (if_neg cn12).symm.trans hf
  by_cases cn13 : a1 = 13
  · refine lv_tableIn (tgt := 102) (off := 101) hx hb dX12_two_1 (by rw [cn13]; decide) (by rw [cn13]; decide) (by rw [cn13]; decide) (by decide) ?_
    refine lv_iload_n hx hb dX12_two_102 rfl (lv_at hl 1 rfl) ?_
    refine lv_iload_n hx hb dX12_two_103 rfl (lv_at hl 2 rfl) ?_
    refine lv_imul hx hb dX12_two_104 ?_
    obtain rfl := hf
    exact hQ _ _ _ _ dX12_two_105 hw
  refine lv_tableOut (tgt := 102) hx hb dX12_two_1 (by have hcn3 := sw_ne cn3 (k := 11) (by decide); have hcn6 := sw_ne cn6 (k := 12) (by decide); have hcn8 := sw_ne cn8 (k := 14) (by decide); have hcn10 := sw_ne cn10 (k := 15) (by decide); have hcn11 := sw_ne cn11 (k := 16) (by decide); have hcn12 := sw_ne cn12 (k := 17) (by decide); have hcn13 := sw_ne cn13 (k := 13) (by decide); omega) (by decide) ?_
  refine lv_iload_n hx hb dX12_two_102 rfl (lv_at hl 1 rfl) ?_
  refine lv_iload_n hx hb dX12_two_103 rfl (lv_at hl 2 rfl) ?_
  refine lv_imul hx hb dX12_two_104 ?_
  obtain rfl := hf
  exact hQ _ _ _ _ dX12_two_105 hw
theorem mq_two : qCs RX12 267 yX12_two cX12_two 3 (some .int) 3 := ⟨⟨(mem_g 1505 (by decide +kernel) rfl), (mem_g 1506 (by decide +kernel) rfl), (mem_g 89 (by decide +kernel) rfl), (mem_g 1507 (by decide +kernel) rfl)⟩, by decide, by decide +kernel, by decide⟩
def mf_names (N : Nat) (S : mS) (a1 : Int32) (a2 : Int32) (a3 : Int32) (a4 : Int32) (a5 : Int32) (a6 : Int32) : Option (mS) := some (ms (ms (ms (ms (ms (ms S 50 (0 : Int32).toNatClampNeg a1) 50 (1 : Int32).toNatClampNeg a2) 50 (2 : Int32).toNatClampNeg a3) 50 (3 : Int32).toNatClampNeg a4) 50 (4 : Int32).toNatClampNeg a5) 50 (5 : Int32).toNatClampNeg a6)
set_option maxRecDepth 100000 in
theorem cm_names (l : Launch) (N : Nat) (S : mS) (a1 : Int32) (a2 : Int32) (a3 : Int32) (a4 : Int32) (a5 : Int32) (a6 : Int32) (S1 : mS) (hf : mf_names N S a1 a2 a3 a4 a5 a6 = some S1) : mMv l yX12_names cX12_names 7 1 (fun g => [.ref (mr g 0), .int a1, .int a2, .int a3, .int a4, .int a5, .int a6]) S S1 := by
  refine mMv_of (own := RX12) (by decide) rfl (fun g => Nat.le_of_ble_eq_true rfl) ?_
  intro p e R s m args below meth c Q g A H0 H locs ls hc hR hml hw hl hQ
  have hl : lv_has ls 7 [(0, .ref (mr g 0)), (1, .int a1), (2, .int a2), (3, .int a3), (4, .int a4), (5, .int a5), (6, .int a6)] := hl
  have hx := hc.1
  have hb := hc.2.1
  unfold mf_names at hf
  refine lv_aload_n hx hb dX12_names_0 rfl (lv_at hl 0 rfl) ?_
  refine m_g50 hc hw dX12_names_1 ?_
  refine lv_iconst (v := 0) hx hb dX12_names_4 (by decide) ?_
  refine lv_iload_n hx hb dX12_names_5 rfl (lv_at hl 1 rfl) ?_
  refine m_s50 hc hw (ok_in (by decide)) dX12_names_6 (fun H locs hw => ?_)
  refine lv_aload_n hx hb dX12_names_7 rfl (lv_at hl 0 rfl) ?_
  refine m_g50 hc hw dX12_names_8 ?_
  refine lv_iconst (v := 1) hx hb dX12_names_11 (by decide) ?_
  refine lv_iload_n hx hb dX12_names_12 rfl (lv_at hl 2 rfl) ?_
  refine m_s50 hc hw (ok_in (by decide)) dX12_names_13 (fun H locs hw => ?_)
  refine lv_aload_n hx hb dX12_names_14 rfl (lv_at hl 0 rfl) ?_
  refine m_g50 hc hw dX12_names_15 ?_
  refine lv_iconst (v := 2) hx hb dX12_names_18 (by decide) ?_
  refine lv_iload_n hx hb dX12_names_19 rfl (lv_at hl 3 rfl) ?_
  refine m_s50 hc hw (ok_in (by decide)) dX12_names_20 (fun H locs hw => ?_)
  refine lv_aload_n hx hb dX12_names_21 rfl (lv_at hl 0 rfl) ?_
  refine m_g50 hc hw dX12_names_22 ?_
  refine lv_iconst (v := 3) hx hb dX12_names_25 (by decide) ?_
  refine lv_iload hx hb dX12_names_26 (lv_at hl 4 rfl) ?_
  refine m_s50 hc hw (ok_in (by decide)) dX12_names_28 (fun H locs hw => ?_)
  refine lv_aload_n hx hb dX12_names_29 rfl (lv_at hl 0 rfl) ?_
  refine m_g50 hc hw dX12_names_30 ?_
  refine lv_iconst (v := 4) hx hb dX12_names_33 (by decide) ?_
  refine lv_iload hx hb dX12_names_34 (lv_at hl 5 rfl) ?_
  refine m_s50 hc hw (ok_in (by decide)) dX12_names_36 (fun H locs hw => ?_)
  refine lv_aload_n hx hb dX12_names_37 rfl (lv_at hl 0 rfl) ?_
  refine m_g50 hc hw dX12_names_38 ?_
  refine lv_iconst (v := 5) hx hb dX12_names_41 (by decide) ?_
  refine lv_iload hx hb dX12_names_42 (lv_at hl 6 rfl) ?_
  refine m_s50 hc hw (ok_in (by decide)) dX12_names_44 (fun H locs hw => ?_)
  obtain rfl := Option.some.inj hf
  exact hQ _ _ _ _ dX12_names_45 hw
theorem mq_names : qCv RX12 291 yX12_names cX12_names 7 none 6 := ⟨⟨(mem_g 1497 (by decide +kernel) rfl), (mem_g 1499 (by decide +kernel) rfl), (mem_g 60 (by decide +kernel) rfl), (mem_g 89 (by decide +kernel) rfl), (mem_g 1500 (by decide +kernel) rfl)⟩, by decide, by decide +kernel, by decide⟩
def mf_stepOf (N : Nat) (S : mS) (a1 : Int32) : Option (Int32) := (if ok a1 6 then (if a1 = 0 then some ((S.1 7 a1.toNatClampNeg) - 0) else (if ok (a1 - 1) 6 then some ((S.1 7 a1.toNatClampNeg) - (S.1 7 (a1 - 1).toNatClampNeg)) else none)) else none)
set_option maxRecDepth 100000 in
theorem cm_stepOf (l : Launch) (N : Nat) (S : mS) (a1 : Int32) (res : Int32) (hf : mf_stepOf N S a1 = some res) : mMi l yX12_stepOf cX12_stepOf 2 .int 1 (fun g => [.ref (mr g 0), .int a1]) S res S := by
  refine mMi_of (own := RX12) (by decide) rfl rfl (fun g => Nat.le_of_ble_eq_true rfl) ?_
  intro p e R s m args below meth c Q g A H0 H locs ls hc hR hml hw hl hQ
  have hl : lv_has ls 2 [(0, .ref (mr g 0)), (1, .int a1)] := hl
  have hx := hc.1
  have hb := hc.2.1
  unfold mf_stepOf at hf
  refine lv_aload_n hx hb dX12_stepOf_0 rfl (lv_at hl 0 rfl) ?_
  refine m_g7 hc hw dX12_stepOf_1 ?_
  refine lv_iload_n hx hb dX12_stepOf_4 rfl (lv_at hl 1 rfl) ?_
  obtain ⟨hi1, hf⟩ := gd_some hf
  refine m_l7 hc hw (ok_in hi1) dX12_stepOf_5 ?_
  refine lv_iload_n hx hb dX12_stepOf_6 rfl (lv_at hl 1 rfl) ?_
  refine lv_if_ne (tgt := 14) hx hb dX12_stepOf_7 (by decide) (fun cn3 => ?_) (fun cn3 => ?_)
  · have hf := (if_neg cn3).symm.trans hf
    refine lv_aload_n hx hb dX12_stepOf_14 rfl (lv_at hl 0 rfl) ?_
    refine m_g7 hc hw dX12_stepOf_15 ?_
    refine lv_iload_n hx hb dX12_stepOf_18 rfl (lv_at hl 1 rfl) ?_
    refine lv_iconst (v := 1) hx hb dX12_stepOf_19 (by decide) ?_
    refine lv_isub hx hb dX12_stepOf_20 ?_
    obtain ⟨hi2, hf⟩ := gd_some hf
    refine m_l7 hc hw (ok_in hi2) dX12_stepOf_21 ?_
    refine lv_isub hx hb dX12_stepOf_22 ?_
    obtain rfl := Option.some.inj hf
    exact hQ _ _ _ _ dX12_stepOf_23 hw
  · have hf := (if_pos cn3).symm.trans hf
    refine lv_iconst (v := 0) hx hb dX12_stepOf_10 (by decide) ?_
    refine lv_goto (tgt := 22) hx hb dX12_stepOf_11 (by decide) ?_
    refine lv_isub hx hb dX12_stepOf_22 ?_
    obtain rfl := Option.some.inj hf
    exact hQ _ _ _ _ dX12_stepOf_23 hw
theorem mq_stepOf : qCv RX12 307 yX12_stepOf cX12_stepOf 2 (some .int) 1 := ⟨⟨(mem_g 1524 (by decide +kernel) rfl), (mem_g 1526 (by decide +kernel) rfl), (mem_g 63 (by decide +kernel) rfl), (mem_g 89 (by decide +kernel) rfl), (mem_g 1527 (by decide +kernel) rfl)⟩, by decide, by decide +kernel, by decide⟩
def mf_keepsRises_L2 (N : Nat) : Nat → mS → Int32 → Option (mS)
  | 0, _, _ => none
  | n + 1, S2, v1 => (if 6 ≤ v1 then some S2 else (if ok v1 6 then mf_keepsRises_L2 N n (ms S2 51 v1.toNatClampNeg (S2.1 7 v1.toNatClampNeg)) (v1 + 1) else none))
set_option maxRecDepth 100000 in
theorem wm_keepsRises_L2 {p : Program} {l : Launch} {e : Env} {R : Room} {s : State} {m : MethodId} {args : Array Value} {below : List Frame} {meth : Method} {c : Code} {Q : State → Prop} {g : mG} {A : Nat → Prop} {H0 : Heap} (hc : qC RX12 cX12_keepsRises p s m args c) (hR : qRoom R 1) (hml : c.maxLocals = 2) (N : Nat) : ∀ (n : Nat) (S2 : mS) (v1 : Int32) (X : mS) (H : Heap) (locs : List Loc) (ls : Array Slot), mf_keepsRises_L2 N n S2 v1 = some X → mI g A H0 s S2 H locs → lv_has ls 2 [(0, .ref (mr g 0)), (1, .int v1)] → (∀ (H : Heap) (locs : List Loc) (ls : Array Slot), mI g A H0 s X H locs → lv_has ls 2 [] → W p l e R s m args below meth c H locs 0 0 Q (F0 m 26 ls [])) → W p l e R s m args below meth c H locs 0 0 Q (F0 m 2 ls []) := by
  have hx := hc.1
  have hb := hc.2.1
  intro n
  induction n with
  | zero => intro _ _ X H locs ls hf; exact nomatch (show none = some X from hf)
  | succ n ih =>
    intro S2 v1 X H locs ls hf hw hl kx
    rw [mf_keepsRises_L2] at hf
    refine lv_iload_n hx hb dX12_keepsRises_2 rfl (lv_at hl 1 rfl) ?_
    refine lv_bipush (v := 6) hx hb dX12_keepsRises_3 (by decide) ?_
    refine lv_icmp_ge (tgt := 26) hx hb dX12_keepsRises_5 (by decide) (fun cn5 => ?_) (fun cn5 => ?_)
    · have hf := (if_pos cn5).symm.trans hf
      obtain rfl := Option.some.inj hf
      exact kx _ _ _ hw (lv_sub hl [] rfl)
    · have hf := (if_neg cn5).symm.trans hf
      refine lv_aload_n hx hb dX12_keepsRises_8 rfl (lv_at hl 0 rfl) ?_
      refine m_g51 hc hw dX12_keepsRises_9 ?_
      refine lv_iload_n hx hb dX12_keepsRises_12 rfl (lv_at hl 1 rfl) ?_
      refine lv_aload_n hx hb dX12_keepsRises_13 rfl (lv_at hl 0 rfl) ?_
      refine m_g7 hc hw dX12_keepsRises_14 ?_
      refine lv_iload_n hx hb dX12_keepsRises_17 rfl (lv_at hl 1 rfl) ?_
      obtain ⟨hi3, hf⟩ := gd_some hf
      refine m_l7 hc hw (ok_in hi3) dX12_keepsRises_18 ?_
      refine m_s51 hc hw (ok_in hi3) dX12_keepsRises_19 (fun H locs hw => ?_)
      refine lv_iinc (lv' := [(1, .int (v1 + 1)), (0, .ref (mr g 0))]) hx hb dX12_keepsRises_20 hl (k := 1) rfl rfl (by decide) rfl (fun ls hl => ?_)
      refine lv_goto (tgt := 2) hx hb dX12_keepsRises_23 (by decide) ?_
      exact ih _ _ X _ _ _ hf hw (lv_sub hl [1, 0] rfl) kx
def mf_keepsRises (N : Nat) (S : mS) : Option (mS) := (bd1 (mf_keepsRises_L2 N N S 0) fun S4 => some S4)
set_option maxRecDepth 100000 in
theorem cm_keepsRises (l : Launch) (N : Nat) (S : mS) (S1 : mS) (hf : mf_keepsRises N S = some S1) : mMv l yX12_keepsRises cX12_keepsRises 2 1 (fun g => [.ref (mr g 0)]) S S1 := by
  refine mMv_of (own := RX12) (by decide) rfl (fun g => Nat.le_of_ble_eq_true rfl) ?_
  intro p e R s m args below meth c Q g A H0 H locs ls hc hR hml hw hl hQ
  have hl : lv_has ls 2 [(0, .ref (mr g 0))] := hl
  have hx := hc.1
  have hb := hc.2.1
  unfold mf_keepsRises at hf
  refine lv_iconst (v := 0) hx hb dX12_keepsRises_0 (by decide) ?_
  refine lv_istore_n (lv' := [(1, .int 0), (0, .ref (mr g 0))]) hx hb dX12_keepsRises_1 rfl hl (by decide) rfl (fun ls hl => ?_)
  obtain ⟨S4, hL, hf⟩ := bd1_some hf
  refine wm_keepsRises_L2 hc hR hml N N _ _ _ _ _ _ hL hw (lv_sub hl [1, 0] rfl) (fun H locs ls hw hl => ?_)
  obtain rfl := Option.some.inj hf
  exact hQ _ _ _ _ dX12_keepsRises_26 hw
theorem mq_keepsRises : qCv RX12 310 yX12_keepsRises cX12_keepsRises 2 none 0 := ⟨⟨(mem_g 1536 (by decide +kernel) rfl), (mem_g 1538 (by decide +kernel) rfl), (mem_g 64 (by decide +kernel) rfl), (mem_g 89 (by decide +kernel) rfl), (mem_g 1539 (by decide +kernel) rfl)⟩, by decide, by decide +kernel, by decide⟩
def mf_laysRises_L2 (N : Nat) : Nat → mS → Int32 → Option (mS)
  | 0, _, _ => none
  | n + 1, S2, v1 => (if 6 ≤ v1 then some S2 else (if ok v1 6 then mf_laysRises_L2 N n (ms S2 7 v1.toNatClampNeg (S2.1 51 v1.toNatClampNeg)) (v1 + 1) else none))
set_option maxRecDepth 100000 in
theorem wm_laysRises_L2 {p : Program} {l : Launch} {e : Env} {R : Room} {s : State} {m : MethodId} {args : Array Value} {below : List Frame} {meth : Method} {c : Code} {Q : State → Prop} {g : mG} {A : Nat → Prop} {H0 : Heap} (hc : qC RX12 cX12_laysRises p s m args c) (hR : qRoom R 1) (hml : c.maxLocals = 2) (N : Nat) : ∀ (n : Nat) (S2 : mS) (v1 : Int32) (X : mS) (H : Heap) (locs : List Loc) (ls : Array Slot), mf_laysRises_L2 N n S2 v1 = some X → mI g A H0 s S2 H locs → lv_has ls 2 [(0, .ref (mr g 0)), (1, .int v1)] → (∀ (H : Heap) (locs : List Loc) (ls : Array Slot), mI g A H0 s X H locs → lv_has ls 2 [] → W p l e R s m args below meth c H locs 0 0 Q (F0 m 26 ls [])) → W p l e R s m args below meth c H locs 0 0 Q (F0 m 2 ls []) := by
  have hx := hc.1
  have hb := hc.2.1
  intro n
  induction n with
  | zero => intro _ _ X H locs ls hf; exact nomatch (show none = some X from hf)
  | succ n ih =>
    intro S2 v1 X H locs ls hf hw hl kx
    rw [mf_laysRises_L2] at hf
    refine lv_iload_n hx hb dX12_laysRises_2 rfl (lv_at hl 1 rfl) ?_
    refine lv_bipush (v := 6) hx hb dX12_laysRises_3 (by decide) ?_
    refine lv_icmp_ge (tgt := 26) hx hb dX12_laysRises_5 (by decide) (fun cn5 => ?_) (fun cn5 => ?_)
    · have hf := (if_pos cn5).symm.trans hf
      obtain rfl := Option.some.inj hf
      exact kx _ _ _ hw (lv_sub hl [] rfl)
    · have hf := (if_neg cn5).symm.trans hf
      refine lv_aload_n hx hb dX12_laysRises_8 rfl (lv_at hl 0 rfl) ?_
      refine m_g7 hc hw dX12_laysRises_9 ?_
      refine lv_iload_n hx hb dX12_laysRises_12 rfl (lv_at hl 1 rfl) ?_
      refine lv_aload_n hx hb dX12_laysRises_13 rfl (lv_at hl 0 rfl) ?_
      refine m_g51 hc hw dX12_laysRises_14 ?_
      refine lv_iload_n hx hb dX12_laysRises_17 rfl (lv_at hl 1 rfl) ?_
      obtain ⟨hi3, hf⟩ := gd_some hf
      refine m_l51 hc hw (ok_in hi3) dX12_laysRises_18 ?_
      refine m_s7 hc hw (ok_in hi3) dX12_laysRises_19 (fun H locs hw => ?_)
      refine lv_iinc (lv' := [(1, .int (v1 + 1)), (0, .ref (mr g 0))]) hx hb dX12_laysRises_20 hl (k := 1) rfl rfl (by decide) rfl (fun ls hl => ?_)
      refine lv_goto (tgt := 2) hx hb dX12_laysRises_23 (by decide) ?_
      exact ih _ _ X _ _ _ hf hw (lv_sub hl [1, 0] rfl) kx
def mf_laysRises (N : Nat) (S : mS) : Option (mS) := (bd1 (mf_laysRises_L2 N N S 0) fun S4 => some S4)
set_option maxRecDepth 100000 in
theorem cm_laysRises (l : Launch) (N : Nat) (S : mS) (S1 : mS) (hf : mf_laysRises N S = some S1) : mMv l yX12_laysRises cX12_laysRises 2 1 (fun g => [.ref (mr g 0)]) S S1 := by
  refine mMv_of (own := RX12) (by decide) rfl (fun g => Nat.le_of_ble_eq_true rfl) ?_
  intro p e R s m args below meth c Q g A H0 H locs ls hc hR hml hw hl hQ
  have hl : lv_has ls 2 [(0, .ref (mr g 0))] := hl
  have hx := hc.1
  have hb := hc.2.1
  unfold mf_laysRises at hf
  refine lv_iconst (v := 0) hx hb dX12_laysRises_0 (by decide) ?_
  refine lv_istore_n (lv' := [(1, .int 0), (0, .ref (mr g 0))]) hx hb dX12_laysRises_1 rfl hl (by decide) rfl (fun ls hl => ?_)
  obtain ⟨S4, hL, hf⟩ := bd1_some hf
  refine wm_laysRises_L2 hc hR hml N N _ _ _ _ _ _ hL hw (lv_sub hl [1, 0] rfl) (fun H locs ls hw hl => ?_)
  obtain rfl := Option.some.inj hf
  exact hQ _ _ _ _ dX12_laysRises_26 hw
theorem mq_laysRises : qCv RX12 316 yX12_laysRises cX12_laysRises 2 none 0 := ⟨⟨(mem_g 1544 (by decide +kernel) rfl), (mem_g 1546 (by decide +kernel) rfl), (mem_g 66 (by decide +kernel) rfl), (mem_g 89 (by decide +kernel) rfl), (mem_g 1547 (by decide +kernel) rfl)⟩, by decide, by decide +kernel, by decide⟩
def mf_lowest_L16 (N : Nat) (c1 : Int64) (c2 : Int64) (c3 : Int32) : Nat → Int64 → Int64 → Option (Int64)
  | 0, _, _ => none
  | n + 1, v4, v5 => (if (lg_cmp v5 0) = 0 then some v4 else (if ¬ v5 = 0 then mf_lowest_L16 N c1 c2 c3 n v5 (v4 - v4 / v5 * v5) else none))
set_option maxRecDepth 100000 in
theorem wm_lowest_L16 {p : Program} {l : Launch} {e : Env} {R : Room} {s : State} {m : MethodId} {args : Array Value} {below : List Frame} {meth : Method} {c : Code} {Q : State → Prop} {g : mG} {A : Nat → Prop} {H0 : Heap} (hc : qC RX12 cX12_lowest p s m args c) (hR : qRoom R 1) (hml : c.maxLocals = 11) (N : Nat) (S : mS) (c1 : Int64) (c2 : Int64) (c3 : Int32) : ∀ (n : Nat) (v4 : Int64) (v5 : Int64) (X : Int64) (H : Heap) (locs : List Loc) (ls : Array Slot), mf_lowest_L16 N c1 c2 c3 n v4 v5 = some X → mI g A H0 s S H locs → lv_has ls 11 [(0, .long c1), (2, .long c2), (4, .int c3), (5, .long v4), (7, .long v5)] → (∀ (H : Heap) (locs : List Loc) (ls : Array Slot), mI g A H0 s S H locs → lv_has ls 11 [(0, .long c1), (2, .long c2), (4, .int c3), (5, .long X)] → W p l e R s m args below meth c H locs 0 0 Q (F0 m 41 ls [])) → W p l e R s m args below meth c H locs 0 0 Q (F0 m 16 ls []) := by
  have hx := hc.1
  have hb := hc.2.1
  intro n
  induction n with
  | zero => intro _ _ X H locs ls hf; exact nomatch (show none = some X from hf)
  | succ n ih =>
    intro v4 v5 X H locs ls hf hw hl kx
    rw [mf_lowest_L16] at hf
    refine lv_lload hx hb dX12_lowest_16 (lv_at hl 4 rfl) ?_
    refine lv_lconst (v := 0) hx hb dX12_lowest_18 rfl ?_
    refine W.lcmp hx hb dX12_lowest_19 ?_
    refine lv_if_eq (tgt := 41) hx hb dX12_lowest_20 (by decide) (fun cn11 => ?_) (fun cn11 => ?_)
    · have hf := (if_pos cn11).symm.trans hf
      obtain rfl := Option.some.inj hf
      exact kx _ _ _ hw (lv_sub hl [0, 1, 2, 3] rfl)
    · have hf := (if_neg cn11).symm.trans hf
      refine lv_lload hx hb dX12_lowest_23 (lv_at hl 3 rfl) ?_
      refine lv_lload hx hb dX12_lowest_25 (lv_at hl 4 rfl) ?_
      obtain ⟨hn6, hf⟩ := gd_some hf
      refine lv_lrem hx hb dX12_lowest_27 hn6 ?_
      refine lv_lstore (lv' := [(9, .long (v4 - v4 / v5 * v5)), (0, .long c1), (2, .long c2), (4, .int c3), (5, .long v4), (7, .long v5)]) hx hb dX12_lowest_28 hl (by decide) rfl (fun ls hl => ?_)
      refine lv_lload hx hb dX12_lowest_30 (lv_at hl 5 rfl) ?_
      refine lv_lstore (lv' := [(5, .long v5), (9, .long (v4 - v4 / v5 * v5)), (0, .long c1), (2, .long c2), (4, .int c3), (7, .long v5)]) hx hb dX12_lowest_32 hl (by decide) rfl (fun ls hl => ?_)
      refine lv_lload hx hb dX12_lowest_34 (lv_at hl 1 rfl) ?_
      refine lv_lstore (lv' := [(7, .long (v4 - v4 / v5 * v5)), (5, .long v5), (9, .long (v4 - v4 / v5 * v5)), (0, .long c1), (2, .long c2), (4, .int c3)]) hx hb dX12_lowest_36 hl (by decide) rfl (fun ls hl => ?_)
      refine lv_goto (tgt := 16) hx hb dX12_lowest_38 (by decide) ?_
      exact ih _ _ X _ _ _ hf hw (lv_sub hl [3, 4, 5, 1, 0] rfl) kx
def mf_lowest (N : Nat) (a1 : Int64) (a2 : Int64) (a3 : Int32) : Option (Int64) := (if (lg_cmp a1 0) = 0 then some a3.toInt64 else (bd1 (mf_lowest_L16 N a1 a2 a3 N a1 a2) fun v7 => (if a3 = 0 then (if ¬ v7 = 0 then some (a1 / v7) else none) else (if ¬ v7 = 0 then some (a2 / v7) else none))))
set_option maxRecDepth 100000 in
theorem cm_lowest (l : Launch) (N : Nat) (S : mS) (a1 : Int64) (a2 : Int64) (a3 : Int32) (res : Int64) (hf : mf_lowest N a1 a2 a3 = some res) : mMl l yX12_lowest cX12_lowest 11 1 (fun g => [.long a1, .long a2, .int a3]) S res S := by
  refine mMl_of (own := RX12) (by decide) rfl (fun g => Nat.le_of_ble_eq_true rfl) ?_
  intro p e R s m args below meth c Q g A H0 H locs ls hc hR hml hw hl hQ
  have hl : lv_has ls 11 [(0, .long a1), (2, .long a2), (4, .int a3)] := hl
  have hx := hc.1
  have hb := hc.2.1
  unfold mf_lowest at hf
  refine lv_lload_n hx hb dX12_lowest_0 rfl (lv_at hl 0 rfl) ?_
  refine lv_lconst (v := 0) hx hb dX12_lowest_1 rfl ?_
  refine W.lcmp hx hb dX12_lowest_2 ?_
  refine lv_if_ne (tgt := 10) hx hb dX12_lowest_3 (by decide) (fun cn10 => ?_) (fun cn10 => ?_)
  · have hf := (if_neg cn10).symm.trans hf
    refine lv_lload_n hx hb dX12_lowest_10 rfl (lv_at hl 0 rfl) ?_
    refine lv_lstore (lv' := [(5, .long a1), (0, .long a1), (2, .long a2), (4, .int a3)]) hx hb dX12_lowest_11 hl (by decide) rfl (fun ls hl => ?_)
    refine lv_lload_n hx hb dX12_lowest_13 rfl (lv_at hl 2 rfl) ?_
    refine lv_lstore (lv' := [(7, .long a2), (5, .long a1), (0, .long a1), (2, .long a2), (4, .int a3)]) hx hb dX12_lowest_14 hl (by decide) rfl (fun ls hl => ?_)
    obtain ⟨v7, hL, hf⟩ := bd1_some hf
    refine wm_lowest_L16 hc hR hml N S a1 a2 a3 N _ _ _ _ _ _ hL hw (lv_sub hl [2, 3, 4, 1, 0] rfl) (fun H locs ls hw hl => ?_)
    refine lv_iload hx hb dX12_lowest_41 (lv_at hl 2 rfl) ?_
    refine lv_if_ne (tgt := 50) hx hb dX12_lowest_43 (by decide) (fun cn13 => ?_) (fun cn13 => ?_)
    · have hf := (if_neg cn13).symm.trans hf
      refine lv_lload_n hx hb dX12_lowest_50 rfl (lv_at hl 1 rfl) ?_
      refine lv_lload hx hb dX12_lowest_51 (lv_at hl 3 rfl) ?_
      obtain ⟨hn8, hf⟩ := gd_some hf
      refine lv_ldiv hx hb dX12_lowest_53 hn8 ?_
      obtain rfl := Option.some.inj hf
      exact hQ _ _ _ _ dX12_lowest_54 hw
    · have hf := (if_pos cn13).symm.trans hf
      refine lv_lload_n hx hb dX12_lowest_46 rfl (lv_at hl 0 rfl) ?_
      refine lv_goto (tgt := 51) hx hb dX12_lowest_47 (by decide) ?_
      refine lv_lload hx hb dX12_lowest_51 (lv_at hl 3 rfl) ?_
      obtain ⟨hn9, hf⟩ := gd_some hf
      refine lv_ldiv hx hb dX12_lowest_53 hn9 ?_
      obtain rfl := Option.some.inj hf
      exact hQ _ _ _ _ dX12_lowest_54 hw
  · have hf := (if_pos cn10).symm.trans hf
    refine lv_iload hx hb dX12_lowest_6 (lv_at hl 2 rfl) ?_
    refine lv_i2l hx hb dX12_lowest_8 rfl ?_
    obtain rfl := Option.some.inj hf
    exact hQ _ _ _ _ dX12_lowest_9 hw
theorem mq_lowest : qCs RX12 339 yX12_lowest cX12_lowest 11 (some .long) 3 := ⟨⟨(mem_g 1564 (by decide +kernel) rfl), (mem_g 1565 (by decide +kernel) rfl), (mem_g 89 (by decide +kernel) rfl), (mem_g 1566 (by decide +kernel) rfl)⟩, by decide, by decide +kernel, by decide⟩
def mf_allCounts (N : Nat) (S : mS) : Option (Int32) := some ((((S.1 2 (0 : Int32).toNatClampNeg) + (S.1 2 (1 : Int32).toNatClampNeg)) + (S.1 2 (2 : Int32).toNatClampNeg)) + (S.1 2 (3 : Int32).toNatClampNeg))
set_option maxRecDepth 100000 in
theorem cm_allCounts (l : Launch) (N : Nat) (S : mS) (res : Int32) (hf : mf_allCounts N S = some res) : mMi l yX12_allCounts cX12_allCounts 1 .int 1 (fun g => [.ref (mr g 0)]) S res S := by
  refine mMi_of (own := RX12) (by decide) rfl rfl (fun g => Nat.le_of_ble_eq_true rfl) ?_
  intro p e R s m args below meth c Q g A H0 H locs ls hc hR hml hw hl hQ
  have hl : lv_has ls 1 [(0, .ref (mr g 0))] := hl
  have hx := hc.1
  have hb := hc.2.1
  unfold mf_allCounts at hf
  refine lv_aload_n hx hb dX12_allCounts_0 rfl (lv_at hl 0 rfl) ?_
  refine m_g2 hc hw dX12_allCounts_1 ?_
  refine lv_iconst (v := 0) hx hb dX12_allCounts_4 (by decide) ?_
  refine m_l2 hc hw (ok_in (by decide)) dX12_allCounts_5 ?_
  refine lv_aload_n hx hb dX12_allCounts_6 rfl (lv_at hl 0 rfl) ?_
  refine m_g2 hc hw dX12_allCounts_7 ?_
  refine lv_iconst (v := 1) hx hb dX12_allCounts_10 (by decide) ?_
  refine m_l2 hc hw (ok_in (by decide)) dX12_allCounts_11 ?_
  refine lv_iadd hx hb dX12_allCounts_12 ?_
  refine lv_aload_n hx hb dX12_allCounts_13 rfl (lv_at hl 0 rfl) ?_
  refine m_g2 hc hw dX12_allCounts_14 ?_
  refine lv_iconst (v := 2) hx hb dX12_allCounts_17 (by decide) ?_
  refine m_l2 hc hw (ok_in (by decide)) dX12_allCounts_18 ?_
  refine lv_iadd hx hb dX12_allCounts_19 ?_
  refine lv_aload_n hx hb dX12_allCounts_20 rfl (lv_at hl 0 rfl) ?_
  refine m_g2 hc hw dX12_allCounts_21 ?_
  refine lv_iconst (v := 3) hx hb dX12_allCounts_24 (by decide) ?_
  refine m_l2 hc hw (ok_in (by decide)) dX12_allCounts_25 ?_
  refine lv_iadd hx hb dX12_allCounts_26 ?_
  obtain rfl := Option.some.inj hf
  exact hQ _ _ _ _ dX12_allCounts_27 hw
theorem mq_allCounts : qCv RX12 326 yX12_allCounts cX12_allCounts 1 (some .int) 0 := ⟨⟨(mem_g 1552 (by decide +kernel) rfl), (mem_g 1554 (by decide +kernel) rfl), (mem_g 67 (by decide +kernel) rfl), (mem_g 89 (by decide +kernel) rfl), (mem_g 1555 (by decide +kernel) rfl)⟩, by decide, by decide +kernel, by decide⟩
def mf_power_L5 (N : Nat) (c1 : Int64) (c2 : Int32) : Nat → Int64 → Int32 → Option (Int64)
  | 0, _, _ => none
  | n + 1, v3, v4 => (if c2 ≤ v4 then some v3 else mf_power_L5 N c1 c2 n (v3 * c1) (v4 + 1))
set_option maxRecDepth 100000 in
theorem wm_power_L5 {p : Program} {l : Launch} {e : Env} {R : Room} {s : State} {m : MethodId} {args : Array Value} {below : List Frame} {meth : Method} {c : Code} {Q : State → Prop} {g : mG} {A : Nat → Prop} {H0 : Heap} (hc : qC RX12 cX12_power p s m args c) (hR : qRoom R 1) (hml : c.maxLocals = 6) (N : Nat) (S : mS) (c1 : Int64) (c2 : Int32) : ∀ (n : Nat) (v3 : Int64) (v4 : Int32) (X : Int64) (H : Heap) (locs : List Loc) (ls : Array Slot), mf_power_L5 N c1 c2 n v3 v4 = some X → mI g A H0 s S H locs → lv_has ls 6 [(0, .long c1), (2, .int c2), (3, .long v3), (5, .int v4)] → (∀ (H : Heap) (locs : List Loc) (ls : Array Slot), mI g A H0 s S H locs → lv_has ls 6 [(3, .long X)] → W p l e R s m args below meth c H locs 0 0 Q (F0 m 21 ls [])) → W p l e R s m args below meth c H locs 0 0 Q (F0 m 5 ls []) := by
  have hx := hc.1
  have hb := hc.2.1
  intro n
  induction n with
  | zero => intro _ _ X H locs ls hf; exact nomatch (show none = some X from hf)
  | succ n ih =>
    intro v3 v4 X H locs ls hf hw hl kx
    rw [mf_power_L5] at hf
    refine lv_iload hx hb dX12_power_5 (lv_at hl 3 rfl) ?_
    refine lv_iload_n hx hb dX12_power_7 rfl (lv_at hl 1 rfl) ?_
    refine lv_icmp_ge (tgt := 21) hx hb dX12_power_8 (by decide) (fun cn6 => ?_) (fun cn6 => ?_)
    · have hf := (if_pos cn6).symm.trans hf
      obtain rfl := Option.some.inj hf
      exact kx _ _ _ hw (lv_sub hl [2] rfl)
    · have hf := (if_neg cn6).symm.trans hf
      refine lv_lload_n hx hb dX12_power_11 rfl (lv_at hl 2 rfl) ?_
      refine lv_lload_n hx hb dX12_power_12 rfl (lv_at hl 0 rfl) ?_
      refine lv_lmul hx hb dX12_power_13 ?_
      refine lv_lstore_n (lv' := [(3, .long (v3 * c1)), (0, .long c1), (2, .int c2), (5, .int v4)]) hx hb dX12_power_14 rfl hl (by decide) rfl (fun ls hl => ?_)
      refine lv_iinc (lv' := [(5, .int (v4 + 1)), (3, .long (v3 * c1)), (0, .long c1), (2, .int c2)]) hx hb dX12_power_15 hl (k := 3) rfl rfl (by decide) rfl (fun ls hl => ?_)
      refine lv_goto (tgt := 5) hx hb dX12_power_18 (by decide) ?_
      exact ih _ _ X _ _ _ hf hw (lv_sub hl [2, 3, 1, 0] rfl) kx
def mf_power (N : Nat) (a1 : Int64) (a2 : Int32) : Option (Int64) := (bd1 (mf_power_L5 N a1 a2 N 1 0) fun v5 => some v5)
set_option maxRecDepth 100000 in
theorem cm_power (l : Launch) (N : Nat) (S : mS) (a1 : Int64) (a2 : Int32) (res : Int64) (hf : mf_power N a1 a2 = some res) : mMl l yX12_power cX12_power 6 1 (fun g => [.long a1, .int a2]) S res S := by
  refine mMl_of (own := RX12) (by decide) rfl (fun g => Nat.le_of_ble_eq_true rfl) ?_
  intro p e R s m args below meth c Q g A H0 H locs ls hc hR hml hw hl hQ
  have hl : lv_has ls 6 [(0, .long a1), (2, .int a2)] := hl
  have hx := hc.1
  have hb := hc.2.1
  unfold mf_power at hf
  refine lv_lconst (v := 1) hx hb dX12_power_0 rfl ?_
  refine lv_lstore_n (lv' := [(3, .long 1), (0, .long a1), (2, .int a2)]) hx hb dX12_power_1 rfl hl (by decide) rfl (fun ls hl => ?_)
  refine lv_iconst (v := 0) hx hb dX12_power_2 (by decide) ?_
  refine lv_istore (lv' := [(5, .int 0), (3, .long 1), (0, .long a1), (2, .int a2)]) hx hb dX12_power_3 hl (by decide) rfl (fun ls hl => ?_)
  obtain ⟨v5, hL, hf⟩ := bd1_some hf
  refine wm_power_L5 hc hR hml N S a1 a2 N _ _ _ _ _ _ hL hw (lv_sub hl [2, 3, 1, 0] rfl) (fun H locs ls hw hl => ?_)
  refine lv_lload_n hx hb dX12_power_21 rfl (lv_at hl 0 rfl) ?_
  obtain rfl := Option.some.inj hf
  exact hQ _ _ _ _ dX12_power_22 hw
theorem mq_power : qCs RX12 335 yX12_power cX12_power 6 (some .long) 2 := ⟨⟨(mem_g 1561 (by decide +kernel) rfl), (mem_g 1562 (by decide +kernel) rfl), (mem_g 89 (by decide +kernel) rfl), (mem_g 1563 (by decide +kernel) rfl)⟩, by decide, by decide +kernel, by decide⟩
def mf_keepsSorts_L2 (N : Nat) : Nat → mS → Int32 → Option (mS)
  | 0, _, _ => none
  | n + 1, S2, v1 => (if 48 ≤ v1 then some S2 else (if ok v1 48 then mf_keepsSorts_L2 N n (ms S2 54 v1.toNatClampNeg (S2.1 9 v1.toNatClampNeg)) (v1 + 1) else none))
set_option maxRecDepth 100000 in
theorem wm_keepsSorts_L2 {p : Program} {l : Launch} {e : Env} {R : Room} {s : State} {m : MethodId} {args : Array Value} {below : List Frame} {meth : Method} {c : Code} {Q : State → Prop} {g : mG} {A : Nat → Prop} {H0 : Heap} (hc : qC RX12 cX12_keepsSorts p s m args c) (hR : qRoom R 1) (hml : c.maxLocals = 2) (N : Nat) : ∀ (n : Nat) (S2 : mS) (v1 : Int32) (X : mS) (H : Heap) (locs : List Loc) (ls : Array Slot), mf_keepsSorts_L2 N n S2 v1 = some X → mI g A H0 s S2 H locs → lv_has ls 2 [(0, .ref (mr g 0)), (1, .int v1)] → (∀ (H : Heap) (locs : List Loc) (ls : Array Slot), mI g A H0 s X H locs → lv_has ls 2 [] → W p l e R s m args below meth c H locs 0 0 Q (F0 m 26 ls [])) → W p l e R s m args below meth c H locs 0 0 Q (F0 m 2 ls []) := by
  have hx := hc.1
  have hb := hc.2.1
  intro n
  induction n with
  | zero => intro _ _ X H locs ls hf; exact nomatch (show none = some X from hf)
  | succ n ih =>
    intro S2 v1 X H locs ls hf hw hl kx
    rw [mf_keepsSorts_L2] at hf
    refine lv_iload_n hx hb dX12_keepsSorts_2 rfl (lv_at hl 1 rfl) ?_
    refine lv_bipush (v := 48) hx hb dX12_keepsSorts_3 (by decide) ?_
    refine lv_icmp_ge (tgt := 26) hx hb dX12_keepsSorts_5 (by decide) (fun cn5 => ?_) (fun cn5 => ?_)
    · have hf := (if_pos cn5).symm.trans hf
      obtain rfl := Option.some.inj hf
      exact kx _ _ _ hw (lv_sub hl [] rfl)
    · have hf := (if_neg cn5).symm.trans hf
      refine lv_aload_n hx hb dX12_keepsSorts_8 rfl (lv_at hl 0 rfl) ?_
      refine m_g54 hc hw dX12_keepsSorts_9 ?_
      refine lv_iload_n hx hb dX12_keepsSorts_12 rfl (lv_at hl 1 rfl) ?_
      refine lv_aload_n hx hb dX12_keepsSorts_13 rfl (lv_at hl 0 rfl) ?_
      refine m_g9 hc hw dX12_keepsSorts_14 ?_
      refine lv_iload_n hx hb dX12_keepsSorts_17 rfl (lv_at hl 1 rfl) ?_
      obtain ⟨hi3, hf⟩ := gd_some hf
      refine m_l9 hc hw (ok_in hi3) dX12_keepsSorts_18 ?_
      refine m_s54 hc hw (ok_in hi3) dX12_keepsSorts_19 (fun H locs hw => ?_)
      refine lv_iinc (lv' := [(1, .int (v1 + 1)), (0, .ref (mr g 0))]) hx hb dX12_keepsSorts_20 hl (k := 1) rfl rfl (by decide) rfl (fun ls hl => ?_)
      refine lv_goto (tgt := 2) hx hb dX12_keepsSorts_23 (by decide) ?_
      exact ih _ _ X _ _ _ hf hw (lv_sub hl [1, 0] rfl) kx
def mf_keepsSorts (N : Nat) (S : mS) : Option (mS) := (bd1 (mf_keepsSorts_L2 N N S 0) fun S4 => some S4)
set_option maxRecDepth 100000 in
theorem cm_keepsSorts (l : Launch) (N : Nat) (S : mS) (S1 : mS) (hf : mf_keepsSorts N S = some S1) : mMv l yX12_keepsSorts cX12_keepsSorts 2 1 (fun g => [.ref (mr g 0)]) S S1 := by
  refine mMv_of (own := RX12) (by decide) rfl (fun g => Nat.le_of_ble_eq_true rfl) ?_
  intro p e R s m args below meth c Q g A H0 H locs ls hc hR hml hw hl hQ
  have hl : lv_has ls 2 [(0, .ref (mr g 0))] := hl
  have hx := hc.1
  have hb := hc.2.1
  unfold mf_keepsSorts at hf
  refine lv_iconst (v := 0) hx hb dX12_keepsSorts_0 (by decide) ?_
  refine lv_istore_n (lv' := [(1, .int 0), (0, .ref (mr g 0))]) hx hb dX12_keepsSorts_1 rfl hl (by decide) rfl (fun ls hl => ?_)
  obtain ⟨S4, hL, hf⟩ := bd1_some hf
  refine wm_keepsSorts_L2 hc hR hml N N _ _ _ _ _ _ hL hw (lv_sub hl [1, 0] rfl) (fun H locs ls hw hl => ?_)
  obtain rfl := Option.some.inj hf
  exact hQ _ _ _ _ dX12_keepsSorts_26 hw
theorem mq_keepsSorts : qCv RX12 343 yX12_keepsSorts cX12_keepsSorts 2 none 0 := ⟨⟨(mem_g 1575 (by decide +kernel) rfl), (mem_g 1577 (by decide +kernel) rfl), (mem_g 69 (by decide +kernel) rfl), (mem_g 89 (by decide +kernel) rfl), (mem_g 1578 (by decide +kernel) rfl)⟩, by decide, by decide +kernel, by decide⟩
def mf_laysSorts_L2 (N : Nat) : Nat → mS → Int32 → Option (mS)
  | 0, _, _ => none
  | n + 1, S2, v1 => (if 48 ≤ v1 then some S2 else (if ok v1 48 then mf_laysSorts_L2 N n (ms S2 9 v1.toNatClampNeg (S2.1 54 v1.toNatClampNeg)) (v1 + 1) else none))
set_option maxRecDepth 100000 in
theorem wm_laysSorts_L2 {p : Program} {l : Launch} {e : Env} {R : Room} {s : State} {m : MethodId} {args : Array Value} {below : List Frame} {meth : Method} {c : Code} {Q : State → Prop} {g : mG} {A : Nat → Prop} {H0 : Heap} (hc : qC RX12 cX12_laysSorts p s m args c) (hR : qRoom R 1) (hml : c.maxLocals = 2) (N : Nat) : ∀ (n : Nat) (S2 : mS) (v1 : Int32) (X : mS) (H : Heap) (locs : List Loc) (ls : Array Slot), mf_laysSorts_L2 N n S2 v1 = some X → mI g A H0 s S2 H locs → lv_has ls 2 [(0, .ref (mr g 0)), (1, .int v1)] → (∀ (H : Heap) (locs : List Loc) (ls : Array Slot), mI g A H0 s X H locs → lv_has ls 2 [] → W p l e R s m args below meth c H locs 0 0 Q (F0 m 26 ls [])) → W p l e R s m args below meth c H locs 0 0 Q (F0 m 2 ls []) := by
  have hx := hc.1
  have hb := hc.2.1
  intro n
  induction n with
  | zero => intro _ _ X H locs ls hf; exact nomatch (show none = some X from hf)
  | succ n ih =>
    intro S2 v1 X H locs ls hf hw hl kx
    rw [mf_laysSorts_L2] at hf
    refine lv_iload_n hx hb dX12_laysSorts_2 rfl (lv_at hl 1 rfl) ?_
    refine lv_bipush (v := 48) hx hb dX12_laysSorts_3 (by decide) ?_
    refine lv_icmp_ge (tgt := 26) hx hb dX12_laysSorts_5 (by decide) (fun cn5 => ?_) (fun cn5 => ?_)
    · have hf := (if_pos cn5).symm.trans hf
      obtain rfl := Option.some.inj hf
      exact kx _ _ _ hw (lv_sub hl [] rfl)
    · have hf := (if_neg cn5).symm.trans hf
      refine lv_aload_n hx hb dX12_laysSorts_8 rfl (lv_at hl 0 rfl) ?_
      refine m_g9 hc hw dX12_laysSorts_9 ?_
      refine lv_iload_n hx hb dX12_laysSorts_12 rfl (lv_at hl 1 rfl) ?_
      refine lv_aload_n hx hb dX12_laysSorts_13 rfl (lv_at hl 0 rfl) ?_
      refine m_g54 hc hw dX12_laysSorts_14 ?_
      refine lv_iload_n hx hb dX12_laysSorts_17 rfl (lv_at hl 1 rfl) ?_
      obtain ⟨hi3, hf⟩ := gd_some hf
      refine m_l54 hc hw (ok_in hi3) dX12_laysSorts_18 ?_
      refine m_s9 hc hw (ok_in hi3) dX12_laysSorts_19 (fun H locs hw => ?_)
      refine lv_iinc (lv' := [(1, .int (v1 + 1)), (0, .ref (mr g 0))]) hx hb dX12_laysSorts_20 hl (k := 1) rfl rfl (by decide) rfl (fun ls hl => ?_)
      refine lv_goto (tgt := 2) hx hb dX12_laysSorts_23 (by decide) ?_
      exact ih _ _ X _ _ _ hf hw (lv_sub hl [1, 0] rfl) kx
def mf_laysSorts (N : Nat) (S : mS) : Option (mS) := (bd1 (mf_laysSorts_L2 N N S 0) fun S4 => some S4)
set_option maxRecDepth 100000 in
theorem cm_laysSorts (l : Launch) (N : Nat) (S : mS) (S1 : mS) (hf : mf_laysSorts N S = some S1) : mMv l yX12_laysSorts cX12_laysSorts 2 1 (fun g => [.ref (mr g 0)]) S S1 := by
  refine mMv_of (own := RX12) (by decide) rfl (fun g => Nat.le_of_ble_eq_true rfl) ?_
  intro p e R s m args below meth c Q g A H0 H locs ls hc hR hml hw hl hQ
  have hl : lv_has ls 2 [(0, .ref (mr g 0))] := hl
  have hx := hc.1
  have hb := hc.2.1
  unfold mf_laysSorts at hf
  refine lv_iconst (v := 0) hx hb dX12_laysSorts_0 (by decide) ?_
  refine lv_istore_n (lv' := [(1, .int 0), (0, .ref (mr g 0))]) hx hb dX12_laysSorts_1 rfl hl (by decide) rfl (fun ls hl => ?_)
  obtain ⟨S4, hL, hf⟩ := bd1_some hf
  refine wm_laysSorts_L2 hc hR hml N N _ _ _ _ _ _ hL hw (lv_sub hl [1, 0] rfl) (fun H locs ls hw hl => ?_)
  obtain rfl := Option.some.inj hf
  exact hQ _ _ _ _ dX12_laysSorts_26 hw
theorem mq_laysSorts : qCv RX12 349 yX12_laysSorts cX12_laysSorts 2 none 0 := ⟨⟨(mem_g 1583 (by decide +kernel) rfl), (mem_g 1585 (by decide +kernel) rfl), (mem_g 71 (by decide +kernel) rfl), (mem_g 89 (by decide +kernel) rfl), (mem_g 1586 (by decide +kernel) rfl)⟩, by decide, by decide +kernel, by decide⟩
def mf_changes (N : Nat) (S : mS) (a1 : Int32) (a2 : Int32) : Option (mS) := (if ok a1 48 then (if ok a2 48 then some (ms (ms S 9 a1.toNatClampNeg (S.1 9 a2.toNatClampNeg)) 9 a2.toNatClampNeg (S.1 9 a1.toNatClampNeg)) else none) else none)
set_option maxRecDepth 100000 in
theorem cm_changes (l : Launch) (N : Nat) (S : mS) (a1 : Int32) (a2 : Int32) (S1 : mS) (hf : mf_changes N S a1 a2 = some S1) : mMv l yX12_changes cX12_changes 4 1 (fun g => [.ref (mr g 0), .int a1, .int a2]) S S1 := by
  refine mMv_of (own := RX12) (by decide) rfl (fun g => Nat.le_of_ble_eq_true rfl) ?_
  intro p e R s m args below meth c Q g A H0 H locs ls hc hR hml hw hl hQ
  have hl : lv_has ls 4 [(0, .ref (mr g 0)), (1, .int a1), (2, .int a2)] := hl
  have hx := hc.1
  have hb := hc.2.1
  unfold mf_changes at hf
  refine lv_aload_n hx hb dX12_changes_0 rfl (lv_at hl 0 rfl) ?_
  refine m_g9 hc hw dX12_changes_1 ?_
  refine lv_iload_n hx hb dX12_changes_4 rfl (lv_at hl 1 rfl) ?_
  obtain ⟨hi1, hf⟩ := gd_some hf
  refine m_l9 hc hw (ok_in hi1) dX12_changes_5 ?_
  refine lv_istore_n (lv' := [(3, .int (S.1 9 a1.toNatClampNeg)), (0, .ref (mr g 0)), (1, .int a1), (2, .int a2)]) hx hb dX12_changes_6 rfl hl (by decide) rfl (fun ls hl => ?_)
  refine lv_aload_n hx hb dX12_changes_7 rfl (lv_at hl 1 rfl) ?_
  refine m_g9 hc hw dX12_changes_8 ?_
  refine lv_iload_n hx hb dX12_changes_11 rfl (lv_at hl 2 rfl) ?_
  refine lv_aload_n hx hb dX12_changes_12 rfl (lv_at hl 1 rfl) ?_
  refine m_g9 hc hw dX12_changes_13 ?_
  refine lv_iload_n hx hb dX12_changes_16 rfl (lv_at hl 3 rfl) ?_
  obtain ⟨hi2, hf⟩ := gd_some hf
  refine m_l9 hc hw (ok_in hi2) dX12_changes_17 ?_
  refine m_s9 hc hw (ok_in hi1) dX12_changes_18 (fun H locs hw => ?_)
  refine lv_aload_n hx hb dX12_changes_19 rfl (lv_at hl 1 rfl) ?_
  refine m_g9 hc hw dX12_changes_20 ?_
  refine lv_iload_n hx hb dX12_changes_23 rfl (lv_at hl 3 rfl) ?_
  refine lv_iload_n hx hb dX12_changes_24 rfl (lv_at hl 0 rfl) ?_
  refine m_s9 hc hw (ok_in hi2) dX12_changes_25 (fun H locs hw => ?_)
  obtain rfl := Option.some.inj hf
  exact hQ _ _ _ _ dX12_changes_26 hw
theorem mq_changes : qCv RX12 359 yX12_changes cX12_changes 4 none 2 := ⟨⟨(mem_g 1621 (by decide +kernel) rfl), (mem_g 1623 (by decide +kernel) rfl), (mem_g 74 (by decide +kernel) rfl), (mem_g 89 (by decide +kernel) rfl), (mem_g 1624 (by decide +kernel) rfl)⟩, by decide, by decide +kernel, by decide⟩
def mf_image_L31 (N : Nat) : Nat → mS → Int32 → Option (mS)
  | 0, _, _ => none
  | n + 1, S2, v1 => (if 4 ≤ v1 then some S2 else (if ok v1 4 then mf_image_L31 N n (ms (ms (ms (ms (ms S2 29 v1.toNatClampNeg (S2.1 0 v1.toNatClampNeg)) 30 v1.toNatClampNeg ((ms S2 29 v1.toNatClampNeg (S2.1 0 v1.toNatClampNeg)).1 1 v1.toNatClampNeg)) 31 v1.toNatClampNeg ((ms (ms S2 29 v1.toNatClampNeg (S2.1 0 v1.toNatClampNeg)) 30 v1.toNatClampNeg ((ms S2 29 v1.toNatClampNeg (S2.1 0 v1.toNatClampNeg)).1 1 v1.toNatClampNeg)).1 2 v1.toNatClampNeg)) 35 v1.toNatClampNeg ((ms (ms (ms S2 29 v1.toNatClampNeg (S2.1 0 v1.toNatClampNeg)) 30 v1.toNatClampNeg ((ms S2 29 v1.toNatClampNeg (S2.1 0 v1.toNatClampNeg)).1 1 v1.toNatClampNeg)) 31 v1.toNatClampNeg ((ms (ms S2 29 v1.toNatClampNeg (S2.1 0 v1.toNatClampNeg)) 30 v1.toNatClampNeg ((ms S2 29 v1.toNatClampNeg (S2.1 0 v1.toNatClampNeg)).1 1 v1.toNatClampNeg)).1 2 v1.toNatClampNeg)).1 15 v1.toNatClampNeg)) 36 v1.toNatClampNeg ((ms (ms (ms (ms S2 29 v1.toNatClampNeg (S2.1 0 v1.toNatClampNeg)) 30 v1.toNatClampNeg ((ms S2 29 v1.toNatClampNeg (S2.1 0 v1.toNatClampNeg)).1 1 v1.toNatClampNeg)) 31 v1.toNatClampNeg ((ms (ms S2 29 v1.toNatClampNeg (S2.1 0 v1.toNatClampNeg)) 30 v1.toNatClampNeg ((ms S2 29 v1.toNatClampNeg (S2.1 0 v1.toNatClampNeg)).1 1 v1.toNatClampNeg)).1 2 v1.toNatClampNeg)) 35 v1.toNatClampNeg ((ms (ms (ms S2 29 v1.toNatClampNeg (S2.1 0 v1.toNatClampNeg)) 30 v1.toNatClampNeg ((ms S2 29 v1.toNatClampNeg (S2.1 0 v1.toNatClampNeg)).1 1 v1.toNatClampNeg)) 31 v1.toNatClampNeg ((ms (ms S2 29 v1.toNatClampNeg (S2.1 0 v1.toNatClampNeg)) 30 v1.toNatClampNeg ((ms S2 29 v1.toNatClampNeg (S2.1 0 v1.toNatClampNeg)).1 1 v1.toNatClampNeg)).1 2 v1.toNatClampNeg)).1 15 v1.toNatClampNeg)).1 16 v1.toNatClampNeg)) (v1 + 1) else none))
set_option maxRecDepth 100000 in
theorem wm_image_L31 {p : Program} {l : Launch} {e : Env} {R : Room} {s : State} {m : MethodId} {args : Array Value} {below : List Frame} {meth : Method} {c : Code} {Q : State → Prop} {g : mG} {A : Nat → Prop} {H0 : Heap} (hc : qC RX12 cX12_image p s m args c) (hR : qRoom R 1) (hml : c.maxLocals = 2) (N : Nat) : ∀ (n : Nat) (S2 : mS) (v1 : Int32) (X : mS) (H : Heap) (locs : List Loc) (ls : Array Slot), mf_image_L31 N n S2 v1 = some X → mI g A H0 s S2 H locs → lv_has ls 2 [(0, .ref (mr g 0)), (1, .int v1)] → (∀ (H : Heap) (locs : List Loc) (ls : Array Slot), mI g A H0 s X H locs → lv_has ls 2 [(0, .ref (mr g 0))] → W p l e R s m args below meth c H locs 0 0 Q (F0 m 102 ls [])) → W p l e R s m args below meth c H locs 0 0 Q (F0 m 31 ls []) := by
  have hx := hc.1
  have hb := hc.2.1
  intro n
  induction n with
  | zero => intro _ _ X H locs ls hf; exact nomatch (show none = some X from hf)
  | succ n ih =>
    intro S2 v1 X H locs ls hf hw hl kx
    rw [mf_image_L31] at hf
    refine lv_iload_n hx hb dX12_image_31 rfl (lv_at hl 1 rfl) ?_
    refine lv_iconst (v := 4) hx hb dX12_image_32 (by decide) ?_
    refine lv_icmp_ge (tgt := 102) hx hb dX12_image_33 (by decide) (fun cn13 => ?_) (fun cn13 => ?_)
    · have hf := (if_pos cn13).symm.trans hf
      obtain rfl := Option.some.inj hf
      exact kx _ _ _ hw (lv_sub hl [0] rfl)
    · have hf := (if_neg cn13).symm.trans hf
      refine lv_aload_n hx hb dX12_image_36 rfl (lv_at hl 0 rfl) ?_
      refine m_g29 hc hw dX12_image_37 ?_
      refine lv_iload_n hx hb dX12_image_40 rfl (lv_at hl 1 rfl) ?_
      refine lv_aload_n hx hb dX12_image_41 rfl (lv_at hl 0 rfl) ?_
      refine m_g0 hc hw dX12_image_42 ?_
      refine lv_iload_n hx hb dX12_image_45 rfl (lv_at hl 1 rfl) ?_
      obtain ⟨hi3, hf⟩ := gd_some hf
      refine m_l0 hc hw (ok_in hi3) dX12_image_46 ?_
      refine m_s29 hc hw (ok_in hi3) dX12_image_47 (fun H locs hw => ?_)
      refine lv_aload_n hx hb dX12_image_48 rfl (lv_at hl 0 rfl) ?_
      refine m_g30 hc hw dX12_image_49 ?_
      refine lv_iload_n hx hb dX12_image_52 rfl (lv_at hl 1 rfl) ?_
      refine lv_aload_n hx hb dX12_image_53 rfl (lv_at hl 0 rfl) ?_
      refine m_g1 hc hw dX12_image_54 ?_
      refine lv_iload_n hx hb dX12_image_57 rfl (lv_at hl 1 rfl) ?_
      refine m_l1 hc hw (ok_in hi3) dX12_image_58 ?_
      refine m_s30 hc hw (ok_in hi3) dX12_image_59 (fun H locs hw => ?_)
      refine lv_aload_n hx hb dX12_image_60 rfl (lv_at hl 0 rfl) ?_
      refine m_g31 hc hw dX12_image_61 ?_
      refine lv_iload_n hx hb dX12_image_64 rfl (lv_at hl 1 rfl) ?_
      refine lv_aload_n hx hb dX12_image_65 rfl (lv_at hl 0 rfl) ?_
      refine m_g2 hc hw dX12_image_66 ?_
      refine lv_iload_n hx hb dX12_image_69 rfl (lv_at hl 1 rfl) ?_
      refine m_l2 hc hw (ok_in hi3) dX12_image_70 ?_
      refine m_s31 hc hw (ok_in hi3) dX12_image_71 (fun H locs hw => ?_)
      refine lv_aload_n hx hb dX12_image_72 rfl (lv_at hl 0 rfl) ?_
      refine m_g35 hc hw dX12_image_73 ?_
      refine lv_iload_n hx hb dX12_image_76 rfl (lv_at hl 1 rfl) ?_
      refine lv_aload_n hx hb dX12_image_77 rfl (lv_at hl 0 rfl) ?_
      refine m_g15 hc hw dX12_image_78 ?_
      refine lv_iload_n hx hb dX12_image_81 rfl (lv_at hl 1 rfl) ?_
      refine m_l15 hc hw (ok_in hi3) dX12_image_82 ?_
      refine m_s35 hc hw (ok_in hi3) dX12_image_83 (fun H locs hw => ?_)
      refine lv_aload_n hx hb dX12_image_84 rfl (lv_at hl 0 rfl) ?_
      refine m_g36 hc hw dX12_image_85 ?_
      refine lv_iload_n hx hb dX12_image_88 rfl (lv_at hl 1 rfl) ?_
      refine lv_aload_n hx hb dX12_image_89 rfl (lv_at hl 0 rfl) ?_
      refine m_g16 hc hw dX12_image_90 ?_
      refine lv_iload_n hx hb dX12_image_93 rfl (lv_at hl 1 rfl) ?_
      refine m_l16 hc hw (ok_in hi3) dX12_image_94 ?_
      refine m_s36 hc hw (ok_in hi3) dX12_image_95 (fun H locs hw => ?_)
      refine lv_iinc (lv' := [(1, .int (v1 + 1)), (0, .ref (mr g 0))]) hx hb dX12_image_96 hl (k := 1) rfl rfl (by decide) rfl (fun ls hl => ?_)
      refine lv_goto (tgt := 31) hx hb dX12_image_99 (by decide) ?_
      exact ih _ _ X _ _ _ hf hw (lv_sub hl [1, 0] rfl) kx
def mf_image_L104 (N : Nat) : Nat → mS → Int32 → Option (mS)
  | 0, _, _ => none
  | n + 1, S6, v5 => (if 6 ≤ v5 then some S6 else (if ok v5 6 then mf_image_L104 N n (ms (ms S6 32 v5.toNatClampNeg (S6.1 7 v5.toNatClampNeg)) 33 v5.toNatClampNeg ((ms S6 32 v5.toNatClampNeg (S6.1 7 v5.toNatClampNeg)).1 8 v5.toNatClampNeg)) (v5 + 1) else none))
set_option maxRecDepth 100000 in
theorem wm_image_L104 {p : Program} {l : Launch} {e : Env} {R : Room} {s : State} {m : MethodId} {args : Array Value} {below : List Frame} {meth : Method} {c : Code} {Q : State → Prop} {g : mG} {A : Nat → Prop} {H0 : Heap} (hc : qC RX12 cX12_image p s m args c) (hR : qRoom R 1) (hml : c.maxLocals = 2) (N : Nat) : ∀ (n : Nat) (S6 : mS) (v5 : Int32) (X : mS) (H : Heap) (locs : List Loc) (ls : Array Slot), mf_image_L104 N n S6 v5 = some X → mI g A H0 s S6 H locs → lv_has ls 2 [(0, .ref (mr g 0)), (1, .int v5)] → (∀ (H : Heap) (locs : List Loc) (ls : Array Slot), mI g A H0 s X H locs → lv_has ls 2 [(0, .ref (mr g 0))] → W p l e R s m args below meth c H locs 0 0 Q (F0 m 140 ls [])) → W p l e R s m args below meth c H locs 0 0 Q (F0 m 104 ls []) := by
  have hx := hc.1
  have hb := hc.2.1
  intro n
  induction n with
  | zero => intro _ _ X H locs ls hf; exact nomatch (show none = some X from hf)
  | succ n ih =>
    intro S6 v5 X H locs ls hf hw hl kx
    rw [mf_image_L104] at hf
    refine lv_iload_n hx hb dX12_image_104 rfl (lv_at hl 1 rfl) ?_
    refine lv_bipush (v := 6) hx hb dX12_image_105 (by decide) ?_
    refine lv_icmp_ge (tgt := 140) hx hb dX12_image_107 (by decide) (fun cn15 => ?_) (fun cn15 => ?_)
    · have hf := (if_pos cn15).symm.trans hf
      obtain rfl := Option.some.inj hf
      exact kx _ _ _ hw (lv_sub hl [0] rfl)
    · have hf := (if_neg cn15).symm.trans hf
      refine lv_aload_n hx hb dX12_image_110 rfl (lv_at hl 0 rfl) ?_
      refine m_g32 hc hw dX12_image_111 ?_
      refine lv_iload_n hx hb dX12_image_114 rfl (lv_at hl 1 rfl) ?_
      refine lv_aload_n hx hb dX12_image_115 rfl (lv_at hl 0 rfl) ?_
      refine m_g7 hc hw dX12_image_116 ?_
      refine lv_iload_n hx hb dX12_image_119 rfl (lv_at hl 1 rfl) ?_
      obtain ⟨hi7, hf⟩ := gd_some hf
      refine m_l7 hc hw (ok_in hi7) dX12_image_120 ?_
      refine m_s32 hc hw (ok_in hi7) dX12_image_121 (fun H locs hw => ?_)
      refine lv_aload_n hx hb dX12_image_122 rfl (lv_at hl 0 rfl) ?_
      refine m_g33 hc hw dX12_image_123 ?_
      refine lv_iload_n hx hb dX12_image_126 rfl (lv_at hl 1 rfl) ?_
      refine lv_aload_n hx hb dX12_image_127 rfl (lv_at hl 0 rfl) ?_
      refine m_g8 hc hw dX12_image_128 ?_
      refine lv_iload_n hx hb dX12_image_131 rfl (lv_at hl 1 rfl) ?_
      refine m_l8 hc hw (ok_in hi7) dX12_image_132 ?_
      refine m_s33 hc hw (ok_in hi7) dX12_image_133 (fun H locs hw => ?_)
      refine lv_iinc (lv' := [(1, .int (v5 + 1)), (0, .ref (mr g 0))]) hx hb dX12_image_134 hl (k := 1) rfl rfl (by decide) rfl (fun ls hl => ?_)
      refine lv_goto (tgt := 104) hx hb dX12_image_137 (by decide) ?_
      exact ih _ _ X _ _ _ hf hw (lv_sub hl [1, 0] rfl) kx
def mf_image_L142 (N : Nat) : Nat → mS → Int32 → Option (mS)
  | 0, _, _ => none
  | n + 1, S10, v9 => (if 48 ≤ v9 then some S10 else (if ok v9 48 then mf_image_L142 N n (ms S10 34 v9.toNatClampNeg (S10.1 9 v9.toNatClampNeg)) (v9 + 1) else none))
set_option maxRecDepth 100000 in
theorem wm_image_L142 {p : Program} {l : Launch} {e : Env} {R : Room} {s : State} {m : MethodId} {args : Array Value} {below : List Frame} {meth : Method} {c : Code} {Q : State → Prop} {g : mG} {A : Nat → Prop} {H0 : Heap} (hc : qC RX12 cX12_image p s m args c) (hR : qRoom R 1) (hml : c.maxLocals = 2) (N : Nat) : ∀ (n : Nat) (S10 : mS) (v9 : Int32) (X : mS) (H : Heap) (locs : List Loc) (ls : Array Slot), mf_image_L142 N n S10 v9 = some X → mI g A H0 s S10 H locs → lv_has ls 2 [(0, .ref (mr g 0)), (1, .int v9)] → (∀ (H : Heap) (locs : List Loc) (ls : Array Slot), mI g A H0 s X H locs → lv_has ls 2 [(0, .ref (mr g 0))] → W p l e R s m args below meth c H locs 0 0 Q (F0 m 166 ls [])) → W p l e R s m args below meth c H locs 0 0 Q (F0 m 142 ls []) := by
  have hx := hc.1
  have hb := hc.2.1
  intro n
  induction n with
  | zero => intro _ _ X H locs ls hf; exact nomatch (show none = some X from hf)
  | succ n ih =>
    intro S10 v9 X H locs ls hf hw hl kx
    rw [mf_image_L142] at hf
    refine lv_iload_n hx hb dX12_image_142 rfl (lv_at hl 1 rfl) ?_
    refine lv_bipush (v := 48) hx hb dX12_image_143 (by decide) ?_
    refine lv_icmp_ge (tgt := 166) hx hb dX12_image_145 (by decide) (fun cn17 => ?_) (fun cn17 => ?_)
    · have hf := (if_pos cn17).symm.trans hf
      obtain rfl := Option.some.inj hf
      exact kx _ _ _ hw (lv_sub hl [0] rfl)
    · have hf := (if_neg cn17).symm.trans hf
      refine lv_aload_n hx hb dX12_image_148 rfl (lv_at hl 0 rfl) ?_
      refine m_g34 hc hw dX12_image_149 ?_
      refine lv_iload_n hx hb dX12_image_152 rfl (lv_at hl 1 rfl) ?_
      refine lv_aload_n hx hb dX12_image_153 rfl (lv_at hl 0 rfl) ?_
      refine m_g9 hc hw dX12_image_154 ?_
      refine lv_iload_n hx hb dX12_image_157 rfl (lv_at hl 1 rfl) ?_
      obtain ⟨hi11, hf⟩ := gd_some hf
      refine m_l9 hc hw (ok_in hi11) dX12_image_158 ?_
      refine m_s34 hc hw (ok_in hi11) dX12_image_159 (fun H locs hw => ?_)
      refine lv_iinc (lv' := [(1, .int (v9 + 1)), (0, .ref (mr g 0))]) hx hb dX12_image_160 hl (k := 1) rfl rfl (by decide) rfl (fun ls hl => ?_)
      refine lv_goto (tgt := 142) hx hb dX12_image_163 (by decide) ?_
      exact ih _ _ X _ _ _ hf hw (lv_sub hl [1, 0] rfl) kx
def mf_image (N : Nat) (S : mS) : Option (Int32 × mS) := (bd1 (mf_image_L31 N N (ms (ms (ms (ms S 25 0 1) 26 0 ((ms S 25 0 1).1 3 0)) 27 0 ((ms (ms S 25 0 1) 26 0 ((ms S 25 0 1).1 3 0)).1 14 0)) 28 0 ((ms (ms (ms S 25 0 1) 26 0 ((ms S 25 0 1).1 3 0)) 27 0 ((ms (ms S 25 0 1) 26 0 ((ms S 25 0 1).1 3 0)).1 14 0)).1 22 0)) 0) fun S4 => (bd1 (mf_image_L104 N N S4 0) fun S8 => (bd1 (mf_image_L142 N N S8 0) fun S12 => some (S12.1 3 0, S12))))
set_option maxRecDepth 100000 in
theorem cm_image (l : Launch) (N : Nat) (S : mS) (res : Int32) (S1 : mS) (hf : mf_image N S = some (res, S1)) : mMi l yX12_image cX12_image 2 .int 1 (fun g => [.ref (mr g 0)]) S res S1 := by
  refine mMi_of (own := RX12) (by decide) rfl rfl (fun g => Nat.le_of_ble_eq_true rfl) ?_
  intro p e R s m args below meth c Q g A H0 H locs ls hc hR hml hw hl hQ
  have hl : lv_has ls 2 [(0, .ref (mr g 0))] := hl
  have hx := hc.1
  have hb := hc.2.1
  unfold mf_image at hf
  refine lv_aload_n hx hb dX12_image_0 rfl (lv_at hl 0 rfl) ?_
  refine lv_iconst (v := 1) hx hb dX12_image_1 (by decide) ?_
  refine m_p25 hc hw rfl rfl dX12_image_2 (fun H locs hw => ?_)
  refine lv_aload_n hx hb dX12_image_5 rfl (lv_at hl 0 rfl) ?_
  refine lv_aload_n hx hb dX12_image_6 rfl (lv_at hl 0 rfl) ?_
  refine m_g3 hc hw dX12_image_7 ?_
  refine m_p26 hc hw dX12_image_10 (fun H locs hw => ?_)
  refine lv_aload_n hx hb dX12_image_13 rfl (lv_at hl 0 rfl) ?_
  refine lv_aload_n hx hb dX12_image_14 rfl (lv_at hl 0 rfl) ?_
  refine m_g14 hc hw dX12_image_15 ?_
  refine m_p27 hc hw dX12_image_18 (fun H locs hw => ?_)
  refine lv_aload_n hx hb dX12_image_21 rfl (lv_at hl 0 rfl) ?_
  refine lv_aload_n hx hb dX12_image_22 rfl (lv_at hl 0 rfl) ?_
  refine m_g22 hc hw dX12_image_23 ?_
  refine m_p28 hc hw dX12_image_26 (fun H locs hw => ?_)
  refine lv_iconst (v := 0) hx hb dX12_image_29 (by decide) ?_
  refine lv_istore_n (lv' := [(1, .int 0), (0, .ref (mr g 0))]) hx hb dX12_image_30 rfl hl (by decide) rfl (fun ls hl => ?_)
  obtain ⟨S4, hL, hf⟩ := bd1_some hf
  refine wm_image_L31 hc hR hml N N _ _ _ _ _ _ hL hw (lv_sub hl [1, 0] rfl) (fun H locs ls hw hl => ?_)
  refine lv_iconst (v := 0) hx hb dX12_image_102 (by decide) ?_
  refine lv_istore_n (lv' := [(1, .int 0), (0, .ref (mr g 0))]) hx hb dX12_image_103 rfl hl (by decide) rfl (fun ls hl => ?_)
  obtain ⟨S8, hL, hf⟩ := bd1_some hf
  refine wm_image_L104 hc hR hml N N _ _ _ _ _ _ hL hw (lv_sub hl [1, 0] rfl) (fun H locs ls hw hl => ?_)
  refine lv_iconst (v := 0) hx hb dX12_image_140 (by decide) ?_
  refine lv_istore_n (lv' := [(1, .int 0), (0, .ref (mr g 0))]) hx hb dX12_image_141 rfl hl (by decide) rfl (fun ls hl => ?_)
  obtain ⟨S12, hL, hf⟩ := bd1_some hf
  refine wm_image_L142 hc hR hml N N _ _ _ _ _ _ hL hw (lv_sub hl [1, 0] rfl) (fun H locs ls hw hl => ?_)
  refine lv_aload_n hx hb dX12_image_166 rfl (lv_at hl 0 rfl) ?_
  refine m_g3 hc hw dX12_image_167 ?_
  obtain ⟨rfl, rfl⟩ := pr2_some hf
  exact hQ _ _ _ _ dX12_image_170 hw
def mf_back_L20 (N : Nat) : Nat → mS → Int32 → Option (mS)
  | 0, _, _ => none
  | n + 1, S2, v1 => (if 4 ≤ v1 then some S2 else (if ok v1 4 then (if ((ms (ms (ms (ms S2 0 v1.toNatClampNeg (S2.1 29 v1.toNatClampNeg)) 1 v1.toNatClampNeg ((ms S2 0 v1.toNatClampNeg (S2.1 29 v1.toNatClampNeg)).1 30 v1.toNatClampNeg)) 2 v1.toNatClampNeg ((ms (ms S2 0 v1.toNatClampNeg (S2.1 29 v1.toNatClampNeg)) 1 v1.toNatClampNeg ((ms S2 0 v1.toNatClampNeg (S2.1 29 v1.toNatClampNeg)).1 30 v1.toNatClampNeg)).1 31 v1.toNatClampNeg)) 15 v1.toNatClampNeg ((if ((ms (ms (ms S2 0 v1.toNatClampNeg (S2.1 29 v1.toNatClampNeg)) 1 v1.toNatClampNeg ((ms S2 0 v1.toNatClampNeg (S2.1 29 v1.toNatClampNeg)).1 30 v1.toNatClampNeg)) 2 v1.toNatClampNeg ((ms (ms S2 0 v1.toNatClampNeg (S2.1 29 v1.toNatClampNeg)) 1 v1.toNatClampNeg ((ms S2 0 v1.toNatClampNeg (S2.1 29 v1.toNatClampNeg)).1 30 v1.toNatClampNeg)).1 31 v1.toNatClampNeg)).1 27 0) ≤ v1 then (ms (ms (ms S2 0 v1.toNatClampNeg (S2.1 29 v1.toNatClampNeg)) 1 v1.toNatClampNeg ((ms S2 0 v1.toNatClampNeg (S2.1 29 v1.toNatClampNeg)).1 30 v1.toNatClampNeg)) 2 v1.toNatClampNeg ((ms (ms S2 0 v1.toNatClampNeg (S2.1 29 v1.toNatClampNeg)) 1 v1.toNatClampNeg ((ms S2 0 v1.toNatClampNeg (S2.1 29 v1.toNatClampNeg)).1 30 v1.toNatClampNeg)).1 31 v1.toNatClampNeg)).1 15 v1.toNatClampNeg else (ms (ms (ms S2 0 v1.toNatClampNeg (S2.1 29 v1.toNatClampNeg)) 1 v1.toNatClampNeg ((ms S2 0 v1.toNatClampNeg (S2.1 29 v1.toNatClampNeg)).1 30 v1.toNatClampNeg)) 2 v1.toNatClampNeg ((ms (ms S2 0 v1.toNatClampNeg (S2.1 29 v1.toNatClampNeg)) 1 v1.toNatClampNeg ((ms S2 0 v1.toNatClampNeg (S2.1 29 v1.toNatClampNeg)).1 30 v1.toNatClampNeg)).1 31 v1.toNatClampNeg)).1 35 v1.toNatClampNeg) : Int32)).1 27 0) ≤ v1 then mf_back_L20 N n (ms (ms (ms (ms (ms S2 0 v1.toNatClampNeg (S2.1 29 v1.toNatClampNeg)) 1 v1.toNatClampNeg ((ms S2 0 v1.toNatClampNeg (S2.1 29 v1.toNatClampNeg)).1 30 v1.toNatClampNeg)) 2 v1.toNatClampNeg ((ms (ms S2 0 v1.toNatClampNeg (S2.1 29 v1.toNatClampNeg)) 1 v1.toNatClampNeg ((ms S2 0 v1.toNatClampNeg (S2.1 29 v1.toNatClampNeg)).1 30 v1.toNatClampNeg)).1 31 v1.toNatClampNeg)) 15 v1.toNatClampNeg ((if ((ms (ms (ms S2 0 v1.toNatClampNeg (S2.1 29 v1.toNatClampNeg)) 1 v1.toNatClampNeg ((ms S2 0 v1.toNatClampNeg (S2.1 29 v1.toNatClampNeg)).1 30 v1.toNatClampNeg)) 2 v1.toNatClampNeg ((ms (ms S2 0 v1.toNatClampNeg (S2.1 29 v1.toNatClampNeg)) 1 v1.toNatClampNeg ((ms S2 0 v1.toNatClampNeg (S2.1 29 v1.toNatClampNeg)).1 30 v1.toNatClampNeg)).1 31 v1.toNatClampNeg)).1 27 0) ≤ v1 then (ms (ms (ms S2 0 v1.toNatClampNeg (S2.1 29 v1.toNatClampNeg)) 1 v1.toNatClampNeg ((ms S2 0 v1.toNatClampNeg (S2.1 29 v1.toNatClampNeg)).1 30 v1.toNatClampNeg)) 2 v1.toNatClampNeg ((ms (ms S2 0 v1.toNatClampNeg (S2.1 29 v1.toNatClampNeg)) 1 v1.toNatClampNeg ((ms S2 0 v1.toNatClampNeg (S2.1 29 v1.toNatClampNeg)).1 30 v1.toNatClampNeg)).1 31 v1.toNatClampNeg)).1 15 v1.toNatClampNeg else (ms (ms (ms S2 0 v1.toNatClampNeg (S2.1 29 v1.toNatClampNeg)) 1 v1.toNatClampNeg ((ms S2 0 v1.toNatClampNeg (S2.1 29 v1.toNatClampNeg)).1 30 v1.toNatClampNeg)) 2 v1.toNatClampNeg ((ms (ms S2 0 v1.toNatClampNeg (S2.1 29 v1.toNatClampNeg)) 1 v1.toNatClampNeg ((ms S2 0 v1.toNatClampNeg (S2.1 29 v1.toNatClampNeg)).1 30 v1.toNatClampNeg)).1 31 v1.toNatClampNeg)).1 35 v1.toNatClampNeg) : Int32)) 16 v1.toNatClampNeg ((ms (ms (ms (ms S2 0 v1.toNatClampNeg (S2.1 29 v1.toNatClampNeg)) 1 v1.toNatClampNeg ((ms S2 0 v1.toNatClampNeg (S2.1 29 v1.toNatClampNeg)).1 30 v1.toNatClampNeg)) 2 v1.toNatClampNeg ((ms (ms S2 0 v1.toNatClampNeg (S2.1 29 v1.toNatClampNeg)) 1 v1.toNatClampNeg ((ms S2 0 v1.toNatClampNeg (S2.1 29 v1.toNatClampNeg)).1 30 v1.toNatClampNeg)).1 31 v1.toNatClampNeg)) 15 v1.toNatClampNeg ((if ((ms (ms (ms S2 0 v1.toNatClampNeg (S2.1 29 v1.toNatClampNeg)) 1 v1.toNatClampNeg ((ms S2 0 v1.toNatClampNeg (S2.1 29 v1.toNatClampNeg)).1 30 v1.toNatClampNeg)) 2 v1.toNatClampNeg ((ms (ms S2 0 v1.toNatClampNeg (S2.1 29 v1.toNatClampNeg)) 1 v1.toNatClampNeg ((ms S2 0 v1.toNatClampNeg (S2.1 29 v1.toNatClampNeg)).1 30 v1.toNatClampNeg)).1 31 v1.toNatClampNeg)).1 27 0) ≤ v1 then (ms (ms (ms S2 0 v1.toNatClampNeg (S2.1 29 v1.toNatClampNeg)) 1 v1.toNatClampNeg ((ms S2 0 v1.toNatClampNeg (S2.1 29 v1.toNatClampNeg)).1 30 v1.toNatClampNeg)) 2 v1.toNatClampNeg ((ms (ms S2 0 v1.toNatClampNeg (S2.1 29 v1.toNatClampNeg)) 1 v1.toNatClampNeg ((ms S2 0 v1.toNatClampNeg (S2.1 29 v1.toNatClampNeg)).1 30 v1.toNatClampNeg)).1 31 v1.toNatClampNeg)).1 15 v1.toNatClampNeg else (ms (ms (ms S2 0 v1.toNatClampNeg (S2.1 29 v1.toNatClampNeg)) 1 v1.toNatClampNeg ((ms S2 0 v1.toNatClampNeg (S2.1 29 v1.toNatClampNeg)).1 30 v1.toNatClampNeg)) 2 v1.toNatClampNeg ((ms (ms S2 0 v1.toNatClampNeg (S2.1 29 v1.toNatClampNeg)) 1 v1.toNatClampNeg ((ms S2 0 v1.toNatClampNeg (S2.1 29 v1.toNatClampNeg)).1 30 v1.toNatClampNeg)).1 31 v1.toNatClampNeg)).1 35 v1.toNatClampNeg) : Int32)).1 16 v1.toNatClampNeg)) (v1 + 1) else mf_back_L20 N n (ms (ms (ms (ms (ms S2 0 v1.toNatClampNeg (S2.1 29 v1.toNatClampNeg)) 1 v1.toNatClampNeg ((ms S2 0 v1.toNatClampNeg (S2.1 29 v1.toNatClampNeg)).1 30 v1.toNatClampNeg)) 2 v1.toNatClampNeg ((ms (ms S2 0 v1.toNatClampNeg (S2.1 29 v1.toNatClampNeg)) 1 v1.toNatClampNeg ((ms S2 0 v1.toNatClampNeg (S2.1 29 v1.toNatClampNeg)).1 30 v1.toNatClampNeg)).1 31 v1.toNatClampNeg)) 15 v1.toNatClampNeg ((if ((ms (ms (ms S2 0 v1.toNatClampNeg (S2.1 29 v1.toNatClampNeg)) 1 v1.toNatClampNeg ((ms S2 0 v1.toNatClampNeg (S2.1 29 v1.toNatClampNeg)).1 30 v1.toNatClampNeg)) 2 v1.toNatClampNeg ((ms (ms S2 0 v1.toNatClampNeg (S2.1 29 v1.toNatClampNeg)) 1 v1.toNatClampNeg ((ms S2 0 v1.toNatClampNeg (S2.1 29 v1.toNatClampNeg)).1 30 v1.toNatClampNeg)).1 31 v1.toNatClampNeg)).1 27 0) ≤ v1 then (ms (ms (ms S2 0 v1.toNatClampNeg (S2.1 29 v1.toNatClampNeg)) 1 v1.toNatClampNeg ((ms S2 0 v1.toNatClampNeg (S2.1 29 v1.toNatClampNeg)).1 30 v1.toNatClampNeg)) 2 v1.toNatClampNeg ((ms (ms S2 0 v1.toNatClampNeg (S2.1 29 v1.toNatClampNeg)) 1 v1.toNatClampNeg ((ms S2 0 v1.toNatClampNeg (S2.1 29 v1.toNatClampNeg)).1 30 v1.toNatClampNeg)).1 31 v1.toNatClampNeg)).1 15 v1.toNatClampNeg else (ms (ms (ms S2 0 v1.toNatClampNeg (S2.1 29 v1.toNatClampNeg)) 1 v1.toNatClampNeg ((ms S2 0 v1.toNatClampNeg (S2.1 29 v1.toNatClampNeg)).1 30 v1.toNatClampNeg)) 2 v1.toNatClampNeg ((ms (ms S2 0 v1.toNatClampNeg (S2.1 29 v1.toNatClampNeg)) 1 v1.toNatClampNeg ((ms S2 0 v1.toNatClampNeg (S2.1 29 v1.toNatClampNeg)).1 30 v1.toNatClampNeg)).1 31 v1.toNatClampNeg)).1 35 v1.toNatClampNeg) : Int32)) 16 v1.toNatClampNeg ((ms (ms (ms (ms S2 0 v1.toNatClampNeg (S2.1 29 v1.toNatClampNeg)) 1 v1.toNatClampNeg ((ms S2 0 v1.toNatClampNeg (S2.1 29 v1.toNatClampNeg)).1 30 v1.toNatClampNeg)) 2 v1.toNatClampNeg ((ms (ms S2 0 v1.toNatClampNeg (S2.1 29 v1.toNatClampNeg)) 1 v1.toNatClampNeg ((ms S2 0 v1.toNatClampNeg (S2.1 29 v1.toNatClampNeg)).1 30 v1.toNatClampNeg)).1 31 v1.toNatClampNeg)) 15 v1.toNatClampNeg ((if ((ms (ms (ms S2 0 v1.toNatClampNeg (S2.1 29 v1.toNatClampNeg)) 1 v1.toNatClampNeg ((ms S2 0 v1.toNatClampNeg (S2.1 29 v1.toNatClampNeg)).1 30 v1.toNatClampNeg)) 2 v1.toNatClampNeg ((ms (ms S2 0 v1.toNatClampNeg (S2.1 29 v1.toNatClampNeg)) 1 v1.toNatClampNeg ((ms S2 0 v1.toNatClampNeg (S2.1 29 v1.toNatClampNeg)).1 30 v1.toNatClampNeg)).1 31 v1.toNatClampNeg)).1 27 0) ≤ v1 then (ms (ms (ms S2 0 v1.toNatClampNeg (S2.1 29 v1.toNatClampNeg)) 1 v1.toNatClampNeg ((ms S2 0 v1.toNatClampNeg (S2.1 29 v1.toNatClampNeg)).1 30 v1.toNatClampNeg)) 2 v1.toNatClampNeg ((ms (ms S2 0 v1.toNatClampNeg (S2.1 29 v1.toNatClampNeg)) 1 v1.toNatClampNeg ((ms S2 0 v1.toNatClampNeg (S2.1 29 v1.toNatClampNeg)).1 30 v1.toNatClampNeg)).1 31 v1.toNatClampNeg)).1 15 v1.toNatClampNeg else (ms (ms (ms S2 0 v1.toNatClampNeg (S2.1 29 v1.toNatClampNeg)) 1 v1.toNatClampNeg ((ms S2 0 v1.toNatClampNeg (S2.1 29 v1.toNatClampNeg)).1 30 v1.toNatClampNeg)) 2 v1.toNatClampNeg ((ms (ms S2 0 v1.toNatClampNeg (S2.1 29 v1.toNatClampNeg)) 1 v1.toNatClampNeg ((ms S2 0 v1.toNatClampNeg (S2.1 29 v1.toNatClampNeg)).1 30 v1.toNatClampNeg)).1 31 v1.toNatClampNeg)).1 35 v1.toNatClampNeg) : Int32)).1 36 v1.toNatClampNeg)) (v1 + 1)) else none))
set_option maxRecDepth 100000 in
theorem wm_back_L20 {p : Program} {l : Launch} {e : Env} {R : Room} {s : State} {m : MethodId} {args : Array Value} {below : List Frame} {meth : Method} {c : Code} {Q : State → Prop} {g : mG} {A : Nat → Prop} {H0 : Heap} (hc : qC RX12 cX12_back p s m args c) (hR : qRoom R 1) (hml : c.maxLocals = 3) (N : Nat) : ∀ (n : Nat) (S2 : mS) (v1 : Int32) (X : mS) (H : Heap) (locs : List Loc) (ls : Array Slot), mf_back_L20 N n S2 v1 = some X → mI g A H0 s S2 H locs → lv_has ls 3 [(0, .ref (mr g 0)), (1, .int v1)] → (∀ (H : Heap) (locs : List Loc) (ls : Array Slot), mI g A H0 s X H locs → lv_has ls 3 [(0, .ref (mr g 0))] → W p l e R s m args below meth c H locs 0 0 Q (F0 m 125 ls [])) → W p l e R s m args below meth c H locs 0 0 Q (F0 m 20 ls []) := by
  have hx := hc.1
  have hb := hc.2.1
  intro n
  induction n with
  | zero => intro _ _ X H locs ls hf; exact nomatch (show none = some X from hf)
  | succ n ih =>
    intro S2 v1 X H locs ls hf hw hl kx
    rw [mf_back_L20] at hf
    refine lv_iload_n hx hb dX12_back_20 rfl (lv_at hl 1 rfl) ?_
    refine lv_iconst (v := 4) hx hb dX12_back_21 (by decide) ?_
    refine lv_icmp_ge (tgt := 125) hx hb dX12_back_22 (by decide) (fun cn16 => ?_) (fun cn16 => ?_)
    · have hf := (if_pos cn16).symm.trans hf
      obtain rfl := Option.some.inj hf
      exact kx _ _ _ hw (lv_sub hl [0] rfl)
    · have hf := (if_neg cn16).symm.trans hf
      refine lv_aload_n hx hb dX12_back_25 rfl (lv_at hl 0 rfl) ?_
      refine m_g0 hc hw dX12_back_26 ?_
      refine lv_iload_n hx hb dX12_back_29 rfl (lv_at hl 1 rfl) ?_
      refine lv_aload_n hx hb dX12_back_30 rfl (lv_at hl 0 rfl) ?_
      refine m_g29 hc hw dX12_back_31 ?_
      refine lv_iload_n hx hb dX12_back_34 rfl (lv_at hl 1 rfl) ?_
      obtain ⟨hi3, hf⟩ := gd_some hf
      refine m_l29 hc hw (ok_in hi3) dX12_back_35 ?_
      refine m_s0 hc hw (ok_in hi3) dX12_back_36 (fun H locs hw => ?_)
      refine lv_aload_n hx hb dX12_back_37 rfl (lv_at hl 0 rfl) ?_
      refine m_g1 hc hw dX12_back_38 ?_
      refine lv_iload_n hx hb dX12_back_41 rfl (lv_at hl 1 rfl) ?_
      refine lv_aload_n hx hb dX12_back_42 rfl (lv_at hl 0 rfl) ?_
      refine m_g30 hc hw dX12_back_43 ?_
      refine lv_iload_n hx hb dX12_back_46 rfl (lv_at hl 1 rfl) ?_
      refine m_l30 hc hw (ok_in hi3) dX12_back_47 ?_
      refine m_s1 hc hw (ok_in hi3) dX12_back_48 (fun H locs hw => ?_)
      refine lv_aload_n hx hb dX12_back_49 rfl (lv_at hl 0 rfl) ?_
      refine m_g2 hc hw dX12_back_50 ?_
      refine lv_iload_n hx hb dX12_back_53 rfl (lv_at hl 1 rfl) ?_
      refine lv_aload_n hx hb dX12_back_54 rfl (lv_at hl 0 rfl) ?_
      refine m_g31 hc hw dX12_back_55 ?_
      refine lv_iload_n hx hb dX12_back_58 rfl (lv_at hl 1 rfl) ?_
      refine m_l31 hc hw (ok_in hi3) dX12_back_59 ?_
      refine m_s2 hc hw (ok_in hi3) dX12_back_60 (fun H locs hw => ?_)
      refine lv_aload_n hx hb dX12_back_61 rfl (lv_at hl 0 rfl) ?_
      refine m_g15 hc hw dX12_back_62 ?_
      refine lv_iload_n hx hb dX12_back_65 rfl (lv_at hl 1 rfl) ?_
      refine lv_iload_n hx hb dX12_back_66 rfl (lv_at hl 1 rfl) ?_
      refine lv_aload_n hx hb dX12_back_67 rfl (lv_at hl 0 rfl) ?_
      refine m_g27 hc hw dX12_back_68 ?_
      obtain ⟨v4, hv4⟩ : ∃ y : Int32, y = (if ((ms (ms (ms S2 0 v1.toNatClampNeg (S2.1 29 v1.toNatClampNeg)) 1 v1.toNatClampNeg ((ms S2 0 v1.toNatClampNeg (S2.1 29 v1.toNatClampNeg)).1 30 v1.toNatClampNeg)) 2 v1.toNatClampNeg ((ms (ms S2 0 v1.toNatClampNeg (S2.1 29 v1.toNatClampNeg)) 1 v1.toNatClampNeg ((ms S2 0 v1.toNatClampNeg (S2.1 29 v1.toNatClampNeg)).1 30 v1.toNatClampNeg)).1 31 v1.toNatClampNeg)).1 27 0) ≤ v1 then (ms (ms (ms S2 0 v1.toNatClampNeg (S2.1 29 v1.toNatClampNeg)) 1 v1.toNatClampNeg ((ms S2 0 v1.toNatClampNeg (S2.1 29 v1.toNatClampNeg)).1 30 v1.toNatClampNeg)) 2 v1.toNatClampNeg ((ms (ms S2 0 v1.toNatClampNeg (S2.1 29 v1.toNatClampNeg)) 1 v1.toNatClampNeg ((ms S2 0 v1.toNatClampNeg (S2.1 29 v1.toNatClampNeg)).1 30 v1.toNatClampNeg)).1 31 v1.toNatClampNeg)).1 15 v1.toNatClampNeg else (ms (ms (ms S2 0 v1.toNatClampNeg (S2.1 29 v1.toNatClampNeg)) 1 v1.toNatClampNeg ((ms S2 0 v1.toNatClampNeg (S2.1 29 v1.toNatClampNeg)).1 30 v1.toNatClampNeg)) 2 v1.toNatClampNeg ((ms (ms S2 0 v1.toNatClampNeg (S2.1 29 v1.toNatClampNeg)) 1 v1.toNatClampNeg ((ms S2 0 v1.toNatClampNeg (S2.1 29 v1.toNatClampNeg)).1 30 v1.toNatClampNeg)).1 31 v1.toNatClampNeg)).1 35 v1.toNatClampNeg) := ⟨_, rfl⟩
      try rw [← hv4] at hf
      have kJ18 : ∀ v4x : Int32, v4 = v4x → ∀ (H : Heap) (locs : List Loc) (ls : Array Slot), mI g A H0 s (ms (ms (ms S2 0 v1.toNatClampNeg (S2.1 29 v1.toNatClampNeg)) 1 v1.toNatClampNeg ((ms S2 0 v1.toNatClampNeg (S2.1 29 v1.toNatClampNeg)).1 30 v1.toNatClampNeg)) 2 v1.toNatClampNeg ((ms (ms S2 0 v1.toNatClampNeg (S2.1 29 v1.toNatClampNeg)) 1 v1.toNatClampNeg ((ms S2 0 v1.toNatClampNeg (S2.1 29 v1.toNatClampNeg)).1 30 v1.toNatClampNeg)).1 31 v1.toNatClampNeg)) H locs → lv_has ls 3 [(0, .ref (mr g 0)), (1, .int v1)] → W p l e R s m args below meth c H locs 0 0 Q (F0 m 89 ls [.int v4x, .int v1, .ref (mr g 16)]) := by
        intro v4x hxv4 H locs ls hw hl
        subst hxv4
        refine m_s15 hc hw (ok_in hi3) dX12_back_89 (fun H locs hw => ?_)
        refine lv_aload_n hx hb dX12_back_90 rfl (lv_at hl 0 rfl) ?_
        refine m_g16 hc hw dX12_back_91 ?_
        refine lv_iload_n hx hb dX12_back_94 rfl (lv_at hl 1 rfl) ?_
        refine lv_iload_n hx hb dX12_back_95 rfl (lv_at hl 1 rfl) ?_
        refine lv_aload_n hx hb dX12_back_96 rfl (lv_at hl 0 rfl) ?_
        refine m_g27 hc hw dX12_back_97 ?_
        refine lv_icmp_ge (tgt := 112) hx hb dX12_back_100 (by decide) (fun cn17 => ?_) (fun cn17 => ?_)
        · have hf := (if_pos cn17).symm.trans hf
          refine lv_aload_n hx hb dX12_back_112 rfl (lv_at hl 0 rfl) ?_
          refine m_g16 hc hw dX12_back_113 ?_
          refine lv_iload_n hx hb dX12_back_116 rfl (lv_at hl 1 rfl) ?_
          refine m_l16 hc hw (ok_in hi3) dX12_back_117 ?_
          refine m_s16 hc hw (ok_in hi3) dX12_back_118 (fun H locs hw => ?_)
          refine lv_iinc (lv' := [(1, .int (v1 + 1)), (0, .ref (mr g 0))]) hx hb dX12_back_119 hl (k := 1) rfl rfl (by decide) rfl (fun ls hl => ?_)
          refine lv_goto (tgt := 20) hx hb dX12_back_122 (by decide) ?_
          exact ih _ _ X _ _ _ hf hw (lv_sub hl [1, 0] rfl) kx
        · have hf := (if_neg cn17).symm.trans hf
          refine lv_aload_n hx hb dX12_back_103 rfl (lv_at hl 0 rfl) ?_
          refine m_g36 hc hw dX12_back_104 ?_
          refine lv_iload_n hx hb dX12_back_107 rfl (lv_at hl 1 rfl) ?_
          refine m_l36 hc hw (ok_in hi3) dX12_back_108 ?_
          refine lv_goto (tgt := 118) hx hb dX12_back_109 (by decide) ?_
          refine m_s16 hc hw (ok_in hi3) dX12_back_118 (fun H locs hw => ?_)
          refine lv_iinc (lv' := [(1, .int (v1 + 1)), (0, .ref (mr g 0))]) hx hb dX12_back_119 hl (k := 1) rfl rfl (by decide) rfl (fun ls hl => ?_)
          refine lv_goto (tgt := 20) hx hb dX12_back_122 (by decide) ?_
          exact ih _ _ X _ _ _ hf hw (lv_sub hl [1, 0] rfl) kx
      refine lv_icmp_ge (tgt := 83) hx hb dX12_back_71 (by decide) (fun cn19 => ?_) (fun cn19 => ?_)
      · refine lv_aload_n hx hb dX12_back_83 rfl (lv_at hl 0 rfl) ?_
        refine m_g15 hc hw dX12_back_84 ?_
        refine lv_iload_n hx hb dX12_back_87 rfl (lv_at hl 1 rfl) ?_
        refine m_l15 hc hw (ok_in hi3) dX12_back_88 ?_
        have ev4 : v4 = ((ms (ms (ms S2 0 v1.toNatClampNeg (S2.1 29 v1.toNatClampNeg)) 1 v1.toNatClampNeg ((ms S2 0 v1.toNatClampNeg (S2.1 29 v1.toNatClampNeg)).1 30 v1.toNatClampNeg)) 2 v1.toNatClampNeg ((ms (ms S2 0 v1.toNatClampNeg (S2.1 29 v1.toNatClampNeg)) 1 v1.toNatClampNeg ((ms S2 0 v1.toNatClampNeg (S2.1 29 v1.toNatClampNeg)).1 30 v1.toNatClampNeg)).1 31 v1.toNatClampNeg)).1 15 v1.toNatClampNeg) := by rw [hv4]; simp only [if_pos cn19]
        exact kJ18 _ ev4 _ _ _ hw (lv_sub hl [0, 1] rfl)
      · refine lv_aload_n hx hb dX12_back_74 rfl (lv_at hl 0 rfl) ?_
        refine m_g35 hc hw dX12_back_75 ?_
        refine lv_iload_n hx hb dX12_back_78 rfl (lv_at hl 1 rfl) ?_
        refine m_l35 hc hw (ok_in hi3) dX12_back_79 ?_
        refine lv_goto (tgt := 89) hx hb dX12_back_80 (by decide) ?_
        have ev4 : v4 = ((ms (ms (ms S2 0 v1.toNatClampNeg (S2.1 29 v1.toNatClampNeg)) 1 v1.toNatClampNeg ((ms S2 0 v1.toNatClampNeg (S2.1 29 v1.toNatClampNeg)).1 30 v1.toNatClampNeg)) 2 v1.toNatClampNeg ((ms (ms S2 0 v1.toNatClampNeg (S2.1 29 v1.toNatClampNeg)) 1 v1.toNatClampNeg ((ms S2 0 v1.toNatClampNeg (S2.1 29 v1.toNatClampNeg)).1 30 v1.toNatClampNeg)).1 31 v1.toNatClampNeg)).1 35 v1.toNatClampNeg) := by rw [hv4]; simp only [if_neg cn19]
        exact kJ18 _ ev4 _ _ _ hw (lv_sub hl [0, 1] rfl)
def mf_back_L161 (N : Nat) (c9 : Int32) : Nat → mS → Int32 → Option (mS)
  | 0, _, _ => none
  | n + 1, S11, v10 => (if 8 ≤ v10 then some S11 else (if ok ((8 * c9) + v10) 48 then mf_back_L161 N c9 n (ms S11 9 ((8 * c9) + v10).toNatClampNeg (S11.1 34 ((8 * c9) + v10).toNatClampNeg)) (v10 + 1) else none))
set_option maxRecDepth 100000 in
theorem wm_back_L161 {p : Program} {l : Launch} {e : Env} {R : Room} {s : State} {m : MethodId} {args : Array Value} {below : List Frame} {meth : Method} {c : Code} {Q : State → Prop} {g : mG} {A : Nat → Prop} {H0 : Heap} (hc : qC RX12 cX12_back p s m args c) (hR : qRoom R 1) (hml : c.maxLocals = 3) (N : Nat) (c9 : Int32) : ∀ (n : Nat) (S11 : mS) (v10 : Int32) (X : mS) (H : Heap) (locs : List Loc) (ls : Array Slot), mf_back_L161 N c9 n S11 v10 = some X → mI g A H0 s S11 H locs → lv_has ls 3 [(0, .ref (mr g 0)), (1, .int c9), (2, .int v10)] → (∀ (H : Heap) (locs : List Loc) (ls : Array Slot), mI g A H0 s X H locs → lv_has ls 3 [(0, .ref (mr g 0)), (1, .int c9)] → W p l e R s m args below meth c H locs 0 0 Q (F0 m 195 ls [])) → W p l e R s m args below meth c H locs 0 0 Q (F0 m 161 ls []) := by
  have hx := hc.1
  have hb := hc.2.1
  intro n
  induction n with
  | zero => intro _ _ X H locs ls hf; exact nomatch (show none = some X from hf)
  | succ n ih =>
    intro S11 v10 X H locs ls hf hw hl kx
    rw [mf_back_L161] at hf
    refine lv_iload_n hx hb dX12_back_161 rfl (lv_at hl 2 rfl) ?_
    refine lv_bipush (v := 8) hx hb dX12_back_162 (by decide) ?_
    refine lv_icmp_ge (tgt := 195) hx hb dX12_back_164 (by decide) (fun cn22 => ?_) (fun cn22 => ?_)
    · have hf := (if_pos cn22).symm.trans hf
      obtain rfl := Option.some.inj hf
      exact kx _ _ _ hw (lv_sub hl [0, 1] rfl)
    · have hf := (if_neg cn22).symm.trans hf
      refine lv_aload_n hx hb dX12_back_167 rfl (lv_at hl 0 rfl) ?_
      refine m_g9 hc hw dX12_back_168 ?_
      refine lv_bipush (v := 8) hx hb dX12_back_171 (by decide) ?_
      refine lv_iload_n hx hb dX12_back_173 rfl (lv_at hl 1 rfl) ?_
      refine lv_imul hx hb dX12_back_174 ?_
      refine lv_iload_n hx hb dX12_back_175 rfl (lv_at hl 2 rfl) ?_
      refine lv_iadd hx hb dX12_back_176 ?_
      refine lv_aload_n hx hb dX12_back_177 rfl (lv_at hl 0 rfl) ?_
      refine m_g34 hc hw dX12_back_178 ?_
      refine lv_bipush (v := 8) hx hb dX12_back_181 (by decide) ?_
      refine lv_iload_n hx hb dX12_back_183 rfl (lv_at hl 1 rfl) ?_
      refine lv_imul hx hb dX12_back_184 ?_
      refine lv_iload_n hx hb dX12_back_185 rfl (lv_at hl 2 rfl) ?_
      refine lv_iadd hx hb dX12_back_186 ?_
      obtain ⟨hi12, hf⟩ := gd_some hf
      refine m_l34 hc hw (ok_in hi12) dX12_back_187 ?_
      refine m_s9 hc hw (ok_in hi12) dX12_back_188 (fun H locs hw => ?_)
      refine lv_iinc (lv' := [(2, .int (v10 + 1)), (0, .ref (mr g 0)), (1, .int c9)]) hx hb dX12_back_189 hl (k := 2) rfl rfl (by decide) rfl (fun ls hl => ?_)
      refine lv_goto (tgt := 161) hx hb dX12_back_192 (by decide) ?_
      exact ih _ _ X _ _ _ hf hw (lv_sub hl [1, 2, 0] rfl) kx
def mf_back_L127 (N : Nat) : Nat → mS → Int32 → Option (mS)
  | 0, _, _ => none
  | n + 1, S7, v6 => (if (S7.1 26 0) ≤ v6 then some S7 else (if ok v6 6 then (bd1 (mf_back_L161 N v6 N (ms (ms S7 7 v6.toNatClampNeg (S7.1 32 v6.toNatClampNeg)) 8 v6.toNatClampNeg ((ms S7 7 v6.toNatClampNeg (S7.1 32 v6.toNatClampNeg)).1 33 v6.toNatClampNeg)) 0) fun S13 => mf_back_L127 N n S13 (v6 + 1)) else none))
set_option maxRecDepth 100000 in
theorem wm_back_L127 {p : Program} {l : Launch} {e : Env} {R : Room} {s : State} {m : MethodId} {args : Array Value} {below : List Frame} {meth : Method} {c : Code} {Q : State → Prop} {g : mG} {A : Nat → Prop} {H0 : Heap} (hc : qC RX12 cX12_back p s m args c) (hR : qRoom R 1) (hml : c.maxLocals = 3) (N : Nat) : ∀ (n : Nat) (S7 : mS) (v6 : Int32) (X : mS) (H : Heap) (locs : List Loc) (ls : Array Slot), mf_back_L127 N n S7 v6 = some X → mI g A H0 s S7 H locs → lv_has ls 3 [(0, .ref (mr g 0)), (1, .int v6)] → (∀ (H : Heap) (locs : List Loc) (ls : Array Slot), mI g A H0 s X H locs → lv_has ls 3 [(0, .ref (mr g 0))] → W p l e R s m args below meth c H locs 0 0 Q (F0 m 201 ls [])) → W p l e R s m args below meth c H locs 0 0 Q (F0 m 127 ls []) := by
  have hx := hc.1
  have hb := hc.2.1
  intro n
  induction n with
  | zero => intro _ _ X H locs ls hf; exact nomatch (show none = some X from hf)
  | succ n ih =>
    intro S7 v6 X H locs ls hf hw hl kx
    rw [mf_back_L127] at hf
    refine lv_iload_n hx hb dX12_back_127 rfl (lv_at hl 1 rfl) ?_
    refine lv_aload_n hx hb dX12_back_128 rfl (lv_at hl 0 rfl) ?_
    refine m_g26 hc hw dX12_back_129 ?_
    refine lv_icmp_ge (tgt := 201) hx hb dX12_back_132 (by decide) (fun cn21 => ?_) (fun cn21 => ?_)
    · have hf := (if_pos cn21).symm.trans hf
      obtain rfl := Option.some.inj hf
      exact kx _ _ _ hw (lv_sub hl [0] rfl)
    · have hf := (if_neg cn21).symm.trans hf
      refine lv_aload_n hx hb dX12_back_135 rfl (lv_at hl 0 rfl) ?_
      refine m_g7 hc hw dX12_back_136 ?_
      refine lv_iload_n hx hb dX12_back_139 rfl (lv_at hl 1 rfl) ?_
      refine lv_aload_n hx hb dX12_back_140 rfl (lv_at hl 0 rfl) ?_
      refine m_g32 hc hw dX12_back_141 ?_
      refine lv_iload_n hx hb dX12_back_144 rfl (lv_at hl 1 rfl) ?_
      obtain ⟨hi8, hf⟩ := gd_some hf
      refine m_l32 hc hw (ok_in hi8) dX12_back_145 ?_
      refine m_s7 hc hw (ok_in hi8) dX12_back_146 (fun H locs hw => ?_)
      refine lv_aload_n hx hb dX12_back_147 rfl (lv_at hl 0 rfl) ?_
      refine m_g8 hc hw dX12_back_148 ?_
      refine lv_iload_n hx hb dX12_back_151 rfl (lv_at hl 1 rfl) ?_
      refine lv_aload_n hx hb dX12_back_152 rfl (lv_at hl 0 rfl) ?_
      refine m_g33 hc hw dX12_back_153 ?_
      refine lv_iload_n hx hb dX12_back_156 rfl (lv_at hl 1 rfl) ?_
      refine m_l33 hc hw (ok_in hi8) dX12_back_157 ?_
      refine m_s8 hc hw (ok_in hi8) dX12_back_158 (fun H locs hw => ?_)
      refine lv_iconst (v := 0) hx hb dX12_back_159 (by decide) ?_
      refine lv_istore_n (lv' := [(2, .int 0), (0, .ref (mr g 0)), (1, .int v6)]) hx hb dX12_back_160 rfl hl (by decide) rfl (fun ls hl => ?_)
      obtain ⟨S13, hL, hf⟩ := bd1_some hf
      refine wm_back_L161 hc hR hml N v6 N _ _ _ _ _ _ hL hw (lv_sub hl [1, 2, 0] rfl) (fun H locs ls hw hl => ?_)
      refine lv_iinc (lv' := [(1, .int (v6 + 1)), (0, .ref (mr g 0))]) hx hb dX12_back_195 hl (k := 1) rfl rfl (by decide) rfl (fun ls hl => ?_)
      refine lv_goto (tgt := 127) hx hb dX12_back_198 (by decide) ?_
      exact ih _ _ X _ _ _ hf hw (lv_sub hl [1, 0] rfl) kx
def mf_back (N : Nat) (S : mS) : Option (Int32 × mS) := (if (S.1 25 0) = 0 then some ((-3), S) else (bd1 (mf_back_L20 N N (ms S 22 0 (S.1 28 0)) 0) fun S5 => (bd1 (mf_back_L127 N N S5 0) fun S14 => some (S14.1 3 0, S14))))
set_option maxRecDepth 100000 in
theorem cm_back (l : Launch) (N : Nat) (S : mS) (res : Int32) (S1 : mS) (hf : mf_back N S = some (res, S1)) : mMi l yX12_back cX12_back 3 .int 1 (fun g => [.ref (mr g 0)]) S res S1 := by
  refine mMi_of (own := RX12) (by decide) rfl rfl (fun g => Nat.le_of_ble_eq_true rfl) ?_
  intro p e R s m args below meth c Q g A H0 H locs ls hc hR hml hw hl hQ
  have hl : lv_has ls 3 [(0, .ref (mr g 0))] := hl
  have hx := hc.1
  have hb := hc.2.1
  unfold mf_back at hf
  refine lv_aload_n hx hb dX12_back_0 rfl (lv_at hl 0 rfl) ?_
  refine m_g25 hc hw dX12_back_1 ?_
  refine lv_if_ne (tgt := 10) hx hb dX12_back_4 (by decide) (fun cn15 => ?_) (fun cn15 => ?_)
  · have hf := (if_neg cn15).symm.trans hf
    refine lv_aload_n hx hb dX12_back_10 rfl (lv_at hl 0 rfl) ?_
    refine lv_aload_n hx hb dX12_back_11 rfl (lv_at hl 0 rfl) ?_
    refine m_g28 hc hw dX12_back_12 ?_
    refine m_p22 hc hw dX12_back_15 (fun H locs hw => ?_)
    refine lv_iconst (v := 0) hx hb dX12_back_18 (by decide) ?_
    refine lv_istore_n (lv' := [(1, .int 0), (0, .ref (mr g 0))]) hx hb dX12_back_19 rfl hl (by decide) rfl (fun ls hl => ?_)
    obtain ⟨S5, hL, hf⟩ := bd1_some hf
    refine wm_back_L20 hc hR hml N N _ _ _ _ _ _ hL hw (lv_sub hl [1, 0] rfl) (fun H locs ls hw hl => ?_)
    refine lv_iconst (v := 0) hx hb dX12_back_125 (by decide) ?_
    refine lv_istore_n (lv' := [(1, .int 0), (0, .ref (mr g 0))]) hx hb dX12_back_126 rfl hl (by decide) rfl (fun ls hl => ?_)
    obtain ⟨S14, hL, hf⟩ := bd1_some hf
    refine wm_back_L127 hc hR hml N N _ _ _ _ _ _ hL hw (lv_sub hl [1, 0] rfl) (fun H locs ls hw hl => ?_)
    refine lv_aload_n hx hb dX12_back_201 rfl (lv_at hl 0 rfl) ?_
    refine m_g3 hc hw dX12_back_202 ?_
    obtain ⟨rfl, rfl⟩ := pr2_some hf
    exact hQ _ _ _ _ dX12_back_205 hw
  · have hf := (if_pos cn15).symm.trans hf
    refine lv_bipush (v := (-3)) hx hb dX12_back_7 (by decide) ?_
    obtain ⟨rfl, rfl⟩ := pr2_some hf
    exact hQ _ _ _ _ dX12_back_9 hw
def mf_isUnder (a1 : Int32) (a2 : Int32) : Bool := (if a2 = 0 then true else (if a1 = a2 then true else (if a2 = 1 then (if a1 = 3 then true else (if a2 = 2 then (if a1 = 4 then true else false) else false)) else (if a2 = 2 then (if a1 = 4 then true else false) else false))))
set_option maxRecDepth 100000 in
theorem cm_isUnder (l : Launch) (S : mS) (a1 : Int32) (a2 : Int32) (res : Bool) (hf : mf_isUnder a1 a2 = res) : mMi l yX12_isUnder cX12_isUnder 2 .boolean 1 (fun g => [.int a1, .int a2]) S (bi res) S := by
  refine mMi_of (own := RX12) (by decide) rfl (narrow_bi _) (fun g => Nat.le_of_ble_eq_true rfl) ?_
  intro p e R s m args below meth c Q g A H0 H locs ls hc hR hml hw hl hQ
  have hl : lv_has ls 2 [(0, .int a1), (1, .int a2)] := hl
  have hx := hc.1
  have hb := hc.2.1
  unfold mf_isUnder at hf
  refine lv_iload_n hx hb dX12_isUnder_0 rfl (lv_at hl 1 rfl) ?_
  refine lv_if_eq (tgt := 29) hx hb dX12_isUnder_1 (by decide) (fun cn1 => ?_) (fun cn1 => ?_)
  · have hf := (if_pos cn1).symm.trans hf
    refine lv_iconst (v := 1) hx hb dX12_isUnder_29 (by decide) ?_
    refine lv_goto (tgt := 34) hx hb dX12_isUnder_30 (by decide) ?_
    obtain rfl := hf
    exact hQ _ _ _ _ dX12_isUnder_34 hw
  · have hf := (if_neg cn1).symm.trans hf
    refine lv_iload_n hx hb dX12_isUnder_4 rfl (lv_at hl 0 rfl) ?_
    refine lv_iload_n hx hb dX12_isUnder_5 rfl (lv_at hl 1 rfl) ?_
    refine lv_icmp_eq (tgt := 29) hx hb dX12_isUnder_6 (by decide) (fun cn2 => ?_) (fun cn2 => ?_)
    · have hf := (if_pos cn2).symm.trans hf
      refine lv_iconst (v := 1) hx hb dX12_isUnder_29 (by decide) ?_
      refine lv_goto (tgt := 34) hx hb dX12_isUnder_30 (by decide) ?_
      obtain rfl := hf
      exact hQ _ _ _ _ dX12_isUnder_34 hw
    · have hf := (if_neg cn2).symm.trans hf
      refine lv_iload_n hx hb dX12_isUnder_9 rfl (lv_at hl 1 rfl) ?_
      refine lv_iconst (v := 1) hx hb dX12_isUnder_10 (by decide) ?_
      refine lv_icmp_ne (tgt := 19) hx hb dX12_isUnder_11 (by decide) (fun cn3 => ?_) (fun cn3 => ?_)
      · have hf := (if_neg cn3).symm.trans hf
        refine lv_iload_n hx hb dX12_isUnder_19 rfl (lv_at hl 1 rfl) ?_
        refine lv_iconst (v := 2) hx hb dX12_isUnder_20 (by decide) ?_
        refine lv_icmp_ne (tgt := 33) hx hb dX12_isUnder_21 (by decide) (fun cn4 => ?_) (fun cn4 => ?_)
        · have hf := (if_neg cn4).symm.trans hf
          refine lv_iconst (v := 0) hx hb dX12_isUnder_33 (by decide) ?_
          obtain rfl := hf
          exact hQ _ _ _ _ dX12_isUnder_34 hw
        · have hf := (if_pos cn4).symm.trans hf
          refine lv_iload_n hx hb dX12_isUnder_24 rfl (lv_at hl 0 rfl) ?_
          refine lv_iconst (v := 4) hx hb dX12_isUnder_25 (by decide) ?_
          refine lv_icmp_ne (tgt := 33) hx hb dX12_isUnder_26 (by decide) (fun cn5 => ?_) (fun cn5 => ?_)
          · have hf := (if_neg cn5).symm.trans hf
            refine lv_iconst (v := 0) hx hb dX12_isUnder_33 (by decide) ?_
            obtain rfl := hf
            exact hQ _ _ _ _ dX12_isUnder_34 hw
          · have hf := (if_pos cn5).symm.trans hf
            refine lv_iconst (v := 1) hx hb dX12_isUnder_29 (by decide) ?_
            refine lv_goto (tgt := 34) hx hb dX12_isUnder_30 (by decide) ?_
            obtain rfl := hf
            exact hQ _ _ _ _ dX12_isUnder_34 hw
      · have hf := (if_pos cn3).symm.trans hf
        refine lv_iload_n hx hb dX12_isUnder_14 rfl (lv_at hl 0 rfl) ?_
        refine lv_iconst (v := 3) hx hb dX12_isUnder_15 (by decide) ?_
        refine lv_icmp_eq (tgt := 29) hx hb dX12_isUnder_16 (by decide) (fun cn6 => ?_) (fun cn6 => ?_)
        · have hf := (if_pos cn6).symm.trans hf
          refine lv_iconst (v := 1) hx hb dX12_isUnder_29 (by decide) ?_
          refine lv_goto (tgt := 34) hx hb dX12_isUnder_30 (by decide) ?_
          obtain rfl := hf
          exact hQ _ _ _ _ dX12_isUnder_34 hw
        · have hf := (if_neg cn6).symm.trans hf
          refine lv_iload_n hx hb dX12_isUnder_19 rfl (lv_at hl 1 rfl) ?_
          refine lv_iconst (v := 2) hx hb dX12_isUnder_20 (by decide) ?_
          refine lv_icmp_ne (tgt := 33) hx hb dX12_isUnder_21 (by decide) (fun cn7 => ?_) (fun cn7 => ?_)
          · have hf := (if_neg cn7).symm.trans hf
            refine lv_iconst (v := 0) hx hb dX12_isUnder_33 (by decide) ?_
            obtain rfl := hf
            exact hQ _ _ _ _ dX12_isUnder_34 hw
          · have hf := (if_pos cn7).symm.trans hf
            refine lv_iload_n hx hb dX12_isUnder_24 rfl (lv_at hl 0 rfl) ?_
            refine lv_iconst (v := 4) hx hb dX12_isUnder_25 (by decide) ?_
            refine lv_icmp_ne (tgt := 33) hx hb dX12_isUnder_26 (by decide) (fun cn8 => ?_) (fun cn8 => ?_)
            · have hf := (if_neg cn8).symm.trans hf
              refine lv_iconst (v := 0) hx hb dX12_isUnder_33 (by decide) ?_
              obtain rfl := hf
              exact hQ _ _ _ _ dX12_isUnder_34 hw
            · have hf := (if_pos cn8).symm.trans hf
              refine lv_iconst (v := 1) hx hb dX12_isUnder_29 (by decide) ?_
              refine lv_goto (tgt := 34) hx hb dX12_isUnder_30 (by decide) ?_
              obtain rfl := hf
              exact hQ _ _ _ _ dX12_isUnder_34 hw
theorem mq_isUnder : qCs RX12 392 yX12_isUnder cX12_isUnder 2 (some .boolean) 2 := ⟨⟨(mem_g 1687 (by decide +kernel) rfl), (mem_g 1688 (by decide +kernel) rfl), (mem_g 89 (by decide +kernel) rfl), (mem_g 1689 (by decide +kernel) rfl)⟩, by decide, by decide +kernel, by decide⟩
def mf_isRow (S : mS) (a1 : Int32) : Bool := mf_in a1 0 ((S.1 3 0) - 1)
set_option maxRecDepth 100000 in
theorem cm_isRow (l : Launch) (S : mS) (a1 : Int32) (res : Bool) (hf : mf_isRow S a1 = res) : mMi l yX12_isRow cX12_isRow 2 .boolean 2 (fun g => [.ref (mr g 0), .int a1]) S (bi res) S := by
  refine mMi_of (own := RX12) (by decide) rfl (narrow_bi _) (fun g => Nat.le_of_ble_eq_true rfl) ?_
  intro p e R s m args below meth c Q g A H0 H locs ls hc hR hml hw hl hQ
  have hl : lv_has ls 2 [(0, .ref (mr g 0)), (1, .int a1)] := hl
  have hx := hc.1
  have hb := hc.2.1
  unfold mf_isRow at hf
  refine lv_iload_n hx hb dX12_isRow_0 rfl (lv_at hl 1 rfl) ?_
  refine lv_iconst (v := 0) hx hb dX12_isRow_1 (by decide) ?_
  refine lv_aload_n hx hb dX12_isRow_2 rfl (lv_at hl 0 rfl) ?_
  refine m_g3 hc hw dX12_isRow_3 ?_
  refine lv_iconst (v := 1) hx hb dX12_isRow_6 (by decide) ?_
  refine lv_isub hx hb dX12_isRow_7 ?_
  refine m_csi (As := [.int a1, .int 0, .int ((S.1 3 0) - 1)]) (rest := []) hc hw hR (hml.trans hl.1.symm) (cm_in l S a1 0 ((S.1 3 0) - 1) _ rfl) mq_in (by decide) rfl rfl rfl (Nat.le_of_ble_eq_true rfl) dX12_isRow_8 (fun H locs hw => ?_) ⟨Nat.zero_le _, Nat.zero_le _⟩
  obtain rfl := hf
  exact hQ _ _ _ _ dX12_isRow_11 hw
theorem mq_isRow : qCv RX12 163 yX12_isRow cX12_isRow 2 (some .boolean) 1 := ⟨⟨(mem_g 1340 (by decide +kernel) rfl), (mem_g 1342 (by decide +kernel) rfl), (mem_g 34 (by decide +kernel) rfl), (mem_g 89 (by decide +kernel) rfl), (mem_g 1343 (by decide +kernel) rfl)⟩, by decide, by decide +kernel, by decide⟩
def mf_sort (N : Nat) (S : mS) (a1 : Int32) (a2 : Int32) (a3 : Int32) : Option (Int32 × mS) := (if (mf_in a1 0 3) = true then (if a2 = 0 then (if (mf_in a3 0 40) = true then (if ok a1 4 then some (S.1 0 a1.toNatClampNeg, ms S 0 a1.toNatClampNeg a3) else none) else (if a2 = 1 then (if (mf_in a3 0 40) = true then (if ok a1 4 then some (S.1 1 a1.toNatClampNeg, ms S 1 a1.toNatClampNeg a3) else none) else (if a2 = 2 then (if (mf_in a3 0 9) = true then (if ok a1 4 then some (S.1 2 a1.toNatClampNeg, ms S 2 a1.toNatClampNeg a3) else none) else some ((-2), S)) else some ((-2), S))) else (if a2 = 2 then (if (mf_in a3 0 9) = true then (if ok a1 4 then some (S.1 2 a1.toNatClampNeg, ms S 2 a1.toNatClampNeg a3) else none) else some ((-2), S)) else some ((-2), S)))) else (if a2 = 1 then (if (mf_in a3 0 40) = true then (if ok a1 4 then some (S.1 1 a1.toNatClampNeg, ms S 1 a1.toNatClampNeg a3) else none) else (if a2 = 2 then (if (mf_in a3 0 9) = true then (if ok a1 4 then some (S.1 2 a1.toNatClampNeg, ms S 2 a1.toNatClampNeg a3) else none) else some ((-2), S)) else some ((-2), S))) else (if a2 = 2 then (if (mf_in a3 0 9) = true then (if ok a1 4 then some (S.1 2 a1.toNatClampNeg, ms S 2 a1.toNatClampNeg a3) else none) else some ((-2), S)) else some ((-2), S)))) else some ((-1), S))
set_option maxRecDepth 100000 in
theorem cm_sort (l : Launch) (N : Nat) (S : mS) (a1 : Int32) (a2 : Int32) (a3 : Int32) (res : Int32) (S1 : mS) (hf : mf_sort N S a1 a2 a3 = some (res, S1)) : mMi l yX12_sort cX12_sort 5 .int 2 (fun g => [.ref (mr g 0), .int a1, .int a2, .int a3]) S res S1 := by
  refine mMi_of (own := RX12) (by decide) rfl rfl (fun g => Nat.le_of_ble_eq_true rfl) ?_
  intro p e R s m args below meth c Q g A H0 H locs ls hc hR hml hw hl hQ
  have hl : lv_has ls 5 [(0, .ref (mr g 0)), (1, .int a1), (2, .int a2), (3, .int a3)] := hl
  have hx := hc.1
  have hb := hc.2.1
  unfold mf_sort at hf
  refine lv_iload_n hx hb dX12_sort_0 rfl (lv_at hl 1 rfl) ?_
  refine lv_iconst (v := 0) hx hb dX12_sort_1 (by decide) ?_
  refine lv_iconst (v := 3) hx hb dX12_sort_2 (by decide) ?_
  refine m_csi (As := [.int a1, .int 0, .int 3]) (rest := []) hc hw hR (hml.trans hl.1.symm) (cm_in l S a1 0 3 _ rfl) mq_in (by decide) rfl rfl rfl (Nat.le_of_ble_eq_true rfl) dX12_sort_3 (fun H locs hw => ?_) ⟨Nat.zero_le _, Nat.zero_le _⟩
  refine lv_if_neb (tgt := 11) hx hb dX12_sort_6 (by decide) (fun cn8 => ?_) (fun cn8 => ?_)
  · have hf := (if_pos cn8).symm.trans hf
    refine lv_iload_n hx hb dX12_sort_11 rfl (lv_at hl 2 rfl) ?_
    refine lv_if_ne (tgt := 43) hx hb dX12_sort_12 (by decide) (fun cn9 => ?_) (fun cn9 => ?_)
    · have hf := (if_neg cn9).symm.trans hf
      refine lv_iload_n hx hb dX12_sort_43 rfl (lv_at hl 2 rfl) ?_
      refine lv_iconst (v := 1) hx hb dX12_sort_44 (by decide) ?_
      refine lv_icmp_ne (tgt := 76) hx hb dX12_sort_45 (by decide) (fun cn10 => ?_) (fun cn10 => ?_)
      · have hf := (if_neg cn10).symm.trans hf
        refine lv_iload_n hx hb dX12_sort_76 rfl (lv_at hl 2 rfl) ?_
        refine lv_iconst (v := 2) hx hb dX12_sort_77 (by decide) ?_
        refine lv_icmp_ne (tgt := 109) hx hb dX12_sort_78 (by decide) (fun cn11 => ?_) (fun cn11 => ?_)
        · have hf := (if_neg cn11).symm.trans hf
          refine lv_bipush (v := (-2)) hx hb dX12_sort_109 (by decide) ?_
          obtain ⟨rfl, rfl⟩ := pr2_some hf
          exact hQ _ _ _ _ dX12_sort_111 hw
        · have hf := (if_pos cn11).symm.trans hf
          refine lv_iload_n hx hb dX12_sort_81 rfl (lv_at hl 3 rfl) ?_
          refine lv_iconst (v := 0) hx hb dX12_sort_82 (by decide) ?_
          refine lv_bipush (v := 9) hx hb dX12_sort_83 (by decide) ?_
          refine m_csi (As := [.int a3, .int 0, .int 9]) (rest := []) hc hw hR (hml.trans hl.1.symm) (cm_in l S a3 0 9 _ rfl) mq_in (by decide) rfl rfl rfl (Nat.le_of_ble_eq_true rfl) dX12_sort_85 (fun H locs hw => ?_) ⟨Nat.zero_le _, Nat.zero_le _⟩
          refine lv_if_eqb (tgt := 109) hx hb dX12_sort_88 (by decide) (fun cn12 => ?_) (fun cn12 => ?_)
          · have hf := (if_neg cn12).symm.trans hf
            refine lv_bipush (v := (-2)) hx hb dX12_sort_109 (by decide) ?_
            obtain ⟨rfl, rfl⟩ := pr2_some hf
            exact hQ _ _ _ _ dX12_sort_111 hw
          · have hf := (if_pos cn12).symm.trans hf
            refine lv_aload_n hx hb dX12_sort_91 rfl (lv_at hl 0 rfl) ?_
            refine m_g2 hc hw dX12_sort_92 ?_
            refine lv_iload_n hx hb dX12_sort_95 rfl (lv_at hl 1 rfl) ?_
            obtain ⟨hi1, hf⟩ := gd_some hf
            refine m_l2 hc hw (ok_in hi1) dX12_sort_96 ?_
            refine lv_istore (lv' := [(4, .int (S.1 2 a1.toNatClampNeg)), (0, .ref (mr g 0)), (1, .int a1), (2, .int a2), (3, .int a3)]) hx hb dX12_sort_97 hl (by decide) rfl (fun ls hl => ?_)
            refine lv_aload_n hx hb dX12_sort_99 rfl (lv_at hl 1 rfl) ?_
            refine m_g2 hc hw dX12_sort_100 ?_
            refine lv_iload_n hx hb dX12_sort_103 rfl (lv_at hl 2 rfl) ?_
            refine lv_iload_n hx hb dX12_sort_104 rfl (lv_at hl 4 rfl) ?_
            refine m_s2 hc hw (ok_in hi1) dX12_sort_105 (fun H locs hw => ?_)
            refine lv_goto (tgt := 112) hx hb dX12_sort_106 (by decide) ?_
            refine lv_iload hx hb dX12_sort_112 (lv_at hl 0 rfl) ?_
            obtain ⟨rfl, rfl⟩ := pr2_some hf
            exact hQ _ _ _ _ dX12_sort_114 hw
      · have hf := (if_pos cn10).symm.trans hf
        refine lv_iload_n hx hb dX12_sort_48 rfl (lv_at hl 3 rfl) ?_
        refine lv_iconst (v := 0) hx hb dX12_sort_49 (by decide) ?_
        refine lv_bipush (v := 40) hx hb dX12_sort_50 (by decide) ?_
        refine m_csi (As := [.int a3, .int 0, .int 40]) (rest := []) hc hw hR (hml.trans hl.1.symm) (cm_in l S a3 0 40 _ rfl) mq_in (by decide) rfl rfl rfl (Nat.le_of_ble_eq_true rfl) dX12_sort_52 (fun H locs hw => ?_) ⟨Nat.zero_le _, Nat.zero_le _⟩
        refine lv_if_eqb (tgt := 76) hx hb dX12_sort_55 (by decide) (fun cn13 => ?_) (fun cn13 => ?_)
        · have hf := (if_neg cn13).symm.trans hf
          refine lv_iload_n hx hb dX12_sort_76 rfl (lv_at hl 2 rfl) ?_
          refine lv_iconst (v := 2) hx hb dX12_sort_77 (by decide) ?_
          refine lv_icmp_ne (tgt := 109) hx hb dX12_sort_78 (by decide) (fun cn14 => ?_) (fun cn14 => ?_)
          · have hf := (if_neg cn14).symm.trans hf
            refine lv_bipush (v := (-2)) hx hb dX12_sort_109 (by decide) ?_
            obtain ⟨rfl, rfl⟩ := pr2_some hf
            exact hQ _ _ _ _ dX12_sort_111 hw
          · have hf := (if_pos cn14).symm.trans hf
            refine lv_iload_n hx hb dX12_sort_81 rfl (lv_at hl 3 rfl) ?_
            refine lv_iconst (v := 0) hx hb dX12_sort_82 (by decide) ?_
            refine lv_bipush (v := 9) hx hb dX12_sort_83 (by decide) ?_
            refine m_csi (As := [.int a3, .int 0, .int 9]) (rest := []) hc hw hR (hml.trans hl.1.symm) (cm_in l S a3 0 9 _ rfl) mq_in (by decide) rfl rfl rfl (Nat.le_of_ble_eq_true rfl) dX12_sort_85 (fun H locs hw => ?_) ⟨Nat.zero_le _, Nat.zero_le _⟩
            refine lv_if_eqb (tgt := 109) hx hb dX12_sort_88 (by decide) (fun cn15 => ?_) (fun cn15 => ?_)
            · have hf := (if_neg cn15).symm.trans hf
              refine lv_bipush (v := (-2)) hx hb dX12_sort_109 (by decide) ?_
              obtain ⟨rfl, rfl⟩ := pr2_some hf
              exact hQ _ _ _ _ dX12_sort_111 hw
            · have hf := (if_pos cn15).symm.trans hf
              refine lv_aload_n hx hb dX12_sort_91 rfl (lv_at hl 0 rfl) ?_
              refine m_g2 hc hw dX12_sort_92 ?_
              refine lv_iload_n hx hb dX12_sort_95 rfl (lv_at hl 1 rfl) ?_
              obtain ⟨hi2, hf⟩ := gd_some hf
              refine m_l2 hc hw (ok_in hi2) dX12_sort_96 ?_
              refine lv_istore (lv' := [(4, .int (S.1 2 a1.toNatClampNeg)), (0, .ref (mr g 0)), (1, .int a1), (2, .int a2), (3, .int a3)]) hx hb dX12_sort_97 hl (by decide) rfl (fun ls hl => ?_)
              refine lv_aload_n hx hb dX12_sort_99 rfl (lv_at hl 1 rfl) ?_
              refine m_g2 hc hw dX12_sort_100 ?_
              refine lv_iload_n hx hb dX12_sort_103 rfl (lv_at hl 2 rfl) ?_
              refine lv_iload_n hx hb dX12_sort_104 rfl (lv_at hl 4 rfl) ?_
              refine m_s2 hc hw (ok_in hi2) dX12_sort_105 (fun H locs hw => ?_)
              refine lv_goto (tgt := 112) hx hb dX12_sort_106 (by decide) ?_
              refine lv_iload hx hb dX12_sort_112 (lv_at hl 0 rfl) ?_
              obtain ⟨rfl, rfl⟩ := pr2_some hf
              exact hQ _ _ _ _ dX12_sort_114 hw
        · have hf := (if_pos cn13).symm.trans hf
          refine lv_aload_n hx hb dX12_sort_58 rfl (lv_at hl 0 rfl) ?_
          refine m_g1 hc hw dX12_sort_59 ?_
          refine lv_iload_n hx hb dX12_sort_62 rfl (lv_at hl 1 rfl) ?_
          obtain ⟨hi3, hf⟩ := gd_some hf
          refine m_l1 hc hw (ok_in hi3) dX12_sort_63 ?_
          refine lv_istore (lv' := [(4, .int (S.1 1 a1.toNatClampNeg)), (0, .ref (mr g 0)), (1, .int a1), (2, .int a2), (3, .int a3)]) hx hb dX12_sort_64 hl (by decide) rfl (fun ls hl => ?_)
          refine lv_aload_n hx hb dX12_sort_66 rfl (lv_at hl 1 rfl) ?_
          refine m_g1 hc hw dX12_sort_67 ?_
          refine lv_iload_n hx hb dX12_sort_70 rfl (lv_at hl 2 rfl) ?_
          refine lv_iload_n hx hb dX12_sort_71 rfl (lv_at hl 4 rfl) ?_
          refine m_s1 hc hw (ok_in hi3) dX12_sort_72 (fun H locs hw => ?_)
          refine lv_goto (tgt := 112) hx hb dX12_sort_73 (by decide) ?_
          refine lv_iload hx hb dX12_sort_112 (lv_at hl 0 rfl) ?_
          obtain ⟨rfl, rfl⟩ := pr2_some hf
          exact hQ _ _ _ _ dX12_sort_114 hw
    · have hf := (if_pos cn9).symm.trans hf
      refine lv_iload_n hx hb dX12_sort_15 rfl (lv_at hl 3 rfl) ?_
      refine lv_iconst (v := 0) hx hb dX12_sort_16 (by decide) ?_
      refine lv_bipush (v := 40) hx hb dX12_sort_17 (by decide) ?_
      refine m_csi (As := [.int a3, .int 0, .int 40]) (rest := []) hc hw hR (hml.trans hl.1.symm) (cm_in l S a3 0 40 _ rfl) mq_in (by decide) rfl rfl rfl (Nat.le_of_ble_eq_true rfl) dX12_sort_19 (fun H locs hw => ?_) ⟨Nat.zero_le _, Nat.zero_le _⟩
      refine lv_if_eqb (tgt := 43) hx hb dX12_sort_22 (by decide) (fun cn16 => ?_) (fun cn16 => ?_)
      · have hf := (if_neg cn16).symm.trans hf
        refine lv_iload_n hx hb dX12_sort_43 rfl (lv_at hl 2 rfl) ?_
        refine lv_iconst (v := 1) hx hb dX12_sort_44 (by decide) ?_
        refine lv_icmp_ne (tgt := 76) hx hb dX12_sort_45 (by decide) (fun cn17 => ?_) (fun cn17 => ?_)
        · have hf := (if_neg cn17).symm.trans hf
          refine lv_iload_n hx hb dX12_sort_76 rfl (lv_at hl 2 rfl) ?_
          refine lv_iconst (v := 2) hx hb dX12_sort_77 (by decide) ?_
          refine lv_icmp_ne (tgt := 109) hx hb dX12_sort_78 (by decide) (fun cn18 => ?_) (fun cn18 => ?_)
          · have hf := (if_neg cn18).symm.trans hf
            refine lv_bipush (v := (-2)) hx hb dX12_sort_109 (by decide) ?_
            obtain ⟨rfl, rfl⟩ := pr2_some hf
            exact hQ _ _ _ _ dX12_sort_111 hw
          · have hf := (if_pos cn18).symm.trans hf
            refine lv_iload_n hx hb dX12_sort_81 rfl (lv_at hl 3 rfl) ?_
            refine lv_iconst (v := 0) hx hb dX12_sort_82 (by decide) ?_
            refine lv_bipush (v := 9) hx hb dX12_sort_83 (by decide) ?_
            refine m_csi (As := [.int a3, .int 0, .int 9]) (rest := []) hc hw hR (hml.trans hl.1.symm) (cm_in l S a3 0 9 _ rfl) mq_in (by decide) rfl rfl rfl (Nat.le_of_ble_eq_true rfl) dX12_sort_85 (fun H locs hw => ?_) ⟨Nat.zero_le _, Nat.zero_le _⟩
            refine lv_if_eqb (tgt := 109) hx hb dX12_sort_88 (by decide) (fun cn19 => ?_) (fun cn19 => ?_)
            · have hf := (if_neg cn19).symm.trans hf
              refine lv_bipush (v := (-2)) hx hb dX12_sort_109 (by decide) ?_
              obtain ⟨rfl, rfl⟩ := pr2_some hf
              exact hQ _ _ _ _ dX12_sort_111 hw
            · have hf := (if_pos cn19).symm.trans hf
              refine lv_aload_n hx hb dX12_sort_91 rfl (lv_at hl 0 rfl) ?_
              refine m_g2 hc hw dX12_sort_92 ?_
              refine lv_iload_n hx hb dX12_sort_95 rfl (lv_at hl 1 rfl) ?_
              obtain ⟨hi4, hf⟩ := gd_some hf
              refine m_l2 hc hw (ok_in hi4) dX12_sort_96 ?_
              refine lv_istore (lv' := [(4, .int (S.1 2 a1.toNatClampNeg)), (0, .ref (mr g 0)), (1, .int a1), (2, .int a2), (3, .int a3)]) hx hb dX12_sort_97 hl (by decide) rfl (fun ls hl => ?_)
              refine lv_aload_n hx hb dX12_sort_99 rfl (lv_at hl 1 rfl) ?_
              refine m_g2 hc hw dX12_sort_100 ?_
              refine lv_iload_n hx hb dX12_sort_103 rfl (lv_at hl 2 rfl) ?_
              refine lv_iload_n hx hb dX12_sort_104 rfl (lv_at hl 4 rfl) ?_
              refine m_s2 hc hw (ok_in hi4) dX12_sort_105 (fun H locs hw => ?_)
              refine lv_goto (tgt := 112) hx hb dX12_sort_106 (by decide) ?_
              refine lv_iload hx hb dX12_sort_112 (lv_at hl 0 rfl) ?_
              obtain ⟨rfl, rfl⟩ := pr2_some hf
              exact hQ _ _ _ _ dX12_sort_114 hw
        · have hf := (if_pos cn17).symm.trans hf
          refine lv_iload_n hx hb dX12_sort_48 rfl (lv_at hl 3 rfl) ?_
          refine lv_iconst (v := 0) hx hb dX12_sort_49 (by decide) ?_
          refine lv_bipush (v := 40) hx hb dX12_sort_50 (by decide) ?_
          refine m_csi (As := [.int a3, .int 0, .int 40]) (rest := []) hc hw hR (hml.trans hl.1.symm) (cm_in l S a3 0 40 _ rfl) mq_in (by decide) rfl rfl rfl (Nat.le_of_ble_eq_true rfl) dX12_sort_52 (fun H locs hw => ?_) ⟨Nat.zero_le _, Nat.zero_le _⟩
          refine lv_if_eqb (tgt := 76) hx hb dX12_sort_55 (by decide) (fun cn20 => ?_) (fun cn20 => ?_)
          · have hf := (if_neg cn20).symm.trans hf
            refine lv_iload_n hx hb dX12_sort_76 rfl (lv_at hl 2 rfl) ?_
            refine lv_iconst (v := 2) hx hb dX12_sort_77 (by decide) ?_
            refine lv_icmp_ne (tgt := 109) hx hb dX12_sort_78 (by decide) (fun cn21 => ?_) (fun cn21 => ?_)
            · have hf := (if_neg cn21).symm.trans hf
              refine lv_bipush (v := (-2)) hx hb dX12_sort_109 (by decide) ?_
              obtain ⟨rfl, rfl⟩ := pr2_some hf
              exact hQ _ _ _ _ dX12_sort_111 hw
            · have hf := (if_pos cn21).symm.trans hf
              refine lv_iload_n hx hb dX12_sort_81 rfl (lv_at hl 3 rfl) ?_
              refine lv_iconst (v := 0) hx hb dX12_sort_82 (by decide) ?_
              refine lv_bipush (v := 9) hx hb dX12_sort_83 (by decide) ?_
              refine m_csi (As := [.int a3, .int 0, .int 9]) (rest := []) hc hw hR (hml.trans hl.1.symm) (cm_in l S a3 0 9 _ rfl) mq_in (by decide) rfl rfl rfl (Nat.le_of_ble_eq_true rfl) dX12_sort_85 (fun H locs hw => ?_) ⟨Nat.zero_le _, Nat.zero_le _⟩
              refine lv_if_eqb (tgt := 109) hx hb dX12_sort_88 (by decide) (fun cn22 => ?_) (fun cn22 => ?_)
              · have hf := (if_neg cn22).symm.trans hf
                refine lv_bipush (v := (-2)) hx hb dX12_sort_109 (by decide) ?_
                obtain ⟨rfl, rfl⟩ := pr2_some hf
                exact hQ _ _ _ _ dX12_sort_111 hw
              · have hf := (if_pos cn22).symm.trans hf
                refine lv_aload_n hx hb dX12_sort_91 rfl (lv_at hl 0 rfl) ?_
                refine m_g2 hc hw dX12_sort_92 ?_
                refine lv_iload_n hx hb dX12_sort_95 rfl (lv_at hl 1 rfl) ?_
                obtain ⟨hi5, hf⟩ := gd_some hf
                refine m_l2 hc hw (ok_in hi5) dX12_sort_96 ?_
                refine lv_istore (lv' := [(4, .int (S.1 2 a1.toNatClampNeg)), (0, .ref (mr g 0)), (1, .int a1), (2, .int a2), (3, .int a3)]) hx hb dX12_sort_97 hl (by decide) rfl (fun ls hl => ?_)
                refine lv_aload_n hx hb dX12_sort_99 rfl (lv_at hl 1 rfl) ?_
                refine m_g2 hc hw dX12_sort_100 ?_
                refine lv_iload_n hx hb dX12_sort_103 rfl (lv_at hl 2 rfl) ?_
                refine lv_iload_n hx hb dX12_sort_104 rfl (lv_at hl 4 rfl) ?_
                refine m_s2 hc hw (ok_in hi5) dX12_sort_105 (fun H locs hw => ?_)
                refine lv_goto (tgt := 112) hx hb dX12_sort_106 (by decide) ?_
                refine lv_iload hx hb dX12_sort_112 (lv_at hl 0 rfl) ?_
                obtain ⟨rfl, rfl⟩ := pr2_some hf
                exact hQ _ _ _ _ dX12_sort_114 hw
          · have hf := (if_pos cn20).symm.trans hf
            refine lv_aload_n hx hb dX12_sort_58 rfl (lv_at hl 0 rfl) ?_
            refine m_g1 hc hw dX12_sort_59 ?_
            refine lv_iload_n hx hb dX12_sort_62 rfl (lv_at hl 1 rfl) ?_
            obtain ⟨hi6, hf⟩ := gd_some hf
            refine m_l1 hc hw (ok_in hi6) dX12_sort_63 ?_
            refine lv_istore (lv' := [(4, .int (S.1 1 a1.toNatClampNeg)), (0, .ref (mr g 0)), (1, .int a1), (2, .int a2), (3, .int a3)]) hx hb dX12_sort_64 hl (by decide) rfl (fun ls hl => ?_)
            refine lv_aload_n hx hb dX12_sort_66 rfl (lv_at hl 1 rfl) ?_
            refine m_g1 hc hw dX12_sort_67 ?_
            refine lv_iload_n hx hb dX12_sort_70 rfl (lv_at hl 2 rfl) ?_
            refine lv_iload_n hx hb dX12_sort_71 rfl (lv_at hl 4 rfl) ?_
            refine m_s1 hc hw (ok_in hi6) dX12_sort_72 (fun H locs hw => ?_)
            refine lv_goto (tgt := 112) hx hb dX12_sort_73 (by decide) ?_
            refine lv_iload hx hb dX12_sort_112 (lv_at hl 0 rfl) ?_
            obtain ⟨rfl, rfl⟩ := pr2_some hf
            exact hQ _ _ _ _ dX12_sort_114 hw
      · have hf := (if_pos cn16).symm.trans hf
        refine lv_aload_n hx hb dX12_sort_25 rfl (lv_at hl 0 rfl) ?_
        refine m_g0 hc hw dX12_sort_26 ?_
        refine lv_iload_n hx hb dX12_sort_29 rfl (lv_at hl 1 rfl) ?_
        obtain ⟨hi7, hf⟩ := gd_some hf
        refine m_l0 hc hw (ok_in hi7) dX12_sort_30 ?_
        refine lv_istore (lv' := [(4, .int (S.1 0 a1.toNatClampNeg)), (0, .ref (mr g 0)), (1, .int a1), (2, .int a2), (3, .int a3)]) hx hb dX12_sort_31 hl (by decide) rfl (fun ls hl => ?_)
        refine lv_aload_n hx hb dX12_sort_33 rfl (lv_at hl 1 rfl) ?_
        refine m_g0 hc hw dX12_sort_34 ?_
        refine lv_iload_n hx hb dX12_sort_37 rfl (lv_at hl 2 rfl) ?_
        refine lv_iload_n hx hb dX12_sort_38 rfl (lv_at hl 4 rfl) ?_
        refine m_s0 hc hw (ok_in hi7) dX12_sort_39 (fun H locs hw => ?_)
        refine lv_goto (tgt := 112) hx hb dX12_sort_40 (by decide) ?_
        refine lv_iload hx hb dX12_sort_112 (lv_at hl 0 rfl) ?_
        obtain ⟨rfl, rfl⟩ := pr2_some hf
        exact hQ _ _ _ _ dX12_sort_114 hw
  · have hf := (if_neg cn8).symm.trans hf
    refine lv_iconst (v := (-1)) hx hb dX12_sort_9 (by decide) ?_
    obtain ⟨rfl, rfl⟩ := pr2_some hf
    exact hQ _ _ _ _ dX12_sort_10 hw
def mf_row (N : Nat) (S : mS) (a1 : Int32) (a2 : Int32) (a3 : Int32) : Option (Int32 × mS) := (if (mf_in a1 0 5) = true then (if (mf_in a2 1 8) = true then (if (mf_in a3 0 20) = true then (if (S.1 3 0) = 6 then some ((-4), S) else (if ok (S.1 3 0) 6 then (if ok ((ms S 4 (S.1 3 0).toNatClampNeg a1).1 3 0) 6 then (if ok ((ms (ms S 4 (S.1 3 0).toNatClampNeg a1) 5 ((ms S 4 (S.1 3 0).toNatClampNeg a1).1 3 0).toNatClampNeg a2).1 3 0) 6 then some (((ms (ms (ms (ms S 4 (S.1 3 0).toNatClampNeg a1) 5 ((ms S 4 (S.1 3 0).toNatClampNeg a1).1 3 0).toNatClampNeg a2) 6 ((ms (ms S 4 (S.1 3 0).toNatClampNeg a1) 5 ((ms S 4 (S.1 3 0).toNatClampNeg a1).1 3 0).toNatClampNeg a2).1 3 0).toNatClampNeg a3) 3 0 (((ms (ms (ms S 4 (S.1 3 0).toNatClampNeg a1) 5 ((ms S 4 (S.1 3 0).toNatClampNeg a1).1 3 0).toNatClampNeg a2) 6 ((ms (ms S 4 (S.1 3 0).toNatClampNeg a1) 5 ((ms S 4 (S.1 3 0).toNatClampNeg a1).1 3 0).toNatClampNeg a2).1 3 0).toNatClampNeg a3).1 3 0) + 1)).1 3 0) - 1, ms (ms (ms (ms S 4 (S.1 3 0).toNatClampNeg a1) 5 ((ms S 4 (S.1 3 0).toNatClampNeg a1).1 3 0).toNatClampNeg a2) 6 ((ms (ms S 4 (S.1 3 0).toNatClampNeg a1) 5 ((ms S 4 (S.1 3 0).toNatClampNeg a1).1 3 0).toNatClampNeg a2).1 3 0).toNatClampNeg a3) 3 0 (((ms (ms (ms S 4 (S.1 3 0).toNatClampNeg a1) 5 ((ms S 4 (S.1 3 0).toNatClampNeg a1).1 3 0).toNatClampNeg a2) 6 ((ms (ms S 4 (S.1 3 0).toNatClampNeg a1) 5 ((ms S 4 (S.1 3 0).toNatClampNeg a1).1 3 0).toNatClampNeg a2).1 3 0).toNatClampNeg a3).1 3 0) + 1)) else none) else none) else none)) else some ((-2), S)) else some ((-2), S)) else some ((-2), S))
set_option maxRecDepth 100000 in
theorem cm_row (l : Launch) (N : Nat) (S : mS) (a1 : Int32) (a2 : Int32) (a3 : Int32) (res : Int32) (S1 : mS) (hf : mf_row N S a1 a2 a3 = some (res, S1)) : mMi l yX12_row cX12_row 4 .int 2 (fun g => [.ref (mr g 0), .int a1, .int a2, .int a3]) S res S1 := by
  refine mMi_of (own := RX12) (by decide) rfl rfl (fun g => Nat.le_of_ble_eq_true rfl) ?_
  intro p e R s m args below meth c Q g A H0 H locs ls hc hR hml hw hl hQ
  have hl : lv_has ls 4 [(0, .ref (mr g 0)), (1, .int a1), (2, .int a2), (3, .int a3)] := hl
  have hx := hc.1
  have hb := hc.2.1
  unfold mf_row at hf
  refine lv_iload_n hx hb dX12_row_0 rfl (lv_at hl 1 rfl) ?_
  refine lv_iconst (v := 0) hx hb dX12_row_1 (by decide) ?_
  refine lv_iconst (v := 5) hx hb dX12_row_2 (by decide) ?_
  refine m_csi (As := [.int a1, .int 0, .int 5]) (rest := []) hc hw hR (hml.trans hl.1.symm) (cm_in l S a1 0 5 _ rfl) mq_in (by decide) rfl rfl rfl (Nat.le_of_ble_eq_true rfl) dX12_row_3 (fun H locs hw => ?_) ⟨Nat.zero_le _, Nat.zero_le _⟩
  refine lv_if_eqb (tgt := 29) hx hb dX12_row_6 (by decide) (fun cn4 => ?_) (fun cn4 => ?_)
  · have hf := (if_neg cn4).symm.trans hf
    refine lv_bipush (v := (-2)) hx hb dX12_row_29 (by decide) ?_
    obtain ⟨rfl, rfl⟩ := pr2_some hf
    exact hQ _ _ _ _ dX12_row_31 hw
  · have hf := (if_pos cn4).symm.trans hf
    refine lv_iload_n hx hb dX12_row_9 rfl (lv_at hl 2 rfl) ?_
    refine lv_iconst (v := 1) hx hb dX12_row_10 (by decide) ?_
    refine lv_bipush (v := 8) hx hb dX12_row_11 (by decide) ?_
    refine m_csi (As := [.int a2, .int 1, .int 8]) (rest := []) hc hw hR (hml.trans hl.1.symm) (cm_in l S a2 1 8 _ rfl) mq_in (by decide) rfl rfl rfl (Nat.le_of_ble_eq_true rfl) dX12_row_13 (fun H locs hw => ?_) ⟨Nat.zero_le _, Nat.zero_le _⟩
    refine lv_if_eqb (tgt := 29) hx hb dX12_row_16 (by decide) (fun cn5 => ?_) (fun cn5 => ?_)
    · have hf := (if_neg cn5).symm.trans hf
      refine lv_bipush (v := (-2)) hx hb dX12_row_29 (by decide) ?_
      obtain ⟨rfl, rfl⟩ := pr2_some hf
      exact hQ _ _ _ _ dX12_row_31 hw
    · have hf := (if_pos cn5).symm.trans hf
      refine lv_iload_n hx hb dX12_row_19 rfl (lv_at hl 3 rfl) ?_
      refine lv_iconst (v := 0) hx hb dX12_row_20 (by decide) ?_
      refine lv_bipush (v := 20) hx hb dX12_row_21 (by decide) ?_
      refine m_csi (As := [.int a3, .int 0, .int 20]) (rest := []) hc hw hR (hml.trans hl.1.symm) (cm_in l S a3 0 20 _ rfl) mq_in (by decide) rfl rfl rfl (Nat.le_of_ble_eq_true rfl) dX12_row_23 (fun H locs hw => ?_) ⟨Nat.zero_le _, Nat.zero_le _⟩
      refine lv_if_neb (tgt := 32) hx hb dX12_row_26 (by decide) (fun cn6 => ?_) (fun cn6 => ?_)
      · have hf := (if_pos cn6).symm.trans hf
        refine lv_aload_n hx hb dX12_row_32 rfl (lv_at hl 0 rfl) ?_
        refine m_g3 hc hw dX12_row_33 ?_
        refine lv_bipush (v := 6) hx hb dX12_row_36 (by decide) ?_
        refine lv_icmp_ne (tgt := 44) hx hb dX12_row_38 (by decide) (fun cn7 => ?_) (fun cn7 => ?_)
        · have hf := (if_neg cn7).symm.trans hf
          refine lv_aload_n hx hb dX12_row_44 rfl (lv_at hl 0 rfl) ?_
          refine m_g4 hc hw dX12_row_45 ?_
          refine lv_aload_n hx hb dX12_row_48 rfl (lv_at hl 0 rfl) ?_
          refine m_g3 hc hw dX12_row_49 ?_
          refine lv_iload_n hx hb dX12_row_52 rfl (lv_at hl 1 rfl) ?_
          obtain ⟨hi1, hf⟩ := gd_some hf
          refine m_s4 hc hw (ok_in hi1) dX12_row_53 (fun H locs hw => ?_)
          refine lv_aload_n hx hb dX12_row_54 rfl (lv_at hl 0 rfl) ?_
          refine m_g5 hc hw dX12_row_55 ?_
          refine lv_aload_n hx hb dX12_row_58 rfl (lv_at hl 0 rfl) ?_
          refine m_g3 hc hw dX12_row_59 ?_
          refine lv_iload_n hx hb dX12_row_62 rfl (lv_at hl 2 rfl) ?_
          obtain ⟨hi2, hf⟩ := gd_some hf
          refine m_s5 hc hw (ok_in hi2) dX12_row_63 (fun H locs hw => ?_)
          refine lv_aload_n hx hb dX12_row_64 rfl (lv_at hl 0 rfl) ?_
          refine m_g6 hc hw dX12_row_65 ?_
          refine lv_aload_n hx hb dX12_row_68 rfl (lv_at hl 0 rfl) ?_
          refine m_g3 hc hw dX12_row_69 ?_
          refine lv_iload_n hx hb dX12_row_72 rfl (lv_at hl 3 rfl) ?_
          obtain ⟨hi3, hf⟩ := gd_some hf
          refine m_s6 hc hw (ok_in hi3) dX12_row_73 (fun H locs hw => ?_)
          refine lv_aload_n hx hb dX12_row_74 rfl (lv_at hl 0 rfl) ?_
          refine lv_dup hx hb dX12_row_75 rfl ?_
          refine m_g3 hc hw dX12_row_76 ?_
          refine lv_iconst (v := 1) hx hb dX12_row_79 (by decide) ?_
          refine lv_iadd hx hb dX12_row_80 ?_
          refine m_p3 hc hw dX12_row_81 (fun H locs hw => ?_)
          refine lv_aload_n hx hb dX12_row_84 rfl (lv_at hl 0 rfl) ?_
          refine m_g3 hc hw dX12_row_85 ?_
          refine lv_iconst (v := 1) hx hb dX12_row_88 (by decide) ?_
          refine lv_isub hx hb dX12_row_89 ?_
          obtain ⟨rfl, rfl⟩ := pr2_some hf
          exact hQ _ _ _ _ dX12_row_90 hw
        · have hf := (if_pos cn7).symm.trans hf
          refine lv_bipush (v := (-4)) hx hb dX12_row_41 (by decide) ?_
          obtain ⟨rfl, rfl⟩ := pr2_some hf
          exact hQ _ _ _ _ dX12_row_43 hw
      · have hf := (if_neg cn6).symm.trans hf
        refine lv_bipush (v := (-2)) hx hb dX12_row_29 (by decide) ?_
        obtain ⟨rfl, rfl⟩ := pr2_some hf
        exact hQ _ _ _ _ dX12_row_31 hw
def mf_above (N : Nat) (S : mS) (a1 : Int32) (a2 : Int32) : Option (Int32) := (if ok a1 6 then (bd1 (mf_floorOf N S a1) fun v3 => (if a2 ≤ ((if (S.1 4 a1.toNatClampNeg) = 5 then S.1 6 a1.toNatClampNeg else 0) : Int32) then some (v3 + 0) else some (v3 + (a2 - ((if (S.1 4 a1.toNatClampNeg) = 5 then S.1 6 a1.toNatClampNeg else 0) : Int32))))) else none)
set_option maxRecDepth 100000 in
theorem cm_above (l : Launch) (N : Nat) (S : mS) (a1 : Int32) (a2 : Int32) (res : Int32) (hf : mf_above N S a1 a2 = some res) : mMi l yX12_above cX12_above 4 .int 2 (fun g => [.ref (mr g 0), .int a1, .int a2]) S res S := by
  refine mMi_of (own := RX12) (by decide) rfl rfl (fun g => Nat.le_of_ble_eq_true rfl) ?_
  intro p e R s m args below meth c Q g A H0 H locs ls hc hR hml hw hl hQ
  have hl : lv_has ls 4 [(0, .ref (mr g 0)), (1, .int a1), (2, .int a2)] := hl
  have hx := hc.1
  have hb := hc.2.1
  unfold mf_above at hf
  refine lv_aload_n hx hb dX12_above_0 rfl (lv_at hl 0 rfl) ?_
  refine m_g4 hc hw dX12_above_1 ?_
  refine lv_iload_n hx hb dX12_above_4 rfl (lv_at hl 1 rfl) ?_
  obtain ⟨hi1, hf⟩ := gd_some hf
  refine m_l4 hc hw (ok_in hi1) dX12_above_5 ?_
  refine lv_iconst (v := 5) hx hb dX12_above_6 (by decide) ?_
  obtain ⟨v2, hv2⟩ : ∃ y : Int32, y = (if (S.1 4 a1.toNatClampNeg) = 5 then S.1 6 a1.toNatClampNeg else 0) := ⟨_, rfl⟩
  try rw [← hv2] at hf
  have kJ5 : ∀ v2x : Int32, v2 = v2x → ∀ (H : Heap) (locs : List Loc) (ls : Array Slot), mI g A H0 s S H locs → lv_has ls 4 [(0, .ref (mr g 0)), (1, .int a1), (2, .int a2)] → W p l e R s m args below meth c H locs 0 0 Q (F0 m 20 ls [.int v2x]) := by
    intro v2x hxv2 H locs ls hw hl
    subst hxv2
    refine lv_istore_n (lv' := [(3, .int v2), (0, .ref (mr g 0)), (1, .int a1), (2, .int a2)]) hx hb dX12_above_20 rfl hl (by decide) rfl (fun ls hl => ?_)
    refine lv_aload_n hx hb dX12_above_21 rfl (lv_at hl 1 rfl) ?_
    refine lv_iload_n hx hb dX12_above_22 rfl (lv_at hl 2 rfl) ?_
    obtain ⟨v3, hcall, hf⟩ := bd1_some hf
    refine m_cvi (As := [.int a1]) (rest := []) hc hw hR (hml.trans hl.1.symm) (cm_floorOf l N S a1 v3 hcall) mq_floorOf rfl (by decide) rfl rfl rfl (Nat.le_of_ble_eq_true rfl) dX12_above_23 (fun H locs hw => ?_) ⟨Nat.zero_le _, Nat.zero_le _⟩
    refine lv_iload_n hx hb dX12_above_26 rfl (lv_at hl 3 rfl) ?_
    refine lv_iload_n hx hb dX12_above_27 rfl (lv_at hl 0 rfl) ?_
    refine lv_icmp_le (tgt := 37) hx hb dX12_above_28 (by decide) (fun cn4 => ?_) (fun cn4 => ?_)
    · have hf := (if_pos cn4).symm.trans hf
      refine lv_iconst (v := 0) hx hb dX12_above_37 (by decide) ?_
      refine lv_iadd hx hb dX12_above_38 ?_
      obtain rfl := Option.some.inj hf
      exact hQ _ _ _ _ dX12_above_39 hw
    · have hf := (if_neg cn4).symm.trans hf
      refine lv_iload_n hx hb dX12_above_31 rfl (lv_at hl 3 rfl) ?_
      refine lv_iload_n hx hb dX12_above_32 rfl (lv_at hl 0 rfl) ?_
      refine lv_isub hx hb dX12_above_33 ?_
      refine lv_goto (tgt := 38) hx hb dX12_above_34 (by decide) ?_
      refine lv_iadd hx hb dX12_above_38 ?_
      obtain rfl := Option.some.inj hf
      exact hQ _ _ _ _ dX12_above_39 hw
  refine lv_icmp_ne (tgt := 19) hx hb dX12_above_7 (by decide) (fun cn6 => ?_) (fun cn6 => ?_)
  · refine lv_iconst (v := 0) hx hb dX12_above_19 (by decide) ?_
    have ev2 : v2 = (0 : Int32) := by rw [hv2]; simp only [if_neg cn6]
    exact kJ5 _ ev2 _ _ _ hw (lv_sub hl [0, 1, 2] rfl)
  · refine lv_aload_n hx hb dX12_above_10 rfl (lv_at hl 0 rfl) ?_
    refine m_g6 hc hw dX12_above_11 ?_
    refine lv_iload_n hx hb dX12_above_14 rfl (lv_at hl 1 rfl) ?_
    refine m_l6 hc hw (ok_in hi1) dX12_above_15 ?_
    refine lv_goto (tgt := 20) hx hb dX12_above_16 (by decide) ?_
    have ev2 : v2 = (S.1 6 a1.toNatClampNeg) := by rw [hv2]; simp only [if_pos cn6]
    exact kJ5 _ ev2 _ _ _ hw (lv_sub hl [0, 1, 2] rfl)
theorem mq_above : qCv RX12 175 yX12_above cX12_above 4 (some .int) 2 := ⟨⟨(mem_g 1372 (by decide +kernel) rfl), (mem_g 1374 (by decide +kernel) rfl), (mem_g 40 (by decide +kernel) rfl), (mem_g 89 (by decide +kernel) rfl), (mem_g 1375 (by decide +kernel) rfl)⟩, by decide, by decide +kernel, by decide⟩
def mf_point (N : Nat) (S : mS) (a1 : Int32) (a2 : Int32) (a3 : Int32) : Option (Int32 × mS) := (if (mf_in a1 0 20) = true then (if (mf_in a2 0 60) = true then (if (mf_in a3 0 99) = true then (if (S.1 10 0) = 6 then some ((-4), S) else (if ok (S.1 10 0) 6 then (if ok ((ms S 11 (S.1 10 0).toNatClampNeg a1).1 10 0) 6 then (if ok ((ms (ms S 11 (S.1 10 0).toNatClampNeg a1) 12 ((ms S 11 (S.1 10 0).toNatClampNeg a1).1 10 0).toNatClampNeg a2).1 10 0) 6 then some (((ms (ms (ms (ms S 11 (S.1 10 0).toNatClampNeg a1) 12 ((ms S 11 (S.1 10 0).toNatClampNeg a1).1 10 0).toNatClampNeg a2) 13 ((ms (ms S 11 (S.1 10 0).toNatClampNeg a1) 12 ((ms S 11 (S.1 10 0).toNatClampNeg a1).1 10 0).toNatClampNeg a2).1 10 0).toNatClampNeg a3) 10 0 (((ms (ms (ms S 11 (S.1 10 0).toNatClampNeg a1) 12 ((ms S 11 (S.1 10 0).toNatClampNeg a1).1 10 0).toNatClampNeg a2) 13 ((ms (ms S 11 (S.1 10 0).toNatClampNeg a1) 12 ((ms S 11 (S.1 10 0).toNatClampNeg a1).1 10 0).toNatClampNeg a2).1 10 0).toNatClampNeg a3).1 10 0) + 1)).1 10 0) - 1, ms (ms (ms (ms S 11 (S.1 10 0).toNatClampNeg a1) 12 ((ms S 11 (S.1 10 0).toNatClampNeg a1).1 10 0).toNatClampNeg a2) 13 ((ms (ms S 11 (S.1 10 0).toNatClampNeg a1) 12 ((ms S 11 (S.1 10 0).toNatClampNeg a1).1 10 0).toNatClampNeg a2).1 10 0).toNatClampNeg a3) 10 0 (((ms (ms (ms S 11 (S.1 10 0).toNatClampNeg a1) 12 ((ms S 11 (S.1 10 0).toNatClampNeg a1).1 10 0).toNatClampNeg a2) 13 ((ms (ms S 11 (S.1 10 0).toNatClampNeg a1) 12 ((ms S 11 (S.1 10 0).toNatClampNeg a1).1 10 0).toNatClampNeg a2).1 10 0).toNatClampNeg a3).1 10 0) + 1)) else none) else none) else none)) else some ((-2), S)) else some ((-2), S)) else some ((-2), S))
set_option maxRecDepth 100000 in
theorem cm_point (l : Launch) (N : Nat) (S : mS) (a1 : Int32) (a2 : Int32) (a3 : Int32) (res : Int32) (S1 : mS) (hf : mf_point N S a1 a2 a3 = some (res, S1)) : mMi l yX12_point cX12_point 4 .int 2 (fun g => [.ref (mr g 0), .int a1, .int a2, .int a3]) S res S1 := by
  refine mMi_of (own := RX12) (by decide) rfl rfl (fun g => Nat.le_of_ble_eq_true rfl) ?_
  intro p e R s m args below meth c Q g A H0 H locs ls hc hR hml hw hl hQ
  have hl : lv_has ls 4 [(0, .ref (mr g 0)), (1, .int a1), (2, .int a2), (3, .int a3)] := hl
  have hx := hc.1
  have hb := hc.2.1
  unfold mf_point at hf
  refine lv_iload_n hx hb dX12_point_0 rfl (lv_at hl 1 rfl) ?_
  refine lv_iconst (v := 0) hx hb dX12_point_1 (by decide) ?_
  refine lv_bipush (v := 20) hx hb dX12_point_2 (by decide) ?_
  refine m_csi (As := [.int a1, .int 0, .int 20]) (rest := []) hc hw hR (hml.trans hl.1.symm) (cm_in l S a1 0 20 _ rfl) mq_in (by decide) rfl rfl rfl (Nat.le_of_ble_eq_true rfl) dX12_point_4 (fun H locs hw => ?_) ⟨Nat.zero_le _, Nat.zero_le _⟩
  refine lv_if_eqb (tgt := 30) hx hb dX12_point_7 (by decide) (fun cn4 => ?_) (fun cn4 => ?_)
  · have hf := (if_neg cn4).symm.trans hf
    refine lv_bipush (v := (-2)) hx hb dX12_point_30 (by decide) ?_
    obtain ⟨rfl, rfl⟩ := pr2_some hf
    exact hQ _ _ _ _ dX12_point_32 hw
  · have hf := (if_pos cn4).symm.trans hf
    refine lv_iload_n hx hb dX12_point_10 rfl (lv_at hl 2 rfl) ?_
    refine lv_iconst (v := 0) hx hb dX12_point_11 (by decide) ?_
    refine lv_bipush (v := 60) hx hb dX12_point_12 (by decide) ?_
    refine m_csi (As := [.int a2, .int 0, .int 60]) (rest := []) hc hw hR (hml.trans hl.1.symm) (cm_in l S a2 0 60 _ rfl) mq_in (by decide) rfl rfl rfl (Nat.le_of_ble_eq_true rfl) dX12_point_14 (fun H locs hw => ?_) ⟨Nat.zero_le _, Nat.zero_le _⟩
    refine lv_if_eqb (tgt := 30) hx hb dX12_point_17 (by decide) (fun cn5 => ?_) (fun cn5 => ?_)
    · have hf := (if_neg cn5).symm.trans hf
      refine lv_bipush (v := (-2)) hx hb dX12_point_30 (by decide) ?_
      obtain ⟨rfl, rfl⟩ := pr2_some hf
      exact hQ _ _ _ _ dX12_point_32 hw
    · have hf := (if_pos cn5).symm.trans hf
      refine lv_iload_n hx hb dX12_point_20 rfl (lv_at hl 3 rfl) ?_
      refine lv_iconst (v := 0) hx hb dX12_point_21 (by decide) ?_
      refine lv_bipush (v := 99) hx hb dX12_point_22 (by decide) ?_
      refine m_csi (As := [.int a3, .int 0, .int 99]) (rest := []) hc hw hR (hml.trans hl.1.symm) (cm_in l S a3 0 99 _ rfl) mq_in (by decide) rfl rfl rfl (Nat.le_of_ble_eq_true rfl) dX12_point_24 (fun H locs hw => ?_) ⟨Nat.zero_le _, Nat.zero_le _⟩
      refine lv_if_neb (tgt := 33) hx hb dX12_point_27 (by decide) (fun cn6 => ?_) (fun cn6 => ?_)
      · have hf := (if_pos cn6).symm.trans hf
        refine lv_aload_n hx hb dX12_point_33 rfl (lv_at hl 0 rfl) ?_
        refine m_g10 hc hw dX12_point_34 ?_
        refine lv_bipush (v := 6) hx hb dX12_point_37 (by decide) ?_
        refine lv_icmp_ne (tgt := 45) hx hb dX12_point_39 (by decide) (fun cn7 => ?_) (fun cn7 => ?_)
        · have hf := (if_neg cn7).symm.trans hf
          refine lv_aload_n hx hb dX12_point_45 rfl (lv_at hl 0 rfl) ?_
          refine m_g11 hc hw dX12_point_46 ?_
          refine lv_aload_n hx hb dX12_point_49 rfl (lv_at hl 0 rfl) ?_
          refine m_g10 hc hw dX12_point_50 ?_
          refine lv_iload_n hx hb dX12_point_53 rfl (lv_at hl 1 rfl) ?_
          obtain ⟨hi1, hf⟩ := gd_some hf
          refine m_s11 hc hw (ok_in hi1) dX12_point_54 (fun H locs hw => ?_)
          refine lv_aload_n hx hb dX12_point_55 rfl (lv_at hl 0 rfl) ?_
          refine m_g12 hc hw dX12_point_56 ?_
          refine lv_aload_n hx hb dX12_point_59 rfl (lv_at hl 0 rfl) ?_
          refine m_g10 hc hw dX12_point_60 ?_
          refine lv_iload_n hx hb dX12_point_63 rfl (lv_at hl 2 rfl) ?_
          obtain ⟨hi2, hf⟩ := gd_some hf
          refine m_s12 hc hw (ok_in hi2) dX12_point_64 (fun H locs hw => ?_)
          refine lv_aload_n hx hb dX12_point_65 rfl (lv_at hl 0 rfl) ?_
          refine m_g13 hc hw dX12_point_66 ?_
          refine lv_aload_n hx hb dX12_point_69 rfl (lv_at hl 0 rfl) ?_
          refine m_g10 hc hw dX12_point_70 ?_
          refine lv_iload_n hx hb dX12_point_73 rfl (lv_at hl 3 rfl) ?_
          obtain ⟨hi3, hf⟩ := gd_some hf
          refine m_s13 hc hw (ok_in hi3) dX12_point_74 (fun H locs hw => ?_)
          refine lv_aload_n hx hb dX12_point_75 rfl (lv_at hl 0 rfl) ?_
          refine lv_dup hx hb dX12_point_76 rfl ?_
          refine m_g10 hc hw dX12_point_77 ?_
          refine lv_iconst (v := 1) hx hb dX12_point_80 (by decide) ?_
          refine lv_iadd hx hb dX12_point_81 ?_
          refine m_p10 hc hw dX12_point_82 (fun H locs hw => ?_)
          refine lv_aload_n hx hb dX12_point_85 rfl (lv_at hl 0 rfl) ?_
          refine m_g10 hc hw dX12_point_86 ?_
          refine lv_iconst (v := 1) hx hb dX12_point_89 (by decide) ?_
          refine lv_isub hx hb dX12_point_90 ?_
          obtain ⟨rfl, rfl⟩ := pr2_some hf
          exact hQ _ _ _ _ dX12_point_91 hw
        · have hf := (if_pos cn7).symm.trans hf
          refine lv_bipush (v := (-4)) hx hb dX12_point_42 (by decide) ?_
          obtain ⟨rfl, rfl⟩ := pr2_some hf
          exact hQ _ _ _ _ dX12_point_44 hw
      · have hf := (if_neg cn6).symm.trans hf
        refine lv_bipush (v := (-2)) hx hb dX12_point_30 (by decide) ?_
        obtain ⟨rfl, rfl⟩ := pr2_some hf
        exact hQ _ _ _ _ dX12_point_32 hw
def mf_post (N : Nat) (S : mS) (a1 : Int32) (a2 : Int32) : Option (Int32 × mS) := (if (mf_in a1 0 20) = true then (if (mf_in a2 1 69) = true then (if (S.1 14 0) = 4 then some ((-4), S) else (if ok (S.1 14 0) 4 then (if ok ((ms S 15 (S.1 14 0).toNatClampNeg a1).1 14 0) 4 then some (((ms (ms (ms S 15 (S.1 14 0).toNatClampNeg a1) 16 ((ms S 15 (S.1 14 0).toNatClampNeg a1).1 14 0).toNatClampNeg a2) 14 0 (((ms (ms S 15 (S.1 14 0).toNatClampNeg a1) 16 ((ms S 15 (S.1 14 0).toNatClampNeg a1).1 14 0).toNatClampNeg a2).1 14 0) + 1)).1 14 0) - 1, ms (ms (ms S 15 (S.1 14 0).toNatClampNeg a1) 16 ((ms S 15 (S.1 14 0).toNatClampNeg a1).1 14 0).toNatClampNeg a2) 14 0 (((ms (ms S 15 (S.1 14 0).toNatClampNeg a1) 16 ((ms S 15 (S.1 14 0).toNatClampNeg a1).1 14 0).toNatClampNeg a2).1 14 0) + 1)) else none) else none)) else some ((-2), S)) else some ((-2), S))
set_option maxRecDepth 100000 in
theorem cm_post (l : Launch) (N : Nat) (S : mS) (a1 : Int32) (a2 : Int32) (res : Int32) (S1 : mS) (hf : mf_post N S a1 a2 = some (res, S1)) : mMi l yX12_post cX12_post 3 .int 2 (fun g => [.ref (mr g 0), .int a1, .int a2]) S res S1 := by
  refine mMi_of (own := RX12) (by decide) rfl rfl (fun g => Nat.le_of_ble_eq_true rfl) ?_
  intro p e R s m args below meth c Q g A H0 H locs ls hc hR hml hw hl hQ
  have hl : lv_has ls 3 [(0, .ref (mr g 0)), (1, .int a1), (2, .int a2)] := hl
  have hx := hc.1
  have hb := hc.2.1
  unfold mf_post at hf
  refine lv_iload_n hx hb dX12_post_0 rfl (lv_at hl 1 rfl) ?_
  refine lv_iconst (v := 0) hx hb dX12_post_1 (by decide) ?_
  refine lv_bipush (v := 20) hx hb dX12_post_2 (by decide) ?_
  refine m_csi (As := [.int a1, .int 0, .int 20]) (rest := []) hc hw hR (hml.trans hl.1.symm) (cm_in l S a1 0 20 _ rfl) mq_in (by decide) rfl rfl rfl (Nat.le_of_ble_eq_true rfl) dX12_post_4 (fun H locs hw => ?_) ⟨Nat.zero_le _, Nat.zero_le _⟩
  refine lv_if_eqb (tgt := 20) hx hb dX12_post_7 (by decide) (fun cn3 => ?_) (fun cn3 => ?_)
  · have hf := (if_neg cn3).symm.trans hf
    refine lv_bipush (v := (-2)) hx hb dX12_post_20 (by decide) ?_
    obtain ⟨rfl, rfl⟩ := pr2_some hf
    exact hQ _ _ _ _ dX12_post_22 hw
  · have hf := (if_pos cn3).symm.trans hf
    refine lv_iload_n hx hb dX12_post_10 rfl (lv_at hl 2 rfl) ?_
    refine lv_iconst (v := 1) hx hb dX12_post_11 (by decide) ?_
    refine lv_bipush (v := 69) hx hb dX12_post_12 (by decide) ?_
    refine m_csi (As := [.int a2, .int 1, .int 69]) (rest := []) hc hw hR (hml.trans hl.1.symm) (cm_in l S a2 1 69 _ rfl) mq_in (by decide) rfl rfl rfl (Nat.le_of_ble_eq_true rfl) dX12_post_14 (fun H locs hw => ?_) ⟨Nat.zero_le _, Nat.zero_le _⟩
    refine lv_if_neb (tgt := 23) hx hb dX12_post_17 (by decide) (fun cn4 => ?_) (fun cn4 => ?_)
    · have hf := (if_pos cn4).symm.trans hf
      refine lv_aload_n hx hb dX12_post_23 rfl (lv_at hl 0 rfl) ?_
      refine m_g14 hc hw dX12_post_24 ?_
      refine lv_iconst (v := 4) hx hb dX12_post_27 (by decide) ?_
      refine lv_icmp_ne (tgt := 34) hx hb dX12_post_28 (by decide) (fun cn5 => ?_) (fun cn5 => ?_)
      · have hf := (if_neg cn5).symm.trans hf
        refine lv_aload_n hx hb dX12_post_34 rfl (lv_at hl 0 rfl) ?_
        refine m_g15 hc hw dX12_post_35 ?_
        refine lv_aload_n hx hb dX12_post_38 rfl (lv_at hl 0 rfl) ?_
        refine m_g14 hc hw dX12_post_39 ?_
        refine lv_iload_n hx hb dX12_post_42 rfl (lv_at hl 1 rfl) ?_
        obtain ⟨hi1, hf⟩ := gd_some hf
        refine m_s15 hc hw (ok_in hi1) dX12_post_43 (fun H locs hw => ?_)
        refine lv_aload_n hx hb dX12_post_44 rfl (lv_at hl 0 rfl) ?_
        refine m_g16 hc hw dX12_post_45 ?_
        refine lv_aload_n hx hb dX12_post_48 rfl (lv_at hl 0 rfl) ?_
        refine m_g14 hc hw dX12_post_49 ?_
        refine lv_iload_n hx hb dX12_post_52 rfl (lv_at hl 2 rfl) ?_
        obtain ⟨hi2, hf⟩ := gd_some hf
        refine m_s16 hc hw (ok_in hi2) dX12_post_53 (fun H locs hw => ?_)
        refine lv_aload_n hx hb dX12_post_54 rfl (lv_at hl 0 rfl) ?_
        refine lv_dup hx hb dX12_post_55 rfl ?_
        refine m_g14 hc hw dX12_post_56 ?_
        refine lv_iconst (v := 1) hx hb dX12_post_59 (by decide) ?_
        refine lv_iadd hx hb dX12_post_60 ?_
        refine m_p14 hc hw dX12_post_61 (fun H locs hw => ?_)
        refine lv_aload_n hx hb dX12_post_64 rfl (lv_at hl 0 rfl) ?_
        refine m_g14 hc hw dX12_post_65 ?_
        refine lv_iconst (v := 1) hx hb dX12_post_68 (by decide) ?_
        refine lv_isub hx hb dX12_post_69 ?_
        obtain ⟨rfl, rfl⟩ := pr2_some hf
        exact hQ _ _ _ _ dX12_post_70 hw
      · have hf := (if_pos cn5).symm.trans hf
        refine lv_bipush (v := (-4)) hx hb dX12_post_31 (by decide) ?_
        obtain ⟨rfl, rfl⟩ := pr2_some hf
        exact hQ _ _ _ _ dX12_post_33 hw
    · have hf := (if_neg cn4).symm.trans hf
      refine lv_bipush (v := (-2)) hx hb dX12_post_20 (by decide) ?_
      obtain ⟨rfl, rfl⟩ := pr2_some hf
      exact hQ _ _ _ _ dX12_post_22 hw
def mf_moves (N : Nat) (S : mS) (a1 : Int32) (a2 : Int32) (a3 : Int32) : Option (Int32 × mS) := (if (mf_in a1 0 ((S.1 14 0) - 1)) = true then (if (mf_in a2 0 20) = true then (if (mf_in a3 1 69) = true then (if ok a1 4 then some ((100 * (S.1 15 a1.toNatClampNeg)) + (S.1 16 a1.toNatClampNeg), ms (ms S 15 a1.toNatClampNeg a2) 16 a1.toNatClampNeg a3) else none) else some ((-2), S)) else some ((-2), S)) else some ((-1), S))
set_option maxRecDepth 100000 in
theorem cm_moves (l : Launch) (N : Nat) (S : mS) (a1 : Int32) (a2 : Int32) (a3 : Int32) (res : Int32) (S1 : mS) (hf : mf_moves N S a1 a2 a3 = some (res, S1)) : mMi l yX12_moves cX12_moves 5 .int 2 (fun g => [.ref (mr g 0), .int a1, .int a2, .int a3]) S res S1 := by
  refine mMi_of (own := RX12) (by decide) rfl rfl (fun g => Nat.le_of_ble_eq_true rfl) ?_
  intro p e R s m args below meth c Q g A H0 H locs ls hc hR hml hw hl hQ
  have hl : lv_has ls 5 [(0, .ref (mr g 0)), (1, .int a1), (2, .int a2), (3, .int a3)] := hl
  have hx := hc.1
  have hb := hc.2.1
  unfold mf_moves at hf
  refine lv_iload_n hx hb dX12_moves_0 rfl (lv_at hl 1 rfl) ?_
  refine lv_iconst (v := 0) hx hb dX12_moves_1 (by decide) ?_
  refine lv_aload_n hx hb dX12_moves_2 rfl (lv_at hl 0 rfl) ?_
  refine m_g14 hc hw dX12_moves_3 ?_
  refine lv_iconst (v := 1) hx hb dX12_moves_6 (by decide) ?_
  refine lv_isub hx hb dX12_moves_7 ?_
  refine m_csi (As := [.int a1, .int 0, .int ((S.1 14 0) - 1)]) (rest := []) hc hw hR (hml.trans hl.1.symm) (cm_in l S a1 0 ((S.1 14 0) - 1) _ rfl) mq_in (by decide) rfl rfl rfl (Nat.le_of_ble_eq_true rfl) dX12_moves_8 (fun H locs hw => ?_) ⟨Nat.zero_le _, Nat.zero_le _⟩
  refine lv_if_neb (tgt := 16) hx hb dX12_moves_11 (by decide) (fun cn2 => ?_) (fun cn2 => ?_)
  · have hf := (if_pos cn2).symm.trans hf
    refine lv_iload_n hx hb dX12_moves_16 rfl (lv_at hl 2 rfl) ?_
    refine lv_iconst (v := 0) hx hb dX12_moves_17 (by decide) ?_
    refine lv_bipush (v := 20) hx hb dX12_moves_18 (by decide) ?_
    refine m_csi (As := [.int a2, .int 0, .int 20]) (rest := []) hc hw hR (hml.trans hl.1.symm) (cm_in l S a2 0 20 _ rfl) mq_in (by decide) rfl rfl rfl (Nat.le_of_ble_eq_true rfl) dX12_moves_20 (fun H locs hw => ?_) ⟨Nat.zero_le _, Nat.zero_le _⟩
    refine lv_if_eqb (tgt := 36) hx hb dX12_moves_23 (by decide) (fun cn3 => ?_) (fun cn3 => ?_)
    · have hf := (if_neg cn3).symm.trans hf
      refine lv_bipush (v := (-2)) hx hb dX12_moves_36 (by decide) ?_
      obtain ⟨rfl, rfl⟩ := pr2_some hf
      exact hQ _ _ _ _ dX12_moves_38 hw
    · have hf := (if_pos cn3).symm.trans hf
      refine lv_iload_n hx hb dX12_moves_26 rfl (lv_at hl 3 rfl) ?_
      refine lv_iconst (v := 1) hx hb dX12_moves_27 (by decide) ?_
      refine lv_bipush (v := 69) hx hb dX12_moves_28 (by decide) ?_
      refine m_csi (As := [.int a3, .int 1, .int 69]) (rest := []) hc hw hR (hml.trans hl.1.symm) (cm_in l S a3 1 69 _ rfl) mq_in (by decide) rfl rfl rfl (Nat.le_of_ble_eq_true rfl) dX12_moves_30 (fun H locs hw => ?_) ⟨Nat.zero_le _, Nat.zero_le _⟩
      refine lv_if_neb (tgt := 39) hx hb dX12_moves_33 (by decide) (fun cn4 => ?_) (fun cn4 => ?_)
      · have hf := (if_pos cn4).symm.trans hf
        refine lv_bipush (v := 100) hx hb dX12_moves_39 (by decide) ?_
        refine lv_aload_n hx hb dX12_moves_41 rfl (lv_at hl 0 rfl) ?_
        refine m_g15 hc hw dX12_moves_42 ?_
        refine lv_iload_n hx hb dX12_moves_45 rfl (lv_at hl 1 rfl) ?_
        obtain ⟨hi1, hf⟩ := gd_some hf
        refine m_l15 hc hw (ok_in hi1) dX12_moves_46 ?_
        refine lv_imul hx hb dX12_moves_47 ?_
        refine lv_aload_n hx hb dX12_moves_48 rfl (lv_at hl 0 rfl) ?_
        refine m_g16 hc hw dX12_moves_49 ?_
        refine lv_iload_n hx hb dX12_moves_52 rfl (lv_at hl 1 rfl) ?_
        refine m_l16 hc hw (ok_in hi1) dX12_moves_53 ?_
        refine lv_iadd hx hb dX12_moves_54 ?_
        refine lv_istore (lv' := [(4, .int ((100 * (S.1 15 a1.toNatClampNeg)) + (S.1 16 a1.toNatClampNeg))), (0, .ref (mr g 0)), (1, .int a1), (2, .int a2), (3, .int a3)]) hx hb dX12_moves_55 hl (by decide) rfl (fun ls hl => ?_)
        refine lv_aload_n hx hb dX12_moves_57 rfl (lv_at hl 1 rfl) ?_
        refine m_g15 hc hw dX12_moves_58 ?_
        refine lv_iload_n hx hb dX12_moves_61 rfl (lv_at hl 2 rfl) ?_
        refine lv_iload_n hx hb dX12_moves_62 rfl (lv_at hl 3 rfl) ?_
        refine m_s15 hc hw (ok_in hi1) dX12_moves_63 (fun H locs hw => ?_)
        refine lv_aload_n hx hb dX12_moves_64 rfl (lv_at hl 1 rfl) ?_
        refine m_g16 hc hw dX12_moves_65 ?_
        refine lv_iload_n hx hb dX12_moves_68 rfl (lv_at hl 2 rfl) ?_
        refine lv_iload_n hx hb dX12_moves_69 rfl (lv_at hl 4 rfl) ?_
        refine m_s16 hc hw (ok_in hi1) dX12_moves_70 (fun H locs hw => ?_)
        refine lv_iload hx hb dX12_moves_71 (lv_at hl 0 rfl) ?_
        obtain ⟨rfl, rfl⟩ := pr2_some hf
        exact hQ _ _ _ _ dX12_moves_73 hw
      · have hf := (if_neg cn4).symm.trans hf
        refine lv_bipush (v := (-2)) hx hb dX12_moves_36 (by decide) ?_
        obtain ⟨rfl, rfl⟩ := pr2_some hf
        exact hQ _ _ _ _ dX12_moves_38 hw
  · have hf := (if_neg cn2).symm.trans hf
    refine lv_iconst (v := (-1)) hx hb dX12_moves_14 (by decide) ?_
    obtain ⟨rfl, rfl⟩ := pr2_some hf
    exact hQ _ _ _ _ dX12_moves_15 hw
def mf_feed_L33 (N : Nat) (c1 : Int64) : Nat → mS → Int32 → Option (mS)
  | 0, _, _ => none
  | n + 1, S3, v2 => (if v2 < 0 then some S3 else (if ok (S3.1 18 0) 160 then mf_feed_L33 N c1 n (ms (ms S3 17 (S3.1 18 0).toNatClampNeg (((c1 >>> ((8 * v2).toInt64 &&& 63)) &&& 255).toInt32)) 18 0 (((ms S3 17 (S3.1 18 0).toNatClampNeg (((c1 >>> ((8 * v2).toInt64 &&& 63)) &&& 255).toInt32)).1 18 0) + 1)) (v2 + (-1)) else none))
set_option maxRecDepth 100000 in
theorem wm_feed_L33 {p : Program} {l : Launch} {e : Env} {R : Room} {s : State} {m : MethodId} {args : Array Value} {below : List Frame} {meth : Method} {c : Code} {Q : State → Prop} {g : mG} {A : Nat → Prop} {H0 : Heap} (hc : qC RX12 cX12_feed p s m args c) (hR : qRoom R 2) (hml : c.maxLocals = 5) (N : Nat) (c1 : Int64) : ∀ (n : Nat) (S3 : mS) (v2 : Int32) (X : mS) (H : Heap) (locs : List Loc) (ls : Array Slot), mf_feed_L33 N c1 n S3 v2 = some X → mI g A H0 s S3 H locs → lv_has ls 5 [(0, .ref (mr g 0)), (1, .long c1), (4, .int v2)] → (∀ (H : Heap) (locs : List Loc) (ls : Array Slot), mI g A H0 s X H locs → lv_has ls 5 [(0, .ref (mr g 0))] → W p l e R s m args below meth c H locs 0 0 Q (F0 m 75 ls [])) → W p l e R s m args below meth c H locs 0 0 Q (F0 m 33 ls []) := by
  have hx := hc.1
  have hb := hc.2.1
  intro n
  induction n with
  | zero => intro _ _ X H locs ls hf; exact nomatch (show none = some X from hf)
  | succ n ih =>
    intro S3 v2 X H locs ls hf hw hl kx
    rw [mf_feed_L33] at hf
    refine lv_iload hx hb dX12_feed_33 (lv_at hl 2 rfl) ?_
    refine lv_if_lt (tgt := 75) hx hb dX12_feed_35 (by decide) (fun cn8 => ?_) (fun cn8 => ?_)
    · have hf := (if_pos cn8).symm.trans hf
      obtain rfl := Option.some.inj hf
      exact kx _ _ _ hw (lv_sub hl [0] rfl)
    · have hf := (if_neg cn8).symm.trans hf
      refine lv_aload_n hx hb dX12_feed_38 rfl (lv_at hl 0 rfl) ?_
      refine m_g17 hc hw dX12_feed_39 ?_
      refine lv_aload_n hx hb dX12_feed_42 rfl (lv_at hl 0 rfl) ?_
      refine m_g18 hc hw dX12_feed_43 ?_
      refine lv_lload_n hx hb dX12_feed_46 rfl (lv_at hl 1 rfl) ?_
      refine lv_bipush (v := 8) hx hb dX12_feed_47 (by decide) ?_
      refine lv_iload hx hb dX12_feed_49 (lv_at hl 2 rfl) ?_
      refine lv_imul hx hb dX12_feed_51 ?_
      refine lv_lshr hx hb dX12_feed_52 rfl ?_
      refine lv_ldc2 (v := 255) hx hb hc.2.2.1 (hc.2.2.2 _ (mem_g 1404 (by decide +kernel) rfl)) dX12_feed_53 ?_
      refine lv_land hx hb dX12_feed_56 ?_
      refine lv_l2i hx hb dX12_feed_57 rfl ?_
      obtain ⟨hi4, hf⟩ := gd_some hf
      refine m_s17 hc hw (ok_in hi4) dX12_feed_58 (fun H locs hw => ?_)
      refine lv_aload_n hx hb dX12_feed_59 rfl (lv_at hl 0 rfl) ?_
      refine lv_dup hx hb dX12_feed_60 rfl ?_
      refine m_g18 hc hw dX12_feed_61 ?_
      refine lv_iconst (v := 1) hx hb dX12_feed_64 (by decide) ?_
      refine lv_iadd hx hb dX12_feed_65 ?_
      refine m_p18 hc hw dX12_feed_66 (fun H locs hw => ?_)
      refine lv_iinc (lv' := [(4, .int (v2 + (-1))), (0, .ref (mr g 0)), (1, .long c1)]) hx hb dX12_feed_69 hl (k := 2) rfl rfl (by decide) rfl (fun ls hl => ?_)
      refine lv_goto (tgt := 33) hx hb dX12_feed_72 (by decide) ?_
      exact ih _ _ X _ _ _ hf hw (lv_sub hl [1, 2, 0] rfl) kx
def mf_feed (N : Nat) (S : mS) (a1 : Int64) (a2 : Int32) : Option (Int32 × mS) := (if (mf_in a2 1 8) = true then (if ((S.1 18 0) + a2) ≤ 160 then (bd1 (mf_feed_L33 N a1 N S (a2 - 1)) fun S5 => some (S5.1 18 0, S5)) else some ((-4), S)) else some ((-2), S))
set_option maxRecDepth 100000 in
theorem cm_feed (l : Launch) (N : Nat) (S : mS) (a1 : Int64) (a2 : Int32) (res : Int32) (S1 : mS) (hf : mf_feed N S a1 a2 = some (res, S1)) : mMi l yX12_feed cX12_feed 5 .int 2 (fun g => [.ref (mr g 0), .long a1, .int a2]) S res S1 := by
  refine mMi_of (own := RX12) (by decide) rfl rfl (fun g => Nat.le_of_ble_eq_true rfl) ?_
  intro p e R s m args below meth c Q g A H0 H locs ls hc hR hml hw hl hQ
  have hl : lv_has ls 5 [(0, .ref (mr g 0)), (1, .long a1), (3, .int a2)] := hl
  have hx := hc.1
  have hb := hc.2.1
  unfold mf_feed at hf
  refine lv_iload_n hx hb dX12_feed_0 rfl (lv_at hl 2 rfl) ?_
  refine lv_iconst (v := 1) hx hb dX12_feed_1 (by decide) ?_
  refine lv_bipush (v := 8) hx hb dX12_feed_2 (by decide) ?_
  refine m_csi (As := [.int a2, .int 1, .int 8]) (rest := []) hc hw hR (hml.trans hl.1.symm) (cm_in l S a2 1 8 _ rfl) mq_in (by decide) rfl rfl rfl (Nat.le_of_ble_eq_true rfl) dX12_feed_4 (fun H locs hw => ?_) ⟨Nat.zero_le _, Nat.zero_le _⟩
  refine lv_if_neb (tgt := 13) hx hb dX12_feed_7 (by decide) (fun cn6 => ?_) (fun cn6 => ?_)
  · have hf := (if_pos cn6).symm.trans hf
    refine lv_aload_n hx hb dX12_feed_13 rfl (lv_at hl 0 rfl) ?_
    refine m_g18 hc hw dX12_feed_14 ?_
    refine lv_iload_n hx hb dX12_feed_17 rfl (lv_at hl 2 rfl) ?_
    refine lv_iadd hx hb dX12_feed_18 ?_
    refine lv_sipush (v := 160) hx hb dX12_feed_19 (by decide) ?_
    refine lv_icmp_le (tgt := 28) hx hb dX12_feed_22 (by decide) (fun cn7 => ?_) (fun cn7 => ?_)
    · have hf := (if_pos cn7).symm.trans hf
      refine lv_iload_n hx hb dX12_feed_28 rfl (lv_at hl 2 rfl) ?_
      refine lv_iconst (v := 1) hx hb dX12_feed_29 (by decide) ?_
      refine lv_isub hx hb dX12_feed_30 ?_
      refine lv_istore (lv' := [(4, .int (a2 - 1)), (0, .ref (mr g 0)), (1, .long a1), (3, .int a2)]) hx hb dX12_feed_31 hl (by decide) rfl (fun ls hl => ?_)
      obtain ⟨S5, hL, hf⟩ := bd1_some hf
      refine wm_feed_L33 hc hR hml N a1 N _ _ _ _ _ _ hL hw (lv_sub hl [1, 2, 0] rfl) (fun H locs ls hw hl => ?_)
      refine lv_aload_n hx hb dX12_feed_75 rfl (lv_at hl 0 rfl) ?_
      refine m_g18 hc hw dX12_feed_76 ?_
      obtain ⟨rfl, rfl⟩ := pr2_some hf
      exact hQ _ _ _ _ dX12_feed_79 hw
    · have hf := (if_neg cn7).symm.trans hf
      refine lv_bipush (v := (-4)) hx hb dX12_feed_25 (by decide) ?_
      obtain ⟨rfl, rfl⟩ := pr2_some hf
      exact hQ _ _ _ _ dX12_feed_27 hw
  · have hf := (if_neg cn6).symm.trans hf
    refine lv_bipush (v := (-2)) hx hb dX12_feed_10 (by decide) ?_
    obtain ⟨rfl, rfl⟩ := pr2_some hf
    exact hQ _ _ _ _ dX12_feed_12 hw
