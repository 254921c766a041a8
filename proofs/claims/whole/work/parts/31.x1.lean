def xf_X_set (N : Nat) (S : xS) (a1 : Int32) (a2 : Int32) (a3 : Int32) : Option (Int32 × xS) := (bd1 (xf_H_rowAt N S a1) fun v1 => (if v1 < 0 then some ((-5), S) else (if (xf_X_isIn a2 0 1) = true then (if (xf_X_isIn a3 0 ((if a2 = 0 then 99 else 1) : Int32)) = true then (bd1 (if a2 = 0 then (if v1.toNatClampNeg < S.2.2.1 then some (S.1 57 v1.toNatClampNeg) else none) else (if v1.toNatClampNeg < S.2.2.1 then some (S.1 58 v1.toNatClampNeg) else none)) fun v6 => (if a2 = 0 then (if v1.toNatClampNeg < S.2.2.1 then some (v6, xs S 57 v1.toNatClampNeg a3) else none) else (if v1.toNatClampNeg < S.2.2.1 then some (v6, xs S 58 v1.toNatClampNeg a3) else none))) else some ((-7), S)) else some ((-7), S))))
set_option maxRecDepth 100000 in
theorem cx_X_set (l : Launch) (N : Nat) (S : xS) (a1 : Int32) (a2 : Int32) (a3 : Int32) (res : Int32) (S1 : xS) (hf : xf_X_set N S a1 a2 a3 = some (res, S1)) : xMi l yX11_set cX11_set 6 .int 3 (fun g => [.ref (xr g 0), .int a1, .int a2, .int a3]) S res S1 := by
  refine xMi_of (own := RX11) (by decide) rfl rfl (fun g => Nat.le_of_ble_eq_true rfl) ?_
  intro p e R s m args below meth c Q g A H0 H locs ls hc hR hml hw hl hQ
  have hl : lv_has ls 6 [(0, .ref (xr g 0)), (1, .int a1), (2, .int a2), (3, .int a3)] := hl
  have hx := hc.1
  have hb := hc.2.1
  unfold xf_X_set at hf
  refine lv_aload_n hx hb dX11_set_0 rfl (lv_at hl 0 rfl) ?_
  refine x_g_this_hall hc hw fl_11_10 dX11_set_1 ?_
  refine lv_iload_n hx hb dX11_set_4 rfl (lv_at hl 1 rfl) ?_
  obtain ⟨v1, hcall, hf⟩ := bd1_some hf
  refine x_cvr (As := [.int a1]) (rest := []) hc hw hR (hml.trans hl.1.symm) (cx_H_rowAt l N S a1 v1 hcall) xq_11_H_rowAt (x_recv_hall hw) (by decide) rfl rfl rfl (Nat.le_of_ble_eq_true rfl) dX11_set_5 (fun H locs hw => ?_) ⟨Nat.zero_le _, Nat.zero_le _⟩
  refine x_splitr (fun cn2 => ?_) (fun cn2 => ?_)
  · have hf := (if_pos cn2).symm.trans hf
    refine lv_astoreN (lv' := [(4, .null), (0, .ref (xr g 0)), (1, .int a1), (2, .int a2), (3, .int a3)]) hx hb dX11_set_8 hl (by decide) rfl (fun ls hl => ?_)
    refine lv_aloadN hx hb dX11_set_10 (lv_at hl 0 rfl) ?_
    refine lv_ifnonnullN hx hb dX11_set_12 ?_
    refine lv_bipush (v := (-5)) hx hb dX11_set_15 (by decide) ?_
    obtain ⟨rfl, rfl⟩ := pr2_some hf
    exact hQ _ _ _ _ dX11_set_17 hw
  · have hf := (if_neg cn2).symm.trans hf
    refine lv_astore (lv' := [(4, .ref (xr g (100 + 2 * v1.toNatClampNeg))), (0, .ref (xr g 0)), (1, .int a1), (2, .int a2), (3, .int a3)]) hx hb dX11_set_8 hl (by decide) rfl (fun ls hl => ?_)
    refine lv_aload hx hb dX11_set_10 (lv_at hl 0 rfl) ?_
    refine lv_ifnonnull (tgt := 18) hx hb dX11_set_12 (by decide) ?_
    refine lv_iload_n hx hb dX11_set_18 rfl (lv_at hl 3 rfl) ?_
    refine lv_iconst (v := 0) hx hb dX11_set_19 (by decide) ?_
    refine lv_iconst (v := 1) hx hb dX11_set_20 (by decide) ?_
    refine x_csi (As := [.int a2, .int 0, .int 1]) (rest := []) hc hw hR (hml.trans hl.1.symm) (cx_X_isIn l S a2 0 1 _ rfl) xq_11_X_isIn (by decide) rfl rfl rfl (Nat.le_of_ble_eq_true rfl) dX11_set_21 (fun H locs hw => ?_) ⟨Nat.zero_le _, Nat.zero_le _⟩
    refine lv_if_eqb (tgt := 45) hx hb dX11_set_24 (by decide) (fun cn9 => ?_) (fun cn9 => ?_)
    · have hf := (if_neg cn9).symm.trans hf
      refine lv_bipush (v := (-7)) hx hb dX11_set_45 (by decide) ?_
      obtain ⟨rfl, rfl⟩ := pr2_some hf
      exact hQ _ _ _ _ dX11_set_47 hw
    · have hf := (if_pos cn9).symm.trans hf
      refine lv_iload_n hx hb dX11_set_27 rfl (lv_at hl 4 rfl) ?_
      refine lv_iconst (v := 0) hx hb dX11_set_28 (by decide) ?_
      refine lv_iload_n hx hb dX11_set_29 rfl (lv_at hl 3 rfl) ?_
      obtain ⟨v3, hv3⟩ : ∃ y : Int32, y = (if a2 = 0 then 99 else 1) := ⟨_, rfl⟩
      try rw [← hv3] at hf
      have kJ15 : ∀ v3x : Int32, v3 = v3x → ∀ (H : Heap) (locs : List Loc) (ls : Array Slot), xI g A H0 s S H locs → lv_has ls 6 [(2, .int a2), (3, .int a3), (4, .ref (xr g (100 + 2 * v1.toNatClampNeg)))] → W p l e R s m args below meth c H locs 0 0 Q (F0 m 39 ls [.int v3x, .int 0, .int a3]) := by
        intro v3x hxv3 H locs ls hw hl
        subst hxv3
        refine x_csi (As := [.int a3, .int 0, .int v3]) (rest := []) hc hw hR (hml.trans hl.1.symm) (cx_X_isIn l S a3 0 v3 _ rfl) xq_11_X_isIn (by decide) rfl rfl rfl (Nat.le_of_ble_eq_true rfl) dX11_set_39 (fun H locs hw => ?_) ⟨Nat.zero_le _, Nat.zero_le _⟩
        refine lv_if_neb (tgt := 48) hx hb dX11_set_42 (by decide) (fun cn10 => ?_) (fun cn10 => ?_)
        · have hf := (if_pos cn10).symm.trans hf
          refine lv_iload_n hx hb dX11_set_48 rfl (lv_at hl 0 rfl) ?_
          obtain ⟨v6, hX12, hf⟩ := bd1_some hf
          have kJ13 : ∀ (H : Heap) (locs : List Loc) (ls : Array Slot), xI g A H0 s S H locs → lv_has ls 6 [(2, .int a2), (3, .int a3), (4, .ref (xr g (100 + 2 * v1.toNatClampNeg)))] → W p l e R s m args below meth c H locs 0 0 Q (F0 m 65 ls [.int v6]) := by
            intro H locs ls hw hl
            refine lv_istore (lv' := [(5, .int v6), (2, .int a2), (3, .int a3), (4, .ref (xr g (100 + 2 * v1.toNatClampNeg)))]) hx hb dX11_set_65 hl (by decide) rfl (fun ls hl => ?_)
            refine lv_iload_n hx hb dX11_set_67 rfl (lv_at hl 1 rfl) ?_
            refine lv_if_ne (tgt := 80) hx hb dX11_set_68 (by decide) (fun cn11 => ?_) (fun cn11 => ?_)
            · have hf := (if_neg cn11).symm.trans hf
              refine lv_aload hx hb dX11_set_80 (lv_at hl 3 rfl) ?_
              refine lv_iload_n hx hb dX11_set_82 rfl (lv_at hl 2 rfl) ?_
              obtain ⟨hr7, hf⟩ := gd_some hf
              refine x_rp_shift hc hw hr7 fl_11_153 dX11_set_83 (fun H locs hw => ?_)
              refine lv_iload hx hb dX11_set_86 (lv_at hl 0 rfl) ?_
              obtain ⟨rfl, rfl⟩ := pr2_some hf
              exact hQ _ _ _ _ dX11_set_88 hw
            · have hf := (if_pos cn11).symm.trans hf
              refine lv_aload hx hb dX11_set_71 (lv_at hl 3 rfl) ?_
              refine lv_iload_n hx hb dX11_set_73 rfl (lv_at hl 2 rfl) ?_
              obtain ⟨hr8, hf⟩ := gd_some hf
              refine x_rp_rise hc hw hr8 fl_11_150 dX11_set_74 (fun H locs hw => ?_)
              refine lv_goto (tgt := 86) hx hb dX11_set_77 (by decide) ?_
              refine lv_iload hx hb dX11_set_86 (lv_at hl 0 rfl) ?_
              obtain ⟨rfl, rfl⟩ := pr2_some hf
              exact hQ _ _ _ _ dX11_set_88 hw
          refine lv_if_ne (tgt := 60) hx hb dX11_set_49 (by decide) (fun cn14 => ?_) (fun cn14 => ?_)
          · have hX12 := (if_neg cn14).symm.trans hX12
            refine lv_aload hx hb dX11_set_60 (lv_at hl 2 rfl) ?_
            obtain ⟨hr4, hX12⟩ := gd_some hX12
            refine x_rg_shift hc hw hr4 fl_11_153 dX11_set_62 ?_
            obtain rfl := Option.some.inj hX12
            exact kJ13 _ _ _ hw (lv_sub hl [0, 1, 2] rfl)
          · have hX12 := (if_pos cn14).symm.trans hX12
            refine lv_aload hx hb dX11_set_52 (lv_at hl 2 rfl) ?_
            obtain ⟨hr5, hX12⟩ := gd_some hX12
            refine x_rg_rise hc hw hr5 fl_11_150 dX11_set_54 ?_
            refine lv_goto (tgt := 65) hx hb dX11_set_57 (by decide) ?_
            obtain rfl := Option.some.inj hX12
            exact kJ13 _ _ _ hw (lv_sub hl [0, 1, 2] rfl)
        · have hf := (if_neg cn10).symm.trans hf
          refine lv_bipush (v := (-7)) hx hb dX11_set_45 (by decide) ?_
          obtain ⟨rfl, rfl⟩ := pr2_some hf
          exact hQ _ _ _ _ dX11_set_47 hw
      refine lv_if_ne (tgt := 38) hx hb dX11_set_30 (by decide) (fun cn16 => ?_) (fun cn16 => ?_)
      · refine lv_iconst (v := 1) hx hb dX11_set_38 (by decide) ?_
        have ev3 : v3 = (1 : Int32) := by rw [hv3]; simp only [if_neg cn16]
        exact kJ15 _ ev3 _ _ _ hw (lv_sub hl [3, 4, 0] rfl)
      · refine lv_bipush (v := 99) hx hb dX11_set_33 (by decide) ?_
        refine lv_goto (tgt := 39) hx hb dX11_set_35 (by decide) ?_
        have ev3 : v3 = (99 : Int32) := by rw [hv3]; simp only [if_pos cn16]
        exact kJ15 _ ev3 _ _ _ hw (lv_sub hl [3, 4, 0] rfl)
def xf_X_point (N : Nat) (S : xS) (a1 : Int32) (a2 : Int32) (a3 : Int32) : Option (Int32 × xS) := (if (xf_X_isIn a1 0 20) = true then (if (xf_X_isIn a2 0 60) = true then (if (xf_X_isIn a3 0 99) = true then (if (S.1 17 0) < 6 then (if ok (S.1 17 0) 6 then some (S.1 17 0, xs (xs (xs (xs S 11 (S.1 17 0).toNatClampNeg a1) 12 (S.1 17 0).toNatClampNeg a2) 13 (S.1 17 0).toNatClampNeg a3) 17 0 (((xs (xs (xs S 11 (S.1 17 0).toNatClampNeg a1) 12 (S.1 17 0).toNatClampNeg a2) 13 (S.1 17 0).toNatClampNeg a3).1 17 0) + 1)) else none) else some ((-4), S)) else some ((-2), S)) else some ((-2), S)) else some ((-2), S))
set_option maxRecDepth 100000 in
theorem cx_X_point (l : Launch) (N : Nat) (S : xS) (a1 : Int32) (a2 : Int32) (a3 : Int32) (res : Int32) (S1 : xS) (hf : xf_X_point N S a1 a2 a3 = some (res, S1)) : xMi l yX11_point cX11_point 5 .int 3 (fun g => [.ref (xr g 0), .int a1, .int a2, .int a3]) S res S1 := by
  refine xMi_of (own := RX11) (by decide) rfl rfl (fun g => Nat.le_of_ble_eq_true rfl) ?_
  intro p e R s m args below meth c Q g A H0 H locs ls hc hR hml hw hl hQ
  have hl : lv_has ls 5 [(0, .ref (xr g 0)), (1, .int a1), (2, .int a2), (3, .int a3)] := hl
  have hx := hc.1
  have hb := hc.2.1
  unfold xf_X_point at hf
  refine lv_iload_n hx hb dX11_point_0 rfl (lv_at hl 1 rfl) ?_
  refine lv_iconst (v := 0) hx hb dX11_point_1 (by decide) ?_
  refine lv_bipush (v := 20) hx hb dX11_point_2 (by decide) ?_
  refine x_csi (As := [.int a1, .int 0, .int 20]) (rest := []) hc hw hR (hml.trans hl.1.symm) (cx_X_isIn l S a1 0 20 _ rfl) xq_11_X_isIn (by decide) rfl rfl rfl (Nat.le_of_ble_eq_true rfl) dX11_point_4 (fun H locs hw => ?_) ⟨Nat.zero_le _, Nat.zero_le _⟩
  refine lv_if_eqb (tgt := 30) hx hb dX11_point_7 (by decide) (fun cn2 => ?_) (fun cn2 => ?_)
  · have hf := (if_neg cn2).symm.trans hf
    refine lv_bipush (v := (-2)) hx hb dX11_point_30 (by decide) ?_
    obtain ⟨rfl, rfl⟩ := pr2_some hf
    exact hQ _ _ _ _ dX11_point_32 hw
  · have hf := (if_pos cn2).symm.trans hf
    refine lv_iload_n hx hb dX11_point_10 rfl (lv_at hl 2 rfl) ?_
    refine lv_iconst (v := 0) hx hb dX11_point_11 (by decide) ?_
    refine lv_bipush (v := 60) hx hb dX11_point_12 (by decide) ?_
    refine x_csi (As := [.int a2, .int 0, .int 60]) (rest := []) hc hw hR (hml.trans hl.1.symm) (cx_X_isIn l S a2 0 60 _ rfl) xq_11_X_isIn (by decide) rfl rfl rfl (Nat.le_of_ble_eq_true rfl) dX11_point_14 (fun H locs hw => ?_) ⟨Nat.zero_le _, Nat.zero_le _⟩
    refine lv_if_eqb (tgt := 30) hx hb dX11_point_17 (by decide) (fun cn3 => ?_) (fun cn3 => ?_)
    · have hf := (if_neg cn3).symm.trans hf
      refine lv_bipush (v := (-2)) hx hb dX11_point_30 (by decide) ?_
      obtain ⟨rfl, rfl⟩ := pr2_some hf
      exact hQ _ _ _ _ dX11_point_32 hw
    · have hf := (if_pos cn3).symm.trans hf
      refine lv_iload_n hx hb dX11_point_20 rfl (lv_at hl 3 rfl) ?_
      refine lv_iconst (v := 0) hx hb dX11_point_21 (by decide) ?_
      refine lv_bipush (v := 99) hx hb dX11_point_22 (by decide) ?_
      refine x_csi (As := [.int a3, .int 0, .int 99]) (rest := []) hc hw hR (hml.trans hl.1.symm) (cx_X_isIn l S a3 0 99 _ rfl) xq_11_X_isIn (by decide) rfl rfl rfl (Nat.le_of_ble_eq_true rfl) dX11_point_24 (fun H locs hw => ?_) ⟨Nat.zero_le _, Nat.zero_le _⟩
      refine lv_if_neb (tgt := 33) hx hb dX11_point_27 (by decide) (fun cn4 => ?_) (fun cn4 => ?_)
      · have hf := (if_pos cn4).symm.trans hf
        refine lv_aload_n hx hb dX11_point_33 rfl (lv_at hl 0 rfl) ?_
        refine x_g_this_hall hc hw fl_11_10 dX11_point_34 ?_
        refine x_g_hall_pointCount hc hw fl_11_187 dX11_point_37 ?_
        refine lv_istore (lv' := [(4, .int (S.1 17 0)), (0, .ref (xr g 0)), (1, .int a1), (2, .int a2), (3, .int a3)]) hx hb dX11_point_40 hl (by decide) rfl (fun ls hl => ?_)
        refine lv_iload hx hb dX11_point_42 (lv_at hl 0 rfl) ?_
        refine lv_bipush (v := 6) hx hb dX11_point_44 (by decide) ?_
        refine lv_icmp_lt (tgt := 52) hx hb dX11_point_46 (by decide) (fun cn5 => ?_) (fun cn5 => ?_)
        · have hf := (if_pos cn5).symm.trans hf
          refine lv_aload_n hx hb dX11_point_52 rfl (lv_at hl 1 rfl) ?_
          refine x_g_this_hall hc hw fl_11_10 dX11_point_53 ?_
          refine x_g_hall_pointPlaces hc hw fl_11_190 dX11_point_56 ?_
          refine lv_iload hx hb dX11_point_59 (lv_at hl 0 rfl) ?_
          refine lv_iload_n hx hb dX11_point_61 rfl (lv_at hl 2 rfl) ?_
          obtain ⟨hi1, hf⟩ := gd_some hf
          refine x_s_hall_pointPlaces hc hw (ok_in hi1) dX11_point_62 (fun H locs hw => ?_)
          refine lv_aload_n hx hb dX11_point_63 rfl (lv_at hl 1 rfl) ?_
          refine x_g_this_hall hc hw fl_11_10 dX11_point_64 ?_
          refine x_g_hall_pointHighs hc hw fl_11_193 dX11_point_67 ?_
          refine lv_iload hx hb dX11_point_70 (lv_at hl 0 rfl) ?_
          refine lv_iload_n hx hb dX11_point_72 rfl (lv_at hl 3 rfl) ?_
          refine x_s_hall_pointHighs hc hw (ok_in hi1) dX11_point_73 (fun H locs hw => ?_)
          refine lv_aload_n hx hb dX11_point_74 rfl (lv_at hl 1 rfl) ?_
          refine x_g_this_hall hc hw fl_11_10 dX11_point_75 ?_
          refine x_g_hall_pointValues hc hw fl_11_196 dX11_point_78 ?_
          refine lv_iload hx hb dX11_point_81 (lv_at hl 0 rfl) ?_
          refine lv_iload_n hx hb dX11_point_83 rfl (lv_at hl 4 rfl) ?_
          refine x_s_hall_pointValues hc hw (ok_in hi1) dX11_point_84 (fun H locs hw => ?_)
          refine lv_aload_n hx hb dX11_point_85 rfl (lv_at hl 1 rfl) ?_
          refine x_g_this_hall hc hw fl_11_10 dX11_point_86 ?_
          refine lv_dup hx hb dX11_point_89 rfl ?_
          refine x_g_hall_pointCount hc hw fl_11_187 dX11_point_90 ?_
          refine lv_iconst (v := 1) hx hb dX11_point_93 (by decide) ?_
          refine lv_iadd hx hb dX11_point_94 ?_
          refine x_p_hall_pointCount hc hw fl_11_187 dX11_point_95 (fun H locs hw => ?_)
          refine lv_iload hx hb dX11_point_98 (lv_at hl 0 rfl) ?_
          obtain ⟨rfl, rfl⟩ := pr2_some hf
          exact hQ _ _ _ _ dX11_point_100 hw
        · have hf := (if_neg cn5).symm.trans hf
          refine lv_bipush (v := (-4)) hx hb dX11_point_49 (by decide) ?_
          obtain ⟨rfl, rfl⟩ := pr2_some hf
          exact hQ _ _ _ _ dX11_point_51 hw
      · have hf := (if_neg cn4).symm.trans hf
        refine lv_bipush (v := (-2)) hx hb dX11_point_30 (by decide) ?_
        obtain ⟨rfl, rfl⟩ := pr2_some hf
        exact hQ _ _ _ _ dX11_point_32 hw
def xf_X_isSort (a1 : Int32) : Bool := xf_X_isIn a1 0 3
set_option maxRecDepth 100000 in
theorem cx_X_isSort (l : Launch) (S : xS) (a1 : Int32) (res : Bool) (hf : xf_X_isSort a1 = res) : xMi l yX11_isSort cX11_isSort 1 .boolean 3 (fun g => [.int a1]) S (bi res) S := by
  refine xMi_of (own := RX11) (by decide) rfl (narrow_bi _) (fun g => Nat.le_of_ble_eq_true rfl) ?_
  intro p e R s m args below meth c Q g A H0 H locs ls hc hR hml hw hl hQ
  have hl : lv_has ls 1 [(0, .int a1)] := hl
  have hx := hc.1
  have hb := hc.2.1
  unfold xf_X_isSort at hf
  refine lv_iload_n hx hb dX11_isSort_0 rfl (lv_at hl 0 rfl) ?_
  refine lv_iconst (v := 0) hx hb dX11_isSort_1 (by decide) ?_
  refine lv_iconst (v := 3) hx hb dX11_isSort_2 (by decide) ?_
  refine x_csi (As := [.int a1, .int 0, .int 3]) (rest := []) hc hw hR (hml.trans hl.1.symm) (cx_X_isIn l S a1 0 3 _ rfl) xq_11_X_isIn (by decide) rfl rfl rfl (Nat.le_of_ble_eq_true rfl) dX11_isSort_3 (fun H locs hw => ?_) ⟨Nat.zero_le _, Nat.zero_le _⟩
  obtain rfl := hf
  exact hQ _ _ _ _ dX11_isSort_6 hw
def xf_X_isPostPlace (a1 : Int32) (a2 : Int32) : Bool := (if (xf_X_isIn a1 0 20) = true then (if (xf_X_isIn a2 1 69) = true then true else false) else false)
set_option maxRecDepth 100000 in
theorem cx_X_isPostPlace (l : Launch) (S : xS) (a1 : Int32) (a2 : Int32) (res : Bool) (hf : xf_X_isPostPlace a1 a2 = res) : xMi l yX11_isPostPlace cX11_isPostPlace 2 .boolean 3 (fun g => [.int a1, .int a2]) S (bi res) S := by
  refine xMi_of (own := RX11) (by decide) rfl (narrow_bi _) (fun g => Nat.le_of_ble_eq_true rfl) ?_
  intro p e R s m args below meth c Q g A H0 H locs ls hc hR hml hw hl hQ
  have hl : lv_has ls 2 [(0, .int a1), (1, .int a2)] := hl
  have hx := hc.1
  have hb := hc.2.1
  unfold xf_X_isPostPlace at hf
  refine lv_iload_n hx hb dX11_isPostPlace_0 rfl (lv_at hl 0 rfl) ?_
  refine lv_iconst (v := 0) hx hb dX11_isPostPlace_1 (by decide) ?_
  refine lv_bipush (v := 20) hx hb dX11_isPostPlace_2 (by decide) ?_
  refine x_csi (As := [.int a1, .int 0, .int 20]) (rest := []) hc hw hR (hml.trans hl.1.symm) (cx_X_isIn l S a1 0 20 _ rfl) xq_11_X_isIn (by decide) rfl rfl rfl (Nat.le_of_ble_eq_true rfl) dX11_isPostPlace_4 (fun H locs hw => ?_) ⟨Nat.zero_le _, Nat.zero_le _⟩
  refine lv_if_eqb (tgt := 24) hx hb dX11_isPostPlace_7 (by decide) (fun cn1 => ?_) (fun cn1 => ?_)
  · have hf := (if_neg cn1).symm.trans hf
    refine lv_iconst (v := 0) hx hb dX11_isPostPlace_24 (by decide) ?_
    obtain rfl := hf
    exact hQ _ _ _ _ dX11_isPostPlace_25 hw
  · have hf := (if_pos cn1).symm.trans hf
    refine lv_iload_n hx hb dX11_isPostPlace_10 rfl (lv_at hl 1 rfl) ?_
    refine lv_iconst (v := 1) hx hb dX11_isPostPlace_11 (by decide) ?_
    refine lv_bipush (v := 69) hx hb dX11_isPostPlace_12 (by decide) ?_
    refine x_csi (As := [.int a2, .int 1, .int 69]) (rest := []) hc hw hR (hml.trans hl.1.symm) (cx_X_isIn l S a2 1 69 _ rfl) xq_11_X_isIn (by decide) rfl rfl rfl (Nat.le_of_ble_eq_true rfl) dX11_isPostPlace_14 (fun H locs hw => ?_) ⟨Nat.zero_le _, Nat.zero_le _⟩
    refine lv_if_eqb (tgt := 24) hx hb dX11_isPostPlace_17 (by decide) (fun cn2 => ?_) (fun cn2 => ?_)
    · have hf := (if_neg cn2).symm.trans hf
      refine lv_iconst (v := 0) hx hb dX11_isPostPlace_24 (by decide) ?_
      obtain rfl := hf
      exact hQ _ _ _ _ dX11_isPostPlace_25 hw
    · have hf := (if_pos cn2).symm.trans hf
      refine lv_iconst (v := 1) hx hb dX11_isPostPlace_20 (by decide) ?_
      refine lv_goto (tgt := 25) hx hb dX11_isPostPlace_21 (by decide) ?_
      obtain rfl := hf
      exact hQ _ _ _ _ dX11_isPostPlace_25 hw
def xf_X_feed_L33 (N : Nat) (c1 : Int64) : Nat → xS → Int32 → Option (xS)
  | 0, _, _ => none
  | n + 1, S3, v2 => (if v2 < 0 then some S3 else (bd1 (xf_X_putOnTape N S3 ((((c1.toUInt64 >>> ((8 * v2).toInt64.toUInt64 &&& Int64.toUInt64 63)).toInt64).toInt32).toInt8.toInt32)) fun S4 => xf_X_feed_L33 N c1 n S4 (v2 + (-1))))
set_option maxRecDepth 100000 in
theorem wx_X_feed_L33 {p : Program} {l : Launch} {e : Env} {R : Room} {s : State} {m : MethodId} {args : Array Value} {below : List Frame} {meth : Method} {c : Code} {Q : State → Prop} {g : xG} {A : Nat → Prop} {H0 : Heap} (hc : qC RX11 cX11_feed p s m args c) (hR : qRoom R 3) (hml : c.maxLocals = 5) (N : Nat) (c1 : Int64) : ∀ (n : Nat) (S3 : xS) (v2 : Int32) (X : xS) (H : Heap) (locs : List Loc) (ls : Array Slot), xf_X_feed_L33 N c1 n S3 v2 = some X → xI g A H0 s S3 H locs → lv_has ls 5 [(0, .ref (xr g 0)), (1, .long c1), (4, .int v2)] → (∀ (H : Heap) (locs : List Loc) (ls : Array Slot), xI g A H0 s X H locs → lv_has ls 5 [(0, .ref (xr g 0))] → W p l e R s m args below meth c H locs 0 0 Q (F0 m 57 ls [])) → W p l e R s m args below meth c H locs 0 0 Q (F0 m 33 ls []) := by
  have hx := hc.1
  have hb := hc.2.1
  intro n
  induction n with
  | zero => intro _ _ X H locs ls hf; exact nomatch (show none = some X from hf)
  | succ n ih =>
    intro S3 v2 X H locs ls hf hw hl kx
    rw [xf_X_feed_L33] at hf
    refine lv_iload hx hb dX11_feed_33 (lv_at hl 2 rfl) ?_
    refine lv_if_lt (tgt := 57) hx hb dX11_feed_35 (by decide) (fun cn8 => ?_) (fun cn8 => ?_)
    · have hf := (if_pos cn8).symm.trans hf
      obtain rfl := Option.some.inj hf
      exact kx _ _ _ hw (lv_sub hl [0] rfl)
    · have hf := (if_neg cn8).symm.trans hf
      refine lv_aload_n hx hb dX11_feed_38 rfl (lv_at hl 0 rfl) ?_
      refine lv_lload_n hx hb dX11_feed_39 rfl (lv_at hl 1 rfl) ?_
      refine lv_bipush (v := 8) hx hb dX11_feed_40 (by decide) ?_
      refine lv_iload hx hb dX11_feed_42 (lv_at hl 2 rfl) ?_
      refine lv_imul hx hb dX11_feed_44 ?_
      refine lv_lushr hx hb dX11_feed_45 rfl ?_
      refine lv_l2i hx hb dX11_feed_46 rfl ?_
      refine lv_i2b hx hb dX11_feed_47 rfl ?_
      obtain ⟨S4, hcall, hf⟩ := bd1_some hf
      refine x_cvv (As := [.int ((((c1.toUInt64 >>> ((8 * v2).toInt64.toUInt64 &&& Int64.toUInt64 63)).toInt64).toInt32).toInt8.toInt32)]) (rest := []) hc hw hR (hml.trans hl.1.symm) (cx_X_putOnTape l N S3 ((((c1.toUInt64 >>> ((8 * v2).toInt64.toUInt64 &&& Int64.toUInt64 63)).toInt64).toInt32).toInt8.toInt32) S4 hcall) xq_11_X_putOnTape (x_recv_this hw) (by decide) rfl rfl rfl (Nat.le_of_ble_eq_true rfl) dX11_feed_48 (fun H locs hw => ?_) ⟨Nat.zero_le _, Nat.zero_le _⟩
      refine lv_iinc (lv' := [(4, .int (v2 + (-1))), (0, .ref (xr g 0)), (1, .long c1)]) hx hb dX11_feed_51 hl (k := 2) rfl rfl (by decide) rfl (fun ls hl => ?_)
      refine lv_goto (tgt := 33) hx hb dX11_feed_54 (by decide) ?_
      exact ih _ _ X _ _ _ hf hw (lv_sub hl [1, 2, 0] rfl) kx
def xf_X_feed (N : Nat) (S : xS) (a1 : Int64) (a2 : Int32) : Option (Int32 × xS) := (if (xf_X_isIn a2 1 8) = true then (if ((S.1 2 0) + a2) ≤ 160 then (bd1 (xf_X_feed_L33 N a1 N S (a2 - 1)) fun S5 => some (S5.1 2 0, S5)) else some ((-4), S)) else some ((-2), S))
set_option maxRecDepth 100000 in
theorem cx_X_feed (l : Launch) (N : Nat) (S : xS) (a1 : Int64) (a2 : Int32) (res : Int32) (S1 : xS) (hf : xf_X_feed N S a1 a2 = some (res, S1)) : xMi l yX11_feed cX11_feed 5 .int 3 (fun g => [.ref (xr g 0), .long a1, .int a2]) S res S1 := by
  refine xMi_of (own := RX11) (by decide) rfl rfl (fun g => Nat.le_of_ble_eq_true rfl) ?_
  intro p e R s m args below meth c Q g A H0 H locs ls hc hR hml hw hl hQ
  have hl : lv_has ls 5 [(0, .ref (xr g 0)), (1, .long a1), (3, .int a2)] := hl
  have hx := hc.1
  have hb := hc.2.1
  unfold xf_X_feed at hf
  refine lv_iload_n hx hb dX11_feed_0 rfl (lv_at hl 2 rfl) ?_
  refine lv_iconst (v := 1) hx hb dX11_feed_1 (by decide) ?_
  refine lv_bipush (v := 8) hx hb dX11_feed_2 (by decide) ?_
  refine x_csi (As := [.int a2, .int 1, .int 8]) (rest := []) hc hw hR (hml.trans hl.1.symm) (cx_X_isIn l S a2 1 8 _ rfl) xq_11_X_isIn (by decide) rfl rfl rfl (Nat.le_of_ble_eq_true rfl) dX11_feed_4 (fun H locs hw => ?_) ⟨Nat.zero_le _, Nat.zero_le _⟩
  refine lv_if_neb (tgt := 13) hx hb dX11_feed_7 (by decide) (fun cn6 => ?_) (fun cn6 => ?_)
  · have hf := (if_pos cn6).symm.trans hf
    refine lv_aload_n hx hb dX11_feed_13 rfl (lv_at hl 0 rfl) ?_
    refine x_g_this_tapeSize hc hw fl_11_47 dX11_feed_14 ?_
    refine lv_iload_n hx hb dX11_feed_17 rfl (lv_at hl 2 rfl) ?_
    refine lv_iadd hx hb dX11_feed_18 ?_
    refine lv_sipush (v := 160) hx hb dX11_feed_19 (by decide) ?_
    refine lv_icmp_le (tgt := 28) hx hb dX11_feed_22 (by decide) (fun cn7 => ?_) (fun cn7 => ?_)
    · have hf := (if_pos cn7).symm.trans hf
      refine lv_iload_n hx hb dX11_feed_28 rfl (lv_at hl 2 rfl) ?_
      refine lv_iconst (v := 1) hx hb dX11_feed_29 (by decide) ?_
      refine lv_isub hx hb dX11_feed_30 ?_
      refine lv_istore (lv' := [(4, .int (a2 - 1)), (0, .ref (xr g 0)), (1, .long a1), (3, .int a2)]) hx hb dX11_feed_31 hl (by decide) rfl (fun ls hl => ?_)
      obtain ⟨S5, hL, hf⟩ := bd1_some hf
      refine wx_X_feed_L33 hc hR hml N a1 N _ _ _ _ _ _ hL hw (lv_sub hl [1, 2, 0] rfl) (fun H locs ls hw hl => ?_)
      refine lv_aload_n hx hb dX11_feed_57 rfl (lv_at hl 0 rfl) ?_
      refine x_g_this_tapeSize hc hw fl_11_47 dX11_feed_58 ?_
      obtain ⟨rfl, rfl⟩ := pr2_some hf
      exact hQ _ _ _ _ dX11_feed_61 hw
    · have hf := (if_neg cn7).symm.trans hf
      refine lv_bipush (v := (-4)) hx hb dX11_feed_25 (by decide) ?_
      obtain ⟨rfl, rfl⟩ := pr2_some hf
      exact hQ _ _ _ _ dX11_feed_27 hw
  · have hf := (if_neg cn6).symm.trans hf
    refine lv_bipush (v := (-2)) hx hb dX11_feed_10 (by decide) ?_
    obtain ⟨rfl, rfl⟩ := pr2_some hf
    exact hQ _ _ _ _ dX11_feed_12 hw
def xf_X_lawful_L15 (N : Nat) (c1 : Int32) : Nat → xS → Int32 → Option ((Int32) ⊕ (Unit))
  | 0, _, _ => none
  | n + 1, S3, v2 => (if (S3.1 16 0) ≤ v2 then some (.inr ()) else (bd1 (xf_H_stepOf N S3 v2) fun v4 => (if (if 0 ≤ v4 then v4 else 0 - v4) ≤ c1 then xf_X_lawful_L15 N c1 n S3 (v2 + 1) else some (.inl v2))))
set_option maxRecDepth 100000 in
theorem wx_X_lawful_L15 {p : Program} {l : Launch} {e : Env} {R : Room} {s : State} {m : MethodId} {args : Array Value} {below : List Frame} {meth : Method} {c : Code} {Q : State → Prop} {g : xG} {A : Nat → Prop} {H0 : Heap} (hc : qC RX11 cX11_lawful p s m args c) (hR : qRoom R 3) (hml : c.maxLocals = 3) (N : Nat) (c1 : Int32) : ∀ (n : Nat) (S3 : xS) (v2 : Int32) (X : (Int32) ⊕ (Unit)) (H : Heap) (locs : List Loc) (ls : Array Slot), xf_X_lawful_L15 N c1 n S3 v2 = some X → xI g A H0 s S3 H locs → lv_has ls 3 [(0, .ref (xr g 0)), (1, .int c1), (2, .int v2)] → (∀ (_ : Unit), X = .inr () → ∀ (H : Heap) (locs : List Loc) (ls : Array Slot), xI g A H0 s S3 H locs → lv_has ls 3 [] → W p l e R s m args below meth c H locs 0 0 Q (F0 m 49 ls [])) → (∀ (r : Int32), X = .inl r → xQi p l e R s m args below meth c cX11_lawful Q g A H0 r S3) → W p l e R s m args below meth c H locs 0 0 Q (F0 m 15 ls []) := by
  have hx := hc.1
  have hb := hc.2.1
  intro n
  induction n with
  | zero => intro _ _ X H locs ls hf; exact nomatch (show none = some X from hf)
  | succ n ih =>
    intro S3 v2 X H locs ls hf hw hl kx kr
    rw [xf_X_lawful_L15] at hf
    refine lv_iload_n hx hb dX11_lawful_15 rfl (lv_at hl 2 rfl) ?_
    refine lv_aload_n hx hb dX11_lawful_16 rfl (lv_at hl 0 rfl) ?_
    refine x_g_this_hall hc hw fl_11_10 dX11_lawful_17 ?_
    refine x_g_hall_rowCount hc hw fl_11_113 dX11_lawful_20 ?_
    refine lv_icmp_ge (tgt := 49) hx hb dX11_lawful_23 (by decide) (fun cn6 => ?_) (fun cn6 => ?_)
    · have hf := (if_pos cn6).symm.trans hf
      obtain rfl := Option.some.inj hf
      exact kx () rfl _ _ _ hw (lv_sub hl [] rfl)
    · have hf := (if_neg cn6).symm.trans hf
      refine lv_aload_n hx hb dX11_lawful_26 rfl (lv_at hl 0 rfl) ?_
      refine x_g_this_hall hc hw fl_11_10 dX11_lawful_27 ?_
      refine lv_iload_n hx hb dX11_lawful_30 rfl (lv_at hl 2 rfl) ?_
      obtain ⟨v4, hcall, hf⟩ := bd1_some hf
      refine x_cvi (As := [.int v2]) (rest := []) hc hw hR (hml.trans hl.1.symm) (cx_H_stepOf l N S3 v2 v4 hcall) xq_11_H_stepOf (x_recv_hall hw) (by decide) rfl rfl rfl (Nat.le_of_ble_eq_true rfl) dX11_lawful_31 (fun H locs hw => ?_) ⟨Nat.zero_le _, Nat.zero_le _⟩
      refine x_mabs hc hR (by decide) (hml.trans hl.1.symm) xq_11_x_mabs (Nat.le_of_ble_eq_true rfl) dX11_lawful_34 ?_ ⟨Nat.zero_le _, Nat.zero_le _⟩
      refine lv_iload_n hx hb dX11_lawful_37 rfl (lv_at hl 1 rfl) ?_
      refine lv_icmp_le (tgt := 43) hx hb dX11_lawful_38 (by decide) (fun cn7 => ?_) (fun cn7 => ?_)
      · have hf := (if_pos cn7).symm.trans hf
        refine lv_iinc (lv' := [(2, .int (v2 + 1)), (0, .ref (xr g 0)), (1, .int c1)]) hx hb dX11_lawful_43 hl (k := 2) rfl rfl (by decide) rfl (fun ls hl => ?_)
        refine lv_goto (tgt := 15) hx hb dX11_lawful_46 (by decide) ?_
        exact ih _ _ X _ _ _ hf hw (lv_sub hl [1, 2, 0] rfl) kx kr
      · have hf := (if_neg cn7).symm.trans hf
        refine lv_iload_n hx hb dX11_lawful_41 rfl (lv_at hl 2 rfl) ?_
        obtain rfl := Option.some.inj hf
        exact kr _  rfl _ _ _ _ dX11_lawful_42 hw
def xf_X_lawful (N : Nat) (S : xS) (a1 : Int32) : Option (Int32) := (if (xf_X_isIn a1 0 99) = true then (br0 (xf_X_lawful_L15 N a1 N S 0) (Option.some) fun _ => some (-1)) else some (-2))
set_option maxRecDepth 100000 in
theorem cx_X_lawful (l : Launch) (N : Nat) (S : xS) (a1 : Int32) (res : Int32) (hf : xf_X_lawful N S a1 = some res) : xMi l yX11_lawful cX11_lawful 3 .int 3 (fun g => [.ref (xr g 0), .int a1]) S res S := by
  refine xMi_of (own := RX11) (by decide) rfl rfl (fun g => Nat.le_of_ble_eq_true rfl) ?_
  intro p e R s m args below meth c Q g A H0 H locs ls hc hR hml hw hl hQ
  have hl : lv_has ls 3 [(0, .ref (xr g 0)), (1, .int a1)] := hl
  have hx := hc.1
  have hb := hc.2.1
  unfold xf_X_lawful at hf
  refine lv_iload_n hx hb dX11_lawful_0 rfl (lv_at hl 1 rfl) ?_
  refine lv_iconst (v := 0) hx hb dX11_lawful_1 (by decide) ?_
  refine lv_bipush (v := 99) hx hb dX11_lawful_2 (by decide) ?_
  refine x_csi (As := [.int a1, .int 0, .int 99]) (rest := []) hc hw hR (hml.trans hl.1.symm) (cx_X_isIn l S a1 0 99 _ rfl) xq_11_X_isIn (by decide) rfl rfl rfl (Nat.le_of_ble_eq_true rfl) dX11_lawful_4 (fun H locs hw => ?_) ⟨Nat.zero_le _, Nat.zero_le _⟩
  refine lv_if_neb (tgt := 13) hx hb dX11_lawful_7 (by decide) (fun cn5 => ?_) (fun cn5 => ?_)
  · have hf := (if_pos cn5).symm.trans hf
    refine lv_iconst (v := 0) hx hb dX11_lawful_13 (by decide) ?_
    refine lv_istore_n (lv' := [(2, .int 0), (0, .ref (xr g 0)), (1, .int a1)]) hx hb dX11_lawful_14 rfl hl (by decide) rfl (fun ls hl => ?_)
    rcases br0_some hf with ⟨q, hL, hf⟩ | ⟨hL, hf⟩
    · refine wx_X_lawful_L15 hc hR hml N a1 N _ _ _ _ _ _ hL hw (lv_sub hl [1, 2, 0] rfl) (fun _  h => nomatch h) ?_
      obtain rfl := Option.some.inj hf
      intro z0 h; cases h; exact hQ
    · refine wx_X_lawful_L15 hc hR hml N a1 N _ _ _ _ _ _ hL hw (lv_sub hl [1, 2, 0] rfl) (fun y0 hi => ?_) (fun _  h => nomatch h)
      cases hi
      intro H locs ls hw hl
      refine lv_iconst (v := (-1)) hx hb dX11_lawful_49 (by decide) ?_
      obtain rfl := Option.some.inj hf
      exact hQ _ _ _ _ dX11_lawful_50 hw
  · have hf := (if_neg cn5).symm.trans hf
    refine lv_bipush (v := (-2)) hx hb dX11_lawful_10 (by decide) ?_
    obtain rfl := Option.some.inj hf
    exact hQ _ _ _ _ dX11_lawful_12 hw
def xf_X_reduce (N : Nat) (S : xS) (a1 : Int64) (a2 : Int64) : Option (xS) := (bd1 (xf_X_commonDivisor N a1 a2) fun v1 => (if ¬ v1 = 0 then (if ¬ v1 = 0 then some (xt (xt S 0 (0 : Int32).toNatClampNeg (a1 / v1)) 0 (1 : Int32).toNatClampNeg (a2 / v1)) else none) else none))
set_option maxRecDepth 100000 in
theorem cx_X_reduce (l : Launch) (N : Nat) (S : xS) (a1 : Int64) (a2 : Int64) (S1 : xS) (hf : xf_X_reduce N S a1 a2 = some S1) : xMv l yX11_reduce cX11_reduce 7 3 (fun g => [.long a1, .long a2, .ref (xr g 5)]) S S1 := by
  refine xMv_of (own := RX11) (by decide) rfl (fun g => Nat.le_of_ble_eq_true rfl) ?_
  intro p e R s m args below meth c Q g A H0 H locs ls hc hR hml hw hl hQ
  have hl : lv_has ls 7 [(0, .long a1), (2, .long a2), (4, .ref (xr g 5))] := hl
  have hx := hc.1
  have hb := hc.2.1
  unfold xf_X_reduce at hf
  refine lv_lload_n hx hb dX11_reduce_0 rfl (lv_at hl 0 rfl) ?_
  refine lv_lload_n hx hb dX11_reduce_1 rfl (lv_at hl 1 rfl) ?_
  obtain ⟨v1, hcall, hf⟩ := bd1_some hf
  refine x_csl (As := [.long a1, .long a2]) (rest := []) hc hw hR (hml.trans hl.1.symm) (cx_X_commonDivisor l N S a1 a2 v1 hcall) xq_11_X_commonDivisor (by decide) rfl rfl rfl (Nat.le_of_ble_eq_true rfl) dX11_reduce_2 (fun H locs hw => ?_) ⟨Nat.zero_le _, Nat.zero_le _⟩
  refine lv_lstore (lv' := [(5, .long v1), (0, .long a1), (2, .long a2), (4, .ref (xr g 5))]) hx hb dX11_reduce_5 hl (by decide) rfl (fun ls hl => ?_)
  refine lv_aload hx hb dX11_reduce_7 (lv_at hl 3 rfl) ?_
  refine lv_iconst (v := 0) hx hb dX11_reduce_9 (by decide) ?_
  refine lv_lload_n hx hb dX11_reduce_10 rfl (lv_at hl 1 rfl) ?_
  refine lv_lload hx hb dX11_reduce_11 (lv_at hl 0 rfl) ?_
  obtain ⟨hn2, hf⟩ := gd_some hf
  refine lv_ldiv hx hb dX11_reduce_13 hn2 ?_
  refine x_s_this_fraction hc hw (ok_in (by decide)) dX11_reduce_14 (fun H locs hw => ?_)
  refine lv_aload hx hb dX11_reduce_15 (lv_at hl 3 rfl) ?_
  refine lv_iconst (v := 1) hx hb dX11_reduce_17 (by decide) ?_
  refine lv_lload_n hx hb dX11_reduce_18 rfl (lv_at hl 2 rfl) ?_
  refine lv_lload hx hb dX11_reduce_19 (lv_at hl 0 rfl) ?_
  obtain ⟨hn3, hf⟩ := gd_some hf
  refine lv_ldiv hx hb dX11_reduce_21 hn3 ?_
  refine x_s_this_fraction hc hw (ok_in (by decide)) dX11_reduce_22 (fun H locs hw => ?_)
  obtain rfl := Option.some.inj hf
  exact hQ _ _ _ _ dX11_reduce_23 hw
def xf_X_flat_L4 (N : Nat) : Nat → xS → Int32 → Int32 → Option (Int32)
  | 0, _, _, _ => none
  | n + 1, S3, v1, v2 => (if (S3.1 16 0) ≤ v2 then some v1 else (if ok v2 6 then (if v2.toNatClampNeg < S3.2.2.1 then (if (S3.1 57 v2.toNatClampNeg) ≤ 0 then xf_X_flat_L4 N n S3 v1 (v2 + 1) else (bd1 (xf_H_stepOf N S3 v2) fun v6 => (if v6 = 0 then xf_X_flat_L4 N n S3 v1 (v2 + 1) else xf_X_flat_L4 N n S3 (v1 + 1) (v2 + 1)))) else none) else none))
set_option maxRecDepth 100000 in
theorem wx_X_flat_L4 {p : Program} {l : Launch} {e : Env} {R : Room} {s : State} {m : MethodId} {args : Array Value} {below : List Frame} {meth : Method} {c : Code} {Q : State → Prop} {g : xG} {A : Nat → Prop} {H0 : Heap} (hc : qC RX11 cX11_flat p s m args c) (hR : qRoom R 3) (hml : c.maxLocals = 3) (N : Nat) : ∀ (n : Nat) (S3 : xS) (v1 : Int32) (v2 : Int32) (X : Int32) (H : Heap) (locs : List Loc) (ls : Array Slot), xf_X_flat_L4 N n S3 v1 v2 = some X → xI g A H0 s S3 H locs → lv_has ls 3 [(0, .ref (xr g 0)), (1, .int v1), (2, .int v2)] → (∀ (H : Heap) (locs : List Loc) (ls : Array Slot), xI g A H0 s S3 H locs → lv_has ls 3 [(1, .int X)] → W p l e R s m args below meth c H locs 0 0 Q (F0 m 50 ls [])) → W p l e R s m args below meth c H locs 0 0 Q (F0 m 4 ls []) := by
  have hx := hc.1
  have hb := hc.2.1
  intro n
  induction n with
  | zero => intro _ _ _ X H locs ls hf; exact nomatch (show none = some X from hf)
  | succ n ih =>
    intro S3 v1 v2 X H locs ls hf hw hl kx
    rw [xf_X_flat_L4] at hf
    refine lv_iload_n hx hb dX11_flat_4 rfl (lv_at hl 2 rfl) ?_
    refine lv_aload_n hx hb dX11_flat_5 rfl (lv_at hl 0 rfl) ?_
    refine x_g_this_hall hc hw fl_11_10 dX11_flat_6 ?_
    refine x_g_hall_rowCount hc hw fl_11_113 dX11_flat_9 ?_
    refine lv_icmp_ge (tgt := 50) hx hb dX11_flat_12 (by decide) (fun cn8 => ?_) (fun cn8 => ?_)
    · have hf := (if_pos cn8).symm.trans hf
      obtain rfl := Option.some.inj hf
      exact kx _ _ _ hw (lv_sub hl [1] rfl)
    · have hf := (if_neg cn8).symm.trans hf
      refine lv_aload_n hx hb dX11_flat_15 rfl (lv_at hl 0 rfl) ?_
      refine x_g_this_hall hc hw fl_11_10 dX11_flat_16 ?_
      refine x_g_hall_rows hc hw fl_11_116 dX11_flat_19 ?_
      refine lv_iload_n hx hb dX11_flat_22 rfl (lv_at hl 2 rfl) ?_
      obtain ⟨hi4, hf⟩ := gd_some hf
      obtain ⟨hr5, hf⟩ := gd_some hf
      refine x_l_rows hc hw (ok_in hi4) hr5 dX11_flat_23 ?_
      refine x_rg_rise hc hw hr5 fl_11_150 dX11_flat_24 ?_
      refine lv_if_le (tgt := 44) hx hb dX11_flat_27 (by decide) (fun cn9 => ?_) (fun cn9 => ?_)
      · have hf := (if_pos cn9).symm.trans hf
        refine lv_iinc (lv' := [(2, .int (v2 + 1)), (0, .ref (xr g 0)), (1, .int v1)]) hx hb dX11_flat_44 hl (k := 2) rfl rfl (by decide) rfl (fun ls hl => ?_)
        refine lv_goto (tgt := 4) hx hb dX11_flat_47 (by decide) ?_
        exact ih _ _ _ X _ _ _ hf hw (lv_sub hl [1, 2, 0] rfl) kx
      · have hf := (if_neg cn9).symm.trans hf
        refine lv_aload_n hx hb dX11_flat_30 rfl (lv_at hl 0 rfl) ?_
        refine x_g_this_hall hc hw fl_11_10 dX11_flat_31 ?_
        refine lv_iload_n hx hb dX11_flat_34 rfl (lv_at hl 2 rfl) ?_
        obtain ⟨v6, hcall, hf⟩ := bd1_some hf
        refine x_cvi (As := [.int v2]) (rest := []) hc hw hR (hml.trans hl.1.symm) (cx_H_stepOf l N S3 v2 v6 hcall) xq_11_H_stepOf (x_recv_hall hw) (by decide) rfl rfl rfl (Nat.le_of_ble_eq_true rfl) dX11_flat_35 (fun H locs hw => ?_) ⟨Nat.zero_le _, Nat.zero_le _⟩
        refine lv_if_eq (tgt := 44) hx hb dX11_flat_38 (by decide) (fun cn10 => ?_) (fun cn10 => ?_)
        · have hf := (if_pos cn10).symm.trans hf
          refine lv_iinc (lv' := [(2, .int (v2 + 1)), (0, .ref (xr g 0)), (1, .int v1)]) hx hb dX11_flat_44 hl (k := 2) rfl rfl (by decide) rfl (fun ls hl => ?_)
          refine lv_goto (tgt := 4) hx hb dX11_flat_47 (by decide) ?_
          exact ih _ _ _ X _ _ _ hf hw (lv_sub hl [1, 2, 0] rfl) kx
        · have hf := (if_neg cn10).symm.trans hf
          refine lv_iinc (lv' := [(1, .int (v1 + 1)), (0, .ref (xr g 0)), (2, .int v2)]) hx hb dX11_flat_41 hl (k := 1) rfl rfl (by decide) rfl (fun ls hl => ?_)
          refine lv_iinc (lv' := [(2, .int (v2 + 1)), (1, .int (v1 + 1)), (0, .ref (xr g 0))]) hx hb dX11_flat_44 hl (k := 2) rfl rfl (by decide) rfl (fun ls hl => ?_)
          refine lv_goto (tgt := 4) hx hb dX11_flat_47 (by decide) ?_
          exact ih _ _ _ X _ _ _ hf hw (lv_sub hl [2, 1, 0] rfl) kx
def xf_X_flat (N : Nat) (S : xS) : Option (Int32) := (bd1 (xf_X_flat_L4 N N S 0 0) fun v7 => some v7)
set_option maxRecDepth 100000 in
theorem cx_X_flat (l : Launch) (N : Nat) (S : xS) (res : Int32) (hf : xf_X_flat N S = some res) : xMi l yX11_flat cX11_flat 3 .int 3 (fun g => [.ref (xr g 0)]) S res S := by
  refine xMi_of (own := RX11) (by decide) rfl rfl (fun g => Nat.le_of_ble_eq_true rfl) ?_
  intro p e R s m args below meth c Q g A H0 H locs ls hc hR hml hw hl hQ
  have hl : lv_has ls 3 [(0, .ref (xr g 0))] := hl
  have hx := hc.1
  have hb := hc.2.1
  unfold xf_X_flat at hf
  refine lv_iconst (v := 0) hx hb dX11_flat_0 (by decide) ?_
  refine lv_istore_n (lv' := [(1, .int 0), (0, .ref (xr g 0))]) hx hb dX11_flat_1 rfl hl (by decide) rfl (fun ls hl => ?_)
  refine lv_iconst (v := 0) hx hb dX11_flat_2 (by decide) ?_
  refine lv_istore_n (lv' := [(2, .int 0), (1, .int 0), (0, .ref (xr g 0))]) hx hb dX11_flat_3 rfl hl (by decide) rfl (fun ls hl => ?_)
  obtain ⟨v7, hL, hf⟩ := bd1_some hf
  refine wx_X_flat_L4 hc hR hml N N _ _ _ _ _ _ _ hL hw (lv_sub hl [2, 1, 0] rfl) (fun H locs ls hw hl => ?_)
  refine lv_iload_n hx hb dX11_flat_50 rfl (lv_at hl 0 rfl) ?_
  obtain rfl := Option.some.inj hf
  exact hQ _ _ _ _ dX11_flat_51 hw
def xf_X_back (N : Nat) (S : xS) : Option (Int32 × xS) := (if (S.1 26 0) = 0 then some ((-3), S) else (bd1 (xf_I_restore N S) fun S1 => (bd2 (xf_X_force N S1 (S1.1 27 0)) fun v2 S3 => some (S3.1 16 0, S3))))
set_option maxRecDepth 100000 in
theorem cx_X_back (l : Launch) (N : Nat) (S : xS) (res : Int32) (S1 : xS) (hf : xf_X_back N S = some (res, S1)) : xMi l yX11_back cX11_back 1 .int 3 (fun g => [.ref (xr g 0)]) S res S1 := by
  refine xMi_of (own := RX11) (by decide) rfl rfl (fun g => Nat.le_of_ble_eq_true rfl) ?_
  intro p e R s m args below meth c Q g A H0 H locs ls hc hR hml hw hl hQ
  have hl : lv_has ls 1 [(0, .ref (xr g 0))] := hl
  have hx := hc.1
  have hb := hc.2.1
  unfold xf_X_back at hf
  refine lv_aload_n hx hb dX11_back_0 rfl (lv_at hl 0 rfl) ?_
  refine x_g_this_kept hc hw fl_11_19 dX11_back_1 ?_
  refine x_g_image_isThere hc hw fl_11_352 dX11_back_4 ?_
  refine lv_if_ne (tgt := 13) hx hb dX11_back_7 (by decide) (fun cn4 => ?_) (fun cn4 => ?_)
  · have hf := (if_neg cn4).symm.trans hf
    refine lv_aload_n hx hb dX11_back_13 rfl (lv_at hl 0 rfl) ?_
    refine x_g_this_kept hc hw fl_11_19 dX11_back_14 ?_
    refine lv_aload_n hx hb dX11_back_17 rfl (lv_at hl 0 rfl) ?_
    refine x_g_this_hall hc hw fl_11_10 dX11_back_18 ?_
    obtain ⟨S1, hcall, hf⟩ := bd1_some hf
    refine x_cvv (As := [.ref (xr g 1)]) (rest := []) hc hw hR (hml.trans hl.1.symm) (cx_I_restore l N S S1 hcall) xq_11_I_restore (x_recv_image hw) (by decide) rfl rfl rfl (Nat.le_of_ble_eq_true rfl) dX11_back_21 (fun H locs hw => ?_) ⟨Nat.zero_le _, Nat.zero_le _⟩
    refine lv_aload_n hx hb dX11_back_24 rfl (lv_at hl 0 rfl) ?_
    refine lv_aload_n hx hb dX11_back_25 rfl (lv_at hl 0 rfl) ?_
    refine x_g_this_kept hc hw fl_11_19 dX11_back_26 ?_
    refine x_g_image_law hc hw fl_11_359 dX11_back_29 ?_
    obtain ⟨v2, S3, hcall, hf⟩ := bd2_some hf
    refine x_cvi (As := [.int (S1.1 27 0)]) (rest := []) hc hw hR (hml.trans hl.1.symm) (cx_X_force l N S1 (S1.1 27 0) v2 S3 hcall) xq_11_X_force (x_recv_this hw) (by decide) rfl rfl rfl (Nat.le_of_ble_eq_true rfl) dX11_back_32 (fun H locs hw => ?_) ⟨Nat.zero_le _, Nat.zero_le _⟩
    refine lv_pop hx hb dX11_back_35 rfl ?_
    refine lv_aload_n hx hb dX11_back_36 rfl (lv_at hl 0 rfl) ?_
    refine x_g_this_hall hc hw fl_11_10 dX11_back_37 ?_
    refine x_g_hall_rowCount hc hw fl_11_113 dX11_back_40 ?_
    obtain ⟨rfl, rfl⟩ := pr2_some hf
    exact hQ _ _ _ _ dX11_back_43 hw
  · have hf := (if_pos cn4).symm.trans hf
    refine lv_bipush (v := (-3)) hx hb dX11_back_10 (by decide) ?_
    obtain ⟨rfl, rfl⟩ := pr2_some hf
    exact hQ _ _ _ _ dX11_back_12 hw
def xf_X_sheet_L68 (N : Nat) (c2 : Int32) (c3 : Int32) : Nat → xS → Int32 → Option (xS)
  | 0, _, _ => none
  | n + 1, S5, v4 => (if c3 ≤ v4 then some S5 else (if ok c2 4 then (if ok v4 60 then xf_X_sheet_L68 N c2 c3 n (xs S5 (70 + c2.toNatClampNeg) v4.toNatClampNeg 0) (v4 + 1) else none) else none))
set_option maxRecDepth 100000 in
theorem wx_X_sheet_L68 {p : Program} {l : Launch} {e : Env} {R : Room} {s : State} {m : MethodId} {args : Array Value} {below : List Frame} {meth : Method} {c : Code} {Q : State → Prop} {g : xG} {A : Nat → Prop} {H0 : Heap} (hc : qC RX11 cX11_sheet p s m args c) (hR : qRoom R 3) (hml : c.maxLocals = 5) (N : Nat) (c2 : Int32) (c3 : Int32) : ∀ (n : Nat) (S5 : xS) (v4 : Int32) (X : xS) (H : Heap) (locs : List Loc) (ls : Array Slot), xf_X_sheet_L68 N c2 c3 n S5 v4 = some X → xI g A H0 s S5 H locs → lv_has ls 5 [(0, .ref (xr g 0)), (1, .int c2), (3, .int c3), (4, .int v4)] → (∀ (H : Heap) (locs : List Loc) (ls : Array Slot), xI g A H0 s X H locs → lv_has ls 5 [] → W p l e R s m args below meth c H locs 0 0 Q (F0 m 90 ls [])) → W p l e R s m args below meth c H locs 0 0 Q (F0 m 68 ls []) := by
  have hx := hc.1
  have hb := hc.2.1
  intro n
  induction n with
  | zero => intro _ _ X H locs ls hf; exact nomatch (show none = some X from hf)
  | succ n ih =>
    intro S5 v4 X H locs ls hf hw hl kx
    rw [xf_X_sheet_L68] at hf
    refine lv_iload hx hb dX11_sheet_68 (lv_at hl 3 rfl) ?_
    refine lv_iload_n hx hb dX11_sheet_70 rfl (lv_at hl 2 rfl) ?_
    refine lv_icmp_ge (tgt := 90) hx hb dX11_sheet_71 (by decide) (fun cn15 => ?_) (fun cn15 => ?_)
    · have hf := (if_pos cn15).symm.trans hf
      obtain rfl := Option.some.inj hf
      exact kx _ _ _ hw (lv_sub hl [] rfl)
    · have hf := (if_neg cn15).symm.trans hf
      refine lv_aload_n hx hb dX11_sheet_74 rfl (lv_at hl 0 rfl) ?_
      refine x_g_this_cells hc hw fl_11_52 dX11_sheet_75 ?_
      refine lv_iload_n hx hb dX11_sheet_78 rfl (lv_at hl 1 rfl) ?_
      obtain ⟨hi6, hf⟩ := gd_some hf
      refine x_l_cells hc hw (ok_in hi6) (ok_nat hi6) dX11_sheet_79 ?_
      refine lv_iload hx hb dX11_sheet_80 (lv_at hl 3 rfl) ?_
      refine lv_iconst (v := 0) hx hb dX11_sheet_82 (by decide) ?_
      obtain ⟨hi7, hf⟩ := gd_some hf
      refine x_s_sheet hc hw (ok_nat hi6) (ok_in hi7) dX11_sheet_83 (fun H locs hw => ?_)
      refine lv_iinc (lv' := [(4, .int (v4 + 1)), (0, .ref (xr g 0)), (1, .int c2), (3, .int c3)]) hx hb dX11_sheet_84 hl (k := 3) rfl rfl (by decide) rfl (fun ls hl => ?_)
      refine lv_goto (tgt := 68) hx hb dX11_sheet_87 (by decide) ?_
      exact ih _ _ X _ _ _ hf hw (lv_sub hl [1, 2, 3, 0] rfl) kx
def xf_X_sheet (N : Nat) (S : xS) (a1 : Int32) (a2 : Int32) (a3 : Int32) : Option (Int32 × xS) := (if (xf_X_isIn a1 0 3) = true then (if (xf_X_isIn a2 (-1) 2) = true then (if a2 = (-1) then (if ok a1 4 then some (1, xs S 4 a1.toNatClampNeg (-1)) else none) else (if a3 ≤ 60 then (if 0 ≤ a3 then (if ok a1 4 then (bd1 (xf_X_sheet_L68 N a1 a3 N (xs (xs S 4 a1.toNatClampNeg a2) 5 a1.toNatClampNeg a3) 0) fun S8 => some (1, S8)) else none) else some ((-14), S)) else some ((-2), S))) else some ((-2), S)) else some ((-2), S))
set_option maxRecDepth 100000 in
theorem cx_X_sheet (l : Launch) (N : Nat) (S : xS) (a1 : Int32) (a2 : Int32) (a3 : Int32) (res : Int32) (S1 : xS) (hf : xf_X_sheet N S a1 a2 a3 = some (res, S1)) : xMi l yX11_sheet cX11_sheet 5 .int 3 (fun g => [.ref (xr g 0), .int a1, .int a2, .int a3]) S res S1 := by
  refine xMi_of (own := RX11) (by decide) rfl rfl (fun g => Nat.le_of_ble_eq_true rfl) ?_
  intro p e R s m args below meth c Q g A H0 H locs ls hc hR hml hw hl hQ
  have hl : lv_has ls 5 [(0, .ref (xr g 0)), (1, .int a1), (2, .int a2), (3, .int a3)] := hl
  have hx := hc.1
  have hb := hc.2.1
  unfold xf_X_sheet at hf
  refine lv_iload_n hx hb dX11_sheet_0 rfl (lv_at hl 1 rfl) ?_
  refine lv_iconst (v := 0) hx hb dX11_sheet_1 (by decide) ?_
  refine lv_iconst (v := 3) hx hb dX11_sheet_2 (by decide) ?_
  refine x_csi (As := [.int a1, .int 0, .int 3]) (rest := []) hc hw hR (hml.trans hl.1.symm) (cx_X_isIn l S a1 0 3 _ rfl) xq_11_X_isIn (by decide) rfl rfl rfl (Nat.le_of_ble_eq_true rfl) dX11_sheet_3 (fun H locs hw => ?_) ⟨Nat.zero_le _, Nat.zero_le _⟩
  refine lv_if_eqb (tgt := 18) hx hb dX11_sheet_6 (by decide) (fun cn10 => ?_) (fun cn10 => ?_)
  · have hf := (if_neg cn10).symm.trans hf
    refine lv_bipush (v := (-2)) hx hb dX11_sheet_18 (by decide) ?_
    obtain ⟨rfl, rfl⟩ := pr2_some hf
    exact hQ _ _ _ _ dX11_sheet_20 hw
  · have hf := (if_pos cn10).symm.trans hf
    refine lv_iload_n hx hb dX11_sheet_9 rfl (lv_at hl 2 rfl) ?_
    refine lv_iconst (v := (-1)) hx hb dX11_sheet_10 (by decide) ?_
    refine lv_iconst (v := 2) hx hb dX11_sheet_11 (by decide) ?_
    refine x_csi (As := [.int a2, .int (-1), .int 2]) (rest := []) hc hw hR (hml.trans hl.1.symm) (cx_X_isIn l S a2 (-1) 2 _ rfl) xq_11_X_isIn (by decide) rfl rfl rfl (Nat.le_of_ble_eq_true rfl) dX11_sheet_12 (fun H locs hw => ?_) ⟨Nat.zero_le _, Nat.zero_le _⟩
    refine lv_if_neb (tgt := 21) hx hb dX11_sheet_15 (by decide) (fun cn11 => ?_) (fun cn11 => ?_)
    · have hf := (if_pos cn11).symm.trans hf
      refine lv_iload_n hx hb dX11_sheet_21 rfl (lv_at hl 2 rfl) ?_
      refine lv_iconst (v := (-1)) hx hb dX11_sheet_22 (by decide) ?_
      refine lv_icmp_ne (tgt := 35) hx hb dX11_sheet_23 (by decide) (fun cn12 => ?_) (fun cn12 => ?_)
      · have hf := (if_neg cn12).symm.trans hf
        refine lv_iload_n hx hb dX11_sheet_35 rfl (lv_at hl 3 rfl) ?_
        refine lv_bipush (v := 60) hx hb dX11_sheet_36 (by decide) ?_
        refine lv_icmp_le (tgt := 44) hx hb dX11_sheet_38 (by decide) (fun cn13 => ?_) (fun cn13 => ?_)
        · have hf := (if_pos cn13).symm.trans hf
          refine lv_iload_n hx hb dX11_sheet_44 rfl (lv_at hl 3 rfl) ?_
          refine lv_if_ge (tgt := 51) hx hb dX11_sheet_45 (by decide) (fun cn14 => ?_) (fun cn14 => ?_)
          · have hf := (if_pos cn14).symm.trans hf
            refine lv_aload_n hx hb dX11_sheet_51 rfl (lv_at hl 0 rfl) ?_
            refine x_g_this_sheetSorts hc hw fl_11_55 dX11_sheet_52 ?_
            refine lv_iload_n hx hb dX11_sheet_55 rfl (lv_at hl 1 rfl) ?_
            refine lv_iload_n hx hb dX11_sheet_56 rfl (lv_at hl 2 rfl) ?_
            obtain ⟨hi1, hf⟩ := gd_some hf
            refine x_s_this_sheetSorts hc hw (ok_in hi1) dX11_sheet_57 (fun H locs hw => ?_)
            refine lv_aload_n hx hb dX11_sheet_58 rfl (lv_at hl 0 rfl) ?_
            refine x_g_this_sheetSizes hc hw fl_11_59 dX11_sheet_59 ?_
            refine lv_iload_n hx hb dX11_sheet_62 rfl (lv_at hl 1 rfl) ?_
            refine lv_iload_n hx hb dX11_sheet_63 rfl (lv_at hl 3 rfl) ?_
            refine x_s_this_sheetSizes hc hw (ok_in hi1) dX11_sheet_64 (fun H locs hw => ?_)
            refine lv_iconst (v := 0) hx hb dX11_sheet_65 (by decide) ?_
            refine lv_istore (lv' := [(4, .int 0), (0, .ref (xr g 0)), (1, .int a1), (2, .int a2), (3, .int a3)]) hx hb dX11_sheet_66 hl (by decide) rfl (fun ls hl => ?_)
            obtain ⟨S8, hL, hf⟩ := bd1_some hf
            refine wx_X_sheet_L68 hc hR hml N a1 a3 N _ _ _ _ _ _ hL hw (lv_sub hl [1, 2, 4, 0] rfl) (fun H locs ls hw hl => ?_)
            refine lv_iconst (v := 1) hx hb dX11_sheet_90 (by decide) ?_
            obtain ⟨rfl, rfl⟩ := pr2_some hf
            exact hQ _ _ _ _ dX11_sheet_91 hw
          · have hf := (if_neg cn14).symm.trans hf
            refine lv_bipush (v := (-14)) hx hb dX11_sheet_48 (by decide) ?_
            obtain ⟨rfl, rfl⟩ := pr2_some hf
            exact hQ _ _ _ _ dX11_sheet_50 hw
        · have hf := (if_neg cn13).symm.trans hf
          refine lv_bipush (v := (-2)) hx hb dX11_sheet_41 (by decide) ?_
          obtain ⟨rfl, rfl⟩ := pr2_some hf
          exact hQ _ _ _ _ dX11_sheet_43 hw
      · have hf := (if_pos cn12).symm.trans hf
        refine lv_aload_n hx hb dX11_sheet_26 rfl (lv_at hl 0 rfl) ?_
        refine x_g_this_sheetSorts hc hw fl_11_55 dX11_sheet_27 ?_
        refine lv_iload_n hx hb dX11_sheet_30 rfl (lv_at hl 1 rfl) ?_
        refine lv_iconst (v := (-1)) hx hb dX11_sheet_31 (by decide) ?_
        obtain ⟨hi9, hf⟩ := gd_some hf
        refine x_s_this_sheetSorts hc hw (ok_in hi9) dX11_sheet_32 (fun H locs hw => ?_)
        refine lv_iconst (v := 1) hx hb dX11_sheet_33 (by decide) ?_
        obtain ⟨rfl, rfl⟩ := pr2_some hf
        exact hQ _ _ _ _ dX11_sheet_34 hw
    · have hf := (if_neg cn11).symm.trans hf
      refine lv_bipush (v := (-2)) hx hb dX11_sheet_18 (by decide) ?_
      obtain ⟨rfl, rfl⟩ := pr2_some hf
      exact hQ _ _ _ _ dX11_sheet_20 hw
def xf_X_refusalOfSheet (N : Nat) (S : xS) (a1 : Int32) : Option (Int32) := (if (xf_X_isIn a1 0 3) = true then (if ok a1 4 then (if (S.1 4 a1.toNatClampNeg) = (-1) then some (-11) else some 0) else none) else some (-2))
set_option maxRecDepth 100000 in
theorem cx_X_refusalOfSheet (l : Launch) (N : Nat) (S : xS) (a1 : Int32) (res : Int32) (hf : xf_X_refusalOfSheet N S a1 = some res) : xMi l yX11_refusalOfSheet cX11_refusalOfSheet 2 .int 3 (fun g => [.ref (xr g 0), .int a1]) S res S := by
  refine xMi_of (own := RX11) (by decide) rfl rfl (fun g => Nat.le_of_ble_eq_true rfl) ?_
  intro p e R s m args below meth c Q g A H0 H locs ls hc hR hml hw hl hQ
  have hl : lv_has ls 2 [(0, .ref (xr g 0)), (1, .int a1)] := hl
  have hx := hc.1
  have hb := hc.2.1
  unfold xf_X_refusalOfSheet at hf
  refine lv_iload_n hx hb dX11_refusalOfSheet_0 rfl (lv_at hl 1 rfl) ?_
  refine lv_iconst (v := 0) hx hb dX11_refusalOfSheet_1 (by decide) ?_
  refine lv_iconst (v := 3) hx hb dX11_refusalOfSheet_2 (by decide) ?_
  refine x_csi (As := [.int a1, .int 0, .int 3]) (rest := []) hc hw hR (hml.trans hl.1.symm) (cx_X_isIn l S a1 0 3 _ rfl) xq_11_X_isIn (by decide) rfl rfl rfl (Nat.le_of_ble_eq_true rfl) dX11_refusalOfSheet_3 (fun H locs hw => ?_) ⟨Nat.zero_le _, Nat.zero_le _⟩
  refine lv_if_neb (tgt := 12) hx hb dX11_refusalOfSheet_6 (by decide) (fun cn2 => ?_) (fun cn2 => ?_)
  · have hf := (if_pos cn2).symm.trans hf
    refine lv_aload_n hx hb dX11_refusalOfSheet_12 rfl (lv_at hl 0 rfl) ?_
    refine x_g_this_sheetSorts hc hw fl_11_55 dX11_refusalOfSheet_13 ?_
    refine lv_iload_n hx hb dX11_refusalOfSheet_16 rfl (lv_at hl 1 rfl) ?_
    obtain ⟨hi1, hf⟩ := gd_some hf
    refine x_l_this_sheetSorts hc hw (ok_in hi1) dX11_refusalOfSheet_17 ?_
    refine lv_iconst (v := (-1)) hx hb dX11_refusalOfSheet_18 (by decide) ?_
    refine lv_icmp_ne (tgt := 27) hx hb dX11_refusalOfSheet_19 (by decide) (fun cn3 => ?_) (fun cn3 => ?_)
    · have hf := (if_neg cn3).symm.trans hf
      refine lv_iconst (v := 0) hx hb dX11_refusalOfSheet_27 (by decide) ?_
      obtain rfl := Option.some.inj hf
      exact hQ _ _ _ _ dX11_refusalOfSheet_28 hw
    · have hf := (if_pos cn3).symm.trans hf
      refine lv_bipush (v := (-11)) hx hb dX11_refusalOfSheet_22 (by decide) ?_
      refine lv_goto (tgt := 28) hx hb dX11_refusalOfSheet_24 (by decide) ?_
      obtain rfl := Option.some.inj hf
      exact hQ _ _ _ _ dX11_refusalOfSheet_28 hw
  · have hf := (if_neg cn2).symm.trans hf
    refine lv_bipush (v := (-2)) hx hb dX11_refusalOfSheet_9 (by decide) ?_
    obtain rfl := Option.some.inj hf
    exact hQ _ _ _ _ dX11_refusalOfSheet_11 hw
def xf_X_copy (N : Nat) (S : xS) (a1 : Int32) (a2 : Int32) (a3 : Int32) (a4 : Int32) (a5 : Int32) : Option (Int32 × xS) := (if (xf_X_isIn a1 0 3) = true then (if (xf_X_isIn a3 0 3) = true then (if ok a1 4 then (if (S.1 4 a1.toNatClampNeg) = (-1) then some ((-11), S) else (if ok a3 4 then (if (S.1 4 a3.toNatClampNeg) = (-1) then some ((-11), S) else (if (S.1 4 a1.toNatClampNeg) = (S.1 4 a3.toNatClampNeg) then (if a5 < 0 then some ((-12), S) else (if a2 < 0 then some ((-12), S) else (if a4 < 0 then some ((-12), S) else (if ((S.1 5 a1.toNatClampNeg) - a5) < a2 then some ((-12), S) else (if a4 ≤ ((S.1 5 a3.toNatClampNeg) - a5) then (if cpok a2 a4 a5 60 60 = true then some (a5, xf S (70 + a3.toNatClampNeg) (va_cpy (S.1 (70 + a1.toNatClampNeg)) (S.1 (70 + a3.toNatClampNeg)) a2.toNatClampNeg a4.toNatClampNeg a5.toNatClampNeg)) else none) else some ((-12), S)))))) else some ((-13), S))) else none)) else none) else some ((-2), S)) else some ((-2), S))
set_option maxRecDepth 100000 in
theorem cx_X_copy (l : Launch) (N : Nat) (S : xS) (a1 : Int32) (a2 : Int32) (a3 : Int32) (a4 : Int32) (a5 : Int32) (res : Int32) (S1 : xS) (hf : xf_X_copy N S a1 a2 a3 a4 a5 = some (res, S1)) : xMi l yX11_copy cX11_copy 6 .int 3 (fun g => [.ref (xr g 0), .int a1, .int a2, .int a3, .int a4, .int a5]) S res S1 := by
  refine xMi_of (own := RX11) (by decide) rfl rfl (fun g => Nat.le_of_ble_eq_true rfl) ?_
  intro p e R s m args below meth c Q g A H0 H locs ls hc hR hml hw hl hQ
  have hl : lv_has ls 6 [(0, .ref (xr g 0)), (1, .int a1), (2, .int a2), (3, .int a3), (4, .int a4), (5, .int a5)] := hl
  have hx := hc.1
  have hb := hc.2.1
  unfold xf_X_copy at hf
  refine lv_iload_n hx hb dX11_copy_0 rfl (lv_at hl 1 rfl) ?_
  refine lv_iconst (v := 0) hx hb dX11_copy_1 (by decide) ?_
  refine lv_iconst (v := 3) hx hb dX11_copy_2 (by decide) ?_
  refine x_csi (As := [.int a1, .int 0, .int 3]) (rest := []) hc hw hR (hml.trans hl.1.symm) (cx_X_isIn l S a1 0 3 _ rfl) xq_11_X_isIn (by decide) rfl rfl rfl (Nat.le_of_ble_eq_true rfl) dX11_copy_3 (fun H locs hw => ?_) ⟨Nat.zero_le _, Nat.zero_le _⟩
  refine lv_if_eqb (tgt := 18) hx hb dX11_copy_6 (by decide) (fun cn4 => ?_) (fun cn4 => ?_)
  · have hf := (if_neg cn4).symm.trans hf
    refine lv_bipush (v := (-2)) hx hb dX11_copy_18 (by decide) ?_
    obtain ⟨rfl, rfl⟩ := pr2_some hf
    exact hQ _ _ _ _ dX11_copy_20 hw
  · have hf := (if_pos cn4).symm.trans hf
    refine lv_iload_n hx hb dX11_copy_9 rfl (lv_at hl 3 rfl) ?_
    refine lv_iconst (v := 0) hx hb dX11_copy_10 (by decide) ?_
    refine lv_iconst (v := 3) hx hb dX11_copy_11 (by decide) ?_
    refine x_csi (As := [.int a3, .int 0, .int 3]) (rest := []) hc hw hR (hml.trans hl.1.symm) (cx_X_isIn l S a3 0 3 _ rfl) xq_11_X_isIn (by decide) rfl rfl rfl (Nat.le_of_ble_eq_true rfl) dX11_copy_12 (fun H locs hw => ?_) ⟨Nat.zero_le _, Nat.zero_le _⟩
    refine lv_if_neb (tgt := 21) hx hb dX11_copy_15 (by decide) (fun cn5 => ?_) (fun cn5 => ?_)
    · have hf := (if_pos cn5).symm.trans hf
      refine lv_aload_n hx hb dX11_copy_21 rfl (lv_at hl 0 rfl) ?_
      refine x_g_this_sheetSorts hc hw fl_11_55 dX11_copy_22 ?_
      refine lv_iload_n hx hb dX11_copy_25 rfl (lv_at hl 1 rfl) ?_
      obtain ⟨hi1, hf⟩ := gd_some hf
      refine x_l_this_sheetSorts hc hw (ok_in hi1) dX11_copy_26 ?_
      refine lv_iconst (v := (-1)) hx hb dX11_copy_27 (by decide) ?_
      refine lv_icmp_eq (tgt := 41) hx hb dX11_copy_28 (by decide) (fun cn6 => ?_) (fun cn6 => ?_)
      · have hf := (if_pos cn6).symm.trans hf
        refine lv_bipush (v := (-11)) hx hb dX11_copy_41 (by decide) ?_
        obtain ⟨rfl, rfl⟩ := pr2_some hf
        exact hQ _ _ _ _ dX11_copy_43 hw
      · have hf := (if_neg cn6).symm.trans hf
        refine lv_aload_n hx hb dX11_copy_31 rfl (lv_at hl 0 rfl) ?_
        refine x_g_this_sheetSorts hc hw fl_11_55 dX11_copy_32 ?_
        refine lv_iload_n hx hb dX11_copy_35 rfl (lv_at hl 3 rfl) ?_
        obtain ⟨hi2, hf⟩ := gd_some hf
        refine x_l_this_sheetSorts hc hw (ok_in hi2) dX11_copy_36 ?_
        refine lv_iconst (v := (-1)) hx hb dX11_copy_37 (by decide) ?_
        refine lv_icmp_ne (tgt := 44) hx hb dX11_copy_38 (by decide) (fun cn7 => ?_) (fun cn7 => ?_)
        · have hf := (if_neg cn7).symm.trans hf
          refine lv_aload_n hx hb dX11_copy_44 rfl (lv_at hl 0 rfl) ?_
          refine x_g_this_sheetSorts hc hw fl_11_55 dX11_copy_45 ?_
          refine lv_iload_n hx hb dX11_copy_48 rfl (lv_at hl 1 rfl) ?_
          refine x_l_this_sheetSorts hc hw (ok_in hi1) dX11_copy_49 ?_
          refine lv_aload_n hx hb dX11_copy_50 rfl (lv_at hl 0 rfl) ?_
          refine x_g_this_sheetSorts hc hw fl_11_55 dX11_copy_51 ?_
          refine lv_iload_n hx hb dX11_copy_54 rfl (lv_at hl 3 rfl) ?_
          refine x_l_this_sheetSorts hc hw (ok_in hi2) dX11_copy_55 ?_
          refine lv_icmp_eq (tgt := 62) hx hb dX11_copy_56 (by decide) (fun cn8 => ?_) (fun cn8 => ?_)
          · have hf := (if_pos cn8).symm.trans hf
            refine lv_iload hx hb dX11_copy_62 (lv_at hl 5 rfl) ?_
            refine lv_if_lt (tgt := 103) hx hb dX11_copy_64 (by decide) (fun cn9 => ?_) (fun cn9 => ?_)
            · have hf := (if_pos cn9).symm.trans hf
              refine lv_bipush (v := (-12)) hx hb dX11_copy_103 (by decide) ?_
              obtain ⟨rfl, rfl⟩ := pr2_some hf
              exact hQ _ _ _ _ dX11_copy_105 hw
            · have hf := (if_neg cn9).symm.trans hf
              refine lv_iload_n hx hb dX11_copy_67 rfl (lv_at hl 2 rfl) ?_
              refine lv_if_lt (tgt := 103) hx hb dX11_copy_68 (by decide) (fun cn10 => ?_) (fun cn10 => ?_)
              · have hf := (if_pos cn10).symm.trans hf
                refine lv_bipush (v := (-12)) hx hb dX11_copy_103 (by decide) ?_
                obtain ⟨rfl, rfl⟩ := pr2_some hf
                exact hQ _ _ _ _ dX11_copy_105 hw
              · have hf := (if_neg cn10).symm.trans hf
                refine lv_iload hx hb dX11_copy_71 (lv_at hl 4 rfl) ?_
                refine lv_if_lt (tgt := 103) hx hb dX11_copy_73 (by decide) (fun cn11 => ?_) (fun cn11 => ?_)
                · have hf := (if_pos cn11).symm.trans hf
                  refine lv_bipush (v := (-12)) hx hb dX11_copy_103 (by decide) ?_
                  obtain ⟨rfl, rfl⟩ := pr2_some hf
                  exact hQ _ _ _ _ dX11_copy_105 hw
                · have hf := (if_neg cn11).symm.trans hf
                  refine lv_iload_n hx hb dX11_copy_76 rfl (lv_at hl 2 rfl) ?_
                  refine lv_aload_n hx hb dX11_copy_77 rfl (lv_at hl 0 rfl) ?_
                  refine x_g_this_sheetSizes hc hw fl_11_59 dX11_copy_78 ?_
                  refine lv_iload_n hx hb dX11_copy_81 rfl (lv_at hl 1 rfl) ?_
                  refine x_l_this_sheetSizes hc hw (ok_in hi1) dX11_copy_82 ?_
                  refine lv_iload hx hb dX11_copy_83 (lv_at hl 5 rfl) ?_
                  refine lv_isub hx hb dX11_copy_85 ?_
                  refine lv_icmp_gt (tgt := 103) hx hb dX11_copy_86 (by decide) (fun cn12 => ?_) (fun cn12 => ?_)
                  · have hf := (if_pos cn12).symm.trans hf
                    refine lv_bipush (v := (-12)) hx hb dX11_copy_103 (by decide) ?_
                    obtain ⟨rfl, rfl⟩ := pr2_some hf
                    exact hQ _ _ _ _ dX11_copy_105 hw
                  · have hf := (if_neg cn12).symm.trans hf
                    refine lv_iload hx hb dX11_copy_89 (lv_at hl 4 rfl) ?_
                    refine lv_aload_n hx hb dX11_copy_91 rfl (lv_at hl 0 rfl) ?_
                    refine x_g_this_sheetSizes hc hw fl_11_59 dX11_copy_92 ?_
                    refine lv_iload_n hx hb dX11_copy_95 rfl (lv_at hl 3 rfl) ?_
                    refine x_l_this_sheetSizes hc hw (ok_in hi2) dX11_copy_96 ?_
                    refine lv_iload hx hb dX11_copy_97 (lv_at hl 5 rfl) ?_
                    refine lv_isub hx hb dX11_copy_99 ?_
                    refine lv_icmp_le (tgt := 106) hx hb dX11_copy_100 (by decide) (fun cn13 => ?_) (fun cn13 => ?_)
                    · have hf := (if_pos cn13).symm.trans hf
                      refine lv_aload_n hx hb dX11_copy_106 rfl (lv_at hl 0 rfl) ?_
                      refine x_g_this_cells hc hw fl_11_52 dX11_copy_107 ?_
                      refine lv_iload_n hx hb dX11_copy_110 rfl (lv_at hl 1 rfl) ?_
                      refine x_l_cells hc hw (ok_in hi1) (ok_nat hi1) dX11_copy_111 ?_
                      refine lv_iload_n hx hb dX11_copy_112 rfl (lv_at hl 2 rfl) ?_
                      refine lv_aload_n hx hb dX11_copy_113 rfl (lv_at hl 0 rfl) ?_
                      refine x_g_this_cells hc hw fl_11_52 dX11_copy_114 ?_
                      refine lv_iload_n hx hb dX11_copy_117 rfl (lv_at hl 3 rfl) ?_
                      refine x_l_cells hc hw (ok_in hi2) (ok_nat hi2) dX11_copy_118 ?_
                      refine lv_iload hx hb dX11_copy_119 (lv_at hl 4 rfl) ?_
                      refine lv_iload hx hb dX11_copy_121 (lv_at hl 5 rfl) ?_
                      obtain ⟨hk3, hf⟩ := gd_some hf
                      refine x_copy (S1 := xf S (70 + a3.toNatClampNeg) (va_cpy (S.1 (70 + a1.toNatClampNeg)) (S.1 (70 + a3.toNatClampNeg)) a2.toNatClampNeg a4.toNatClampNeg a5.toNatClampNeg)) hc hw hR (by decide) (hml.trans hl.1.symm) (mem_g 1110 (by decide +kernel) rfl) (mem_g 463 (by decide +kernel) rfl) (mem_g 462 (by decide +kernel) rfl) (mem_g 88 (by decide +kernel) rfl) (Nat.le_of_ble_eq_true rfl) (xW_sheet (ok_nat hi1)) (xW_sheet (ok_nat hi2)) (xW_putf_sheet (ok_nat hi2)) hk3 dX11_copy_123 (fun H locs hw => ?_)
                      refine lv_iload hx hb dX11_copy_126 (lv_at hl 5 rfl) ?_
                      obtain ⟨rfl, rfl⟩ := pr2_some hf
                      exact hQ _ _ _ _ dX11_copy_128 hw
                    · have hf := (if_neg cn13).symm.trans hf
                      refine lv_bipush (v := (-12)) hx hb dX11_copy_103 (by decide) ?_
                      obtain ⟨rfl, rfl⟩ := pr2_some hf
                      exact hQ _ _ _ _ dX11_copy_105 hw
          · have hf := (if_neg cn8).symm.trans hf
            refine lv_bipush (v := (-13)) hx hb dX11_copy_59 (by decide) ?_
            obtain ⟨rfl, rfl⟩ := pr2_some hf
            exact hQ _ _ _ _ dX11_copy_61 hw
        · have hf := (if_pos cn7).symm.trans hf
          refine lv_bipush (v := (-11)) hx hb dX11_copy_41 (by decide) ?_
          obtain ⟨rfl, rfl⟩ := pr2_some hf
          exact hQ _ _ _ _ dX11_copy_43 hw
    · have hf := (if_neg cn5).symm.trans hf
      refine lv_bipush (v := (-2)) hx hb dX11_copy_18 (by decide) ?_
      obtain ⟨rfl, rfl⟩ := pr2_some hf
      exact hQ _ _ _ _ dX11_copy_20 hw
def xf_X_taken (N : Nat) (S : xS) (a1 : Int32) (a2 : Int32) : Option (Int32) := (if (xf_X_isIn a2 0 6) = true then (if (xf_X_isIn a1 0 11) = true then (if 6 ≤ a1 then (bd1 (xf_H_rowAt N S (a1 - 6)) fun v2 => (if v2 < 0 then some (-11) else (if ((if a2 = 6 then 1 else 0) : Int32) = 0 then (bd1 (xf_X_isOfKind N S v2 a2) fun v4 => (if v4 = true then (if v2.toNatClampNeg < S.2.2.1 then some (S.1 55 v2.toNatClampNeg) else none) else some (-13))) else some (-13)))) else (if (xf_X_isPoint S a1) = true then (if ((if a2 = 6 then 1 else 0) : Int32) = 0 then some (-13) else (if ok a1 6 then some (S.1 12 a1.toNatClampNeg) else none)) else some (-11))) else some (-12)) else some (-2))
set_option maxRecDepth 100000 in
theorem cx_X_taken (l : Launch) (N : Nat) (S : xS) (a1 : Int32) (a2 : Int32) (res : Int32) (hf : xf_X_taken N S a1 a2 = some res) : xMi l yX11_taken cX11_taken 5 .int 3 (fun g => [.ref (xr g 0), .int a1, .int a2]) S res S := by
  refine xMi_of (own := RX11) (by decide) rfl rfl (fun g => Nat.le_of_ble_eq_true rfl) ?_
  intro p e R s m args below meth c Q g A H0 H locs ls hc hR hml hw hl hQ
  have hl : lv_has ls 5 [(0, .ref (xr g 0)), (1, .int a1), (2, .int a2)] := hl
  have hx := hc.1
  have hb := hc.2.1
  unfold xf_X_taken at hf
  refine lv_iload_n hx hb dX11_taken_0 rfl (lv_at hl 2 rfl) ?_
  refine lv_iconst (v := 0) hx hb dX11_taken_1 (by decide) ?_
  refine lv_bipush (v := 6) hx hb dX11_taken_2 (by decide) ?_
  refine x_csi (As := [.int a2, .int 0, .int 6]) (rest := []) hc hw hR (hml.trans hl.1.symm) (cx_X_isIn l S a2 0 6 _ rfl) xq_11_X_isIn (by decide) rfl rfl rfl (Nat.le_of_ble_eq_true rfl) dX11_taken_4 (fun H locs hw => ?_) ⟨Nat.zero_le _, Nat.zero_le _⟩
  refine lv_if_neb (tgt := 13) hx hb dX11_taken_7 (by decide) (fun cn7 => ?_) (fun cn7 => ?_)
  · have hf := (if_pos cn7).symm.trans hf
    refine lv_iload_n hx hb dX11_taken_13 rfl (lv_at hl 1 rfl) ?_
    refine lv_iconst (v := 0) hx hb dX11_taken_14 (by decide) ?_
    refine lv_bipush (v := 11) hx hb dX11_taken_15 (by decide) ?_
    refine x_csi (As := [.int a1, .int 0, .int 11]) (rest := []) hc hw hR (hml.trans hl.1.symm) (cx_X_isIn l S a1 0 11 _ rfl) xq_11_X_isIn (by decide) rfl rfl rfl (Nat.le_of_ble_eq_true rfl) dX11_taken_17 (fun H locs hw => ?_) ⟨Nat.zero_le _, Nat.zero_le _⟩
    refine lv_if_neb (tgt := 26) hx hb dX11_taken_20 (by decide) (fun cn8 => ?_) (fun cn8 => ?_)
    · have hf := (if_pos cn8).symm.trans hf
      refine lv_iload_n hx hb dX11_taken_26 rfl (lv_at hl 2 rfl) ?_
      refine lv_bipush (v := 6) hx hb dX11_taken_27 (by decide) ?_
      obtain ⟨v1, hv1⟩ : ∃ y : Int32, y = (if a2 = 6 then 1 else 0) := ⟨_, rfl⟩
      try rw [← hv1] at hf
      have kJ14 : ∀ v1x : Int32, v1 = v1x → ∀ (H : Heap) (locs : List Loc) (ls : Array Slot), xI g A H0 s S H locs → lv_has ls 5 [(0, .ref (xr g 0)), (1, .int a1), (2, .int a2)] → W p l e R s m args below meth c H locs 0 0 Q (F0 m 37 ls [.int v1x]) := by
        intro v1x hxv1 H locs ls hw hl
        subst hxv1
        refine lv_istore_n (lv' := [(3, .int v1), (0, .ref (xr g 0)), (1, .int a1), (2, .int a2)]) hx hb dX11_taken_37 rfl hl (by decide) rfl (fun ls hl => ?_)
        refine lv_iload_n hx hb dX11_taken_38 rfl (lv_at hl 2 rfl) ?_
        refine lv_bipush (v := 6) hx hb dX11_taken_39 (by decide) ?_
        refine lv_icmp_ge (tgt := 74) hx hb dX11_taken_41 (by decide) (fun cn9 => ?_) (fun cn9 => ?_)
        · have hf := (if_pos cn9).symm.trans hf
          refine lv_aload_n hx hb dX11_taken_74 rfl (lv_at hl 1 rfl) ?_
          refine x_g_this_hall hc hw fl_11_10 dX11_taken_75 ?_
          refine lv_iload_n hx hb dX11_taken_78 rfl (lv_at hl 2 rfl) ?_
          refine lv_bipush (v := 6) hx hb dX11_taken_79 (by decide) ?_
          refine lv_isub hx hb dX11_taken_81 ?_
          obtain ⟨v2, hcall, hf⟩ := bd1_some hf
          refine x_cvr (As := [.int (a1 - 6)]) (rest := []) hc hw hR (hml.trans hl.1.symm) (cx_H_rowAt l N S (a1 - 6) v2 hcall) xq_11_H_rowAt (x_recv_hall hw) (by decide) rfl rfl rfl (Nat.le_of_ble_eq_true rfl) dX11_taken_82 (fun H locs hw => ?_) ⟨Nat.zero_le _, Nat.zero_le _⟩
          refine x_splitr (fun cn3 => ?_) (fun cn3 => ?_)
          · have hf := (if_pos cn3).symm.trans hf
            refine lv_astoreN (lv' := [(4, .null), (3, .int v1), (0, .ref (xr g 0)), (1, .int a1), (2, .int a2)]) hx hb dX11_taken_85 hl (by decide) rfl (fun ls hl => ?_)
            refine lv_aloadN hx hb dX11_taken_87 (lv_at hl 0 rfl) ?_
            refine lv_ifnonnullN hx hb dX11_taken_89 ?_
            refine lv_bipush (v := (-11)) hx hb dX11_taken_92 (by decide) ?_
            obtain rfl := Option.some.inj hf
            exact hQ _ _ _ _ dX11_taken_94 hw
          · have hf := (if_neg cn3).symm.trans hf
            refine lv_astore (lv' := [(4, .ref (xr g (100 + 2 * v2.toNatClampNeg))), (3, .int v1), (0, .ref (xr g 0)), (1, .int a1), (2, .int a2)]) hx hb dX11_taken_85 hl (by decide) rfl (fun ls hl => ?_)
            refine lv_aload hx hb dX11_taken_87 (lv_at hl 0 rfl) ?_
            refine lv_ifnonnull (tgt := 95) hx hb dX11_taken_89 (by decide) ?_
            refine lv_iload_n hx hb dX11_taken_95 rfl (lv_at hl 1 rfl) ?_
            refine lv_if_ne (tgt := 116) hx hb dX11_taken_96 (by decide) (fun cn10 => ?_) (fun cn10 => ?_)
            · have hf := (if_neg cn10).symm.trans hf
              refine lv_bipush (v := (-13)) hx hb dX11_taken_116 (by decide) ?_
              obtain rfl := Option.some.inj hf
              exact hQ _ _ _ _ dX11_taken_118 hw
            · have hf := (if_pos cn10).symm.trans hf
              refine lv_aload hx hb dX11_taken_99 (lv_at hl 0 rfl) ?_
              refine lv_iload_n hx hb dX11_taken_101 rfl (lv_at hl 4 rfl) ?_
              obtain ⟨v4, hcall, hf⟩ := bd1_some hf
              refine x_csi (As := [.ref (xr g (100 + 2 * v2.toNatClampNeg)), .int a2]) (rest := []) hc hw hR (hml.trans hl.1.symm) (cx_X_isOfKind l N S v2 a2 v4 hcall) xq_11_X_isOfKind (by decide) rfl rfl rfl (Nat.le_of_ble_eq_true rfl) dX11_taken_102 (fun H locs hw => ?_) ⟨Nat.zero_le _, Nat.zero_le _⟩
              refine lv_if_eqb (tgt := 116) hx hb dX11_taken_105 (by decide) (fun cn11 => ?_) (fun cn11 => ?_)
              · have hf := (if_neg cn11).symm.trans hf
                refine lv_bipush (v := (-13)) hx hb dX11_taken_116 (by decide) ?_
                obtain rfl := Option.some.inj hf
                exact hQ _ _ _ _ dX11_taken_118 hw
              · have hf := (if_pos cn11).symm.trans hf
                refine lv_aload hx hb dX11_taken_108 (lv_at hl 0 rfl) ?_
                obtain ⟨hr5, hf⟩ := gd_some hf
                refine x_rg_number hc hw hr5 fl_11_378 dX11_taken_110 ?_
                refine lv_goto (tgt := 118) hx hb dX11_taken_113 (by decide) ?_
                obtain rfl := Option.some.inj hf
                exact hQ _ _ _ _ dX11_taken_118 hw
        · have hf := (if_neg cn9).symm.trans hf
          refine lv_aload_n hx hb dX11_taken_44 rfl (lv_at hl 1 rfl) ?_
          refine lv_iload_n hx hb dX11_taken_45 rfl (lv_at hl 2 rfl) ?_
          refine x_cvi (As := [.int a1]) (rest := []) hc hw hR (hml.trans hl.1.symm) (cx_X_isPoint l S a1 _ rfl) xq_11_X_isPoint (x_recv_this hw) (by decide) rfl rfl rfl (Nat.le_of_ble_eq_true rfl) dX11_taken_46 (fun H locs hw => ?_) ⟨Nat.zero_le _, Nat.zero_le _⟩
          refine lv_if_neb (tgt := 55) hx hb dX11_taken_49 (by decide) (fun cn12 => ?_) (fun cn12 => ?_)
          · have hf := (if_pos cn12).symm.trans hf
            refine lv_iload_n hx hb dX11_taken_55 rfl (lv_at hl 0 rfl) ?_
            refine lv_if_eq (tgt := 71) hx hb dX11_taken_56 (by decide) (fun cn13 => ?_) (fun cn13 => ?_)
            · have hf := (if_pos cn13).symm.trans hf
              refine lv_bipush (v := (-13)) hx hb dX11_taken_71 (by decide) ?_
              obtain rfl := Option.some.inj hf
              exact hQ _ _ _ _ dX11_taken_73 hw
            · have hf := (if_neg cn13).symm.trans hf
              refine lv_aload_n hx hb dX11_taken_59 rfl (lv_at hl 1 rfl) ?_
              refine x_g_this_hall hc hw fl_11_10 dX11_taken_60 ?_
              refine x_g_hall_pointHighs hc hw fl_11_193 dX11_taken_63 ?_
              refine lv_iload_n hx hb dX11_taken_66 rfl (lv_at hl 2 rfl) ?_
              obtain ⟨hi6, hf⟩ := gd_some hf
              refine x_l_hall_pointHighs hc hw (ok_in hi6) dX11_taken_67 ?_
              refine lv_goto (tgt := 73) hx hb dX11_taken_68 (by decide) ?_
              obtain rfl := Option.some.inj hf
              exact hQ _ _ _ _ dX11_taken_73 hw
          · have hf := (if_neg cn12).symm.trans hf
            refine lv_bipush (v := (-11)) hx hb dX11_taken_52 (by decide) ?_
            obtain rfl := Option.some.inj hf
            exact hQ _ _ _ _ dX11_taken_54 hw
      refine lv_icmp_ne (tgt := 36) hx hb dX11_taken_29 (by decide) (fun cn15 => ?_) (fun cn15 => ?_)
      · refine lv_iconst (v := 0) hx hb dX11_taken_36 (by decide) ?_
        have ev1 : v1 = (0 : Int32) := by rw [hv1]; simp only [if_neg cn15]
        exact kJ14 _ ev1 _ _ _ hw (lv_sub hl [0, 1, 2] rfl)
      · refine lv_iconst (v := 1) hx hb dX11_taken_32 (by decide) ?_
        refine lv_goto (tgt := 37) hx hb dX11_taken_33 (by decide) ?_
        have ev1 : v1 = (1 : Int32) := by rw [hv1]; simp only [if_pos cn15]
        exact kJ14 _ ev1 _ _ _ hw (lv_sub hl [0, 1, 2] rfl)
    · have hf := (if_neg cn8).symm.trans hf
      refine lv_bipush (v := (-12)) hx hb dX11_taken_23 (by decide) ?_
      obtain rfl := Option.some.inj hf
      exact hQ _ _ _ _ dX11_taken_25 hw
  · have hf := (if_neg cn7).symm.trans hf
    refine lv_bipush (v := (-2)) hx hb dX11_taken_10 (by decide) ?_
    obtain rfl := Option.some.inj hf
    exact hQ _ _ _ _ dX11_taken_12 hw
def xf_H_rowWith (N : Nat) (S : xS) (a1 : Int32) (a2 : Int32) : Option (Int32) := (bd1 (xf_H_rowAt N S a1) fun v1 => (if v1 < 0 then some (-1) else (if a2 < 0 then some (-1) else (if v1.toNatClampNeg < S.2.2.1 then (if (S.1 56 v1.toNatClampNeg) ≤ a2 then some (-1) else some v1) else none))))
set_option maxRecDepth 100000 in
theorem cx_H_rowWith (l : Launch) (N : Nat) (S : xS) (a1 : Int32) (a2 : Int32) (res : Int32) (hf : xf_H_rowWith N S a1 a2 = some res) : xMr l yX1_rowWith cX1_rowWith 4 (.object "OverTheHeads$Row") 3 (fun g => [.ref (xr g 1), .int a1, .int a2]) S res S := by
  refine xMr_of (own := RX1) (by decide) rfl (Or.inl ⟨_, rfl⟩) (fun g => Nat.le_of_ble_eq_true rfl) ?_
  intro p e R s m args below meth c Q g A H0 H locs ls hc hR hml hw hl hQ
  have hl : lv_has ls 4 [(0, .ref (xr g 1)), (1, .int a1), (2, .int a2)] := hl
  have hx := hc.1
  have hb := hc.2.1
  unfold xf_H_rowWith at hf
  refine lv_aload_n hx hb dX1_rowWith_0 rfl (lv_at hl 0 rfl) ?_
  refine lv_iload_n hx hb dX1_rowWith_1 rfl (lv_at hl 1 rfl) ?_
  obtain ⟨v1, hcall, hf⟩ := bd1_some hf
  refine x_cvr (As := [.int a1]) (rest := []) hc hw hR (hml.trans hl.1.symm) (cx_H_rowAt l N S a1 v1 hcall) xq_1_H_rowAt (x_recv_hall hw) (by decide) rfl rfl rfl (Nat.le_of_ble_eq_true rfl) dX1_rowWith_2 (fun H locs hw => ?_) ⟨Nat.zero_le _, Nat.zero_le _⟩
  refine x_splitr (fun cn2 => ?_) (fun cn2 => ?_)
  · have hf := (if_pos cn2).symm.trans hf
    refine lv_astore_nN (lv' := [(3, .null), (0, .ref (xr g 1)), (1, .int a1), (2, .int a2)]) hx hb dX1_rowWith_5 rfl hl (by decide) rfl (fun ls hl => ?_)
    refine lv_aload_nN hx hb dX1_rowWith_6 rfl (lv_at hl 0 rfl) ?_
    refine lv_ifnullN (tgt := 26) hx hb dX1_rowWith_7 (by decide) ?_
    refine lv_null hx hb dX1_rowWith_26 ?_
    obtain rfl := Option.some.inj hf
    exact W.eq (by rw [xrv_neg (by decide)]) (hQ _ _ _ _ dX1_rowWith_27 hw)
  · have hf := (if_neg cn2).symm.trans hf
    refine lv_astore_n (lv' := [(3, .ref (xr g (100 + 2 * v1.toNatClampNeg))), (0, .ref (xr g 1)), (1, .int a1), (2, .int a2)]) hx hb dX1_rowWith_5 rfl hl (by decide) rfl (fun ls hl => ?_)
    refine lv_aload_n hx hb dX1_rowWith_6 rfl (lv_at hl 0 rfl) ?_
    refine lv_ifnull hx hb dX1_rowWith_7 ?_
    refine lv_iload_n hx hb dX1_rowWith_10 rfl (lv_at hl 3 rfl) ?_
    refine lv_if_lt (tgt := 26) hx hb dX1_rowWith_11 (by decide) (fun cn4 => ?_) (fun cn4 => ?_)
    · have hf := (if_pos cn4).symm.trans hf
      refine lv_null hx hb dX1_rowWith_26 ?_
      obtain rfl := Option.some.inj hf
      exact W.eq (by rw [xrv_neg (by decide)]) (hQ _ _ _ _ dX1_rowWith_27 hw)
    · have hf := (if_neg cn4).symm.trans hf
      refine lv_iload_n hx hb dX1_rowWith_14 rfl (lv_at hl 3 rfl) ?_
      refine lv_aload_n hx hb dX1_rowWith_15 rfl (lv_at hl 0 rfl) ?_
      obtain ⟨hr3, hf⟩ := gd_some hf
      refine x_rg_seats hc hw hr3 fl_1_86 dX1_rowWith_16 ?_
      refine lv_icmp_ge (tgt := 26) hx hb dX1_rowWith_19 (by decide) (fun cn5 => ?_) (fun cn5 => ?_)
      · have hf := (if_pos cn5).symm.trans hf
        refine lv_null hx hb dX1_rowWith_26 ?_
        obtain rfl := Option.some.inj hf
        exact W.eq (by rw [xrv_neg (by decide)]) (hQ _ _ _ _ dX1_rowWith_27 hw)
      · have hf := (if_neg cn5).symm.trans hf
        refine lv_aload_n hx hb dX1_rowWith_22 rfl (lv_at hl 0 rfl) ?_
        refine lv_goto (tgt := 27) hx hb dX1_rowWith_23 (by decide) ?_
        obtain rfl := Option.some.inj hf
        exact W.eq (by rw [xrv_pos cn2]) (hQ _ _ _ _ dX1_rowWith_27 hw)
def xf_H_eyesOf (N : Nat) (S : xS) (a1 : Int32) (a2 : Int32) : Option (Int32) := (bd1 (xf_H_sortOf N S a1 a2) fun v1 => (if ok v1 4 then (if a1.toNatClampNeg < S.2.2.1 then (bd1 (xf_W_heightOf N S a1 (S.1 8 v1.toNatClampNeg)) fun v4 => some v4) else none) else none))
set_option maxRecDepth 100000 in
theorem cx_H_eyesOf (l : Launch) (N : Nat) (S : xS) (a1 : Int32) (a2 : Int32) (res : Int32) (hf : xf_H_eyesOf N S a1 a2 = some res) : xMi l yX1_eyesOf cX1_eyesOf 3 .int 3 (fun g => [.ref (xr g 1), .ref (xr g (100 + 2 * a1.toNatClampNeg)), .int a2]) S res S := by
  refine xMi_of (own := RX1) (by decide) rfl rfl (fun g => Nat.le_of_ble_eq_true rfl) ?_
  intro p e R s m args below meth c Q g A H0 H locs ls hc hR hml hw hl hQ
  have hl : lv_has ls 3 [(0, .ref (xr g 1)), (1, .ref (xr g (100 + 2 * a1.toNatClampNeg))), (2, .int a2)] := hl
  have hx := hc.1
  have hb := hc.2.1
  unfold xf_H_eyesOf at hf
  refine lv_aload_n hx hb dX1_eyesOf_0 rfl (lv_at hl 1 rfl) ?_
  refine lv_aload_n hx hb dX1_eyesOf_1 rfl (lv_at hl 0 rfl) ?_
  refine x_g_hall_eyes hc hw fl_1_9 dX1_eyesOf_2 ?_
  refine lv_aload_n hx hb dX1_eyesOf_5 rfl (lv_at hl 0 rfl) ?_
  refine lv_aload_n hx hb dX1_eyesOf_6 rfl (lv_at hl 1 rfl) ?_
  refine lv_iload_n hx hb dX1_eyesOf_7 rfl (lv_at hl 2 rfl) ?_
  obtain ⟨v1, hcall, hf⟩ := bd1_some hf
  refine x_cvi (As := [.ref (xr g (100 + 2 * a1.toNatClampNeg)), .int a2]) (rest := [.ref (xr g 12), .ref (xr g (100 + 2 * a1.toNatClampNeg))]) hc hw hR (hml.trans hl.1.symm) (cx_H_sortOf l N S a1 a2 v1 hcall) xq_1_H_sortOf (x_recv_hall hw) (by decide) rfl rfl rfl (Nat.le_of_ble_eq_true rfl) dX1_eyesOf_8 (fun H locs hw => ?_) ⟨Nat.zero_le _, Nat.zero_le _⟩
  obtain ⟨hi2, hf⟩ := gd_some hf
  refine x_l_hall_eyes hc hw (ok_in hi2) dX1_eyesOf_11 ?_
  obtain ⟨hr3, hf⟩ := gd_some hf
  obtain ⟨v4, hcall, hf⟩ := bd1_some hf
  refine x_cri (As := [.int (S.1 8 v1.toNatClampNeg)]) (rest := []) hc hw hR (hml.trans hl.1.symm) (cx_W_heightOf l N S a1 (S.1 8 v1.toNatClampNeg) v4 hcall) xq_1_W_heightOf hr3 (by decide) rfl rfl rfl (Nat.le_of_ble_eq_true rfl) dX1_eyesOf_12 (fun H locs hw => ?_) ⟨Nat.zero_le _, Nat.zero_le _⟩
  obtain rfl := Option.some.inj hf
  exact hQ _ _ _ _ dX1_eyesOf_15 hw
def xf_H_topOf (N : Nat) (S : xS) (a1 : Int32) (a2 : Int32) : Option (Int32) := (if (S.1 24 0) < 0 then (bd1 (xf_H_sortOf N S a1 a2) fun v2 => (if ok v2 4 then (if a1.toNatClampNeg < S.2.2.1 then (bd1 (xf_W_heightOf N S a1 (S.1 9 v2.toNatClampNeg)) fun v5 => some (v5 + 0)) else none) else none)) else (bd1 (if a1.toNatClampNeg < S.2.2.1 then (if (S.1 24 0).toNatClampNeg < S.2.2.1 then (if a1.toNatClampNeg = (S.1 24 0).toNatClampNeg then (if a2 = (S.1 22 0) then some (S.1 23 0) else some 0) else some 0) else none) else none) fun v8 => (bd1 (xf_H_sortOf N S a1 a2) fun v9 => (if ok v9 4 then (if a1.toNatClampNeg < S.2.2.1 then (bd1 (xf_W_heightOf N S a1 (S.1 9 v9.toNatClampNeg)) fun v12 => some (v12 + v8)) else none) else none))))
set_option maxRecDepth 100000 in
theorem cx_H_topOf (l : Launch) (N : Nat) (S : xS) (a1 : Int32) (a2 : Int32) (res : Int32) (hf : xf_H_topOf N S a1 a2 = some res) : xMi l yX1_topOf cX1_topOf 4 .int 3 (fun g => [.ref (xr g 1), .ref (xr g (100 + 2 * a1.toNatClampNeg)), .int a2]) S res S := by
  refine xMi_of (own := RX1) (by decide) rfl rfl (fun g => Nat.le_of_ble_eq_true rfl) ?_
  intro p e R s m args below meth c Q g A H0 H locs ls hc hR hml hw hl hQ
  have hl : lv_has ls 4 [(0, .ref (xr g 1)), (1, .ref (xr g (100 + 2 * a1.toNatClampNeg))), (2, .int a2)] := hl
  have hx := hc.1
  have hb := hc.2.1
  unfold xf_H_topOf at hf
  refine lv_aload_n hx hb dX1_topOf_0 rfl (lv_at hl 1 rfl) ?_
  refine lv_aload_n hx hb dX1_topOf_1 rfl (lv_at hl 0 rfl) ?_
  refine x_g_hall_hatRow hc hw fl_1_68 dX1_topOf_2 ?_
  refine x_splitr (fun cn1 => ?_) (fun cn1 => ?_)
  · have hf := (if_pos cn1).symm.trans hf
    refine lv_acmp_ne (rx := some (xr g (100 + 2 * a1.toNatClampNeg))) (ry := none) (tgt := 23) hx hb dX1_topOf_5 (by decide) (fun _ => ?_) (fun h => nomatch h)
    refine lv_iconst (v := 0) hx hb dX1_topOf_23 (by decide) ?_
    refine lv_istore_n (lv' := [(3, .int 0), (0, .ref (xr g 1)), (1, .ref (xr g (100 + 2 * a1.toNatClampNeg))), (2, .int a2)]) hx hb dX1_topOf_24 rfl hl (by decide) rfl (fun ls hl => ?_)
    refine lv_aload_n hx hb dX1_topOf_25 rfl (lv_at hl 2 rfl) ?_
    refine lv_aload_n hx hb dX1_topOf_26 rfl (lv_at hl 1 rfl) ?_
    refine x_g_hall_heads hc hw fl_1_15 dX1_topOf_27 ?_
    refine lv_aload_n hx hb dX1_topOf_30 rfl (lv_at hl 1 rfl) ?_
    refine lv_aload_n hx hb dX1_topOf_31 rfl (lv_at hl 2 rfl) ?_
    refine lv_iload_n hx hb dX1_topOf_32 rfl (lv_at hl 3 rfl) ?_
    obtain ⟨v2, hcall, hf⟩ := bd1_some hf
    refine x_cvi (As := [.ref (xr g (100 + 2 * a1.toNatClampNeg)), .int a2]) (rest := [.ref (xr g 13), .ref (xr g (100 + 2 * a1.toNatClampNeg))]) hc hw hR (hml.trans hl.1.symm) (cx_H_sortOf l N S a1 a2 v2 hcall) xq_1_H_sortOf (x_recv_hall hw) (by decide) rfl rfl rfl (Nat.le_of_ble_eq_true rfl) dX1_topOf_33 (fun H locs hw => ?_) ⟨Nat.zero_le _, Nat.zero_le _⟩
    obtain ⟨hi3, hf⟩ := gd_some hf
    refine x_l_hall_heads hc hw (ok_in hi3) dX1_topOf_36 ?_
    obtain ⟨hr4, hf⟩ := gd_some hf
    obtain ⟨v5, hcall, hf⟩ := bd1_some hf
    refine x_cri (As := [.int (S.1 9 v2.toNatClampNeg)]) (rest := []) hc hw hR (hml.trans hl.1.symm) (cx_W_heightOf l N S a1 (S.1 9 v2.toNatClampNeg) v5 hcall) xq_1_W_heightOf hr4 (by decide) rfl rfl rfl (Nat.le_of_ble_eq_true rfl) dX1_topOf_37 (fun H locs hw => ?_) ⟨Nat.zero_le _, Nat.zero_le _⟩
    refine lv_iload_n hx hb dX1_topOf_40 rfl (lv_at hl 0 rfl) ?_
    refine lv_iadd hx hb dX1_topOf_41 ?_
    obtain rfl := Option.some.inj hf
    exact hQ _ _ _ _ dX1_topOf_42 hw
  · have hf := (if_neg cn1).symm.trans hf
    obtain ⟨v8, hX13, hf⟩ := bd1_some hf
    have kJ14 : ∀ (H : Heap) (locs : List Loc) (ls : Array Slot), xI g A H0 s S H locs → lv_has ls 4 [(0, .ref (xr g 1)), (1, .ref (xr g (100 + 2 * a1.toNatClampNeg))), (2, .int a2)] → W p l e R s m args below meth c H locs 0 0 Q (F0 m 24 ls [.int v8]) := by
      intro H locs ls hw hl
      refine lv_istore_n (lv' := [(3, .int v8), (0, .ref (xr g 1)), (1, .ref (xr g (100 + 2 * a1.toNatClampNeg))), (2, .int a2)]) hx hb dX1_topOf_24 rfl hl (by decide) rfl (fun ls hl => ?_)
      refine lv_aload_n hx hb dX1_topOf_25 rfl (lv_at hl 2 rfl) ?_
      refine lv_aload_n hx hb dX1_topOf_26 rfl (lv_at hl 1 rfl) ?_
      refine x_g_hall_heads hc hw fl_1_15 dX1_topOf_27 ?_
      refine lv_aload_n hx hb dX1_topOf_30 rfl (lv_at hl 1 rfl) ?_
      refine lv_aload_n hx hb dX1_topOf_31 rfl (lv_at hl 2 rfl) ?_
      refine lv_iload_n hx hb dX1_topOf_32 rfl (lv_at hl 3 rfl) ?_
      obtain ⟨v9, hcall, hf⟩ := bd1_some hf
      refine x_cvi (As := [.ref (xr g (100 + 2 * a1.toNatClampNeg)), .int a2]) (rest := [.ref (xr g 13), .ref (xr g (100 + 2 * a1.toNatClampNeg))]) hc hw hR (hml.trans hl.1.symm) (cx_H_sortOf l N S a1 a2 v9 hcall) xq_1_H_sortOf (x_recv_hall hw) (by decide) rfl rfl rfl (Nat.le_of_ble_eq_true rfl) dX1_topOf_33 (fun H locs hw => ?_) ⟨Nat.zero_le _, Nat.zero_le _⟩
      obtain ⟨hi10, hf⟩ := gd_some hf
      refine x_l_hall_heads hc hw (ok_in hi10) dX1_topOf_36 ?_
      obtain ⟨hr11, hf⟩ := gd_some hf
      obtain ⟨v12, hcall, hf⟩ := bd1_some hf
      refine x_cri (As := [.int (S.1 9 v9.toNatClampNeg)]) (rest := []) hc hw hR (hml.trans hl.1.symm) (cx_W_heightOf l N S a1 (S.1 9 v9.toNatClampNeg) v12 hcall) xq_1_W_heightOf hr11 (by decide) rfl rfl rfl (Nat.le_of_ble_eq_true rfl) dX1_topOf_37 (fun H locs hw => ?_) ⟨Nat.zero_le _, Nat.zero_le _⟩
      refine lv_iload_n hx hb dX1_topOf_40 rfl (lv_at hl 0 rfl) ?_
      refine lv_iadd hx hb dX1_topOf_41 ?_
      obtain rfl := Option.some.inj hf
      exact hQ _ _ _ _ dX1_topOf_42 hw
    obtain ⟨hr6, hX13⟩ := gd_some hX13
    obtain ⟨hr7, hX13⟩ := gd_some hX13
    refine x_acmp_ne (tgt := 23) hc hw hr6 hr7 dX1_topOf_5 (by decide) (fun cn15 => ?_) (fun cn15 => ?_)
    · have hX13 := (if_neg cn15).symm.trans hX13
      refine lv_iconst (v := 0) hx hb dX1_topOf_23 (by decide) ?_
      obtain rfl := Option.some.inj hX13
      exact kJ14 _ _ _ hw (lv_sub hl [0, 1, 2] rfl)
    · have hX13 := (if_pos cn15).symm.trans hX13
      refine lv_iload_n hx hb dX1_topOf_8 rfl (lv_at hl 2 rfl) ?_
      refine lv_aload_n hx hb dX1_topOf_9 rfl (lv_at hl 0 rfl) ?_
      refine x_g_hall_hatSeat hc hw fl_1_62 dX1_topOf_10 ?_
      refine lv_icmp_ne (tgt := 23) hx hb dX1_topOf_13 (by decide) (fun cn16 => ?_) (fun cn16 => ?_)
      · have hX13 := (if_neg cn16).symm.trans hX13
        refine lv_iconst (v := 0) hx hb dX1_topOf_23 (by decide) ?_
        obtain rfl := Option.some.inj hX13
        exact kJ14 _ _ _ hw (lv_sub hl [0, 1, 2] rfl)
      · have hX13 := (if_pos cn16).symm.trans hX13
        refine lv_aload_n hx hb dX1_topOf_16 rfl (lv_at hl 0 rfl) ?_
        refine x_g_hall_hatHigh hc hw fl_1_65 dX1_topOf_17 ?_
        refine lv_goto (tgt := 24) hx hb dX1_topOf_20 (by decide) ?_
        obtain rfl := Option.some.inj hX13
        exact kJ14 _ _ _ hw (lv_sub hl [0, 1, 2] rfl)
def xf_H_hidingPost_L2 (N : Nat) : Nat → xS → Int32 → Option ((Int32) ⊕ (Unit))
  | 0, _, _ => none
  | n + 1, S2, v1 => (if (S2.1 18 0) ≤ v1 then some (.inr ()) else (if ok v1 4 then (if (S2.1 49 0) ≤ (S2.1 15 v1.toNatClampNeg) then xf_H_hidingPost_L2 N n S2 (v1 + 1) else (if (S2.1 49 0) ≤ (if 0 ≤ (xf_L_besides S2 (S2.1 15 v1.toNatClampNeg) (S2.1 14 v1.toNatClampNeg)) then (xf_L_besides S2 (S2.1 15 v1.toNatClampNeg) (S2.1 14 v1.toNatClampNeg)) else 0 - (xf_L_besides S2 (S2.1 15 v1.toNatClampNeg) (S2.1 14 v1.toNatClampNeg))) then xf_H_hidingPost_L2 N n S2 (v1 + 1) else some (.inl v1))) else none))
set_option maxRecDepth 100000 in
theorem wx_H_hidingPost_L2 {p : Program} {l : Launch} {e : Env} {R : Room} {s : State} {m : MethodId} {args : Array Value} {below : List Frame} {meth : Method} {c : Code} {Q : State → Prop} {g : xG} {A : Nat → Prop} {H0 : Heap} (hc : qC RX1 cX1_hidingPost p s m args c) (hR : qRoom R 3) (hml : c.maxLocals = 3) (N : Nat) : ∀ (n : Nat) (S2 : xS) (v1 : Int32) (X : (Int32) ⊕ (Unit)) (H : Heap) (locs : List Loc) (ls : Array Slot), xf_H_hidingPost_L2 N n S2 v1 = some X → xI g A H0 s S2 H locs → lv_has ls 3 [(0, .ref (xr g 1)), (1, .int v1)] → (∀ (_ : Unit), X = .inr () → ∀ (H : Heap) (locs : List Loc) (ls : Array Slot), xI g A H0 s S2 H locs → lv_has ls 3 [] → W p l e R s m args below meth c H locs 0 0 Q (F0 m 68 ls [])) → (∀ (r : Int32), X = .inl r → xQi p l e R s m args below meth c cX1_hidingPost Q g A H0 r S2) → W p l e R s m args below meth c H locs 0 0 Q (F0 m 2 ls []) := by
  have hx := hc.1
  have hb := hc.2.1
  intro n
  induction n with
  | zero => intro _ _ X H locs ls hf; exact nomatch (show none = some X from hf)
  | succ n ih =>
    intro S2 v1 X H locs ls hf hw hl kx kr
    rw [xf_H_hidingPost_L2] at hf
    refine lv_iload_n hx hb dX1_hidingPost_2 rfl (lv_at hl 1 rfl) ?_
    refine lv_aload_n hx hb dX1_hidingPost_3 rfl (lv_at hl 0 rfl) ?_
    refine x_g_hall_postCount hc hw fl_1_49 dX1_hidingPost_4 ?_
    refine lv_icmp_ge (tgt := 68) hx hb dX1_hidingPost_7 (by decide) (fun cn4 => ?_) (fun cn4 => ?_)
    · have hf := (if_pos cn4).symm.trans hf
      obtain rfl := Option.some.inj hf
      exact kx () rfl _ _ _ hw (lv_sub hl [] rfl)
    · have hf := (if_neg cn4).symm.trans hf
      refine lv_aload_n hx hb dX1_hidingPost_10 rfl (lv_at hl 0 rfl) ?_
      refine x_g_hall_line hc hw fl_1_75 dX1_hidingPost_11 ?_
      refine lv_aload_n hx hb dX1_hidingPost_14 rfl (lv_at hl 0 rfl) ?_
      refine x_g_hall_postFars hc hw fl_1_39 dX1_hidingPost_15 ?_
      refine lv_iload_n hx hb dX1_hidingPost_18 rfl (lv_at hl 1 rfl) ?_
      obtain ⟨hi3, hf⟩ := gd_some hf
      refine x_l_hall_postFars hc hw (ok_in hi3) dX1_hidingPost_19 ?_
      refine lv_aload_n hx hb dX1_hidingPost_20 rfl (lv_at hl 0 rfl) ?_
      refine x_g_hall_postPlaces hc hw fl_1_36 dX1_hidingPost_21 ?_
      refine lv_iload_n hx hb dX1_hidingPost_24 rfl (lv_at hl 1 rfl) ?_
      refine x_l_hall_postPlaces hc hw (ok_in hi3) dX1_hidingPost_25 ?_
      refine x_cvi (As := [.int (S2.1 15 v1.toNatClampNeg), .int (S2.1 14 v1.toNatClampNeg)]) (rest := []) hc hw hR (hml.trans hl.1.symm) (cx_L_besides l S2 (S2.1 15 v1.toNatClampNeg) (S2.1 14 v1.toNatClampNeg) _ rfl) xq_1_L_besides (x_recv_line hw) (by decide) rfl rfl rfl (Nat.le_of_ble_eq_true rfl) dX1_hidingPost_26 (fun H locs hw => ?_) ⟨Nat.zero_le _, Nat.zero_le _⟩
      refine lv_istore_n (lv' := [(2, .int (xf_L_besides S2 (S2.1 15 v1.toNatClampNeg) (S2.1 14 v1.toNatClampNeg))), (0, .ref (xr g 1)), (1, .int v1)]) hx hb dX1_hidingPost_29 rfl hl (by decide) rfl (fun ls hl => ?_)
      refine lv_aload_n hx hb dX1_hidingPost_30 rfl (lv_at hl 1 rfl) ?_
      refine x_g_hall_postFars hc hw fl_1_39 dX1_hidingPost_31 ?_
      refine lv_iload_n hx hb dX1_hidingPost_34 rfl (lv_at hl 2 rfl) ?_
      refine x_l_hall_postFars hc hw (ok_in hi3) dX1_hidingPost_35 ?_
      refine lv_aload_n hx hb dX1_hidingPost_36 rfl (lv_at hl 1 rfl) ?_
      refine x_g_hall_line hc hw fl_1_75 dX1_hidingPost_37 ?_
      refine x_g_line_far hc hw fl_1_138 dX1_hidingPost_40 ?_
      refine lv_icmp_ge (tgt := 62) hx hb dX1_hidingPost_43 (by decide) (fun cn5 => ?_) (fun cn5 => ?_)
      · have hf := (if_pos cn5).symm.trans hf
        refine lv_iinc (lv' := [(1, .int (v1 + 1)), (2, .int (xf_L_besides S2 (S2.1 15 v1.toNatClampNeg) (S2.1 14 v1.toNatClampNeg))), (0, .ref (xr g 1))]) hx hb dX1_hidingPost_62 hl (k := 2) rfl rfl (by decide) rfl (fun ls hl => ?_)
        refine lv_goto (tgt := 2) hx hb dX1_hidingPost_65 (by decide) ?_
        exact ih _ _ X _ _ _ hf hw (lv_sub hl [2, 0] rfl) kx kr
      · have hf := (if_neg cn5).symm.trans hf
        refine lv_iload_n hx hb dX1_hidingPost_46 rfl (lv_at hl 0 rfl) ?_
        refine x_mabs hc hR (by decide) (hml.trans hl.1.symm) xq_1_x_mabs (Nat.le_of_ble_eq_true rfl) dX1_hidingPost_47 ?_ ⟨Nat.zero_le _, Nat.zero_le _⟩
        refine lv_aload_n hx hb dX1_hidingPost_50 rfl (lv_at hl 1 rfl) ?_
        refine x_g_hall_line hc hw fl_1_75 dX1_hidingPost_51 ?_
        refine x_g_line_far hc hw fl_1_138 dX1_hidingPost_54 ?_
        refine lv_icmp_ge (tgt := 62) hx hb dX1_hidingPost_57 (by decide) (fun cn6 => ?_) (fun cn6 => ?_)
        · have hf := (if_pos cn6).symm.trans hf
          refine lv_iinc (lv' := [(1, .int (v1 + 1)), (2, .int (xf_L_besides S2 (S2.1 15 v1.toNatClampNeg) (S2.1 14 v1.toNatClampNeg))), (0, .ref (xr g 1))]) hx hb dX1_hidingPost_62 hl (k := 2) rfl rfl (by decide) rfl (fun ls hl => ?_)
          refine lv_goto (tgt := 2) hx hb dX1_hidingPost_65 (by decide) ?_
          exact ih _ _ X _ _ _ hf hw (lv_sub hl [2, 0] rfl) kx kr
        · have hf := (if_neg cn6).symm.trans hf
          refine lv_iload_n hx hb dX1_hidingPost_60 rfl (lv_at hl 2 rfl) ?_
          obtain rfl := Option.some.inj hf
          exact kr _  rfl _ _ _ _ dX1_hidingPost_61 hw
def xf_H_hidingPost (N : Nat) (S : xS) : Option (Int32) := (br0 (xf_H_hidingPost_L2 N N S 0) (Option.some) fun _ => some (-1))
set_option maxRecDepth 100000 in
theorem cx_H_hidingPost (l : Launch) (N : Nat) (S : xS) (res : Int32) (hf : xf_H_hidingPost N S = some res) : xMi l yX1_hidingPost cX1_hidingPost 3 .int 3 (fun g => [.ref (xr g 1)]) S res S := by
  refine xMi_of (own := RX1) (by decide) rfl rfl (fun g => Nat.le_of_ble_eq_true rfl) ?_
  intro p e R s m args below meth c Q g A H0 H locs ls hc hR hml hw hl hQ
  have hl : lv_has ls 3 [(0, .ref (xr g 1))] := hl
  have hx := hc.1
  have hb := hc.2.1
  unfold xf_H_hidingPost at hf
  refine lv_iconst (v := 0) hx hb dX1_hidingPost_0 (by decide) ?_
  refine lv_istore_n (lv' := [(1, .int 0), (0, .ref (xr g 1))]) hx hb dX1_hidingPost_1 rfl hl (by decide) rfl (fun ls hl => ?_)
  rcases br0_some hf with ⟨q, hL, hf⟩ | ⟨hL, hf⟩
  · refine wx_H_hidingPost_L2 hc hR hml N N _ _ _ _ _ _ hL hw (lv_sub hl [1, 0] rfl) (fun _  h => nomatch h) ?_
    obtain rfl := Option.some.inj hf
    intro z0 h; cases h; exact hQ
  · refine wx_H_hidingPost_L2 hc hR hml N N _ _ _ _ _ _ hL hw (lv_sub hl [1, 0] rfl) (fun y0 hi => ?_) (fun _  h => nomatch h)
    cases hi
    intro H locs ls hw hl
    refine lv_iconst (v := (-1)) hx hb dX1_hidingPost_68 (by decide) ?_
    obtain rfl := Option.some.inj hf
    exact hQ _ _ _ _ dX1_hidingPost_69 hw
def xf_H_countsOfThoseBelow_L4 (N : Nat) (c1 : Int32) : Nat → xS → Int32 → Int32 → Option (Int32)
  | 0, _, _, _ => none
  | n + 1, S4, v2, v3 => (if 4 ≤ v3 then some v2 else (if c1.toNatClampNeg < S4.2.2.1 then (if ok v3 4 then (bd1 (xf_W_heightOf N S4 c1 (S4.1 9 v3.toNatClampNeg)) fun v7 => (if (xf_L_isTouchedBy S4 (S4.1 61 c1.toNatClampNeg) v7) = true then xf_H_countsOfThoseBelow_L4 N c1 n S4 v2 (v3 + 1) else xf_H_countsOfThoseBelow_L4 N c1 n S4 (v2 + (S4.1 10 v3.toNatClampNeg)) (v3 + 1))) else none) else none))
set_option maxRecDepth 100000 in
theorem wx_H_countsOfThoseBelow_L4 {p : Program} {l : Launch} {e : Env} {R : Room} {s : State} {m : MethodId} {args : Array Value} {below : List Frame} {meth : Method} {c : Code} {Q : State → Prop} {g : xG} {A : Nat → Prop} {H0 : Heap} (hc : qC RX1 cX1_countsOfThoseBelow p s m args c) (hR : qRoom R 3) (hml : c.maxLocals = 4) (N : Nat) (c1 : Int32) : ∀ (n : Nat) (S4 : xS) (v2 : Int32) (v3 : Int32) (X : Int32) (H : Heap) (locs : List Loc) (ls : Array Slot), xf_H_countsOfThoseBelow_L4 N c1 n S4 v2 v3 = some X → xI g A H0 s S4 H locs → lv_has ls 4 [(0, .ref (xr g 1)), (1, .ref (xr g (100 + 2 * c1.toNatClampNeg))), (2, .int v2), (3, .int v3)] → (∀ (H : Heap) (locs : List Loc) (ls : Array Slot), xI g A H0 s S4 H locs → lv_has ls 4 [(2, .int X)] → W p l e R s m args below meth c H locs 0 0 Q (F0 m 48 ls [])) → W p l e R s m args below meth c H locs 0 0 Q (F0 m 4 ls []) := by
  have hx := hc.1
  have hb := hc.2.1
  intro n
  induction n with
  | zero => intro _ _ _ X H locs ls hf; exact nomatch (show none = some X from hf)
  | succ n ih =>
    intro S4 v2 v3 X H locs ls hf hw hl kx
    rw [xf_H_countsOfThoseBelow_L4] at hf
    refine lv_iload_n hx hb dX1_countsOfThoseBelow_4 rfl (lv_at hl 3 rfl) ?_
    refine lv_iconst (v := 4) hx hb dX1_countsOfThoseBelow_5 (by decide) ?_
    refine lv_icmp_ge (tgt := 48) hx hb dX1_countsOfThoseBelow_6 (by decide) (fun cn9 => ?_) (fun cn9 => ?_)
    · have hf := (if_pos cn9).symm.trans hf
      obtain rfl := Option.some.inj hf
      exact kx _ _ _ hw (lv_sub hl [2] rfl)
    · have hf := (if_neg cn9).symm.trans hf
      refine lv_aload_n hx hb dX1_countsOfThoseBelow_9 rfl (lv_at hl 0 rfl) ?_
      refine x_g_hall_line hc hw fl_1_75 dX1_countsOfThoseBelow_10 ?_
      refine lv_aload_n hx hb dX1_countsOfThoseBelow_13 rfl (lv_at hl 1 rfl) ?_
      obtain ⟨hr5, hf⟩ := gd_some hf
      refine x_rg_far hc hw hr5 fl_1_106 dX1_countsOfThoseBelow_14 ?_
      refine lv_aload_n hx hb dX1_countsOfThoseBelow_17 rfl (lv_at hl 1 rfl) ?_
      refine lv_aload_n hx hb dX1_countsOfThoseBelow_18 rfl (lv_at hl 0 rfl) ?_
      refine x_g_hall_heads hc hw fl_1_15 dX1_countsOfThoseBelow_19 ?_
      refine lv_iload_n hx hb dX1_countsOfThoseBelow_22 rfl (lv_at hl 3 rfl) ?_
      obtain ⟨hi6, hf⟩ := gd_some hf
      refine x_l_hall_heads hc hw (ok_in hi6) dX1_countsOfThoseBelow_23 ?_
      obtain ⟨v7, hcall, hf⟩ := bd1_some hf
      refine x_cri (As := [.int (S4.1 9 v3.toNatClampNeg)]) (rest := [.int (S4.1 61 c1.toNatClampNeg), .ref (xr g 4)]) hc hw hR (hml.trans hl.1.symm) (cx_W_heightOf l N S4 c1 (S4.1 9 v3.toNatClampNeg) v7 hcall) xq_1_W_heightOf hr5 (by decide) rfl rfl rfl (Nat.le_of_ble_eq_true rfl) dX1_countsOfThoseBelow_24 (fun H locs hw => ?_) ⟨Nat.zero_le _, Nat.zero_le _⟩
      refine x_cvi (As := [.int (S4.1 61 c1.toNatClampNeg), .int v7]) (rest := []) hc hw hR (hml.trans hl.1.symm) (cx_L_isTouchedBy l S4 (S4.1 61 c1.toNatClampNeg) v7 _ rfl) xq_1_L_isTouchedBy (x_recv_line hw) (by decide) rfl rfl rfl (Nat.le_of_ble_eq_true rfl) dX1_countsOfThoseBelow_27 (fun H locs hw => ?_) ⟨Nat.zero_le _, Nat.zero_le _⟩
      refine lv_if_neb (tgt := 42) hx hb dX1_countsOfThoseBelow_30 (by decide) (fun cn10 => ?_) (fun cn10 => ?_)
      · have hf := (if_pos cn10).symm.trans hf
        refine lv_iinc (lv' := [(3, .int (v3 + 1)), (0, .ref (xr g 1)), (1, .ref (xr g (100 + 2 * c1.toNatClampNeg))), (2, .int v2)]) hx hb dX1_countsOfThoseBelow_42 hl (k := 3) rfl rfl (by decide) rfl (fun ls hl => ?_)
        refine lv_goto (tgt := 4) hx hb dX1_countsOfThoseBelow_45 (by decide) ?_
        exact ih _ _ _ X _ _ _ hf hw (lv_sub hl [1, 2, 3, 0] rfl) kx
      · have hf := (if_neg cn10).symm.trans hf
        refine lv_iload_n hx hb dX1_countsOfThoseBelow_33 rfl (lv_at hl 2 rfl) ?_
        refine lv_aload_n hx hb dX1_countsOfThoseBelow_34 rfl (lv_at hl 0 rfl) ?_
        refine x_g_hall_counts hc hw fl_1_18 dX1_countsOfThoseBelow_35 ?_
        refine lv_iload_n hx hb dX1_countsOfThoseBelow_38 rfl (lv_at hl 3 rfl) ?_
        refine x_l_hall_counts hc hw (ok_in hi6) dX1_countsOfThoseBelow_39 ?_
        refine lv_iadd hx hb dX1_countsOfThoseBelow_40 ?_
        refine lv_istore_n (lv' := [(2, .int (v2 + (S4.1 10 v3.toNatClampNeg))), (0, .ref (xr g 1)), (1, .ref (xr g (100 + 2 * c1.toNatClampNeg))), (3, .int v3)]) hx hb dX1_countsOfThoseBelow_41 rfl hl (by decide) rfl (fun ls hl => ?_)
        refine lv_iinc (lv' := [(3, .int (v3 + 1)), (2, .int (v2 + (S4.1 10 v3.toNatClampNeg))), (0, .ref (xr g 1)), (1, .ref (xr g (100 + 2 * c1.toNatClampNeg)))]) hx hb dX1_countsOfThoseBelow_42 hl (k := 3) rfl rfl (by decide) rfl (fun ls hl => ?_)
        refine lv_goto (tgt := 4) hx hb dX1_countsOfThoseBelow_45 (by decide) ?_
        exact ih _ _ _ X _ _ _ hf hw (lv_sub hl [2, 3, 1, 0] rfl) kx
def xf_H_countsOfThoseBelow (N : Nat) (S : xS) (a1 : Int32) : Option (Int32) := (bd1 (xf_H_countsOfThoseBelow_L4 N a1 N S 0 0) fun v8 => some v8)
set_option maxRecDepth 100000 in
theorem cx_H_countsOfThoseBelow (l : Launch) (N : Nat) (S : xS) (a1 : Int32) (res : Int32) (hf : xf_H_countsOfThoseBelow N S a1 = some res) : xMi l yX1_countsOfThoseBelow cX1_countsOfThoseBelow 4 .int 3 (fun g => [.ref (xr g 1), .ref (xr g (100 + 2 * a1.toNatClampNeg))]) S res S := by
  refine xMi_of (own := RX1) (by decide) rfl rfl (fun g => Nat.le_of_ble_eq_true rfl) ?_
  intro p e R s m args below meth c Q g A H0 H locs ls hc hR hml hw hl hQ
  have hl : lv_has ls 4 [(0, .ref (xr g 1)), (1, .ref (xr g (100 + 2 * a1.toNatClampNeg)))] := hl
  have hx := hc.1
  have hb := hc.2.1
  unfold xf_H_countsOfThoseBelow at hf
  refine lv_iconst (v := 0) hx hb dX1_countsOfThoseBelow_0 (by decide) ?_
  refine lv_istore_n (lv' := [(2, .int 0), (0, .ref (xr g 1)), (1, .ref (xr g (100 + 2 * a1.toNatClampNeg)))]) hx hb dX1_countsOfThoseBelow_1 rfl hl (by decide) rfl (fun ls hl => ?_)
  refine lv_iconst (v := 0) hx hb dX1_countsOfThoseBelow_2 (by decide) ?_
  refine lv_istore_n (lv' := [(3, .int 0), (2, .int 0), (0, .ref (xr g 1)), (1, .ref (xr g (100 + 2 * a1.toNatClampNeg)))]) hx hb dX1_countsOfThoseBelow_3 rfl hl (by decide) rfl (fun ls hl => ?_)
  obtain ⟨v8, hL, hf⟩ := bd1_some hf
  refine wx_H_countsOfThoseBelow_L4 hc hR hml N a1 N _ _ _ _ _ _ _ hL hw (lv_sub hl [2, 3, 1, 0] rfl) (fun H locs ls hw hl => ?_)
  refine lv_iload_n hx hb dX1_countsOfThoseBelow_48 rfl (lv_at hl 0 rfl) ?_
  obtain rfl := Option.some.inj hf
  exact hQ _ _ _ _ dX1_countsOfThoseBelow_49 hw
def xf_H_nameSeat (N : Nat) (S : xS) (a1 : Int32) (a2 : Int32) : Option (xS) := (if a1.toNatClampNeg < S.2.2.1 then (bd1 (xf_W_placeOf N (xs S 25 (2 : Int32).toNatClampNeg (S.1 55 a1.toNatClampNeg)) a1 a2) fun v2 => (bd1 (xf_W_floor N (xs (xs S 25 (2 : Int32).toNatClampNeg (S.1 55 a1.toNatClampNeg)) 25 (3 : Int32).toNatClampNeg v2) a1) fun v3 => (bd1 (xf_H_sortOf N (xs (xs (xs S 25 (2 : Int32).toNatClampNeg (S.1 55 a1.toNatClampNeg)) 25 (3 : Int32).toNatClampNeg v2) 25 (4 : Int32).toNatClampNeg v3) a1 a2) fun v4 => some (xs (xs (xs (xs S 25 (2 : Int32).toNatClampNeg (S.1 55 a1.toNatClampNeg)) 25 (3 : Int32).toNatClampNeg v2) 25 (4 : Int32).toNatClampNeg v3) 25 (5 : Int32).toNatClampNeg v4)))) else none)
set_option maxRecDepth 100000 in
theorem cx_H_nameSeat (l : Launch) (N : Nat) (S : xS) (a1 : Int32) (a2 : Int32) (S1 : xS) (hf : xf_H_nameSeat N S a1 a2 = some S1) : xMv l yX1_nameSeat cX1_nameSeat 3 3 (fun g => [.ref (xr g 1), .ref (xr g (100 + 2 * a1.toNatClampNeg)), .int a2]) S S1 := by
  refine xMv_of (own := RX1) (by decide) rfl (fun g => Nat.le_of_ble_eq_true rfl) ?_
  intro p e R s m args below meth c Q g A H0 H locs ls hc hR hml hw hl hQ
  have hl : lv_has ls 3 [(0, .ref (xr g 1)), (1, .ref (xr g (100 + 2 * a1.toNatClampNeg))), (2, .int a2)] := hl
  have hx := hc.1
  have hb := hc.2.1
  unfold xf_H_nameSeat at hf
  refine lv_aload_n hx hb dX1_nameSeat_0 rfl (lv_at hl 0 rfl) ?_
  refine x_g_hall_names hc hw fl_1_79 dX1_nameSeat_1 ?_
  refine lv_iconst (v := 2) hx hb dX1_nameSeat_4 (by decide) ?_
  refine lv_aload_n hx hb dX1_nameSeat_5 rfl (lv_at hl 1 rfl) ?_
  obtain ⟨hr1, hf⟩ := gd_some hf
  refine x_rg_number hc hw hr1 fl_1_127 dX1_nameSeat_6 ?_
  refine x_s_hall_names hc hw (ok_in (by decide)) dX1_nameSeat_9 (fun H locs hw => ?_)
  refine lv_aload_n hx hb dX1_nameSeat_10 rfl (lv_at hl 0 rfl) ?_
  refine x_g_hall_names hc hw fl_1_79 dX1_nameSeat_11 ?_
  refine lv_iconst (v := 3) hx hb dX1_nameSeat_14 (by decide) ?_
  refine lv_aload_n hx hb dX1_nameSeat_15 rfl (lv_at hl 1 rfl) ?_
  refine lv_iload_n hx hb dX1_nameSeat_16 rfl (lv_at hl 2 rfl) ?_
  obtain ⟨v2, hcall, hf⟩ := bd1_some hf
  refine x_cri (As := [.int a2]) (rest := [.int 3, .ref (xr g 14)]) hc hw hR (hml.trans hl.1.symm) (cx_W_placeOf l N (xs S 25 (2 : Int32).toNatClampNeg (S.1 55 a1.toNatClampNeg)) a1 a2 v2 hcall) xq_1_W_placeOf hr1 (by decide) rfl rfl rfl (Nat.le_of_ble_eq_true rfl) dX1_nameSeat_17 (fun H locs hw => ?_) ⟨Nat.zero_le _, Nat.zero_le _⟩
  refine x_s_hall_names hc hw (ok_in (by decide)) dX1_nameSeat_20 (fun H locs hw => ?_)
  refine lv_aload_n hx hb dX1_nameSeat_21 rfl (lv_at hl 0 rfl) ?_
  refine x_g_hall_names hc hw fl_1_79 dX1_nameSeat_22 ?_
  refine lv_iconst (v := 4) hx hb dX1_nameSeat_25 (by decide) ?_
  refine lv_aload_n hx hb dX1_nameSeat_26 rfl (lv_at hl 1 rfl) ?_
  obtain ⟨v3, hcall, hf⟩ := bd1_some hf
  refine x_cri (As := []) (rest := [.int 4, .ref (xr g 14)]) hc hw hR (hml.trans hl.1.symm) (cx_W_floor l N (xs (xs S 25 (2 : Int32).toNatClampNeg (S.1 55 a1.toNatClampNeg)) 25 (3 : Int32).toNatClampNeg v2) a1 v3 hcall) xq_1_W_floor hr1 (by decide) rfl rfl rfl (Nat.le_of_ble_eq_true rfl) dX1_nameSeat_27 (fun H locs hw => ?_) ⟨Nat.zero_le _, Nat.zero_le _⟩
  refine x_s_hall_names hc hw (ok_in (by decide)) dX1_nameSeat_30 (fun H locs hw => ?_)
  refine lv_aload_n hx hb dX1_nameSeat_31 rfl (lv_at hl 0 rfl) ?_
  refine x_g_hall_names hc hw fl_1_79 dX1_nameSeat_32 ?_
  refine lv_iconst (v := 5) hx hb dX1_nameSeat_35 (by decide) ?_
  refine lv_aload_n hx hb dX1_nameSeat_36 rfl (lv_at hl 0 rfl) ?_
  refine lv_aload_n hx hb dX1_nameSeat_37 rfl (lv_at hl 1 rfl) ?_
  refine lv_iload_n hx hb dX1_nameSeat_38 rfl (lv_at hl 2 rfl) ?_
  obtain ⟨v4, hcall, hf⟩ := bd1_some hf
  refine x_cvi (As := [.ref (xr g (100 + 2 * a1.toNatClampNeg)), .int a2]) (rest := [.int 5, .ref (xr g 14)]) hc hw hR (hml.trans hl.1.symm) (cx_H_sortOf l N (xs (xs (xs S 25 (2 : Int32).toNatClampNeg (S.1 55 a1.toNatClampNeg)) 25 (3 : Int32).toNatClampNeg v2) 25 (4 : Int32).toNatClampNeg v3) a1 a2 v4 hcall) xq_1_H_sortOf (x_recv_hall hw) (by decide) rfl rfl rfl (Nat.le_of_ble_eq_true rfl) dX1_nameSeat_39 (fun H locs hw => ?_) ⟨Nat.zero_le _, Nat.zero_le _⟩
  refine x_s_hall_names hc hw (ok_in (by decide)) dX1_nameSeat_42 (fun H locs hw => ?_)
  obtain rfl := Option.some.inj hf
  exact hQ _ _ _ _ dX1_nameSeat_43 hw
