def xf_X_count (S : xS) (a1 : Int32) : Int32 := (if a1 = 0 then S.1 16 0 else (if a1 = 1 then S.1 17 0 else (if a1 = 2 then S.1 18 0 else (if a1 = 3 then S.1 0 0 else (if a1 = 4 then S.1 1 0 else (if a1 = 5 then S.1 2 0 else (-2)))))))
set_option maxRecDepth 100000 in
theorem cx_X_count (l : Launch) (S : xS) (a1 : Int32) (res : Int32) (hf : xf_X_count S a1 = res) : xMi l yX11_count cX11_count 2 .int 2 (fun g => [.ref (xr g 0), .int a1]) S res S := by
  refine xMi_of (own := RX11) (by decide) rfl rfl (fun g => Nat.le_of_ble_eq_true rfl) ?_
  intro p e R s m args below meth c Q g A H0 H locs ls hc hR hml hw hl hQ
  have hl : lv_has ls 2 [(0, .ref (xr g 0)), (1, .int a1)] := hl
  have hx := hc.1
  have hb := hc.2.1
  unfold xf_X_count at hf
  refine lv_iload_n hx hb dX11_count_0 rfl (lv_at hl 1 rfl) ?_
  by_cases cn1 : a1 = 0
  · have hf := (if_pos cn1).symm.trans hf
    refine lv_tableIn (tgt := 40) (off := 39) hx hb dX11_count_1 (by rw [cn1]; decide) (by rw [cn1]; decide) (by rw [cn1]; decide) (by decide) ?_
    refine lv_aload_n hx hb dX11_count_40 rfl (lv_at hl 0 rfl) ?_
    refine x_g_this_hall hc hw fl_11_10 dX11_count_41 ?_
    refine x_g_hall_rowCount hc hw fl_11_113 dX11_count_44 ?_
    obtain rfl := hf
    exact hQ _ _ _ _ dX11_count_47 hw
  have hf := (if_neg cn1).symm.trans hf
  by_cases cn2 : a1 = 1
  · have hf := (if_pos cn2).symm.trans hf
    refine lv_tableIn (tgt := 48) (off := 47) hx hb dX11_count_1 (by rw [cn2]; decide) (by rw [cn2]; decide) (by rw [cn2]; decide) (by decide) ?_
    refine lv_aload_n hx hb dX11_count_48 rfl (lv_at hl 0 rfl) ?_
    refine x_g_this_hall hc hw fl_11_10 dX11_count_49 ?_
    refine x_g_hall_pointCount hc hw fl_11_187 dX11_count_52 ?_
    obtain rfl := hf
    exact hQ _ _ _ _ dX11_count_55 hw
  have hf := (if_neg cn2).symm.trans hf
  by_cases cn3 : a1 = 2
  · have hf := (if_pos cn3).symm.trans hf
    refine lv_tableIn (tgt := 56) (off := 55) hx hb dX11_count_1 (by rw [cn3]; decide) (by rw [cn3]; decide) (by rw [cn3]; decide) (by decide) ?_
    refine lv_aload_n hx hb dX11_count_56 rfl (lv_at hl 0 rfl) ?_
    refine x_g_this_hall hc hw fl_11_10 dX11_count_57 ?_
    refine x_g_hall_postCount hc hw fl_11_203 dX11_count_60 ?_
    obtain rfl := hf
    exact hQ _ _ _ _ dX11_count_63 hw
  have hf := (if_neg cn3).symm.trans hf
  by_cases cn4 : a1 = 3
  · have hf := (if_pos cn4).symm.trans hf
    refine lv_tableIn (tgt := 64) (off := 63) hx hb dX11_count_1 (by rw [cn4]; decide) (by rw [cn4]; decide) (by rw [cn4]; decide) (by decide) ?_
    refine lv_aload_n hx hb dX11_count_64 rfl (lv_at hl 0 rfl) ?_
    refine x_g_this_textCount hc hw fl_11_40 dX11_count_65 ?_
    obtain rfl := hf
    exact hQ _ _ _ _ dX11_count_68 hw
  have hf := (if_neg cn4).symm.trans hf
  by_cases cn5 : a1 = 4
  · have hf := (if_pos cn5).symm.trans hf
    refine lv_tableIn (tgt := 69) (off := 68) hx hb dX11_count_1 (by rw [cn5]; decide) (by rw [cn5]; decide) (by rw [cn5]; decide) (by decide) ?_
    refine lv_aload_n hx hb dX11_count_69 rfl (lv_at hl 0 rfl) ?_
    refine x_g_this_lawNumber hc hw fl_11_44 dX11_count_70 ?_
    obtain rfl := hf
    exact hQ _ _ _ _ dX11_count_73 hw
  have hf := (if_neg cn5).symm.trans hf
  by_cases cn6 : a1 = 5
  · have hf := (if_pos cn6).symm.trans hf
    refine lv_tableIn (tgt := 74) (off := 73) hx hb dX11_count_1 (by rw [cn6]; decide) (by rw [cn6]; decide) (by rw [cn6]; decide) (by decide) ?_
    refine lv_aload_n hx hb dX11_count_74 rfl (lv_at hl 0 rfl) ?_
    refine x_g_this_tapeSize hc hw fl_11_47 dX11_count_75 ?_
    obtain rfl := hf
    exact hQ _ _ _ _ dX11_count_78 hw
  have hf := (if_neg cn6).symm.trans hf
  refine lv_tableOut (tgt := 79) hx hb dX11_count_1 (by have hcn1 := sw_ne cn1 (k := 0) (by decide); have hcn2 := sw_ne cn2 (k := 1) (by decide); have hcn3 := sw_ne cn3 (k := 2) (by decide); have hcn4 := sw_ne cn4 (k := 3) (by decide); have hcn5 := sw_ne cn5 (k := 4) (by decide); have hcn6 := sw_ne cn6 (k := 5) (by decide); omega) (by decide) ?_
  refine lv_bipush (v := (-2)) hx hb dX11_count_79 (by decide) ?_
  obtain rfl := hf
  exact hQ _ _ _ _ dX11_count_81 hw
def xf_X_isIn (a1 : Int32) (a2 : Int32) (a3 : Int32) : Bool := (if a1 < a2 then false else (if a3 < a1 then false else true))
set_option maxRecDepth 100000 in
theorem cx_X_isIn (l : Launch) (S : xS) (a1 : Int32) (a2 : Int32) (a3 : Int32) (res : Bool) (hf : xf_X_isIn a1 a2 a3 = res) : xMi l yX11_isIn cX11_isIn 3 .boolean 2 (fun g => [.int a1, .int a2, .int a3]) S (bi res) S := by
  refine xMi_of (own := RX11) (by decide) rfl (narrow_bi _) (fun g => Nat.le_of_ble_eq_true rfl) ?_
  intro p e R s m args below meth c Q g A H0 H locs ls hc hR hml hw hl hQ
  have hl : lv_has ls 3 [(0, .int a1), (1, .int a2), (2, .int a3)] := hl
  have hx := hc.1
  have hb := hc.2.1
  unfold xf_X_isIn at hf
  refine lv_iload_n hx hb dX11_isIn_0 rfl (lv_at hl 0 rfl) ?_
  refine lv_iload_n hx hb dX11_isIn_1 rfl (lv_at hl 1 rfl) ?_
  refine lv_icmp_lt (tgt := 14) hx hb dX11_isIn_2 (by decide) (fun cn1 => ?_) (fun cn1 => ?_)
  · have hf := (if_pos cn1).symm.trans hf
    refine lv_iconst (v := 0) hx hb dX11_isIn_14 (by decide) ?_
    obtain rfl := hf
    exact hQ _ _ _ _ dX11_isIn_15 hw
  · have hf := (if_neg cn1).symm.trans hf
    refine lv_iload_n hx hb dX11_isIn_5 rfl (lv_at hl 0 rfl) ?_
    refine lv_iload_n hx hb dX11_isIn_6 rfl (lv_at hl 2 rfl) ?_
    refine lv_icmp_gt (tgt := 14) hx hb dX11_isIn_7 (by decide) (fun cn2 => ?_) (fun cn2 => ?_)
    · have hf := (if_pos cn2).symm.trans hf
      refine lv_iconst (v := 0) hx hb dX11_isIn_14 (by decide) ?_
      obtain rfl := hf
      exact hQ _ _ _ _ dX11_isIn_15 hw
    · have hf := (if_neg cn2).symm.trans hf
      refine lv_iconst (v := 1) hx hb dX11_isIn_10 (by decide) ?_
      refine lv_goto (tgt := 15) hx hb dX11_isIn_11 (by decide) ?_
      obtain rfl := hf
      exact hQ _ _ _ _ dX11_isIn_15 hw
def xf_X_isPoint (S : xS) (a1 : Int32) : Bool := (if a1 < 0 then false else (if (S.1 17 0) ≤ a1 then false else true))
set_option maxRecDepth 100000 in
theorem cx_X_isPoint (l : Launch) (S : xS) (a1 : Int32) (res : Bool) (hf : xf_X_isPoint S a1 = res) : xMi l yX11_isPoint cX11_isPoint 2 .boolean 2 (fun g => [.ref (xr g 0), .int a1]) S (bi res) S := by
  refine xMi_of (own := RX11) (by decide) rfl (narrow_bi _) (fun g => Nat.le_of_ble_eq_true rfl) ?_
  intro p e R s m args below meth c Q g A H0 H locs ls hc hR hml hw hl hQ
  have hl : lv_has ls 2 [(0, .ref (xr g 0)), (1, .int a1)] := hl
  have hx := hc.1
  have hb := hc.2.1
  unfold xf_X_isPoint at hf
  refine lv_iload_n hx hb dX11_isPoint_0 rfl (lv_at hl 1 rfl) ?_
  refine lv_if_lt (tgt := 19) hx hb dX11_isPoint_1 (by decide) (fun cn1 => ?_) (fun cn1 => ?_)
  · have hf := (if_pos cn1).symm.trans hf
    refine lv_iconst (v := 0) hx hb dX11_isPoint_19 (by decide) ?_
    obtain rfl := hf
    exact hQ _ _ _ _ dX11_isPoint_20 hw
  · have hf := (if_neg cn1).symm.trans hf
    refine lv_iload_n hx hb dX11_isPoint_4 rfl (lv_at hl 1 rfl) ?_
    refine lv_aload_n hx hb dX11_isPoint_5 rfl (lv_at hl 0 rfl) ?_
    refine x_g_this_hall hc hw fl_11_10 dX11_isPoint_6 ?_
    refine x_g_hall_pointCount hc hw fl_11_187 dX11_isPoint_9 ?_
    refine lv_icmp_ge (tgt := 19) hx hb dX11_isPoint_12 (by decide) (fun cn2 => ?_) (fun cn2 => ?_)
    · have hf := (if_pos cn2).symm.trans hf
      refine lv_iconst (v := 0) hx hb dX11_isPoint_19 (by decide) ?_
      obtain rfl := hf
      exact hQ _ _ _ _ dX11_isPoint_20 hw
    · have hf := (if_neg cn2).symm.trans hf
      refine lv_iconst (v := 1) hx hb dX11_isPoint_15 (by decide) ?_
      refine lv_goto (tgt := 20) hx hb dX11_isPoint_16 (by decide) ?_
      obtain rfl := hf
      exact hQ _ _ _ _ dX11_isPoint_20 hw
def xf_X_isPost (S : xS) (a1 : Int32) : Bool := (if a1 < 0 then false else (if (S.1 18 0) ≤ a1 then false else true))
set_option maxRecDepth 100000 in
theorem cx_X_isPost (l : Launch) (S : xS) (a1 : Int32) (res : Bool) (hf : xf_X_isPost S a1 = res) : xMi l yX11_isPost cX11_isPost 2 .boolean 2 (fun g => [.ref (xr g 0), .int a1]) S (bi res) S := by
  refine xMi_of (own := RX11) (by decide) rfl (narrow_bi _) (fun g => Nat.le_of_ble_eq_true rfl) ?_
  intro p e R s m args below meth c Q g A H0 H locs ls hc hR hml hw hl hQ
  have hl : lv_has ls 2 [(0, .ref (xr g 0)), (1, .int a1)] := hl
  have hx := hc.1
  have hb := hc.2.1
  unfold xf_X_isPost at hf
  refine lv_iload_n hx hb dX11_isPost_0 rfl (lv_at hl 1 rfl) ?_
  refine lv_if_lt (tgt := 19) hx hb dX11_isPost_1 (by decide) (fun cn1 => ?_) (fun cn1 => ?_)
  · have hf := (if_pos cn1).symm.trans hf
    refine lv_iconst (v := 0) hx hb dX11_isPost_19 (by decide) ?_
    obtain rfl := hf
    exact hQ _ _ _ _ dX11_isPost_20 hw
  · have hf := (if_neg cn1).symm.trans hf
    refine lv_iload_n hx hb dX11_isPost_4 rfl (lv_at hl 1 rfl) ?_
    refine lv_aload_n hx hb dX11_isPost_5 rfl (lv_at hl 0 rfl) ?_
    refine x_g_this_hall hc hw fl_11_10 dX11_isPost_6 ?_
    refine x_g_hall_postCount hc hw fl_11_203 dX11_isPost_9 ?_
    refine lv_icmp_ge (tgt := 19) hx hb dX11_isPost_12 (by decide) (fun cn2 => ?_) (fun cn2 => ?_)
    · have hf := (if_pos cn2).symm.trans hf
      refine lv_iconst (v := 0) hx hb dX11_isPost_19 (by decide) ?_
      obtain rfl := hf
      exact hQ _ _ _ _ dX11_isPost_20 hw
    · have hf := (if_neg cn2).symm.trans hf
      refine lv_iconst (v := 1) hx hb dX11_isPost_15 (by decide) ?_
      refine lv_goto (tgt := 20) hx hb dX11_isPost_16 (by decide) ?_
      obtain rfl := hf
      exact hQ _ _ _ _ dX11_isPost_20 hw
def xf_X_putOnTape (N : Nat) (S : xS) (a1 : Int32) : Option (xS) := (if 160 ≤ (S.1 2 0) then some S else (if ok (S.1 2 0) 160 then some (xs (xs S 3 (S.1 2 0).toNatClampNeg (a1.toInt8.toInt32)) 2 0 (((xs S 3 (S.1 2 0).toNatClampNeg (a1.toInt8.toInt32)).1 2 0) + 1)) else none))
set_option maxRecDepth 100000 in
theorem cx_X_putOnTape (l : Launch) (N : Nat) (S : xS) (a1 : Int32) (S1 : xS) (hf : xf_X_putOnTape N S a1 = some S1) : xMv l yX11_putOnTape cX11_putOnTape 2 2 (fun g => [.ref (xr g 0), .int a1]) S S1 := by
  refine xMv_of (own := RX11) (by decide) rfl (fun g => Nat.le_of_ble_eq_true rfl) ?_
  intro p e R s m args below meth c Q g A H0 H locs ls hc hR hml hw hl hQ
  have hl : lv_has ls 2 [(0, .ref (xr g 0)), (1, .int a1)] := hl
  have hx := hc.1
  have hb := hc.2.1
  unfold xf_X_putOnTape at hf
  refine lv_aload_n hx hb dX11_putOnTape_0 rfl (lv_at hl 0 rfl) ?_
  refine x_g_this_tapeSize hc hw fl_11_47 dX11_putOnTape_1 ?_
  refine lv_aload_n hx hb dX11_putOnTape_4 rfl (lv_at hl 0 rfl) ?_
  refine x_g_this_tape hc hw fl_11_36 dX11_putOnTape_5 ?_
  refine va_alen (v := 160) hx hb hw.1 hw.2.1 10 1 ((xW_A (by decide)).trans rfl) rfl rfl dX11_putOnTape_8 ?_
  refine lv_icmp_ge (tgt := 32) hx hb dX11_putOnTape_9 (by decide) (fun cn2 => ?_) (fun cn2 => ?_)
  · have hf := (if_pos cn2).symm.trans hf
    obtain rfl := Option.some.inj hf
    exact hQ _ _ _ _ dX11_putOnTape_32 hw
  · have hf := (if_neg cn2).symm.trans hf
    refine lv_aload_n hx hb dX11_putOnTape_12 rfl (lv_at hl 0 rfl) ?_
    refine x_g_this_tape hc hw fl_11_36 dX11_putOnTape_13 ?_
    refine lv_aload_n hx hb dX11_putOnTape_16 rfl (lv_at hl 0 rfl) ?_
    refine x_g_this_tapeSize hc hw fl_11_47 dX11_putOnTape_17 ?_
    refine lv_iload_n hx hb dX11_putOnTape_20 rfl (lv_at hl 1 rfl) ?_
    obtain ⟨hi1, hf⟩ := gd_some hf
    refine x_s_this_tape hc hw (ok_in hi1) dX11_putOnTape_21 (fun H locs hw => ?_)
    refine lv_aload_n hx hb dX11_putOnTape_22 rfl (lv_at hl 0 rfl) ?_
    refine lv_dup hx hb dX11_putOnTape_23 rfl ?_
    refine x_g_this_tapeSize hc hw fl_11_47 dX11_putOnTape_24 ?_
    refine lv_iconst (v := 1) hx hb dX11_putOnTape_27 (by decide) ?_
    refine lv_iadd hx hb dX11_putOnTape_28 ?_
    refine x_p_this_tapeSize hc hw fl_11_47 dX11_putOnTape_29 (fun H locs hw => ?_)
    obtain rfl := Option.some.inj hf
    exact hQ _ _ _ _ dX11_putOnTape_32 hw
def xf_X_force (N : Nat) (S : xS) (a1 : Int32) : Option (Int32 × xS) := (if a1 < 0 then some ((-2), S) else (if a1 < (S.1 0 0) then (if ok a1 6 then (if a1.toNatClampNeg < S.2.2.2 then some (S.1 1 0, xs (xs S 1 0 a1) 19 0 a1) else none) else none) else some ((-2), S)))
set_option maxRecDepth 100000 in
theorem cx_X_force (l : Launch) (N : Nat) (S : xS) (a1 : Int32) (res : Int32) (S1 : xS) (hf : xf_X_force N S a1 = some (res, S1)) : xMi l yX11_force cX11_force 3 .int 2 (fun g => [.ref (xr g 0), .int a1]) S res S1 := by
  refine xMi_of (own := RX11) (by decide) rfl rfl (fun g => Nat.le_of_ble_eq_true rfl) ?_
  intro p e R s m args below meth c Q g A H0 H locs ls hc hR hml hw hl hQ
  have hl : lv_has ls 3 [(0, .ref (xr g 0)), (1, .int a1)] := hl
  have hx := hc.1
  have hb := hc.2.1
  unfold xf_X_force at hf
  refine lv_iload_n hx hb dX11_force_0 rfl (lv_at hl 1 rfl) ?_
  refine lv_if_lt (tgt := 12) hx hb dX11_force_1 (by decide) (fun cn3 => ?_) (fun cn3 => ?_)
  · have hf := (if_pos cn3).symm.trans hf
    refine lv_bipush (v := (-2)) hx hb dX11_force_12 (by decide) ?_
    obtain ⟨rfl, rfl⟩ := pr2_some hf
    exact hQ _ _ _ _ dX11_force_14 hw
  · have hf := (if_neg cn3).symm.trans hf
    refine lv_iload_n hx hb dX11_force_4 rfl (lv_at hl 1 rfl) ?_
    refine lv_aload_n hx hb dX11_force_5 rfl (lv_at hl 0 rfl) ?_
    refine x_g_this_textCount hc hw fl_11_40 dX11_force_6 ?_
    refine lv_icmp_lt (tgt := 15) hx hb dX11_force_9 (by decide) (fun cn4 => ?_) (fun cn4 => ?_)
    · have hf := (if_pos cn4).symm.trans hf
      refine lv_aload_n hx hb dX11_force_15 rfl (lv_at hl 0 rfl) ?_
      refine x_g_this_lawNumber hc hw fl_11_44 dX11_force_16 ?_
      refine lv_istore_n (lv' := [(2, .int (S.1 1 0)), (0, .ref (xr g 0)), (1, .int a1)]) hx hb dX11_force_19 rfl hl (by decide) rfl (fun ls hl => ?_)
      refine lv_aload_n hx hb dX11_force_20 rfl (lv_at hl 1 rfl) ?_
      refine lv_iload_n hx hb dX11_force_21 rfl (lv_at hl 2 rfl) ?_
      refine x_p_this_lawNumber hc hw fl_11_44 dX11_force_22 (fun H locs hw => ?_)
      refine lv_aload_n hx hb dX11_force_25 rfl (lv_at hl 1 rfl) ?_
      refine x_g_this_hall hc hw fl_11_10 dX11_force_26 ?_
      refine lv_aload_n hx hb dX11_force_29 rfl (lv_at hl 1 rfl) ?_
      refine x_g_this_texts hc hw fl_11_25 dX11_force_30 ?_
      refine lv_iload_n hx hb dX11_force_33 rfl (lv_at hl 2 rfl) ?_
      obtain ⟨hi1, hf⟩ := gd_some hf
      obtain ⟨hr2, hf⟩ := gd_some hf
      refine x_l_texts hc hw (ok_in hi1) hr2 dX11_force_34 ?_
      refine x_p_hall_law hc hw fl_11_92 (x := a1) (ok_nn hi1) dX11_force_35 (fun H locs hw => ?_)
      refine lv_iload_n hx hb dX11_force_38 rfl (lv_at hl 0 rfl) ?_
      obtain ⟨rfl, rfl⟩ := pr2_some hf
      exact hQ _ _ _ _ dX11_force_39 hw
    · have hf := (if_neg cn4).symm.trans hf
      refine lv_bipush (v := (-2)) hx hb dX11_force_12 (by decide) ?_
      obtain ⟨rfl, rfl⟩ := pr2_some hf
      exact hQ _ _ _ _ dX11_force_14 hw
def xf_X_keepRises_L2 (N : Nat) : Nat → xS → Int32 → Option (xS)
  | 0, _, _ => none
  | n + 1, S2, v1 => (if (S2.1 16 0) ≤ v1 then some S2 else (if ok v1 6 then (if v1.toNatClampNeg < S2.2.2.1 then xf_X_keepRises_L2 N n (xs S2 6 v1.toNatClampNeg (S2.1 57 v1.toNatClampNeg)) (v1 + 1) else none) else none))
set_option maxRecDepth 100000 in
theorem wx_X_keepRises_L2 {p : Program} {l : Launch} {e : Env} {R : Room} {s : State} {m : MethodId} {args : Array Value} {below : List Frame} {meth : Method} {c : Code} {Q : State → Prop} {g : xG} {A : Nat → Prop} {H0 : Heap} (hc : qC RX11 cX11_keepRises p s m args c) (hR : qRoom R 2) (hml : c.maxLocals = 2) (N : Nat) : ∀ (n : Nat) (S2 : xS) (v1 : Int32) (X : xS) (H : Heap) (locs : List Loc) (ls : Array Slot), xf_X_keepRises_L2 N n S2 v1 = some X → xI g A H0 s S2 H locs → lv_has ls 2 [(0, .ref (xr g 0)), (1, .int v1)] → (∀ (H : Heap) (locs : List Loc) (ls : Array Slot), xI g A H0 s X H locs → lv_has ls 2 [] → W p l e R s m args below meth c H locs 0 0 Q (F0 m 37 ls [])) → W p l e R s m args below meth c H locs 0 0 Q (F0 m 2 ls []) := by
  have hx := hc.1
  have hb := hc.2.1
  intro n
  induction n with
  | zero => intro _ _ X H locs ls hf; exact nomatch (show none = some X from hf)
  | succ n ih =>
    intro S2 v1 X H locs ls hf hw hl kx
    rw [xf_X_keepRises_L2] at hf
    refine lv_iload_n hx hb dX11_keepRises_2 rfl (lv_at hl 1 rfl) ?_
    refine lv_aload_n hx hb dX11_keepRises_3 rfl (lv_at hl 0 rfl) ?_
    refine x_g_this_hall hc hw fl_11_10 dX11_keepRises_4 ?_
    refine x_g_hall_rowCount hc hw fl_11_113 dX11_keepRises_7 ?_
    refine lv_icmp_ge (tgt := 37) hx hb dX11_keepRises_10 (by decide) (fun cn6 => ?_) (fun cn6 => ?_)
    · have hf := (if_pos cn6).symm.trans hf
      obtain rfl := Option.some.inj hf
      exact kx _ _ _ hw (lv_sub hl [] rfl)
    · have hf := (if_neg cn6).symm.trans hf
      refine lv_aload_n hx hb dX11_keepRises_13 rfl (lv_at hl 0 rfl) ?_
      refine x_g_this_risesBefore hc hw fl_11_62 dX11_keepRises_14 ?_
      refine lv_iload_n hx hb dX11_keepRises_17 rfl (lv_at hl 1 rfl) ?_
      refine lv_aload_n hx hb dX11_keepRises_18 rfl (lv_at hl 0 rfl) ?_
      refine x_g_this_hall hc hw fl_11_10 dX11_keepRises_19 ?_
      refine x_g_hall_rows hc hw fl_11_116 dX11_keepRises_22 ?_
      refine lv_iload_n hx hb dX11_keepRises_25 rfl (lv_at hl 1 rfl) ?_
      obtain ⟨hi3, hf⟩ := gd_some hf
      obtain ⟨hr4, hf⟩ := gd_some hf
      refine x_l_rows hc hw (ok_in hi3) hr4 dX11_keepRises_26 ?_
      refine x_rg_rise hc hw hr4 fl_11_150 dX11_keepRises_27 ?_
      refine x_s_this_risesBefore hc hw (ok_in hi3) dX11_keepRises_30 (fun H locs hw => ?_)
      refine lv_iinc (lv' := [(1, .int (v1 + 1)), (0, .ref (xr g 0))]) hx hb dX11_keepRises_31 hl (k := 1) rfl rfl (by decide) rfl (fun ls hl => ?_)
      refine lv_goto (tgt := 2) hx hb dX11_keepRises_34 (by decide) ?_
      exact ih _ _ X _ _ _ hf hw (lv_sub hl [1, 0] rfl) kx
def xf_X_keepRises (N : Nat) (S : xS) : Option (xS) := (bd1 (xf_X_keepRises_L2 N N S 0) fun S5 => some S5)
set_option maxRecDepth 100000 in
theorem cx_X_keepRises (l : Launch) (N : Nat) (S : xS) (S1 : xS) (hf : xf_X_keepRises N S = some S1) : xMv l yX11_keepRises cX11_keepRises 2 2 (fun g => [.ref (xr g 0)]) S S1 := by
  refine xMv_of (own := RX11) (by decide) rfl (fun g => Nat.le_of_ble_eq_true rfl) ?_
  intro p e R s m args below meth c Q g A H0 H locs ls hc hR hml hw hl hQ
  have hl : lv_has ls 2 [(0, .ref (xr g 0))] := hl
  have hx := hc.1
  have hb := hc.2.1
  unfold xf_X_keepRises at hf
  refine lv_iconst (v := 0) hx hb dX11_keepRises_0 (by decide) ?_
  refine lv_istore_n (lv' := [(1, .int 0), (0, .ref (xr g 0))]) hx hb dX11_keepRises_1 rfl hl (by decide) rfl (fun ls hl => ?_)
  obtain ⟨S5, hL, hf⟩ := bd1_some hf
  refine wx_X_keepRises_L2 hc hR hml N N _ _ _ _ _ _ hL hw (lv_sub hl [1, 0] rfl) (fun H locs ls hw hl => ?_)
  obtain rfl := Option.some.inj hf
  exact hQ _ _ _ _ dX11_keepRises_37 hw
def xf_X_restoreRises_L2 (N : Nat) : Nat → xS → Int32 → Option (xS)
  | 0, _, _ => none
  | n + 1, S2, v1 => (if (S2.1 16 0) ≤ v1 then some S2 else (if ok v1 6 then (if v1.toNatClampNeg < S2.2.2.1 then xf_X_restoreRises_L2 N n (xs S2 57 v1.toNatClampNeg (S2.1 6 v1.toNatClampNeg)) (v1 + 1) else none) else none))
set_option maxRecDepth 100000 in
theorem wx_X_restoreRises_L2 {p : Program} {l : Launch} {e : Env} {R : Room} {s : State} {m : MethodId} {args : Array Value} {below : List Frame} {meth : Method} {c : Code} {Q : State → Prop} {g : xG} {A : Nat → Prop} {H0 : Heap} (hc : qC RX11 cX11_restoreRises p s m args c) (hR : qRoom R 2) (hml : c.maxLocals = 2) (N : Nat) : ∀ (n : Nat) (S2 : xS) (v1 : Int32) (X : xS) (H : Heap) (locs : List Loc) (ls : Array Slot), xf_X_restoreRises_L2 N n S2 v1 = some X → xI g A H0 s S2 H locs → lv_has ls 2 [(0, .ref (xr g 0)), (1, .int v1)] → (∀ (H : Heap) (locs : List Loc) (ls : Array Slot), xI g A H0 s X H locs → lv_has ls 2 [] → W p l e R s m args below meth c H locs 0 0 Q (F0 m 37 ls [])) → W p l e R s m args below meth c H locs 0 0 Q (F0 m 2 ls []) := by
  have hx := hc.1
  have hb := hc.2.1
  intro n
  induction n with
  | zero => intro _ _ X H locs ls hf; exact nomatch (show none = some X from hf)
  | succ n ih =>
    intro S2 v1 X H locs ls hf hw hl kx
    rw [xf_X_restoreRises_L2] at hf
    refine lv_iload_n hx hb dX11_restoreRises_2 rfl (lv_at hl 1 rfl) ?_
    refine lv_aload_n hx hb dX11_restoreRises_3 rfl (lv_at hl 0 rfl) ?_
    refine x_g_this_hall hc hw fl_11_10 dX11_restoreRises_4 ?_
    refine x_g_hall_rowCount hc hw fl_11_113 dX11_restoreRises_7 ?_
    refine lv_icmp_ge (tgt := 37) hx hb dX11_restoreRises_10 (by decide) (fun cn6 => ?_) (fun cn6 => ?_)
    · have hf := (if_pos cn6).symm.trans hf
      obtain rfl := Option.some.inj hf
      exact kx _ _ _ hw (lv_sub hl [] rfl)
    · have hf := (if_neg cn6).symm.trans hf
      refine lv_aload_n hx hb dX11_restoreRises_13 rfl (lv_at hl 0 rfl) ?_
      refine x_g_this_hall hc hw fl_11_10 dX11_restoreRises_14 ?_
      refine x_g_hall_rows hc hw fl_11_116 dX11_restoreRises_17 ?_
      refine lv_iload_n hx hb dX11_restoreRises_20 rfl (lv_at hl 1 rfl) ?_
      obtain ⟨hi3, hf⟩ := gd_some hf
      obtain ⟨hr4, hf⟩ := gd_some hf
      refine x_l_rows hc hw (ok_in hi3) hr4 dX11_restoreRises_21 ?_
      refine lv_aload_n hx hb dX11_restoreRises_22 rfl (lv_at hl 0 rfl) ?_
      refine x_g_this_risesBefore hc hw fl_11_62 dX11_restoreRises_23 ?_
      refine lv_iload_n hx hb dX11_restoreRises_26 rfl (lv_at hl 1 rfl) ?_
      refine x_l_this_risesBefore hc hw (ok_in hi3) dX11_restoreRises_27 ?_
      refine x_rp_rise hc hw hr4 fl_11_150 dX11_restoreRises_28 (fun H locs hw => ?_)
      refine lv_iinc (lv' := [(1, .int (v1 + 1)), (0, .ref (xr g 0))]) hx hb dX11_restoreRises_31 hl (k := 1) rfl rfl (by decide) rfl (fun ls hl => ?_)
      refine lv_goto (tgt := 2) hx hb dX11_restoreRises_34 (by decide) ?_
      exact ih _ _ X _ _ _ hf hw (lv_sub hl [1, 0] rfl) kx
def xf_X_restoreRises (N : Nat) (S : xS) : Option (xS) := (bd1 (xf_X_restoreRises_L2 N N S 0) fun S5 => some S5)
set_option maxRecDepth 100000 in
theorem cx_X_restoreRises (l : Launch) (N : Nat) (S : xS) (S1 : xS) (hf : xf_X_restoreRises N S = some S1) : xMv l yX11_restoreRises cX11_restoreRises 2 2 (fun g => [.ref (xr g 0)]) S S1 := by
  refine xMv_of (own := RX11) (by decide) rfl (fun g => Nat.le_of_ble_eq_true rfl) ?_
  intro p e R s m args below meth c Q g A H0 H locs ls hc hR hml hw hl hQ
  have hl : lv_has ls 2 [(0, .ref (xr g 0))] := hl
  have hx := hc.1
  have hb := hc.2.1
  unfold xf_X_restoreRises at hf
  refine lv_iconst (v := 0) hx hb dX11_restoreRises_0 (by decide) ?_
  refine lv_istore_n (lv' := [(1, .int 0), (0, .ref (xr g 0))]) hx hb dX11_restoreRises_1 rfl hl (by decide) rfl (fun ls hl => ?_)
  obtain ⟨S5, hL, hf⟩ := bd1_some hf
  refine wx_X_restoreRises_L2 hc hR hml N N _ _ _ _ _ _ hL hw (lv_sub hl [1, 0] rfl) (fun H locs ls hw hl => ?_)
  obtain rfl := Option.some.inj hf
  exact hQ _ _ _ _ dX11_restoreRises_37 hw
def xf_X_commonDivisor_L9 (N : Nat) : Nat → Int64 → Int64 → Int32 → Option (Int64)
  | 0, _, _, _ => none
  | n + 1, v1, v2, v3 => (if 200 ≤ v3 then some v1 else (if (lg_cmp v2 0) = 0 then some v1 else (if ¬ v2 = 0 then xf_X_commonDivisor_L9 N n v2 (v1 - v1 / v2 * v2) (v3 + 1) else none)))
set_option maxRecDepth 100000 in
theorem wx_X_commonDivisor_L9 {p : Program} {l : Launch} {e : Env} {R : Room} {s : State} {m : MethodId} {args : Array Value} {below : List Frame} {meth : Method} {c : Code} {Q : State → Prop} {g : xG} {A : Nat → Prop} {H0 : Heap} (hc : qC RX11 cX11_commonDivisor p s m args c) (hR : qRoom R 2) (hml : c.maxLocals = 11) (N : Nat) (S : xS) : ∀ (n : Nat) (v1 : Int64) (v2 : Int64) (v3 : Int32) (X : Int64) (H : Heap) (locs : List Loc) (ls : Array Slot), xf_X_commonDivisor_L9 N n v1 v2 v3 = some X → xI g A H0 s S H locs → lv_has ls 11 [(4, .long v1), (6, .long v2), (8, .int v3)] → (∀ (H : Heap) (locs : List Loc) (ls : Array Slot), xI g A H0 s S H locs → lv_has ls 11 [(4, .long X)] → W p l e R s m args below meth c H locs 0 0 Q (F0 m 45 ls [])) → W p l e R s m args below meth c H locs 0 0 Q (F0 m 9 ls []) := by
  have hx := hc.1
  have hb := hc.2.1
  intro n
  induction n with
  | zero => intro _ _ _ X H locs ls hf; exact nomatch (show none = some X from hf)
  | succ n ih =>
    intro v1 v2 v3 X H locs ls hf hw hl kx
    rw [xf_X_commonDivisor_L9] at hf
    refine lv_iload hx hb dX11_commonDivisor_9 (lv_at hl 2 rfl) ?_
    refine lv_sipush (v := 200) hx hb dX11_commonDivisor_11 (by decide) ?_
    refine lv_icmp_ge (tgt := 45) hx hb dX11_commonDivisor_14 (by decide) (fun cn6 => ?_) (fun cn6 => ?_)
    · have hf := (if_pos cn6).symm.trans hf
      obtain rfl := Option.some.inj hf
      exact kx _ _ _ hw (lv_sub hl [0] rfl)
    · have hf := (if_neg cn6).symm.trans hf
      refine lv_lload hx hb dX11_commonDivisor_17 (lv_at hl 1 rfl) ?_
      refine lv_lconst (v := 0) hx hb dX11_commonDivisor_19 rfl ?_
      refine W.lcmp hx hb dX11_commonDivisor_20 ?_
      refine lv_if_eq (tgt := 45) hx hb dX11_commonDivisor_21 (by decide) (fun cn7 => ?_) (fun cn7 => ?_)
      · have hf := (if_pos cn7).symm.trans hf
        obtain rfl := Option.some.inj hf
        exact kx _ _ _ hw (lv_sub hl [0] rfl)
      · have hf := (if_neg cn7).symm.trans hf
        refine lv_lload hx hb dX11_commonDivisor_24 (lv_at hl 0 rfl) ?_
        refine lv_lload hx hb dX11_commonDivisor_26 (lv_at hl 1 rfl) ?_
        obtain ⟨hn4, hf⟩ := gd_some hf
        refine lv_lrem hx hb dX11_commonDivisor_28 hn4 ?_
        refine lv_lstore (lv' := [(9, .long (v1 - v1 / v2 * v2)), (4, .long v1), (6, .long v2), (8, .int v3)]) hx hb dX11_commonDivisor_29 hl (by decide) rfl (fun ls hl => ?_)
        refine lv_lload hx hb dX11_commonDivisor_31 (lv_at hl 2 rfl) ?_
        refine lv_lstore (lv' := [(4, .long v2), (9, .long (v1 - v1 / v2 * v2)), (6, .long v2), (8, .int v3)]) hx hb dX11_commonDivisor_33 hl (by decide) rfl (fun ls hl => ?_)
        refine lv_lload hx hb dX11_commonDivisor_35 (lv_at hl 1 rfl) ?_
        refine lv_lstore (lv' := [(6, .long (v1 - v1 / v2 * v2)), (4, .long v2), (9, .long (v1 - v1 / v2 * v2)), (8, .int v3)]) hx hb dX11_commonDivisor_37 hl (by decide) rfl (fun ls hl => ?_)
        refine lv_iinc (lv' := [(8, .int (v3 + 1)), (6, .long (v1 - v1 / v2 * v2)), (4, .long v2), (9, .long (v1 - v1 / v2 * v2))]) hx hb dX11_commonDivisor_39 hl (k := 3) rfl rfl (by decide) rfl (fun ls hl => ?_)
        refine lv_goto (tgt := 9) hx hb dX11_commonDivisor_42 (by decide) ?_
        exact ih _ _ _ X _ _ _ hf hw (lv_sub hl [2, 1, 0] rfl) kx
def xf_X_commonDivisor (N : Nat) (a1 : Int64) (a2 : Int64) : Option (Int64) := (bd1 (xf_X_commonDivisor_L9 N N a1 a2 0) fun v5 => some (if (v5 : Int64) < 1 then (1 : Int64) else v5))
set_option maxRecDepth 100000 in
theorem cx_X_commonDivisor (l : Launch) (N : Nat) (S : xS) (a1 : Int64) (a2 : Int64) (res : Int64) (hf : xf_X_commonDivisor N a1 a2 = some res) : xMl l yX11_commonDivisor cX11_commonDivisor 11 2 (fun g => [.long a1, .long a2]) S res S := by
  refine xMl_of (own := RX11) (by decide) rfl (fun g => Nat.le_of_ble_eq_true rfl) ?_
  intro p e R s m args below meth c Q g A H0 H locs ls hc hR hml hw hl hQ
  have hl : lv_has ls 11 [(0, .long a1), (2, .long a2)] := hl
  have hx := hc.1
  have hb := hc.2.1
  unfold xf_X_commonDivisor at hf
  refine lv_lload_n hx hb dX11_commonDivisor_0 rfl (lv_at hl 0 rfl) ?_
  refine lv_lstore (lv' := [(4, .long a1), (0, .long a1), (2, .long a2)]) hx hb dX11_commonDivisor_1 hl (by decide) rfl (fun ls hl => ?_)
  refine lv_lload_n hx hb dX11_commonDivisor_3 rfl (lv_at hl 2 rfl) ?_
  refine lv_lstore (lv' := [(6, .long a2), (4, .long a1), (0, .long a1), (2, .long a2)]) hx hb dX11_commonDivisor_4 hl (by decide) rfl (fun ls hl => ?_)
  refine lv_iconst (v := 0) hx hb dX11_commonDivisor_6 (by decide) ?_
  refine lv_istore (lv' := [(8, .int 0), (6, .long a2), (4, .long a1), (0, .long a1), (2, .long a2)]) hx hb dX11_commonDivisor_7 hl (by decide) rfl (fun ls hl => ?_)
  obtain ⟨v5, hL, hf⟩ := bd1_some hf
  refine wx_X_commonDivisor_L9 hc hR hml N S N _ _ _ _ _ _ _ hL hw (lv_sub hl [2, 1, 0] rfl) (fun H locs ls hw hl => ?_)
  refine lv_lconst (v := 1) hx hb dX11_commonDivisor_45 rfl ?_
  refine lv_lload hx hb dX11_commonDivisor_46 (lv_at hl 0 rfl) ?_
  refine x_mmaxl hc hR (by decide) (hml.trans hl.1.symm) xq_11_x_mmaxl (Nat.le_of_ble_eq_true rfl) dX11_commonDivisor_48 ?_ ⟨Nat.zero_le _, Nat.zero_le _⟩
  obtain rfl := Option.some.inj hf
  exact hQ _ _ _ _ dX11_commonDivisor_51 hw
def xf_X_buildFloors_L13 (N : Nat) : Nat → xS → Int32 → Int32 → Int32 → Int32 → Option (Int32 × xS)
  | 0, _, _, _, _, _ => none
  | n + 1, S5, v1, v2, v3, v4 => (if v4 < 0 then some (v2, S5) else (if ok v4 6 then (if v4.toNatClampNeg < S5.2.2.1 then xf_X_buildFloors_L13 N n (xs S5 57 v4.toNatClampNeg (6 * (v1 - v1 / 3 * 3))) (v1 / 3) (v2 + (v3 * (v1 - v1 / 3 * 3))) (v3 * 10) (v4 + (-1)) else none) else none))
set_option maxRecDepth 100000 in
theorem wx_X_buildFloors_L13 {p : Program} {l : Launch} {e : Env} {R : Room} {s : State} {m : MethodId} {args : Array Value} {below : List Frame} {meth : Method} {c : Code} {Q : State → Prop} {g : xG} {A : Nat → Prop} {H0 : Heap} (hc : qC RX11 cX11_buildFloors p s m args c) (hR : qRoom R 2) (hml : c.maxLocals = 8) (N : Nat) : ∀ (n : Nat) (S5 : xS) (v1 : Int32) (v2 : Int32) (v3 : Int32) (v4 : Int32) (X : Int32 × xS) (H : Heap) (locs : List Loc) (ls : Array Slot), xf_X_buildFloors_L13 N n S5 v1 v2 v3 v4 = some X → xI g A H0 s S5 H locs → lv_has ls 8 [(0, .ref (xr g 0)), (3, .int v1), (4, .int v2), (5, .int v3), (6, .int v4)] → (∀ (H : Heap) (locs : List Loc) (ls : Array Slot), xI g A H0 s X.2 H locs → lv_has ls 8 [(4, .int X.1)] → W p l e R s m args below meth c H locs 0 0 Q (F0 m 68 ls [])) → W p l e R s m args below meth c H locs 0 0 Q (F0 m 13 ls []) := by
  have hx := hc.1
  have hb := hc.2.1
  intro n
  induction n with
  | zero => intro _ _ _ _ _ X H locs ls hf; exact nomatch (show none = some X from hf)
  | succ n ih =>
    intro S5 v1 v2 v3 v4 X H locs ls hf hw hl kx
    rw [xf_X_buildFloors_L13] at hf
    refine lv_iload hx hb dX11_buildFloors_13 (lv_at hl 4 rfl) ?_
    refine lv_if_lt (tgt := 68) hx hb dX11_buildFloors_15 (by decide) (fun cn10 => ?_) (fun cn10 => ?_)
    · have hf := (if_pos cn10).symm.trans hf
      obtain rfl := Option.some.inj hf
      exact kx _ _ _ hw (lv_sub hl [2] rfl)
    · have hf := (if_neg cn10).symm.trans hf
      refine lv_iload_n hx hb dX11_buildFloors_18 rfl (lv_at hl 1 rfl) ?_
      refine lv_iconst (v := 3) hx hb dX11_buildFloors_19 (by decide) ?_
      refine lv_irem hx hb dX11_buildFloors_20 (by decide) ?_
      refine lv_istore (lv' := [(7, .int (v1 - v1 / 3 * 3)), (0, .ref (xr g 0)), (3, .int v1), (4, .int v2), (5, .int v3), (6, .int v4)]) hx hb dX11_buildFloors_21 hl (by decide) rfl (fun ls hl => ?_)
      refine lv_iload_n hx hb dX11_buildFloors_23 rfl (lv_at hl 2 rfl) ?_
      refine lv_iconst (v := 3) hx hb dX11_buildFloors_24 (by decide) ?_
      refine lv_idiv hx hb dX11_buildFloors_25 (by decide) ?_
      refine lv_istore_n (lv' := [(3, .int (v1 / 3)), (7, .int (v1 - v1 / 3 * 3)), (0, .ref (xr g 0)), (4, .int v2), (5, .int v3), (6, .int v4)]) hx hb dX11_buildFloors_26 rfl hl (by decide) rfl (fun ls hl => ?_)
      refine lv_aload_n hx hb dX11_buildFloors_27 rfl (lv_at hl 2 rfl) ?_
      refine x_g_this_hall hc hw fl_11_10 dX11_buildFloors_28 ?_
      refine x_g_hall_rows hc hw fl_11_116 dX11_buildFloors_31 ?_
      refine lv_iload hx hb dX11_buildFloors_34 (lv_at hl 5 rfl) ?_
      obtain ⟨hi6, hf⟩ := gd_some hf
      obtain ⟨hr7, hf⟩ := gd_some hf
      refine x_l_rows hc hw (ok_in hi6) hr7 dX11_buildFloors_36 ?_
      refine lv_bipush (v := 6) hx hb dX11_buildFloors_37 (by decide) ?_
      refine lv_iload hx hb dX11_buildFloors_39 (lv_at hl 1 rfl) ?_
      refine lv_imul hx hb dX11_buildFloors_41 ?_
      refine x_rp_rise hc hw hr7 fl_11_150 dX11_buildFloors_42 (fun H locs hw => ?_)
      refine lv_iload hx hb dX11_buildFloors_45 (lv_at hl 3 rfl) ?_
      refine lv_iload hx hb dX11_buildFloors_47 (lv_at hl 4 rfl) ?_
      refine lv_iload hx hb dX11_buildFloors_49 (lv_at hl 1 rfl) ?_
      refine lv_imul hx hb dX11_buildFloors_51 ?_
      refine lv_iadd hx hb dX11_buildFloors_52 ?_
      refine lv_istore (lv' := [(4, .int (v2 + (v3 * (v1 - v1 / 3 * 3)))), (3, .int (v1 / 3)), (7, .int (v1 - v1 / 3 * 3)), (0, .ref (xr g 0)), (5, .int v3), (6, .int v4)]) hx hb dX11_buildFloors_53 hl (by decide) rfl (fun ls hl => ?_)
      refine lv_iload hx hb dX11_buildFloors_55 (lv_at hl 4 rfl) ?_
      refine lv_bipush (v := 10) hx hb dX11_buildFloors_57 (by decide) ?_
      refine lv_imul hx hb dX11_buildFloors_59 ?_
      refine lv_istore (lv' := [(5, .int (v3 * 10)), (4, .int (v2 + (v3 * (v1 - v1 / 3 * 3)))), (3, .int (v1 / 3)), (7, .int (v1 - v1 / 3 * 3)), (0, .ref (xr g 0)), (6, .int v4)]) hx hb dX11_buildFloors_60 hl (by decide) rfl (fun ls hl => ?_)
      refine lv_iinc (lv' := [(6, .int (v4 + (-1))), (5, .int (v3 * 10)), (4, .int (v2 + (v3 * (v1 - v1 / 3 * 3)))), (3, .int (v1 / 3)), (7, .int (v1 - v1 / 3 * 3)), (0, .ref (xr g 0))]) hx hb dX11_buildFloors_62 hl (k := 5) rfl rfl (by decide) rfl (fun ls hl => ?_)
      refine lv_goto (tgt := 13) hx hb dX11_buildFloors_65 (by decide) ?_
      exact ih _ _ _ _ _ X _ _ _ hf hw (lv_sub hl [5, 3, 2, 1, 0] rfl) kx
def xf_X_buildFloors (N : Nat) (S : xS) (a1 : Int32) (a2 : Int32) : Option (Int32 × xS) := (bd2 (xf_X_buildFloors_L13 N N S a2 0 1 (a1 - 1)) fun v8 S9 => some (v8, S9))
set_option maxRecDepth 100000 in
theorem cx_X_buildFloors (l : Launch) (N : Nat) (S : xS) (a1 : Int32) (a2 : Int32) (res : Int32) (S1 : xS) (hf : xf_X_buildFloors N S a1 a2 = some (res, S1)) : xMi l yX11_buildFloors cX11_buildFloors 8 .int 2 (fun g => [.ref (xr g 0), .int a1, .int a2]) S res S1 := by
  refine xMi_of (own := RX11) (by decide) rfl rfl (fun g => Nat.le_of_ble_eq_true rfl) ?_
  intro p e R s m args below meth c Q g A H0 H locs ls hc hR hml hw hl hQ
  have hl : lv_has ls 8 [(0, .ref (xr g 0)), (1, .int a1), (2, .int a2)] := hl
  have hx := hc.1
  have hb := hc.2.1
  unfold xf_X_buildFloors at hf
  refine lv_iload_n hx hb dX11_buildFloors_0 rfl (lv_at hl 2 rfl) ?_
  refine lv_istore_n (lv' := [(3, .int a2), (0, .ref (xr g 0)), (1, .int a1), (2, .int a2)]) hx hb dX11_buildFloors_1 rfl hl (by decide) rfl (fun ls hl => ?_)
  refine lv_iconst (v := 0) hx hb dX11_buildFloors_2 (by decide) ?_
  refine lv_istore (lv' := [(4, .int 0), (3, .int a2), (0, .ref (xr g 0)), (1, .int a1), (2, .int a2)]) hx hb dX11_buildFloors_3 hl (by decide) rfl (fun ls hl => ?_)
  refine lv_iconst (v := 1) hx hb dX11_buildFloors_5 (by decide) ?_
  refine lv_istore (lv' := [(5, .int 1), (4, .int 0), (3, .int a2), (0, .ref (xr g 0)), (1, .int a1), (2, .int a2)]) hx hb dX11_buildFloors_6 hl (by decide) rfl (fun ls hl => ?_)
  refine lv_iload_n hx hb dX11_buildFloors_8 rfl (lv_at hl 4 rfl) ?_
  refine lv_iconst (v := 1) hx hb dX11_buildFloors_9 (by decide) ?_
  refine lv_isub hx hb dX11_buildFloors_10 ?_
  refine lv_istore (lv' := [(6, .int (a1 - 1)), (5, .int 1), (4, .int 0), (3, .int a2), (0, .ref (xr g 0)), (1, .int a1), (2, .int a2)]) hx hb dX11_buildFloors_11 hl (by decide) rfl (fun ls hl => ?_)
  obtain ⟨v8, S9, hL, hf⟩ := bd2_some hf
  refine wx_X_buildFloors_L13 hc hR hml N N _ _ _ _ _ _ _ _ _ hL hw (lv_sub hl [4, 3, 2, 1, 0] rfl) (fun H locs ls hw hl => ?_)
  refine lv_iload hx hb dX11_buildFloors_68 (lv_at hl 0 rfl) ?_
  obtain ⟨rfl, rfl⟩ := pr2_some hf
  exact hQ _ _ _ _ dX11_buildFloors_70 hw
def xf_X_changePlaces (N : Nat) (S : xS) (a1 : Int32) (a2 : Int32) (a3 : Int32) (a4 : Int32) : Option (xS) := (if a1.toNatClampNeg < S.2.2.1 then (if ok a2 8 then (if a3.toNatClampNeg < S.2.2.1 then (if ok a4 8 then some (xs (xs S (80 + 4 * a1.toNatClampNeg) a2.toNatClampNeg (S.1 (80 + 4 * a3.toNatClampNeg) a4.toNatClampNeg)) (80 + 4 * a3.toNatClampNeg) a4.toNatClampNeg (S.1 (80 + 4 * a1.toNatClampNeg) a2.toNatClampNeg)) else none) else none) else none) else none)
set_option maxRecDepth 100000 in
theorem cx_X_changePlaces (l : Launch) (N : Nat) (S : xS) (a1 : Int32) (a2 : Int32) (a3 : Int32) (a4 : Int32) (S1 : xS) (hf : xf_X_changePlaces N S a1 a2 a3 a4 = some S1) : xMv l yX11_changePlaces cX11_changePlaces 5 2 (fun g => [.ref (xr g (100 + 2 * a1.toNatClampNeg)), .int a2, .ref (xr g (100 + 2 * a3.toNatClampNeg)), .int a4]) S S1 := by
  refine xMv_of (own := RX11) (by decide) rfl (fun g => Nat.le_of_ble_eq_true rfl) ?_
  intro p e R s m args below meth c Q g A H0 H locs ls hc hR hml hw hl hQ
  have hl : lv_has ls 5 [(0, .ref (xr g (100 + 2 * a1.toNatClampNeg))), (1, .int a2), (2, .ref (xr g (100 + 2 * a3.toNatClampNeg))), (3, .int a4)] := hl
  have hx := hc.1
  have hb := hc.2.1
  unfold xf_X_changePlaces at hf
  refine lv_aload_n hx hb dX11_changePlaces_0 rfl (lv_at hl 0 rfl) ?_
  obtain ⟨hr1, hf⟩ := gd_some hf
  refine x_rg_sorts hc hw hr1 fl_11_160 dX11_changePlaces_1 ?_
  refine lv_iload_n hx hb dX11_changePlaces_4 rfl (lv_at hl 1 rfl) ?_
  obtain ⟨hi2, hf⟩ := gd_some hf
  refine x_l_sorts hc hw hr1 (ok_in hi2) dX11_changePlaces_5 ?_
  refine lv_istore (lv' := [(4, .int (S.1 (80 + 4 * a1.toNatClampNeg) a2.toNatClampNeg)), (0, .ref (xr g (100 + 2 * a1.toNatClampNeg))), (1, .int a2), (2, .ref (xr g (100 + 2 * a3.toNatClampNeg))), (3, .int a4)]) hx hb dX11_changePlaces_6 hl (by decide) rfl (fun ls hl => ?_)
  refine lv_aload_n hx hb dX11_changePlaces_8 rfl (lv_at hl 1 rfl) ?_
  refine x_rg_sorts hc hw hr1 fl_11_160 dX11_changePlaces_9 ?_
  refine lv_iload_n hx hb dX11_changePlaces_12 rfl (lv_at hl 2 rfl) ?_
  refine lv_aload_n hx hb dX11_changePlaces_13 rfl (lv_at hl 3 rfl) ?_
  obtain ⟨hr3, hf⟩ := gd_some hf
  refine x_rg_sorts hc hw hr3 fl_11_160 dX11_changePlaces_14 ?_
  refine lv_iload_n hx hb dX11_changePlaces_17 rfl (lv_at hl 4 rfl) ?_
  obtain ⟨hi4, hf⟩ := gd_some hf
  refine x_l_sorts hc hw hr3 (ok_in hi4) dX11_changePlaces_18 ?_
  refine x_s_sorts hc hw hr1 (ok_in hi2) dX11_changePlaces_19 (fun H locs hw => ?_)
  refine lv_aload_n hx hb dX11_changePlaces_20 rfl (lv_at hl 3 rfl) ?_
  refine x_rg_sorts hc hw hr3 fl_11_160 dX11_changePlaces_21 ?_
  refine lv_iload_n hx hb dX11_changePlaces_24 rfl (lv_at hl 4 rfl) ?_
  refine lv_iload hx hb dX11_changePlaces_25 (lv_at hl 0 rfl) ?_
  refine x_s_sorts hc hw hr3 (ok_in hi4) dX11_changePlaces_27 (fun H locs hw => ?_)
  obtain rfl := Option.some.inj hf
  exact hQ _ _ _ _ dX11_changePlaces_28 hw
def xf_X_howManyPay_L5 (N : Nat) (c1 : Int32) (c2 : Int32) : Nat → xS → Int32 → Int32 → Option (Int32)
  | 0, _, _, _ => none
  | n + 1, S5, v3, v4 => (if c2 ≤ v4 then some v3 else (if ok v4 48 then (if (S5.1 7 v4.toNatClampNeg) < c1 then xf_X_howManyPay_L5 N c1 c2 n S5 v3 (v4 + 1) else xf_X_howManyPay_L5 N c1 c2 n S5 (v3 + 1) (v4 + 1)) else none))
set_option maxRecDepth 100000 in
theorem wx_X_howManyPay_L5 {p : Program} {l : Launch} {e : Env} {R : Room} {s : State} {m : MethodId} {args : Array Value} {below : List Frame} {meth : Method} {c : Code} {Q : State → Prop} {g : xG} {A : Nat → Prop} {H0 : Heap} (hc : qC RX11 cX11_howManyPay p s m args c) (hR : qRoom R 2) (hml : c.maxLocals = 5) (N : Nat) (c1 : Int32) (c2 : Int32) : ∀ (n : Nat) (S5 : xS) (v3 : Int32) (v4 : Int32) (X : Int32) (H : Heap) (locs : List Loc) (ls : Array Slot), xf_X_howManyPay_L5 N c1 c2 n S5 v3 v4 = some X → xI g A H0 s S5 H locs → lv_has ls 5 [(0, .ref (xr g 0)), (1, .int c1), (2, .int c2), (3, .int v3), (4, .int v4)] → (∀ (H : Heap) (locs : List Loc) (ls : Array Slot), xI g A H0 s S5 H locs → lv_has ls 5 [(3, .int X)] → W p l e R s m args below meth c H locs 0 0 Q (F0 m 31 ls [])) → W p l e R s m args below meth c H locs 0 0 Q (F0 m 5 ls []) := by
  have hx := hc.1
  have hb := hc.2.1
  intro n
  induction n with
  | zero => intro _ _ _ X H locs ls hf; exact nomatch (show none = some X from hf)
  | succ n ih =>
    intro S5 v3 v4 X H locs ls hf hw hl kx
    rw [xf_X_howManyPay_L5] at hf
    refine lv_iload hx hb dX11_howManyPay_5 (lv_at hl 4 rfl) ?_
    refine lv_iload_n hx hb dX11_howManyPay_7 rfl (lv_at hl 2 rfl) ?_
    refine lv_icmp_ge (tgt := 31) hx hb dX11_howManyPay_8 (by decide) (fun cn8 => ?_) (fun cn8 => ?_)
    · have hf := (if_pos cn8).symm.trans hf
      obtain rfl := Option.some.inj hf
      exact kx _ _ _ hw (lv_sub hl [3] rfl)
    · have hf := (if_neg cn8).symm.trans hf
      refine lv_aload_n hx hb dX11_howManyPay_11 rfl (lv_at hl 0 rfl) ?_
      refine x_g_this_prices hc hw fl_11_65 dX11_howManyPay_12 ?_
      refine lv_iload hx hb dX11_howManyPay_15 (lv_at hl 4 rfl) ?_
      obtain ⟨hi6, hf⟩ := gd_some hf
      refine x_l_this_prices hc hw (ok_in hi6) dX11_howManyPay_17 ?_
      refine lv_iload_n hx hb dX11_howManyPay_18 rfl (lv_at hl 1 rfl) ?_
      refine lv_icmp_lt (tgt := 25) hx hb dX11_howManyPay_19 (by decide) (fun cn9 => ?_) (fun cn9 => ?_)
      · have hf := (if_pos cn9).symm.trans hf
        refine lv_iinc (lv' := [(4, .int (v4 + 1)), (0, .ref (xr g 0)), (1, .int c1), (2, .int c2), (3, .int v3)]) hx hb dX11_howManyPay_25 hl (k := 4) rfl rfl (by decide) rfl (fun ls hl => ?_)
        refine lv_goto (tgt := 5) hx hb dX11_howManyPay_28 (by decide) ?_
        exact ih _ _ _ X _ _ _ hf hw (lv_sub hl [1, 2, 3, 4, 0] rfl) kx
      · have hf := (if_neg cn9).symm.trans hf
        refine lv_iinc (lv' := [(3, .int (v3 + 1)), (0, .ref (xr g 0)), (1, .int c1), (2, .int c2), (4, .int v4)]) hx hb dX11_howManyPay_22 hl (k := 3) rfl rfl (by decide) rfl (fun ls hl => ?_)
        refine lv_iinc (lv' := [(4, .int (v4 + 1)), (3, .int (v3 + 1)), (0, .ref (xr g 0)), (1, .int c1), (2, .int c2)]) hx hb dX11_howManyPay_25 hl (k := 4) rfl rfl (by decide) rfl (fun ls hl => ?_)
        refine lv_goto (tgt := 5) hx hb dX11_howManyPay_28 (by decide) ?_
        exact ih _ _ _ X _ _ _ hf hw (lv_sub hl [2, 3, 4, 1, 0] rfl) kx
def xf_X_howManyPay (N : Nat) (S : xS) (a1 : Int32) (a2 : Int32) : Option (Int32) := (bd1 (xf_X_howManyPay_L5 N a1 a2 N S 0 0) fun v7 => some v7)
set_option maxRecDepth 100000 in
theorem cx_X_howManyPay (l : Launch) (N : Nat) (S : xS) (a1 : Int32) (a2 : Int32) (res : Int32) (hf : xf_X_howManyPay N S a1 a2 = some res) : xMi l yX11_howManyPay cX11_howManyPay 5 .int 2 (fun g => [.ref (xr g 0), .int a1, .int a2]) S res S := by
  refine xMi_of (own := RX11) (by decide) rfl rfl (fun g => Nat.le_of_ble_eq_true rfl) ?_
  intro p e R s m args below meth c Q g A H0 H locs ls hc hR hml hw hl hQ
  have hl : lv_has ls 5 [(0, .ref (xr g 0)), (1, .int a1), (2, .int a2)] := hl
  have hx := hc.1
  have hb := hc.2.1
  unfold xf_X_howManyPay at hf
  refine lv_iconst (v := 0) hx hb dX11_howManyPay_0 (by decide) ?_
  refine lv_istore_n (lv' := [(3, .int 0), (0, .ref (xr g 0)), (1, .int a1), (2, .int a2)]) hx hb dX11_howManyPay_1 rfl hl (by decide) rfl (fun ls hl => ?_)
  refine lv_iconst (v := 0) hx hb dX11_howManyPay_2 (by decide) ?_
  refine lv_istore (lv' := [(4, .int 0), (3, .int 0), (0, .ref (xr g 0)), (1, .int a1), (2, .int a2)]) hx hb dX11_howManyPay_3 hl (by decide) rfl (fun ls hl => ?_)
  obtain ⟨v7, hL, hf⟩ := bd1_some hf
  refine wx_X_howManyPay_L5 hc hR hml N a1 a2 N _ _ _ _ _ _ _ hL hw (lv_sub hl [2, 3, 4, 1, 0] rfl) (fun H locs ls hw hl => ?_)
  refine lv_iload_n hx hb dX11_howManyPay_31 rfl (lv_at hl 0 rfl) ?_
  obtain rfl := Option.some.inj hf
  exact hQ _ _ _ _ dX11_howManyPay_32 hw
def xf_X_isOfKind (N : Nat) (S : xS) (a1 : Int32) (a2 : Int32) : Option (Bool) := (if a2 = 1 then (if a1.toNatClampNeg < S.2.2.1 then some (xb_Shifted (S.1 54 a1.toNatClampNeg)) else none) else (if a2 = 2 then (if a1.toNatClampNeg < S.2.2.1 then some (xb_Raised (S.1 54 a1.toNatClampNeg)) else none) else (if a2 = 3 then (if a1.toNatClampNeg < S.2.2.1 then some (xb_Inner (S.1 54 a1.toNatClampNeg)) else none) else (if a2 = 4 then (if a1.toNatClampNeg < S.2.2.1 then some (xb_Balcony (S.1 54 a1.toNatClampNeg)) else none) else (if a2 = 5 then (if a1.toNatClampNeg < S.2.2.1 then some (xb_Low (S.1 54 a1.toNatClampNeg)) else none) else some true)))))
set_option maxRecDepth 100000 in
theorem cx_X_isOfKind (l : Launch) (N : Nat) (S : xS) (a1 : Int32) (a2 : Int32) (res : Bool) (hf : xf_X_isOfKind N S a1 a2 = some res) : xMi l yX11_isOfKind cX11_isOfKind 2 .boolean 2 (fun g => [.ref (xr g (100 + 2 * a1.toNatClampNeg)), .int a2]) S (bi res) S := by
  refine xMi_of (own := RX11) (by decide) rfl (narrow_bi _) (fun g => Nat.le_of_ble_eq_true rfl) ?_
  intro p e R s m args below meth c Q g A H0 H locs ls hc hR hml hw hl hQ
  have hl : lv_has ls 2 [(0, .ref (xr g (100 + 2 * a1.toNatClampNeg))), (1, .int a2)] := hl
  have hx := hc.1
  have hb := hc.2.1
  unfold xf_X_isOfKind at hf
  refine lv_iload_n hx hb dX11_isOfKind_0 rfl (lv_at hl 1 rfl) ?_
  by_cases cn6 : a2 = 1
  · have hf := (if_pos cn6).symm.trans hf
    refine lv_tableIn (tgt := 36) (off := 35) hx hb dX11_isOfKind_1 (by rw [cn6]; decide) (by rw [cn6]; decide) (by rw [cn6]; decide) (by decide) ?_
    refine lv_aload_n hx hb dX11_isOfKind_36 rfl (lv_at hl 0 rfl) ?_
    obtain ⟨hr1, hf⟩ := gd_some hf
    refine x_inst_Shifted hc hw hr1 (mem_g 540 (by decide +kernel) rfl) dX11_isOfKind_37 ?_
    obtain rfl := Option.some.inj hf
    exact hQ _ _ _ _ dX11_isOfKind_40 hw
  have hf := (if_neg cn6).symm.trans hf
  by_cases cn7 : a2 = 2
  · have hf := (if_pos cn7).symm.trans hf
    refine lv_tableIn (tgt := 41) (off := 40) hx hb dX11_isOfKind_1 (by rw [cn7]; decide) (by rw [cn7]; decide) (by rw [cn7]; decide) (by decide) ?_
    refine lv_aload_n hx hb dX11_isOfKind_41 rfl (lv_at hl 0 rfl) ?_
    obtain ⟨hr2, hf⟩ := gd_some hf
    refine x_inst_Raised hc hw hr2 (mem_g 615 (by decide +kernel) rfl) dX11_isOfKind_42 ?_
    obtain rfl := Option.some.inj hf
    exact hQ _ _ _ _ dX11_isOfKind_45 hw
  have hf := (if_neg cn7).symm.trans hf
  by_cases cn8 : a2 = 3
  · have hf := (if_pos cn8).symm.trans hf
    refine lv_tableIn (tgt := 46) (off := 45) hx hb dX11_isOfKind_1 (by rw [cn8]; decide) (by rw [cn8]; decide) (by rw [cn8]; decide) (by decide) ?_
    refine lv_aload_n hx hb dX11_isOfKind_46 rfl (lv_at hl 0 rfl) ?_
    obtain ⟨hr3, hf⟩ := gd_some hf
    refine x_inst_Inner hc hw hr3 (mem_g 633 (by decide +kernel) rfl) dX11_isOfKind_47 ?_
    obtain rfl := Option.some.inj hf
    exact hQ _ _ _ _ dX11_isOfKind_50 hw
  have hf := (if_neg cn8).symm.trans hf
  by_cases cn9 : a2 = 4
  · have hf := (if_pos cn9).symm.trans hf
    refine lv_tableIn (tgt := 51) (off := 50) hx hb dX11_isOfKind_1 (by rw [cn9]; decide) (by rw [cn9]; decide) (by rw [cn9]; decide) (by decide) ?_
    refine lv_aload_n hx hb dX11_isOfKind_51 rfl (lv_at hl 0 rfl) ?_
    obtain ⟨hr4, hf⟩ := gd_some hf
    refine x_inst_Balcony hc hw hr4 (mem_g 651 (by decide +kernel) rfl) dX11_isOfKind_52 ?_
    obtain rfl := Option.some.inj hf
    exact hQ _ _ _ _ dX11_isOfKind_55 hw
  have hf := (if_neg cn9).symm.trans hf
  by_cases cn10 : a2 = 5
  · have hf := (if_pos cn10).symm.trans hf
    refine lv_tableIn (tgt := 56) (off := 55) hx hb dX11_isOfKind_1 (by rw [cn10]; decide) (by rw [cn10]; decide) (by rw [cn10]; decide) (by decide) ?_
    refine lv_aload_n hx hb dX11_isOfKind_56 rfl (lv_at hl 0 rfl) ?_
    obtain ⟨hr5, hf⟩ := gd_some hf
    refine x_inst_Low hc hw hr5 (mem_g 669 (by decide +kernel) rfl) dX11_isOfKind_57 ?_
    obtain rfl := Option.some.inj hf
    exact hQ _ _ _ _ dX11_isOfKind_60 hw
  have hf := (if_neg cn10).symm.trans hf
  refine lv_tableOut (tgt := 61) hx hb dX11_isOfKind_1 (by have hcn6 := sw_ne cn6 (k := 1) (by decide); have hcn7 := sw_ne cn7 (k := 2) (by decide); have hcn8 := sw_ne cn8 (k := 3) (by decide); have hcn9 := sw_ne cn9 (k := 4) (by decide); have hcn10 := sw_ne cn10 (k := 5) (by decide); omega) (by decide) ?_
  refine lv_iconst (v := 1) hx hb dX11_isOfKind_61 (by decide) ?_
  obtain rfl := Option.some.inj hf
  exact hQ _ _ _ _ dX11_isOfKind_62 hw
def xf_H_rowAt (N : Nat) (S : xS) (a1 : Int32) : Option (Int32) := (if a1 < 0 then some (-1) else (if (S.1 16 0) ≤ a1 then some (-1) else (if ok a1 6 then (if a1.toNatClampNeg < S.2.2.1 then some a1 else none) else none)))
set_option maxRecDepth 100000 in
theorem cx_H_rowAt (l : Launch) (N : Nat) (S : xS) (a1 : Int32) (res : Int32) (hf : xf_H_rowAt N S a1 = some res) : xMr l yX1_rowAt cX1_rowAt 2 (.object "OverTheHeads$Row") 2 (fun g => [.ref (xr g 1), .int a1]) S res S := by
  refine xMr_of (own := RX1) (by decide) rfl (Or.inl ⟨_, rfl⟩) (fun g => Nat.le_of_ble_eq_true rfl) ?_
  intro p e R s m args below meth c Q g A H0 H locs ls hc hR hml hw hl hQ
  have hl : lv_has ls 2 [(0, .ref (xr g 1)), (1, .int a1)] := hl
  have hx := hc.1
  have hb := hc.2.1
  unfold xf_H_rowAt at hf
  refine lv_iload_n hx hb dX1_rowAt_0 rfl (lv_at hl 1 rfl) ?_
  refine lv_if_lt (tgt := 21) hx hb dX1_rowAt_1 (by decide) (fun cn3 => ?_) (fun cn3 => ?_)
  · have hf := (if_pos cn3).symm.trans hf
    refine lv_null hx hb dX1_rowAt_21 ?_
    obtain rfl := Option.some.inj hf
    exact W.eq (by rw [xrv_neg (by decide)]) (hQ _ _ _ _ dX1_rowAt_22 hw)
  · have hf := (if_neg cn3).symm.trans hf
    refine lv_iload_n hx hb dX1_rowAt_4 rfl (lv_at hl 1 rfl) ?_
    refine lv_aload_n hx hb dX1_rowAt_5 rfl (lv_at hl 0 rfl) ?_
    refine x_g_hall_rowCount hc hw fl_1_42 dX1_rowAt_6 ?_
    refine lv_icmp_ge (tgt := 21) hx hb dX1_rowAt_9 (by decide) (fun cn4 => ?_) (fun cn4 => ?_)
    · have hf := (if_pos cn4).symm.trans hf
      refine lv_null hx hb dX1_rowAt_21 ?_
      obtain rfl := Option.some.inj hf
      exact W.eq (by rw [xrv_neg (by decide)]) (hQ _ _ _ _ dX1_rowAt_22 hw)
    · have hf := (if_neg cn4).symm.trans hf
      refine lv_aload_n hx hb dX1_rowAt_12 rfl (lv_at hl 0 rfl) ?_
      refine x_g_hall_rows hc hw fl_1_23 dX1_rowAt_13 ?_
      refine lv_iload_n hx hb dX1_rowAt_16 rfl (lv_at hl 1 rfl) ?_
      obtain ⟨hi1, hf⟩ := gd_some hf
      obtain ⟨hr2, hf⟩ := gd_some hf
      refine x_l_rows hc hw (ok_in hi1) hr2 dX1_rowAt_17 ?_
      refine lv_goto (tgt := 22) hx hb dX1_rowAt_18 (by decide) ?_
      obtain rfl := Option.some.inj hf
      exact W.eq (by rw [xrv_pos (ok_nn hi1)]) (hQ _ _ _ _ dX1_rowAt_22 hw)
def xf_H_stepOf (N : Nat) (S : xS) (a1 : Int32) : Option (Int32) := (if ok a1 6 then (if a1.toNatClampNeg < S.2.2.1 then (if a1 ≤ 0 then some ((S.1 57 a1.toNatClampNeg) - 0) else (if ok (a1 - 1) 6 then (if (a1 - 1).toNatClampNeg < S.2.2.1 then some ((S.1 57 a1.toNatClampNeg) - (S.1 57 (a1 - 1).toNatClampNeg)) else none) else none)) else none) else none)
set_option maxRecDepth 100000 in
theorem cx_H_stepOf (l : Launch) (N : Nat) (S : xS) (a1 : Int32) (res : Int32) (hf : xf_H_stepOf N S a1 = some res) : xMi l yX1_stepOf cX1_stepOf 2 .int 2 (fun g => [.ref (xr g 1), .int a1]) S res S := by
  refine xMi_of (own := RX1) (by decide) rfl rfl (fun g => Nat.le_of_ble_eq_true rfl) ?_
  intro p e R s m args below meth c Q g A H0 H locs ls hc hR hml hw hl hQ
  have hl : lv_has ls 2 [(0, .ref (xr g 1)), (1, .int a1)] := hl
  have hx := hc.1
  have hb := hc.2.1
  unfold xf_H_stepOf at hf
  refine lv_aload_n hx hb dX1_stepOf_0 rfl (lv_at hl 0 rfl) ?_
  refine x_g_hall_rows hc hw fl_1_23 dX1_stepOf_1 ?_
  refine lv_iload_n hx hb dX1_stepOf_4 rfl (lv_at hl 1 rfl) ?_
  obtain ⟨hi1, hf⟩ := gd_some hf
  obtain ⟨hr2, hf⟩ := gd_some hf
  refine x_l_rows hc hw (ok_in hi1) hr2 dX1_stepOf_5 ?_
  refine x_rg_rise hc hw hr2 fl_1_89 dX1_stepOf_6 ?_
  refine lv_iload_n hx hb dX1_stepOf_9 rfl (lv_at hl 1 rfl) ?_
  refine lv_if_le (tgt := 27) hx hb dX1_stepOf_10 (by decide) (fun cn5 => ?_) (fun cn5 => ?_)
  · have hf := (if_pos cn5).symm.trans hf
    refine lv_iconst (v := 0) hx hb dX1_stepOf_27 (by decide) ?_
    refine lv_isub hx hb dX1_stepOf_28 ?_
    obtain rfl := Option.some.inj hf
    exact hQ _ _ _ _ dX1_stepOf_29 hw
  · have hf := (if_neg cn5).symm.trans hf
    refine lv_aload_n hx hb dX1_stepOf_13 rfl (lv_at hl 0 rfl) ?_
    refine x_g_hall_rows hc hw fl_1_23 dX1_stepOf_14 ?_
    refine lv_iload_n hx hb dX1_stepOf_17 rfl (lv_at hl 1 rfl) ?_
    refine lv_iconst (v := 1) hx hb dX1_stepOf_18 (by decide) ?_
    refine lv_isub hx hb dX1_stepOf_19 ?_
    obtain ⟨hi3, hf⟩ := gd_some hf
    obtain ⟨hr4, hf⟩ := gd_some hf
    refine x_l_rows hc hw (ok_in hi3) hr4 dX1_stepOf_20 ?_
    refine x_rg_rise hc hw hr4 fl_1_89 dX1_stepOf_21 ?_
    refine lv_goto (tgt := 28) hx hb dX1_stepOf_24 (by decide) ?_
    refine lv_isub hx hb dX1_stepOf_28 ?_
    obtain rfl := Option.some.inj hf
    exact hQ _ _ _ _ dX1_stepOf_29 hw
def xf_H_allShifts_L4 (N : Nat) : Nat → xS → Int32 → Int32 → Option (Int32)
  | 0, _, _, _ => none
  | n + 1, S3, v1, v2 => (if (S3.1 16 0) ≤ v2 then some v1 else (if ok v2 6 then (if v2.toNatClampNeg < S3.2.2.1 then xf_H_allShifts_L4 N n S3 (v1 ||| ((S3.1 58 v2.toNatClampNeg) <<< (v2 &&& 31))) (v2 + 1) else none) else none))
set_option maxRecDepth 100000 in
theorem wx_H_allShifts_L4 {p : Program} {l : Launch} {e : Env} {R : Room} {s : State} {m : MethodId} {args : Array Value} {below : List Frame} {meth : Method} {c : Code} {Q : State → Prop} {g : xG} {A : Nat → Prop} {H0 : Heap} (hc : qC RX1 cX1_allShifts p s m args c) (hR : qRoom R 2) (hml : c.maxLocals = 3) (N : Nat) : ∀ (n : Nat) (S3 : xS) (v1 : Int32) (v2 : Int32) (X : Int32) (H : Heap) (locs : List Loc) (ls : Array Slot), xf_H_allShifts_L4 N n S3 v1 v2 = some X → xI g A H0 s S3 H locs → lv_has ls 3 [(0, .ref (xr g 1)), (1, .int v1), (2, .int v2)] → (∀ (H : Heap) (locs : List Loc) (ls : Array Slot), xI g A H0 s S3 H locs → lv_has ls 3 [(1, .int X)] → W p l e R s m args below meth c H locs 0 0 Q (F0 m 32 ls [])) → W p l e R s m args below meth c H locs 0 0 Q (F0 m 4 ls []) := by
  have hx := hc.1
  have hb := hc.2.1
  intro n
  induction n with
  | zero => intro _ _ _ X H locs ls hf; exact nomatch (show none = some X from hf)
  | succ n ih =>
    intro S3 v1 v2 X H locs ls hf hw hl kx
    rw [xf_H_allShifts_L4] at hf
    refine lv_iload_n hx hb dX1_allShifts_4 rfl (lv_at hl 2 rfl) ?_
    refine lv_aload_n hx hb dX1_allShifts_5 rfl (lv_at hl 0 rfl) ?_
    refine x_g_hall_rowCount hc hw fl_1_42 dX1_allShifts_6 ?_
    refine lv_icmp_ge (tgt := 32) hx hb dX1_allShifts_9 (by decide) (fun cn7 => ?_) (fun cn7 => ?_)
    · have hf := (if_pos cn7).symm.trans hf
      obtain rfl := Option.some.inj hf
      exact kx _ _ _ hw (lv_sub hl [1] rfl)
    · have hf := (if_neg cn7).symm.trans hf
      refine lv_iload_n hx hb dX1_allShifts_12 rfl (lv_at hl 1 rfl) ?_
      refine lv_aload_n hx hb dX1_allShifts_13 rfl (lv_at hl 0 rfl) ?_
      refine x_g_hall_rows hc hw fl_1_23 dX1_allShifts_14 ?_
      refine lv_iload_n hx hb dX1_allShifts_17 rfl (lv_at hl 2 rfl) ?_
      obtain ⟨hi4, hf⟩ := gd_some hf
      obtain ⟨hr5, hf⟩ := gd_some hf
      refine x_l_rows hc hw (ok_in hi4) hr5 dX1_allShifts_18 ?_
      refine x_rg_shift hc hw hr5 fl_1_92 dX1_allShifts_19 ?_
      refine lv_iload_n hx hb dX1_allShifts_22 rfl (lv_at hl 2 rfl) ?_
      refine lv_ishl hx hb dX1_allShifts_23 ?_
      refine lv_ior hx hb dX1_allShifts_24 ?_
      refine lv_istore_n (lv' := [(1, .int (v1 ||| ((S3.1 58 v2.toNatClampNeg) <<< (v2 &&& 31)))), (0, .ref (xr g 1)), (2, .int v2)]) hx hb dX1_allShifts_25 rfl hl (by decide) rfl (fun ls hl => ?_)
      refine lv_iinc (lv' := [(2, .int (v2 + 1)), (1, .int (v1 ||| ((S3.1 58 v2.toNatClampNeg) <<< (v2 &&& 31)))), (0, .ref (xr g 1))]) hx hb dX1_allShifts_26 hl (k := 2) rfl rfl (by decide) rfl (fun ls hl => ?_)
      refine lv_goto (tgt := 4) hx hb dX1_allShifts_29 (by decide) ?_
      exact ih _ _ _ X _ _ _ hf hw (lv_sub hl [2, 1, 0] rfl) kx
def xf_H_allShifts (N : Nat) (S : xS) : Option (Int32) := (bd1 (xf_H_allShifts_L4 N N S 0 0) fun v6 => some v6)
set_option maxRecDepth 100000 in
theorem cx_H_allShifts (l : Launch) (N : Nat) (S : xS) (res : Int32) (hf : xf_H_allShifts N S = some res) : xMi l yX1_allShifts cX1_allShifts 3 .int 2 (fun g => [.ref (xr g 1)]) S res S := by
  refine xMi_of (own := RX1) (by decide) rfl rfl (fun g => Nat.le_of_ble_eq_true rfl) ?_
  intro p e R s m args below meth c Q g A H0 H locs ls hc hR hml hw hl hQ
  have hl : lv_has ls 3 [(0, .ref (xr g 1))] := hl
  have hx := hc.1
  have hb := hc.2.1
  unfold xf_H_allShifts at hf
  refine lv_iconst (v := 0) hx hb dX1_allShifts_0 (by decide) ?_
  refine lv_istore_n (lv' := [(1, .int 0), (0, .ref (xr g 1))]) hx hb dX1_allShifts_1 rfl hl (by decide) rfl (fun ls hl => ?_)
  refine lv_iconst (v := 0) hx hb dX1_allShifts_2 (by decide) ?_
  refine lv_istore_n (lv' := [(2, .int 0), (1, .int 0), (0, .ref (xr g 1))]) hx hb dX1_allShifts_3 rfl hl (by decide) rfl (fun ls hl => ?_)
  obtain ⟨v6, hL, hf⟩ := bd1_some hf
  refine wx_H_allShifts_L4 hc hR hml N N _ _ _ _ _ _ _ hL hw (lv_sub hl [2, 1, 0] rfl) (fun H locs ls hw hl => ?_)
  refine lv_iload_n hx hb dX1_allShifts_32 rfl (lv_at hl 0 rfl) ?_
  obtain rfl := Option.some.inj hf
  exact hQ _ _ _ _ dX1_allShifts_33 hw
def xf_H_shiftAll_L2 (N : Nat) (c1 : Int32) : Nat → xS → Int32 → Option (xS)
  | 0, _, _ => none
  | n + 1, S3, v2 => (if (S3.1 16 0) ≤ v2 then some S3 else (if ok v2 6 then (if v2.toNatClampNeg < S3.2.2.1 then xf_H_shiftAll_L2 N c1 n (xs S3 58 v2.toNatClampNeg ((c1 >>> (v2 &&& 31)) &&& 1)) (v2 + 1) else none) else none))
set_option maxRecDepth 100000 in
theorem wx_H_shiftAll_L2 {p : Program} {l : Launch} {e : Env} {R : Room} {s : State} {m : MethodId} {args : Array Value} {below : List Frame} {meth : Method} {c : Code} {Q : State → Prop} {g : xG} {A : Nat → Prop} {H0 : Heap} (hc : qC RX1 cX1_shiftAll p s m args c) (hR : qRoom R 2) (hml : c.maxLocals = 3) (N : Nat) (c1 : Int32) : ∀ (n : Nat) (S3 : xS) (v2 : Int32) (X : xS) (H : Heap) (locs : List Loc) (ls : Array Slot), xf_H_shiftAll_L2 N c1 n S3 v2 = some X → xI g A H0 s S3 H locs → lv_has ls 3 [(0, .ref (xr g 1)), (1, .int c1), (2, .int v2)] → (∀ (H : Heap) (locs : List Loc) (ls : Array Slot), xI g A H0 s X H locs → lv_has ls 3 [] → W p l e R s m args below meth c H locs 0 0 Q (F0 m 30 ls [])) → W p l e R s m args below meth c H locs 0 0 Q (F0 m 2 ls []) := by
  have hx := hc.1
  have hb := hc.2.1
  intro n
  induction n with
  | zero => intro _ _ X H locs ls hf; exact nomatch (show none = some X from hf)
  | succ n ih =>
    intro S3 v2 X H locs ls hf hw hl kx
    rw [xf_H_shiftAll_L2] at hf
    refine lv_iload_n hx hb dX1_shiftAll_2 rfl (lv_at hl 2 rfl) ?_
    refine lv_aload_n hx hb dX1_shiftAll_3 rfl (lv_at hl 0 rfl) ?_
    refine x_g_hall_rowCount hc hw fl_1_42 dX1_shiftAll_4 ?_
    refine lv_icmp_ge (tgt := 30) hx hb dX1_shiftAll_7 (by decide) (fun cn7 => ?_) (fun cn7 => ?_)
    · have hf := (if_pos cn7).symm.trans hf
      obtain rfl := Option.some.inj hf
      exact kx _ _ _ hw (lv_sub hl [] rfl)
    · have hf := (if_neg cn7).symm.trans hf
      refine lv_aload_n hx hb dX1_shiftAll_10 rfl (lv_at hl 0 rfl) ?_
      refine x_g_hall_rows hc hw fl_1_23 dX1_shiftAll_11 ?_
      refine lv_iload_n hx hb dX1_shiftAll_14 rfl (lv_at hl 2 rfl) ?_
      obtain ⟨hi4, hf⟩ := gd_some hf
      obtain ⟨hr5, hf⟩ := gd_some hf
      refine x_l_rows hc hw (ok_in hi4) hr5 dX1_shiftAll_15 ?_
      refine lv_iload_n hx hb dX1_shiftAll_16 rfl (lv_at hl 1 rfl) ?_
      refine lv_iload_n hx hb dX1_shiftAll_17 rfl (lv_at hl 2 rfl) ?_
      refine lv_ishr hx hb dX1_shiftAll_18 ?_
      refine lv_iconst (v := 1) hx hb dX1_shiftAll_19 (by decide) ?_
      refine lv_iand hx hb dX1_shiftAll_20 ?_
      refine x_rp_shift hc hw hr5 fl_1_92 dX1_shiftAll_21 (fun H locs hw => ?_)
      refine lv_iinc (lv' := [(2, .int (v2 + 1)), (0, .ref (xr g 1)), (1, .int c1)]) hx hb dX1_shiftAll_24 hl (k := 2) rfl rfl (by decide) rfl (fun ls hl => ?_)
      refine lv_goto (tgt := 2) hx hb dX1_shiftAll_27 (by decide) ?_
      exact ih _ _ X _ _ _ hf hw (lv_sub hl [1, 2, 0] rfl) kx
def xf_H_shiftAll (N : Nat) (S : xS) (a1 : Int32) : Option (xS) := (bd1 (xf_H_shiftAll_L2 N a1 N S 0) fun S6 => some S6)
set_option maxRecDepth 100000 in
theorem cx_H_shiftAll (l : Launch) (N : Nat) (S : xS) (a1 : Int32) (S1 : xS) (hf : xf_H_shiftAll N S a1 = some S1) : xMv l yX1_shiftAll cX1_shiftAll 3 2 (fun g => [.ref (xr g 1), .int a1]) S S1 := by
  refine xMv_of (own := RX1) (by decide) rfl (fun g => Nat.le_of_ble_eq_true rfl) ?_
  intro p e R s m args below meth c Q g A H0 H locs ls hc hR hml hw hl hQ
  have hl : lv_has ls 3 [(0, .ref (xr g 1)), (1, .int a1)] := hl
  have hx := hc.1
  have hb := hc.2.1
  unfold xf_H_shiftAll at hf
  refine lv_iconst (v := 0) hx hb dX1_shiftAll_0 (by decide) ?_
  refine lv_istore_n (lv' := [(2, .int 0), (0, .ref (xr g 1)), (1, .int a1)]) hx hb dX1_shiftAll_1 rfl hl (by decide) rfl (fun ls hl => ?_)
  obtain ⟨S6, hL, hf⟩ := bd1_some hf
  refine wx_H_shiftAll_L2 hc hR hml N a1 N _ _ _ _ _ _ hL hw (lv_sub hl [1, 2, 0] rfl) (fun H locs ls hw hl => ?_)
  obtain rfl := Option.some.inj hf
  exact hQ _ _ _ _ dX1_shiftAll_30 hw
def xf_H_allCounts_L4 (N : Nat) : Nat → xS → Int32 → Int32 → Option (Int32)
  | 0, _, _, _ => none
  | n + 1, S3, v1, v2 => (if 4 ≤ v2 then some v1 else (if ok v2 4 then xf_H_allCounts_L4 N n S3 (v1 + (S3.1 10 v2.toNatClampNeg)) (v2 + 1) else none))
set_option maxRecDepth 100000 in
theorem wx_H_allCounts_L4 {p : Program} {l : Launch} {e : Env} {R : Room} {s : State} {m : MethodId} {args : Array Value} {below : List Frame} {meth : Method} {c : Code} {Q : State → Prop} {g : xG} {A : Nat → Prop} {H0 : Heap} (hc : qC RX1 cX1_allCounts p s m args c) (hR : qRoom R 2) (hml : c.maxLocals = 3) (N : Nat) : ∀ (n : Nat) (S3 : xS) (v1 : Int32) (v2 : Int32) (X : Int32) (H : Heap) (locs : List Loc) (ls : Array Slot), xf_H_allCounts_L4 N n S3 v1 v2 = some X → xI g A H0 s S3 H locs → lv_has ls 3 [(0, .ref (xr g 1)), (1, .int v1), (2, .int v2)] → (∀ (H : Heap) (locs : List Loc) (ls : Array Slot), xI g A H0 s S3 H locs → lv_has ls 3 [(1, .int X)] → W p l e R s m args below meth c H locs 0 0 Q (F0 m 24 ls [])) → W p l e R s m args below meth c H locs 0 0 Q (F0 m 4 ls []) := by
  have hx := hc.1
  have hb := hc.2.1
  intro n
  induction n with
  | zero => intro _ _ _ X H locs ls hf; exact nomatch (show none = some X from hf)
  | succ n ih =>
    intro S3 v1 v2 X H locs ls hf hw hl kx
    rw [xf_H_allCounts_L4] at hf
    refine lv_iload_n hx hb dX1_allCounts_4 rfl (lv_at hl 2 rfl) ?_
    refine lv_iconst (v := 4) hx hb dX1_allCounts_5 (by decide) ?_
    refine lv_icmp_ge (tgt := 24) hx hb dX1_allCounts_6 (by decide) (fun cn6 => ?_) (fun cn6 => ?_)
    · have hf := (if_pos cn6).symm.trans hf
      obtain rfl := Option.some.inj hf
      exact kx _ _ _ hw (lv_sub hl [1] rfl)
    · have hf := (if_neg cn6).symm.trans hf
      refine lv_iload_n hx hb dX1_allCounts_9 rfl (lv_at hl 1 rfl) ?_
      refine lv_aload_n hx hb dX1_allCounts_10 rfl (lv_at hl 0 rfl) ?_
      refine x_g_hall_counts hc hw fl_1_18 dX1_allCounts_11 ?_
      refine lv_iload_n hx hb dX1_allCounts_14 rfl (lv_at hl 2 rfl) ?_
      obtain ⟨hi4, hf⟩ := gd_some hf
      refine x_l_hall_counts hc hw (ok_in hi4) dX1_allCounts_15 ?_
      refine lv_iadd hx hb dX1_allCounts_16 ?_
      refine lv_istore_n (lv' := [(1, .int (v1 + (S3.1 10 v2.toNatClampNeg))), (0, .ref (xr g 1)), (2, .int v2)]) hx hb dX1_allCounts_17 rfl hl (by decide) rfl (fun ls hl => ?_)
      refine lv_iinc (lv' := [(2, .int (v2 + 1)), (1, .int (v1 + (S3.1 10 v2.toNatClampNeg))), (0, .ref (xr g 1))]) hx hb dX1_allCounts_18 hl (k := 2) rfl rfl (by decide) rfl (fun ls hl => ?_)
      refine lv_goto (tgt := 4) hx hb dX1_allCounts_21 (by decide) ?_
      exact ih _ _ _ X _ _ _ hf hw (lv_sub hl [2, 1, 0] rfl) kx
def xf_H_allCounts (N : Nat) (S : xS) : Option (Int32) := (bd1 (xf_H_allCounts_L4 N N S 0 0) fun v5 => some v5)
set_option maxRecDepth 100000 in
theorem cx_H_allCounts (l : Launch) (N : Nat) (S : xS) (res : Int32) (hf : xf_H_allCounts N S = some res) : xMi l yX1_allCounts cX1_allCounts 3 .int 2 (fun g => [.ref (xr g 1)]) S res S := by
  refine xMi_of (own := RX1) (by decide) rfl rfl (fun g => Nat.le_of_ble_eq_true rfl) ?_
  intro p e R s m args below meth c Q g A H0 H locs ls hc hR hml hw hl hQ
  have hl : lv_has ls 3 [(0, .ref (xr g 1))] := hl
  have hx := hc.1
  have hb := hc.2.1
  unfold xf_H_allCounts at hf
  refine lv_iconst (v := 0) hx hb dX1_allCounts_0 (by decide) ?_
  refine lv_istore_n (lv' := [(1, .int 0), (0, .ref (xr g 1))]) hx hb dX1_allCounts_1 rfl hl (by decide) rfl (fun ls hl => ?_)
  refine lv_iconst (v := 0) hx hb dX1_allCounts_2 (by decide) ?_
  refine lv_istore_n (lv' := [(2, .int 0), (1, .int 0), (0, .ref (xr g 1))]) hx hb dX1_allCounts_3 rfl hl (by decide) rfl (fun ls hl => ?_)
  obtain ⟨v5, hL, hf⟩ := bd1_some hf
  refine wx_H_allCounts_L4 hc hR hml N N _ _ _ _ _ _ _ hL hw (lv_sub hl [2, 1, 0] rfl) (fun H locs ls hw hl => ?_)
  refine lv_iload_n hx hb dX1_allCounts_24 rfl (lv_at hl 0 rfl) ?_
  obtain rfl := Option.some.inj hf
  exact hQ _ _ _ _ dX1_allCounts_25 hw
def xf_H_sortOf (N : Nat) (S : xS) (a1 : Int32) (a2 : Int32) : Option (Int32) := (if (S.1 20 0) = (-1) then (if a1.toNatClampNeg < S.2.2.1 then (if ok a2 8 then some (S.1 (80 + 4 * a1.toNatClampNeg) a2.toNatClampNeg) else none) else none) else some (S.1 20 0))
set_option maxRecDepth 100000 in
theorem cx_H_sortOf (l : Launch) (N : Nat) (S : xS) (a1 : Int32) (a2 : Int32) (res : Int32) (hf : xf_H_sortOf N S a1 a2 = some res) : xMi l yX1_sortOf cX1_sortOf 3 .int 2 (fun g => [.ref (xr g 1), .ref (xr g (100 + 2 * a1.toNatClampNeg)), .int a2]) S res S := by
  refine xMi_of (own := RX1) (by decide) rfl rfl (fun g => Nat.le_of_ble_eq_true rfl) ?_
  intro p e R s m args below meth c Q g A H0 H locs ls hc hR hml hw hl hQ
  have hl : lv_has ls 3 [(0, .ref (xr g 1)), (1, .ref (xr g (100 + 2 * a1.toNatClampNeg))), (2, .int a2)] := hl
  have hx := hc.1
  have hb := hc.2.1
  unfold xf_H_sortOf at hf
  refine lv_aload_n hx hb dX1_sortOf_0 rfl (lv_at hl 0 rfl) ?_
  refine x_g_hall_sortOfAll hc hw fl_1_56 dX1_sortOf_1 ?_
  refine lv_iconst (v := (-1)) hx hb dX1_sortOf_4 (by decide) ?_
  refine lv_icmp_ne (tgt := 17) hx hb dX1_sortOf_5 (by decide) (fun cn3 => ?_) (fun cn3 => ?_)
  · have hf := (if_neg cn3).symm.trans hf
    refine lv_aload_n hx hb dX1_sortOf_17 rfl (lv_at hl 0 rfl) ?_
    refine x_g_hall_sortOfAll hc hw fl_1_56 dX1_sortOf_18 ?_
    obtain rfl := Option.some.inj hf
    exact hQ _ _ _ _ dX1_sortOf_21 hw
  · have hf := (if_pos cn3).symm.trans hf
    refine lv_aload_n hx hb dX1_sortOf_8 rfl (lv_at hl 1 rfl) ?_
    obtain ⟨hr1, hf⟩ := gd_some hf
    refine x_rg_sorts hc hw hr1 fl_1_95 dX1_sortOf_9 ?_
    refine lv_iload_n hx hb dX1_sortOf_12 rfl (lv_at hl 2 rfl) ?_
    obtain ⟨hi2, hf⟩ := gd_some hf
    refine x_l_sorts hc hw hr1 (ok_in hi2) dX1_sortOf_13 ?_
    refine lv_goto (tgt := 21) hx hb dX1_sortOf_14 (by decide) ?_
    obtain rfl := Option.some.inj hf
    exact hQ _ _ _ _ dX1_sortOf_21 hw
def xf_I_restore_L2 (N : Nat) : Nat → xS → Int32 → Option (xS)
  | 0, _, _ => none
  | n + 1, S2, v1 => (if (S2.1 28 0) ≤ v1 then some S2 else (if ok v1 6 then (if v1.toNatClampNeg < S2.2.2.1 then (if cpok (v1 * 8) 0 8 48 8 = true then xf_I_restore_L2 N n (xf (xs (xs S2 57 v1.toNatClampNeg (S2.1 30 v1.toNatClampNeg)) 58 v1.toNatClampNeg ((((xs S2 57 v1.toNatClampNeg (S2.1 30 v1.toNatClampNeg)).1 37 0) >>> (v1 &&& 31)) &&& 1)) (80 + 4 * v1.toNatClampNeg) (va_cpy ((xs (xs S2 57 v1.toNatClampNeg (S2.1 30 v1.toNatClampNeg)) 58 v1.toNatClampNeg ((((xs S2 57 v1.toNatClampNeg (S2.1 30 v1.toNatClampNeg)).1 37 0) >>> (v1 &&& 31)) &&& 1)).1 31) ((xs (xs S2 57 v1.toNatClampNeg (S2.1 30 v1.toNatClampNeg)) 58 v1.toNatClampNeg ((((xs S2 57 v1.toNatClampNeg (S2.1 30 v1.toNatClampNeg)).1 37 0) >>> (v1 &&& 31)) &&& 1)).1 (80 + 4 * v1.toNatClampNeg)) ((v1 * 8).toNatClampNeg) ((0 : Int32).toNatClampNeg) ((8 : Int32).toNatClampNeg))) (v1 + 1) else none) else none) else none))
set_option maxRecDepth 100000 in
theorem wx_I_restore_L2 {p : Program} {l : Launch} {e : Env} {R : Room} {s : State} {m : MethodId} {args : Array Value} {below : List Frame} {meth : Method} {c : Code} {Q : State → Prop} {g : xG} {A : Nat → Prop} {H0 : Heap} (hc : qC RX2 cX2_restore p s m args c) (hR : qRoom R 2) (hml : c.maxLocals = 3) (N : Nat) : ∀ (n : Nat) (S2 : xS) (v1 : Int32) (X : xS) (H : Heap) (locs : List Loc) (ls : Array Slot), xf_I_restore_L2 N n S2 v1 = some X → xI g A H0 s S2 H locs → lv_has ls 3 [(0, .ref (xr g 2)), (1, .ref (xr g 1)), (2, .int v1)] → (∀ (H : Heap) (locs : List Loc) (ls : Array Slot), xI g A H0 s X H locs → lv_has ls 3 [(0, .ref (xr g 2)), (1, .ref (xr g 1))] → W p l e R s m args below meth c H locs 0 0 Q (F0 m 71 ls [])) → W p l e R s m args below meth c H locs 0 0 Q (F0 m 2 ls []) := by
  have hx := hc.1
  have hb := hc.2.1
  intro n
  induction n with
  | zero => intro _ _ X H locs ls hf; exact nomatch (show none = some X from hf)
  | succ n ih =>
    intro S2 v1 X H locs ls hf hw hl kx
    rw [xf_I_restore_L2] at hf
    refine lv_iload_n hx hb dX2_restore_2 rfl (lv_at hl 2 rfl) ?_
    refine lv_aload_n hx hb dX2_restore_3 rfl (lv_at hl 0 rfl) ?_
    refine x_g_image_rowCount hc hw fl_2_19 dX2_restore_4 ?_
    refine lv_icmp_ge (tgt := 71) hx hb dX2_restore_7 (by decide) (fun cn12 => ?_) (fun cn12 => ?_)
    · have hf := (if_pos cn12).symm.trans hf
      obtain rfl := Option.some.inj hf
      exact kx _ _ _ hw (lv_sub hl [0, 1] rfl)
    · have hf := (if_neg cn12).symm.trans hf
      refine lv_aload_n hx hb dX2_restore_10 rfl (lv_at hl 1 rfl) ?_
      refine x_g_hall_rows hc hw fl_2_58 dX2_restore_11 ?_
      refine lv_iload_n hx hb dX2_restore_14 rfl (lv_at hl 2 rfl) ?_
      obtain ⟨hi3, hf⟩ := gd_some hf
      obtain ⟨hr4, hf⟩ := gd_some hf
      refine x_l_rows hc hw (ok_in hi3) hr4 dX2_restore_15 ?_
      refine lv_aload_n hx hb dX2_restore_16 rfl (lv_at hl 0 rfl) ?_
      refine x_g_image_rises hc hw fl_2_25 dX2_restore_17 ?_
      refine lv_iload_n hx hb dX2_restore_20 rfl (lv_at hl 2 rfl) ?_
      refine x_l_image_rises hc hw (ok_in hi3) dX2_restore_21 ?_
      refine x_rp_rise hc hw hr4 fl_2_62 dX2_restore_22 (fun H locs hw => ?_)
      refine lv_aload_n hx hb dX2_restore_25 rfl (lv_at hl 1 rfl) ?_
      refine x_g_hall_rows hc hw fl_2_58 dX2_restore_26 ?_
      refine lv_iload_n hx hb dX2_restore_29 rfl (lv_at hl 2 rfl) ?_
      refine x_l_rows hc hw (ok_in hi3) hr4 dX2_restore_30 ?_
      refine lv_aload_n hx hb dX2_restore_31 rfl (lv_at hl 0 rfl) ?_
      refine x_g_image_shifts hc hw fl_2_47 dX2_restore_32 ?_
      refine lv_iload_n hx hb dX2_restore_35 rfl (lv_at hl 2 rfl) ?_
      refine lv_ishr hx hb dX2_restore_36 ?_
      refine lv_iconst (v := 1) hx hb dX2_restore_37 (by decide) ?_
      refine lv_iand hx hb dX2_restore_38 ?_
      refine x_rp_shift hc hw hr4 fl_2_79 dX2_restore_39 (fun H locs hw => ?_)
      refine lv_aload_n hx hb dX2_restore_42 rfl (lv_at hl 0 rfl) ?_
      refine x_g_image_sorts hc hw fl_2_29 dX2_restore_43 ?_
      refine lv_iload_n hx hb dX2_restore_46 rfl (lv_at hl 2 rfl) ?_
      refine lv_bipush (v := 8) hx hb dX2_restore_47 (by decide) ?_
      refine lv_imul hx hb dX2_restore_49 ?_
      refine lv_aload_n hx hb dX2_restore_50 rfl (lv_at hl 1 rfl) ?_
      refine x_g_hall_rows hc hw fl_2_58 dX2_restore_51 ?_
      refine lv_iload_n hx hb dX2_restore_54 rfl (lv_at hl 2 rfl) ?_
      refine x_l_rows hc hw (ok_in hi3) hr4 dX2_restore_55 ?_
      refine x_rg_sorts hc hw hr4 fl_2_67 dX2_restore_56 ?_
      refine lv_iconst (v := 0) hx hb dX2_restore_59 (by decide) ?_
      refine lv_bipush (v := 8) hx hb dX2_restore_60 (by decide) ?_
      obtain ⟨hk5, hf⟩ := gd_some hf
      refine x_copy (S1 := xf (xs (xs S2 57 v1.toNatClampNeg (S2.1 30 v1.toNatClampNeg)) 58 v1.toNatClampNeg ((((xs S2 57 v1.toNatClampNeg (S2.1 30 v1.toNatClampNeg)).1 37 0) >>> (v1 &&& 31)) &&& 1)) (80 + 4 * v1.toNatClampNeg) (va_cpy ((xs (xs S2 57 v1.toNatClampNeg (S2.1 30 v1.toNatClampNeg)) 58 v1.toNatClampNeg ((((xs S2 57 v1.toNatClampNeg (S2.1 30 v1.toNatClampNeg)).1 37 0) >>> (v1 &&& 31)) &&& 1)).1 31) ((xs (xs S2 57 v1.toNatClampNeg (S2.1 30 v1.toNatClampNeg)) 58 v1.toNatClampNeg ((((xs S2 57 v1.toNatClampNeg (S2.1 30 v1.toNatClampNeg)).1 37 0) >>> (v1 &&& 31)) &&& 1)).1 (80 + 4 * v1.toNatClampNeg)) ((v1 * 8).toNatClampNeg) ((0 : Int32).toNatClampNeg) ((8 : Int32).toNatClampNeg))) hc hw hR (by decide) (hml.trans hl.1.symm) (mem_g 1088 (by decide +kernel) rfl) (mem_g 463 (by decide +kernel) rfl) (mem_g 462 (by decide +kernel) rfl) (mem_g 88 (by decide +kernel) rfl) (Nat.le_of_ble_eq_true rfl) ((xW_A (k := 26) (by decide)).trans rfl) (xW_sorts hr4) (xW_putf_sorts hr4) hk5 dX2_restore_62 (fun H locs hw => ?_)
      refine lv_iinc (lv' := [(2, .int (v1 + 1)), (0, .ref (xr g 2)), (1, .ref (xr g 1))]) hx hb dX2_restore_65 hl (k := 2) rfl rfl (by decide) rfl (fun ls hl => ?_)
      refine lv_goto (tgt := 2) hx hb dX2_restore_68 (by decide) ?_
      exact ih _ _ X _ _ _ hf hw (lv_sub hl [1, 2, 0] rfl) kx
def xf_I_restore (N : Nat) (S : xS) : Option (xS) := (bd1 (xf_I_restore_L2 N N S 0) fun S6 => (if cpok 0 0 4 4 4 = true then (if cpok 0 0 4 4 4 = true then (if cpok 0 0 4 4 4 = true then (if cpok 0 0 ((xf (xf (xf S6 8 (va_cpy (S6.1 32) (S6.1 8) ((0 : Int32).toNatClampNeg) ((0 : Int32).toNatClampNeg) ((4 : Int32).toNatClampNeg))) 9 (va_cpy ((xf S6 8 (va_cpy (S6.1 32) (S6.1 8) ((0 : Int32).toNatClampNeg) ((0 : Int32).toNatClampNeg) ((4 : Int32).toNatClampNeg))).1 33) ((xf S6 8 (va_cpy (S6.1 32) (S6.1 8) ((0 : Int32).toNatClampNeg) ((0 : Int32).toNatClampNeg) ((4 : Int32).toNatClampNeg))).1 9) ((0 : Int32).toNatClampNeg) ((0 : Int32).toNatClampNeg) ((4 : Int32).toNatClampNeg))) 10 (va_cpy ((xf (xf S6 8 (va_cpy (S6.1 32) (S6.1 8) ((0 : Int32).toNatClampNeg) ((0 : Int32).toNatClampNeg) ((4 : Int32).toNatClampNeg))) 9 (va_cpy ((xf S6 8 (va_cpy (S6.1 32) (S6.1 8) ((0 : Int32).toNatClampNeg) ((0 : Int32).toNatClampNeg) ((4 : Int32).toNatClampNeg))).1 33) ((xf S6 8 (va_cpy (S6.1 32) (S6.1 8) ((0 : Int32).toNatClampNeg) ((0 : Int32).toNatClampNeg) ((4 : Int32).toNatClampNeg))).1 9) ((0 : Int32).toNatClampNeg) ((0 : Int32).toNatClampNeg) ((4 : Int32).toNatClampNeg))).1 34) ((xf (xf S6 8 (va_cpy (S6.1 32) (S6.1 8) ((0 : Int32).toNatClampNeg) ((0 : Int32).toNatClampNeg) ((4 : Int32).toNatClampNeg))) 9 (va_cpy ((xf S6 8 (va_cpy (S6.1 32) (S6.1 8) ((0 : Int32).toNatClampNeg) ((0 : Int32).toNatClampNeg) ((4 : Int32).toNatClampNeg))).1 33) ((xf S6 8 (va_cpy (S6.1 32) (S6.1 8) ((0 : Int32).toNatClampNeg) ((0 : Int32).toNatClampNeg) ((4 : Int32).toNatClampNeg))).1 9) ((0 : Int32).toNatClampNeg) ((0 : Int32).toNatClampNeg) ((4 : Int32).toNatClampNeg))).1 10) ((0 : Int32).toNatClampNeg) ((0 : Int32).toNatClampNeg) ((4 : Int32).toNatClampNeg))).1 29 0) 4 4 = true then (if cpok 0 0 ((xf (xf (xf (xf S6 8 (va_cpy (S6.1 32) (S6.1 8) ((0 : Int32).toNatClampNeg) ((0 : Int32).toNatClampNeg) ((4 : Int32).toNatClampNeg))) 9 (va_cpy ((xf S6 8 (va_cpy (S6.1 32) (S6.1 8) ((0 : Int32).toNatClampNeg) ((0 : Int32).toNatClampNeg) ((4 : Int32).toNatClampNeg))).1 33) ((xf S6 8 (va_cpy (S6.1 32) (S6.1 8) ((0 : Int32).toNatClampNeg) ((0 : Int32).toNatClampNeg) ((4 : Int32).toNatClampNeg))).1 9) ((0 : Int32).toNatClampNeg) ((0 : Int32).toNatClampNeg) ((4 : Int32).toNatClampNeg))) 10 (va_cpy ((xf (xf S6 8 (va_cpy (S6.1 32) (S6.1 8) ((0 : Int32).toNatClampNeg) ((0 : Int32).toNatClampNeg) ((4 : Int32).toNatClampNeg))) 9 (va_cpy ((xf S6 8 (va_cpy (S6.1 32) (S6.1 8) ((0 : Int32).toNatClampNeg) ((0 : Int32).toNatClampNeg) ((4 : Int32).toNatClampNeg))).1 33) ((xf S6 8 (va_cpy (S6.1 32) (S6.1 8) ((0 : Int32).toNatClampNeg) ((0 : Int32).toNatClampNeg) ((4 : Int32).toNatClampNeg))).1 9) ((0 : Int32).toNatClampNeg) ((0 : Int32).toNatClampNeg) ((4 : Int32).toNatClampNeg))).1 34) ((xf (xf S6 8 (va_cpy (S6.1 32) (S6.1 8) ((0 : Int32).toNatClampNeg) ((0 : Int32).toNatClampNeg) ((4 : Int32).toNatClampNeg))) 9 (va_cpy ((xf S6 8 (va_cpy (S6.1 32) (S6.1 8) ((0 : Int32).toNatClampNeg) ((0 : Int32).toNatClampNeg) ((4 : Int32).toNatClampNeg))).1 33) ((xf S6 8 (va_cpy (S6.1 32) (S6.1 8) ((0 : Int32).toNatClampNeg) ((0 : Int32).toNatClampNeg) ((4 : Int32).toNatClampNeg))).1 9) ((0 : Int32).toNatClampNeg) ((0 : Int32).toNatClampNeg) ((4 : Int32).toNatClampNeg))).1 10) ((0 : Int32).toNatClampNeg) ((0 : Int32).toNatClampNeg) ((4 : Int32).toNatClampNeg))) 14 (va_cpy ((xf (xf (xf S6 8 (va_cpy (S6.1 32) (S6.1 8) ((0 : Int32).toNatClampNeg) ((0 : Int32).toNatClampNeg) ((4 : Int32).toNatClampNeg))) 9 (va_cpy ((xf S6 8 (va_cpy (S6.1 32) (S6.1 8) ((0 : Int32).toNatClampNeg) ((0 : Int32).toNatClampNeg) ((4 : Int32).toNatClampNeg))).1 33) ((xf S6 8 (va_cpy (S6.1 32) (S6.1 8) ((0 : Int32).toNatClampNeg) ((0 : Int32).toNatClampNeg) ((4 : Int32).toNatClampNeg))).1 9) ((0 : Int32).toNatClampNeg) ((0 : Int32).toNatClampNeg) ((4 : Int32).toNatClampNeg))) 10 (va_cpy ((xf (xf S6 8 (va_cpy (S6.1 32) (S6.1 8) ((0 : Int32).toNatClampNeg) ((0 : Int32).toNatClampNeg) ((4 : Int32).toNatClampNeg))) 9 (va_cpy ((xf S6 8 (va_cpy (S6.1 32) (S6.1 8) ((0 : Int32).toNatClampNeg) ((0 : Int32).toNatClampNeg) ((4 : Int32).toNatClampNeg))).1 33) ((xf S6 8 (va_cpy (S6.1 32) (S6.1 8) ((0 : Int32).toNatClampNeg) ((0 : Int32).toNatClampNeg) ((4 : Int32).toNatClampNeg))).1 9) ((0 : Int32).toNatClampNeg) ((0 : Int32).toNatClampNeg) ((4 : Int32).toNatClampNeg))).1 34) ((xf (xf S6 8 (va_cpy (S6.1 32) (S6.1 8) ((0 : Int32).toNatClampNeg) ((0 : Int32).toNatClampNeg) ((4 : Int32).toNatClampNeg))) 9 (va_cpy ((xf S6 8 (va_cpy (S6.1 32) (S6.1 8) ((0 : Int32).toNatClampNeg) ((0 : Int32).toNatClampNeg) ((4 : Int32).toNatClampNeg))).1 33) ((xf S6 8 (va_cpy (S6.1 32) (S6.1 8) ((0 : Int32).toNatClampNeg) ((0 : Int32).toNatClampNeg) ((4 : Int32).toNatClampNeg))).1 9) ((0 : Int32).toNatClampNeg) ((0 : Int32).toNatClampNeg) ((4 : Int32).toNatClampNeg))).1 10) ((0 : Int32).toNatClampNeg) ((0 : Int32).toNatClampNeg) ((4 : Int32).toNatClampNeg))).1 35) ((xf (xf (xf S6 8 (va_cpy (S6.1 32) (S6.1 8) ((0 : Int32).toNatClampNeg) ((0 : Int32).toNatClampNeg) ((4 : Int32).toNatClampNeg))) 9 (va_cpy ((xf S6 8 (va_cpy (S6.1 32) (S6.1 8) ((0 : Int32).toNatClampNeg) ((0 : Int32).toNatClampNeg) ((4 : Int32).toNatClampNeg))).1 33) ((xf S6 8 (va_cpy (S6.1 32) (S6.1 8) ((0 : Int32).toNatClampNeg) ((0 : Int32).toNatClampNeg) ((4 : Int32).toNatClampNeg))).1 9) ((0 : Int32).toNatClampNeg) ((0 : Int32).toNatClampNeg) ((4 : Int32).toNatClampNeg))) 10 (va_cpy ((xf (xf S6 8 (va_cpy (S6.1 32) (S6.1 8) ((0 : Int32).toNatClampNeg) ((0 : Int32).toNatClampNeg) ((4 : Int32).toNatClampNeg))) 9 (va_cpy ((xf S6 8 (va_cpy (S6.1 32) (S6.1 8) ((0 : Int32).toNatClampNeg) ((0 : Int32).toNatClampNeg) ((4 : Int32).toNatClampNeg))).1 33) ((xf S6 8 (va_cpy (S6.1 32) (S6.1 8) ((0 : Int32).toNatClampNeg) ((0 : Int32).toNatClampNeg) ((4 : Int32).toNatClampNeg))).1 9) ((0 : Int32).toNatClampNeg) ((0 : Int32).toNatClampNeg) ((4 : Int32).toNatClampNeg))).1 34) ((xf (xf S6 8 (va_cpy (S6.1 32) (S6.1 8) ((0 : Int32).toNatClampNeg) ((0 : Int32).toNatClampNeg) ((4 : Int32).toNatClampNeg))) 9 (va_cpy ((xf S6 8 (va_cpy (S6.1 32) (S6.1 8) ((0 : Int32).toNatClampNeg) ((0 : Int32).toNatClampNeg) ((4 : Int32).toNatClampNeg))).1 33) ((xf S6 8 (va_cpy (S6.1 32) (S6.1 8) ((0 : Int32).toNatClampNeg) ((0 : Int32).toNatClampNeg) ((4 : Int32).toNatClampNeg))).1 9) ((0 : Int32).toNatClampNeg) ((0 : Int32).toNatClampNeg) ((4 : Int32).toNatClampNeg))).1 10) ((0 : Int32).toNatClampNeg) ((0 : Int32).toNatClampNeg) ((4 : Int32).toNatClampNeg))).1 14) ((0 : Int32).toNatClampNeg) ((0 : Int32).toNatClampNeg) (((xf (xf (xf S6 8 (va_cpy (S6.1 32) (S6.1 8) ((0 : Int32).toNatClampNeg) ((0 : Int32).toNatClampNeg) ((4 : Int32).toNatClampNeg))) 9 (va_cpy ((xf S6 8 (va_cpy (S6.1 32) (S6.1 8) ((0 : Int32).toNatClampNeg) ((0 : Int32).toNatClampNeg) ((4 : Int32).toNatClampNeg))).1 33) ((xf S6 8 (va_cpy (S6.1 32) (S6.1 8) ((0 : Int32).toNatClampNeg) ((0 : Int32).toNatClampNeg) ((4 : Int32).toNatClampNeg))).1 9) ((0 : Int32).toNatClampNeg) ((0 : Int32).toNatClampNeg) ((4 : Int32).toNatClampNeg))) 10 (va_cpy ((xf (xf S6 8 (va_cpy (S6.1 32) (S6.1 8) ((0 : Int32).toNatClampNeg) ((0 : Int32).toNatClampNeg) ((4 : Int32).toNatClampNeg))) 9 (va_cpy ((xf S6 8 (va_cpy (S6.1 32) (S6.1 8) ((0 : Int32).toNatClampNeg) ((0 : Int32).toNatClampNeg) ((4 : Int32).toNatClampNeg))).1 33) ((xf S6 8 (va_cpy (S6.1 32) (S6.1 8) ((0 : Int32).toNatClampNeg) ((0 : Int32).toNatClampNeg) ((4 : Int32).toNatClampNeg))).1 9) ((0 : Int32).toNatClampNeg) ((0 : Int32).toNatClampNeg) ((4 : Int32).toNatClampNeg))).1 34) ((xf (xf S6 8 (va_cpy (S6.1 32) (S6.1 8) ((0 : Int32).toNatClampNeg) ((0 : Int32).toNatClampNeg) ((4 : Int32).toNatClampNeg))) 9 (va_cpy ((xf S6 8 (va_cpy (S6.1 32) (S6.1 8) ((0 : Int32).toNatClampNeg) ((0 : Int32).toNatClampNeg) ((4 : Int32).toNatClampNeg))).1 33) ((xf S6 8 (va_cpy (S6.1 32) (S6.1 8) ((0 : Int32).toNatClampNeg) ((0 : Int32).toNatClampNeg) ((4 : Int32).toNatClampNeg))).1 9) ((0 : Int32).toNatClampNeg) ((0 : Int32).toNatClampNeg) ((4 : Int32).toNatClampNeg))).1 10) ((0 : Int32).toNatClampNeg) ((0 : Int32).toNatClampNeg) ((4 : Int32).toNatClampNeg))).1 29 0).toNatClampNeg))).1 29 0) 4 4 = true then some (xf (xf (xf (xf (xf S6 8 (va_cpy (S6.1 32) (S6.1 8) ((0 : Int32).toNatClampNeg) ((0 : Int32).toNatClampNeg) ((4 : Int32).toNatClampNeg))) 9 (va_cpy ((xf S6 8 (va_cpy (S6.1 32) (S6.1 8) ((0 : Int32).toNatClampNeg) ((0 : Int32).toNatClampNeg) ((4 : Int32).toNatClampNeg))).1 33) ((xf S6 8 (va_cpy (S6.1 32) (S6.1 8) ((0 : Int32).toNatClampNeg) ((0 : Int32).toNatClampNeg) ((4 : Int32).toNatClampNeg))).1 9) ((0 : Int32).toNatClampNeg) ((0 : Int32).toNatClampNeg) ((4 : Int32).toNatClampNeg))) 10 (va_cpy ((xf (xf S6 8 (va_cpy (S6.1 32) (S6.1 8) ((0 : Int32).toNatClampNeg) ((0 : Int32).toNatClampNeg) ((4 : Int32).toNatClampNeg))) 9 (va_cpy ((xf S6 8 (va_cpy (S6.1 32) (S6.1 8) ((0 : Int32).toNatClampNeg) ((0 : Int32).toNatClampNeg) ((4 : Int32).toNatClampNeg))).1 33) ((xf S6 8 (va_cpy (S6.1 32) (S6.1 8) ((0 : Int32).toNatClampNeg) ((0 : Int32).toNatClampNeg) ((4 : Int32).toNatClampNeg))).1 9) ((0 : Int32).toNatClampNeg) ((0 : Int32).toNatClampNeg) ((4 : Int32).toNatClampNeg))).1 34) ((xf (xf S6 8 (va_cpy (S6.1 32) (S6.1 8) ((0 : Int32).toNatClampNeg) ((0 : Int32).toNatClampNeg) ((4 : Int32).toNatClampNeg))) 9 (va_cpy ((xf S6 8 (va_cpy (S6.1 32) (S6.1 8) ((0 : Int32).toNatClampNeg) ((0 : Int32).toNatClampNeg) ((4 : Int32).toNatClampNeg))).1 33) ((xf S6 8 (va_cpy (S6.1 32) (S6.1 8) ((0 : Int32).toNatClampNeg) ((0 : Int32).toNatClampNeg) ((4 : Int32).toNatClampNeg))).1 9) ((0 : Int32).toNatClampNeg) ((0 : Int32).toNatClampNeg) ((4 : Int32).toNatClampNeg))).1 10) ((0 : Int32).toNatClampNeg) ((0 : Int32).toNatClampNeg) ((4 : Int32).toNatClampNeg))) 14 (va_cpy ((xf (xf (xf S6 8 (va_cpy (S6.1 32) (S6.1 8) ((0 : Int32).toNatClampNeg) ((0 : Int32).toNatClampNeg) ((4 : Int32).toNatClampNeg))) 9 (va_cpy ((xf S6 8 (va_cpy (S6.1 32) (S6.1 8) ((0 : Int32).toNatClampNeg) ((0 : Int32).toNatClampNeg) ((4 : Int32).toNatClampNeg))).1 33) ((xf S6 8 (va_cpy (S6.1 32) (S6.1 8) ((0 : Int32).toNatClampNeg) ((0 : Int32).toNatClampNeg) ((4 : Int32).toNatClampNeg))).1 9) ((0 : Int32).toNatClampNeg) ((0 : Int32).toNatClampNeg) ((4 : Int32).toNatClampNeg))) 10 (va_cpy ((xf (xf S6 8 (va_cpy (S6.1 32) (S6.1 8) ((0 : Int32).toNatClampNeg) ((0 : Int32).toNatClampNeg) ((4 : Int32).toNatClampNeg))) 9 (va_cpy ((xf S6 8 (va_cpy (S6.1 32) (S6.1 8) ((0 : Int32).toNatClampNeg) ((0 : Int32).toNatClampNeg) ((4 : Int32).toNatClampNeg))).1 33) ((xf S6 8 (va_cpy (S6.1 32) (S6.1 8) ((0 : Int32).toNatClampNeg) ((0 : Int32).toNatClampNeg) ((4 : Int32).toNatClampNeg))).1 9) ((0 : Int32).toNatClampNeg) ((0 : Int32).toNatClampNeg) ((4 : Int32).toNatClampNeg))).1 34) ((xf (xf S6 8 (va_cpy (S6.1 32) (S6.1 8) ((0 : Int32).toNatClampNeg) ((0 : Int32).toNatClampNeg) ((4 : Int32).toNatClampNeg))) 9 (va_cpy ((xf S6 8 (va_cpy (S6.1 32) (S6.1 8) ((0 : Int32).toNatClampNeg) ((0 : Int32).toNatClampNeg) ((4 : Int32).toNatClampNeg))).1 33) ((xf S6 8 (va_cpy (S6.1 32) (S6.1 8) ((0 : Int32).toNatClampNeg) ((0 : Int32).toNatClampNeg) ((4 : Int32).toNatClampNeg))).1 9) ((0 : Int32).toNatClampNeg) ((0 : Int32).toNatClampNeg) ((4 : Int32).toNatClampNeg))).1 10) ((0 : Int32).toNatClampNeg) ((0 : Int32).toNatClampNeg) ((4 : Int32).toNatClampNeg))).1 35) ((xf (xf (xf S6 8 (va_cpy (S6.1 32) (S6.1 8) ((0 : Int32).toNatClampNeg) ((0 : Int32).toNatClampNeg) ((4 : Int32).toNatClampNeg))) 9 (va_cpy ((xf S6 8 (va_cpy (S6.1 32) (S6.1 8) ((0 : Int32).toNatClampNeg) ((0 : Int32).toNatClampNeg) ((4 : Int32).toNatClampNeg))).1 33) ((xf S6 8 (va_cpy (S6.1 32) (S6.1 8) ((0 : Int32).toNatClampNeg) ((0 : Int32).toNatClampNeg) ((4 : Int32).toNatClampNeg))).1 9) ((0 : Int32).toNatClampNeg) ((0 : Int32).toNatClampNeg) ((4 : Int32).toNatClampNeg))) 10 (va_cpy ((xf (xf S6 8 (va_cpy (S6.1 32) (S6.1 8) ((0 : Int32).toNatClampNeg) ((0 : Int32).toNatClampNeg) ((4 : Int32).toNatClampNeg))) 9 (va_cpy ((xf S6 8 (va_cpy (S6.1 32) (S6.1 8) ((0 : Int32).toNatClampNeg) ((0 : Int32).toNatClampNeg) ((4 : Int32).toNatClampNeg))).1 33) ((xf S6 8 (va_cpy (S6.1 32) (S6.1 8) ((0 : Int32).toNatClampNeg) ((0 : Int32).toNatClampNeg) ((4 : Int32).toNatClampNeg))).1 9) ((0 : Int32).toNatClampNeg) ((0 : Int32).toNatClampNeg) ((4 : Int32).toNatClampNeg))).1 34) ((xf (xf S6 8 (va_cpy (S6.1 32) (S6.1 8) ((0 : Int32).toNatClampNeg) ((0 : Int32).toNatClampNeg) ((4 : Int32).toNatClampNeg))) 9 (va_cpy ((xf S6 8 (va_cpy (S6.1 32) (S6.1 8) ((0 : Int32).toNatClampNeg) ((0 : Int32).toNatClampNeg) ((4 : Int32).toNatClampNeg))).1 33) ((xf S6 8 (va_cpy (S6.1 32) (S6.1 8) ((0 : Int32).toNatClampNeg) ((0 : Int32).toNatClampNeg) ((4 : Int32).toNatClampNeg))).1 9) ((0 : Int32).toNatClampNeg) ((0 : Int32).toNatClampNeg) ((4 : Int32).toNatClampNeg))).1 10) ((0 : Int32).toNatClampNeg) ((0 : Int32).toNatClampNeg) ((4 : Int32).toNatClampNeg))).1 14) ((0 : Int32).toNatClampNeg) ((0 : Int32).toNatClampNeg) (((xf (xf (xf S6 8 (va_cpy (S6.1 32) (S6.1 8) ((0 : Int32).toNatClampNeg) ((0 : Int32).toNatClampNeg) ((4 : Int32).toNatClampNeg))) 9 (va_cpy ((xf S6 8 (va_cpy (S6.1 32) (S6.1 8) ((0 : Int32).toNatClampNeg) ((0 : Int32).toNatClampNeg) ((4 : Int32).toNatClampNeg))).1 33) ((xf S6 8 (va_cpy (S6.1 32) (S6.1 8) ((0 : Int32).toNatClampNeg) ((0 : Int32).toNatClampNeg) ((4 : Int32).toNatClampNeg))).1 9) ((0 : Int32).toNatClampNeg) ((0 : Int32).toNatClampNeg) ((4 : Int32).toNatClampNeg))) 10 (va_cpy ((xf (xf S6 8 (va_cpy (S6.1 32) (S6.1 8) ((0 : Int32).toNatClampNeg) ((0 : Int32).toNatClampNeg) ((4 : Int32).toNatClampNeg))) 9 (va_cpy ((xf S6 8 (va_cpy (S6.1 32) (S6.1 8) ((0 : Int32).toNatClampNeg) ((0 : Int32).toNatClampNeg) ((4 : Int32).toNatClampNeg))).1 33) ((xf S6 8 (va_cpy (S6.1 32) (S6.1 8) ((0 : Int32).toNatClampNeg) ((0 : Int32).toNatClampNeg) ((4 : Int32).toNatClampNeg))).1 9) ((0 : Int32).toNatClampNeg) ((0 : Int32).toNatClampNeg) ((4 : Int32).toNatClampNeg))).1 34) ((xf (xf S6 8 (va_cpy (S6.1 32) (S6.1 8) ((0 : Int32).toNatClampNeg) ((0 : Int32).toNatClampNeg) ((4 : Int32).toNatClampNeg))) 9 (va_cpy ((xf S6 8 (va_cpy (S6.1 32) (S6.1 8) ((0 : Int32).toNatClampNeg) ((0 : Int32).toNatClampNeg) ((4 : Int32).toNatClampNeg))).1 33) ((xf S6 8 (va_cpy (S6.1 32) (S6.1 8) ((0 : Int32).toNatClampNeg) ((0 : Int32).toNatClampNeg) ((4 : Int32).toNatClampNeg))).1 9) ((0 : Int32).toNatClampNeg) ((0 : Int32).toNatClampNeg) ((4 : Int32).toNatClampNeg))).1 10) ((0 : Int32).toNatClampNeg) ((0 : Int32).toNatClampNeg) ((4 : Int32).toNatClampNeg))).1 29 0).toNatClampNeg))) 15 (va_cpy ((xf (xf (xf (xf S6 8 (va_cpy (S6.1 32) (S6.1 8) ((0 : Int32).toNatClampNeg) ((0 : Int32).toNatClampNeg) ((4 : Int32).toNatClampNeg))) 9 (va_cpy ((xf S6 8 (va_cpy (S6.1 32) (S6.1 8) ((0 : Int32).toNatClampNeg) ((0 : Int32).toNatClampNeg) ((4 : Int32).toNatClampNeg))).1 33) ((xf S6 8 (va_cpy (S6.1 32) (S6.1 8) ((0 : Int32).toNatClampNeg) ((0 : Int32).toNatClampNeg) ((4 : Int32).toNatClampNeg))).1 9) ((0 : Int32).toNatClampNeg) ((0 : Int32).toNatClampNeg) ((4 : Int32).toNatClampNeg))) 10 (va_cpy ((xf (xf S6 8 (va_cpy (S6.1 32) (S6.1 8) ((0 : Int32).toNatClampNeg) ((0 : Int32).toNatClampNeg) ((4 : Int32).toNatClampNeg))) 9 (va_cpy ((xf S6 8 (va_cpy (S6.1 32) (S6.1 8) ((0 : Int32).toNatClampNeg) ((0 : Int32).toNatClampNeg) ((4 : Int32).toNatClampNeg))).1 33) ((xf S6 8 (va_cpy (S6.1 32) (S6.1 8) ((0 : Int32).toNatClampNeg) ((0 : Int32).toNatClampNeg) ((4 : Int32).toNatClampNeg))).1 9) ((0 : Int32).toNatClampNeg) ((0 : Int32).toNatClampNeg) ((4 : Int32).toNatClampNeg))).1 34) ((xf (xf S6 8 (va_cpy (S6.1 32) (S6.1 8) ((0 : Int32).toNatClampNeg) ((0 : Int32).toNatClampNeg) ((4 : Int32).toNatClampNeg))) 9 (va_cpy ((xf S6 8 (va_cpy (S6.1 32) (S6.1 8) ((0 : Int32).toNatClampNeg) ((0 : Int32).toNatClampNeg) ((4 : Int32).toNatClampNeg))).1 33) ((xf S6 8 (va_cpy (S6.1 32) (S6.1 8) ((0 : Int32).toNatClampNeg) ((0 : Int32).toNatClampNeg) ((4 : Int32).toNatClampNeg))).1 9) ((0 : Int32).toNatClampNeg) ((0 : Int32).toNatClampNeg) ((4 : Int32).toNatClampNeg))).1 10) ((0 : Int32).toNatClampNeg) ((0 : Int32).toNatClampNeg) ((4 : Int32).toNatClampNeg))) 14 (va_cpy ((xf (xf (xf S6 8 (va_cpy (S6.1 32) (S6.1 8) ((0 : Int32).toNatClampNeg) ((0 : Int32).toNatClampNeg) ((4 : Int32).toNatClampNeg))) 9 (va_cpy ((xf S6 8 (va_cpy (S6.1 32) (S6.1 8) ((0 : Int32).toNatClampNeg) ((0 : Int32).toNatClampNeg) ((4 : Int32).toNatClampNeg))).1 33) ((xf S6 8 (va_cpy (S6.1 32) (S6.1 8) ((0 : Int32).toNatClampNeg) ((0 : Int32).toNatClampNeg) ((4 : Int32).toNatClampNeg))).1 9) ((0 : Int32).toNatClampNeg) ((0 : Int32).toNatClampNeg) ((4 : Int32).toNatClampNeg))) 10 (va_cpy ((xf (xf S6 8 (va_cpy (S6.1 32) (S6.1 8) ((0 : Int32).toNatClampNeg) ((0 : Int32).toNatClampNeg) ((4 : Int32).toNatClampNeg))) 9 (va_cpy ((xf S6 8 (va_cpy (S6.1 32) (S6.1 8) ((0 : Int32).toNatClampNeg) ((0 : Int32).toNatClampNeg) ((4 : Int32).toNatClampNeg))).1 33) ((xf S6 8 (va_cpy (S6.1 32) (S6.1 8) ((0 : Int32).toNatClampNeg) ((0 : Int32).toNatClampNeg) ((4 : Int32).toNatClampNeg))).1 9) ((0 : Int32).toNatClampNeg) ((0 : Int32).toNatClampNeg) ((4 : Int32).toNatClampNeg))).1 34) ((xf (xf S6 8 (va_cpy (S6.1 32) (S6.1 8) ((0 : Int32).toNatClampNeg) ((0 : Int32).toNatClampNeg) ((4 : Int32).toNatClampNeg))) 9 (va_cpy ((xf S6 8 (va_cpy (S6.1 32) (S6.1 8) ((0 : Int32).toNatClampNeg) ((0 : Int32).toNatClampNeg) ((4 : Int32).toNatClampNeg))).1 33) ((xf S6 8 (va_cpy (S6.1 32) (S6.1 8) ((0 : Int32).toNatClampNeg) ((0 : Int32).toNatClampNeg) ((4 : Int32).toNatClampNeg))).1 9) ((0 : Int32).toNatClampNeg) ((0 : Int32).toNatClampNeg) ((4 : Int32).toNatClampNeg))).1 10) ((0 : Int32).toNatClampNeg) ((0 : Int32).toNatClampNeg) ((4 : Int32).toNatClampNeg))).1 35) ((xf (xf (xf S6 8 (va_cpy (S6.1 32) (S6.1 8) ((0 : Int32).toNatClampNeg) ((0 : Int32).toNatClampNeg) ((4 : Int32).toNatClampNeg))) 9 (va_cpy ((xf S6 8 (va_cpy (S6.1 32) (S6.1 8) ((0 : Int32).toNatClampNeg) ((0 : Int32).toNatClampNeg) ((4 : Int32).toNatClampNeg))).1 33) ((xf S6 8 (va_cpy (S6.1 32) (S6.1 8) ((0 : Int32).toNatClampNeg) ((0 : Int32).toNatClampNeg) ((4 : Int32).toNatClampNeg))).1 9) ((0 : Int32).toNatClampNeg) ((0 : Int32).toNatClampNeg) ((4 : Int32).toNatClampNeg))) 10 (va_cpy ((xf (xf S6 8 (va_cpy (S6.1 32) (S6.1 8) ((0 : Int32).toNatClampNeg) ((0 : Int32).toNatClampNeg) ((4 : Int32).toNatClampNeg))) 9 (va_cpy ((xf S6 8 (va_cpy (S6.1 32) (S6.1 8) ((0 : Int32).toNatClampNeg) ((0 : Int32).toNatClampNeg) ((4 : Int32).toNatClampNeg))).1 33) ((xf S6 8 (va_cpy (S6.1 32) (S6.1 8) ((0 : Int32).toNatClampNeg) ((0 : Int32).toNatClampNeg) ((4 : Int32).toNatClampNeg))).1 9) ((0 : Int32).toNatClampNeg) ((0 : Int32).toNatClampNeg) ((4 : Int32).toNatClampNeg))).1 34) ((xf (xf S6 8 (va_cpy (S6.1 32) (S6.1 8) ((0 : Int32).toNatClampNeg) ((0 : Int32).toNatClampNeg) ((4 : Int32).toNatClampNeg))) 9 (va_cpy ((xf S6 8 (va_cpy (S6.1 32) (S6.1 8) ((0 : Int32).toNatClampNeg) ((0 : Int32).toNatClampNeg) ((4 : Int32).toNatClampNeg))).1 33) ((xf S6 8 (va_cpy (S6.1 32) (S6.1 8) ((0 : Int32).toNatClampNeg) ((0 : Int32).toNatClampNeg) ((4 : Int32).toNatClampNeg))).1 9) ((0 : Int32).toNatClampNeg) ((0 : Int32).toNatClampNeg) ((4 : Int32).toNatClampNeg))).1 10) ((0 : Int32).toNatClampNeg) ((0 : Int32).toNatClampNeg) ((4 : Int32).toNatClampNeg))).1 14) ((0 : Int32).toNatClampNeg) ((0 : Int32).toNatClampNeg) (((xf (xf (xf S6 8 (va_cpy (S6.1 32) (S6.1 8) ((0 : Int32).toNatClampNeg) ((0 : Int32).toNatClampNeg) ((4 : Int32).toNatClampNeg))) 9 (va_cpy ((xf S6 8 (va_cpy (S6.1 32) (S6.1 8) ((0 : Int32).toNatClampNeg) ((0 : Int32).toNatClampNeg) ((4 : Int32).toNatClampNeg))).1 33) ((xf S6 8 (va_cpy (S6.1 32) (S6.1 8) ((0 : Int32).toNatClampNeg) ((0 : Int32).toNatClampNeg) ((4 : Int32).toNatClampNeg))).1 9) ((0 : Int32).toNatClampNeg) ((0 : Int32).toNatClampNeg) ((4 : Int32).toNatClampNeg))) 10 (va_cpy ((xf (xf S6 8 (va_cpy (S6.1 32) (S6.1 8) ((0 : Int32).toNatClampNeg) ((0 : Int32).toNatClampNeg) ((4 : Int32).toNatClampNeg))) 9 (va_cpy ((xf S6 8 (va_cpy (S6.1 32) (S6.1 8) ((0 : Int32).toNatClampNeg) ((0 : Int32).toNatClampNeg) ((4 : Int32).toNatClampNeg))).1 33) ((xf S6 8 (va_cpy (S6.1 32) (S6.1 8) ((0 : Int32).toNatClampNeg) ((0 : Int32).toNatClampNeg) ((4 : Int32).toNatClampNeg))).1 9) ((0 : Int32).toNatClampNeg) ((0 : Int32).toNatClampNeg) ((4 : Int32).toNatClampNeg))).1 34) ((xf (xf S6 8 (va_cpy (S6.1 32) (S6.1 8) ((0 : Int32).toNatClampNeg) ((0 : Int32).toNatClampNeg) ((4 : Int32).toNatClampNeg))) 9 (va_cpy ((xf S6 8 (va_cpy (S6.1 32) (S6.1 8) ((0 : Int32).toNatClampNeg) ((0 : Int32).toNatClampNeg) ((4 : Int32).toNatClampNeg))).1 33) ((xf S6 8 (va_cpy (S6.1 32) (S6.1 8) ((0 : Int32).toNatClampNeg) ((0 : Int32).toNatClampNeg) ((4 : Int32).toNatClampNeg))).1 9) ((0 : Int32).toNatClampNeg) ((0 : Int32).toNatClampNeg) ((4 : Int32).toNatClampNeg))).1 10) ((0 : Int32).toNatClampNeg) ((0 : Int32).toNatClampNeg) ((4 : Int32).toNatClampNeg))).1 29 0).toNatClampNeg))).1 36) ((xf (xf (xf (xf S6 8 (va_cpy (S6.1 32) (S6.1 8) ((0 : Int32).toNatClampNeg) ((0 : Int32).toNatClampNeg) ((4 : Int32).toNatClampNeg))) 9 (va_cpy ((xf S6 8 (va_cpy (S6.1 32) (S6.1 8) ((0 : Int32).toNatClampNeg) ((0 : Int32).toNatClampNeg) ((4 : Int32).toNatClampNeg))).1 33) ((xf S6 8 (va_cpy (S6.1 32) (S6.1 8) ((0 : Int32).toNatClampNeg) ((0 : Int32).toNatClampNeg) ((4 : Int32).toNatClampNeg))).1 9) ((0 : Int32).toNatClampNeg) ((0 : Int32).toNatClampNeg) ((4 : Int32).toNatClampNeg))) 10 (va_cpy ((xf (xf S6 8 (va_cpy (S6.1 32) (S6.1 8) ((0 : Int32).toNatClampNeg) ((0 : Int32).toNatClampNeg) ((4 : Int32).toNatClampNeg))) 9 (va_cpy ((xf S6 8 (va_cpy (S6.1 32) (S6.1 8) ((0 : Int32).toNatClampNeg) ((0 : Int32).toNatClampNeg) ((4 : Int32).toNatClampNeg))).1 33) ((xf S6 8 (va_cpy (S6.1 32) (S6.1 8) ((0 : Int32).toNatClampNeg) ((0 : Int32).toNatClampNeg) ((4 : Int32).toNatClampNeg))).1 9) ((0 : Int32).toNatClampNeg) ((0 : Int32).toNatClampNeg) ((4 : Int32).toNatClampNeg))).1 34) ((xf (xf S6 8 (va_cpy (S6.1 32) (S6.1 8) ((0 : Int32).toNatClampNeg) ((0 : Int32).toNatClampNeg) ((4 : Int32).toNatClampNeg))) 9 (va_cpy ((xf S6 8 (va_cpy (S6.1 32) (S6.1 8) ((0 : Int32).toNatClampNeg) ((0 : Int32).toNatClampNeg) ((4 : Int32).toNatClampNeg))).1 33) ((xf S6 8 (va_cpy (S6.1 32) (S6.1 8) ((0 : Int32).toNatClampNeg) ((0 : Int32).toNatClampNeg) ((4 : Int32).toNatClampNeg))).1 9) ((0 : Int32).toNatClampNeg) ((0 : Int32).toNatClampNeg) ((4 : Int32).toNatClampNeg))).1 10) ((0 : Int32).toNatClampNeg) ((0 : Int32).toNatClampNeg) ((4 : Int32).toNatClampNeg))) 14 (va_cpy ((xf (xf (xf S6 8 (va_cpy (S6.1 32) (S6.1 8) ((0 : Int32).toNatClampNeg) ((0 : Int32).toNatClampNeg) ((4 : Int32).toNatClampNeg))) 9 (va_cpy ((xf S6 8 (va_cpy (S6.1 32) (S6.1 8) ((0 : Int32).toNatClampNeg) ((0 : Int32).toNatClampNeg) ((4 : Int32).toNatClampNeg))).1 33) ((xf S6 8 (va_cpy (S6.1 32) (S6.1 8) ((0 : Int32).toNatClampNeg) ((0 : Int32).toNatClampNeg) ((4 : Int32).toNatClampNeg))).1 9) ((0 : Int32).toNatClampNeg) ((0 : Int32).toNatClampNeg) ((4 : Int32).toNatClampNeg))) 10 (va_cpy ((xf (xf S6 8 (va_cpy (S6.1 32) (S6.1 8) ((0 : Int32).toNatClampNeg) ((0 : Int32).toNatClampNeg) ((4 : Int32).toNatClampNeg))) 9 (va_cpy ((xf S6 8 (va_cpy (S6.1 32) (S6.1 8) ((0 : Int32).toNatClampNeg) ((0 : Int32).toNatClampNeg) ((4 : Int32).toNatClampNeg))).1 33) ((xf S6 8 (va_cpy (S6.1 32) (S6.1 8) ((0 : Int32).toNatClampNeg) ((0 : Int32).toNatClampNeg) ((4 : Int32).toNatClampNeg))).1 9) ((0 : Int32).toNatClampNeg) ((0 : Int32).toNatClampNeg) ((4 : Int32).toNatClampNeg))).1 34) ((xf (xf S6 8 (va_cpy (S6.1 32) (S6.1 8) ((0 : Int32).toNatClampNeg) ((0 : Int32).toNatClampNeg) ((4 : Int32).toNatClampNeg))) 9 (va_cpy ((xf S6 8 (va_cpy (S6.1 32) (S6.1 8) ((0 : Int32).toNatClampNeg) ((0 : Int32).toNatClampNeg) ((4 : Int32).toNatClampNeg))).1 33) ((xf S6 8 (va_cpy (S6.1 32) (S6.1 8) ((0 : Int32).toNatClampNeg) ((0 : Int32).toNatClampNeg) ((4 : Int32).toNatClampNeg))).1 9) ((0 : Int32).toNatClampNeg) ((0 : Int32).toNatClampNeg) ((4 : Int32).toNatClampNeg))).1 10) ((0 : Int32).toNatClampNeg) ((0 : Int32).toNatClampNeg) ((4 : Int32).toNatClampNeg))).1 35) ((xf (xf (xf S6 8 (va_cpy (S6.1 32) (S6.1 8) ((0 : Int32).toNatClampNeg) ((0 : Int32).toNatClampNeg) ((4 : Int32).toNatClampNeg))) 9 (va_cpy ((xf S6 8 (va_cpy (S6.1 32) (S6.1 8) ((0 : Int32).toNatClampNeg) ((0 : Int32).toNatClampNeg) ((4 : Int32).toNatClampNeg))).1 33) ((xf S6 8 (va_cpy (S6.1 32) (S6.1 8) ((0 : Int32).toNatClampNeg) ((0 : Int32).toNatClampNeg) ((4 : Int32).toNatClampNeg))).1 9) ((0 : Int32).toNatClampNeg) ((0 : Int32).toNatClampNeg) ((4 : Int32).toNatClampNeg))) 10 (va_cpy ((xf (xf S6 8 (va_cpy (S6.1 32) (S6.1 8) ((0 : Int32).toNatClampNeg) ((0 : Int32).toNatClampNeg) ((4 : Int32).toNatClampNeg))) 9 (va_cpy ((xf S6 8 (va_cpy (S6.1 32) (S6.1 8) ((0 : Int32).toNatClampNeg) ((0 : Int32).toNatClampNeg) ((4 : Int32).toNatClampNeg))).1 33) ((xf S6 8 (va_cpy (S6.1 32) (S6.1 8) ((0 : Int32).toNatClampNeg) ((0 : Int32).toNatClampNeg) ((4 : Int32).toNatClampNeg))).1 9) ((0 : Int32).toNatClampNeg) ((0 : Int32).toNatClampNeg) ((4 : Int32).toNatClampNeg))).1 34) ((xf (xf S6 8 (va_cpy (S6.1 32) (S6.1 8) ((0 : Int32).toNatClampNeg) ((0 : Int32).toNatClampNeg) ((4 : Int32).toNatClampNeg))) 9 (va_cpy ((xf S6 8 (va_cpy (S6.1 32) (S6.1 8) ((0 : Int32).toNatClampNeg) ((0 : Int32).toNatClampNeg) ((4 : Int32).toNatClampNeg))).1 33) ((xf S6 8 (va_cpy (S6.1 32) (S6.1 8) ((0 : Int32).toNatClampNeg) ((0 : Int32).toNatClampNeg) ((4 : Int32).toNatClampNeg))).1 9) ((0 : Int32).toNatClampNeg) ((0 : Int32).toNatClampNeg) ((4 : Int32).toNatClampNeg))).1 10) ((0 : Int32).toNatClampNeg) ((0 : Int32).toNatClampNeg) ((4 : Int32).toNatClampNeg))).1 14) ((0 : Int32).toNatClampNeg) ((0 : Int32).toNatClampNeg) (((xf (xf (xf S6 8 (va_cpy (S6.1 32) (S6.1 8) ((0 : Int32).toNatClampNeg) ((0 : Int32).toNatClampNeg) ((4 : Int32).toNatClampNeg))) 9 (va_cpy ((xf S6 8 (va_cpy (S6.1 32) (S6.1 8) ((0 : Int32).toNatClampNeg) ((0 : Int32).toNatClampNeg) ((4 : Int32).toNatClampNeg))).1 33) ((xf S6 8 (va_cpy (S6.1 32) (S6.1 8) ((0 : Int32).toNatClampNeg) ((0 : Int32).toNatClampNeg) ((4 : Int32).toNatClampNeg))).1 9) ((0 : Int32).toNatClampNeg) ((0 : Int32).toNatClampNeg) ((4 : Int32).toNatClampNeg))) 10 (va_cpy ((xf (xf S6 8 (va_cpy (S6.1 32) (S6.1 8) ((0 : Int32).toNatClampNeg) ((0 : Int32).toNatClampNeg) ((4 : Int32).toNatClampNeg))) 9 (va_cpy ((xf S6 8 (va_cpy (S6.1 32) (S6.1 8) ((0 : Int32).toNatClampNeg) ((0 : Int32).toNatClampNeg) ((4 : Int32).toNatClampNeg))).1 33) ((xf S6 8 (va_cpy (S6.1 32) (S6.1 8) ((0 : Int32).toNatClampNeg) ((0 : Int32).toNatClampNeg) ((4 : Int32).toNatClampNeg))).1 9) ((0 : Int32).toNatClampNeg) ((0 : Int32).toNatClampNeg) ((4 : Int32).toNatClampNeg))).1 34) ((xf (xf S6 8 (va_cpy (S6.1 32) (S6.1 8) ((0 : Int32).toNatClampNeg) ((0 : Int32).toNatClampNeg) ((4 : Int32).toNatClampNeg))) 9 (va_cpy ((xf S6 8 (va_cpy (S6.1 32) (S6.1 8) ((0 : Int32).toNatClampNeg) ((0 : Int32).toNatClampNeg) ((4 : Int32).toNatClampNeg))).1 33) ((xf S6 8 (va_cpy (S6.1 32) (S6.1 8) ((0 : Int32).toNatClampNeg) ((0 : Int32).toNatClampNeg) ((4 : Int32).toNatClampNeg))).1 9) ((0 : Int32).toNatClampNeg) ((0 : Int32).toNatClampNeg) ((4 : Int32).toNatClampNeg))).1 10) ((0 : Int32).toNatClampNeg) ((0 : Int32).toNatClampNeg) ((4 : Int32).toNatClampNeg))).1 29 0).toNatClampNeg))).1 15) ((0 : Int32).toNatClampNeg) ((0 : Int32).toNatClampNeg) (((xf (xf (xf (xf S6 8 (va_cpy (S6.1 32) (S6.1 8) ((0 : Int32).toNatClampNeg) ((0 : Int32).toNatClampNeg) ((4 : Int32).toNatClampNeg))) 9 (va_cpy ((xf S6 8 (va_cpy (S6.1 32) (S6.1 8) ((0 : Int32).toNatClampNeg) ((0 : Int32).toNatClampNeg) ((4 : Int32).toNatClampNeg))).1 33) ((xf S6 8 (va_cpy (S6.1 32) (S6.1 8) ((0 : Int32).toNatClampNeg) ((0 : Int32).toNatClampNeg) ((4 : Int32).toNatClampNeg))).1 9) ((0 : Int32).toNatClampNeg) ((0 : Int32).toNatClampNeg) ((4 : Int32).toNatClampNeg))) 10 (va_cpy ((xf (xf S6 8 (va_cpy (S6.1 32) (S6.1 8) ((0 : Int32).toNatClampNeg) ((0 : Int32).toNatClampNeg) ((4 : Int32).toNatClampNeg))) 9 (va_cpy ((xf S6 8 (va_cpy (S6.1 32) (S6.1 8) ((0 : Int32).toNatClampNeg) ((0 : Int32).toNatClampNeg) ((4 : Int32).toNatClampNeg))).1 33) ((xf S6 8 (va_cpy (S6.1 32) (S6.1 8) ((0 : Int32).toNatClampNeg) ((0 : Int32).toNatClampNeg) ((4 : Int32).toNatClampNeg))).1 9) ((0 : Int32).toNatClampNeg) ((0 : Int32).toNatClampNeg) ((4 : Int32).toNatClampNeg))).1 34) ((xf (xf S6 8 (va_cpy (S6.1 32) (S6.1 8) ((0 : Int32).toNatClampNeg) ((0 : Int32).toNatClampNeg) ((4 : Int32).toNatClampNeg))) 9 (va_cpy ((xf S6 8 (va_cpy (S6.1 32) (S6.1 8) ((0 : Int32).toNatClampNeg) ((0 : Int32).toNatClampNeg) ((4 : Int32).toNatClampNeg))).1 33) ((xf S6 8 (va_cpy (S6.1 32) (S6.1 8) ((0 : Int32).toNatClampNeg) ((0 : Int32).toNatClampNeg) ((4 : Int32).toNatClampNeg))).1 9) ((0 : Int32).toNatClampNeg) ((0 : Int32).toNatClampNeg) ((4 : Int32).toNatClampNeg))).1 10) ((0 : Int32).toNatClampNeg) ((0 : Int32).toNatClampNeg) ((4 : Int32).toNatClampNeg))) 14 (va_cpy ((xf (xf (xf S6 8 (va_cpy (S6.1 32) (S6.1 8) ((0 : Int32).toNatClampNeg) ((0 : Int32).toNatClampNeg) ((4 : Int32).toNatClampNeg))) 9 (va_cpy ((xf S6 8 (va_cpy (S6.1 32) (S6.1 8) ((0 : Int32).toNatClampNeg) ((0 : Int32).toNatClampNeg) ((4 : Int32).toNatClampNeg))).1 33) ((xf S6 8 (va_cpy (S6.1 32) (S6.1 8) ((0 : Int32).toNatClampNeg) ((0 : Int32).toNatClampNeg) ((4 : Int32).toNatClampNeg))).1 9) ((0 : Int32).toNatClampNeg) ((0 : Int32).toNatClampNeg) ((4 : Int32).toNatClampNeg))) 10 (va_cpy ((xf (xf S6 8 (va_cpy (S6.1 32) (S6.1 8) ((0 : Int32).toNatClampNeg) ((0 : Int32).toNatClampNeg) ((4 : Int32).toNatClampNeg))) 9 (va_cpy ((xf S6 8 (va_cpy (S6.1 32) (S6.1 8) ((0 : Int32).toNatClampNeg) ((0 : Int32).toNatClampNeg) ((4 : Int32).toNatClampNeg))).1 33) ((xf S6 8 (va_cpy (S6.1 32) (S6.1 8) ((0 : Int32).toNatClampNeg) ((0 : Int32).toNatClampNeg) ((4 : Int32).toNatClampNeg))).1 9) ((0 : Int32).toNatClampNeg) ((0 : Int32).toNatClampNeg) ((4 : Int32).toNatClampNeg))).1 34) ((xf (xf S6 8 (va_cpy (S6.1 32) (S6.1 8) ((0 : Int32).toNatClampNeg) ((0 : Int32).toNatClampNeg) ((4 : Int32).toNatClampNeg))) 9 (va_cpy ((xf S6 8 (va_cpy (S6.1 32) (S6.1 8) ((0 : Int32).toNatClampNeg) ((0 : Int32).toNatClampNeg) ((4 : Int32).toNatClampNeg))).1 33) ((xf S6 8 (va_cpy (S6.1 32) (S6.1 8) ((0 : Int32).toNatClampNeg) ((0 : Int32).toNatClampNeg) ((4 : Int32).toNatClampNeg))).1 9) ((0 : Int32).toNatClampNeg) ((0 : Int32).toNatClampNeg) ((4 : Int32).toNatClampNeg))).1 10) ((0 : Int32).toNatClampNeg) ((0 : Int32).toNatClampNeg) ((4 : Int32).toNatClampNeg))).1 35) ((xf (xf (xf S6 8 (va_cpy (S6.1 32) (S6.1 8) ((0 : Int32).toNatClampNeg) ((0 : Int32).toNatClampNeg) ((4 : Int32).toNatClampNeg))) 9 (va_cpy ((xf S6 8 (va_cpy (S6.1 32) (S6.1 8) ((0 : Int32).toNatClampNeg) ((0 : Int32).toNatClampNeg) ((4 : Int32).toNatClampNeg))).1 33) ((xf S6 8 (va_cpy (S6.1 32) (S6.1 8) ((0 : Int32).toNatClampNeg) ((0 : Int32).toNatClampNeg) ((4 : Int32).toNatClampNeg))).1 9) ((0 : Int32).toNatClampNeg) ((0 : Int32).toNatClampNeg) ((4 : Int32).toNatClampNeg))) 10 (va_cpy ((xf (xf S6 8 (va_cpy (S6.1 32) (S6.1 8) ((0 : Int32).toNatClampNeg) ((0 : Int32).toNatClampNeg) ((4 : Int32).toNatClampNeg))) 9 (va_cpy ((xf S6 8 (va_cpy (S6.1 32) (S6.1 8) ((0 : Int32).toNatClampNeg) ((0 : Int32).toNatClampNeg) ((4 : Int32).toNatClampNeg))).1 33) ((xf S6 8 (va_cpy (S6.1 32) (S6.1 8) ((0 : Int32).toNatClampNeg) ((0 : Int32).toNatClampNeg) ((4 : Int32).toNatClampNeg))).1 9) ((0 : Int32).toNatClampNeg) ((0 : Int32).toNatClampNeg) ((4 : Int32).toNatClampNeg))).1 34) ((xf (xf S6 8 (va_cpy (S6.1 32) (S6.1 8) ((0 : Int32).toNatClampNeg) ((0 : Int32).toNatClampNeg) ((4 : Int32).toNatClampNeg))) 9 (va_cpy ((xf S6 8 (va_cpy (S6.1 32) (S6.1 8) ((0 : Int32).toNatClampNeg) ((0 : Int32).toNatClampNeg) ((4 : Int32).toNatClampNeg))).1 33) ((xf S6 8 (va_cpy (S6.1 32) (S6.1 8) ((0 : Int32).toNatClampNeg) ((0 : Int32).toNatClampNeg) ((4 : Int32).toNatClampNeg))).1 9) ((0 : Int32).toNatClampNeg) ((0 : Int32).toNatClampNeg) ((4 : Int32).toNatClampNeg))).1 10) ((0 : Int32).toNatClampNeg) ((0 : Int32).toNatClampNeg) ((4 : Int32).toNatClampNeg))).1 14) ((0 : Int32).toNatClampNeg) ((0 : Int32).toNatClampNeg) (((xf (xf (xf S6 8 (va_cpy (S6.1 32) (S6.1 8) ((0 : Int32).toNatClampNeg) ((0 : Int32).toNatClampNeg) ((4 : Int32).toNatClampNeg))) 9 (va_cpy ((xf S6 8 (va_cpy (S6.1 32) (S6.1 8) ((0 : Int32).toNatClampNeg) ((0 : Int32).toNatClampNeg) ((4 : Int32).toNatClampNeg))).1 33) ((xf S6 8 (va_cpy (S6.1 32) (S6.1 8) ((0 : Int32).toNatClampNeg) ((0 : Int32).toNatClampNeg) ((4 : Int32).toNatClampNeg))).1 9) ((0 : Int32).toNatClampNeg) ((0 : Int32).toNatClampNeg) ((4 : Int32).toNatClampNeg))) 10 (va_cpy ((xf (xf S6 8 (va_cpy (S6.1 32) (S6.1 8) ((0 : Int32).toNatClampNeg) ((0 : Int32).toNatClampNeg) ((4 : Int32).toNatClampNeg))) 9 (va_cpy ((xf S6 8 (va_cpy (S6.1 32) (S6.1 8) ((0 : Int32).toNatClampNeg) ((0 : Int32).toNatClampNeg) ((4 : Int32).toNatClampNeg))).1 33) ((xf S6 8 (va_cpy (S6.1 32) (S6.1 8) ((0 : Int32).toNatClampNeg) ((0 : Int32).toNatClampNeg) ((4 : Int32).toNatClampNeg))).1 9) ((0 : Int32).toNatClampNeg) ((0 : Int32).toNatClampNeg) ((4 : Int32).toNatClampNeg))).1 34) ((xf (xf S6 8 (va_cpy (S6.1 32) (S6.1 8) ((0 : Int32).toNatClampNeg) ((0 : Int32).toNatClampNeg) ((4 : Int32).toNatClampNeg))) 9 (va_cpy ((xf S6 8 (va_cpy (S6.1 32) (S6.1 8) ((0 : Int32).toNatClampNeg) ((0 : Int32).toNatClampNeg) ((4 : Int32).toNatClampNeg))).1 33) ((xf S6 8 (va_cpy (S6.1 32) (S6.1 8) ((0 : Int32).toNatClampNeg) ((0 : Int32).toNatClampNeg) ((4 : Int32).toNatClampNeg))).1 9) ((0 : Int32).toNatClampNeg) ((0 : Int32).toNatClampNeg) ((4 : Int32).toNatClampNeg))).1 10) ((0 : Int32).toNatClampNeg) ((0 : Int32).toNatClampNeg) ((4 : Int32).toNatClampNeg))).1 29 0).toNatClampNeg))).1 29 0).toNatClampNeg))) else none) else none) else none) else none) else none))
set_option maxHeartbeats 8000000 in
set_option maxRecDepth 100000 in
theorem cx_I_restore (l : Launch) (N : Nat) (S : xS) (S1 : xS) (hf : xf_I_restore N S = some S1) : xMv l yX2_restore cX2_restore 3 2 (fun g => [.ref (xr g 2), .ref (xr g 1)]) S S1 := by
  refine xMv_of (own := RX2) (by decide) rfl (fun g => Nat.le_of_ble_eq_true rfl) ?_
  intro p e R s m args below meth c Q g A H0 H locs ls hc hR hml hw hl hQ
  have hl : lv_has ls 3 [(0, .ref (xr g 2)), (1, .ref (xr g 1))] := hl
  have hx := hc.1
  have hb := hc.2.1
  unfold xf_I_restore at hf
  refine lv_iconst (v := 0) hx hb dX2_restore_0 (by decide) ?_
  refine lv_istore_n (lv' := [(2, .int 0), (0, .ref (xr g 2)), (1, .ref (xr g 1))]) hx hb dX2_restore_1 rfl hl (by decide) rfl (fun ls hl => ?_)
  obtain ⟨S6, hL, hf⟩ := bd1_some hf
  refine wx_I_restore_L2 hc hR hml N N _ _ _ _ _ _ hL hw (lv_sub hl [1, 2, 0] rfl) (fun H locs ls hw hl => ?_)
  refine lv_aload_n hx hb dX2_restore_71 rfl (lv_at hl 0 rfl) ?_
  refine x_g_image_eyes hc hw fl_2_32 dX2_restore_72 ?_
  refine lv_iconst (v := 0) hx hb dX2_restore_75 (by decide) ?_
  refine lv_aload_n hx hb dX2_restore_76 rfl (lv_at hl 1 rfl) ?_
  refine x_g_hall_eyes hc hw fl_2_74 dX2_restore_77 ?_
  refine lv_iconst (v := 0) hx hb dX2_restore_80 (by decide) ?_
  refine lv_iconst (v := 4) hx hb dX2_restore_81 (by decide) ?_
  obtain ⟨hk7, hf⟩ := gd_some hf
  refine x_copy (S1 := xf S6 8 (va_cpy (S6.1 32) (S6.1 8) ((0 : Int32).toNatClampNeg) ((0 : Int32).toNatClampNeg) ((4 : Int32).toNatClampNeg))) hc hw hR (by decide) (hml.trans hl.1.symm) (mem_g 1088 (by decide +kernel) rfl) (mem_g 463 (by decide +kernel) rfl) (mem_g 462 (by decide +kernel) rfl) (mem_g 88 (by decide +kernel) rfl) (Nat.le_of_ble_eq_true rfl) ((xW_A (k := 21) (by decide)).trans rfl) ((xW_A (k := 12) (by decide)).trans rfl) (xW_setA (k := 12) (by decide) rfl (xf_R (k := 8) (by decide)) (xf_T (k := 8) (by decide))) hk7 dX2_restore_82 (fun H locs hw => ?_)
  refine lv_aload_n hx hb dX2_restore_85 rfl (lv_at hl 0 rfl) ?_
  refine x_g_image_heads hc hw fl_2_35 dX2_restore_86 ?_
  refine lv_iconst (v := 0) hx hb dX2_restore_89 (by decide) ?_
  refine lv_aload_n hx hb dX2_restore_90 rfl (lv_at hl 1 rfl) ?_
  refine x_g_hall_heads hc hw fl_2_75 dX2_restore_91 ?_
  refine lv_iconst (v := 0) hx hb dX2_restore_94 (by decide) ?_
  refine lv_iconst (v := 4) hx hb dX2_restore_95 (by decide) ?_
  obtain ⟨hk8, hf⟩ := gd_some hf
  refine x_copy (S1 := xf (xf S6 8 (va_cpy (S6.1 32) (S6.1 8) ((0 : Int32).toNatClampNeg) ((0 : Int32).toNatClampNeg) ((4 : Int32).toNatClampNeg))) 9 (va_cpy ((xf S6 8 (va_cpy (S6.1 32) (S6.1 8) ((0 : Int32).toNatClampNeg) ((0 : Int32).toNatClampNeg) ((4 : Int32).toNatClampNeg))).1 33) ((xf S6 8 (va_cpy (S6.1 32) (S6.1 8) ((0 : Int32).toNatClampNeg) ((0 : Int32).toNatClampNeg) ((4 : Int32).toNatClampNeg))).1 9) ((0 : Int32).toNatClampNeg) ((0 : Int32).toNatClampNeg) ((4 : Int32).toNatClampNeg))) hc hw hR (by decide) (hml.trans hl.1.symm) (mem_g 1088 (by decide +kernel) rfl) (mem_g 463 (by decide +kernel) rfl) (mem_g 462 (by decide +kernel) rfl) (mem_g 88 (by decide +kernel) rfl) (Nat.le_of_ble_eq_true rfl) ((xW_A (k := 22) (by decide)).trans rfl) ((xW_A (k := 13) (by decide)).trans rfl) (xW_setA (k := 13) (by decide) rfl (xf_R (k := 9) (by decide)) (xf_T (k := 9) (by decide))) hk8 dX2_restore_96 (fun H locs hw => ?_)
  refine lv_aload_n hx hb dX2_restore_99 rfl (lv_at hl 0 rfl) ?_
  refine x_g_image_counts hc hw fl_2_38 dX2_restore_100 ?_
  refine lv_iconst (v := 0) hx hb dX2_restore_103 (by decide) ?_
  refine lv_aload_n hx hb dX2_restore_104 rfl (lv_at hl 1 rfl) ?_
  refine x_g_hall_counts hc hw fl_2_76 dX2_restore_105 ?_
  refine lv_iconst (v := 0) hx hb dX2_restore_108 (by decide) ?_
  refine lv_iconst (v := 4) hx hb dX2_restore_109 (by decide) ?_
  obtain ⟨hk9, hf⟩ := gd_some hf
  refine x_copy (S1 := xf (xf (xf S6 8 (va_cpy (S6.1 32) (S6.1 8) ((0 : Int32).toNatClampNeg) ((0 : Int32).toNatClampNeg) ((4 : Int32).toNatClampNeg))) 9 (va_cpy ((xf S6 8 (va_cpy (S6.1 32) (S6.1 8) ((0 : Int32).toNatClampNeg) ((0 : Int32).toNatClampNeg) ((4 : Int32).toNatClampNeg))).1 33) ((xf S6 8 (va_cpy (S6.1 32) (S6.1 8) ((0 : Int32).toNatClampNeg) ((0 : Int32).toNatClampNeg) ((4 : Int32).toNatClampNeg))).1 9) ((0 : Int32).toNatClampNeg) ((0 : Int32).toNatClampNeg) ((4 : Int32).toNatClampNeg))) 10 (va_cpy ((xf (xf S6 8 (va_cpy (S6.1 32) (S6.1 8) ((0 : Int32).toNatClampNeg) ((0 : Int32).toNatClampNeg) ((4 : Int32).toNatClampNeg))) 9 (va_cpy ((xf S6 8 (va_cpy (S6.1 32) (S6.1 8) ((0 : Int32).toNatClampNeg) ((0 : Int32).toNatClampNeg) ((4 : Int32).toNatClampNeg))).1 33) ((xf S6 8 (va_cpy (S6.1 32) (S6.1 8) ((0 : Int32).toNatClampNeg) ((0 : Int32).toNatClampNeg) ((4 : Int32).toNatClampNeg))).1 9) ((0 : Int32).toNatClampNeg) ((0 : Int32).toNatClampNeg) ((4 : Int32).toNatClampNeg))).1 34) ((xf (xf S6 8 (va_cpy (S6.1 32) (S6.1 8) ((0 : Int32).toNatClampNeg) ((0 : Int32).toNatClampNeg) ((4 : Int32).toNatClampNeg))) 9 (va_cpy ((xf S6 8 (va_cpy (S6.1 32) (S6.1 8) ((0 : Int32).toNatClampNeg) ((0 : Int32).toNatClampNeg) ((4 : Int32).toNatClampNeg))).1 33) ((xf S6 8 (va_cpy (S6.1 32) (S6.1 8) ((0 : Int32).toNatClampNeg) ((0 : Int32).toNatClampNeg) ((4 : Int32).toNatClampNeg))).1 9) ((0 : Int32).toNatClampNeg) ((0 : Int32).toNatClampNeg) ((4 : Int32).toNatClampNeg))).1 10) ((0 : Int32).toNatClampNeg) ((0 : Int32).toNatClampNeg) ((4 : Int32).toNatClampNeg))) hc hw hR (by decide) (hml.trans hl.1.symm) (mem_g 1088 (by decide +kernel) rfl) (mem_g 463 (by decide +kernel) rfl) (mem_g 462 (by decide +kernel) rfl) (mem_g 88 (by decide +kernel) rfl) (Nat.le_of_ble_eq_true rfl) ((xW_A (k := 20) (by decide)).trans rfl) ((xW_A (k := 11) (by decide)).trans rfl) (xW_setA (k := 11) (by decide) rfl (xf_R (k := 10) (by decide)) (xf_T (k := 10) (by decide))) hk9 dX2_restore_110 (fun H locs hw => ?_)
  refine lv_aload_n hx hb dX2_restore_113 rfl (lv_at hl 0 rfl) ?_
  refine x_g_image_postPlaces hc hw fl_2_41 dX2_restore_114 ?_
  refine lv_iconst (v := 0) hx hb dX2_restore_117 (by decide) ?_
  refine lv_aload_n hx hb dX2_restore_118 rfl (lv_at hl 1 rfl) ?_
  refine x_g_hall_postPlaces hc hw fl_2_77 dX2_restore_119 ?_
  refine lv_iconst (v := 0) hx hb dX2_restore_122 (by decide) ?_
  refine lv_aload_n hx hb dX2_restore_123 rfl (lv_at hl 0 rfl) ?_
  refine x_g_image_postCount hc hw fl_2_22 dX2_restore_124 ?_
  obtain ⟨hk10, hf⟩ := gd_some hf
  refine x_copy (S1 := xf (xf (xf (xf S6 8 (va_cpy (S6.1 32) (S6.1 8) ((0 : Int32).toNatClampNeg) ((0 : Int32).toNatClampNeg) ((4 : Int32).toNatClampNeg))) 9 (va_cpy ((xf S6 8 (va_cpy (S6.1 32) (S6.1 8) ((0 : Int32).toNatClampNeg) ((0 : Int32).toNatClampNeg) ((4 : Int32).toNatClampNeg))).1 33) ((xf S6 8 (va_cpy (S6.1 32) (S6.1 8) ((0 : Int32).toNatClampNeg) ((0 : Int32).toNatClampNeg) ((4 : Int32).toNatClampNeg))).1 9) ((0 : Int32).toNatClampNeg) ((0 : Int32).toNatClampNeg) ((4 : Int32).toNatClampNeg))) 10 (va_cpy ((xf (xf S6 8 (va_cpy (S6.1 32) (S6.1 8) ((0 : Int32).toNatClampNeg) ((0 : Int32).toNatClampNeg) ((4 : Int32).toNatClampNeg))) 9 (va_cpy ((xf S6 8 (va_cpy (S6.1 32) (S6.1 8) ((0 : Int32).toNatClampNeg) ((0 : Int32).toNatClampNeg) ((4 : Int32).toNatClampNeg))).1 33) ((xf S6 8 (va_cpy (S6.1 32) (S6.1 8) ((0 : Int32).toNatClampNeg) ((0 : Int32).toNatClampNeg) ((4 : Int32).toNatClampNeg))).1 9) ((0 : Int32).toNatClampNeg) ((0 : Int32).toNatClampNeg) ((4 : Int32).toNatClampNeg))).1 34) ((xf (xf S6 8 (va_cpy (S6.1 32) (S6.1 8) ((0 : Int32).toNatClampNeg) ((0 : Int32).toNatClampNeg) ((4 : Int32).toNatClampNeg))) 9 (va_cpy ((xf S6 8 (va_cpy (S6.1 32) (S6.1 8) ((0 : Int32).toNatClampNeg) ((0 : Int32).toNatClampNeg) ((4 : Int32).toNatClampNeg))).1 33) ((xf S6 8 (va_cpy (S6.1 32) (S6.1 8) ((0 : Int32).toNatClampNeg) ((0 : Int32).toNatClampNeg) ((4 : Int32).toNatClampNeg))).1 9) ((0 : Int32).toNatClampNeg) ((0 : Int32).toNatClampNeg) ((4 : Int32).toNatClampNeg))).1 10) ((0 : Int32).toNatClampNeg) ((0 : Int32).toNatClampNeg) ((4 : Int32).toNatClampNeg))) 14 (va_cpy ((xf (xf (xf S6 8 (va_cpy (S6.1 32) (S6.1 8) ((0 : Int32).toNatClampNeg) ((0 : Int32).toNatClampNeg) ((4 : Int32).toNatClampNeg))) 9 (va_cpy ((xf S6 8 (va_cpy (S6.1 32) (S6.1 8) ((0 : Int32).toNatClampNeg) ((0 : Int32).toNatClampNeg) ((4 : Int32).toNatClampNeg))).1 33) ((xf S6 8 (va_cpy (S6.1 32) (S6.1 8) ((0 : Int32).toNatClampNeg) ((0 : Int32).toNatClampNeg) ((4 : Int32).toNatClampNeg))).1 9) ((0 : Int32).toNatClampNeg) ((0 : Int32).toNatClampNeg) ((4 : Int32).toNatClampNeg))) 10 (va_cpy ((xf (xf S6 8 (va_cpy (S6.1 32) (S6.1 8) ((0 : Int32).toNatClampNeg) ((0 : Int32).toNatClampNeg) ((4 : Int32).toNatClampNeg))) 9 (va_cpy ((xf S6 8 (va_cpy (S6.1 32) (S6.1 8) ((0 : Int32).toNatClampNeg) ((0 : Int32).toNatClampNeg) ((4 : Int32).toNatClampNeg))).1 33) ((xf S6 8 (va_cpy (S6.1 32) (S6.1 8) ((0 : Int32).toNatClampNeg) ((0 : Int32).toNatClampNeg) ((4 : Int32).toNatClampNeg))).1 9) ((0 : Int32).toNatClampNeg) ((0 : Int32).toNatClampNeg) ((4 : Int32).toNatClampNeg))).1 34) ((xf (xf S6 8 (va_cpy (S6.1 32) (S6.1 8) ((0 : Int32).toNatClampNeg) ((0 : Int32).toNatClampNeg) ((4 : Int32).toNatClampNeg))) 9 (va_cpy ((xf S6 8 (va_cpy (S6.1 32) (S6.1 8) ((0 : Int32).toNatClampNeg) ((0 : Int32).toNatClampNeg) ((4 : Int32).toNatClampNeg))).1 33) ((xf S6 8 (va_cpy (S6.1 32) (S6.1 8) ((0 : Int32).toNatClampNeg) ((0 : Int32).toNatClampNeg) ((4 : Int32).toNatClampNeg))).1 9) ((0 : Int32).toNatClampNeg) ((0 : Int32).toNatClampNeg) ((4 : Int32).toNatClampNeg))).1 10) ((0 : Int32).toNatClampNeg) ((0 : Int32).toNatClampNeg) ((4 : Int32).toNatClampNeg))).1 35) ((xf (xf (xf S6 8 (va_cpy (S6.1 32) (S6.1 8) ((0 : Int32).toNatClampNeg) ((0 : Int32).toNatClampNeg) ((4 : Int32).toNatClampNeg))) 9 (va_cpy ((xf S6 8 (va_cpy (S6.1 32) (S6.1 8) ((0 : Int32).toNatClampNeg) ((0 : Int32).toNatClampNeg) ((4 : Int32).toNatClampNeg))).1 33) ((xf S6 8 (va_cpy (S6.1 32) (S6.1 8) ((0 : Int32).toNatClampNeg) ((0 : Int32).toNatClampNeg) ((4 : Int32).toNatClampNeg))).1 9) ((0 : Int32).toNatClampNeg) ((0 : Int32).toNatClampNeg) ((4 : Int32).toNatClampNeg))) 10 (va_cpy ((xf (xf S6 8 (va_cpy (S6.1 32) (S6.1 8) ((0 : Int32).toNatClampNeg) ((0 : Int32).toNatClampNeg) ((4 : Int32).toNatClampNeg))) 9 (va_cpy ((xf S6 8 (va_cpy (S6.1 32) (S6.1 8) ((0 : Int32).toNatClampNeg) ((0 : Int32).toNatClampNeg) ((4 : Int32).toNatClampNeg))).1 33) ((xf S6 8 (va_cpy (S6.1 32) (S6.1 8) ((0 : Int32).toNatClampNeg) ((0 : Int32).toNatClampNeg) ((4 : Int32).toNatClampNeg))).1 9) ((0 : Int32).toNatClampNeg) ((0 : Int32).toNatClampNeg) ((4 : Int32).toNatClampNeg))).1 34) ((xf (xf S6 8 (va_cpy (S6.1 32) (S6.1 8) ((0 : Int32).toNatClampNeg) ((0 : Int32).toNatClampNeg) ((4 : Int32).toNatClampNeg))) 9 (va_cpy ((xf S6 8 (va_cpy (S6.1 32) (S6.1 8) ((0 : Int32).toNatClampNeg) ((0 : Int32).toNatClampNeg) ((4 : Int32).toNatClampNeg))).1 33) ((xf S6 8 (va_cpy (S6.1 32) (S6.1 8) ((0 : Int32).toNatClampNeg) ((0 : Int32).toNatClampNeg) ((4 : Int32).toNatClampNeg))).1 9) ((0 : Int32).toNatClampNeg) ((0 : Int32).toNatClampNeg) ((4 : Int32).toNatClampNeg))).1 10) ((0 : Int32).toNatClampNeg) ((0 : Int32).toNatClampNeg) ((4 : Int32).toNatClampNeg))).1 14) ((0 : Int32).toNatClampNeg) ((0 : Int32).toNatClampNeg) (((xf (xf (xf S6 8 (va_cpy (S6.1 32) (S6.1 8) ((0 : Int32).toNatClampNeg) ((0 : Int32).toNatClampNeg) ((4 : Int32).toNatClampNeg))) 9 (va_cpy ((xf S6 8 (va_cpy (S6.1 32) (S6.1 8) ((0 : Int32).toNatClampNeg) ((0 : Int32).toNatClampNeg) ((4 : Int32).toNatClampNeg))).1 33) ((xf S6 8 (va_cpy (S6.1 32) (S6.1 8) ((0 : Int32).toNatClampNeg) ((0 : Int32).toNatClampNeg) ((4 : Int32).toNatClampNeg))).1 9) ((0 : Int32).toNatClampNeg) ((0 : Int32).toNatClampNeg) ((4 : Int32).toNatClampNeg))) 10 (va_cpy ((xf (xf S6 8 (va_cpy (S6.1 32) (S6.1 8) ((0 : Int32).toNatClampNeg) ((0 : Int32).toNatClampNeg) ((4 : Int32).toNatClampNeg))) 9 (va_cpy ((xf S6 8 (va_cpy (S6.1 32) (S6.1 8) ((0 : Int32).toNatClampNeg) ((0 : Int32).toNatClampNeg) ((4 : Int32).toNatClampNeg))).1 33) ((xf S6 8 (va_cpy (S6.1 32) (S6.1 8) ((0 : Int32).toNatClampNeg) ((0 : Int32).toNatClampNeg) ((4 : Int32).toNatClampNeg))).1 9) ((0 : Int32).toNatClampNeg) ((0 : Int32).toNatClampNeg) ((4 : Int32).toNatClampNeg))).1 34) ((xf (xf S6 8 (va_cpy (S6.1 32) (S6.1 8) ((0 : Int32).toNatClampNeg) ((0 : Int32).toNatClampNeg) ((4 : Int32).toNatClampNeg))) 9 (va_cpy ((xf S6 8 (va_cpy (S6.1 32) (S6.1 8) ((0 : Int32).toNatClampNeg) ((0 : Int32).toNatClampNeg) ((4 : Int32).toNatClampNeg))).1 33) ((xf S6 8 (va_cpy (S6.1 32) (S6.1 8) ((0 : Int32).toNatClampNeg) ((0 : Int32).toNatClampNeg) ((4 : Int32).toNatClampNeg))).1 9) ((0 : Int32).toNatClampNeg) ((0 : Int32).toNatClampNeg) ((4 : Int32).toNatClampNeg))).1 10) ((0 : Int32).toNatClampNeg) ((0 : Int32).toNatClampNeg) ((4 : Int32).toNatClampNeg))).1 29 0).toNatClampNeg))) hc hw hR (by decide) (hml.trans hl.1.symm) (mem_g 1088 (by decide +kernel) rfl) (mem_g 463 (by decide +kernel) rfl) (mem_g 462 (by decide +kernel) rfl) (mem_g 88 (by decide +kernel) rfl) (Nat.le_of_ble_eq_true rfl) ((xW_A (k := 24) (by decide)).trans rfl) ((xW_A (k := 19) (by decide)).trans rfl) (xW_setA (k := 19) (by decide) rfl (xf_R (k := 14) (by decide)) (xf_T (k := 14) (by decide))) hk10 dX2_restore_127 (fun H locs hw => ?_)
  refine lv_aload_n hx hb dX2_restore_130 rfl (lv_at hl 0 rfl) ?_
  refine x_g_image_postFars hc hw fl_2_44 dX2_restore_131 ?_
  refine lv_iconst (v := 0) hx hb dX2_restore_134 (by decide) ?_
  refine lv_aload_n hx hb dX2_restore_135 rfl (lv_at hl 1 rfl) ?_
  refine x_g_hall_postFars hc hw fl_2_78 dX2_restore_136 ?_
  refine lv_iconst (v := 0) hx hb dX2_restore_139 (by decide) ?_
  refine lv_aload_n hx hb dX2_restore_140 rfl (lv_at hl 0 rfl) ?_
  refine x_g_image_postCount hc hw fl_2_22 dX2_restore_141 ?_
  obtain ⟨hk11, hf⟩ := gd_some hf
  refine x_copy (S1 := xf (xf (xf (xf (xf S6 8 (va_cpy (S6.1 32) (S6.1 8) ((0 : Int32).toNatClampNeg) ((0 : Int32).toNatClampNeg) ((4 : Int32).toNatClampNeg))) 9 (va_cpy ((xf S6 8 (va_cpy (S6.1 32) (S6.1 8) ((0 : Int32).toNatClampNeg) ((0 : Int32).toNatClampNeg) ((4 : Int32).toNatClampNeg))).1 33) ((xf S6 8 (va_cpy (S6.1 32) (S6.1 8) ((0 : Int32).toNatClampNeg) ((0 : Int32).toNatClampNeg) ((4 : Int32).toNatClampNeg))).1 9) ((0 : Int32).toNatClampNeg) ((0 : Int32).toNatClampNeg) ((4 : Int32).toNatClampNeg))) 10 (va_cpy ((xf (xf S6 8 (va_cpy (S6.1 32) (S6.1 8) ((0 : Int32).toNatClampNeg) ((0 : Int32).toNatClampNeg) ((4 : Int32).toNatClampNeg))) 9 (va_cpy ((xf S6 8 (va_cpy (S6.1 32) (S6.1 8) ((0 : Int32).toNatClampNeg) ((0 : Int32).toNatClampNeg) ((4 : Int32).toNatClampNeg))).1 33) ((xf S6 8 (va_cpy (S6.1 32) (S6.1 8) ((0 : Int32).toNatClampNeg) ((0 : Int32).toNatClampNeg) ((4 : Int32).toNatClampNeg))).1 9) ((0 : Int32).toNatClampNeg) ((0 : Int32).toNatClampNeg) ((4 : Int32).toNatClampNeg))).1 34) ((xf (xf S6 8 (va_cpy (S6.1 32) (S6.1 8) ((0 : Int32).toNatClampNeg) ((0 : Int32).toNatClampNeg) ((4 : Int32).toNatClampNeg))) 9 (va_cpy ((xf S6 8 (va_cpy (S6.1 32) (S6.1 8) ((0 : Int32).toNatClampNeg) ((0 : Int32).toNatClampNeg) ((4 : Int32).toNatClampNeg))).1 33) ((xf S6 8 (va_cpy (S6.1 32) (S6.1 8) ((0 : Int32).toNatClampNeg) ((0 : Int32).toNatClampNeg) ((4 : Int32).toNatClampNeg))).1 9) ((0 : Int32).toNatClampNeg) ((0 : Int32).toNatClampNeg) ((4 : Int32).toNatClampNeg))).1 10) ((0 : Int32).toNatClampNeg) ((0 : Int32).toNatClampNeg) ((4 : Int32).toNatClampNeg))) 14 (va_cpy ((xf (xf (xf S6 8 (va_cpy (S6.1 32) (S6.1 8) ((0 : Int32).toNatClampNeg) ((0 : Int32).toNatClampNeg) ((4 : Int32).toNatClampNeg))) 9 (va_cpy ((xf S6 8 (va_cpy (S6.1 32) (S6.1 8) ((0 : Int32).toNatClampNeg) ((0 : Int32).toNatClampNeg) ((4 : Int32).toNatClampNeg))).1 33) ((xf S6 8 (va_cpy (S6.1 32) (S6.1 8) ((0 : Int32).toNatClampNeg) ((0 : Int32).toNatClampNeg) ((4 : Int32).toNatClampNeg))).1 9) ((0 : Int32).toNatClampNeg) ((0 : Int32).toNatClampNeg) ((4 : Int32).toNatClampNeg))) 10 (va_cpy ((xf (xf S6 8 (va_cpy (S6.1 32) (S6.1 8) ((0 : Int32).toNatClampNeg) ((0 : Int32).toNatClampNeg) ((4 : Int32).toNatClampNeg))) 9 (va_cpy ((xf S6 8 (va_cpy (S6.1 32) (S6.1 8) ((0 : Int32).toNatClampNeg) ((0 : Int32).toNatClampNeg) ((4 : Int32).toNatClampNeg))).1 33) ((xf S6 8 (va_cpy (S6.1 32) (S6.1 8) ((0 : Int32).toNatClampNeg) ((0 : Int32).toNatClampNeg) ((4 : Int32).toNatClampNeg))).1 9) ((0 : Int32).toNatClampNeg) ((0 : Int32).toNatClampNeg) ((4 : Int32).toNatClampNeg))).1 34) ((xf (xf S6 8 (va_cpy (S6.1 32) (S6.1 8) ((0 : Int32).toNatClampNeg) ((0 : Int32).toNatClampNeg) ((4 : Int32).toNatClampNeg))) 9 (va_cpy ((xf S6 8 (va_cpy (S6.1 32) (S6.1 8) ((0 : Int32).toNatClampNeg) ((0 : Int32).toNatClampNeg) ((4 : Int32).toNatClampNeg))).1 33) ((xf S6 8 (va_cpy (S6.1 32) (S6.1 8) ((0 : Int32).toNatClampNeg) ((0 : Int32).toNatClampNeg) ((4 : Int32).toNatClampNeg))).1 9) ((0 : Int32).toNatClampNeg) ((0 : Int32).toNatClampNeg) ((4 : Int32).toNatClampNeg))).1 10) ((0 : Int32).toNatClampNeg) ((0 : Int32).toNatClampNeg) ((4 : Int32).toNatClampNeg))).1 35) ((xf (xf (xf S6 8 (va_cpy (S6.1 32) (S6.1 8) ((0 : Int32).toNatClampNeg) ((0 : Int32).toNatClampNeg) ((4 : Int32).toNatClampNeg))) 9 (va_cpy ((xf S6 8 (va_cpy (S6.1 32) (S6.1 8) ((0 : Int32).toNatClampNeg) ((0 : Int32).toNatClampNeg) ((4 : Int32).toNatClampNeg))).1 33) ((xf S6 8 (va_cpy (S6.1 32) (S6.1 8) ((0 : Int32).toNatClampNeg) ((0 : Int32).toNatClampNeg) ((4 : Int32).toNatClampNeg))).1 9) ((0 : Int32).toNatClampNeg) ((0 : Int32).toNatClampNeg) ((4 : Int32).toNatClampNeg))) 10 (va_cpy ((xf (xf S6 8 (va_cpy (S6.1 32) (S6.1 8) ((0 : Int32).toNatClampNeg) ((0 : Int32).toNatClampNeg) ((4 : Int32).toNatClampNeg))) 9 (va_cpy ((xf S6 8 (va_cpy (S6.1 32) (S6.1 8) ((0 : Int32).toNatClampNeg) ((0 : Int32).toNatClampNeg) ((4 : Int32).toNatClampNeg))).1 33) ((xf S6 8 (va_cpy (S6.1 32) (S6.1 8) ((0 : Int32).toNatClampNeg) ((0 : Int32).toNatClampNeg) ((4 : Int32).toNatClampNeg))).1 9) ((0 : Int32).toNatClampNeg) ((0 : Int32).toNatClampNeg) ((4 : Int32).toNatClampNeg))).1 34) ((xf (xf S6 8 (va_cpy (S6.1 32) (S6.1 8) ((0 : Int32).toNatClampNeg) ((0 : Int32).toNatClampNeg) ((4 : Int32).toNatClampNeg))) 9 (va_cpy ((xf S6 8 (va_cpy (S6.1 32) (S6.1 8) ((0 : Int32).toNatClampNeg) ((0 : Int32).toNatClampNeg) ((4 : Int32).toNatClampNeg))).1 33) ((xf S6 8 (va_cpy (S6.1 32) (S6.1 8) ((0 : Int32).toNatClampNeg) ((0 : Int32).toNatClampNeg) ((4 : Int32).toNatClampNeg))).1 9) ((0 : Int32).toNatClampNeg) ((0 : Int32).toNatClampNeg) ((4 : Int32).toNatClampNeg))).1 10) ((0 : Int32).toNatClampNeg) ((0 : Int32).toNatClampNeg) ((4 : Int32).toNatClampNeg))).1 14) ((0 : Int32).toNatClampNeg) ((0 : Int32).toNatClampNeg) (((xf (xf (xf S6 8 (va_cpy (S6.1 32) (S6.1 8) ((0 : Int32).toNatClampNeg) ((0 : Int32).toNatClampNeg) ((4 : Int32).toNatClampNeg))) 9 (va_cpy ((xf S6 8 (va_cpy (S6.1 32) (S6.1 8) ((0 : Int32).toNatClampNeg) ((0 : Int32).toNatClampNeg) ((4 : Int32).toNatClampNeg))).1 33) ((xf S6 8 (va_cpy (S6.1 32) (S6.1 8) ((0 : Int32).toNatClampNeg) ((0 : Int32).toNatClampNeg) ((4 : Int32).toNatClampNeg))).1 9) ((0 : Int32).toNatClampNeg) ((0 : Int32).toNatClampNeg) ((4 : Int32).toNatClampNeg))) 10 (va_cpy ((xf (xf S6 8 (va_cpy (S6.1 32) (S6.1 8) ((0 : Int32).toNatClampNeg) ((0 : Int32).toNatClampNeg) ((4 : Int32).toNatClampNeg))) 9 (va_cpy ((xf S6 8 (va_cpy (S6.1 32) (S6.1 8) ((0 : Int32).toNatClampNeg) ((0 : Int32).toNatClampNeg) ((4 : Int32).toNatClampNeg))).1 33) ((xf S6 8 (va_cpy (S6.1 32) (S6.1 8) ((0 : Int32).toNatClampNeg) ((0 : Int32).toNatClampNeg) ((4 : Int32).toNatClampNeg))).1 9) ((0 : Int32).toNatClampNeg) ((0 : Int32).toNatClampNeg) ((4 : Int32).toNatClampNeg))).1 34) ((xf (xf S6 8 (va_cpy (S6.1 32) (S6.1 8) ((0 : Int32).toNatClampNeg) ((0 : Int32).toNatClampNeg) ((4 : Int32).toNatClampNeg))) 9 (va_cpy ((xf S6 8 (va_cpy (S6.1 32) (S6.1 8) ((0 : Int32).toNatClampNeg) ((0 : Int32).toNatClampNeg) ((4 : Int32).toNatClampNeg))).1 33) ((xf S6 8 (va_cpy (S6.1 32) (S6.1 8) ((0 : Int32).toNatClampNeg) ((0 : Int32).toNatClampNeg) ((4 : Int32).toNatClampNeg))).1 9) ((0 : Int32).toNatClampNeg) ((0 : Int32).toNatClampNeg) ((4 : Int32).toNatClampNeg))).1 10) ((0 : Int32).toNatClampNeg) ((0 : Int32).toNatClampNeg) ((4 : Int32).toNatClampNeg))).1 29 0).toNatClampNeg))) 15 (va_cpy ((xf (xf (xf (xf S6 8 (va_cpy (S6.1 32) (S6.1 8) ((0 : Int32).toNatClampNeg) ((0 : Int32).toNatClampNeg) ((4 : Int32).toNatClampNeg))) 9 (va_cpy ((xf S6 8 (va_cpy (S6.1 32) (S6.1 8) ((0 : Int32).toNatClampNeg) ((0 : Int32).toNatClampNeg) ((4 : Int32).toNatClampNeg))).1 33) ((xf S6 8 (va_cpy (S6.1 32) (S6.1 8) ((0 : Int32).toNatClampNeg) ((0 : Int32).toNatClampNeg) ((4 : Int32).toNatClampNeg))).1 9) ((0 : Int32).toNatClampNeg) ((0 : Int32).toNatClampNeg) ((4 : Int32).toNatClampNeg))) 10 (va_cpy ((xf (xf S6 8 (va_cpy (S6.1 32) (S6.1 8) ((0 : Int32).toNatClampNeg) ((0 : Int32).toNatClampNeg) ((4 : Int32).toNatClampNeg))) 9 (va_cpy ((xf S6 8 (va_cpy (S6.1 32) (S6.1 8) ((0 : Int32).toNatClampNeg) ((0 : Int32).toNatClampNeg) ((4 : Int32).toNatClampNeg))).1 33) ((xf S6 8 (va_cpy (S6.1 32) (S6.1 8) ((0 : Int32).toNatClampNeg) ((0 : Int32).toNatClampNeg) ((4 : Int32).toNatClampNeg))).1 9) ((0 : Int32).toNatClampNeg) ((0 : Int32).toNatClampNeg) ((4 : Int32).toNatClampNeg))).1 34) ((xf (xf S6 8 (va_cpy (S6.1 32) (S6.1 8) ((0 : Int32).toNatClampNeg) ((0 : Int32).toNatClampNeg) ((4 : Int32).toNatClampNeg))) 9 (va_cpy ((xf S6 8 (va_cpy (S6.1 32) (S6.1 8) ((0 : Int32).toNatClampNeg) ((0 : Int32).toNatClampNeg) ((4 : Int32).toNatClampNeg))).1 33) ((xf S6 8 (va_cpy (S6.1 32) (S6.1 8) ((0 : Int32).toNatClampNeg) ((0 : Int32).toNatClampNeg) ((4 : Int32).toNatClampNeg))).1 9) ((0 : Int32).toNatClampNeg) ((0 : Int32).toNatClampNeg) ((4 : Int32).toNatClampNeg))).1 10) ((0 : Int32).toNatClampNeg) ((0 : Int32).toNatClampNeg) ((4 : Int32).toNatClampNeg))) 14 (va_cpy ((xf (xf (xf S6 8 (va_cpy (S6.1 32) (S6.1 8) ((0 : Int32).toNatClampNeg) ((0 : Int32).toNatClampNeg) ((4 : Int32).toNatClampNeg))) 9 (va_cpy ((xf S6 8 (va_cpy (S6.1 32) (S6.1 8) ((0 : Int32).toNatClampNeg) ((0 : Int32).toNatClampNeg) ((4 : Int32).toNatClampNeg))).1 33) ((xf S6 8 (va_cpy (S6.1 32) (S6.1 8) ((0 : Int32).toNatClampNeg) ((0 : Int32).toNatClampNeg) ((4 : Int32).toNatClampNeg))).1 9) ((0 : Int32).toNatClampNeg) ((0 : Int32).toNatClampNeg) ((4 : Int32).toNatClampNeg))) 10 (va_cpy ((xf (xf S6 8 (va_cpy (S6.1 32) (S6.1 8) ((0 : Int32).toNatClampNeg) ((0 : Int32).toNatClampNeg) ((4 : Int32).toNatClampNeg))) 9 (va_cpy ((xf S6 8 (va_cpy (S6.1 32) (S6.1 8) ((0 : Int32).toNatClampNeg) ((0 : Int32).toNatClampNeg) ((4 : Int32).toNatClampNeg))).1 33) ((xf S6 8 (va_cpy (S6.1 32) (S6.1 8) ((0 : Int32).toNatClampNeg) ((0 : Int32).toNatClampNeg) ((4 : Int32).toNatClampNeg))).1 9) ((0 : Int32).toNatClampNeg) ((0 : Int32).toNatClampNeg) ((4 : Int32).toNatClampNeg))).1 34) ((xf (xf S6 8 (va_cpy (S6.1 32) (S6.1 8) ((0 : Int32).toNatClampNeg) ((0 : Int32).toNatClampNeg) ((4 : Int32).toNatClampNeg))) 9 (va_cpy ((xf S6 8 (va_cpy (S6.1 32) (S6.1 8) ((0 : Int32).toNatClampNeg) ((0 : Int32).toNatClampNeg) ((4 : Int32).toNatClampNeg))).1 33) ((xf S6 8 (va_cpy (S6.1 32) (S6.1 8) ((0 : Int32).toNatClampNeg) ((0 : Int32).toNatClampNeg) ((4 : Int32).toNatClampNeg))).1 9) ((0 : Int32).toNatClampNeg) ((0 : Int32).toNatClampNeg) ((4 : Int32).toNatClampNeg))).1 10) ((0 : Int32).toNatClampNeg) ((0 : Int32).toNatClampNeg) ((4 : Int32).toNatClampNeg))).1 35) ((xf (xf (xf S6 8 (va_cpy (S6.1 32) (S6.1 8) ((0 : Int32).toNatClampNeg) ((0 : Int32).toNatClampNeg) ((4 : Int32).toNatClampNeg))) 9 (va_cpy ((xf S6 8 (va_cpy (S6.1 32) (S6.1 8) ((0 : Int32).toNatClampNeg) ((0 : Int32).toNatClampNeg) ((4 : Int32).toNatClampNeg))).1 33) ((xf S6 8 (va_cpy (S6.1 32) (S6.1 8) ((0 : Int32).toNatClampNeg) ((0 : Int32).toNatClampNeg) ((4 : Int32).toNatClampNeg))).1 9) ((0 : Int32).toNatClampNeg) ((0 : Int32).toNatClampNeg) ((4 : Int32).toNatClampNeg))) 10 (va_cpy ((xf (xf S6 8 (va_cpy (S6.1 32) (S6.1 8) ((0 : Int32).toNatClampNeg) ((0 : Int32).toNatClampNeg) ((4 : Int32).toNatClampNeg))) 9 (va_cpy ((xf S6 8 (va_cpy (S6.1 32) (S6.1 8) ((0 : Int32).toNatClampNeg) ((0 : Int32).toNatClampNeg) ((4 : Int32).toNatClampNeg))).1 33) ((xf S6 8 (va_cpy (S6.1 32) (S6.1 8) ((0 : Int32).toNatClampNeg) ((0 : Int32).toNatClampNeg) ((4 : Int32).toNatClampNeg))).1 9) ((0 : Int32).toNatClampNeg) ((0 : Int32).toNatClampNeg) ((4 : Int32).toNatClampNeg))).1 34) ((xf (xf S6 8 (va_cpy (S6.1 32) (S6.1 8) ((0 : Int32).toNatClampNeg) ((0 : Int32).toNatClampNeg) ((4 : Int32).toNatClampNeg))) 9 (va_cpy ((xf S6 8 (va_cpy (S6.1 32) (S6.1 8) ((0 : Int32).toNatClampNeg) ((0 : Int32).toNatClampNeg) ((4 : Int32).toNatClampNeg))).1 33) ((xf S6 8 (va_cpy (S6.1 32) (S6.1 8) ((0 : Int32).toNatClampNeg) ((0 : Int32).toNatClampNeg) ((4 : Int32).toNatClampNeg))).1 9) ((0 : Int32).toNatClampNeg) ((0 : Int32).toNatClampNeg) ((4 : Int32).toNatClampNeg))).1 10) ((0 : Int32).toNatClampNeg) ((0 : Int32).toNatClampNeg) ((4 : Int32).toNatClampNeg))).1 14) ((0 : Int32).toNatClampNeg) ((0 : Int32).toNatClampNeg) (((xf (xf (xf S6 8 (va_cpy (S6.1 32) (S6.1 8) ((0 : Int32).toNatClampNeg) ((0 : Int32).toNatClampNeg) ((4 : Int32).toNatClampNeg))) 9 (va_cpy ((xf S6 8 (va_cpy (S6.1 32) (S6.1 8) ((0 : Int32).toNatClampNeg) ((0 : Int32).toNatClampNeg) ((4 : Int32).toNatClampNeg))).1 33) ((xf S6 8 (va_cpy (S6.1 32) (S6.1 8) ((0 : Int32).toNatClampNeg) ((0 : Int32).toNatClampNeg) ((4 : Int32).toNatClampNeg))).1 9) ((0 : Int32).toNatClampNeg) ((0 : Int32).toNatClampNeg) ((4 : Int32).toNatClampNeg))) 10 (va_cpy ((xf (xf S6 8 (va_cpy (S6.1 32) (S6.1 8) ((0 : Int32).toNatClampNeg) ((0 : Int32).toNatClampNeg) ((4 : Int32).toNatClampNeg))) 9 (va_cpy ((xf S6 8 (va_cpy (S6.1 32) (S6.1 8) ((0 : Int32).toNatClampNeg) ((0 : Int32).toNatClampNeg) ((4 : Int32).toNatClampNeg))).1 33) ((xf S6 8 (va_cpy (S6.1 32) (S6.1 8) ((0 : Int32).toNatClampNeg) ((0 : Int32).toNatClampNeg) ((4 : Int32).toNatClampNeg))).1 9) ((0 : Int32).toNatClampNeg) ((0 : Int32).toNatClampNeg) ((4 : Int32).toNatClampNeg))).1 34) ((xf (xf S6 8 (va_cpy (S6.1 32) (S6.1 8) ((0 : Int32).toNatClampNeg) ((0 : Int32).toNatClampNeg) ((4 : Int32).toNatClampNeg))) 9 (va_cpy ((xf S6 8 (va_cpy (S6.1 32) (S6.1 8) ((0 : Int32).toNatClampNeg) ((0 : Int32).toNatClampNeg) ((4 : Int32).toNatClampNeg))).1 33) ((xf S6 8 (va_cpy (S6.1 32) (S6.1 8) ((0 : Int32).toNatClampNeg) ((0 : Int32).toNatClampNeg) ((4 : Int32).toNatClampNeg))).1 9) ((0 : Int32).toNatClampNeg) ((0 : Int32).toNatClampNeg) ((4 : Int32).toNatClampNeg))).1 10) ((0 : Int32).toNatClampNeg) ((0 : Int32).toNatClampNeg) ((4 : Int32).toNatClampNeg))).1 29 0).toNatClampNeg))).1 36) ((xf (xf (xf (xf S6 8 (va_cpy (S6.1 32) (S6.1 8) ((0 : Int32).toNatClampNeg) ((0 : Int32).toNatClampNeg) ((4 : Int32).toNatClampNeg))) 9 (va_cpy ((xf S6 8 (va_cpy (S6.1 32) (S6.1 8) ((0 : Int32).toNatClampNeg) ((0 : Int32).toNatClampNeg) ((4 : Int32).toNatClampNeg))).1 33) ((xf S6 8 (va_cpy (S6.1 32) (S6.1 8) ((0 : Int32).toNatClampNeg) ((0 : Int32).toNatClampNeg) ((4 : Int32).toNatClampNeg))).1 9) ((0 : Int32).toNatClampNeg) ((0 : Int32).toNatClampNeg) ((4 : Int32).toNatClampNeg))) 10 (va_cpy ((xf (xf S6 8 (va_cpy (S6.1 32) (S6.1 8) ((0 : Int32).toNatClampNeg) ((0 : Int32).toNatClampNeg) ((4 : Int32).toNatClampNeg))) 9 (va_cpy ((xf S6 8 (va_cpy (S6.1 32) (S6.1 8) ((0 : Int32).toNatClampNeg) ((0 : Int32).toNatClampNeg) ((4 : Int32).toNatClampNeg))).1 33) ((xf S6 8 (va_cpy (S6.1 32) (S6.1 8) ((0 : Int32).toNatClampNeg) ((0 : Int32).toNatClampNeg) ((4 : Int32).toNatClampNeg))).1 9) ((0 : Int32).toNatClampNeg) ((0 : Int32).toNatClampNeg) ((4 : Int32).toNatClampNeg))).1 34) ((xf (xf S6 8 (va_cpy (S6.1 32) (S6.1 8) ((0 : Int32).toNatClampNeg) ((0 : Int32).toNatClampNeg) ((4 : Int32).toNatClampNeg))) 9 (va_cpy ((xf S6 8 (va_cpy (S6.1 32) (S6.1 8) ((0 : Int32).toNatClampNeg) ((0 : Int32).toNatClampNeg) ((4 : Int32).toNatClampNeg))).1 33) ((xf S6 8 (va_cpy (S6.1 32) (S6.1 8) ((0 : Int32).toNatClampNeg) ((0 : Int32).toNatClampNeg) ((4 : Int32).toNatClampNeg))).1 9) ((0 : Int32).toNatClampNeg) ((0 : Int32).toNatClampNeg) ((4 : Int32).toNatClampNeg))).1 10) ((0 : Int32).toNatClampNeg) ((0 : Int32).toNatClampNeg) ((4 : Int32).toNatClampNeg))) 14 (va_cpy ((xf (xf (xf S6 8 (va_cpy (S6.1 32) (S6.1 8) ((0 : Int32).toNatClampNeg) ((0 : Int32).toNatClampNeg) ((4 : Int32).toNatClampNeg))) 9 (va_cpy ((xf S6 8 (va_cpy (S6.1 32) (S6.1 8) ((0 : Int32).toNatClampNeg) ((0 : Int32).toNatClampNeg) ((4 : Int32).toNatClampNeg))).1 33) ((xf S6 8 (va_cpy (S6.1 32) (S6.1 8) ((0 : Int32).toNatClampNeg) ((0 : Int32).toNatClampNeg) ((4 : Int32).toNatClampNeg))).1 9) ((0 : Int32).toNatClampNeg) ((0 : Int32).toNatClampNeg) ((4 : Int32).toNatClampNeg))) 10 (va_cpy ((xf (xf S6 8 (va_cpy (S6.1 32) (S6.1 8) ((0 : Int32).toNatClampNeg) ((0 : Int32).toNatClampNeg) ((4 : Int32).toNatClampNeg))) 9 (va_cpy ((xf S6 8 (va_cpy (S6.1 32) (S6.1 8) ((0 : Int32).toNatClampNeg) ((0 : Int32).toNatClampNeg) ((4 : Int32).toNatClampNeg))).1 33) ((xf S6 8 (va_cpy (S6.1 32) (S6.1 8) ((0 : Int32).toNatClampNeg) ((0 : Int32).toNatClampNeg) ((4 : Int32).toNatClampNeg))).1 9) ((0 : Int32).toNatClampNeg) ((0 : Int32).toNatClampNeg) ((4 : Int32).toNatClampNeg))).1 34) ((xf (xf S6 8 (va_cpy (S6.1 32) (S6.1 8) ((0 : Int32).toNatClampNeg) ((0 : Int32).toNatClampNeg) ((4 : Int32).toNatClampNeg))) 9 (va_cpy ((xf S6 8 (va_cpy (S6.1 32) (S6.1 8) ((0 : Int32).toNatClampNeg) ((0 : Int32).toNatClampNeg) ((4 : Int32).toNatClampNeg))).1 33) ((xf S6 8 (va_cpy (S6.1 32) (S6.1 8) ((0 : Int32).toNatClampNeg) ((0 : Int32).toNatClampNeg) ((4 : Int32).toNatClampNeg))).1 9) ((0 : Int32).toNatClampNeg) ((0 : Int32).toNatClampNeg) ((4 : Int32).toNatClampNeg))).1 10) ((0 : Int32).toNatClampNeg) ((0 : Int32).toNatClampNeg) ((4 : Int32).toNatClampNeg))).1 35) ((xf (xf (xf S6 8 (va_cpy (S6.1 32) (S6.1 8) ((0 : Int32).toNatClampNeg) ((0 : Int32).toNatClampNeg) ((4 : Int32).toNatClampNeg))) 9 (va_cpy ((xf S6 8 (va_cpy (S6.1 32) (S6.1 8) ((0 : Int32).toNatClampNeg) ((0 : Int32).toNatClampNeg) ((4 : Int32).toNatClampNeg))).1 33) ((xf S6 8 (va_cpy (S6.1 32) (S6.1 8) ((0 : Int32).toNatClampNeg) ((0 : Int32).toNatClampNeg) ((4 : Int32).toNatClampNeg))).1 9) ((0 : Int32).toNatClampNeg) ((0 : Int32).toNatClampNeg) ((4 : Int32).toNatClampNeg))) 10 (va_cpy ((xf (xf S6 8 (va_cpy (S6.1 32) (S6.1 8) ((0 : Int32).toNatClampNeg) ((0 : Int32).toNatClampNeg) ((4 : Int32).toNatClampNeg))) 9 (va_cpy ((xf S6 8 (va_cpy (S6.1 32) (S6.1 8) ((0 : Int32).toNatClampNeg) ((0 : Int32).toNatClampNeg) ((4 : Int32).toNatClampNeg))).1 33) ((xf S6 8 (va_cpy (S6.1 32) (S6.1 8) ((0 : Int32).toNatClampNeg) ((0 : Int32).toNatClampNeg) ((4 : Int32).toNatClampNeg))).1 9) ((0 : Int32).toNatClampNeg) ((0 : Int32).toNatClampNeg) ((4 : Int32).toNatClampNeg))).1 34) ((xf (xf S6 8 (va_cpy (S6.1 32) (S6.1 8) ((0 : Int32).toNatClampNeg) ((0 : Int32).toNatClampNeg) ((4 : Int32).toNatClampNeg))) 9 (va_cpy ((xf S6 8 (va_cpy (S6.1 32) (S6.1 8) ((0 : Int32).toNatClampNeg) ((0 : Int32).toNatClampNeg) ((4 : Int32).toNatClampNeg))).1 33) ((xf S6 8 (va_cpy (S6.1 32) (S6.1 8) ((0 : Int32).toNatClampNeg) ((0 : Int32).toNatClampNeg) ((4 : Int32).toNatClampNeg))).1 9) ((0 : Int32).toNatClampNeg) ((0 : Int32).toNatClampNeg) ((4 : Int32).toNatClampNeg))).1 10) ((0 : Int32).toNatClampNeg) ((0 : Int32).toNatClampNeg) ((4 : Int32).toNatClampNeg))).1 14) ((0 : Int32).toNatClampNeg) ((0 : Int32).toNatClampNeg) (((xf (xf (xf S6 8 (va_cpy (S6.1 32) (S6.1 8) ((0 : Int32).toNatClampNeg) ((0 : Int32).toNatClampNeg) ((4 : Int32).toNatClampNeg))) 9 (va_cpy ((xf S6 8 (va_cpy (S6.1 32) (S6.1 8) ((0 : Int32).toNatClampNeg) ((0 : Int32).toNatClampNeg) ((4 : Int32).toNatClampNeg))).1 33) ((xf S6 8 (va_cpy (S6.1 32) (S6.1 8) ((0 : Int32).toNatClampNeg) ((0 : Int32).toNatClampNeg) ((4 : Int32).toNatClampNeg))).1 9) ((0 : Int32).toNatClampNeg) ((0 : Int32).toNatClampNeg) ((4 : Int32).toNatClampNeg))) 10 (va_cpy ((xf (xf S6 8 (va_cpy (S6.1 32) (S6.1 8) ((0 : Int32).toNatClampNeg) ((0 : Int32).toNatClampNeg) ((4 : Int32).toNatClampNeg))) 9 (va_cpy ((xf S6 8 (va_cpy (S6.1 32) (S6.1 8) ((0 : Int32).toNatClampNeg) ((0 : Int32).toNatClampNeg) ((4 : Int32).toNatClampNeg))).1 33) ((xf S6 8 (va_cpy (S6.1 32) (S6.1 8) ((0 : Int32).toNatClampNeg) ((0 : Int32).toNatClampNeg) ((4 : Int32).toNatClampNeg))).1 9) ((0 : Int32).toNatClampNeg) ((0 : Int32).toNatClampNeg) ((4 : Int32).toNatClampNeg))).1 34) ((xf (xf S6 8 (va_cpy (S6.1 32) (S6.1 8) ((0 : Int32).toNatClampNeg) ((0 : Int32).toNatClampNeg) ((4 : Int32).toNatClampNeg))) 9 (va_cpy ((xf S6 8 (va_cpy (S6.1 32) (S6.1 8) ((0 : Int32).toNatClampNeg) ((0 : Int32).toNatClampNeg) ((4 : Int32).toNatClampNeg))).1 33) ((xf S6 8 (va_cpy (S6.1 32) (S6.1 8) ((0 : Int32).toNatClampNeg) ((0 : Int32).toNatClampNeg) ((4 : Int32).toNatClampNeg))).1 9) ((0 : Int32).toNatClampNeg) ((0 : Int32).toNatClampNeg) ((4 : Int32).toNatClampNeg))).1 10) ((0 : Int32).toNatClampNeg) ((0 : Int32).toNatClampNeg) ((4 : Int32).toNatClampNeg))).1 29 0).toNatClampNeg))).1 15) ((0 : Int32).toNatClampNeg) ((0 : Int32).toNatClampNeg) (((xf (xf (xf (xf S6 8 (va_cpy (S6.1 32) (S6.1 8) ((0 : Int32).toNatClampNeg) ((0 : Int32).toNatClampNeg) ((4 : Int32).toNatClampNeg))) 9 (va_cpy ((xf S6 8 (va_cpy (S6.1 32) (S6.1 8) ((0 : Int32).toNatClampNeg) ((0 : Int32).toNatClampNeg) ((4 : Int32).toNatClampNeg))).1 33) ((xf S6 8 (va_cpy (S6.1 32) (S6.1 8) ((0 : Int32).toNatClampNeg) ((0 : Int32).toNatClampNeg) ((4 : Int32).toNatClampNeg))).1 9) ((0 : Int32).toNatClampNeg) ((0 : Int32).toNatClampNeg) ((4 : Int32).toNatClampNeg))) 10 (va_cpy ((xf (xf S6 8 (va_cpy (S6.1 32) (S6.1 8) ((0 : Int32).toNatClampNeg) ((0 : Int32).toNatClampNeg) ((4 : Int32).toNatClampNeg))) 9 (va_cpy ((xf S6 8 (va_cpy (S6.1 32) (S6.1 8) ((0 : Int32).toNatClampNeg) ((0 : Int32).toNatClampNeg) ((4 : Int32).toNatClampNeg))).1 33) ((xf S6 8 (va_cpy (S6.1 32) (S6.1 8) ((0 : Int32).toNatClampNeg) ((0 : Int32).toNatClampNeg) ((4 : Int32).toNatClampNeg))).1 9) ((0 : Int32).toNatClampNeg) ((0 : Int32).toNatClampNeg) ((4 : Int32).toNatClampNeg))).1 34) ((xf (xf S6 8 (va_cpy (S6.1 32) (S6.1 8) ((0 : Int32).toNatClampNeg) ((0 : Int32).toNatClampNeg) ((4 : Int32).toNatClampNeg))) 9 (va_cpy ((xf S6 8 (va_cpy (S6.1 32) (S6.1 8) ((0 : Int32).toNatClampNeg) ((0 : Int32).toNatClampNeg) ((4 : Int32).toNatClampNeg))).1 33) ((xf S6 8 (va_cpy (S6.1 32) (S6.1 8) ((0 : Int32).toNatClampNeg) ((0 : Int32).toNatClampNeg) ((4 : Int32).toNatClampNeg))).1 9) ((0 : Int32).toNatClampNeg) ((0 : Int32).toNatClampNeg) ((4 : Int32).toNatClampNeg))).1 10) ((0 : Int32).toNatClampNeg) ((0 : Int32).toNatClampNeg) ((4 : Int32).toNatClampNeg))) 14 (va_cpy ((xf (xf (xf S6 8 (va_cpy (S6.1 32) (S6.1 8) ((0 : Int32).toNatClampNeg) ((0 : Int32).toNatClampNeg) ((4 : Int32).toNatClampNeg))) 9 (va_cpy ((xf S6 8 (va_cpy (S6.1 32) (S6.1 8) ((0 : Int32).toNatClampNeg) ((0 : Int32).toNatClampNeg) ((4 : Int32).toNatClampNeg))).1 33) ((xf S6 8 (va_cpy (S6.1 32) (S6.1 8) ((0 : Int32).toNatClampNeg) ((0 : Int32).toNatClampNeg) ((4 : Int32).toNatClampNeg))).1 9) ((0 : Int32).toNatClampNeg) ((0 : Int32).toNatClampNeg) ((4 : Int32).toNatClampNeg))) 10 (va_cpy ((xf (xf S6 8 (va_cpy (S6.1 32) (S6.1 8) ((0 : Int32).toNatClampNeg) ((0 : Int32).toNatClampNeg) ((4 : Int32).toNatClampNeg))) 9 (va_cpy ((xf S6 8 (va_cpy (S6.1 32) (S6.1 8) ((0 : Int32).toNatClampNeg) ((0 : Int32).toNatClampNeg) ((4 : Int32).toNatClampNeg))).1 33) ((xf S6 8 (va_cpy (S6.1 32) (S6.1 8) ((0 : Int32).toNatClampNeg) ((0 : Int32).toNatClampNeg) ((4 : Int32).toNatClampNeg))).1 9) ((0 : Int32).toNatClampNeg) ((0 : Int32).toNatClampNeg) ((4 : Int32).toNatClampNeg))).1 34) ((xf (xf S6 8 (va_cpy (S6.1 32) (S6.1 8) ((0 : Int32).toNatClampNeg) ((0 : Int32).toNatClampNeg) ((4 : Int32).toNatClampNeg))) 9 (va_cpy ((xf S6 8 (va_cpy (S6.1 32) (S6.1 8) ((0 : Int32).toNatClampNeg) ((0 : Int32).toNatClampNeg) ((4 : Int32).toNatClampNeg))).1 33) ((xf S6 8 (va_cpy (S6.1 32) (S6.1 8) ((0 : Int32).toNatClampNeg) ((0 : Int32).toNatClampNeg) ((4 : Int32).toNatClampNeg))).1 9) ((0 : Int32).toNatClampNeg) ((0 : Int32).toNatClampNeg) ((4 : Int32).toNatClampNeg))).1 10) ((0 : Int32).toNatClampNeg) ((0 : Int32).toNatClampNeg) ((4 : Int32).toNatClampNeg))).1 35) ((xf (xf (xf S6 8 (va_cpy (S6.1 32) (S6.1 8) ((0 : Int32).toNatClampNeg) ((0 : Int32).toNatClampNeg) ((4 : Int32).toNatClampNeg))) 9 (va_cpy ((xf S6 8 (va_cpy (S6.1 32) (S6.1 8) ((0 : Int32).toNatClampNeg) ((0 : Int32).toNatClampNeg) ((4 : Int32).toNatClampNeg))).1 33) ((xf S6 8 (va_cpy (S6.1 32) (S6.1 8) ((0 : Int32).toNatClampNeg) ((0 : Int32).toNatClampNeg) ((4 : Int32).toNatClampNeg))).1 9) ((0 : Int32).toNatClampNeg) ((0 : Int32).toNatClampNeg) ((4 : Int32).toNatClampNeg))) 10 (va_cpy ((xf (xf S6 8 (va_cpy (S6.1 32) (S6.1 8) ((0 : Int32).toNatClampNeg) ((0 : Int32).toNatClampNeg) ((4 : Int32).toNatClampNeg))) 9 (va_cpy ((xf S6 8 (va_cpy (S6.1 32) (S6.1 8) ((0 : Int32).toNatClampNeg) ((0 : Int32).toNatClampNeg) ((4 : Int32).toNatClampNeg))).1 33) ((xf S6 8 (va_cpy (S6.1 32) (S6.1 8) ((0 : Int32).toNatClampNeg) ((0 : Int32).toNatClampNeg) ((4 : Int32).toNatClampNeg))).1 9) ((0 : Int32).toNatClampNeg) ((0 : Int32).toNatClampNeg) ((4 : Int32).toNatClampNeg))).1 34) ((xf (xf S6 8 (va_cpy (S6.1 32) (S6.1 8) ((0 : Int32).toNatClampNeg) ((0 : Int32).toNatClampNeg) ((4 : Int32).toNatClampNeg))) 9 (va_cpy ((xf S6 8 (va_cpy (S6.1 32) (S6.1 8) ((0 : Int32).toNatClampNeg) ((0 : Int32).toNatClampNeg) ((4 : Int32).toNatClampNeg))).1 33) ((xf S6 8 (va_cpy (S6.1 32) (S6.1 8) ((0 : Int32).toNatClampNeg) ((0 : Int32).toNatClampNeg) ((4 : Int32).toNatClampNeg))).1 9) ((0 : Int32).toNatClampNeg) ((0 : Int32).toNatClampNeg) ((4 : Int32).toNatClampNeg))).1 10) ((0 : Int32).toNatClampNeg) ((0 : Int32).toNatClampNeg) ((4 : Int32).toNatClampNeg))).1 14) ((0 : Int32).toNatClampNeg) ((0 : Int32).toNatClampNeg) (((xf (xf (xf S6 8 (va_cpy (S6.1 32) (S6.1 8) ((0 : Int32).toNatClampNeg) ((0 : Int32).toNatClampNeg) ((4 : Int32).toNatClampNeg))) 9 (va_cpy ((xf S6 8 (va_cpy (S6.1 32) (S6.1 8) ((0 : Int32).toNatClampNeg) ((0 : Int32).toNatClampNeg) ((4 : Int32).toNatClampNeg))).1 33) ((xf S6 8 (va_cpy (S6.1 32) (S6.1 8) ((0 : Int32).toNatClampNeg) ((0 : Int32).toNatClampNeg) ((4 : Int32).toNatClampNeg))).1 9) ((0 : Int32).toNatClampNeg) ((0 : Int32).toNatClampNeg) ((4 : Int32).toNatClampNeg))) 10 (va_cpy ((xf (xf S6 8 (va_cpy (S6.1 32) (S6.1 8) ((0 : Int32).toNatClampNeg) ((0 : Int32).toNatClampNeg) ((4 : Int32).toNatClampNeg))) 9 (va_cpy ((xf S6 8 (va_cpy (S6.1 32) (S6.1 8) ((0 : Int32).toNatClampNeg) ((0 : Int32).toNatClampNeg) ((4 : Int32).toNatClampNeg))).1 33) ((xf S6 8 (va_cpy (S6.1 32) (S6.1 8) ((0 : Int32).toNatClampNeg) ((0 : Int32).toNatClampNeg) ((4 : Int32).toNatClampNeg))).1 9) ((0 : Int32).toNatClampNeg) ((0 : Int32).toNatClampNeg) ((4 : Int32).toNatClampNeg))).1 34) ((xf (xf S6 8 (va_cpy (S6.1 32) (S6.1 8) ((0 : Int32).toNatClampNeg) ((0 : Int32).toNatClampNeg) ((4 : Int32).toNatClampNeg))) 9 (va_cpy ((xf S6 8 (va_cpy (S6.1 32) (S6.1 8) ((0 : Int32).toNatClampNeg) ((0 : Int32).toNatClampNeg) ((4 : Int32).toNatClampNeg))).1 33) ((xf S6 8 (va_cpy (S6.1 32) (S6.1 8) ((0 : Int32).toNatClampNeg) ((0 : Int32).toNatClampNeg) ((4 : Int32).toNatClampNeg))).1 9) ((0 : Int32).toNatClampNeg) ((0 : Int32).toNatClampNeg) ((4 : Int32).toNatClampNeg))).1 10) ((0 : Int32).toNatClampNeg) ((0 : Int32).toNatClampNeg) ((4 : Int32).toNatClampNeg))).1 29 0).toNatClampNeg))).1 29 0).toNatClampNeg))) hc hw hR (by decide) (hml.trans hl.1.symm) (mem_g 1088 (by decide +kernel) rfl) (mem_g 463 (by decide +kernel) rfl) (mem_g 462 (by decide +kernel) rfl) (mem_g 88 (by decide +kernel) rfl) (Nat.le_of_ble_eq_true rfl) ((xW_A (k := 23) (by decide)).trans rfl) ((xW_A (k := 18) (by decide)).trans rfl) (xW_setA (k := 18) (by decide) rfl (xf_R (k := 15) (by decide)) (xf_T (k := 15) (by decide))) hk11 dX2_restore_144 (fun H locs hw => ?_)
  obtain rfl := Option.some.inj hf
  exact hQ _ _ _ _ dX2_restore_147 hw
def xf_R_refuse (S : xS) : xS := (if (S.1 38 0) = (-1) then xs (xs S 38 0 (S.1 42 0)) 43 0 10 else S)
set_option maxRecDepth 100000 in
theorem cx_R_refuse (l : Launch) (S : xS) (S1 : xS) (hf : xf_R_refuse S = S1) : xMv l yX7_refuse cX7_refuse 1 2 (fun g => [.ref (xr g 3)]) S S1 := by
  refine xMv_of (own := RX7) (by decide) rfl (fun g => Nat.le_of_ble_eq_true rfl) ?_
  intro p e R s m args below meth c Q g A H0 H locs ls hc hR hml hw hl hQ
  have hl : lv_has ls 1 [(0, .ref (xr g 3))] := hl
  have hx := hc.1
  have hb := hc.2.1
  unfold xf_R_refuse at hf
  refine lv_aload_n hx hb dX7_refuse_0 rfl (lv_at hl 0 rfl) ?_
  refine x_g_reader_fault hc hw fl_7_11 dX7_refuse_1 ?_
  refine lv_iconst (v := (-1)) hx hb dX7_refuse_4 (by decide) ?_
  refine lv_icmp_ne (tgt := 22) hx hb dX7_refuse_5 (by decide) (fun cn1 => ?_) (fun cn1 => ?_)
  · have hf := (if_neg cn1).symm.trans hf
    obtain rfl := hf
    exact hQ _ _ _ _ dX7_refuse_22 hw
  · have hf := (if_pos cn1).symm.trans hf
    refine lv_aload_n hx hb dX7_refuse_8 rfl (lv_at hl 0 rfl) ?_
    refine lv_aload_n hx hb dX7_refuse_9 rfl (lv_at hl 0 rfl) ?_
    refine x_g_reader_start hc hw fl_7_25 dX7_refuse_10 ?_
    refine x_p_reader_fault hc hw fl_7_11 dX7_refuse_13 (fun H locs hw => ?_)
    refine lv_aload_n hx hb dX7_refuse_16 rfl (lv_at hl 0 rfl) ?_
    refine lv_bipush (v := 10) hx hb dX7_refuse_17 (by decide) ?_
    refine x_p_reader_token hc hw fl_7_28 dX7_refuse_19 (fun H locs hw => ?_)
    obtain rfl := hf
    exact hQ _ _ _ _ dX7_refuse_22 hw
def xf_R_put (N : Nat) (S : xS) (a1 : Int32) (a2 : Int32) : Option (xS) := (if 160 ≤ (S.1 48 0) then some S else (if ok (S.1 48 0) 160 then some (xs (xs S 46 (S.1 48 0).toNatClampNeg ((a1 <<< (14 &&& 31)) ||| a2)) 48 0 (((xs S 46 (S.1 48 0).toNatClampNeg ((a1 <<< (14 &&& 31)) ||| a2)).1 48 0) + 1)) else none))
set_option maxRecDepth 100000 in
theorem cx_R_put (l : Launch) (N : Nat) (S : xS) (a1 : Int32) (a2 : Int32) (S1 : xS) (hf : xf_R_put N S a1 a2 = some S1) : xMv l yX7_put cX7_put 3 2 (fun g => [.ref (xr g 3), .int a1, .int a2]) S S1 := by
  refine xMv_of (own := RX7) (by decide) rfl (fun g => Nat.le_of_ble_eq_true rfl) ?_
  intro p e R s m args below meth c Q g A H0 H locs ls hc hR hml hw hl hQ
  have hl : lv_has ls 3 [(0, .ref (xr g 3)), (1, .int a1), (2, .int a2)] := hl
  have hx := hc.1
  have hb := hc.2.1
  unfold xf_R_put at hf
  refine lv_aload_n hx hb dX7_put_0 rfl (lv_at hl 0 rfl) ?_
  refine x_g_reader_stepCount hc hw fl_7_44 dX7_put_1 ?_
  refine lv_aload_n hx hb dX7_put_4 rfl (lv_at hl 0 rfl) ?_
  refine x_g_reader_steps hc hw fl_7_37 dX7_put_5 ?_
  refine va_alen (v := 160) hx hb hw.1 hw.2.1 28 0 ((xW_A (by decide)).trans rfl) rfl rfl dX7_put_8 ?_
  refine lv_icmp_ge (tgt := 37) hx hb dX7_put_9 (by decide) (fun cn2 => ?_) (fun cn2 => ?_)
  · have hf := (if_pos cn2).symm.trans hf
    obtain rfl := Option.some.inj hf
    exact hQ _ _ _ _ dX7_put_37 hw
  · have hf := (if_neg cn2).symm.trans hf
    refine lv_aload_n hx hb dX7_put_12 rfl (lv_at hl 0 rfl) ?_
    refine x_g_reader_steps hc hw fl_7_37 dX7_put_13 ?_
    refine lv_aload_n hx hb dX7_put_16 rfl (lv_at hl 0 rfl) ?_
    refine x_g_reader_stepCount hc hw fl_7_44 dX7_put_17 ?_
    refine lv_iload_n hx hb dX7_put_20 rfl (lv_at hl 1 rfl) ?_
    refine lv_bipush (v := 14) hx hb dX7_put_21 (by decide) ?_
    refine lv_ishl hx hb dX7_put_23 ?_
    refine lv_iload_n hx hb dX7_put_24 rfl (lv_at hl 2 rfl) ?_
    refine lv_ior hx hb dX7_put_25 ?_
    obtain ⟨hi1, hf⟩ := gd_some hf
    refine x_s_reader_steps hc hw (ok_in hi1) dX7_put_26 (fun H locs hw => ?_)
    refine lv_aload_n hx hb dX7_put_27 rfl (lv_at hl 0 rfl) ?_
    refine lv_dup hx hb dX7_put_28 rfl ?_
    refine x_g_reader_stepCount hc hw fl_7_44 dX7_put_29 ?_
    refine lv_iconst (v := 1) hx hb dX7_put_32 (by decide) ?_
    refine lv_iadd hx hb dX7_put_33 ?_
    refine x_p_reader_stepCount hc hw fl_7_44 dX7_put_34 (fun H locs hw => ?_)
    obtain rfl := Option.some.inj hf
    exact hQ _ _ _ _ dX7_put_37 hw
def xf_R_isLetter (a1 : Int32) : Bool := (if a1 < 97 then false else (if 122 < a1 then false else true))
set_option maxRecDepth 100000 in
theorem cx_R_isLetter (l : Launch) (S : xS) (a1 : Int32) (res : Bool) (hf : xf_R_isLetter a1 = res) : xMi l yX7_isLetter cX7_isLetter 1 .boolean 2 (fun g => [.int a1]) S (bi res) S := by
  refine xMi_of (own := RX7) (by decide) rfl (narrow_bi _) (fun g => Nat.le_of_ble_eq_true rfl) ?_
  intro p e R s m args below meth c Q g A H0 H locs ls hc hR hml hw hl hQ
  have hl : lv_has ls 1 [(0, .int a1)] := hl
  have hx := hc.1
  have hb := hc.2.1
  unfold xf_R_isLetter at hf
  refine lv_iload_n hx hb dX7_isLetter_0 rfl (lv_at hl 0 rfl) ?_
  refine lv_bipush (v := 97) hx hb dX7_isLetter_1 (by decide) ?_
  refine lv_icmp_lt (tgt := 16) hx hb dX7_isLetter_3 (by decide) (fun cn1 => ?_) (fun cn1 => ?_)
  · have hf := (if_pos cn1).symm.trans hf
    refine lv_iconst (v := 0) hx hb dX7_isLetter_16 (by decide) ?_
    obtain rfl := hf
    exact hQ _ _ _ _ dX7_isLetter_17 hw
  · have hf := (if_neg cn1).symm.trans hf
    refine lv_iload_n hx hb dX7_isLetter_6 rfl (lv_at hl 0 rfl) ?_
    refine lv_bipush (v := 122) hx hb dX7_isLetter_7 (by decide) ?_
    refine lv_icmp_gt (tgt := 16) hx hb dX7_isLetter_9 (by decide) (fun cn2 => ?_) (fun cn2 => ?_)
    · have hf := (if_pos cn2).symm.trans hf
      refine lv_iconst (v := 0) hx hb dX7_isLetter_16 (by decide) ?_
      obtain rfl := hf
      exact hQ _ _ _ _ dX7_isLetter_17 hw
    · have hf := (if_neg cn2).symm.trans hf
      refine lv_iconst (v := 1) hx hb dX7_isLetter_12 (by decide) ?_
      refine lv_goto (tgt := 17) hx hb dX7_isLetter_13 (by decide) ?_
      obtain rfl := hf
      exact hQ _ _ _ _ dX7_isLetter_17 hw
def xf_R_isDigit (a1 : Int32) : Bool := (if a1 < 48 then false else (if 57 < a1 then false else true))
set_option maxRecDepth 100000 in
theorem cx_R_isDigit (l : Launch) (S : xS) (a1 : Int32) (res : Bool) (hf : xf_R_isDigit a1 = res) : xMi l yX7_isDigit cX7_isDigit 1 .boolean 2 (fun g => [.int a1]) S (bi res) S := by
  refine xMi_of (own := RX7) (by decide) rfl (narrow_bi _) (fun g => Nat.le_of_ble_eq_true rfl) ?_
  intro p e R s m args below meth c Q g A H0 H locs ls hc hR hml hw hl hQ
  have hl : lv_has ls 1 [(0, .int a1)] := hl
  have hx := hc.1
  have hb := hc.2.1
  unfold xf_R_isDigit at hf
  refine lv_iload_n hx hb dX7_isDigit_0 rfl (lv_at hl 0 rfl) ?_
  refine lv_bipush (v := 48) hx hb dX7_isDigit_1 (by decide) ?_
  refine lv_icmp_lt (tgt := 16) hx hb dX7_isDigit_3 (by decide) (fun cn1 => ?_) (fun cn1 => ?_)
  · have hf := (if_pos cn1).symm.trans hf
    refine lv_iconst (v := 0) hx hb dX7_isDigit_16 (by decide) ?_
    obtain rfl := hf
    exact hQ _ _ _ _ dX7_isDigit_17 hw
  · have hf := (if_neg cn1).symm.trans hf
    refine lv_iload_n hx hb dX7_isDigit_6 rfl (lv_at hl 0 rfl) ?_
    refine lv_bipush (v := 57) hx hb dX7_isDigit_7 (by decide) ?_
    refine lv_icmp_gt (tgt := 16) hx hb dX7_isDigit_9 (by decide) (fun cn2 => ?_) (fun cn2 => ?_)
    · have hf := (if_pos cn2).symm.trans hf
      refine lv_iconst (v := 0) hx hb dX7_isDigit_16 (by decide) ?_
      obtain rfl := hf
      exact hQ _ _ _ _ dX7_isDigit_17 hw
    · have hf := (if_neg cn2).symm.trans hf
      refine lv_iconst (v := 1) hx hb dX7_isDigit_12 (by decide) ?_
      refine lv_goto (tgt := 17) hx hb dX7_isDigit_13 (by decide) ?_
      obtain rfl := hf
      exact hQ _ _ _ _ dX7_isDigit_17 hw
def xf_R_isSign (a1 : Int32) : Bool := (if a1 = 40 then true else (if a1 = 41 then true else (if a1 = 59 then true else (if a1 = 43 then true else (if a1 = 45 then true else (if a1 = 42 then true else (if a1 = 60 then true else (if a1 = 61 then true else false))))))))
set_option maxRecDepth 100000 in
theorem cx_R_isSign (l : Launch) (S : xS) (a1 : Int32) (res : Bool) (hf : xf_R_isSign a1 = res) : xMi l yX7_isSign cX7_isSign 1 .boolean 2 (fun g => [.int a1]) S (bi res) S := by
  refine xMi_of (own := RX7) (by decide) rfl (narrow_bi _) (fun g => Nat.le_of_ble_eq_true rfl) ?_
  intro p e R s m args below meth c Q g A H0 H locs ls hc hR hml hw hl hQ
  have hl : lv_has ls 1 [(0, .int a1)] := hl
  have hx := hc.1
  have hb := hc.2.1
  unfold xf_R_isSign at hf
  refine lv_iload_n hx hb dX7_isSign_0 rfl (lv_at hl 0 rfl) ?_
  refine lv_bipush (v := 40) hx hb dX7_isSign_1 (by decide) ?_
  refine lv_icmp_eq (tgt := 48) hx hb dX7_isSign_3 (by decide) (fun cn1 => ?_) (fun cn1 => ?_)
  · have hf := (if_pos cn1).symm.trans hf
    refine lv_iconst (v := 1) hx hb dX7_isSign_48 (by decide) ?_
    refine lv_goto (tgt := 53) hx hb dX7_isSign_49 (by decide) ?_
    obtain rfl := hf
    exact hQ _ _ _ _ dX7_isSign_53 hw
  · have hf := (if_neg cn1).symm.trans hf
    refine lv_iload_n hx hb dX7_isSign_6 rfl (lv_at hl 0 rfl) ?_
    refine lv_bipush (v := 41) hx hb dX7_isSign_7 (by decide) ?_
    refine lv_icmp_eq (tgt := 48) hx hb dX7_isSign_9 (by decide) (fun cn2 => ?_) (fun cn2 => ?_)
    · have hf := (if_pos cn2).symm.trans hf
      refine lv_iconst (v := 1) hx hb dX7_isSign_48 (by decide) ?_
      refine lv_goto (tgt := 53) hx hb dX7_isSign_49 (by decide) ?_
      obtain rfl := hf
      exact hQ _ _ _ _ dX7_isSign_53 hw
    · have hf := (if_neg cn2).symm.trans hf
      refine lv_iload_n hx hb dX7_isSign_12 rfl (lv_at hl 0 rfl) ?_
      refine lv_bipush (v := 59) hx hb dX7_isSign_13 (by decide) ?_
      refine lv_icmp_eq (tgt := 48) hx hb dX7_isSign_15 (by decide) (fun cn3 => ?_) (fun cn3 => ?_)
      · have hf := (if_pos cn3).symm.trans hf
        refine lv_iconst (v := 1) hx hb dX7_isSign_48 (by decide) ?_
        refine lv_goto (tgt := 53) hx hb dX7_isSign_49 (by decide) ?_
        obtain rfl := hf
        exact hQ _ _ _ _ dX7_isSign_53 hw
      · have hf := (if_neg cn3).symm.trans hf
        refine lv_iload_n hx hb dX7_isSign_18 rfl (lv_at hl 0 rfl) ?_
        refine lv_bipush (v := 43) hx hb dX7_isSign_19 (by decide) ?_
        refine lv_icmp_eq (tgt := 48) hx hb dX7_isSign_21 (by decide) (fun cn4 => ?_) (fun cn4 => ?_)
        · have hf := (if_pos cn4).symm.trans hf
          refine lv_iconst (v := 1) hx hb dX7_isSign_48 (by decide) ?_
          refine lv_goto (tgt := 53) hx hb dX7_isSign_49 (by decide) ?_
          obtain rfl := hf
          exact hQ _ _ _ _ dX7_isSign_53 hw
        · have hf := (if_neg cn4).symm.trans hf
          refine lv_iload_n hx hb dX7_isSign_24 rfl (lv_at hl 0 rfl) ?_
          refine lv_bipush (v := 45) hx hb dX7_isSign_25 (by decide) ?_
          refine lv_icmp_eq (tgt := 48) hx hb dX7_isSign_27 (by decide) (fun cn5 => ?_) (fun cn5 => ?_)
          · have hf := (if_pos cn5).symm.trans hf
            refine lv_iconst (v := 1) hx hb dX7_isSign_48 (by decide) ?_
            refine lv_goto (tgt := 53) hx hb dX7_isSign_49 (by decide) ?_
            obtain rfl := hf
            exact hQ _ _ _ _ dX7_isSign_53 hw
          · have hf := (if_neg cn5).symm.trans hf
            refine lv_iload_n hx hb dX7_isSign_30 rfl (lv_at hl 0 rfl) ?_
            refine lv_bipush (v := 42) hx hb dX7_isSign_31 (by decide) ?_
            refine lv_icmp_eq (tgt := 48) hx hb dX7_isSign_33 (by decide) (fun cn6 => ?_) (fun cn6 => ?_)
            · have hf := (if_pos cn6).symm.trans hf
              refine lv_iconst (v := 1) hx hb dX7_isSign_48 (by decide) ?_
              refine lv_goto (tgt := 53) hx hb dX7_isSign_49 (by decide) ?_
              obtain rfl := hf
              exact hQ _ _ _ _ dX7_isSign_53 hw
            · have hf := (if_neg cn6).symm.trans hf
              refine lv_iload_n hx hb dX7_isSign_36 rfl (lv_at hl 0 rfl) ?_
              refine lv_bipush (v := 60) hx hb dX7_isSign_37 (by decide) ?_
              refine lv_icmp_eq (tgt := 48) hx hb dX7_isSign_39 (by decide) (fun cn7 => ?_) (fun cn7 => ?_)
              · have hf := (if_pos cn7).symm.trans hf
                refine lv_iconst (v := 1) hx hb dX7_isSign_48 (by decide) ?_
                refine lv_goto (tgt := 53) hx hb dX7_isSign_49 (by decide) ?_
                obtain rfl := hf
                exact hQ _ _ _ _ dX7_isSign_53 hw
              · have hf := (if_neg cn7).symm.trans hf
                refine lv_iload_n hx hb dX7_isSign_42 rfl (lv_at hl 0 rfl) ?_
                refine lv_bipush (v := 61) hx hb dX7_isSign_43 (by decide) ?_
                refine lv_icmp_ne (tgt := 52) hx hb dX7_isSign_45 (by decide) (fun cn8 => ?_) (fun cn8 => ?_)
                · have hf := (if_neg cn8).symm.trans hf
                  refine lv_iconst (v := 0) hx hb dX7_isSign_52 (by decide) ?_
                  obtain rfl := hf
                  exact hQ _ _ _ _ dX7_isSign_53 hw
                · have hf := (if_pos cn8).symm.trans hf
                  refine lv_iconst (v := 1) hx hb dX7_isSign_48 (by decide) ?_
                  refine lv_goto (tgt := 53) hx hb dX7_isSign_49 (by decide) ?_
                  obtain rfl := hf
                  exact hQ _ _ _ _ dX7_isSign_53 hw
def xf_L_lay (S : xS) (a1 : Int32) (a2 : Int32) (a3 : Int32) (a4 : Int32) (a5 : Int32) : xS := xs (xs (xs (xs (xs S 49 0 a1) 50 0 a4) 51 0 (a2 - a4)) 52 0 a5) 53 0 (a3 - a5)
set_option maxRecDepth 100000 in
theorem cx_L_lay (l : Launch) (S : xS) (a1 : Int32) (a2 : Int32) (a3 : Int32) (a4 : Int32) (a5 : Int32) (S1 : xS) (hf : xf_L_lay S a1 a2 a3 a4 a5 = S1) : xMv l yX4_lay cX4_lay 6 2 (fun g => [.ref (xr g 4), .int a1, .int a2, .int a3, .int a4, .int a5]) S S1 := by
  refine xMv_of (own := RX4) (by decide) rfl (fun g => Nat.le_of_ble_eq_true rfl) ?_
  intro p e R s m args below meth c Q g A H0 H locs ls hc hR hml hw hl hQ
  have hl : lv_has ls 6 [(0, .ref (xr g 4)), (1, .int a1), (2, .int a2), (3, .int a3), (4, .int a4), (5, .int a5)] := hl
  have hx := hc.1
  have hb := hc.2.1
  unfold xf_L_lay at hf
  refine lv_aload_n hx hb dX4_lay_0 rfl (lv_at hl 0 rfl) ?_
  refine lv_iload_n hx hb dX4_lay_1 rfl (lv_at hl 1 rfl) ?_
  refine x_p_line_far hc hw fl_4_7 dX4_lay_2 (fun H locs hw => ?_)
  refine lv_aload_n hx hb dX4_lay_5 rfl (lv_at hl 0 rfl) ?_
  refine lv_iload hx hb dX4_lay_6 (lv_at hl 4 rfl) ?_
  refine x_p_line_pointPlace hc hw fl_4_13 dX4_lay_8 (fun H locs hw => ?_)
  refine lv_aload_n hx hb dX4_lay_11 rfl (lv_at hl 0 rfl) ?_
  refine lv_iload_n hx hb dX4_lay_12 rfl (lv_at hl 2 rfl) ?_
  refine lv_iload hx hb dX4_lay_13 (lv_at hl 4 rfl) ?_
  refine lv_isub hx hb dX4_lay_15 ?_
  refine x_p_line_across hc hw fl_4_16 dX4_lay_16 (fun H locs hw => ?_)
  refine lv_aload_n hx hb dX4_lay_19 rfl (lv_at hl 0 rfl) ?_
  refine lv_iload hx hb dX4_lay_20 (lv_at hl 5 rfl) ?_
  refine x_p_line_pointHigh hc hw fl_4_19 dX4_lay_22 (fun H locs hw => ?_)
  refine lv_aload_n hx hb dX4_lay_25 rfl (lv_at hl 0 rfl) ?_
  refine lv_iload_n hx hb dX4_lay_26 rfl (lv_at hl 3 rfl) ?_
  refine lv_iload hx hb dX4_lay_27 (lv_at hl 5 rfl) ?_
  refine lv_isub hx hb dX4_lay_29 ?_
  refine x_p_line_up hc hw fl_4_22 dX4_lay_30 (fun H locs hw => ?_)
  obtain rfl := hf
  exact hQ _ _ _ _ dX4_lay_33 hw
def xf_L_besides (S : xS) (a1 : Int32) (a2 : Int32) : Int32 := (((S.1 50 0) - a2) * (S.1 49 0)) + ((S.1 51 0) * a1)
set_option maxRecDepth 100000 in
theorem cx_L_besides (l : Launch) (S : xS) (a1 : Int32) (a2 : Int32) (res : Int32) (hf : xf_L_besides S a1 a2 = res) : xMi l yX4_besides cX4_besides 3 .int 2 (fun g => [.ref (xr g 4), .int a1, .int a2]) S res S := by
  refine xMi_of (own := RX4) (by decide) rfl rfl (fun g => Nat.le_of_ble_eq_true rfl) ?_
  intro p e R s m args below meth c Q g A H0 H locs ls hc hR hml hw hl hQ
  have hl : lv_has ls 3 [(0, .ref (xr g 4)), (1, .int a1), (2, .int a2)] := hl
  have hx := hc.1
  have hb := hc.2.1
  unfold xf_L_besides at hf
  refine lv_aload_n hx hb dX4_besides_0 rfl (lv_at hl 0 rfl) ?_
  refine x_g_line_pointPlace hc hw fl_4_13 dX4_besides_1 ?_
  refine lv_iload_n hx hb dX4_besides_4 rfl (lv_at hl 2 rfl) ?_
  refine lv_isub hx hb dX4_besides_5 ?_
  refine lv_aload_n hx hb dX4_besides_6 rfl (lv_at hl 0 rfl) ?_
  refine x_g_line_far hc hw fl_4_7 dX4_besides_7 ?_
  refine lv_imul hx hb dX4_besides_10 ?_
  refine lv_aload_n hx hb dX4_besides_11 rfl (lv_at hl 0 rfl) ?_
  refine x_g_line_across hc hw fl_4_16 dX4_besides_12 ?_
  refine lv_iload_n hx hb dX4_besides_15 rfl (lv_at hl 1 rfl) ?_
  refine lv_imul hx hb dX4_besides_16 ?_
  refine lv_iadd hx hb dX4_besides_17 ?_
  obtain rfl := hf
  exact hQ _ _ _ _ dX4_besides_18 hw
def xf_L_isTouchedBy (S : xS) (a1 : Int32) (a2 : Int32) : Bool := (if (a2 * (S.1 49 0)) < (((S.1 52 0) * (S.1 49 0)) + ((S.1 53 0) * a1)) then false else true)
set_option maxRecDepth 100000 in
theorem cx_L_isTouchedBy (l : Launch) (S : xS) (a1 : Int32) (a2 : Int32) (res : Bool) (hf : xf_L_isTouchedBy S a1 a2 = res) : xMi l yX4_isTouchedBy cX4_isTouchedBy 3 .boolean 2 (fun g => [.ref (xr g 4), .int a1, .int a2]) S (bi res) S := by
  refine xMi_of (own := RX4) (by decide) rfl (narrow_bi _) (fun g => Nat.le_of_ble_eq_true rfl) ?_
  intro p e R s m args below meth c Q g A H0 H locs ls hc hR hml hw hl hQ
  have hl : lv_has ls 3 [(0, .ref (xr g 4)), (1, .int a1), (2, .int a2)] := hl
  have hx := hc.1
  have hb := hc.2.1
  unfold xf_L_isTouchedBy at hf
  refine lv_iload_n hx hb dX4_isTouchedBy_0 rfl (lv_at hl 2 rfl) ?_
  refine lv_aload_n hx hb dX4_isTouchedBy_1 rfl (lv_at hl 0 rfl) ?_
  refine x_g_line_far hc hw fl_4_7 dX4_isTouchedBy_2 ?_
  refine lv_imul hx hb dX4_isTouchedBy_5 ?_
  refine lv_aload_n hx hb dX4_isTouchedBy_6 rfl (lv_at hl 0 rfl) ?_
  refine x_g_line_pointHigh hc hw fl_4_19 dX4_isTouchedBy_7 ?_
  refine lv_aload_n hx hb dX4_isTouchedBy_10 rfl (lv_at hl 0 rfl) ?_
  refine x_g_line_far hc hw fl_4_7 dX4_isTouchedBy_11 ?_
  refine lv_imul hx hb dX4_isTouchedBy_14 ?_
  refine lv_aload_n hx hb dX4_isTouchedBy_15 rfl (lv_at hl 0 rfl) ?_
  refine x_g_line_up hc hw fl_4_22 dX4_isTouchedBy_16 ?_
  refine lv_iload_n hx hb dX4_isTouchedBy_19 rfl (lv_at hl 1 rfl) ?_
  refine lv_imul hx hb dX4_isTouchedBy_20 ?_
  refine lv_iadd hx hb dX4_isTouchedBy_21 ?_
  refine lv_icmp_lt (tgt := 29) hx hb dX4_isTouchedBy_22 (by decide) (fun cn1 => ?_) (fun cn1 => ?_)
  · have hf := (if_pos cn1).symm.trans hf
    refine lv_iconst (v := 0) hx hb dX4_isTouchedBy_29 (by decide) ?_
    obtain rfl := hf
    exact hQ _ _ _ _ dX4_isTouchedBy_30 hw
  · have hf := (if_neg cn1).symm.trans hf
    refine lv_iconst (v := 1) hx hb dX4_isTouchedBy_25 (by decide) ?_
    refine lv_goto (tgt := 30) hx hb dX4_isTouchedBy_26 (by decide) ?_
    obtain rfl := hf
    exact hQ _ _ _ _ dX4_isTouchedBy_30 hw
def xf_W_placeOf (N : Nat) (S : xS) (a0 : Int32) (a1 : Int32) : Option (Int32) := (if a0.toNatClampNeg < S.2.2.1 then some (((2 * a1) + (S.1 58 a0.toNatClampNeg)) + (S.1 59 a0.toNatClampNeg)) else none)
set_option maxRecDepth 100000 in
theorem cx_W_placeOf (l : Launch) (N : Nat) (S : xS) (a0 : Int32) (a1 : Int32) (res : Int32) (hf : xf_W_placeOf N S a0 a1 = some res) : xMi l yX8_placeOf cX8_placeOf 2 .int 2 (fun g => [.ref (xr g (100 + 2 * a0.toNatClampNeg)), .int a1]) S res S := by
  refine xMi_of (own := RX8) (by decide) rfl rfl (fun g => Nat.le_of_ble_eq_true rfl) ?_
  intro p e R s m args below meth c Q g A H0 H locs ls hc hR hml hw hl hQ
  have hl : lv_has ls 2 [(0, .ref (xr g (100 + 2 * a0.toNatClampNeg))), (1, .int a1)] := hl
  have hx := hc.1
  have hb := hc.2.1
  unfold xf_W_placeOf at hf
  refine lv_iconst (v := 2) hx hb dX8_placeOf_0 (by decide) ?_
  refine lv_iload_n hx hb dX8_placeOf_1 rfl (lv_at hl 1 rfl) ?_
  refine lv_imul hx hb dX8_placeOf_2 ?_
  refine lv_aload_n hx hb dX8_placeOf_3 rfl (lv_at hl 0 rfl) ?_
  obtain ⟨hr1, hf⟩ := gd_some hf
  refine x_rg_shift hc hw hr1 fl_8_19 dX8_placeOf_4 ?_
  refine lv_iadd hx hb dX8_placeOf_7 ?_
  refine lv_aload_n hx hb dX8_placeOf_8 rfl (lv_at hl 0 rfl) ?_
  refine x_rg_aside hc hw hr1 fl_8_22 dX8_placeOf_9 ?_
  refine lv_iadd hx hb dX8_placeOf_12 ?_
  obtain rfl := Option.some.inj hf
  exact hQ _ _ _ _ dX8_placeOf_13 hw
def xf_W_floor (N : Nat) (S : xS) (a0 : Int32) : Option (Int32) := (if a0.toNatClampNeg < S.2.2.1 then some ((S.1 57 a0.toNatClampNeg) + (S.1 60 a0.toNatClampNeg)) else none)
set_option maxRecDepth 100000 in
theorem cx_W_floor (l : Launch) (N : Nat) (S : xS) (a0 : Int32) (res : Int32) (hf : xf_W_floor N S a0 = some res) : xMi l yX8_floor cX8_floor 1 .int 2 (fun g => [.ref (xr g (100 + 2 * a0.toNatClampNeg))]) S res S := by
  refine xMi_of (own := RX8) (by decide) rfl rfl (fun g => Nat.le_of_ble_eq_true rfl) ?_
  intro p e R s m args below meth c Q g A H0 H locs ls hc hR hml hw hl hQ
  have hl : lv_has ls 1 [(0, .ref (xr g (100 + 2 * a0.toNatClampNeg)))] := hl
  have hx := hc.1
  have hb := hc.2.1
  unfold xf_W_floor at hf
  refine lv_aload_n hx hb dX8_floor_0 rfl (lv_at hl 0 rfl) ?_
  obtain ⟨hr1, hf⟩ := gd_some hf
  refine x_rg_rise hc hw hr1 fl_8_15 dX8_floor_1 ?_
  refine lv_aload_n hx hb dX8_floor_4 rfl (lv_at hl 0 rfl) ?_
  refine x_rg_above hc hw hr1 fl_8_25 dX8_floor_5 ?_
  refine lv_iadd hx hb dX8_floor_8 ?_
  obtain rfl := Option.some.inj hf
  exact hQ _ _ _ _ dX8_floor_9 hw
def xf_W_heightOf (N : Nat) (S : xS) (a0 : Int32) (a1 : Int32) : Option (Int32) := (if a0.toNatClampNeg < S.2.2.1 then (if a1 ≤ (S.1 62 a0.toNatClampNeg) then some (((S.1 57 a0.toNatClampNeg) + (S.1 60 a0.toNatClampNeg)) + 0) else some (((S.1 57 a0.toNatClampNeg) + (S.1 60 a0.toNatClampNeg)) + (a1 - (S.1 62 a0.toNatClampNeg)))) else none)
set_option maxRecDepth 100000 in
theorem cx_W_heightOf (l : Launch) (N : Nat) (S : xS) (a0 : Int32) (a1 : Int32) (res : Int32) (hf : xf_W_heightOf N S a0 a1 = some res) : xMi l yX8_heightOf cX8_heightOf 2 .int 2 (fun g => [.ref (xr g (100 + 2 * a0.toNatClampNeg)), .int a1]) S res S := by
  refine xMi_of (own := RX8) (by decide) rfl rfl (fun g => Nat.le_of_ble_eq_true rfl) ?_
  intro p e R s m args below meth c Q g A H0 H locs ls hc hR hml hw hl hQ
  have hl : lv_has ls 2 [(0, .ref (xr g (100 + 2 * a0.toNatClampNeg))), (1, .int a1)] := hl
  have hx := hc.1
  have hb := hc.2.1
  unfold xf_W_heightOf at hf
  refine lv_aload_n hx hb dX8_heightOf_0 rfl (lv_at hl 0 rfl) ?_
  obtain ⟨hr1, hf⟩ := gd_some hf
  refine x_rg_rise hc hw hr1 fl_8_15 dX8_heightOf_1 ?_
  refine lv_aload_n hx hb dX8_heightOf_4 rfl (lv_at hl 0 rfl) ?_
  refine x_rg_above hc hw hr1 fl_8_25 dX8_heightOf_5 ?_
  refine lv_iadd hx hb dX8_heightOf_8 ?_
  refine lv_iload_n hx hb dX8_heightOf_9 rfl (lv_at hl 1 rfl) ?_
  refine lv_aload_n hx hb dX8_heightOf_10 rfl (lv_at hl 0 rfl) ?_
  refine x_rg_low hc hw hr1 fl_8_28 dX8_heightOf_11 ?_
  refine lv_icmp_le (tgt := 26) hx hb dX8_heightOf_14 (by decide) (fun cn2 => ?_) (fun cn2 => ?_)
  · have hf := (if_pos cn2).symm.trans hf
    refine lv_iconst (v := 0) hx hb dX8_heightOf_26 (by decide) ?_
    refine lv_iadd hx hb dX8_heightOf_27 ?_
    obtain rfl := Option.some.inj hf
    exact hQ _ _ _ _ dX8_heightOf_28 hw
  · have hf := (if_neg cn2).symm.trans hf
    refine lv_iload_n hx hb dX8_heightOf_17 rfl (lv_at hl 1 rfl) ?_
    refine lv_aload_n hx hb dX8_heightOf_18 rfl (lv_at hl 0 rfl) ?_
    refine x_rg_low hc hw hr1 fl_8_28 dX8_heightOf_19 ?_
    refine lv_isub hx hb dX8_heightOf_22 ?_
    refine lv_goto (tgt := 27) hx hb dX8_heightOf_23 (by decide) ?_
    refine lv_iadd hx hb dX8_heightOf_27 ?_
    obtain rfl := Option.some.inj hf
    exact hQ _ _ _ _ dX8_heightOf_28 hw
def xf_T_joined (a1 : Int32) (a2 : Int32) (a3 : Int32) : Int32 := (if a1 = 3 then (if a2 = 0 then (if a3 = 0 then 0 else 1) else 1) else (if a1 = 4 then (if a2 = 0 then 0 else (if a3 = 0 then 0 else 1)) else (if a1 = 43 then a2 + a3 else (if a1 = 45 then a2 - a3 else (if a1 = 60 then (if a3 ≤ a2 then 0 else 1) else (if a1 = 61 then (if a2 = a3 then 1 else 0) else a2 * a3))))))
set_option maxRecDepth 100000 in
theorem cx_T_joined (l : Launch) (S : xS) (a1 : Int32) (a2 : Int32) (a3 : Int32) (res : Int32) (hf : xf_T_joined a1 a2 a3 = res) : xMi l yX10_joined cX10_joined 3 .int 2 (fun g => [.int a1, .int a2, .int a3]) S res S := by
  refine xMi_of (own := RX10) (by decide) rfl rfl (fun g => Nat.le_of_ble_eq_true rfl) ?_
  intro p e R s m args below meth c Q g A H0 H locs ls hc hR hml hw hl hQ
  have hl : lv_has ls 3 [(0, .int a1), (1, .int a2), (2, .int a3)] := hl
  have hx := hc.1
  have hb := hc.2.1
  unfold xf_T_joined at hf
  refine lv_iload_n hx hb dX10_joined_0 rfl (lv_at hl 0 rfl) ?_
  by_cases cn3 : a1 = 3
  · have hf := (if_pos cn3).symm.trans hf
    refine lv_lookup (tgt := 60) (off := 59) hx hb dX10_joined_1 (by decide) (by rw [cn3]; decide) (by decide) ?_
    refine lv_iload_n hx hb dX10_joined_60 rfl (lv_at hl 1 rfl) ?_
    refine lv_if_ne (tgt := 68) hx hb dX10_joined_61 (by decide) (fun cn1 => ?_) (fun cn1 => ?_)
    · have hf := (if_neg cn1).symm.trans hf
      refine lv_iconst (v := 1) hx hb dX10_joined_68 (by decide) ?_
      refine lv_goto (tgt := 73) hx hb dX10_joined_69 (by decide) ?_
      obtain rfl := hf
      exact hQ _ _ _ _ dX10_joined_73 hw
    · have hf := (if_pos cn1).symm.trans hf
      refine lv_iload_n hx hb dX10_joined_64 rfl (lv_at hl 2 rfl) ?_
      refine lv_if_eq (tgt := 72) hx hb dX10_joined_65 (by decide) (fun cn2 => ?_) (fun cn2 => ?_)
      · have hf := (if_pos cn2).symm.trans hf
        refine lv_iconst (v := 0) hx hb dX10_joined_72 (by decide) ?_
        obtain rfl := hf
        exact hQ _ _ _ _ dX10_joined_73 hw
      · have hf := (if_neg cn2).symm.trans hf
        refine lv_iconst (v := 1) hx hb dX10_joined_68 (by decide) ?_
        refine lv_goto (tgt := 73) hx hb dX10_joined_69 (by decide) ?_
        obtain rfl := hf
        exact hQ _ _ _ _ dX10_joined_73 hw
  have hf := (if_neg cn3).symm.trans hf
  by_cases cn6 : a1 = 4
  · have hf := (if_pos cn6).symm.trans hf
    refine lv_lookup (tgt := 74) (off := 73) hx hb dX10_joined_1 (by decide) (by rw [cn6]; decide) (by decide) ?_
    refine lv_iload_n hx hb dX10_joined_74 rfl (lv_at hl 1 rfl) ?_
    refine lv_if_eq (tgt := 86) hx hb dX10_joined_75 (by decide) (fun cn4 => ?_) (fun cn4 => ?_)
    · have hf := (if_pos cn4).symm.trans hf
      refine lv_iconst (v := 0) hx hb dX10_joined_86 (by decide) ?_
      obtain rfl := hf
      exact hQ _ _ _ _ dX10_joined_87 hw
    · have hf := (if_neg cn4).symm.trans hf
      refine lv_iload_n hx hb dX10_joined_78 rfl (lv_at hl 2 rfl) ?_
      refine lv_if_eq (tgt := 86) hx hb dX10_joined_79 (by decide) (fun cn5 => ?_) (fun cn5 => ?_)
      · have hf := (if_pos cn5).symm.trans hf
        refine lv_iconst (v := 0) hx hb dX10_joined_86 (by decide) ?_
        obtain rfl := hf
        exact hQ _ _ _ _ dX10_joined_87 hw
      · have hf := (if_neg cn5).symm.trans hf
        refine lv_iconst (v := 1) hx hb dX10_joined_82 (by decide) ?_
        refine lv_goto (tgt := 87) hx hb dX10_joined_83 (by decide) ?_
        obtain rfl := hf
        exact hQ _ _ _ _ dX10_joined_87 hw
  have hf := (if_neg cn6).symm.trans hf
  by_cases cn7 : a1 = 43
  · have hf := (if_pos cn7).symm.trans hf
    refine lv_lookup (tgt := 110) (off := 109) hx hb dX10_joined_1 (by decide) (by rw [cn7]; decide) (by decide) ?_
    refine lv_iload_n hx hb dX10_joined_110 rfl (lv_at hl 1 rfl) ?_
    refine lv_iload_n hx hb dX10_joined_111 rfl (lv_at hl 2 rfl) ?_
    refine lv_iadd hx hb dX10_joined_112 ?_
    obtain rfl := hf
    exact hQ _ _ _ _ dX10_joined_113 hw
  have hf := (if_neg cn7).symm.trans hf
  by_cases cn8 : a1 = 45
  · have hf := (if_pos cn8).symm.trans hf
    refine lv_lookup (tgt := 114) (off := 113) hx hb dX10_joined_1 (by decide) (by rw [cn8]; decide) (by decide) ?_
    refine lv_iload_n hx hb dX10_joined_114 rfl (lv_at hl 1 rfl) ?_
    refine lv_iload_n hx hb dX10_joined_115 rfl (lv_at hl 2 rfl) ?_
    refine lv_isub hx hb dX10_joined_116 ?_
    obtain rfl := hf
    exact hQ _ _ _ _ dX10_joined_117 hw
  have hf := (if_neg cn8).symm.trans hf
  by_cases cn10 : a1 = 60
  · have hf := (if_pos cn10).symm.trans hf
    refine lv_lookup (tgt := 88) (off := 87) hx hb dX10_joined_1 (by decide) (by rw [cn10]; decide) (by decide) ?_
    refine lv_iload_n hx hb dX10_joined_88 rfl (lv_at hl 1 rfl) ?_
    refine lv_iload_n hx hb dX10_joined_89 rfl (lv_at hl 2 rfl) ?_
    refine lv_icmp_ge (tgt := 97) hx hb dX10_joined_90 (by decide) (fun cn9 => ?_) (fun cn9 => ?_)
    · have hf := (if_pos cn9).symm.trans hf
      refine lv_iconst (v := 0) hx hb dX10_joined_97 (by decide) ?_
      obtain rfl := hf
      exact hQ _ _ _ _ dX10_joined_98 hw
    · have hf := (if_neg cn9).symm.trans hf
      refine lv_iconst (v := 1) hx hb dX10_joined_93 (by decide) ?_
      refine lv_goto (tgt := 98) hx hb dX10_joined_94 (by decide) ?_
      obtain rfl := hf
      exact hQ _ _ _ _ dX10_joined_98 hw
  have hf := (if_neg cn10).symm.trans hf
  by_cases cn12 : a1 = 61
  · have hf := (if_pos cn12).symm.trans hf
    refine lv_lookup (tgt := 99) (off := 98) hx hb dX10_joined_1 (by decide) (by rw [cn12]; decide) (by decide) ?_
    refine lv_iload_n hx hb dX10_joined_99 rfl (lv_at hl 1 rfl) ?_
    refine lv_iload_n hx hb dX10_joined_100 rfl (lv_at hl 2 rfl) ?_
    refine lv_icmp_ne (tgt := 108) hx hb dX10_joined_101 (by decide) (fun cn11 => ?_) (fun cn11 => ?_)
    · have hf := (if_neg cn11).symm.trans hf
      refine lv_iconst (v := 0) hx hb dX10_joined_108 (by decide) ?_
      obtain rfl := hf
      exact hQ _ _ _ _ dX10_joined_109 hw
    · have hf := (if_pos cn11).symm.trans hf
      refine lv_iconst (v := 1) hx hb dX10_joined_104 (by decide) ?_
      refine lv_goto (tgt := 109) hx hb dX10_joined_105 (by decide) ?_
      obtain rfl := hf
      exact hQ _ _ _ _ dX10_joined_109 hw
  have hf := (if_neg cn12).symm.trans hf
  refine lv_lookup (tgt := 118) (off := 117) hx hb dX10_joined_1 (by decide) (by have hcn3 := sw_ne cn3 (k := 3) (by decide); have hcn6 := sw_ne cn6 (k := 4) (by decide); have hcn7 := sw_ne cn7 (k := 43) (by decide); have hcn8 := sw_ne cn8 (k := 45) (by decide); have hcn10 := sw_ne cn10 (k := 60) (by decide); have hcn12 := sw_ne cn12 (k := 61) (by decide); simp [Op.lookupswitch.offset, hcn3, hcn6, hcn7, hcn8, hcn10, hcn12, Ne.symm hcn3, Ne.symm hcn6, Ne.symm hcn7, Ne.symm hcn8, Ne.symm hcn10, Ne.symm hcn12]) (by decide) ?_
  refine lv_iload_n hx hb dX10_joined_118 rfl (lv_at hl 1 rfl) ?_
  refine lv_iload_n hx hb dX10_joined_119 rfl (lv_at hl 2 rfl) ?_
  refine lv_imul hx hb dX10_joined_120 ?_
  obtain rfl := hf
  exact hQ _ _ _ _ dX10_joined_121 hw
