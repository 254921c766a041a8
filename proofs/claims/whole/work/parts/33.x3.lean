def xf_H_byLaw (N : Nat) (S : xS) (a1 : Int32) (a2 : Int32) : Option (Int32 × xS) := (if (S.1 19 0) < 0 then some ((if (0 : Int32) < (if (0 : Int32) < a2 then (0 : Int32) else a2) then ((if (0 : Int32) < a2 then (0 : Int32) else a2) : Int32) else 0), S) else (if (S.1 19 0).toNatClampNeg < S.2.2.2 then (bd2 (xf_T_run N S (S.1 19 0) a1) fun v3 S4 => some ((if (0 : Int32) < (if (v3 : Int32) < a2 then (v3 : Int32) else a2) then ((if (v3 : Int32) < a2 then (v3 : Int32) else a2) : Int32) else 0), S4)) else none))
set_option maxRecDepth 100000 in
theorem cx_H_byLaw (l : Launch) (N : Nat) (S : xS) (a1 : Int32) (a2 : Int32) (res : Int32) (S1 : xS) (hf : xf_H_byLaw N S a1 a2 = some (res, S1)) : xMi l yX1_byLaw cX1_byLaw 4 .int 4 (fun g => [.ref (xr g 1), .int a1, .int a2]) S res S1 := by
  refine xMi_of (own := RX1) (by decide) rfl rfl (fun g => Nat.le_of_ble_eq_true rfl) ?_
  intro p e R s m args below meth c Q g A H0 H locs ls hc hR hml hw hl hQ
  have hl : lv_has ls 4 [(0, .ref (xr g 1)), (1, .int a1), (2, .int a2)] := hl
  have hx := hc.1
  have hb := hc.2.1
  unfold xf_H_byLaw at hf
  refine lv_aload_n hx hb dX1_byLaw_0 rfl (lv_at hl 0 rfl) ?_
  refine x_g_hall_law hc hw fl_1_52 dX1_byLaw_1 ?_
  refine x_splitt (fun cn1 => ?_) (fun cn1 => ?_)
  · have hf := (if_pos cn1).symm.trans hf
    refine lv_ifnonnullN hx hb dX1_byLaw_4 ?_
    refine lv_iconst (v := 0) hx hb dX1_byLaw_7 (by decide) ?_
    refine lv_goto (tgt := 23) hx hb dX1_byLaw_8 (by decide) ?_
    refine lv_istore_n (lv' := [(3, .int 0), (0, .ref (xr g 1)), (1, .int a1), (2, .int a2)]) hx hb dX1_byLaw_23 rfl hl (by decide) rfl (fun ls hl => ?_)
    refine lv_iconst (v := 0) hx hb dX1_byLaw_24 (by decide) ?_
    refine lv_iload_n hx hb dX1_byLaw_25 rfl (lv_at hl 3 rfl) ?_
    refine lv_iload_n hx hb dX1_byLaw_26 rfl (lv_at hl 0 rfl) ?_
    refine x_mmin hc hR (by decide) (hml.trans hl.1.symm) xq_1_x_mmin (Nat.le_of_ble_eq_true rfl) dX1_byLaw_27 ?_ ⟨Nat.zero_le _, Nat.zero_le _⟩
    refine x_mmax hc hR (by decide) (hml.trans hl.1.symm) xq_1_x_mmax (Nat.le_of_ble_eq_true rfl) dX1_byLaw_30 ?_ ⟨Nat.zero_le _, Nat.zero_le _⟩
    obtain ⟨rfl, rfl⟩ := pr2_some hf
    exact hQ _ _ _ _ dX1_byLaw_33 hw
  · have hf := (if_neg cn1).symm.trans hf
    refine lv_ifnonnull (tgt := 11) hx hb dX1_byLaw_4 (by decide) ?_
    refine lv_aload_n hx hb dX1_byLaw_11 rfl (lv_at hl 0 rfl) ?_
    refine x_g_hall_law hc hw fl_1_52 dX1_byLaw_12 ?_
    rw [xtv_pos cn1]
    refine lv_iload_n hx hb dX1_byLaw_15 rfl (lv_at hl 1 rfl) ?_
    refine lv_aload_n hx hb dX1_byLaw_16 rfl (lv_at hl 0 rfl) ?_
    refine x_g_hall_names hc hw fl_1_79 dX1_byLaw_17 ?_
    obtain ⟨hr2, hf⟩ := gd_some hf
    obtain ⟨v3, S4, hcall, hf⟩ := bd2_some hf
    refine x_cvi (As := [.int a1, .ref (xr g 14)]) (rest := []) hc hw hR (hml.trans hl.1.symm) (cx_T_run l N S (S.1 19 0) a1 v3 S4 hcall) xq_1_T_run (x_recv_text hw hr2) (by decide) rfl rfl rfl (Nat.le_of_ble_eq_true rfl) dX1_byLaw_20 (fun H locs hw => ?_) ⟨Nat.zero_le _, Nat.zero_le _⟩
    refine lv_istore_n (lv' := [(3, .int v3), (0, .ref (xr g 1)), (1, .int a1), (2, .int a2)]) hx hb dX1_byLaw_23 rfl hl (by decide) rfl (fun ls hl => ?_)
    refine lv_iconst (v := 0) hx hb dX1_byLaw_24 (by decide) ?_
    refine lv_iload_n hx hb dX1_byLaw_25 rfl (lv_at hl 3 rfl) ?_
    refine lv_iload_n hx hb dX1_byLaw_26 rfl (lv_at hl 0 rfl) ?_
    refine x_mmin hc hR (by decide) (hml.trans hl.1.symm) xq_1_x_mmin (Nat.le_of_ble_eq_true rfl) dX1_byLaw_27 ?_ ⟨Nat.zero_le _, Nat.zero_le _⟩
    refine x_mmax hc hR (by decide) (hml.trans hl.1.symm) xq_1_x_mmax (Nat.le_of_ble_eq_true rfl) dX1_byLaw_30 ?_ ⟨Nat.zero_le _, Nat.zero_le _⟩
    obtain ⟨rfl, rfl⟩ := pr2_some hf
    exact hQ _ _ _ _ dX1_byLaw_33 hw
def xf_X_thursday_L17 (N : Nat) (c2 : Int32) : Nat → xS → Int32 → Int32 → Option (Int32)
  | 0, _, _, _ => none
  | n + 1, S5, v3, v4 => (if (S5.1 16 0) ≤ v4 then some v3 else (if ok v4 6 then (if v4.toNatClampNeg < S5.2.2.1 then (if ok c2 4 then (if ok v4 60 then (if (S5.1 57 v4.toNatClampNeg) = (S5.1 (70 + c2.toNatClampNeg) v4.toNatClampNeg) then xf_X_thursday_L17 N c2 n S5 v3 (v4 + 1) else xf_X_thursday_L17 N c2 n S5 (v3 + 1) (v4 + 1)) else none) else none) else none) else none))
set_option maxRecDepth 100000 in
theorem wx_X_thursday_L17 {p : Program} {l : Launch} {e : Env} {R : Room} {s : State} {m : MethodId} {args : Array Value} {below : List Frame} {meth : Method} {c : Code} {Q : State → Prop} {g : xG} {A : Nat → Prop} {H0 : Heap} (hc : qC RX11 cX11_thursday p s m args c) (hR : qRoom R 5) (hml : c.maxLocals = 5) (N : Nat) (c2 : Int32) : ∀ (n : Nat) (S5 : xS) (v3 : Int32) (v4 : Int32) (X : Int32) (H : Heap) (locs : List Loc) (ls : Array Slot), xf_X_thursday_L17 N c2 n S5 v3 v4 = some X → xI g A H0 s S5 H locs → lv_has ls 5 [(0, .ref (xr g 0)), (1, .int c2), (3, .int v3), (4, .int v4)] → (∀ (H : Heap) (locs : List Loc) (ls : Array Slot), xI g A H0 s S5 H locs → lv_has ls 5 [(3, .int X)] → W p l e R s m args below meth c H locs 0 0 Q (F0 m 63 ls [])) → W p l e R s m args below meth c H locs 0 0 Q (F0 m 17 ls []) := by
  have hx := hc.1
  have hb := hc.2.1
  intro n
  induction n with
  | zero => intro _ _ _ X H locs ls hf; exact nomatch (show none = some X from hf)
  | succ n ih =>
    intro S5 v3 v4 X H locs ls hf hw hl kx
    rw [xf_X_thursday_L17] at hf
    refine lv_iload hx hb dX11_thursday_17 (lv_at hl 3 rfl) ?_
    refine lv_aload_n hx hb dX11_thursday_19 rfl (lv_at hl 0 rfl) ?_
    refine x_g_this_hall hc hw fl_11_10 dX11_thursday_20 ?_
    refine x_g_hall_rowCount hc hw fl_11_113 dX11_thursday_23 ?_
    refine lv_icmp_ge (tgt := 63) hx hb dX11_thursday_26 (by decide) (fun cn12 => ?_) (fun cn12 => ?_)
    · have hf := (if_pos cn12).symm.trans hf
      obtain rfl := Option.some.inj hf
      exact kx _ _ _ hw (lv_sub hl [2] rfl)
    · have hf := (if_neg cn12).symm.trans hf
      refine lv_aload_n hx hb dX11_thursday_29 rfl (lv_at hl 0 rfl) ?_
      refine x_g_this_hall hc hw fl_11_10 dX11_thursday_30 ?_
      refine x_g_hall_rows hc hw fl_11_116 dX11_thursday_33 ?_
      refine lv_iload hx hb dX11_thursday_36 (lv_at hl 3 rfl) ?_
      obtain ⟨hi6, hf⟩ := gd_some hf
      obtain ⟨hr7, hf⟩ := gd_some hf
      refine x_l_rows hc hw (ok_in hi6) hr7 dX11_thursday_38 ?_
      refine x_rg_rise hc hw hr7 fl_11_150 dX11_thursday_39 ?_
      refine lv_aload_n hx hb dX11_thursday_42 rfl (lv_at hl 0 rfl) ?_
      refine x_g_this_cells hc hw fl_11_52 dX11_thursday_43 ?_
      refine lv_iload_n hx hb dX11_thursday_46 rfl (lv_at hl 1 rfl) ?_
      obtain ⟨hi8, hf⟩ := gd_some hf
      refine x_l_cells hc hw (ok_in hi8) (ok_nat hi8) dX11_thursday_47 ?_
      refine lv_iload hx hb dX11_thursday_48 (lv_at hl 3 rfl) ?_
      obtain ⟨hi9, hf⟩ := gd_some hf
      refine x_l_sheet hc hw (ok_nat hi8) (ok_in hi9) dX11_thursday_50 ?_
      refine lv_icmp_eq (tgt := 57) hx hb dX11_thursday_51 (by decide) (fun cn13 => ?_) (fun cn13 => ?_)
      · have hf := (if_pos cn13).symm.trans hf
        refine lv_iinc (lv' := [(4, .int (v4 + 1)), (0, .ref (xr g 0)), (1, .int c2), (3, .int v3)]) hx hb dX11_thursday_57 hl (k := 3) rfl rfl (by decide) rfl (fun ls hl => ?_)
        refine lv_goto (tgt := 17) hx hb dX11_thursday_60 (by decide) ?_
        exact ih _ _ _ X _ _ _ hf hw (lv_sub hl [1, 2, 3, 0] rfl) kx
      · have hf := (if_neg cn13).symm.trans hf
        refine lv_iinc (lv' := [(3, .int (v3 + 1)), (0, .ref (xr g 0)), (1, .int c2), (4, .int v4)]) hx hb dX11_thursday_54 hl (k := 2) rfl rfl (by decide) rfl (fun ls hl => ?_)
        refine lv_iinc (lv' := [(4, .int (v4 + 1)), (3, .int (v3 + 1)), (0, .ref (xr g 0)), (1, .int c2)]) hx hb dX11_thursday_57 hl (k := 3) rfl rfl (by decide) rfl (fun ls hl => ?_)
        refine lv_goto (tgt := 17) hx hb dX11_thursday_60 (by decide) ?_
        exact ih _ _ _ X _ _ _ hf hw (lv_sub hl [2, 3, 1, 0] rfl) kx
def xf_X_thursday (N : Nat) (S : xS) (a1 : Int32) : Option (Int32) := (bd1 (xf_X_refusalOfRises N S a1) fun v1 => (if v1 = 0 then (bd1 (xf_X_thursday_L17 N a1 N S 0 0) fun v10 => some v10) else some v1))
set_option maxRecDepth 100000 in
theorem cx_X_thursday (l : Launch) (N : Nat) (S : xS) (a1 : Int32) (res : Int32) (hf : xf_X_thursday N S a1 = some res) : xMi l yX11_thursday cX11_thursday 5 .int 5 (fun g => [.ref (xr g 0), .int a1]) S res S := by
  refine xMi_of (own := RX11) (by decide) rfl rfl (fun g => Nat.le_of_ble_eq_true rfl) ?_
  intro p e R s m args below meth c Q g A H0 H locs ls hc hR hml hw hl hQ
  have hl : lv_has ls 5 [(0, .ref (xr g 0)), (1, .int a1)] := hl
  have hx := hc.1
  have hb := hc.2.1
  unfold xf_X_thursday at hf
  refine lv_aload_n hx hb dX11_thursday_0 rfl (lv_at hl 0 rfl) ?_
  refine lv_iload_n hx hb dX11_thursday_1 rfl (lv_at hl 1 rfl) ?_
  obtain ⟨v1, hcall, hf⟩ := bd1_some hf
  refine x_cvi (As := [.int a1]) (rest := []) hc hw hR (hml.trans hl.1.symm) (cx_X_refusalOfRises l N S a1 v1 hcall) xq_11_X_refusalOfRises (x_recv_this hw) (by decide) rfl rfl rfl (Nat.le_of_ble_eq_true rfl) dX11_thursday_2 (fun H locs hw => ?_) ⟨Nat.zero_le _, Nat.zero_le _⟩
  refine lv_istore_n (lv' := [(2, .int v1), (0, .ref (xr g 0)), (1, .int a1)]) hx hb dX11_thursday_5 rfl hl (by decide) rfl (fun ls hl => ?_)
  refine lv_iload_n hx hb dX11_thursday_6 rfl (lv_at hl 0 rfl) ?_
  refine lv_if_eq (tgt := 12) hx hb dX11_thursday_7 (by decide) (fun cn11 => ?_) (fun cn11 => ?_)
  · have hf := (if_pos cn11).symm.trans hf
    refine lv_iconst (v := 0) hx hb dX11_thursday_12 (by decide) ?_
    refine lv_istore_n (lv' := [(3, .int 0), (2, .int v1), (0, .ref (xr g 0)), (1, .int a1)]) hx hb dX11_thursday_13 rfl hl (by decide) rfl (fun ls hl => ?_)
    refine lv_iconst (v := 0) hx hb dX11_thursday_14 (by decide) ?_
    refine lv_istore (lv' := [(4, .int 0), (3, .int 0), (2, .int v1), (0, .ref (xr g 0)), (1, .int a1)]) hx hb dX11_thursday_15 hl (by decide) rfl (fun ls hl => ?_)
    obtain ⟨v10, hL, hf⟩ := bd1_some hf
    refine wx_X_thursday_L17 hc hR hml N a1 N _ _ _ _ _ _ _ hL hw (lv_sub hl [3, 4, 1, 0] rfl) (fun H locs ls hw hl => ?_)
    refine lv_iload_n hx hb dX11_thursday_63 rfl (lv_at hl 0 rfl) ?_
    obtain rfl := Option.some.inj hf
    exact hQ _ _ _ _ dX11_thursday_64 hw
  · have hf := (if_neg cn11).symm.trans hf
    refine lv_iload_n hx hb dX11_thursday_10 rfl (lv_at hl 0 rfl) ?_
    obtain rfl := Option.some.inj hf
    exact hQ _ _ _ _ dX11_thursday_11 hw
def xf_X_sitters_L64 (N : Nat) (c2 : Int32) (c3 : Int32) (c4 : Int32) : Nat → xS → Int32 → Int32 → Option ((Int32 × xS) ⊕ (Int32 × xS))
  | 0, _, _, _ => none
  | n + 1, S7, v5, v6 => (if c4 ≤ v6 then some (.inr (v5, S7)) else (if ok c2 4 then (if v6 < (S7.1 5 c2.toNatClampNeg) then (if ok v6 60 then (bd2 (xf_X_sit N S7 c3 v6 (S7.1 (70 + c2.toNatClampNeg) v6.toNatClampNeg)) fun v10 S11 => (if v10 < 0 then xf_X_sitters_L64 N c2 c3 c4 n S11 v5 (v6 + 1) else xf_X_sitters_L64 N c2 c3 c4 n S11 (v5 + 1) (v6 + 1))) else none) else some (.inl ((-12), S7))) else none))
set_option maxRecDepth 100000 in
theorem wx_X_sitters_L64 {p : Program} {l : Launch} {e : Env} {R : Room} {s : State} {m : MethodId} {args : Array Value} {below : List Frame} {meth : Method} {c : Code} {Q : State → Prop} {g : xG} {A : Nat → Prop} {H0 : Heap} (hc : qC RX11 cX11_sitters p s m args c) (hR : qRoom R 5) (hml : c.maxLocals = 7) (N : Nat) (c2 : Int32) (c3 : Int32) (c4 : Int32) : ∀ (n : Nat) (S7 : xS) (v5 : Int32) (v6 : Int32) (X : (Int32 × xS) ⊕ (Int32 × xS)) (H : Heap) (locs : List Loc) (ls : Array Slot), xf_X_sitters_L64 N c2 c3 c4 n S7 v5 v6 = some X → xI g A H0 s S7 H locs → lv_has ls 7 [(0, .ref (xr g 0)), (1, .int c2), (3, .int c3), (4, .int c4), (5, .int v5), (6, .int v6)] → (∀ (x23 : Int32) (S22 : xS), X = .inr (x23, S22) → ∀ (H : Heap) (locs : List Loc) (ls : Array Slot), xI g A H0 s S22 H locs → lv_has ls 7 [(5, .int x23)] → W p l e R s m args below meth c H locs 0 0 Q (F0 m 113 ls [])) → (∀ (r : Int32) (S9 : xS), X = .inl (r, S9) → xQi p l e R s m args below meth c cX11_sitters Q g A H0 r S9) → W p l e R s m args below meth c H locs 0 0 Q (F0 m 64 ls []) := by
  have hx := hc.1
  have hb := hc.2.1
  intro n
  induction n with
  | zero => intro _ _ _ X H locs ls hf; exact nomatch (show none = some X from hf)
  | succ n ih =>
    intro S7 v5 v6 X H locs ls hf hw hl kx kr
    rw [xf_X_sitters_L64] at hf
    refine lv_iload hx hb dX11_sitters_64 (lv_at hl 5 rfl) ?_
    refine lv_iload hx hb dX11_sitters_66 (lv_at hl 3 rfl) ?_
    refine lv_icmp_ge (tgt := 113) hx hb dX11_sitters_68 (by decide) (fun cn19 => ?_) (fun cn19 => ?_)
    · have hf := (if_pos cn19).symm.trans hf
      obtain rfl := Option.some.inj hf
      exact kx _ _ rfl _ _ _ hw (lv_sub hl [4] rfl)
    · have hf := (if_neg cn19).symm.trans hf
      refine lv_iload hx hb dX11_sitters_71 (lv_at hl 5 rfl) ?_
      refine lv_aload_n hx hb dX11_sitters_73 rfl (lv_at hl 0 rfl) ?_
      refine x_g_this_sheetSizes hc hw fl_11_59 dX11_sitters_74 ?_
      refine lv_iload_n hx hb dX11_sitters_77 rfl (lv_at hl 1 rfl) ?_
      obtain ⟨hi8, hf⟩ := gd_some hf
      refine x_l_this_sheetSizes hc hw (ok_in hi8) dX11_sitters_78 ?_
      refine lv_icmp_lt (tgt := 85) hx hb dX11_sitters_79 (by decide) (fun cn20 => ?_) (fun cn20 => ?_)
      · have hf := (if_pos cn20).symm.trans hf
        refine lv_aload_n hx hb dX11_sitters_85 rfl (lv_at hl 0 rfl) ?_
        refine lv_iload_n hx hb dX11_sitters_86 rfl (lv_at hl 2 rfl) ?_
        refine lv_iload hx hb dX11_sitters_87 (lv_at hl 5 rfl) ?_
        refine lv_aload_n hx hb dX11_sitters_89 rfl (lv_at hl 0 rfl) ?_
        refine x_g_this_cells hc hw fl_11_52 dX11_sitters_90 ?_
        refine lv_iload_n hx hb dX11_sitters_93 rfl (lv_at hl 1 rfl) ?_
        refine x_l_cells hc hw (ok_in hi8) (ok_nat hi8) dX11_sitters_94 ?_
        refine lv_iload hx hb dX11_sitters_95 (lv_at hl 5 rfl) ?_
        obtain ⟨hi9, hf⟩ := gd_some hf
        refine x_l_sheet hc hw (ok_nat hi8) (ok_in hi9) dX11_sitters_97 ?_
        obtain ⟨v10, S11, hcall, hf⟩ := bd2_some hf
        refine x_cvi (As := [.int c3, .int v6, .int (S7.1 (70 + c2.toNatClampNeg) v6.toNatClampNeg)]) (rest := []) hc hw hR (hml.trans hl.1.symm) (cx_X_sit l N S7 c3 v6 (S7.1 (70 + c2.toNatClampNeg) v6.toNatClampNeg) v10 S11 hcall) xq_11_X_sit (x_recv_this hw) (by decide) rfl rfl rfl (Nat.le_of_ble_eq_true rfl) dX11_sitters_98 (fun H locs hw => ?_) ⟨Nat.zero_le _, Nat.zero_le _⟩
        refine lv_if_lt (tgt := 107) hx hb dX11_sitters_101 (by decide) (fun cn21 => ?_) (fun cn21 => ?_)
        · have hf := (if_pos cn21).symm.trans hf
          refine lv_iinc (lv' := [(6, .int (v6 + 1)), (0, .ref (xr g 0)), (1, .int c2), (3, .int c3), (4, .int c4), (5, .int v5)]) hx hb dX11_sitters_107 hl (k := 5) rfl rfl (by decide) rfl (fun ls hl => ?_)
          refine lv_goto (tgt := 64) hx hb dX11_sitters_110 (by decide) ?_
          exact ih _ _ _ X _ _ _ hf hw (lv_sub hl [1, 2, 3, 4, 5, 0] rfl) kx kr
        · have hf := (if_neg cn21).symm.trans hf
          refine lv_iinc (lv' := [(5, .int (v5 + 1)), (0, .ref (xr g 0)), (1, .int c2), (3, .int c3), (4, .int c4), (6, .int v6)]) hx hb dX11_sitters_104 hl (k := 4) rfl rfl (by decide) rfl (fun ls hl => ?_)
          refine lv_iinc (lv' := [(6, .int (v6 + 1)), (5, .int (v5 + 1)), (0, .ref (xr g 0)), (1, .int c2), (3, .int c3), (4, .int c4)]) hx hb dX11_sitters_107 hl (k := 5) rfl rfl (by decide) rfl (fun ls hl => ?_)
          refine lv_goto (tgt := 64) hx hb dX11_sitters_110 (by decide) ?_
          exact ih _ _ _ X _ _ _ hf hw (lv_sub hl [2, 3, 4, 5, 1, 0] rfl) kx kr
      · have hf := (if_neg cn20).symm.trans hf
        refine lv_bipush (v := (-12)) hx hb dX11_sitters_82 (by decide) ?_
        obtain rfl := Option.some.inj hf
        exact kr _ _  rfl _ _ _ _ dX11_sitters_84 hw
def xf_X_sitters (N : Nat) (S : xS) (a1 : Int32) (a2 : Int32) (a3 : Int32) (a4 : Int32) : Option (Int32 × xS) := (if (xf_X_isIn a1 0 3) = true then (if (xf_X_isIn a2 0 2) = true then (if (xf_X_isIn a4 0 8) = true then (if ok a1 4 then (if (S.1 4 a1.toNatClampNeg) = (-1) then some ((-11), S) else (if (S.1 4 a1.toNatClampNeg) = a2 then (br2 (xf_X_sitters_L64 N a1 a3 a4 N S 0 0) (Option.some) fun v12 S13 => some (v12, S13)) else some ((-13), S))) else none) else some ((-2), S)) else some ((-2), S)) else some ((-2), S))
set_option maxRecDepth 100000 in
theorem cx_X_sitters (l : Launch) (N : Nat) (S : xS) (a1 : Int32) (a2 : Int32) (a3 : Int32) (a4 : Int32) (res : Int32) (S1 : xS) (hf : xf_X_sitters N S a1 a2 a3 a4 = some (res, S1)) : xMi l yX11_sitters cX11_sitters 7 .int 5 (fun g => [.ref (xr g 0), .int a1, .int a2, .int a3, .int a4]) S res S1 := by
  refine xMi_of (own := RX11) (by decide) rfl rfl (fun g => Nat.le_of_ble_eq_true rfl) ?_
  intro p e R s m args below meth c Q g A H0 H locs ls hc hR hml hw hl hQ
  have hl : lv_has ls 7 [(0, .ref (xr g 0)), (1, .int a1), (2, .int a2), (3, .int a3), (4, .int a4)] := hl
  have hx := hc.1
  have hb := hc.2.1
  unfold xf_X_sitters at hf
  refine lv_iload_n hx hb dX11_sitters_0 rfl (lv_at hl 1 rfl) ?_
  refine lv_iconst (v := 0) hx hb dX11_sitters_1 (by decide) ?_
  refine lv_iconst (v := 3) hx hb dX11_sitters_2 (by decide) ?_
  refine x_csi (As := [.int a1, .int 0, .int 3]) (rest := []) hc hw hR (hml.trans hl.1.symm) (cx_X_isIn l S a1 0 3 _ rfl) xq_11_X_isIn (by decide) rfl rfl rfl (Nat.le_of_ble_eq_true rfl) dX11_sitters_3 (fun H locs hw => ?_) ⟨Nat.zero_le _, Nat.zero_le _⟩
  refine lv_if_eqb (tgt := 29) hx hb dX11_sitters_6 (by decide) (fun cn14 => ?_) (fun cn14 => ?_)
  · have hf := (if_neg cn14).symm.trans hf
    refine lv_bipush (v := (-2)) hx hb dX11_sitters_29 (by decide) ?_
    obtain ⟨rfl, rfl⟩ := pr2_some hf
    exact hQ _ _ _ _ dX11_sitters_31 hw
  · have hf := (if_pos cn14).symm.trans hf
    refine lv_iload_n hx hb dX11_sitters_9 rfl (lv_at hl 2 rfl) ?_
    refine lv_iconst (v := 0) hx hb dX11_sitters_10 (by decide) ?_
    refine lv_iconst (v := 2) hx hb dX11_sitters_11 (by decide) ?_
    refine x_csi (As := [.int a2, .int 0, .int 2]) (rest := []) hc hw hR (hml.trans hl.1.symm) (cx_X_isIn l S a2 0 2 _ rfl) xq_11_X_isIn (by decide) rfl rfl rfl (Nat.le_of_ble_eq_true rfl) dX11_sitters_12 (fun H locs hw => ?_) ⟨Nat.zero_le _, Nat.zero_le _⟩
    refine lv_if_eqb (tgt := 29) hx hb dX11_sitters_15 (by decide) (fun cn15 => ?_) (fun cn15 => ?_)
    · have hf := (if_neg cn15).symm.trans hf
      refine lv_bipush (v := (-2)) hx hb dX11_sitters_29 (by decide) ?_
      obtain ⟨rfl, rfl⟩ := pr2_some hf
      exact hQ _ _ _ _ dX11_sitters_31 hw
    · have hf := (if_pos cn15).symm.trans hf
      refine lv_iload hx hb dX11_sitters_18 (lv_at hl 4 rfl) ?_
      refine lv_iconst (v := 0) hx hb dX11_sitters_20 (by decide) ?_
      refine lv_bipush (v := 8) hx hb dX11_sitters_21 (by decide) ?_
      refine x_csi (As := [.int a4, .int 0, .int 8]) (rest := []) hc hw hR (hml.trans hl.1.symm) (cx_X_isIn l S a4 0 8 _ rfl) xq_11_X_isIn (by decide) rfl rfl rfl (Nat.le_of_ble_eq_true rfl) dX11_sitters_23 (fun H locs hw => ?_) ⟨Nat.zero_le _, Nat.zero_le _⟩
      refine lv_if_neb (tgt := 32) hx hb dX11_sitters_26 (by decide) (fun cn16 => ?_) (fun cn16 => ?_)
      · have hf := (if_pos cn16).symm.trans hf
        refine lv_aload_n hx hb dX11_sitters_32 rfl (lv_at hl 0 rfl) ?_
        refine x_g_this_sheetSorts hc hw fl_11_55 dX11_sitters_33 ?_
        refine lv_iload_n hx hb dX11_sitters_36 rfl (lv_at hl 1 rfl) ?_
        obtain ⟨hi1, hf⟩ := gd_some hf
        refine x_l_this_sheetSorts hc hw (ok_in hi1) dX11_sitters_37 ?_
        refine lv_iconst (v := (-1)) hx hb dX11_sitters_38 (by decide) ?_
        refine lv_icmp_ne (tgt := 45) hx hb dX11_sitters_39 (by decide) (fun cn17 => ?_) (fun cn17 => ?_)
        · have hf := (if_neg cn17).symm.trans hf
          refine lv_aload_n hx hb dX11_sitters_45 rfl (lv_at hl 0 rfl) ?_
          refine x_g_this_sheetSorts hc hw fl_11_55 dX11_sitters_46 ?_
          refine lv_iload_n hx hb dX11_sitters_49 rfl (lv_at hl 1 rfl) ?_
          refine x_l_this_sheetSorts hc hw (ok_in hi1) dX11_sitters_50 ?_
          refine lv_iload_n hx hb dX11_sitters_51 rfl (lv_at hl 2 rfl) ?_
          refine lv_icmp_eq (tgt := 58) hx hb dX11_sitters_52 (by decide) (fun cn18 => ?_) (fun cn18 => ?_)
          · have hf := (if_pos cn18).symm.trans hf
            refine lv_iconst (v := 0) hx hb dX11_sitters_58 (by decide) ?_
            refine lv_istore (lv' := [(5, .int 0), (0, .ref (xr g 0)), (1, .int a1), (2, .int a2), (3, .int a3), (4, .int a4)]) hx hb dX11_sitters_59 hl (by decide) rfl (fun ls hl => ?_)
            refine lv_iconst (v := 0) hx hb dX11_sitters_61 (by decide) ?_
            refine lv_istore (lv' := [(6, .int 0), (5, .int 0), (0, .ref (xr g 0)), (1, .int a1), (2, .int a2), (3, .int a3), (4, .int a4)]) hx hb dX11_sitters_62 hl (by decide) rfl (fun ls hl => ?_)
            rcases br2_some hf with ⟨q, hL, hf⟩ | ⟨v12, S13, hL, hf⟩
            · refine wx_X_sitters_L64 hc hR hml N a1 a3 a4 N _ _ _ _ _ _ _ hL hw (lv_sub hl [2, 3, 5, 6, 1, 0] rfl) (fun _ _  h => nomatch h) ?_
              obtain rfl := Option.some.inj hf
              intro z0 z1 h; cases h; exact hQ
            · refine wx_X_sitters_L64 hc hR hml N a1 a3 a4 N _ _ _ _ _ _ _ hL hw (lv_sub hl [2, 3, 5, 6, 1, 0] rfl) (fun y0 y1 hi => ?_) (fun _ _  h => nomatch h)
              cases hi
              intro H locs ls hw hl
              refine lv_iload hx hb dX11_sitters_113 (lv_at hl 0 rfl) ?_
              obtain ⟨rfl, rfl⟩ := pr2_some hf
              exact hQ _ _ _ _ dX11_sitters_115 hw
          · have hf := (if_neg cn18).symm.trans hf
            refine lv_bipush (v := (-13)) hx hb dX11_sitters_55 (by decide) ?_
            obtain ⟨rfl, rfl⟩ := pr2_some hf
            exact hQ _ _ _ _ dX11_sitters_57 hw
        · have hf := (if_pos cn17).symm.trans hf
          refine lv_bipush (v := (-11)) hx hb dX11_sitters_42 (by decide) ?_
          obtain ⟨rfl, rfl⟩ := pr2_some hf
          exact hQ _ _ _ _ dX11_sitters_44 hw
      · have hf := (if_neg cn16).symm.trans hf
        refine lv_bipush (v := (-2)) hx hb dX11_sitters_29 (by decide) ?_
        obtain ⟨rfl, rfl⟩ := pr2_some hf
        exact hQ _ _ _ _ dX11_sitters_31 hw
def xf_H_hiderOf_L10 (N : Nat) (c2 : Int32) : Nat → xS → Int32 → Option ((Int32 × xS) ⊕ (Unit))
  | 0, _, _ => none
  | n + 1, S4, v3 => (if c2.toNatClampNeg < S4.2.2.1 then (if (S4.1 63 c2.toNatClampNeg) = 0 then some (.inr ()) else (if (S4.1 55 c2.toNatClampNeg) ≤ v3 then some (.inr ()) else (if ok v3 6 then (if v3.toNatClampNeg < S4.2.2.1 then (bd1 (xf_H_hidingSeat N S4 v3) fun v8 => (if v8 = (-1) then xf_H_hiderOf_L10 N c2 n S4 (v3 + 1) else some (.inl ((10 * v3) + v8, S4)))) else none) else none))) else none)
set_option maxRecDepth 100000 in
theorem wx_H_hiderOf_L10 {p : Program} {l : Launch} {e : Env} {R : Room} {s : State} {m : MethodId} {args : Array Value} {below : List Frame} {meth : Method} {c : Code} {Q : State → Prop} {g : xG} {A : Nat → Prop} {H0 : Heap} (hc : qC RX1 cX1_hiderOf p s m args c) (hR : qRoom R 5) (hml : c.maxLocals = 6) (N : Nat) (c2 : Int32) : ∀ (n : Nat) (S4 : xS) (v3 : Int32) (X : (Int32 × xS) ⊕ (Unit)) (H : Heap) (locs : List Loc) (ls : Array Slot), xf_H_hiderOf_L10 N c2 n S4 v3 = some X → xI g A H0 s S4 H locs → lv_has ls 6 [(0, .ref (xr g 1)), (1, .ref (xr g (100 + 2 * c2.toNatClampNeg))), (4, .int v3)] → (∀ (_ : Unit), X = .inr () → ∀ (H : Heap) (locs : List Loc) (ls : Array Slot), xI g A H0 s S4 H locs → lv_has ls 6 [(0, .ref (xr g 1))] → W p l e R s m args below meth c H locs 0 0 Q (F0 m 60 ls [])) → (∀ (r : Int32) (S9 : xS), X = .inl (r, S9) → xQi p l e R s m args below meth c cX1_hiderOf Q g A H0 r S9) → W p l e R s m args below meth c H locs 0 0 Q (F0 m 10 ls []) := by
  have hx := hc.1
  have hb := hc.2.1
  intro n
  induction n with
  | zero => intro _ _ X H locs ls hf; exact nomatch (show none = some X from hf)
  | succ n ih =>
    intro S4 v3 X H locs ls hf hw hl kx kr
    rw [xf_H_hiderOf_L10] at hf
    refine lv_aload_n hx hb dX1_hiderOf_10 rfl (lv_at hl 1 rfl) ?_
    obtain ⟨hr5, hf⟩ := gd_some hf
    refine x_rg_among hc hw hr5 fl_1_123 dX1_hiderOf_11 ?_
    refine lv_if_eq (tgt := 60) hx hb dX1_hiderOf_14 (by decide) (fun cn10 => ?_) (fun cn10 => ?_)
    · have hf := (if_pos cn10).symm.trans hf
      obtain rfl := Option.some.inj hf
      exact kx () rfl _ _ _ hw (lv_sub hl [0] rfl)
    · have hf := (if_neg cn10).symm.trans hf
      refine lv_iload hx hb dX1_hiderOf_17 (lv_at hl 2 rfl) ?_
      refine lv_aload_n hx hb dX1_hiderOf_19 rfl (lv_at hl 1 rfl) ?_
      refine x_rg_number hc hw hr5 fl_1_127 dX1_hiderOf_20 ?_
      refine lv_icmp_ge (tgt := 60) hx hb dX1_hiderOf_23 (by decide) (fun cn11 => ?_) (fun cn11 => ?_)
      · have hf := (if_pos cn11).symm.trans hf
        obtain rfl := Option.some.inj hf
        exact kx () rfl _ _ _ hw (lv_sub hl [0] rfl)
      · have hf := (if_neg cn11).symm.trans hf
        refine lv_aload_n hx hb dX1_hiderOf_26 rfl (lv_at hl 0 rfl) ?_
        refine lv_aload_n hx hb dX1_hiderOf_27 rfl (lv_at hl 0 rfl) ?_
        refine x_g_hall_rows hc hw fl_1_23 dX1_hiderOf_28 ?_
        refine lv_iload hx hb dX1_hiderOf_31 (lv_at hl 2 rfl) ?_
        obtain ⟨hi6, hf⟩ := gd_some hf
        obtain ⟨hr7, hf⟩ := gd_some hf
        refine x_l_rows hc hw (ok_in hi6) hr7 dX1_hiderOf_33 ?_
        obtain ⟨v8, hcall, hf⟩ := bd1_some hf
        refine x_cvi (As := [.ref (xr g (100 + 2 * v3.toNatClampNeg))]) (rest := []) hc hw hR (hml.trans hl.1.symm) (cx_H_hidingSeat l N S4 v3 v8 hcall) xq_1_H_hidingSeat (x_recv_hall hw) (by decide) rfl rfl rfl (Nat.le_of_ble_eq_true rfl) dX1_hiderOf_34 (fun H locs hw => ?_) ⟨Nat.zero_le _, Nat.zero_le _⟩
        refine lv_istore (lv' := [(5, .int v8), (0, .ref (xr g 1)), (1, .ref (xr g (100 + 2 * c2.toNatClampNeg))), (4, .int v3)]) hx hb dX1_hiderOf_37 hl (by decide) rfl (fun ls hl => ?_)
        refine lv_iload hx hb dX1_hiderOf_39 (lv_at hl 0 rfl) ?_
        refine lv_iconst (v := (-1)) hx hb dX1_hiderOf_41 (by decide) ?_
        refine lv_icmp_eq (tgt := 54) hx hb dX1_hiderOf_42 (by decide) (fun cn12 => ?_) (fun cn12 => ?_)
        · have hf := (if_pos cn12).symm.trans hf
          refine lv_iinc (lv' := [(4, .int (v3 + 1)), (5, .int v8), (0, .ref (xr g 1)), (1, .ref (xr g (100 + 2 * c2.toNatClampNeg)))]) hx hb dX1_hiderOf_54 hl (k := 3) rfl rfl (by decide) rfl (fun ls hl => ?_)
          refine lv_goto (tgt := 10) hx hb dX1_hiderOf_57 (by decide) ?_
          exact ih _ _ X _ _ _ hf hw (lv_sub hl [2, 3, 0] rfl) kx kr
        · have hf := (if_neg cn12).symm.trans hf
          refine lv_bipush (v := 10) hx hb dX1_hiderOf_45 (by decide) ?_
          refine lv_iload hx hb dX1_hiderOf_47 (lv_at hl 3 rfl) ?_
          refine lv_imul hx hb dX1_hiderOf_49 ?_
          refine lv_iload hx hb dX1_hiderOf_50 (lv_at hl 0 rfl) ?_
          refine lv_iadd hx hb dX1_hiderOf_52 ?_
          obtain rfl := Option.some.inj hf
          exact kr _ _  rfl _ _ _ _ dX1_hiderOf_53 hw
def xf_H_hiderOf (N : Nat) (S : xS) (a1 : Int32) (a2 : Int32) (a3 : Int32) : Option (Int32 × xS) := (bd1 (xf_H_layLine N S a1 a2 a3) fun S1 => (br0 (xf_H_hiderOf_L10 N a1 N S1 0) (Option.some) fun _ => (bd1 (xf_H_hidingPost N S1) fun v9 => (if v9 = (-1) then some ((-1), S1) else some (100 + v9, S1)))))
set_option maxRecDepth 100000 in
theorem cx_H_hiderOf (l : Launch) (N : Nat) (S : xS) (a1 : Int32) (a2 : Int32) (a3 : Int32) (res : Int32) (S1 : xS) (hf : xf_H_hiderOf N S a1 a2 a3 = some (res, S1)) : xMi l yX1_hiderOf cX1_hiderOf 6 .int 5 (fun g => [.ref (xr g 1), .ref (xr g (100 + 2 * a1.toNatClampNeg)), .int a2, .int a3]) S res S1 := by
  refine xMi_of (own := RX1) (by decide) rfl rfl (fun g => Nat.le_of_ble_eq_true rfl) ?_
  intro p e R s m args below meth c Q g A H0 H locs ls hc hR hml hw hl hQ
  have hl : lv_has ls 6 [(0, .ref (xr g 1)), (1, .ref (xr g (100 + 2 * a1.toNatClampNeg))), (2, .int a2), (3, .int a3)] := hl
  have hx := hc.1
  have hb := hc.2.1
  unfold xf_H_hiderOf at hf
  refine lv_aload_n hx hb dX1_hiderOf_0 rfl (lv_at hl 0 rfl) ?_
  refine lv_aload_n hx hb dX1_hiderOf_1 rfl (lv_at hl 1 rfl) ?_
  refine lv_iload_n hx hb dX1_hiderOf_2 rfl (lv_at hl 2 rfl) ?_
  refine lv_iload_n hx hb dX1_hiderOf_3 rfl (lv_at hl 3 rfl) ?_
  obtain ⟨S1, hcall, hf⟩ := bd1_some hf
  refine x_cvv (As := [.ref (xr g (100 + 2 * a1.toNatClampNeg)), .int a2, .int a3]) (rest := []) hc hw hR (hml.trans hl.1.symm) (cx_H_layLine l N S a1 a2 a3 S1 hcall) xq_1_H_layLine (x_recv_hall hw) (by decide) rfl rfl rfl (Nat.le_of_ble_eq_true rfl) dX1_hiderOf_4 (fun H locs hw => ?_) ⟨Nat.zero_le _, Nat.zero_le _⟩
  refine lv_iconst (v := 0) hx hb dX1_hiderOf_7 (by decide) ?_
  refine lv_istore (lv' := [(4, .int 0), (0, .ref (xr g 1)), (1, .ref (xr g (100 + 2 * a1.toNatClampNeg))), (2, .int a2), (3, .int a3)]) hx hb dX1_hiderOf_8 hl (by decide) rfl (fun ls hl => ?_)
  rcases br0_some hf with ⟨q, hL, hf⟩ | ⟨hL, hf⟩
  · refine wx_H_hiderOf_L10 hc hR hml N a1 N _ _ _ _ _ _ hL hw (lv_sub hl [1, 2, 0] rfl) (fun _  h => nomatch h) ?_
    obtain rfl := Option.some.inj hf
    intro z0 z1 h; cases h; exact hQ
  · refine wx_H_hiderOf_L10 hc hR hml N a1 N _ _ _ _ _ _ hL hw (lv_sub hl [1, 2, 0] rfl) (fun y0 hi => ?_) (fun _ _  h => nomatch h)
    cases hi
    intro H locs ls hw hl
    refine lv_aload_n hx hb dX1_hiderOf_60 rfl (lv_at hl 0 rfl) ?_
    obtain ⟨v9, hcall, hf⟩ := bd1_some hf
    refine x_cvi (As := []) (rest := []) hc hw hR (hml.trans hl.1.symm) (cx_H_hidingPost l N S1 v9 hcall) xq_1_H_hidingPost (x_recv_hall hw) (by decide) rfl rfl rfl (Nat.le_of_ble_eq_true rfl) dX1_hiderOf_61 (fun H locs hw => ?_) ⟨Nat.zero_le _, Nat.zero_le _⟩
    refine lv_istore (lv' := [(4, .int v9), (0, .ref (xr g 1))]) hx hb dX1_hiderOf_64 hl (by decide) rfl (fun ls hl => ?_)
    refine lv_iload hx hb dX1_hiderOf_66 (lv_at hl 0 rfl) ?_
    refine lv_iconst (v := (-1)) hx hb dX1_hiderOf_68 (by decide) ?_
    refine lv_icmp_ne (tgt := 76) hx hb dX1_hiderOf_69 (by decide) (fun cn13 => ?_) (fun cn13 => ?_)
    · have hf := (if_neg cn13).symm.trans hf
      refine lv_bipush (v := 100) hx hb dX1_hiderOf_76 (by decide) ?_
      refine lv_iload hx hb dX1_hiderOf_78 (lv_at hl 0 rfl) ?_
      refine lv_iadd hx hb dX1_hiderOf_80 ?_
      obtain ⟨rfl, rfl⟩ := pr2_some hf
      exact hQ _ _ _ _ dX1_hiderOf_81 hw
    · have hf := (if_pos cn13).symm.trans hf
      refine lv_iconst (v := (-1)) hx hb dX1_hiderOf_72 (by decide) ?_
      refine lv_goto (tgt := 81) hx hb dX1_hiderOf_73 (by decide) ?_
      obtain ⟨rfl, rfl⟩ := pr2_some hf
      exact hQ _ _ _ _ dX1_hiderOf_81 hw
def xf_H_chanceOf_L62 (N : Nat) (c14 : Int32) (c17 : Int32) (c18 : Int32) (c19 : Int32) : Nat → xS → Int64 → Int64 → Int32 → Option (Int64 × Int64)
  | 0, _, _, _, _ => none
  | n + 1, S21, v15, v16, v20 => (if c19.toNatClampNeg < S21.2.2.1 then (if (S21.1 63 c19.toNatClampNeg) = 0 then some (v15, v16) else (if (S21.1 56 c19.toNatClampNeg) ≤ v20 then some (v15, v16) else (bd1 (xf_W_placeOf N S21 c19 v20) fun v23 => (if (S21.1 49 0) < (if 0 ≤ (xf_L_besides S21 (S21.1 61 c19.toNatClampNeg) v23) then (xf_L_besides S21 (S21.1 61 c19.toNatClampNeg) v23) else 0 - (xf_L_besides S21 (S21.1 61 c19.toNatClampNeg) v23)) then xf_H_chanceOf_L62 N c14 c17 c18 c19 n S21 v15 v16 (v20 + 1) else (bd1 (xf_H_countsOfThoseBelow N S21 c19) fun v24 => xf_H_chanceOf_L62 N c14 c17 c18 c19 n S21 (v15 * v24.toInt64) (v16 * c17.toInt64) (v20 + 1)))))) else none)
set_option maxRecDepth 100000 in
theorem wx_H_chanceOf_L62 {p : Program} {l : Launch} {e : Env} {R : Room} {s : State} {m : MethodId} {args : Array Value} {below : List Frame} {meth : Method} {c : Code} {Q : State → Prop} {g : xG} {A : Nat → Prop} {H0 : Heap} (hc : qC RX1 cX1_chanceOf p s m args c) (hR : qRoom R 5) (hml : c.maxLocals = 13) (N : Nat) (c14 : Int32) (c17 : Int32) (c18 : Int32) (c19 : Int32) : ∀ (n : Nat) (S21 : xS) (v15 : Int64) (v16 : Int64) (v20 : Int32) (X : Int64 × Int64) (H : Heap) (locs : List Loc) (ls : Array Slot), xf_H_chanceOf_L62 N c14 c17 c18 c19 n S21 v15 v16 v20 = some X → xI g A H0 s S21 H locs → lv_has ls 13 [(0, .ref (xr g 1)), (1, .ref (xr g (100 + 2 * c14.toNatClampNeg))), (4, .ref (xr g 5)), (5, .long v15), (7, .long v16), (9, .int c17), (10, .int c18), (11, .ref (xr g (100 + 2 * c19.toNatClampNeg))), (12, .int v20)] → (∀ (H : Heap) (locs : List Loc) (ls : Array Slot), xI g A H0 s S21 H locs → lv_has ls 13 [(0, .ref (xr g 1)), (1, .ref (xr g (100 + 2 * c14.toNatClampNeg))), (4, .ref (xr g 5)), (5, .long X.1), (7, .long X.2), (9, .int c17), (10, .int c18)] → W p l e R s m args below meth c H locs 0 0 Q (F0 m 138 ls [])) → W p l e R s m args below meth c H locs 0 0 Q (F0 m 62 ls []) := by
  have hx := hc.1
  have hb := hc.2.1
  intro n
  induction n with
  | zero => intro _ _ _ _ X H locs ls hf; exact nomatch (show none = some X from hf)
  | succ n ih =>
    intro S21 v15 v16 v20 X H locs ls hf hw hl kx
    rw [xf_H_chanceOf_L62] at hf
    refine lv_aload hx hb dX1_chanceOf_62 (lv_at hl 7 rfl) ?_
    obtain ⟨hr22, hf⟩ := gd_some hf
    refine x_rg_among hc hw hr22 fl_1_123 dX1_chanceOf_64 ?_
    refine lv_if_eq (tgt := 138) hx hb dX1_chanceOf_67 (by decide) (fun cn32 => ?_) (fun cn32 => ?_)
    · have hf := (if_pos cn32).symm.trans hf
      obtain rfl := Option.some.inj hf
      exact kx _ _ _ hw (lv_sub hl [0, 1, 2, 3, 4, 5, 6] rfl)
    · have hf := (if_neg cn32).symm.trans hf
      refine lv_iload hx hb dX1_chanceOf_70 (lv_at hl 8 rfl) ?_
      refine lv_aload hx hb dX1_chanceOf_72 (lv_at hl 7 rfl) ?_
      refine x_rg_seats hc hw hr22 fl_1_86 dX1_chanceOf_74 ?_
      refine lv_icmp_ge (tgt := 138) hx hb dX1_chanceOf_77 (by decide) (fun cn33 => ?_) (fun cn33 => ?_)
      · have hf := (if_pos cn33).symm.trans hf
        obtain rfl := Option.some.inj hf
        exact kx _ _ _ hw (lv_sub hl [0, 1, 2, 3, 4, 5, 6] rfl)
      · have hf := (if_neg cn33).symm.trans hf
        refine lv_aload_n hx hb dX1_chanceOf_80 rfl (lv_at hl 0 rfl) ?_
        refine x_g_hall_line hc hw fl_1_75 dX1_chanceOf_81 ?_
        refine lv_aload hx hb dX1_chanceOf_84 (lv_at hl 7 rfl) ?_
        refine x_rg_far hc hw hr22 fl_1_106 dX1_chanceOf_86 ?_
        refine lv_aload hx hb dX1_chanceOf_89 (lv_at hl 7 rfl) ?_
        refine lv_iload hx hb dX1_chanceOf_91 (lv_at hl 8 rfl) ?_
        obtain ⟨v23, hcall, hf⟩ := bd1_some hf
        refine x_cri (As := [.int v20]) (rest := [.int (S21.1 61 c19.toNatClampNeg), .ref (xr g 4)]) hc hw hR (hml.trans hl.1.symm) (cx_W_placeOf l N S21 c19 v20 v23 hcall) xq_1_W_placeOf hr22 (by decide) rfl rfl rfl (Nat.le_of_ble_eq_true rfl) dX1_chanceOf_93 (fun H locs hw => ?_) ⟨Nat.zero_le _, Nat.zero_le _⟩
        refine x_cvi (As := [.int (S21.1 61 c19.toNatClampNeg), .int v23]) (rest := []) hc hw hR (hml.trans hl.1.symm) (cx_L_besides l S21 (S21.1 61 c19.toNatClampNeg) v23 _ rfl) xq_1_L_besides (x_recv_line hw) (by decide) rfl rfl rfl (Nat.le_of_ble_eq_true rfl) dX1_chanceOf_96 (fun H locs hw => ?_) ⟨Nat.zero_le _, Nat.zero_le _⟩
        refine x_mabs hc hR (by decide) (hml.trans hl.1.symm) xq_1_x_mabs (Nat.le_of_ble_eq_true rfl) dX1_chanceOf_99 ?_ ⟨Nat.zero_le _, Nat.zero_le _⟩
        refine lv_aload_n hx hb dX1_chanceOf_102 rfl (lv_at hl 0 rfl) ?_
        refine x_g_hall_line hc hw fl_1_75 dX1_chanceOf_103 ?_
        refine x_g_line_far hc hw fl_1_138 dX1_chanceOf_106 ?_
        refine lv_icmp_gt (tgt := 132) hx hb dX1_chanceOf_109 (by decide) (fun cn34 => ?_) (fun cn34 => ?_)
        · have hf := (if_pos cn34).symm.trans hf
          refine lv_iinc (lv' := [(12, .int (v20 + 1)), (0, .ref (xr g 1)), (1, .ref (xr g (100 + 2 * c14.toNatClampNeg))), (4, .ref (xr g 5)), (5, .long v15), (7, .long v16), (9, .int c17), (10, .int c18), (11, .ref (xr g (100 + 2 * c19.toNatClampNeg)))]) hx hb dX1_chanceOf_132 hl (k := 8) rfl rfl (by decide) rfl (fun ls hl => ?_)
          refine lv_goto (tgt := 62) hx hb dX1_chanceOf_135 (by decide) ?_
          exact ih _ _ _ _ X _ _ _ hf hw (lv_sub hl [1, 2, 3, 4, 5, 6, 7, 8, 0] rfl) kx
        · have hf := (if_neg cn34).symm.trans hf
          refine lv_lload hx hb dX1_chanceOf_112 (lv_at hl 3 rfl) ?_
          refine lv_aload_n hx hb dX1_chanceOf_114 rfl (lv_at hl 0 rfl) ?_
          refine lv_aload hx hb dX1_chanceOf_115 (lv_at hl 7 rfl) ?_
          obtain ⟨v24, hcall, hf⟩ := bd1_some hf
          refine x_cvi (As := [.ref (xr g (100 + 2 * c19.toNatClampNeg))]) (rest := [.long v15]) hc hw hR (hml.trans hl.1.symm) (cx_H_countsOfThoseBelow l N S21 c19 v24 hcall) xq_1_H_countsOfThoseBelow (x_recv_hall hw) (by decide) rfl rfl rfl (Nat.le_of_ble_eq_true rfl) dX1_chanceOf_117 (fun H locs hw => ?_) ⟨Nat.zero_le _, Nat.zero_le _⟩
          refine lv_i2l hx hb dX1_chanceOf_120 rfl ?_
          refine lv_lmul hx hb dX1_chanceOf_121 ?_
          refine lv_lstore (lv' := [(5, .long (v15 * v24.toInt64)), (0, .ref (xr g 1)), (1, .ref (xr g (100 + 2 * c14.toNatClampNeg))), (4, .ref (xr g 5)), (7, .long v16), (9, .int c17), (10, .int c18), (11, .ref (xr g (100 + 2 * c19.toNatClampNeg))), (12, .int v20)]) hx hb dX1_chanceOf_122 hl (by decide) rfl (fun ls hl => ?_)
          refine lv_lload hx hb dX1_chanceOf_124 (lv_at hl 4 rfl) ?_
          refine lv_iload hx hb dX1_chanceOf_126 (lv_at hl 5 rfl) ?_
          refine lv_i2l hx hb dX1_chanceOf_128 rfl ?_
          refine lv_lmul hx hb dX1_chanceOf_129 ?_
          refine lv_lstore (lv' := [(7, .long (v16 * c17.toInt64)), (5, .long (v15 * v24.toInt64)), (0, .ref (xr g 1)), (1, .ref (xr g (100 + 2 * c14.toNatClampNeg))), (4, .ref (xr g 5)), (9, .int c17), (10, .int c18), (11, .ref (xr g (100 + 2 * c19.toNatClampNeg))), (12, .int v20)]) hx hb dX1_chanceOf_130 hl (by decide) rfl (fun ls hl => ?_)
          refine lv_iinc (lv' := [(12, .int (v20 + 1)), (7, .long (v16 * c17.toInt64)), (5, .long (v15 * v24.toInt64)), (0, .ref (xr g 1)), (1, .ref (xr g (100 + 2 * c14.toNatClampNeg))), (4, .ref (xr g 5)), (9, .int c17), (10, .int c18), (11, .ref (xr g (100 + 2 * c19.toNatClampNeg)))]) hx hb dX1_chanceOf_132 hl (k := 8) rfl rfl (by decide) rfl (fun ls hl => ?_)
          refine lv_goto (tgt := 62) hx hb dX1_chanceOf_135 (by decide) ?_
          exact ih _ _ _ _ X _ _ _ hf hw (lv_sub hl [3, 4, 5, 2, 1, 6, 7, 8, 0] rfl) kx
def xf_H_chanceOf_L34 (N : Nat) (c5 : Int32) (c8 : Int32) : Nat → xS → Int64 → Int64 → Int32 → Option (Int64 × Int64)
  | 0, _, _, _, _ => none
  | n + 1, S10, v6, v7, v9 => (if c5.toNatClampNeg < S10.2.2.1 then (if (S10.1 63 c5.toNatClampNeg) = 0 then some (v6, v7) else (if (S10.1 55 c5.toNatClampNeg) ≤ v9 then some (v6, v7) else (if ok v9 6 then (if v9.toNatClampNeg < S10.2.2.1 then (bd2 (xf_H_chanceOf_L62 N c5 c8 v9 v9 N S10 v6 v7 0) fun v25 v26 => xf_H_chanceOf_L34 N c5 c8 n S10 v25 v26 (v9 + 1)) else none) else none))) else none)
set_option maxRecDepth 100000 in
theorem wx_H_chanceOf_L34 {p : Program} {l : Launch} {e : Env} {R : Room} {s : State} {m : MethodId} {args : Array Value} {below : List Frame} {meth : Method} {c : Code} {Q : State → Prop} {g : xG} {A : Nat → Prop} {H0 : Heap} (hc : qC RX1 cX1_chanceOf p s m args c) (hR : qRoom R 5) (hml : c.maxLocals = 13) (N : Nat) (c5 : Int32) (c8 : Int32) : ∀ (n : Nat) (S10 : xS) (v6 : Int64) (v7 : Int64) (v9 : Int32) (X : Int64 × Int64) (H : Heap) (locs : List Loc) (ls : Array Slot), xf_H_chanceOf_L34 N c5 c8 n S10 v6 v7 v9 = some X → xI g A H0 s S10 H locs → lv_has ls 13 [(0, .ref (xr g 1)), (1, .ref (xr g (100 + 2 * c5.toNatClampNeg))), (4, .ref (xr g 5)), (5, .long v6), (7, .long v7), (9, .int c8), (10, .int v9)] → (∀ (H : Heap) (locs : List Loc) (ls : Array Slot), xI g A H0 s S10 H locs → lv_has ls 13 [(4, .ref (xr g 5)), (5, .long X.1), (7, .long X.2)] → W p l e R s m args below meth c H locs 0 0 Q (F0 m 144 ls [])) → W p l e R s m args below meth c H locs 0 0 Q (F0 m 34 ls []) := by
  have hx := hc.1
  have hb := hc.2.1
  intro n
  induction n with
  | zero => intro _ _ _ _ X H locs ls hf; exact nomatch (show none = some X from hf)
  | succ n ih =>
    intro S10 v6 v7 v9 X H locs ls hf hw hl kx
    rw [xf_H_chanceOf_L34] at hf
    refine lv_aload_n hx hb dX1_chanceOf_34 rfl (lv_at hl 1 rfl) ?_
    obtain ⟨hr11, hf⟩ := gd_some hf
    refine x_rg_among hc hw hr11 fl_1_123 dX1_chanceOf_35 ?_
    refine lv_if_eq (tgt := 144) hx hb dX1_chanceOf_38 (by decide) (fun cn30 => ?_) (fun cn30 => ?_)
    · have hf := (if_pos cn30).symm.trans hf
      obtain rfl := Option.some.inj hf
      exact kx _ _ _ hw (lv_sub hl [2, 3, 4] rfl)
    · have hf := (if_neg cn30).symm.trans hf
      refine lv_iload hx hb dX1_chanceOf_41 (lv_at hl 6 rfl) ?_
      refine lv_aload_n hx hb dX1_chanceOf_43 rfl (lv_at hl 1 rfl) ?_
      refine x_rg_number hc hw hr11 fl_1_127 dX1_chanceOf_44 ?_
      refine lv_icmp_ge (tgt := 144) hx hb dX1_chanceOf_47 (by decide) (fun cn31 => ?_) (fun cn31 => ?_)
      · have hf := (if_pos cn31).symm.trans hf
        obtain rfl := Option.some.inj hf
        exact kx _ _ _ hw (lv_sub hl [2, 3, 4] rfl)
      · have hf := (if_neg cn31).symm.trans hf
        refine lv_aload_n hx hb dX1_chanceOf_50 rfl (lv_at hl 0 rfl) ?_
        refine x_g_hall_rows hc hw fl_1_23 dX1_chanceOf_51 ?_
        refine lv_iload hx hb dX1_chanceOf_54 (lv_at hl 6 rfl) ?_
        obtain ⟨hi12, hf⟩ := gd_some hf
        obtain ⟨hr13, hf⟩ := gd_some hf
        refine x_l_rows hc hw (ok_in hi12) hr13 dX1_chanceOf_56 ?_
        refine lv_astore (lv' := [(11, .ref (xr g (100 + 2 * v9.toNatClampNeg))), (0, .ref (xr g 1)), (1, .ref (xr g (100 + 2 * c5.toNatClampNeg))), (4, .ref (xr g 5)), (5, .long v6), (7, .long v7), (9, .int c8), (10, .int v9)]) hx hb dX1_chanceOf_57 hl (by decide) rfl (fun ls hl => ?_)
        refine lv_iconst (v := 0) hx hb dX1_chanceOf_59 (by decide) ?_
        refine lv_istore (lv' := [(12, .int 0), (11, .ref (xr g (100 + 2 * v9.toNatClampNeg))), (0, .ref (xr g 1)), (1, .ref (xr g (100 + 2 * c5.toNatClampNeg))), (4, .ref (xr g 5)), (5, .long v6), (7, .long v7), (9, .int c8), (10, .int v9)]) hx hb dX1_chanceOf_60 hl (by decide) rfl (fun ls hl => ?_)
        obtain ⟨v25, v26, hL, hf⟩ := bd2_some hf
        refine wx_H_chanceOf_L62 hc hR hml N c5 c8 v9 v9 N _ _ _ _ _ _ _ _ hL hw (lv_sub hl [2, 3, 4, 5, 6, 7, 8, 1, 0] rfl) (fun H locs ls hw hl => ?_)
        refine lv_iinc (lv' := [(10, .int (v9 + 1)), (0, .ref (xr g 1)), (1, .ref (xr g (100 + 2 * c5.toNatClampNeg))), (4, .ref (xr g 5)), (5, .long v25), (7, .long v26), (9, .int c8)]) hx hb dX1_chanceOf_138 hl (k := 6) rfl rfl (by decide) rfl (fun ls hl => ?_)
        refine lv_goto (tgt := 34) hx hb dX1_chanceOf_141 (by decide) ?_
        exact ih _ _ _ _ X _ _ _ hf hw (lv_sub hl [1, 2, 3, 4, 5, 6, 0] rfl) kx
def xf_H_chanceOf (N : Nat) (S : xS) (a1 : Int32) (a2 : Int32) (a3 : Int32) : Option (xS) := (bd1 (xf_H_layLine N S a1 a2 a3) fun S1 => (bd1 (xf_H_hidingPost N S1) fun v2 => (bd1 (xf_H_allCounts N S1) fun v4 => (bd2 (xf_H_chanceOf_L34 N a1 v4 N S1 ((if v2 = (-1) then 1 else 0) : Int64) 1 0) fun v27 v28 => (bd1 (xf_X_reduce N S1 v27 v28) fun S29 => some S29)))))
set_option maxRecDepth 100000 in
theorem cx_H_chanceOf (l : Launch) (N : Nat) (S : xS) (a1 : Int32) (a2 : Int32) (a3 : Int32) (S1 : xS) (hf : xf_H_chanceOf N S a1 a2 a3 = some S1) : xMv l yX1_chanceOf cX1_chanceOf 13 5 (fun g => [.ref (xr g 1), .ref (xr g (100 + 2 * a1.toNatClampNeg)), .int a2, .int a3, .ref (xr g 5)]) S S1 := by
  refine xMv_of (own := RX1) (by decide) rfl (fun g => Nat.le_of_ble_eq_true rfl) ?_
  intro p e R s m args below meth c Q g A H0 H locs ls hc hR hml hw hl hQ
  have hl : lv_has ls 13 [(0, .ref (xr g 1)), (1, .ref (xr g (100 + 2 * a1.toNatClampNeg))), (2, .int a2), (3, .int a3), (4, .ref (xr g 5))] := hl
  have hx := hc.1
  have hb := hc.2.1
  unfold xf_H_chanceOf at hf
  refine lv_aload_n hx hb dX1_chanceOf_0 rfl (lv_at hl 0 rfl) ?_
  refine lv_aload_n hx hb dX1_chanceOf_1 rfl (lv_at hl 1 rfl) ?_
  refine lv_iload_n hx hb dX1_chanceOf_2 rfl (lv_at hl 2 rfl) ?_
  refine lv_iload_n hx hb dX1_chanceOf_3 rfl (lv_at hl 3 rfl) ?_
  obtain ⟨S1, hcall, hf⟩ := bd1_some hf
  refine x_cvv (As := [.ref (xr g (100 + 2 * a1.toNatClampNeg)), .int a2, .int a3]) (rest := []) hc hw hR (hml.trans hl.1.symm) (cx_H_layLine l N S a1 a2 a3 S1 hcall) xq_1_H_layLine (x_recv_hall hw) (by decide) rfl rfl rfl (Nat.le_of_ble_eq_true rfl) dX1_chanceOf_4 (fun H locs hw => ?_) ⟨Nat.zero_le _, Nat.zero_le _⟩
  refine lv_aload_n hx hb dX1_chanceOf_7 rfl (lv_at hl 0 rfl) ?_
  obtain ⟨v2, hcall, hf⟩ := bd1_some hf
  refine x_cvi (As := []) (rest := []) hc hw hR (hml.trans hl.1.symm) (cx_H_hidingPost l N S1 v2 hcall) xq_1_H_hidingPost (x_recv_hall hw) (by decide) rfl rfl rfl (Nat.le_of_ble_eq_true rfl) dX1_chanceOf_8 (fun H locs hw => ?_) ⟨Nat.zero_le _, Nat.zero_le _⟩
  refine lv_iconst (v := (-1)) hx hb dX1_chanceOf_11 (by decide) ?_
  obtain ⟨v3, hv3⟩ : ∃ y : Int64, y = (if v2 = (-1) then 1 else 0) := ⟨_, rfl⟩
  try rw [← hv3] at hf
  have kJ39 : ∀ v3x : Int64, v3 = v3x → ∀ (H : Heap) (locs : List Loc) (ls : Array Slot), xI g A H0 s S1 H locs → lv_has ls 13 [(0, .ref (xr g 1)), (1, .ref (xr g (100 + 2 * a1.toNatClampNeg))), (4, .ref (xr g 5))] → W p l e R s m args below meth c H locs 0 0 Q (F0 m 20 ls [.long v3x]) := by
    intro v3x hxv3 H locs ls hw hl
    subst hxv3
    refine lv_lstore (lv' := [(5, .long v3), (0, .ref (xr g 1)), (1, .ref (xr g (100 + 2 * a1.toNatClampNeg))), (4, .ref (xr g 5))]) hx hb dX1_chanceOf_20 hl (by decide) rfl (fun ls hl => ?_)
    refine lv_lconst (v := 1) hx hb dX1_chanceOf_22 rfl ?_
    refine lv_lstore (lv' := [(7, .long 1), (5, .long v3), (0, .ref (xr g 1)), (1, .ref (xr g (100 + 2 * a1.toNatClampNeg))), (4, .ref (xr g 5))]) hx hb dX1_chanceOf_23 hl (by decide) rfl (fun ls hl => ?_)
    refine lv_aload_n hx hb dX1_chanceOf_25 rfl (lv_at hl 2 rfl) ?_
    obtain ⟨v4, hcall, hf⟩ := bd1_some hf
    refine x_cvi (As := []) (rest := []) hc hw hR (hml.trans hl.1.symm) (cx_H_allCounts l N S1 v4 hcall) xq_1_H_allCounts (x_recv_hall hw) (by decide) rfl rfl rfl (Nat.le_of_ble_eq_true rfl) dX1_chanceOf_26 (fun H locs hw => ?_) ⟨Nat.zero_le _, Nat.zero_le _⟩
    refine lv_istore (lv' := [(9, .int v4), (7, .long 1), (5, .long v3), (0, .ref (xr g 1)), (1, .ref (xr g (100 + 2 * a1.toNatClampNeg))), (4, .ref (xr g 5))]) hx hb dX1_chanceOf_29 hl (by decide) rfl (fun ls hl => ?_)
    refine lv_iconst (v := 0) hx hb dX1_chanceOf_31 (by decide) ?_
    refine lv_istore (lv' := [(10, .int 0), (9, .int v4), (7, .long 1), (5, .long v3), (0, .ref (xr g 1)), (1, .ref (xr g (100 + 2 * a1.toNatClampNeg))), (4, .ref (xr g 5))]) hx hb dX1_chanceOf_32 hl (by decide) rfl (fun ls hl => ?_)
    obtain ⟨v27, v28, hL, hf⟩ := bd2_some hf
    refine wx_H_chanceOf_L34 hc hR hml N a1 v4 N _ _ _ _ _ _ _ _ hL hw (lv_sub hl [4, 5, 6, 3, 2, 1, 0] rfl) (fun H locs ls hw hl => ?_)
    refine lv_lload hx hb dX1_chanceOf_144 (lv_at hl 1 rfl) ?_
    refine lv_lload hx hb dX1_chanceOf_146 (lv_at hl 2 rfl) ?_
    refine lv_aload hx hb dX1_chanceOf_148 (lv_at hl 0 rfl) ?_
    obtain ⟨S29, hcall, hf⟩ := bd1_some hf
    refine x_csvN (As := [.long v27, .long v28, .ref (xr g 5)]) (rest := []) hc hw hR (hml.trans hl.1.symm) (cx_X_reduce l N S1 v27 v28 S29 hcall) xq_1_X_reduce (by decide) rfl rfl rfl (Nat.le_of_ble_eq_true rfl) dX1_chanceOf_150 (fun H locs hw => ?_) ⟨Nat.zero_le _, Nat.zero_le _⟩
    obtain rfl := Option.some.inj hf
    exact hQ _ _ _ _ dX1_chanceOf_153 hw
  refine lv_icmp_ne (tgt := 19) hx hb dX1_chanceOf_12 (by decide) (fun cn40 => ?_) (fun cn40 => ?_)
  · refine lv_lconst (v := 0) hx hb dX1_chanceOf_19 rfl ?_
    have ev3 : v3 = 0 := by rw [hv3]; simp only [if_neg cn40]
    exact kJ39 _ ev3 _ _ _ hw (lv_sub hl [0, 1, 4] rfl)
  · refine lv_lconst (v := 1) hx hb dX1_chanceOf_15 rfl ?_
    refine lv_goto (tgt := 20) hx hb dX1_chanceOf_16 (by decide) ?_
    have ev3 : v3 = 1 := by rw [hv3]; simp only [if_pos cn40]
    exact kJ39 _ ev3 _ _ _ hw (lv_sub hl [0, 1, 4] rfl)
def xf_H_likeOf (N : Nat) (S : xS) (a1 : Int32) (a2 : Int32) (a3 : Int32) : Option (Int32 × xS) := (bd1 (xf_H_nameSeat N S a1 a2) fun S1 => (if ok a3 6 then (bd2 (xf_H_byLaw N (xs (xs S1 25 (0 : Int32).toNatClampNeg (S1.1 13 a3.toNatClampNeg)) 25 (1 : Int32).toNatClampNeg (((xs S1 25 (0 : Int32).toNatClampNeg (S1.1 13 a3.toNatClampNeg)).1 12 a3.toNatClampNeg) + ((xs S1 25 (0 : Int32).toNatClampNeg (S1.1 13 a3.toNatClampNeg)).1 21 0))) 0 99) fun v3 S4 => some (v3, S4)) else none))
set_option maxRecDepth 100000 in
theorem cx_H_likeOf (l : Launch) (N : Nat) (S : xS) (a1 : Int32) (a2 : Int32) (a3 : Int32) (res : Int32) (S1 : xS) (hf : xf_H_likeOf N S a1 a2 a3 = some (res, S1)) : xMi l yX1_likeOf cX1_likeOf 4 .int 5 (fun g => [.ref (xr g 1), .ref (xr g (100 + 2 * a1.toNatClampNeg)), .int a2, .int a3]) S res S1 := by
  refine xMi_of (own := RX1) (by decide) rfl rfl (fun g => Nat.le_of_ble_eq_true rfl) ?_
  intro p e R s m args below meth c Q g A H0 H locs ls hc hR hml hw hl hQ
  have hl : lv_has ls 4 [(0, .ref (xr g 1)), (1, .ref (xr g (100 + 2 * a1.toNatClampNeg))), (2, .int a2), (3, .int a3)] := hl
  have hx := hc.1
  have hb := hc.2.1
  unfold xf_H_likeOf at hf
  refine lv_aload_n hx hb dX1_likeOf_0 rfl (lv_at hl 0 rfl) ?_
  refine lv_aload_n hx hb dX1_likeOf_1 rfl (lv_at hl 1 rfl) ?_
  refine lv_iload_n hx hb dX1_likeOf_2 rfl (lv_at hl 2 rfl) ?_
  obtain ⟨S1, hcall, hf⟩ := bd1_some hf
  refine x_cvv (As := [.ref (xr g (100 + 2 * a1.toNatClampNeg)), .int a2]) (rest := []) hc hw hR (hml.trans hl.1.symm) (cx_H_nameSeat l N S a1 a2 S1 hcall) xq_1_H_nameSeat (x_recv_hall hw) (by decide) rfl rfl rfl (Nat.le_of_ble_eq_true rfl) dX1_likeOf_3 (fun H locs hw => ?_) ⟨Nat.zero_le _, Nat.zero_le _⟩
  refine lv_aload_n hx hb dX1_likeOf_6 rfl (lv_at hl 0 rfl) ?_
  refine x_g_hall_names hc hw fl_1_79 dX1_likeOf_7 ?_
  refine lv_iconst (v := 0) hx hb dX1_likeOf_10 (by decide) ?_
  refine lv_aload_n hx hb dX1_likeOf_11 rfl (lv_at hl 0 rfl) ?_
  refine x_g_hall_pointValues hc hw fl_1_33 dX1_likeOf_12 ?_
  refine lv_iload_n hx hb dX1_likeOf_15 rfl (lv_at hl 3 rfl) ?_
  obtain ⟨hi2, hf⟩ := gd_some hf
  refine x_l_hall_pointValues hc hw (ok_in hi2) dX1_likeOf_16 ?_
  refine x_s_hall_names hc hw (ok_in (by decide)) dX1_likeOf_17 (fun H locs hw => ?_)
  refine lv_aload_n hx hb dX1_likeOf_18 rfl (lv_at hl 0 rfl) ?_
  refine x_g_hall_names hc hw fl_1_79 dX1_likeOf_19 ?_
  refine lv_iconst (v := 1) hx hb dX1_likeOf_22 (by decide) ?_
  refine lv_aload_n hx hb dX1_likeOf_23 rfl (lv_at hl 0 rfl) ?_
  refine x_g_hall_pointHighs hc hw fl_1_30 dX1_likeOf_24 ?_
  refine lv_iload_n hx hb dX1_likeOf_27 rfl (lv_at hl 3 rfl) ?_
  refine x_l_hall_pointHighs hc hw (ok_in hi2) dX1_likeOf_28 ?_
  refine lv_aload_n hx hb dX1_likeOf_29 rfl (lv_at hl 0 rfl) ?_
  refine x_g_hall_stageLift hc hw fl_1_59 dX1_likeOf_30 ?_
  refine lv_iadd hx hb dX1_likeOf_33 ?_
  refine x_s_hall_names hc hw (ok_in (by decide)) dX1_likeOf_34 (fun H locs hw => ?_)
  refine lv_aload_n hx hb dX1_likeOf_35 rfl (lv_at hl 0 rfl) ?_
  refine lv_iconst (v := 0) hx hb dX1_likeOf_36 (by decide) ?_
  refine lv_bipush (v := 99) hx hb dX1_likeOf_37 (by decide) ?_
  obtain ⟨v3, S4, hcall, hf⟩ := bd2_some hf
  refine x_cvi (As := [.int 0, .int 99]) (rest := []) hc hw hR (hml.trans hl.1.symm) (cx_H_byLaw l N (xs (xs S1 25 (0 : Int32).toNatClampNeg (S1.1 13 a3.toNatClampNeg)) 25 (1 : Int32).toNatClampNeg (((xs S1 25 (0 : Int32).toNatClampNeg (S1.1 13 a3.toNatClampNeg)).1 12 a3.toNatClampNeg) + ((xs S1 25 (0 : Int32).toNatClampNeg (S1.1 13 a3.toNatClampNeg)).1 21 0))) 0 99 v3 S4 hcall) xq_1_H_byLaw (x_recv_hall hw) (by decide) rfl rfl rfl (Nat.le_of_ble_eq_true rfl) dX1_likeOf_39 (fun H locs hw => ?_) ⟨Nat.zero_le _, Nat.zero_le _⟩
  obtain ⟨rfl, rfl⟩ := pr2_some hf
  exact hQ _ _ _ _ dX1_likeOf_42 hw
def xf_H_costOfRows_L4 (N : Nat) : Nat → xS → Int32 → Int32 → Option (Int32 × xS)
  | 0, _, _, _ => none
  | n + 1, S3, v1, v2 => (if (S3.1 16 0) ≤ v2 then some (v1, S3) else (bd1 (xf_H_stepOf N S3 v2) fun v4 => (if v4 = 0 then xf_H_costOfRows_L4 N n S3 v1 (v2 + 1) else (if ok v2 6 then (if v2.toNatClampNeg < S3.2.2.1 then (bd2 (xf_H_byLaw N (xs (xs (xs (xs (xs (xs S3 25 (0 : Int32).toNatClampNeg 0) 25 (1 : Int32).toNatClampNeg v4) 25 (2 : Int32).toNatClampNeg v2) 25 (3 : Int32).toNatClampNeg 0) 25 (4 : Int32).toNatClampNeg ((xs (xs (xs (xs S3 25 (0 : Int32).toNatClampNeg 0) 25 (1 : Int32).toNatClampNeg v4) 25 (2 : Int32).toNatClampNeg v2) 25 (3 : Int32).toNatClampNeg 0).1 57 v2.toNatClampNeg)) 25 (5 : Int32).toNatClampNeg 0) 2 999) fun v7 S8 => xf_H_costOfRows_L4 N n S8 (v1 + v7) (v2 + 1)) else none) else none))))
set_option maxRecDepth 100000 in
theorem wx_H_costOfRows_L4 {p : Program} {l : Launch} {e : Env} {R : Room} {s : State} {m : MethodId} {args : Array Value} {below : List Frame} {meth : Method} {c : Code} {Q : State → Prop} {g : xG} {A : Nat → Prop} {H0 : Heap} (hc : qC RX1 cX1_costOfRows p s m args c) (hR : qRoom R 5) (hml : c.maxLocals = 4) (N : Nat) : ∀ (n : Nat) (S3 : xS) (v1 : Int32) (v2 : Int32) (X : Int32 × xS) (H : Heap) (locs : List Loc) (ls : Array Slot), xf_H_costOfRows_L4 N n S3 v1 v2 = some X → xI g A H0 s S3 H locs → lv_has ls 4 [(0, .ref (xr g 1)), (1, .int v1), (2, .int v2)] → (∀ (H : Heap) (locs : List Loc) (ls : Array Slot), xI g A H0 s X.2 H locs → lv_has ls 4 [(1, .int X.1)] → W p l e R s m args below meth c H locs 0 0 Q (F0 m 89 ls [])) → W p l e R s m args below meth c H locs 0 0 Q (F0 m 4 ls []) := by
  have hx := hc.1
  have hb := hc.2.1
  intro n
  induction n with
  | zero => intro _ _ _ X H locs ls hf; exact nomatch (show none = some X from hf)
  | succ n ih =>
    intro S3 v1 v2 X H locs ls hf hw hl kx
    rw [xf_H_costOfRows_L4] at hf
    refine lv_iload_n hx hb dX1_costOfRows_4 rfl (lv_at hl 2 rfl) ?_
    refine lv_aload_n hx hb dX1_costOfRows_5 rfl (lv_at hl 0 rfl) ?_
    refine x_g_hall_rowCount hc hw fl_1_42 dX1_costOfRows_6 ?_
    refine lv_icmp_ge (tgt := 89) hx hb dX1_costOfRows_9 (by decide) (fun cn11 => ?_) (fun cn11 => ?_)
    · have hf := (if_pos cn11).symm.trans hf
      obtain rfl := Option.some.inj hf
      exact kx _ _ _ hw (lv_sub hl [1] rfl)
    · have hf := (if_neg cn11).symm.trans hf
      refine lv_aload_n hx hb dX1_costOfRows_12 rfl (lv_at hl 0 rfl) ?_
      refine lv_iload_n hx hb dX1_costOfRows_13 rfl (lv_at hl 2 rfl) ?_
      obtain ⟨v4, hcall, hf⟩ := bd1_some hf
      refine x_cvi (As := [.int v2]) (rest := []) hc hw hR (hml.trans hl.1.symm) (cx_H_stepOf l N S3 v2 v4 hcall) xq_1_H_stepOf (x_recv_hall hw) (by decide) rfl rfl rfl (Nat.le_of_ble_eq_true rfl) dX1_costOfRows_14 (fun H locs hw => ?_) ⟨Nat.zero_le _, Nat.zero_le _⟩
      refine lv_istore_n (lv' := [(3, .int v4), (0, .ref (xr g 1)), (1, .int v1), (2, .int v2)]) hx hb dX1_costOfRows_17 rfl hl (by decide) rfl (fun ls hl => ?_)
      refine lv_iload_n hx hb dX1_costOfRows_18 rfl (lv_at hl 0 rfl) ?_
      refine lv_if_eq (tgt := 83) hx hb dX1_costOfRows_19 (by decide) (fun cn12 => ?_) (fun cn12 => ?_)
      · have hf := (if_pos cn12).symm.trans hf
        refine lv_iinc (lv' := [(2, .int (v2 + 1)), (3, .int v4), (0, .ref (xr g 1)), (1, .int v1)]) hx hb dX1_costOfRows_83 hl (k := 3) rfl rfl (by decide) rfl (fun ls hl => ?_)
        refine lv_goto (tgt := 4) hx hb dX1_costOfRows_86 (by decide) ?_
        exact ih _ _ _ X _ _ _ hf hw (lv_sub hl [2, 3, 0] rfl) kx
      · have hf := (if_neg cn12).symm.trans hf
        refine lv_aload_n hx hb dX1_costOfRows_22 rfl (lv_at hl 1 rfl) ?_
        refine x_g_hall_names hc hw fl_1_79 dX1_costOfRows_23 ?_
        refine lv_iconst (v := 0) hx hb dX1_costOfRows_26 (by decide) ?_
        refine lv_iconst (v := 0) hx hb dX1_costOfRows_27 (by decide) ?_
        refine x_s_hall_names hc hw (ok_in (by decide)) dX1_costOfRows_28 (fun H locs hw => ?_)
        refine lv_aload_n hx hb dX1_costOfRows_29 rfl (lv_at hl 1 rfl) ?_
        refine x_g_hall_names hc hw fl_1_79 dX1_costOfRows_30 ?_
        refine lv_iconst (v := 1) hx hb dX1_costOfRows_33 (by decide) ?_
        refine lv_iload_n hx hb dX1_costOfRows_34 rfl (lv_at hl 0 rfl) ?_
        refine x_s_hall_names hc hw (ok_in (by decide)) dX1_costOfRows_35 (fun H locs hw => ?_)
        refine lv_aload_n hx hb dX1_costOfRows_36 rfl (lv_at hl 1 rfl) ?_
        refine x_g_hall_names hc hw fl_1_79 dX1_costOfRows_37 ?_
        refine lv_iconst (v := 2) hx hb dX1_costOfRows_40 (by decide) ?_
        refine lv_iload_n hx hb dX1_costOfRows_41 rfl (lv_at hl 3 rfl) ?_
        refine x_s_hall_names hc hw (ok_in (by decide)) dX1_costOfRows_42 (fun H locs hw => ?_)
        refine lv_aload_n hx hb dX1_costOfRows_43 rfl (lv_at hl 1 rfl) ?_
        refine x_g_hall_names hc hw fl_1_79 dX1_costOfRows_44 ?_
        refine lv_iconst (v := 3) hx hb dX1_costOfRows_47 (by decide) ?_
        refine lv_iconst (v := 0) hx hb dX1_costOfRows_48 (by decide) ?_
        refine x_s_hall_names hc hw (ok_in (by decide)) dX1_costOfRows_49 (fun H locs hw => ?_)
        refine lv_aload_n hx hb dX1_costOfRows_50 rfl (lv_at hl 1 rfl) ?_
        refine x_g_hall_names hc hw fl_1_79 dX1_costOfRows_51 ?_
        refine lv_iconst (v := 4) hx hb dX1_costOfRows_54 (by decide) ?_
        refine lv_aload_n hx hb dX1_costOfRows_55 rfl (lv_at hl 1 rfl) ?_
        refine x_g_hall_rows hc hw fl_1_23 dX1_costOfRows_56 ?_
        refine lv_iload_n hx hb dX1_costOfRows_59 rfl (lv_at hl 3 rfl) ?_
        obtain ⟨hi5, hf⟩ := gd_some hf
        obtain ⟨hr6, hf⟩ := gd_some hf
        refine x_l_rows hc hw (ok_in hi5) hr6 dX1_costOfRows_60 ?_
        refine x_rg_rise hc hw hr6 fl_1_89 dX1_costOfRows_61 ?_
        refine x_s_hall_names hc hw (ok_in (by decide)) dX1_costOfRows_64 (fun H locs hw => ?_)
        refine lv_aload_n hx hb dX1_costOfRows_65 rfl (lv_at hl 1 rfl) ?_
        refine x_g_hall_names hc hw fl_1_79 dX1_costOfRows_66 ?_
        refine lv_iconst (v := 5) hx hb dX1_costOfRows_69 (by decide) ?_
        refine lv_iconst (v := 0) hx hb dX1_costOfRows_70 (by decide) ?_
        refine x_s_hall_names hc hw (ok_in (by decide)) dX1_costOfRows_71 (fun H locs hw => ?_)
        refine lv_iload_n hx hb dX1_costOfRows_72 rfl (lv_at hl 2 rfl) ?_
        refine lv_aload_n hx hb dX1_costOfRows_73 rfl (lv_at hl 1 rfl) ?_
        refine lv_iconst (v := 2) hx hb dX1_costOfRows_74 (by decide) ?_
        refine lv_sipush (v := 999) hx hb dX1_costOfRows_75 (by decide) ?_
        obtain ⟨v7, S8, hcall, hf⟩ := bd2_some hf
        refine x_cvi (As := [.int 2, .int 999]) (rest := [.int v1]) hc hw hR (hml.trans hl.1.symm) (cx_H_byLaw l N (xs (xs (xs (xs (xs (xs S3 25 (0 : Int32).toNatClampNeg 0) 25 (1 : Int32).toNatClampNeg v4) 25 (2 : Int32).toNatClampNeg v2) 25 (3 : Int32).toNatClampNeg 0) 25 (4 : Int32).toNatClampNeg ((xs (xs (xs (xs S3 25 (0 : Int32).toNatClampNeg 0) 25 (1 : Int32).toNatClampNeg v4) 25 (2 : Int32).toNatClampNeg v2) 25 (3 : Int32).toNatClampNeg 0).1 57 v2.toNatClampNeg)) 25 (5 : Int32).toNatClampNeg 0) 2 999 v7 S8 hcall) xq_1_H_byLaw (x_recv_hall hw) (by decide) rfl rfl rfl (Nat.le_of_ble_eq_true rfl) dX1_costOfRows_78 (fun H locs hw => ?_) ⟨Nat.zero_le _, Nat.zero_le _⟩
        refine lv_iadd hx hb dX1_costOfRows_81 ?_
        refine lv_istore_n (lv' := [(1, .int (v1 + v7)), (3, .int v4), (0, .ref (xr g 1)), (2, .int v2)]) hx hb dX1_costOfRows_82 rfl hl (by decide) rfl (fun ls hl => ?_)
        refine lv_iinc (lv' := [(2, .int (v2 + 1)), (1, .int (v1 + v7)), (3, .int v4), (0, .ref (xr g 1))]) hx hb dX1_costOfRows_83 hl (k := 3) rfl rfl (by decide) rfl (fun ls hl => ?_)
        refine lv_goto (tgt := 4) hx hb dX1_costOfRows_86 (by decide) ?_
        exact ih _ _ _ X _ _ _ hf hw (lv_sub hl [3, 1, 0] rfl) kx
def xf_H_costOfRows (N : Nat) (S : xS) : Option (Int32 × xS) := (bd2 (xf_H_costOfRows_L4 N N S 0 0) fun v9 S10 => some (v9, S10))
set_option maxRecDepth 100000 in
theorem cx_H_costOfRows (l : Launch) (N : Nat) (S : xS) (res : Int32) (S1 : xS) (hf : xf_H_costOfRows N S = some (res, S1)) : xMi l yX1_costOfRows cX1_costOfRows 4 .int 5 (fun g => [.ref (xr g 1)]) S res S1 := by
  refine xMi_of (own := RX1) (by decide) rfl rfl (fun g => Nat.le_of_ble_eq_true rfl) ?_
  intro p e R s m args below meth c Q g A H0 H locs ls hc hR hml hw hl hQ
  have hl : lv_has ls 4 [(0, .ref (xr g 1))] := hl
  have hx := hc.1
  have hb := hc.2.1
  unfold xf_H_costOfRows at hf
  refine lv_iconst (v := 0) hx hb dX1_costOfRows_0 (by decide) ?_
  refine lv_istore_n (lv' := [(1, .int 0), (0, .ref (xr g 1))]) hx hb dX1_costOfRows_1 rfl hl (by decide) rfl (fun ls hl => ?_)
  refine lv_iconst (v := 0) hx hb dX1_costOfRows_2 (by decide) ?_
  refine lv_istore_n (lv' := [(2, .int 0), (1, .int 0), (0, .ref (xr g 1))]) hx hb dX1_costOfRows_3 rfl hl (by decide) rfl (fun ls hl => ?_)
  obtain ⟨v9, S10, hL, hf⟩ := bd2_some hf
  refine wx_H_costOfRows_L4 hc hR hml N N _ _ _ _ _ _ _ hL hw (lv_sub hl [2, 1, 0] rfl) (fun H locs ls hw hl => ?_)
  refine lv_iload_n hx hb dX1_costOfRows_89 rfl (lv_at hl 0 rfl) ?_
  obtain ⟨rfl, rfl⟩ := pr2_some hf
  exact hQ _ _ _ _ dX1_costOfRows_90 hw
def xf_X_hidden (N : Nat) (S : xS) (a1 : Int32) (a2 : Int32) (a3 : Int32) : Option (Int32 × xS) := (bd1 (xf_H_rowWith N S a1 a2) fun v1 => (if v1 < 0 then some ((-5), S) else (if (xf_X_isPoint S a3) = true then (bd2 (xf_H_hiderOf N S v1 a2 a3) fun v3 S4 => some (v3, S4)) else some ((-7), S))))
set_option maxRecDepth 100000 in
theorem cx_X_hidden (l : Launch) (N : Nat) (S : xS) (a1 : Int32) (a2 : Int32) (a3 : Int32) (res : Int32) (S1 : xS) (hf : xf_X_hidden N S a1 a2 a3 = some (res, S1)) : xMi l yX11_hidden cX11_hidden 5 .int 6 (fun g => [.ref (xr g 0), .int a1, .int a2, .int a3]) S res S1 := by
  refine xMi_of (own := RX11) (by decide) rfl rfl (fun g => Nat.le_of_ble_eq_true rfl) ?_
  intro p e R s m args below meth c Q g A H0 H locs ls hc hR hml hw hl hQ
  have hl : lv_has ls 5 [(0, .ref (xr g 0)), (1, .int a1), (2, .int a2), (3, .int a3)] := hl
  have hx := hc.1
  have hb := hc.2.1
  unfold xf_X_hidden at hf
  refine lv_aload_n hx hb dX11_hidden_0 rfl (lv_at hl 0 rfl) ?_
  refine x_g_this_hall hc hw fl_11_10 dX11_hidden_1 ?_
  refine lv_iload_n hx hb dX11_hidden_4 rfl (lv_at hl 1 rfl) ?_
  refine lv_iload_n hx hb dX11_hidden_5 rfl (lv_at hl 2 rfl) ?_
  obtain ⟨v1, hcall, hf⟩ := bd1_some hf
  refine x_cvr (As := [.int a1, .int a2]) (rest := []) hc hw hR (hml.trans hl.1.symm) (cx_H_rowWith l N S a1 a2 v1 hcall) xq_11_H_rowWith (x_recv_hall hw) (by decide) rfl rfl rfl (Nat.le_of_ble_eq_true rfl) dX11_hidden_6 (fun H locs hw => ?_) ⟨Nat.zero_le _, Nat.zero_le _⟩
  refine x_splitr (fun cn2 => ?_) (fun cn2 => ?_)
  · have hf := (if_pos cn2).symm.trans hf
    refine lv_astoreN (lv' := [(4, .null), (0, .ref (xr g 0)), (1, .int a1), (2, .int a2), (3, .int a3)]) hx hb dX11_hidden_9 hl (by decide) rfl (fun ls hl => ?_)
    refine lv_aloadN hx hb dX11_hidden_11 (lv_at hl 0 rfl) ?_
    refine lv_ifnonnullN hx hb dX11_hidden_13 ?_
    refine lv_bipush (v := (-5)) hx hb dX11_hidden_16 (by decide) ?_
    obtain ⟨rfl, rfl⟩ := pr2_some hf
    exact hQ _ _ _ _ dX11_hidden_18 hw
  · have hf := (if_neg cn2).symm.trans hf
    refine lv_astore (lv' := [(4, .ref (xr g (100 + 2 * v1.toNatClampNeg))), (0, .ref (xr g 0)), (1, .int a1), (2, .int a2), (3, .int a3)]) hx hb dX11_hidden_9 hl (by decide) rfl (fun ls hl => ?_)
    refine lv_aload hx hb dX11_hidden_11 (lv_at hl 0 rfl) ?_
    refine lv_ifnonnull (tgt := 19) hx hb dX11_hidden_13 (by decide) ?_
    refine lv_aload_n hx hb dX11_hidden_19 rfl (lv_at hl 1 rfl) ?_
    refine lv_iload_n hx hb dX11_hidden_20 rfl (lv_at hl 4 rfl) ?_
    refine x_cvi (As := [.int a3]) (rest := []) hc hw hR (hml.trans hl.1.symm) (cx_X_isPoint l S a3 _ rfl) xq_11_X_isPoint (x_recv_this hw) (by decide) rfl rfl rfl (Nat.le_of_ble_eq_true rfl) dX11_hidden_21 (fun H locs hw => ?_) ⟨Nat.zero_le _, Nat.zero_le _⟩
    refine lv_if_eqb (tgt := 41) hx hb dX11_hidden_24 (by decide) (fun cn5 => ?_) (fun cn5 => ?_)
    · have hf := (if_neg cn5).symm.trans hf
      refine lv_bipush (v := (-7)) hx hb dX11_hidden_41 (by decide) ?_
      obtain ⟨rfl, rfl⟩ := pr2_some hf
      exact hQ _ _ _ _ dX11_hidden_43 hw
    · have hf := (if_pos cn5).symm.trans hf
      refine lv_aload_n hx hb dX11_hidden_27 rfl (lv_at hl 1 rfl) ?_
      refine x_g_this_hall hc hw fl_11_10 dX11_hidden_28 ?_
      refine lv_aload hx hb dX11_hidden_31 (lv_at hl 0 rfl) ?_
      refine lv_iload_n hx hb dX11_hidden_33 rfl (lv_at hl 3 rfl) ?_
      refine lv_iload_n hx hb dX11_hidden_34 rfl (lv_at hl 4 rfl) ?_
      obtain ⟨v3, S4, hcall, hf⟩ := bd2_some hf
      refine x_cvi (As := [.ref (xr g (100 + 2 * v1.toNatClampNeg)), .int a2, .int a3]) (rest := []) hc hw hR (hml.trans hl.1.symm) (cx_H_hiderOf l N S v1 a2 a3 v3 S4 hcall) xq_11_H_hiderOf (x_recv_hall hw) (by decide) rfl rfl rfl (Nat.le_of_ble_eq_true rfl) dX11_hidden_35 (fun H locs hw => ?_) ⟨Nat.zero_le _, Nat.zero_le _⟩
      refine lv_goto (tgt := 43) hx hb dX11_hidden_38 (by decide) ?_
      obtain ⟨rfl, rfl⟩ := pr2_some hf
      exact hQ _ _ _ _ dX11_hidden_43 hw
def xf_X_cost (N : Nat) (S : xS) : Option (Int32 × xS) := (bd2 (xf_H_costOfRows N S) fun v1 S2 => some (v1, S2))
set_option maxRecDepth 100000 in
theorem cx_X_cost (l : Launch) (N : Nat) (S : xS) (res : Int32) (S1 : xS) (hf : xf_X_cost N S = some (res, S1)) : xMi l yX11_cost cX11_cost 1 .int 6 (fun g => [.ref (xr g 0)]) S res S1 := by
  refine xMi_of (own := RX11) (by decide) rfl rfl (fun g => Nat.le_of_ble_eq_true rfl) ?_
  intro p e R s m args below meth c Q g A H0 H locs ls hc hR hml hw hl hQ
  have hl : lv_has ls 1 [(0, .ref (xr g 0))] := hl
  have hx := hc.1
  have hb := hc.2.1
  unfold xf_X_cost at hf
  refine lv_aload_n hx hb dX11_cost_0 rfl (lv_at hl 0 rfl) ?_
  refine x_g_this_hall hc hw fl_11_10 dX11_cost_1 ?_
  obtain ⟨v1, S2, hcall, hf⟩ := bd2_some hf
  refine x_cvi (As := []) (rest := []) hc hw hR (hml.trans hl.1.symm) (cx_H_costOfRows l N S v1 S2 hcall) xq_11_H_costOfRows (x_recv_hall hw) (by decide) rfl rfl rfl (Nat.le_of_ble_eq_true rfl) dX11_cost_4 (fun H locs hw => ?_) ⟨Nat.zero_le _, Nat.zero_le _⟩
  obtain ⟨rfl, rfl⟩ := pr2_some hf
  exact hQ _ _ _ _ dX11_cost_7 hw
def xf_X_chance (N : Nat) (S : xS) (a1 : Int32) (a2 : Int32) (a3 : Int32) (a4 : Int32) : Option (Int64 × xS) := (bd1 (xf_H_rowWith N S a1 a2) fun v1 => (if v1 < 0 then some ((-4611686018427387904), S) else (if (xf_X_isPoint S a3) = true then (if (xf_X_isIn a4 0 1) = true then (bd1 (xf_H_allCounts N S) fun v3 => (if v3 = 0 then some ((-4611686018427387904), S) else (bd1 (xf_H_chanceOf N S v1 a2 a3) fun S4 => (if ok a4 2 then some (S4.2.1 0 a4.toNatClampNeg, S4) else none)))) else some ((-4611686018427387904), S)) else some ((-4611686018427387904), S))))
set_option maxRecDepth 100000 in
theorem cx_X_chance (l : Launch) (N : Nat) (S : xS) (a1 : Int32) (a2 : Int32) (a3 : Int32) (a4 : Int32) (res : Int64) (S1 : xS) (hf : xf_X_chance N S a1 a2 a3 a4 = some (res, S1)) : xMl l yX11_chance cX11_chance 6 6 (fun g => [.ref (xr g 0), .int a1, .int a2, .int a3, .int a4]) S res S1 := by
  refine xMl_of (own := RX11) (by decide) rfl (fun g => Nat.le_of_ble_eq_true rfl) ?_
  intro p e R s m args below meth c Q g A H0 H locs ls hc hR hml hw hl hQ
  have hl : lv_has ls 6 [(0, .ref (xr g 0)), (1, .int a1), (2, .int a2), (3, .int a3), (4, .int a4)] := hl
  have hx := hc.1
  have hb := hc.2.1
  unfold xf_X_chance at hf
  refine lv_aload_n hx hb dX11_chance_0 rfl (lv_at hl 0 rfl) ?_
  refine x_g_this_hall hc hw fl_11_10 dX11_chance_1 ?_
  refine lv_iload_n hx hb dX11_chance_4 rfl (lv_at hl 1 rfl) ?_
  refine lv_iload_n hx hb dX11_chance_5 rfl (lv_at hl 2 rfl) ?_
  obtain ⟨v1, hcall, hf⟩ := bd1_some hf
  refine x_cvr (As := [.int a1, .int a2]) (rest := []) hc hw hR (hml.trans hl.1.symm) (cx_H_rowWith l N S a1 a2 v1 hcall) xq_11_H_rowWith (x_recv_hall hw) (by decide) rfl rfl rfl (Nat.le_of_ble_eq_true rfl) dX11_chance_6 (fun H locs hw => ?_) ⟨Nat.zero_le _, Nat.zero_le _⟩
  refine x_splitr (fun cn2 => ?_) (fun cn2 => ?_)
  · have hf := (if_pos cn2).symm.trans hf
    refine lv_astoreN (lv' := [(5, .null), (0, .ref (xr g 0)), (1, .int a1), (2, .int a2), (3, .int a3), (4, .int a4)]) hx hb dX11_chance_9 hl (by decide) rfl (fun ls hl => ?_)
    refine lv_aloadN hx hb dX11_chance_11 (lv_at hl 0 rfl) ?_
    refine lv_ifnullN (tgt := 44) hx hb dX11_chance_13 (by decide) ?_
    refine lv_ldc2 (v := (-4611686018427387904)) hx hb hc.2.2.1 (hc.2.2.2 _ (mem_g 960 (by decide +kernel) rfl)) dX11_chance_44 ?_
    obtain ⟨rfl, rfl⟩ := pr2_some hf
    exact hQ _ _ _ _ dX11_chance_47 hw
  · have hf := (if_neg cn2).symm.trans hf
    refine lv_astore (lv' := [(5, .ref (xr g (100 + 2 * v1.toNatClampNeg))), (0, .ref (xr g 0)), (1, .int a1), (2, .int a2), (3, .int a3), (4, .int a4)]) hx hb dX11_chance_9 hl (by decide) rfl (fun ls hl => ?_)
    refine lv_aload hx hb dX11_chance_11 (lv_at hl 0 rfl) ?_
    refine lv_ifnull hx hb dX11_chance_13 ?_
    refine lv_aload_n hx hb dX11_chance_16 rfl (lv_at hl 1 rfl) ?_
    refine lv_iload_n hx hb dX11_chance_17 rfl (lv_at hl 4 rfl) ?_
    refine x_cvi (As := [.int a3]) (rest := []) hc hw hR (hml.trans hl.1.symm) (cx_X_isPoint l S a3 _ rfl) xq_11_X_isPoint (x_recv_this hw) (by decide) rfl rfl rfl (Nat.le_of_ble_eq_true rfl) dX11_chance_18 (fun H locs hw => ?_) ⟨Nat.zero_le _, Nat.zero_le _⟩
    refine lv_if_eqb (tgt := 44) hx hb dX11_chance_21 (by decide) (fun cn6 => ?_) (fun cn6 => ?_)
    · have hf := (if_neg cn6).symm.trans hf
      refine lv_ldc2 (v := (-4611686018427387904)) hx hb hc.2.2.1 (hc.2.2.2 _ (mem_g 960 (by decide +kernel) rfl)) dX11_chance_44 ?_
      obtain ⟨rfl, rfl⟩ := pr2_some hf
      exact hQ _ _ _ _ dX11_chance_47 hw
    · have hf := (if_pos cn6).symm.trans hf
      refine lv_iload hx hb dX11_chance_24 (lv_at hl 5 rfl) ?_
      refine lv_iconst (v := 0) hx hb dX11_chance_26 (by decide) ?_
      refine lv_iconst (v := 1) hx hb dX11_chance_27 (by decide) ?_
      refine x_csi (As := [.int a4, .int 0, .int 1]) (rest := []) hc hw hR (hml.trans hl.1.symm) (cx_X_isIn l S a4 0 1 _ rfl) xq_11_X_isIn (by decide) rfl rfl rfl (Nat.le_of_ble_eq_true rfl) dX11_chance_28 (fun H locs hw => ?_) ⟨Nat.zero_le _, Nat.zero_le _⟩
      refine lv_if_eqb (tgt := 44) hx hb dX11_chance_31 (by decide) (fun cn7 => ?_) (fun cn7 => ?_)
      · have hf := (if_neg cn7).symm.trans hf
        refine lv_ldc2 (v := (-4611686018427387904)) hx hb hc.2.2.1 (hc.2.2.2 _ (mem_g 960 (by decide +kernel) rfl)) dX11_chance_44 ?_
        obtain ⟨rfl, rfl⟩ := pr2_some hf
        exact hQ _ _ _ _ dX11_chance_47 hw
      · have hf := (if_pos cn7).symm.trans hf
        refine lv_aload_n hx hb dX11_chance_34 rfl (lv_at hl 1 rfl) ?_
        refine x_g_this_hall hc hw fl_11_10 dX11_chance_35 ?_
        obtain ⟨v3, hcall, hf⟩ := bd1_some hf
        refine x_cvi (As := []) (rest := []) hc hw hR (hml.trans hl.1.symm) (cx_H_allCounts l N S v3 hcall) xq_11_H_allCounts (x_recv_hall hw) (by decide) rfl rfl rfl (Nat.le_of_ble_eq_true rfl) dX11_chance_38 (fun H locs hw => ?_) ⟨Nat.zero_le _, Nat.zero_le _⟩
        refine lv_if_ne (tgt := 48) hx hb dX11_chance_41 (by decide) (fun cn8 => ?_) (fun cn8 => ?_)
        · have hf := (if_neg cn8).symm.trans hf
          refine lv_aload_n hx hb dX11_chance_48 rfl (lv_at hl 1 rfl) ?_
          refine x_g_this_hall hc hw fl_11_10 dX11_chance_49 ?_
          refine lv_aload hx hb dX11_chance_52 (lv_at hl 0 rfl) ?_
          refine lv_iload_n hx hb dX11_chance_54 rfl (lv_at hl 3 rfl) ?_
          refine lv_iload_n hx hb dX11_chance_55 rfl (lv_at hl 4 rfl) ?_
          refine lv_aload_n hx hb dX11_chance_56 rfl (lv_at hl 1 rfl) ?_
          refine x_g_this_fraction hc hw fl_11_68 dX11_chance_57 ?_
          obtain ⟨S4, hcall, hf⟩ := bd1_some hf
          refine x_cvv (As := [.ref (xr g (100 + 2 * v1.toNatClampNeg)), .int a2, .int a3, .ref (xr g 5)]) (rest := []) hc hw hR (hml.trans hl.1.symm) (cx_H_chanceOf l N S v1 a2 a3 S4 hcall) xq_11_H_chanceOf (x_recv_hall hw) (by decide) rfl rfl rfl (Nat.le_of_ble_eq_true rfl) dX11_chance_60 (fun H locs hw => ?_) ⟨Nat.zero_le _, Nat.zero_le _⟩
          refine lv_aload_n hx hb dX11_chance_63 rfl (lv_at hl 1 rfl) ?_
          refine x_g_this_fraction hc hw fl_11_68 dX11_chance_64 ?_
          refine lv_iload hx hb dX11_chance_67 (lv_at hl 5 rfl) ?_
          obtain ⟨hi5, hf⟩ := gd_some hf
          refine x_l_this_fraction hc hw (ok_in hi5) dX11_chance_69 ?_
          obtain ⟨rfl, rfl⟩ := pr2_some hf
          exact hQ _ _ _ _ dX11_chance_70 hw
        · have hf := (if_pos cn8).symm.trans hf
          refine lv_ldc2 (v := (-4611686018427387904)) hx hb hc.2.2.1 (hc.2.2.2 _ (mem_g 960 (by decide +kernel) rfl)) dX11_chance_44 ?_
          obtain ⟨rfl, rfl⟩ := pr2_some hf
          exact hQ _ _ _ _ dX11_chance_47 hw
def xf_X_mean_L48 (N : Nat) (c4 : Int32) (c5 : Int32) (c6 : Int32) : Nat → xS → Int64 → Int64 → Int32 → Option (Int64 × Int64 × xS)
  | 0, _, _, _, _ => none
  | n + 1, S10, v7, v8, v9 => (if (S10.1 17 0) ≤ v9 then some (v7, v8, S10) else (bd1 (xf_H_chanceOf N S10 c6 c4 v9) fun S11 => (bd2 (xf_H_likeOf N S11 c6 c4 v9) fun v12 S13 => (bd1 (xf_X_commonDivisor N (S13.2.1 0 (1 : Int32).toNatClampNeg) v8) fun v14 => (if ¬ v14 = 0 then (bd1 (xf_X_commonDivisor N (S13.2.1 0 (1 : Int32).toNatClampNeg) v8) fun v16 => (if ¬ v16 = 0 then xf_X_mean_L48 N c4 c5 c6 n S13 ((v7 * ((S13.2.1 0 (1 : Int32).toNatClampNeg) / v14)) + ((v12.toInt64 * (S13.2.1 0 (0 : Int32).toNatClampNeg)) * (v8 / v16))) (v8 * ((S13.2.1 0 (1 : Int32).toNatClampNeg) / v14)) (v9 + 1) else none)) else none)))))
set_option maxRecDepth 100000 in
theorem wx_X_mean_L48 {p : Program} {l : Launch} {e : Env} {R : Room} {s : State} {m : MethodId} {args : Array Value} {below : List Frame} {meth : Method} {c : Code} {Q : State → Prop} {g : xG} {A : Nat → Prop} {H0 : Heap} (hc : qC RX11 cX11_mean p s m args c) (hR : qRoom R 6) (hml : c.maxLocals = 16) (N : Nat) (c4 : Int32) (c5 : Int32) (c6 : Int32) : ∀ (n : Nat) (S10 : xS) (v7 : Int64) (v8 : Int64) (v9 : Int32) (X : Int64 × Int64 × xS) (H : Heap) (locs : List Loc) (ls : Array Slot), xf_X_mean_L48 N c4 c5 c6 n S10 v7 v8 v9 = some X → xI g A H0 s S10 H locs → lv_has ls 16 [(0, .ref (xr g 0)), (2, .int c4), (3, .int c5), (4, .ref (xr g (100 + 2 * c6.toNatClampNeg))), (5, .long v7), (7, .long v8), (9, .int v9)] → (∀ (H : Heap) (locs : List Loc) (ls : Array Slot), xI g A H0 s X.2.2 H locs → lv_has ls 16 [(0, .ref (xr g 0)), (3, .int c5), (5, .long X.1), (7, .long X.2.1)] → W p l e R s m args below meth c H locs 0 0 Q (F0 m 160 ls [])) → W p l e R s m args below meth c H locs 0 0 Q (F0 m 48 ls []) := by
  have hx := hc.1
  have hb := hc.2.1
  intro n
  induction n with
  | zero => intro _ _ _ _ X H locs ls hf; exact nomatch (show none = some X from hf)
  | succ n ih =>
    intro S10 v7 v8 v9 X H locs ls hf hw hl kx
    rw [xf_X_mean_L48] at hf
    refine lv_iload hx hb dX11_mean_48 (lv_at hl 6 rfl) ?_
    refine lv_aload_n hx hb dX11_mean_50 rfl (lv_at hl 0 rfl) ?_
    refine x_g_this_hall hc hw fl_11_10 dX11_mean_51 ?_
    refine x_g_hall_pointCount hc hw fl_11_187 dX11_mean_54 ?_
    refine lv_icmp_ge (tgt := 160) hx hb dX11_mean_57 (by decide) (fun cn25 => ?_) (fun cn25 => ?_)
    · have hf := (if_pos cn25).symm.trans hf
      obtain rfl := Option.some.inj hf
      exact kx _ _ _ hw (lv_sub hl [0, 2, 4, 5] rfl)
    · have hf := (if_neg cn25).symm.trans hf
      refine lv_aload_n hx hb dX11_mean_60 rfl (lv_at hl 0 rfl) ?_
      refine x_g_this_hall hc hw fl_11_10 dX11_mean_61 ?_
      refine lv_aload hx hb dX11_mean_64 (lv_at hl 3 rfl) ?_
      refine lv_iload_n hx hb dX11_mean_66 rfl (lv_at hl 1 rfl) ?_
      refine lv_iload hx hb dX11_mean_67 (lv_at hl 6 rfl) ?_
      refine lv_aload_n hx hb dX11_mean_69 rfl (lv_at hl 0 rfl) ?_
      refine x_g_this_fraction hc hw fl_11_68 dX11_mean_70 ?_
      obtain ⟨S11, hcall, hf⟩ := bd1_some hf
      refine x_cvv (As := [.ref (xr g (100 + 2 * c6.toNatClampNeg)), .int c4, .int v9, .ref (xr g 5)]) (rest := []) hc hw hR (hml.trans hl.1.symm) (cx_H_chanceOf l N S10 c6 c4 v9 S11 hcall) xq_11_H_chanceOf (x_recv_hall hw) (by decide) rfl rfl rfl (Nat.le_of_ble_eq_true rfl) dX11_mean_73 (fun H locs hw => ?_) ⟨Nat.zero_le _, Nat.zero_le _⟩
      refine lv_aload_n hx hb dX11_mean_76 rfl (lv_at hl 0 rfl) ?_
      refine x_g_this_hall hc hw fl_11_10 dX11_mean_77 ?_
      refine lv_aload hx hb dX11_mean_80 (lv_at hl 3 rfl) ?_
      refine lv_iload_n hx hb dX11_mean_82 rfl (lv_at hl 1 rfl) ?_
      refine lv_iload hx hb dX11_mean_83 (lv_at hl 6 rfl) ?_
      obtain ⟨v12, S13, hcall, hf⟩ := bd2_some hf
      refine x_cvi (As := [.ref (xr g (100 + 2 * c6.toNatClampNeg)), .int c4, .int v9]) (rest := []) hc hw hR (hml.trans hl.1.symm) (cx_H_likeOf l N S11 c6 c4 v9 v12 S13 hcall) xq_11_H_likeOf (x_recv_hall hw) (by decide) rfl rfl rfl (Nat.le_of_ble_eq_true rfl) dX11_mean_85 (fun H locs hw => ?_) ⟨Nat.zero_le _, Nat.zero_le _⟩
      refine lv_i2l hx hb dX11_mean_88 rfl ?_
      refine lv_lstore (lv' := [(10, .long v12.toInt64), (0, .ref (xr g 0)), (2, .int c4), (3, .int c5), (4, .ref (xr g (100 + 2 * c6.toNatClampNeg))), (5, .long v7), (7, .long v8), (9, .int v9)]) hx hb dX11_mean_89 hl (by decide) rfl (fun ls hl => ?_)
      refine lv_aload_n hx hb dX11_mean_91 rfl (lv_at hl 1 rfl) ?_
      refine x_g_this_fraction hc hw fl_11_68 dX11_mean_92 ?_
      refine lv_iconst (v := 1) hx hb dX11_mean_95 (by decide) ?_
      refine x_l_this_fraction hc hw (ok_in (by decide)) dX11_mean_96 ?_
      refine lv_aload_n hx hb dX11_mean_97 rfl (lv_at hl 1 rfl) ?_
      refine x_g_this_fraction hc hw fl_11_68 dX11_mean_98 ?_
      refine lv_iconst (v := 1) hx hb dX11_mean_101 (by decide) ?_
      refine x_l_this_fraction hc hw (ok_in (by decide)) dX11_mean_102 ?_
      refine lv_lload hx hb dX11_mean_103 (lv_at hl 6 rfl) ?_
      obtain ⟨v14, hcall, hf⟩ := bd1_some hf
      refine x_csl (As := [.long (S13.2.1 0 (1 : Int32).toNatClampNeg), .long v8]) (rest := [.long (S13.2.1 0 (1 : Int32).toNatClampNeg)]) hc hw hR (hml.trans hl.1.symm) (cx_X_commonDivisor l N S13 (S13.2.1 0 (1 : Int32).toNatClampNeg) v8 v14 hcall) xq_11_X_commonDivisor (by decide) rfl rfl rfl (Nat.le_of_ble_eq_true rfl) dX11_mean_105 (fun H locs hw => ?_) ⟨Nat.zero_le _, Nat.zero_le _⟩
      obtain ⟨hn15, hf⟩ := gd_some hf
      refine lv_ldiv hx hb dX11_mean_108 hn15 ?_
      refine lv_lstore (lv' := [(12, .long ((S13.2.1 0 (1 : Int32).toNatClampNeg) / v14)), (10, .long v12.toInt64), (0, .ref (xr g 0)), (2, .int c4), (3, .int c5), (4, .ref (xr g (100 + 2 * c6.toNatClampNeg))), (5, .long v7), (7, .long v8), (9, .int v9)]) hx hb dX11_mean_109 hl (by decide) rfl (fun ls hl => ?_)
      refine lv_lload hx hb dX11_mean_111 (lv_at hl 7 rfl) ?_
      refine lv_aload_n hx hb dX11_mean_113 rfl (lv_at hl 2 rfl) ?_
      refine x_g_this_fraction hc hw fl_11_68 dX11_mean_114 ?_
      refine lv_iconst (v := 1) hx hb dX11_mean_117 (by decide) ?_
      refine x_l_this_fraction hc hw (ok_in (by decide)) dX11_mean_118 ?_
      refine lv_lload hx hb dX11_mean_119 (lv_at hl 7 rfl) ?_
      obtain ⟨v16, hcall, hf⟩ := bd1_some hf
      refine x_csl (As := [.long (S13.2.1 0 (1 : Int32).toNatClampNeg), .long v8]) (rest := [.long v8]) hc hw hR (hml.trans hl.1.symm) (cx_X_commonDivisor l N S13 (S13.2.1 0 (1 : Int32).toNatClampNeg) v8 v16 hcall) xq_11_X_commonDivisor (by decide) rfl rfl rfl (Nat.le_of_ble_eq_true rfl) dX11_mean_121 (fun H locs hw => ?_) ⟨Nat.zero_le _, Nat.zero_le _⟩
      obtain ⟨hn17, hf⟩ := gd_some hf
      refine lv_ldiv hx hb dX11_mean_124 hn17 ?_
      refine lv_lstore (lv' := [(14, .long (v8 / v16)), (12, .long ((S13.2.1 0 (1 : Int32).toNatClampNeg) / v14)), (10, .long v12.toInt64), (0, .ref (xr g 0)), (2, .int c4), (3, .int c5), (4, .ref (xr g (100 + 2 * c6.toNatClampNeg))), (5, .long v7), (7, .long v8), (9, .int v9)]) hx hb dX11_mean_125 hl (by decide) rfl (fun ls hl => ?_)
      refine lv_lload hx hb dX11_mean_127 (lv_at hl 7 rfl) ?_
      refine lv_lload hx hb dX11_mean_129 (lv_at hl 1 rfl) ?_
      refine lv_lmul hx hb dX11_mean_131 ?_
      refine lv_lload hx hb dX11_mean_132 (lv_at hl 2 rfl) ?_
      refine lv_aload_n hx hb dX11_mean_134 rfl (lv_at hl 3 rfl) ?_
      refine x_g_this_fraction hc hw fl_11_68 dX11_mean_135 ?_
      refine lv_iconst (v := 0) hx hb dX11_mean_138 (by decide) ?_
      refine x_l_this_fraction hc hw (ok_in (by decide)) dX11_mean_139 ?_
      refine lv_lmul hx hb dX11_mean_140 ?_
      refine lv_lload hx hb dX11_mean_141 (lv_at hl 0 rfl) ?_
      refine lv_lmul hx hb dX11_mean_143 ?_
      refine lv_ladd hx hb dX11_mean_144 ?_
      refine lv_lstore (lv' := [(5, .long ((v7 * ((S13.2.1 0 (1 : Int32).toNatClampNeg) / v14)) + ((v12.toInt64 * (S13.2.1 0 (0 : Int32).toNatClampNeg)) * (v8 / v16)))), (14, .long (v8 / v16)), (12, .long ((S13.2.1 0 (1 : Int32).toNatClampNeg) / v14)), (10, .long v12.toInt64), (0, .ref (xr g 0)), (2, .int c4), (3, .int c5), (4, .ref (xr g (100 + 2 * c6.toNatClampNeg))), (7, .long v8), (9, .int v9)]) hx hb dX11_mean_145 hl (by decide) rfl (fun ls hl => ?_)
      refine lv_lload hx hb dX11_mean_147 (lv_at hl 8 rfl) ?_
      refine lv_lload hx hb dX11_mean_149 (lv_at hl 2 rfl) ?_
      refine lv_lmul hx hb dX11_mean_151 ?_
      refine lv_lstore (lv' := [(7, .long (v8 * ((S13.2.1 0 (1 : Int32).toNatClampNeg) / v14))), (5, .long ((v7 * ((S13.2.1 0 (1 : Int32).toNatClampNeg) / v14)) + ((v12.toInt64 * (S13.2.1 0 (0 : Int32).toNatClampNeg)) * (v8 / v16)))), (14, .long (v8 / v16)), (12, .long ((S13.2.1 0 (1 : Int32).toNatClampNeg) / v14)), (10, .long v12.toInt64), (0, .ref (xr g 0)), (2, .int c4), (3, .int c5), (4, .ref (xr g (100 + 2 * c6.toNatClampNeg))), (9, .int v9)]) hx hb dX11_mean_152 hl (by decide) rfl (fun ls hl => ?_)
      refine lv_iinc (lv' := [(9, .int (v9 + 1)), (7, .long (v8 * ((S13.2.1 0 (1 : Int32).toNatClampNeg) / v14))), (5, .long ((v7 * ((S13.2.1 0 (1 : Int32).toNatClampNeg) / v14)) + ((v12.toInt64 * (S13.2.1 0 (0 : Int32).toNatClampNeg)) * (v8 / v16)))), (14, .long (v8 / v16)), (12, .long ((S13.2.1 0 (1 : Int32).toNatClampNeg) / v14)), (10, .long v12.toInt64), (0, .ref (xr g 0)), (2, .int c4), (3, .int c5), (4, .ref (xr g (100 + 2 * c6.toNatClampNeg)))]) hx hb dX11_mean_154 hl (k := 9) rfl rfl (by decide) rfl (fun ls hl => ?_)
      refine lv_goto (tgt := 48) hx hb dX11_mean_157 (by decide) ?_
      exact ih _ _ _ _ X _ _ _ hf hw (lv_sub hl [6, 7, 8, 9, 2, 1, 0] rfl) kx
def xf_X_mean (N : Nat) (S : xS) (a1 : Int32) (a2 : Int32) (a3 : Int32) : Option (Int64 × xS) := (bd1 (xf_H_rowWith N S a1 a2) fun v1 => (if v1 < 0 then some ((-4611686018427387904), S) else (if (xf_X_isIn a3 0 1) = true then (bd1 (xf_H_allCounts N S) fun v3 => (if v3 = 0 then some ((-4611686018427387904), S) else (bd3 (xf_X_mean_L48 N a2 a3 v1 N S 0 1 0) fun v18 v19 S20 => (bd1 (xf_X_reduce N S20 v18 v19) fun S21 => (if ok a3 2 then some (S21.2.1 0 a3.toNatClampNeg, S21) else none))))) else some ((-4611686018427387904), S))))
set_option maxRecDepth 100000 in
theorem cx_X_mean (l : Launch) (N : Nat) (S : xS) (a1 : Int32) (a2 : Int32) (a3 : Int32) (res : Int64) (S1 : xS) (hf : xf_X_mean N S a1 a2 a3 = some (res, S1)) : xMl l yX11_mean cX11_mean 16 6 (fun g => [.ref (xr g 0), .int a1, .int a2, .int a3]) S res S1 := by
  refine xMl_of (own := RX11) (by decide) rfl (fun g => Nat.le_of_ble_eq_true rfl) ?_
  intro p e R s m args below meth c Q g A H0 H locs ls hc hR hml hw hl hQ
  have hl : lv_has ls 16 [(0, .ref (xr g 0)), (1, .int a1), (2, .int a2), (3, .int a3)] := hl
  have hx := hc.1
  have hb := hc.2.1
  unfold xf_X_mean at hf
  refine lv_aload_n hx hb dX11_mean_0 rfl (lv_at hl 0 rfl) ?_
  refine x_g_this_hall hc hw fl_11_10 dX11_mean_1 ?_
  refine lv_iload_n hx hb dX11_mean_4 rfl (lv_at hl 1 rfl) ?_
  refine lv_iload_n hx hb dX11_mean_5 rfl (lv_at hl 2 rfl) ?_
  obtain ⟨v1, hcall, hf⟩ := bd1_some hf
  refine x_cvr (As := [.int a1, .int a2]) (rest := []) hc hw hR (hml.trans hl.1.symm) (cx_H_rowWith l N S a1 a2 v1 hcall) xq_11_H_rowWith (x_recv_hall hw) (by decide) rfl rfl rfl (Nat.le_of_ble_eq_true rfl) dX11_mean_6 (fun H locs hw => ?_) ⟨Nat.zero_le _, Nat.zero_le _⟩
  refine x_splitr (fun cn2 => ?_) (fun cn2 => ?_)
  · have hf := (if_pos cn2).symm.trans hf
    refine lv_astoreN (lv' := [(4, .null), (0, .ref (xr g 0)), (1, .int a1), (2, .int a2), (3, .int a3)]) hx hb dX11_mean_9 hl (by decide) rfl (fun ls hl => ?_)
    refine lv_aloadN hx hb dX11_mean_11 (lv_at hl 0 rfl) ?_
    refine lv_ifnullN (tgt := 35) hx hb dX11_mean_13 (by decide) ?_
    refine lv_ldc2 (v := (-4611686018427387904)) hx hb hc.2.2.1 (hc.2.2.2 _ (mem_g 960 (by decide +kernel) rfl)) dX11_mean_35 ?_
    obtain ⟨rfl, rfl⟩ := pr2_some hf
    exact hQ _ _ _ _ dX11_mean_38 hw
  · have hf := (if_neg cn2).symm.trans hf
    refine lv_astore (lv' := [(4, .ref (xr g (100 + 2 * v1.toNatClampNeg))), (0, .ref (xr g 0)), (1, .int a1), (2, .int a2), (3, .int a3)]) hx hb dX11_mean_9 hl (by decide) rfl (fun ls hl => ?_)
    refine lv_aload hx hb dX11_mean_11 (lv_at hl 0 rfl) ?_
    refine lv_ifnull hx hb dX11_mean_13 ?_
    refine lv_iload_n hx hb dX11_mean_16 rfl (lv_at hl 4 rfl) ?_
    refine lv_iconst (v := 0) hx hb dX11_mean_17 (by decide) ?_
    refine lv_iconst (v := 1) hx hb dX11_mean_18 (by decide) ?_
    refine x_csi (As := [.int a3, .int 0, .int 1]) (rest := []) hc hw hR (hml.trans hl.1.symm) (cx_X_isIn l S a3 0 1 _ rfl) xq_11_X_isIn (by decide) rfl rfl rfl (Nat.le_of_ble_eq_true rfl) dX11_mean_19 (fun H locs hw => ?_) ⟨Nat.zero_le _, Nat.zero_le _⟩
    refine lv_if_eqb (tgt := 35) hx hb dX11_mean_22 (by decide) (fun cn23 => ?_) (fun cn23 => ?_)
    · have hf := (if_neg cn23).symm.trans hf
      refine lv_ldc2 (v := (-4611686018427387904)) hx hb hc.2.2.1 (hc.2.2.2 _ (mem_g 960 (by decide +kernel) rfl)) dX11_mean_35 ?_
      obtain ⟨rfl, rfl⟩ := pr2_some hf
      exact hQ _ _ _ _ dX11_mean_38 hw
    · have hf := (if_pos cn23).symm.trans hf
      refine lv_aload_n hx hb dX11_mean_25 rfl (lv_at hl 1 rfl) ?_
      refine x_g_this_hall hc hw fl_11_10 dX11_mean_26 ?_
      obtain ⟨v3, hcall, hf⟩ := bd1_some hf
      refine x_cvi (As := []) (rest := []) hc hw hR (hml.trans hl.1.symm) (cx_H_allCounts l N S v3 hcall) xq_11_H_allCounts (x_recv_hall hw) (by decide) rfl rfl rfl (Nat.le_of_ble_eq_true rfl) dX11_mean_29 (fun H locs hw => ?_) ⟨Nat.zero_le _, Nat.zero_le _⟩
      refine lv_if_ne (tgt := 39) hx hb dX11_mean_32 (by decide) (fun cn24 => ?_) (fun cn24 => ?_)
      · have hf := (if_neg cn24).symm.trans hf
        refine lv_lconst (v := 0) hx hb dX11_mean_39 rfl ?_
        refine lv_lstore (lv' := [(5, .long 0), (4, .ref (xr g (100 + 2 * v1.toNatClampNeg))), (0, .ref (xr g 0)), (1, .int a1), (2, .int a2), (3, .int a3)]) hx hb dX11_mean_40 hl (by decide) rfl (fun ls hl => ?_)
        refine lv_lconst (v := 1) hx hb dX11_mean_42 rfl ?_
        refine lv_lstore (lv' := [(7, .long 1), (5, .long 0), (4, .ref (xr g (100 + 2 * v1.toNatClampNeg))), (0, .ref (xr g 0)), (1, .int a1), (2, .int a2), (3, .int a3)]) hx hb dX11_mean_43 hl (by decide) rfl (fun ls hl => ?_)
        refine lv_iconst (v := 0) hx hb dX11_mean_45 (by decide) ?_
        refine lv_istore (lv' := [(9, .int 0), (7, .long 1), (5, .long 0), (4, .ref (xr g (100 + 2 * v1.toNatClampNeg))), (0, .ref (xr g 0)), (1, .int a1), (2, .int a2), (3, .int a3)]) hx hb dX11_mean_46 hl (by decide) rfl (fun ls hl => ?_)
        obtain ⟨v18, v19, S20, hL, hf⟩ := bd3_some hf
        refine wx_X_mean_L48 hc hR hml N a2 a3 v1 N _ _ _ _ _ _ _ _ hL hw (lv_sub hl [4, 6, 7, 3, 2, 1, 0] rfl) (fun H locs ls hw hl => ?_)
        refine lv_lload hx hb dX11_mean_160 (lv_at hl 2 rfl) ?_
        refine lv_lload hx hb dX11_mean_162 (lv_at hl 3 rfl) ?_
        refine lv_aload_n hx hb dX11_mean_164 rfl (lv_at hl 0 rfl) ?_
        refine x_g_this_fraction hc hw fl_11_68 dX11_mean_165 ?_
        obtain ⟨S21, hcall, hf⟩ := bd1_some hf
        refine x_csv (As := [.long v18, .long v19, .ref (xr g 5)]) (rest := []) hc hw hR (hml.trans hl.1.symm) (cx_X_reduce l N S20 v18 v19 S21 hcall) xq_11_X_reduce (by decide) rfl rfl rfl (Nat.le_of_ble_eq_true rfl) dX11_mean_168 (fun H locs hw => ?_) ⟨Nat.zero_le _, Nat.zero_le _⟩
        refine lv_aload_n hx hb dX11_mean_171 rfl (lv_at hl 0 rfl) ?_
        refine x_g_this_fraction hc hw fl_11_68 dX11_mean_172 ?_
        refine lv_iload_n hx hb dX11_mean_175 rfl (lv_at hl 1 rfl) ?_
        obtain ⟨hi22, hf⟩ := gd_some hf
        refine x_l_this_fraction hc hw (ok_in hi22) dX11_mean_176 ?_
        obtain ⟨rfl, rfl⟩ := pr2_some hf
        exact hQ _ _ _ _ dX11_mean_177 hw
      · have hf := (if_pos cn24).symm.trans hf
        refine lv_ldc2 (v := (-4611686018427387904)) hx hb hc.2.2.1 (hc.2.2.2 _ (mem_g 960 (by decide +kernel) rfl)) dX11_mean_35 ?_
        obtain ⟨rfl, rfl⟩ := pr2_some hf
        exact hQ _ _ _ _ dX11_mean_38 hw
def xf_H_seenFrom_L5 (N : Nat) (c1 : Int32) (c2 : Int32) : Nat → xS → Int32 → Int32 → Option (Int32 × xS)
  | 0, _, _, _ => none
  | n + 1, S5, v3, v4 => (if (S5.1 17 0) ≤ v4 then some (v3, S5) else (bd2 (xf_H_hiderOf N S5 c1 c2 v4) fun v6 S7 => (if v6 = (-1) then xf_H_seenFrom_L5 N c1 c2 n S7 (v3 ||| ((1 : Int32) <<< (v4 &&& 31))) (v4 + 1) else xf_H_seenFrom_L5 N c1 c2 n S7 v3 (v4 + 1))))
set_option maxRecDepth 100000 in
theorem wx_H_seenFrom_L5 {p : Program} {l : Launch} {e : Env} {R : Room} {s : State} {m : MethodId} {args : Array Value} {below : List Frame} {meth : Method} {c : Code} {Q : State → Prop} {g : xG} {A : Nat → Prop} {H0 : Heap} (hc : qC RX1 cX1_seenFrom p s m args c) (hR : qRoom R 6) (hml : c.maxLocals = 5) (N : Nat) (c1 : Int32) (c2 : Int32) : ∀ (n : Nat) (S5 : xS) (v3 : Int32) (v4 : Int32) (X : Int32 × xS) (H : Heap) (locs : List Loc) (ls : Array Slot), xf_H_seenFrom_L5 N c1 c2 n S5 v3 v4 = some X → xI g A H0 s S5 H locs → lv_has ls 5 [(0, .ref (xr g 1)), (1, .ref (xr g (100 + 2 * c1.toNatClampNeg))), (2, .int c2), (3, .int v3), (4, .int v4)] → (∀ (H : Heap) (locs : List Loc) (ls : Array Slot), xI g A H0 s X.2 H locs → lv_has ls 5 [(3, .int X.1)] → W p l e R s m args below meth c H locs 0 0 Q (F0 m 39 ls [])) → W p l e R s m args below meth c H locs 0 0 Q (F0 m 5 ls []) := by
  have hx := hc.1
  have hb := hc.2.1
  intro n
  induction n with
  | zero => intro _ _ _ X H locs ls hf; exact nomatch (show none = some X from hf)
  | succ n ih =>
    intro S5 v3 v4 X H locs ls hf hw hl kx
    rw [xf_H_seenFrom_L5] at hf
    refine lv_iload hx hb dX1_seenFrom_5 (lv_at hl 4 rfl) ?_
    refine lv_aload_n hx hb dX1_seenFrom_7 rfl (lv_at hl 0 rfl) ?_
    refine x_g_hall_pointCount hc hw fl_1_46 dX1_seenFrom_8 ?_
    refine lv_icmp_ge (tgt := 39) hx hb dX1_seenFrom_11 (by decide) (fun cn10 => ?_) (fun cn10 => ?_)
    · have hf := (if_pos cn10).symm.trans hf
      obtain rfl := Option.some.inj hf
      exact kx _ _ _ hw (lv_sub hl [3] rfl)
    · have hf := (if_neg cn10).symm.trans hf
      refine lv_aload_n hx hb dX1_seenFrom_14 rfl (lv_at hl 0 rfl) ?_
      refine lv_aload_n hx hb dX1_seenFrom_15 rfl (lv_at hl 1 rfl) ?_
      refine lv_iload_n hx hb dX1_seenFrom_16 rfl (lv_at hl 2 rfl) ?_
      refine lv_iload hx hb dX1_seenFrom_17 (lv_at hl 4 rfl) ?_
      obtain ⟨v6, S7, hcall, hf⟩ := bd2_some hf
      refine x_cvi (As := [.ref (xr g (100 + 2 * c1.toNatClampNeg)), .int c2, .int v4]) (rest := []) hc hw hR (hml.trans hl.1.symm) (cx_H_hiderOf l N S5 c1 c2 v4 v6 S7 hcall) xq_1_H_hiderOf (x_recv_hall hw) (by decide) rfl rfl rfl (Nat.le_of_ble_eq_true rfl) dX1_seenFrom_19 (fun H locs hw => ?_) ⟨Nat.zero_le _, Nat.zero_le _⟩
      refine lv_iconst (v := (-1)) hx hb dX1_seenFrom_22 (by decide) ?_
      refine lv_icmp_ne (tgt := 33) hx hb dX1_seenFrom_23 (by decide) (fun cn11 => ?_) (fun cn11 => ?_)
      · have hf := (if_neg cn11).symm.trans hf
        refine lv_iinc (lv' := [(4, .int (v4 + 1)), (0, .ref (xr g 1)), (1, .ref (xr g (100 + 2 * c1.toNatClampNeg))), (2, .int c2), (3, .int v3)]) hx hb dX1_seenFrom_33 hl (k := 4) rfl rfl (by decide) rfl (fun ls hl => ?_)
        refine lv_goto (tgt := 5) hx hb dX1_seenFrom_36 (by decide) ?_
        exact ih _ _ _ X _ _ _ hf hw (lv_sub hl [1, 2, 3, 4, 0] rfl) kx
      · have hf := (if_pos cn11).symm.trans hf
        refine lv_iload_n hx hb dX1_seenFrom_26 rfl (lv_at hl 3 rfl) ?_
        refine lv_iconst (v := 1) hx hb dX1_seenFrom_27 (by decide) ?_
        refine lv_iload hx hb dX1_seenFrom_28 (lv_at hl 4 rfl) ?_
        refine lv_ishl hx hb dX1_seenFrom_30 ?_
        refine lv_ior hx hb dX1_seenFrom_31 ?_
        refine lv_istore_n (lv' := [(3, .int (v3 ||| ((1 : Int32) <<< (v4 &&& 31)))), (0, .ref (xr g 1)), (1, .ref (xr g (100 + 2 * c1.toNatClampNeg))), (2, .int c2), (4, .int v4)]) hx hb dX1_seenFrom_32 rfl hl (by decide) rfl (fun ls hl => ?_)
        refine lv_iinc (lv' := [(4, .int (v4 + 1)), (3, .int (v3 ||| ((1 : Int32) <<< (v4 &&& 31)))), (0, .ref (xr g 1)), (1, .ref (xr g (100 + 2 * c1.toNatClampNeg))), (2, .int c2)]) hx hb dX1_seenFrom_33 hl (k := 4) rfl rfl (by decide) rfl (fun ls hl => ?_)
        refine lv_goto (tgt := 5) hx hb dX1_seenFrom_36 (by decide) ?_
        exact ih _ _ _ X _ _ _ hf hw (lv_sub hl [2, 3, 4, 1, 0] rfl) kx
def xf_H_seenFrom (N : Nat) (S : xS) (a1 : Int32) (a2 : Int32) : Option (Int32 × xS) := (bd2 (xf_H_seenFrom_L5 N a1 a2 N S 0 0) fun v8 S9 => some (v8, S9))
set_option maxRecDepth 100000 in
theorem cx_H_seenFrom (l : Launch) (N : Nat) (S : xS) (a1 : Int32) (a2 : Int32) (res : Int32) (S1 : xS) (hf : xf_H_seenFrom N S a1 a2 = some (res, S1)) : xMi l yX1_seenFrom cX1_seenFrom 5 .int 6 (fun g => [.ref (xr g 1), .ref (xr g (100 + 2 * a1.toNatClampNeg)), .int a2]) S res S1 := by
  refine xMi_of (own := RX1) (by decide) rfl rfl (fun g => Nat.le_of_ble_eq_true rfl) ?_
  intro p e R s m args below meth c Q g A H0 H locs ls hc hR hml hw hl hQ
  have hl : lv_has ls 5 [(0, .ref (xr g 1)), (1, .ref (xr g (100 + 2 * a1.toNatClampNeg))), (2, .int a2)] := hl
  have hx := hc.1
  have hb := hc.2.1
  unfold xf_H_seenFrom at hf
  refine lv_iconst (v := 0) hx hb dX1_seenFrom_0 (by decide) ?_
  refine lv_istore_n (lv' := [(3, .int 0), (0, .ref (xr g 1)), (1, .ref (xr g (100 + 2 * a1.toNatClampNeg))), (2, .int a2)]) hx hb dX1_seenFrom_1 rfl hl (by decide) rfl (fun ls hl => ?_)
  refine lv_iconst (v := 0) hx hb dX1_seenFrom_2 (by decide) ?_
  refine lv_istore (lv' := [(4, .int 0), (3, .int 0), (0, .ref (xr g 1)), (1, .ref (xr g (100 + 2 * a1.toNatClampNeg))), (2, .int a2)]) hx hb dX1_seenFrom_3 hl (by decide) rfl (fun ls hl => ?_)
  obtain ⟨v8, S9, hL, hf⟩ := bd2_some hf
  refine wx_H_seenFrom_L5 hc hR hml N a1 a2 N _ _ _ _ _ _ _ hL hw (lv_sub hl [2, 3, 4, 1, 0] rfl) (fun H locs ls hw hl => ?_)
  refine lv_iload_n hx hb dX1_seenFrom_39 rfl (lv_at hl 0 rfl) ?_
  obtain ⟨rfl, rfl⟩ := pr2_some hf
  exact hQ _ _ _ _ dX1_seenFrom_40 hw
def xf_H_leastFloor_L34 (N : Nat) (c12 : Int32) (c13 : Int32) (c14 : Int32) (c15 : Int32) : Nat → xS → Option (xS)
  | 0, _ => none
  | n + 1, S16 => (if c12.toNatClampNeg < S16.2.2.1 then (if 99 < (S16.1 57 c12.toNatClampNeg) then some S16 else (bd2 (xf_H_hiderOf N S16 c12 c14 c15) fun v18 S19 => (if v18 = (-1) then some S19 else (if c12.toNatClampNeg < S19.2.2.1 then xf_H_leastFloor_L34 N c12 c13 c14 c15 n (xs S19 57 c12.toNatClampNeg ((S19.1 57 c12.toNatClampNeg) + 1)) else none)))) else none)
set_option maxRecDepth 100000 in
theorem wx_H_leastFloor_L34 {p : Program} {l : Launch} {e : Env} {R : Room} {s : State} {m : MethodId} {args : Array Value} {below : List Frame} {meth : Method} {c : Code} {Q : State → Prop} {g : xG} {A : Nat → Prop} {H0 : Heap} (hc : qC RX1 cX1_leastFloor p s m args c) (hR : qRoom R 6) (hml : c.maxLocals = 6) (N : Nat) (c12 : Int32) (c13 : Int32) (c14 : Int32) (c15 : Int32) : ∀ (n : Nat) (S16 : xS) (X : xS) (H : Heap) (locs : List Loc) (ls : Array Slot), xf_H_leastFloor_L34 N c12 c13 c14 c15 n S16 = some X → xI g A H0 s S16 H locs → lv_has ls 6 [(0, .ref (xr g 1)), (1, .ref (xr g (100 + 2 * c12.toNatClampNeg))), (3, .int c13), (4, .int c14), (5, .int c15)] → (∀ (H : Heap) (locs : List Loc) (ls : Array Slot), xI g A H0 s X H locs → lv_has ls 6 [(0, .ref (xr g 1)), (1, .ref (xr g (100 + 2 * c12.toNatClampNeg))), (3, .int c13), (4, .int c14), (5, .int c15)] → W p l e R s m args below meth c H locs 0 0 Q (F0 m 69 ls [])) → W p l e R s m args below meth c H locs 0 0 Q (F0 m 34 ls []) := by
  have hx := hc.1
  have hb := hc.2.1
  intro n
  induction n with
  | zero => intro _ X H locs ls hf; exact nomatch (show none = some X from hf)
  | succ n ih =>
    intro S16 X H locs ls hf hw hl kx
    rw [xf_H_leastFloor_L34] at hf
    refine lv_aload_n hx hb dX1_leastFloor_34 rfl (lv_at hl 1 rfl) ?_
    obtain ⟨hr17, hf⟩ := gd_some hf
    refine x_rg_rise hc hw hr17 fl_1_89 dX1_leastFloor_35 ?_
    refine lv_bipush (v := 99) hx hb dX1_leastFloor_38 (by decide) ?_
    refine lv_icmp_gt (tgt := 69) hx hb dX1_leastFloor_40 (by decide) (fun cn27 => ?_) (fun cn27 => ?_)
    · have hf := (if_pos cn27).symm.trans hf
      obtain rfl := Option.some.inj hf
      exact kx _ _ _ hw (lv_sub hl [0, 1, 2, 3, 4] rfl)
    · have hf := (if_neg cn27).symm.trans hf
      refine lv_aload_n hx hb dX1_leastFloor_43 rfl (lv_at hl 0 rfl) ?_
      refine lv_aload_n hx hb dX1_leastFloor_44 rfl (lv_at hl 1 rfl) ?_
      refine lv_iload hx hb dX1_leastFloor_45 (lv_at hl 3 rfl) ?_
      refine lv_iload hx hb dX1_leastFloor_47 (lv_at hl 4 rfl) ?_
      obtain ⟨v18, S19, hcall, hf⟩ := bd2_some hf
      refine x_cvi (As := [.ref (xr g (100 + 2 * c12.toNatClampNeg)), .int c14, .int c15]) (rest := []) hc hw hR (hml.trans hl.1.symm) (cx_H_hiderOf l N S16 c12 c14 c15 v18 S19 hcall) xq_1_H_hiderOf (x_recv_hall hw) (by decide) rfl rfl rfl (Nat.le_of_ble_eq_true rfl) dX1_leastFloor_49 (fun H locs hw => ?_) ⟨Nat.zero_le _, Nat.zero_le _⟩
      refine lv_iconst (v := (-1)) hx hb dX1_leastFloor_52 (by decide) ?_
      refine lv_icmp_eq (tgt := 69) hx hb dX1_leastFloor_53 (by decide) (fun cn28 => ?_) (fun cn28 => ?_)
      · have hf := (if_pos cn28).symm.trans hf
        obtain rfl := Option.some.inj hf
        exact kx _ _ _ hw (lv_sub hl [0, 1, 2, 3, 4] rfl)
      · have hf := (if_neg cn28).symm.trans hf
        refine lv_aload_n hx hb dX1_leastFloor_56 rfl (lv_at hl 1 rfl) ?_
        refine lv_dup hx hb dX1_leastFloor_57 rfl ?_
        obtain ⟨hr20, hf⟩ := gd_some hf
        refine x_rg_rise hc hw hr20 fl_1_89 dX1_leastFloor_58 ?_
        refine lv_iconst (v := 1) hx hb dX1_leastFloor_61 (by decide) ?_
        refine lv_iadd hx hb dX1_leastFloor_62 ?_
        refine x_rp_rise hc hw hr20 fl_1_89 dX1_leastFloor_63 (fun H locs hw => ?_)
        refine lv_goto (tgt := 34) hx hb dX1_leastFloor_66 (by decide) ?_
        exact ih _ X _ _ _ hf hw (lv_sub hl [0, 1, 2, 3, 4] rfl) kx
def xf_H_leastFloor_L25 (N : Nat) (c7 : Int32) (c8 : Int32) (c9 : Int32) : Nat → xS → Int32 → Option (xS)
  | 0, _, _ => none
  | n + 1, S11, v10 => (if (S11.1 17 0) ≤ v10 then some S11 else (bd1 (xf_H_leastFloor_L34 N c7 c8 c9 v10 N S11) fun S21 => xf_H_leastFloor_L25 N c7 c8 c9 n S21 (v10 + 1)))
set_option maxRecDepth 100000 in
theorem wx_H_leastFloor_L25 {p : Program} {l : Launch} {e : Env} {R : Room} {s : State} {m : MethodId} {args : Array Value} {below : List Frame} {meth : Method} {c : Code} {Q : State → Prop} {g : xG} {A : Nat → Prop} {H0 : Heap} (hc : qC RX1 cX1_leastFloor p s m args c) (hR : qRoom R 6) (hml : c.maxLocals = 6) (N : Nat) (c7 : Int32) (c8 : Int32) (c9 : Int32) : ∀ (n : Nat) (S11 : xS) (v10 : Int32) (X : xS) (H : Heap) (locs : List Loc) (ls : Array Slot), xf_H_leastFloor_L25 N c7 c8 c9 n S11 v10 = some X → xI g A H0 s S11 H locs → lv_has ls 6 [(0, .ref (xr g 1)), (1, .ref (xr g (100 + 2 * c7.toNatClampNeg))), (3, .int c8), (4, .int c9), (5, .int v10)] → (∀ (H : Heap) (locs : List Loc) (ls : Array Slot), xI g A H0 s X H locs → lv_has ls 6 [(0, .ref (xr g 1)), (1, .ref (xr g (100 + 2 * c7.toNatClampNeg))), (3, .int c8), (4, .int c9)] → W p l e R s m args below meth c H locs 0 0 Q (F0 m 75 ls [])) → W p l e R s m args below meth c H locs 0 0 Q (F0 m 25 ls []) := by
  have hx := hc.1
  have hb := hc.2.1
  intro n
  induction n with
  | zero => intro _ _ X H locs ls hf; exact nomatch (show none = some X from hf)
  | succ n ih =>
    intro S11 v10 X H locs ls hf hw hl kx
    rw [xf_H_leastFloor_L25] at hf
    refine lv_iload hx hb dX1_leastFloor_25 (lv_at hl 4 rfl) ?_
    refine lv_aload_n hx hb dX1_leastFloor_27 rfl (lv_at hl 0 rfl) ?_
    refine x_g_hall_pointCount hc hw fl_1_46 dX1_leastFloor_28 ?_
    refine lv_icmp_ge (tgt := 75) hx hb dX1_leastFloor_31 (by decide) (fun cn26 => ?_) (fun cn26 => ?_)
    · have hf := (if_pos cn26).symm.trans hf
      obtain rfl := Option.some.inj hf
      exact kx _ _ _ hw (lv_sub hl [0, 1, 2, 3] rfl)
    · have hf := (if_neg cn26).symm.trans hf
      obtain ⟨S21, hL, hf⟩ := bd1_some hf
      refine wx_H_leastFloor_L34 hc hR hml N c7 c8 c9 v10 N _ _ _ _ _ hL hw (lv_sub hl [0, 1, 2, 3, 4] rfl) (fun H locs ls hw hl => ?_)
      refine lv_iinc (lv' := [(5, .int (v10 + 1)), (0, .ref (xr g 1)), (1, .ref (xr g (100 + 2 * c7.toNatClampNeg))), (3, .int c8), (4, .int c9)]) hx hb dX1_leastFloor_69 hl (k := 4) rfl rfl (by decide) rfl (fun ls hl => ?_)
      refine lv_goto (tgt := 25) hx hb dX1_leastFloor_72 (by decide) ?_
      exact ih _ _ X _ _ _ hf hw (lv_sub hl [1, 2, 3, 4, 0] rfl) kx
def xf_H_leastFloor_L13 (N : Nat) (c2 : Int32) (c3 : Int32) : Nat → xS → Int32 → Option (xS)
  | 0, _, _ => none
  | n + 1, S5, v4 => (if c2.toNatClampNeg < S5.2.2.1 then (if (S5.1 56 c2.toNatClampNeg) ≤ v4 then some S5 else (bd1 (xf_H_leastFloor_L25 N c2 c3 v4 N S5 0) fun S22 => xf_H_leastFloor_L13 N c2 c3 n S22 (v4 + 1))) else none)
set_option maxRecDepth 100000 in
theorem wx_H_leastFloor_L13 {p : Program} {l : Launch} {e : Env} {R : Room} {s : State} {m : MethodId} {args : Array Value} {below : List Frame} {meth : Method} {c : Code} {Q : State → Prop} {g : xG} {A : Nat → Prop} {H0 : Heap} (hc : qC RX1 cX1_leastFloor p s m args c) (hR : qRoom R 6) (hml : c.maxLocals = 6) (N : Nat) (c2 : Int32) (c3 : Int32) : ∀ (n : Nat) (S5 : xS) (v4 : Int32) (X : xS) (H : Heap) (locs : List Loc) (ls : Array Slot), xf_H_leastFloor_L13 N c2 c3 n S5 v4 = some X → xI g A H0 s S5 H locs → lv_has ls 6 [(0, .ref (xr g 1)), (1, .ref (xr g (100 + 2 * c2.toNatClampNeg))), (3, .int c3), (4, .int v4)] → (∀ (H : Heap) (locs : List Loc) (ls : Array Slot), xI g A H0 s X H locs → lv_has ls 6 [(1, .ref (xr g (100 + 2 * c2.toNatClampNeg))), (3, .int c3)] → W p l e R s m args below meth c H locs 0 0 Q (F0 m 81 ls [])) → W p l e R s m args below meth c H locs 0 0 Q (F0 m 13 ls []) := by
  have hx := hc.1
  have hb := hc.2.1
  intro n
  induction n with
  | zero => intro _ _ X H locs ls hf; exact nomatch (show none = some X from hf)
  | succ n ih =>
    intro S5 v4 X H locs ls hf hw hl kx
    rw [xf_H_leastFloor_L13] at hf
    refine lv_iload hx hb dX1_leastFloor_13 (lv_at hl 3 rfl) ?_
    refine lv_aload_n hx hb dX1_leastFloor_15 rfl (lv_at hl 1 rfl) ?_
    obtain ⟨hr6, hf⟩ := gd_some hf
    refine x_rg_seats hc hw hr6 fl_1_86 dX1_leastFloor_16 ?_
    refine lv_icmp_ge (tgt := 81) hx hb dX1_leastFloor_19 (by decide) (fun cn25 => ?_) (fun cn25 => ?_)
    · have hf := (if_pos cn25).symm.trans hf
      obtain rfl := Option.some.inj hf
      exact kx _ _ _ hw (lv_sub hl [1, 2] rfl)
    · have hf := (if_neg cn25).symm.trans hf
      refine lv_iconst (v := 0) hx hb dX1_leastFloor_22 (by decide) ?_
      refine lv_istore (lv' := [(5, .int 0), (0, .ref (xr g 1)), (1, .ref (xr g (100 + 2 * c2.toNatClampNeg))), (3, .int c3), (4, .int v4)]) hx hb dX1_leastFloor_23 hl (by decide) rfl (fun ls hl => ?_)
      obtain ⟨S22, hL, hf⟩ := bd1_some hf
      refine wx_H_leastFloor_L25 hc hR hml N c2 c3 v4 N _ _ _ _ _ _ hL hw (lv_sub hl [1, 2, 3, 4, 0] rfl) (fun H locs ls hw hl => ?_)
      refine lv_iinc (lv' := [(4, .int (v4 + 1)), (0, .ref (xr g 1)), (1, .ref (xr g (100 + 2 * c2.toNatClampNeg))), (3, .int c3)]) hx hb dX1_leastFloor_75 hl (k := 3) rfl rfl (by decide) rfl (fun ls hl => ?_)
      refine lv_goto (tgt := 13) hx hb dX1_leastFloor_78 (by decide) ?_
      exact ih _ _ X _ _ _ hf hw (lv_sub hl [1, 2, 3, 0] rfl) kx
def xf_H_leastFloor (N : Nat) (S : xS) (a1 : Int32) (a2 : Int32) : Option (Int32 × xS) := (if a1.toNatClampNeg < S.2.2.1 then (bd1 (xf_H_leastFloor_L13 N a1 (S.1 57 a1.toNatClampNeg) N (xs S 57 a1.toNatClampNeg a2) 0) fun S23 => (if a1.toNatClampNeg < S23.2.2.1 then (if 99 < (S23.1 57 a1.toNatClampNeg) then some ((-1), xs S23 57 a1.toNatClampNeg (S.1 57 a1.toNatClampNeg)) else some (S23.1 57 a1.toNatClampNeg, xs S23 57 a1.toNatClampNeg (S.1 57 a1.toNatClampNeg))) else none)) else none)
set_option maxRecDepth 100000 in
theorem cx_H_leastFloor (l : Launch) (N : Nat) (S : xS) (a1 : Int32) (a2 : Int32) (res : Int32) (S1 : xS) (hf : xf_H_leastFloor N S a1 a2 = some (res, S1)) : xMi l yX1_leastFloor cX1_leastFloor 6 .int 6 (fun g => [.ref (xr g 1), .ref (xr g (100 + 2 * a1.toNatClampNeg)), .int a2]) S res S1 := by
  refine xMi_of (own := RX1) (by decide) rfl rfl (fun g => Nat.le_of_ble_eq_true rfl) ?_
  intro p e R s m args below meth c Q g A H0 H locs ls hc hR hml hw hl hQ
  have hl : lv_has ls 6 [(0, .ref (xr g 1)), (1, .ref (xr g (100 + 2 * a1.toNatClampNeg))), (2, .int a2)] := hl
  have hx := hc.1
  have hb := hc.2.1
  unfold xf_H_leastFloor at hf
  refine lv_aload_n hx hb dX1_leastFloor_0 rfl (lv_at hl 1 rfl) ?_
  obtain ⟨hr1, hf⟩ := gd_some hf
  refine x_rg_rise hc hw hr1 fl_1_89 dX1_leastFloor_1 ?_
  refine lv_istore_n (lv' := [(3, .int (S.1 57 a1.toNatClampNeg)), (0, .ref (xr g 1)), (1, .ref (xr g (100 + 2 * a1.toNatClampNeg))), (2, .int a2)]) hx hb dX1_leastFloor_4 rfl hl (by decide) rfl (fun ls hl => ?_)
  refine lv_aload_n hx hb dX1_leastFloor_5 rfl (lv_at hl 2 rfl) ?_
  refine lv_iload_n hx hb dX1_leastFloor_6 rfl (lv_at hl 3 rfl) ?_
  refine x_rp_rise hc hw hr1 fl_1_89 dX1_leastFloor_7 (fun H locs hw => ?_)
  refine lv_iconst (v := 0) hx hb dX1_leastFloor_10 (by decide) ?_
  refine lv_istore (lv' := [(4, .int 0), (3, .int (S.1 57 a1.toNatClampNeg)), (0, .ref (xr g 1)), (1, .ref (xr g (100 + 2 * a1.toNatClampNeg))), (2, .int a2)]) hx hb dX1_leastFloor_11 hl (by decide) rfl (fun ls hl => ?_)
  obtain ⟨S23, hL, hf⟩ := bd1_some hf
  refine wx_H_leastFloor_L13 hc hR hml N a1 (S.1 57 a1.toNatClampNeg) N _ _ _ _ _ _ hL hw (lv_sub hl [2, 3, 1, 0] rfl) (fun H locs ls hw hl => ?_)
  refine lv_aload_n hx hb dX1_leastFloor_81 rfl (lv_at hl 0 rfl) ?_
  obtain ⟨hr24, hf⟩ := gd_some hf
  refine x_rg_rise hc hw hr24 fl_1_89 dX1_leastFloor_82 ?_
  refine lv_istore (lv' := [(4, .int (S23.1 57 a1.toNatClampNeg)), (1, .ref (xr g (100 + 2 * a1.toNatClampNeg))), (3, .int (S.1 57 a1.toNatClampNeg))]) hx hb dX1_leastFloor_85 hl (by decide) rfl (fun ls hl => ?_)
  refine lv_aload_n hx hb dX1_leastFloor_87 rfl (lv_at hl 1 rfl) ?_
  refine lv_iload_n hx hb dX1_leastFloor_88 rfl (lv_at hl 2 rfl) ?_
  refine x_rp_rise hc hw hr24 fl_1_89 dX1_leastFloor_89 (fun H locs hw => ?_)
  refine lv_iload hx hb dX1_leastFloor_92 (lv_at hl 0 rfl) ?_
  refine lv_bipush (v := 99) hx hb dX1_leastFloor_94 (by decide) ?_
  refine lv_icmp_gt (tgt := 104) hx hb dX1_leastFloor_96 (by decide) (fun cn32 => ?_) (fun cn32 => ?_)
  · have hf := (if_pos cn32).symm.trans hf
    refine lv_iconst (v := (-1)) hx hb dX1_leastFloor_104 (by decide) ?_
    obtain ⟨rfl, rfl⟩ := pr2_some hf
    exact hQ _ _ _ _ dX1_leastFloor_105 hw
  · have hf := (if_neg cn32).symm.trans hf
    refine lv_iload hx hb dX1_leastFloor_99 (lv_at hl 0 rfl) ?_
    refine lv_goto (tgt := 105) hx hb dX1_leastFloor_101 (by decide) ?_
    obtain ⟨rfl, rfl⟩ := pr2_some hf
    exact hQ _ _ _ _ dX1_leastFloor_105 hw
def xf_H_worthOf_L5 (N : Nat) (c1 : Int32) (c2 : Int32) : Nat → xS → Int32 → Int32 → Option (Int32 × xS)
  | 0, _, _, _ => none
  | n + 1, S5, v3, v4 => (if (S5.1 17 0) ≤ v4 then some (v3, S5) else (bd2 (xf_H_hiderOf N S5 c1 c2 v4) fun v6 S7 => (if v6 = (-1) then (bd2 (xf_H_likeOf N S7 c1 c2 v4) fun v8 S9 => xf_H_worthOf_L5 N c1 c2 n S9 (v3 + v8) (v4 + 1)) else xf_H_worthOf_L5 N c1 c2 n S7 v3 (v4 + 1))))
set_option maxRecDepth 100000 in
theorem wx_H_worthOf_L5 {p : Program} {l : Launch} {e : Env} {R : Room} {s : State} {m : MethodId} {args : Array Value} {below : List Frame} {meth : Method} {c : Code} {Q : State → Prop} {g : xG} {A : Nat → Prop} {H0 : Heap} (hc : qC RX1 cX1_worthOf p s m args c) (hR : qRoom R 6) (hml : c.maxLocals = 5) (N : Nat) (c1 : Int32) (c2 : Int32) : ∀ (n : Nat) (S5 : xS) (v3 : Int32) (v4 : Int32) (X : Int32 × xS) (H : Heap) (locs : List Loc) (ls : Array Slot), xf_H_worthOf_L5 N c1 c2 n S5 v3 v4 = some X → xI g A H0 s S5 H locs → lv_has ls 5 [(0, .ref (xr g 1)), (1, .ref (xr g (100 + 2 * c1.toNatClampNeg))), (2, .int c2), (3, .int v3), (4, .int v4)] → (∀ (H : Heap) (locs : List Loc) (ls : Array Slot), xI g A H0 s X.2 H locs → lv_has ls 5 [(3, .int X.1)] → W p l e R s m args below meth c H locs 0 0 Q (F0 m 43 ls [])) → W p l e R s m args below meth c H locs 0 0 Q (F0 m 5 ls []) := by
  have hx := hc.1
  have hb := hc.2.1
  intro n
  induction n with
  | zero => intro _ _ _ X H locs ls hf; exact nomatch (show none = some X from hf)
  | succ n ih =>
    intro S5 v3 v4 X H locs ls hf hw hl kx
    rw [xf_H_worthOf_L5] at hf
    refine lv_iload hx hb dX1_worthOf_5 (lv_at hl 4 rfl) ?_
    refine lv_aload_n hx hb dX1_worthOf_7 rfl (lv_at hl 0 rfl) ?_
    refine x_g_hall_pointCount hc hw fl_1_46 dX1_worthOf_8 ?_
    refine lv_icmp_ge (tgt := 43) hx hb dX1_worthOf_11 (by decide) (fun cn12 => ?_) (fun cn12 => ?_)
    · have hf := (if_pos cn12).symm.trans hf
      obtain rfl := Option.some.inj hf
      exact kx _ _ _ hw (lv_sub hl [3] rfl)
    · have hf := (if_neg cn12).symm.trans hf
      refine lv_aload_n hx hb dX1_worthOf_14 rfl (lv_at hl 0 rfl) ?_
      refine lv_aload_n hx hb dX1_worthOf_15 rfl (lv_at hl 1 rfl) ?_
      refine lv_iload_n hx hb dX1_worthOf_16 rfl (lv_at hl 2 rfl) ?_
      refine lv_iload hx hb dX1_worthOf_17 (lv_at hl 4 rfl) ?_
      obtain ⟨v6, S7, hcall, hf⟩ := bd2_some hf
      refine x_cvi (As := [.ref (xr g (100 + 2 * c1.toNatClampNeg)), .int c2, .int v4]) (rest := []) hc hw hR (hml.trans hl.1.symm) (cx_H_hiderOf l N S5 c1 c2 v4 v6 S7 hcall) xq_1_H_hiderOf (x_recv_hall hw) (by decide) rfl rfl rfl (Nat.le_of_ble_eq_true rfl) dX1_worthOf_19 (fun H locs hw => ?_) ⟨Nat.zero_le _, Nat.zero_le _⟩
      refine lv_iconst (v := (-1)) hx hb dX1_worthOf_22 (by decide) ?_
      refine lv_icmp_ne (tgt := 37) hx hb dX1_worthOf_23 (by decide) (fun cn13 => ?_) (fun cn13 => ?_)
      · have hf := (if_neg cn13).symm.trans hf
        refine lv_iinc (lv' := [(4, .int (v4 + 1)), (0, .ref (xr g 1)), (1, .ref (xr g (100 + 2 * c1.toNatClampNeg))), (2, .int c2), (3, .int v3)]) hx hb dX1_worthOf_37 hl (k := 4) rfl rfl (by decide) rfl (fun ls hl => ?_)
        refine lv_goto (tgt := 5) hx hb dX1_worthOf_40 (by decide) ?_
        exact ih _ _ _ X _ _ _ hf hw (lv_sub hl [1, 2, 3, 4, 0] rfl) kx
      · have hf := (if_pos cn13).symm.trans hf
        refine lv_iload_n hx hb dX1_worthOf_26 rfl (lv_at hl 3 rfl) ?_
        refine lv_aload_n hx hb dX1_worthOf_27 rfl (lv_at hl 0 rfl) ?_
        refine lv_aload_n hx hb dX1_worthOf_28 rfl (lv_at hl 1 rfl) ?_
        refine lv_iload_n hx hb dX1_worthOf_29 rfl (lv_at hl 2 rfl) ?_
        refine lv_iload hx hb dX1_worthOf_30 (lv_at hl 4 rfl) ?_
        obtain ⟨v8, S9, hcall, hf⟩ := bd2_some hf
        refine x_cvi (As := [.ref (xr g (100 + 2 * c1.toNatClampNeg)), .int c2, .int v4]) (rest := [.int v3]) hc hw hR (hml.trans hl.1.symm) (cx_H_likeOf l N S7 c1 c2 v4 v8 S9 hcall) xq_1_H_likeOf (x_recv_hall hw) (by decide) rfl rfl rfl (Nat.le_of_ble_eq_true rfl) dX1_worthOf_32 (fun H locs hw => ?_) ⟨Nat.zero_le _, Nat.zero_le _⟩
        refine lv_iadd hx hb dX1_worthOf_35 ?_
        refine lv_istore_n (lv' := [(3, .int (v3 + v8)), (0, .ref (xr g 1)), (1, .ref (xr g (100 + 2 * c1.toNatClampNeg))), (2, .int c2), (4, .int v4)]) hx hb dX1_worthOf_36 rfl hl (by decide) rfl (fun ls hl => ?_)
        refine lv_iinc (lv' := [(4, .int (v4 + 1)), (3, .int (v3 + v8)), (0, .ref (xr g 1)), (1, .ref (xr g (100 + 2 * c1.toNatClampNeg))), (2, .int c2)]) hx hb dX1_worthOf_37 hl (k := 4) rfl rfl (by decide) rfl (fun ls hl => ?_)
        refine lv_goto (tgt := 5) hx hb dX1_worthOf_40 (by decide) ?_
        exact ih _ _ _ X _ _ _ hf hw (lv_sub hl [2, 3, 4, 1, 0] rfl) kx
def xf_H_worthOf (N : Nat) (S : xS) (a1 : Int32) (a2 : Int32) : Option (Int32 × xS) := (bd2 (xf_H_worthOf_L5 N a1 a2 N S 0 0) fun v10 S11 => some (v10, S11))
set_option maxRecDepth 100000 in
theorem cx_H_worthOf (l : Launch) (N : Nat) (S : xS) (a1 : Int32) (a2 : Int32) (res : Int32) (S1 : xS) (hf : xf_H_worthOf N S a1 a2 = some (res, S1)) : xMi l yX1_worthOf cX1_worthOf 5 .int 6 (fun g => [.ref (xr g 1), .ref (xr g (100 + 2 * a1.toNatClampNeg)), .int a2]) S res S1 := by
  refine xMi_of (own := RX1) (by decide) rfl rfl (fun g => Nat.le_of_ble_eq_true rfl) ?_
  intro p e R s m args below meth c Q g A H0 H locs ls hc hR hml hw hl hQ
  have hl : lv_has ls 5 [(0, .ref (xr g 1)), (1, .ref (xr g (100 + 2 * a1.toNatClampNeg))), (2, .int a2)] := hl
  have hx := hc.1
  have hb := hc.2.1
  unfold xf_H_worthOf at hf
  refine lv_iconst (v := 0) hx hb dX1_worthOf_0 (by decide) ?_
  refine lv_istore_n (lv' := [(3, .int 0), (0, .ref (xr g 1)), (1, .ref (xr g (100 + 2 * a1.toNatClampNeg))), (2, .int a2)]) hx hb dX1_worthOf_1 rfl hl (by decide) rfl (fun ls hl => ?_)
  refine lv_iconst (v := 0) hx hb dX1_worthOf_2 (by decide) ?_
  refine lv_istore (lv' := [(4, .int 0), (3, .int 0), (0, .ref (xr g 1)), (1, .ref (xr g (100 + 2 * a1.toNatClampNeg))), (2, .int a2)]) hx hb dX1_worthOf_3 hl (by decide) rfl (fun ls hl => ?_)
  obtain ⟨v10, S11, hL, hf⟩ := bd2_some hf
  refine wx_H_worthOf_L5 hc hR hml N a1 a2 N _ _ _ _ _ _ _ hL hw (lv_sub hl [2, 3, 4, 1, 0] rfl) (fun H locs ls hw hl => ?_)
  refine lv_iload_n hx hb dX1_worthOf_43 rfl (lv_at hl 0 rfl) ?_
  obtain ⟨rfl, rfl⟩ := pr2_some hf
  exact hQ _ _ _ _ dX1_worthOf_44 hw
def xf_R_isWord_L24 (N : Nat) (c3 : Nat) : Nat → xS → Int32 → Int32 → Option (Int32)
  | 0, _, _, _ => none
  | n + 1, S6, v4, v5 => (if v4 = 0 then some v4 else (if c3 < 13 then (if (xlen c3) ≤ v5 then some v4 else (if (S6.1 39 0) < 0 then none else (if ok ((S6.1 42 0) + v5) 160 then (if ok v5 (xLen.getD c3 0) then (if (S6.1 3 ((S6.1 42 0) + v5).toNatClampNeg) = (xch c3 v5.toNatClampNeg) then xf_R_isWord_L24 N c3 n S6 1 (v5 + 1) else xf_R_isWord_L24 N c3 n S6 0 (v5 + 1)) else none) else none))) else none))
set_option maxRecDepth 100000 in
theorem wx_R_isWord_L24 {p : Program} {l : Launch} {e : Env} {R : Room} {s : State} {m : MethodId} {args : Array Value} {below : List Frame} {meth : Method} {c : Code} {Q : State → Prop} {g : xG} {A : Nat → Prop} {H0 : Heap} (hc : qC RX7 cX7_isWord p s m args c) (hR : qRoom R 6) (hml : c.maxLocals = 4) (N : Nat) (c3 : Nat) : ∀ (n : Nat) (S6 : xS) (v4 : Int32) (v5 : Int32) (X : Int32) (H : Heap) (locs : List Loc) (ls : Array Slot), xf_R_isWord_L24 N c3 n S6 v4 v5 = some X → xI g A H0 s S6 H locs → lv_has ls 4 [(0, .ref (xr g 3)), (1, .ref (xr g (300 + c3))), (2, .int v4), (3, .int v5)] → (∀ (H : Heap) (locs : List Loc) (ls : Array Slot), xI g A H0 s S6 H locs → lv_has ls 4 [(2, .int X)] → W p l e R s m args below meth c H locs 0 0 Q (F0 m 67 ls [])) → W p l e R s m args below meth c H locs 0 0 Q (F0 m 24 ls []) := by
  have hx := hc.1
  have hb := hc.2.1
  intro n
  induction n with
  | zero => intro _ _ _ X H locs ls hf; exact nomatch (show none = some X from hf)
  | succ n ih =>
    intro S6 v4 v5 X H locs ls hf hw hl kx
    rw [xf_R_isWord_L24] at hf
    refine lv_iload_n hx hb dX7_isWord_24 rfl (lv_at hl 2 rfl) ?_
    refine lv_if_eq (tgt := 67) hx hb dX7_isWord_25 (by decide) (fun cn12 => ?_) (fun cn12 => ?_)
    · have hf := (if_pos cn12).symm.trans hf
      obtain rfl := Option.some.inj hf
      exact kx _ _ _ hw (lv_sub hl [2] rfl)
    · have hf := (if_neg cn12).symm.trans hf
      refine lv_iload_n hx hb dX7_isWord_28 rfl (lv_at hl 3 rfl) ?_
      refine lv_aload_n hx hb dX7_isWord_29 rfl (lv_at hl 1 rfl) ?_
      obtain ⟨hs7, hf⟩ := gd_some hf
      refine x_cvi (As := []) (rest := [.int v5]) hc hw hR (hml.trans hl.1.symm) (cj_length l S6 c3 hs7) jq_length_R (vk_recv (by have h0 := hw.2.2.2.2.2.1; exact hw.2.2.2.2.2.2.2.2.2.2.1) hs7 (hw.2.2.2.2.2.1 ▸ hw.2.2.2.1)) (by decide) rfl rfl rfl (Nat.le_of_ble_eq_true rfl) dX7_isWord_30 (fun H locs hw => ?_) ⟨Nat.zero_le _, Nat.zero_le _⟩
      refine lv_icmp_ge (tgt := 67) hx hb dX7_isWord_33 (by decide) (fun cn13 => ?_) (fun cn13 => ?_)
      · have hf := (if_pos cn13).symm.trans hf
        obtain rfl := Option.some.inj hf
        exact kx _ _ _ hw (lv_sub hl [2] rfl)
      · have hf := (if_neg cn13).symm.trans hf
        refine lv_aload_n hx hb dX7_isWord_36 rfl (lv_at hl 0 rfl) ?_
        refine x_g_reader_tape hc hw fl_7_15 dX7_isWord_37 ?_
        refine x_splitb (fun cn8 => ?_) (fun cn8 => ?_)
        · have hf := (if_pos cn8).symm.trans hf
          refine lv_aload_n hx hb dX7_isWord_40 rfl (lv_at hl 0 rfl) ?_
          refine x_g_reader_start hc hw fl_7_25 dX7_isWord_41 ?_
          refine lv_iload_n hx hb dX7_isWord_44 rfl (lv_at hl 3 rfl) ?_
          refine lv_iadd hx hb dX7_isWord_45 ?_
          exact nomatch hf
        · have hf := (if_neg cn8).symm.trans hf
          refine lv_aload_n hx hb dX7_isWord_40 rfl (lv_at hl 0 rfl) ?_
          refine x_g_reader_start hc hw fl_7_25 dX7_isWord_41 ?_
          refine lv_iload_n hx hb dX7_isWord_44 rfl (lv_at hl 3 rfl) ?_
          refine lv_iadd hx hb dX7_isWord_45 ?_
          obtain ⟨hi9, hf⟩ := gd_some hf
          refine x_l_this_tape hc hw (ok_in hi9) dX7_isWord_46 ?_
          refine lv_aload_n hx hb dX7_isWord_47 rfl (lv_at hl 1 rfl) ?_
          refine lv_iload_n hx hb dX7_isWord_48 rfl (lv_at hl 3 rfl) ?_
          obtain ⟨hc10, hf⟩ := gd_some hf
          refine x_cvi (As := [.int v5]) (rest := [.int (S6.1 3 ((S6.1 42 0) + v5).toNatClampNeg)]) hc hw hR (hml.trans hl.1.symm) (cj_charAt l S6 c3 v5 hs7 hc10) jq_charAt_R (vk_recv hw.2.2.2.2.2.2.2.2.2.2.1 hs7 (hw.2.2.2.2.2.1 ▸ hw.2.2.2.1)) (by decide) rfl rfl rfl (Nat.le_of_ble_eq_true rfl) dX7_isWord_49 (fun H locs hw => ?_) ⟨Nat.zero_le _, Nat.zero_le _⟩
          refine lv_icmp_ne (tgt := 59) hx hb dX7_isWord_52 (by decide) (fun cn14 => ?_) (fun cn14 => ?_)
          · have hf := (if_neg cn14).symm.trans hf
            refine lv_iconst (v := 0) hx hb dX7_isWord_59 (by decide) ?_
            refine lv_istore_n (lv' := [(2, .int 0), (0, .ref (xr g 3)), (1, .ref (xr g (300 + c3))), (3, .int v5)]) hx hb dX7_isWord_60 rfl hl (by decide) rfl (fun ls hl => ?_)
            refine lv_iinc (lv' := [(3, .int (v5 + 1)), (2, .int 0), (0, .ref (xr g 3)), (1, .ref (xr g (300 + c3)))]) hx hb dX7_isWord_61 hl (k := 3) rfl rfl (by decide) rfl (fun ls hl => ?_)
            refine lv_goto (tgt := 24) hx hb dX7_isWord_64 (by decide) ?_
            exact ih _ _ _ X _ _ _ hf hw (lv_sub hl [2, 3, 1, 0] rfl) kx
          · have hf := (if_pos cn14).symm.trans hf
            refine lv_iconst (v := 1) hx hb dX7_isWord_55 (by decide) ?_
            refine lv_goto (tgt := 60) hx hb dX7_isWord_56 (by decide) ?_
            refine lv_istore_n (lv' := [(2, .int 1), (0, .ref (xr g 3)), (1, .ref (xr g (300 + c3))), (3, .int v5)]) hx hb dX7_isWord_60 rfl hl (by decide) rfl (fun ls hl => ?_)
            refine lv_iinc (lv' := [(3, .int (v5 + 1)), (2, .int 1), (0, .ref (xr g 3)), (1, .ref (xr g (300 + c3)))]) hx hb dX7_isWord_61 hl (k := 3) rfl rfl (by decide) rfl (fun ls hl => ?_)
            refine lv_goto (tgt := 24) hx hb dX7_isWord_64 (by decide) ?_
            exact ih _ _ _ X _ _ _ hf hw (lv_sub hl [2, 3, 1, 0] rfl) kx
def xf_R_isWord (N : Nat) (S : xS) (a1 : Nat) : Option (Bool) := (if a1 < 13 then (bd1 (xf_R_isWord_L24 N a1 N S ((if ((S.1 41 0) - (S.1 42 0)) = (xlen a1) then 1 else 0) : Int32) 0) fun v11 => (if v11 = 0 then some false else (if v11 = 1 then some true else none))) else none)
set_option maxRecDepth 100000 in
theorem cx_R_isWord (l : Launch) (N : Nat) (S : xS) (a1 : Nat) (res : Bool) (hf : xf_R_isWord N S a1 = some res) : xMi l yX7_isWord cX7_isWord 4 .boolean 6 (fun g => [.ref (xr g 3), .ref (xr g (300 + a1))]) S (bi res) S := by
  refine xMi_of (own := RX7) (by decide) rfl (narrow_bi _) (fun g => Nat.le_of_ble_eq_true rfl) ?_
  intro p e R s m args below meth c Q g A H0 H locs ls hc hR hml hw hl hQ
  have hl : lv_has ls 4 [(0, .ref (xr g 3)), (1, .ref (xr g (300 + a1)))] := hl
  have hx := hc.1
  have hb := hc.2.1
  unfold xf_R_isWord at hf
  refine lv_aload_n hx hb dX7_isWord_0 rfl (lv_at hl 0 rfl) ?_
  refine x_g_reader_next hc hw fl_7_22 dX7_isWord_1 ?_
  refine lv_aload_n hx hb dX7_isWord_4 rfl (lv_at hl 0 rfl) ?_
  refine x_g_reader_start hc hw fl_7_25 dX7_isWord_5 ?_
  refine lv_isub hx hb dX7_isWord_8 ?_
  refine lv_aload_n hx hb dX7_isWord_9 rfl (lv_at hl 1 rfl) ?_
  obtain ⟨hs1, hf⟩ := gd_some hf
  refine x_cvi (As := []) (rest := [.int ((S.1 41 0) - (S.1 42 0))]) hc hw hR (hml.trans hl.1.symm) (cj_length l S a1 hs1) jq_length_R (vk_recv (by have h0 := hw.2.2.2.2.2.1; exact hw.2.2.2.2.2.2.2.2.2.2.1) hs1 (hw.2.2.2.2.2.1 ▸ hw.2.2.2.1)) (by decide) rfl rfl rfl (Nat.le_of_ble_eq_true rfl) dX7_isWord_10 (fun H locs hw => ?_) ⟨Nat.zero_le _, Nat.zero_le _⟩
  obtain ⟨v2, hv2⟩ : ∃ y : Int32, y = (if ((S.1 41 0) - (S.1 42 0)) = (xlen a1) then 1 else 0) := ⟨_, rfl⟩
  try rw [← hv2] at hf
  have kJ18 : ∀ v2x : Int32, v2 = v2x → ∀ (H : Heap) (locs : List Loc) (ls : Array Slot), xI g A H0 s S H locs → lv_has ls 4 [(0, .ref (xr g 3)), (1, .ref (xr g (300 + a1)))] → W p l e R s m args below meth c H locs 0 0 Q (F0 m 21 ls [.int v2x]) := by
    intro v2x hxv2 H locs ls hw hl
    subst hxv2
    refine lv_istore_n (lv' := [(2, .int v2), (0, .ref (xr g 3)), (1, .ref (xr g (300 + a1)))]) hx hb dX7_isWord_21 rfl hl (by decide) rfl (fun ls hl => ?_)
    refine lv_iconst (v := 0) hx hb dX7_isWord_22 (by decide) ?_
    refine lv_istore_n (lv' := [(3, .int 0), (2, .int v2), (0, .ref (xr g 3)), (1, .ref (xr g (300 + a1)))]) hx hb dX7_isWord_23 rfl hl (by decide) rfl (fun ls hl => ?_)
    obtain ⟨v11, hL, hf⟩ := bd1_some hf
    refine wx_R_isWord_L24 hc hR hml N a1 N _ _ _ _ _ _ _ hL hw (lv_sub hl [2, 3, 1, 0] rfl) (fun H locs ls hw hl => ?_)
    refine lv_iload_n hx hb dX7_isWord_67 rfl (lv_at hl 0 rfl) ?_
    refine lv_case (k := 0) (fun cn16 => ?_) (fun cn16 => ?_)
    · have hf := (if_pos cn16).symm.trans hf
      obtain rfl := Option.some.inj hf
      exact hQ _ _ _ _ dX7_isWord_68 hw
    · have hf := (if_neg cn16).symm.trans hf
      refine lv_case (k := 1) (fun cn17 => ?_) (fun cn17 => ?_)
      · have hf := (if_pos cn17).symm.trans hf
        obtain rfl := Option.some.inj hf
        exact hQ _ _ _ _ dX7_isWord_68 hw
      · have hf := (if_neg cn17).symm.trans hf
        exact nomatch hf
  refine lv_icmp_ne (tgt := 20) hx hb dX7_isWord_13 (by decide) (fun cn19 => ?_) (fun cn19 => ?_)
  · refine lv_iconst (v := 0) hx hb dX7_isWord_20 (by decide) ?_
    have ev2 : v2 = (0 : Int32) := by rw [hv2]; simp only [if_neg cn19]
    exact kJ18 _ ev2 _ _ _ hw (lv_sub hl [0, 1] rfl)
  · refine lv_iconst (v := 1) hx hb dX7_isWord_16 (by decide) ?_
    refine lv_goto (tgt := 21) hx hb dX7_isWord_17 (by decide) ?_
    have ev2 : v2 = (1 : Int32) := by rw [hv2]; simp only [if_pos cn19]
    exact kJ18 _ ev2 _ _ _ hw (lv_sub hl [0, 1] rfl)
def xf_X_sees (N : Nat) (S : xS) (a1 : Int32) (a2 : Int32) : Option (Int32 × xS) := (bd1 (xf_H_rowWith N S a1 a2) fun v1 => (if v1 < 0 then some ((-5), S) else (bd2 (xf_H_seenFrom N S v1 a2) fun v3 S4 => some (v3, S4))))
set_option maxRecDepth 100000 in
theorem cx_X_sees (l : Launch) (N : Nat) (S : xS) (a1 : Int32) (a2 : Int32) (res : Int32) (S1 : xS) (hf : xf_X_sees N S a1 a2 = some (res, S1)) : xMi l yX11_sees cX11_sees 4 .int 7 (fun g => [.ref (xr g 0), .int a1, .int a2]) S res S1 := by
  refine xMi_of (own := RX11) (by decide) rfl rfl (fun g => Nat.le_of_ble_eq_true rfl) ?_
  intro p e R s m args below meth c Q g A H0 H locs ls hc hR hml hw hl hQ
  have hl : lv_has ls 4 [(0, .ref (xr g 0)), (1, .int a1), (2, .int a2)] := hl
  have hx := hc.1
  have hb := hc.2.1
  unfold xf_X_sees at hf
  refine lv_aload_n hx hb dX11_sees_0 rfl (lv_at hl 0 rfl) ?_
  refine x_g_this_hall hc hw fl_11_10 dX11_sees_1 ?_
  refine lv_iload_n hx hb dX11_sees_4 rfl (lv_at hl 1 rfl) ?_
  refine lv_iload_n hx hb dX11_sees_5 rfl (lv_at hl 2 rfl) ?_
  obtain ⟨v1, hcall, hf⟩ := bd1_some hf
  refine x_cvr (As := [.int a1, .int a2]) (rest := []) hc hw hR (hml.trans hl.1.symm) (cx_H_rowWith l N S a1 a2 v1 hcall) xq_11_H_rowWith (x_recv_hall hw) (by decide) rfl rfl rfl (Nat.le_of_ble_eq_true rfl) dX11_sees_6 (fun H locs hw => ?_) ⟨Nat.zero_le _, Nat.zero_le _⟩
  refine x_splitr (fun cn2 => ?_) (fun cn2 => ?_)
  · have hf := (if_pos cn2).symm.trans hf
    refine lv_astore_nN (lv' := [(3, .null), (0, .ref (xr g 0)), (1, .int a1), (2, .int a2)]) hx hb dX11_sees_9 rfl hl (by decide) rfl (fun ls hl => ?_)
    refine lv_aload_nN hx hb dX11_sees_10 rfl (lv_at hl 0 rfl) ?_
    refine lv_ifnonnullN hx hb dX11_sees_11 ?_
    refine lv_bipush (v := (-5)) hx hb dX11_sees_14 (by decide) ?_
    refine lv_goto (tgt := 28) hx hb dX11_sees_16 (by decide) ?_
    obtain ⟨rfl, rfl⟩ := pr2_some hf
    exact hQ _ _ _ _ dX11_sees_28 hw
  · have hf := (if_neg cn2).symm.trans hf
    refine lv_astore_n (lv' := [(3, .ref (xr g (100 + 2 * v1.toNatClampNeg))), (0, .ref (xr g 0)), (1, .int a1), (2, .int a2)]) hx hb dX11_sees_9 rfl hl (by decide) rfl (fun ls hl => ?_)
    refine lv_aload_n hx hb dX11_sees_10 rfl (lv_at hl 0 rfl) ?_
    refine lv_ifnonnull (tgt := 19) hx hb dX11_sees_11 (by decide) ?_
    refine lv_aload_n hx hb dX11_sees_19 rfl (lv_at hl 1 rfl) ?_
    refine x_g_this_hall hc hw fl_11_10 dX11_sees_20 ?_
    refine lv_aload_n hx hb dX11_sees_23 rfl (lv_at hl 0 rfl) ?_
    refine lv_iload_n hx hb dX11_sees_24 rfl (lv_at hl 3 rfl) ?_
    obtain ⟨v3, S4, hcall, hf⟩ := bd2_some hf
    refine x_cvi (As := [.ref (xr g (100 + 2 * v1.toNatClampNeg)), .int a2]) (rest := []) hc hw hR (hml.trans hl.1.symm) (cx_H_seenFrom l N S v1 a2 v3 S4 hcall) xq_11_H_seenFrom (x_recv_hall hw) (by decide) rfl rfl rfl (Nat.le_of_ble_eq_true rfl) dX11_sees_25 (fun H locs hw => ?_) ⟨Nat.zero_le _, Nat.zero_le _⟩
    obtain ⟨rfl, rfl⟩ := pr2_some hf
    exact hQ _ _ _ _ dX11_sees_28 hw
def xf_X_worth (N : Nat) (S : xS) (a1 : Int32) (a2 : Int32) : Option (Int32 × xS) := (bd1 (xf_H_rowWith N S a1 a2) fun v1 => (if v1 < 0 then some ((-5), S) else (bd2 (xf_H_worthOf N S v1 a2) fun v3 S4 => some (v3, S4))))
set_option maxRecDepth 100000 in
theorem cx_X_worth (l : Launch) (N : Nat) (S : xS) (a1 : Int32) (a2 : Int32) (res : Int32) (S1 : xS) (hf : xf_X_worth N S a1 a2 = some (res, S1)) : xMi l yX11_worth cX11_worth 4 .int 7 (fun g => [.ref (xr g 0), .int a1, .int a2]) S res S1 := by
  refine xMi_of (own := RX11) (by decide) rfl rfl (fun g => Nat.le_of_ble_eq_true rfl) ?_
  intro p e R s m args below meth c Q g A H0 H locs ls hc hR hml hw hl hQ
  have hl : lv_has ls 4 [(0, .ref (xr g 0)), (1, .int a1), (2, .int a2)] := hl
  have hx := hc.1
  have hb := hc.2.1
  unfold xf_X_worth at hf
  refine lv_aload_n hx hb dX11_worth_0 rfl (lv_at hl 0 rfl) ?_
  refine x_g_this_hall hc hw fl_11_10 dX11_worth_1 ?_
  refine lv_iload_n hx hb dX11_worth_4 rfl (lv_at hl 1 rfl) ?_
  refine lv_iload_n hx hb dX11_worth_5 rfl (lv_at hl 2 rfl) ?_
  obtain ⟨v1, hcall, hf⟩ := bd1_some hf
  refine x_cvr (As := [.int a1, .int a2]) (rest := []) hc hw hR (hml.trans hl.1.symm) (cx_H_rowWith l N S a1 a2 v1 hcall) xq_11_H_rowWith (x_recv_hall hw) (by decide) rfl rfl rfl (Nat.le_of_ble_eq_true rfl) dX11_worth_6 (fun H locs hw => ?_) ⟨Nat.zero_le _, Nat.zero_le _⟩
  refine x_splitr (fun cn2 => ?_) (fun cn2 => ?_)
  · have hf := (if_pos cn2).symm.trans hf
    refine lv_astore_nN (lv' := [(3, .null), (0, .ref (xr g 0)), (1, .int a1), (2, .int a2)]) hx hb dX11_worth_9 rfl hl (by decide) rfl (fun ls hl => ?_)
    refine lv_aload_nN hx hb dX11_worth_10 rfl (lv_at hl 0 rfl) ?_
    refine lv_ifnonnullN hx hb dX11_worth_11 ?_
    refine lv_bipush (v := (-5)) hx hb dX11_worth_14 (by decide) ?_
    refine lv_goto (tgt := 28) hx hb dX11_worth_16 (by decide) ?_
    obtain ⟨rfl, rfl⟩ := pr2_some hf
    exact hQ _ _ _ _ dX11_worth_28 hw
  · have hf := (if_neg cn2).symm.trans hf
    refine lv_astore_n (lv' := [(3, .ref (xr g (100 + 2 * v1.toNatClampNeg))), (0, .ref (xr g 0)), (1, .int a1), (2, .int a2)]) hx hb dX11_worth_9 rfl hl (by decide) rfl (fun ls hl => ?_)
    refine lv_aload_n hx hb dX11_worth_10 rfl (lv_at hl 0 rfl) ?_
    refine lv_ifnonnull (tgt := 19) hx hb dX11_worth_11 (by decide) ?_
    refine lv_aload_n hx hb dX11_worth_19 rfl (lv_at hl 1 rfl) ?_
    refine x_g_this_hall hc hw fl_11_10 dX11_worth_20 ?_
    refine lv_aload_n hx hb dX11_worth_23 rfl (lv_at hl 0 rfl) ?_
    refine lv_iload_n hx hb dX11_worth_24 rfl (lv_at hl 3 rfl) ?_
    obtain ⟨v3, S4, hcall, hf⟩ := bd2_some hf
    refine x_cvi (As := [.ref (xr g (100 + 2 * v1.toNatClampNeg)), .int a2]) (rest := []) hc hw hR (hml.trans hl.1.symm) (cx_H_worthOf l N S v1 a2 v3 S4 hcall) xq_11_H_worthOf (x_recv_hall hw) (by decide) rfl rfl rfl (Nat.le_of_ble_eq_true rfl) dX11_worth_25 (fun H locs hw => ?_) ⟨Nat.zero_le _, Nat.zero_le _⟩
    obtain ⟨rfl, rfl⟩ := pr2_some hf
    exact hQ _ _ _ _ dX11_worth_28 hw
def xf_X_needs (N : Nat) (S : xS) (a1 : Int32) : Option (Int32 × xS) := (bd1 (xf_H_rowAt N S a1) fun v1 => (if v1 < 0 then some ((-5), S) else (bd2 (xf_H_leastFloor N S v1 0) fun v3 S4 => some (v3, S4))))
set_option maxRecDepth 100000 in
theorem cx_X_needs (l : Launch) (N : Nat) (S : xS) (a1 : Int32) (res : Int32) (S1 : xS) (hf : xf_X_needs N S a1 = some (res, S1)) : xMi l yX11_needs cX11_needs 3 .int 7 (fun g => [.ref (xr g 0), .int a1]) S res S1 := by
  refine xMi_of (own := RX11) (by decide) rfl rfl (fun g => Nat.le_of_ble_eq_true rfl) ?_
  intro p e R s m args below meth c Q g A H0 H locs ls hc hR hml hw hl hQ
  have hl : lv_has ls 3 [(0, .ref (xr g 0)), (1, .int a1)] := hl
  have hx := hc.1
  have hb := hc.2.1
  unfold xf_X_needs at hf
  refine lv_aload_n hx hb dX11_needs_0 rfl (lv_at hl 0 rfl) ?_
  refine x_g_this_hall hc hw fl_11_10 dX11_needs_1 ?_
  refine lv_iload_n hx hb dX11_needs_4 rfl (lv_at hl 1 rfl) ?_
  obtain ⟨v1, hcall, hf⟩ := bd1_some hf
  refine x_cvr (As := [.int a1]) (rest := []) hc hw hR (hml.trans hl.1.symm) (cx_H_rowAt l N S a1 v1 hcall) xq_11_H_rowAt (x_recv_hall hw) (by decide) rfl rfl rfl (Nat.le_of_ble_eq_true rfl) dX11_needs_5 (fun H locs hw => ?_) ⟨Nat.zero_le _, Nat.zero_le _⟩
  refine x_splitr (fun cn2 => ?_) (fun cn2 => ?_)
  · have hf := (if_pos cn2).symm.trans hf
    refine lv_astore_nN (lv' := [(2, .null), (0, .ref (xr g 0)), (1, .int a1)]) hx hb dX11_needs_8 rfl hl (by decide) rfl (fun ls hl => ?_)
    refine lv_aload_nN hx hb dX11_needs_9 rfl (lv_at hl 0 rfl) ?_
    refine lv_ifnonnullN hx hb dX11_needs_10 ?_
    refine lv_bipush (v := (-5)) hx hb dX11_needs_13 (by decide) ?_
    refine lv_goto (tgt := 27) hx hb dX11_needs_15 (by decide) ?_
    obtain ⟨rfl, rfl⟩ := pr2_some hf
    exact hQ _ _ _ _ dX11_needs_27 hw
  · have hf := (if_neg cn2).symm.trans hf
    refine lv_astore_n (lv' := [(2, .ref (xr g (100 + 2 * v1.toNatClampNeg))), (0, .ref (xr g 0)), (1, .int a1)]) hx hb dX11_needs_8 rfl hl (by decide) rfl (fun ls hl => ?_)
    refine lv_aload_n hx hb dX11_needs_9 rfl (lv_at hl 0 rfl) ?_
    refine lv_ifnonnull (tgt := 18) hx hb dX11_needs_10 (by decide) ?_
    refine lv_aload_n hx hb dX11_needs_18 rfl (lv_at hl 1 rfl) ?_
    refine x_g_this_hall hc hw fl_11_10 dX11_needs_19 ?_
    refine lv_aload_n hx hb dX11_needs_22 rfl (lv_at hl 0 rfl) ?_
    refine lv_iconst (v := 0) hx hb dX11_needs_23 (by decide) ?_
    obtain ⟨v3, S4, hcall, hf⟩ := bd2_some hf
    refine x_cvi (As := [.ref (xr g (100 + 2 * v1.toNatClampNeg)), .int 0]) (rest := []) hc hw hR (hml.trans hl.1.symm) (cx_H_leastFloor l N S v1 0 v3 S4 hcall) xq_11_H_leastFloor (x_recv_hall hw) (by decide) rfl rfl rfl (Nat.le_of_ble_eq_true rfl) dX11_needs_24 (fun H locs hw => ?_) ⟨Nat.zero_le _, Nat.zero_le _⟩
    obtain ⟨rfl, rfl⟩ := pr2_some hf
    exact hQ _ _ _ _ dX11_needs_27 hw
def xf_X_proof_L22 (N : Nat) (c4 : Int32) : Nat → xS → Int32 → Int32 → Option (Int32 × xS)
  | 0, _, _, _ => none
  | n + 1, S7, v5, v6 => (if c4 < v6 then some (v5, S7) else (if v5 = (-1) then some (v5, S7) else (if ok v6 6 then (if v6.toNatClampNeg < S7.2.2.1 then (bd2 (xf_H_leastFloor N S7 v6 v5) fun v10 S11 => (if v6.toNatClampNeg < S11.2.2.1 then xf_X_proof_L22 N c4 n (xs S11 57 v6.toNatClampNeg v10) v10 (v6 + 1) else none)) else none) else none)))
set_option maxRecDepth 100000 in
theorem wx_X_proof_L22 {p : Program} {l : Launch} {e : Env} {R : Room} {s : State} {m : MethodId} {args : Array Value} {below : List Frame} {meth : Method} {c : Code} {Q : State → Prop} {g : xG} {A : Nat → Prop} {H0 : Heap} (hc : qC RX11 cX11_proof p s m args c) (hR : qRoom R 7) (hml : c.maxLocals = 4) (N : Nat) (c4 : Int32) : ∀ (n : Nat) (S7 : xS) (v5 : Int32) (v6 : Int32) (X : Int32 × xS) (H : Heap) (locs : List Loc) (ls : Array Slot), xf_X_proof_L22 N c4 n S7 v5 v6 = some X → xI g A H0 s S7 H locs → lv_has ls 4 [(0, .ref (xr g 0)), (1, .int c4), (2, .int v5), (3, .int v6)] → (∀ (H : Heap) (locs : List Loc) (ls : Array Slot), xI g A H0 s X.2 H locs → lv_has ls 4 [(0, .ref (xr g 0)), (2, .int X.1)] → W p l e R s m args below meth c H locs 0 0 Q (F0 m 69 ls [])) → W p l e R s m args below meth c H locs 0 0 Q (F0 m 22 ls []) := by
  have hx := hc.1
  have hb := hc.2.1
  intro n
  induction n with
  | zero => intro _ _ _ X H locs ls hf; exact nomatch (show none = some X from hf)
  | succ n ih =>
    intro S7 v5 v6 X H locs ls hf hw hl kx
    rw [xf_X_proof_L22] at hf
    refine lv_iload_n hx hb dX11_proof_22 rfl (lv_at hl 3 rfl) ?_
    refine lv_iload_n hx hb dX11_proof_23 rfl (lv_at hl 1 rfl) ?_
    refine lv_icmp_gt (tgt := 69) hx hb dX11_proof_24 (by decide) (fun cn16 => ?_) (fun cn16 => ?_)
    · have hf := (if_pos cn16).symm.trans hf
      obtain rfl := Option.some.inj hf
      exact kx _ _ _ hw (lv_sub hl [0, 2] rfl)
    · have hf := (if_neg cn16).symm.trans hf
      refine lv_iload_n hx hb dX11_proof_27 rfl (lv_at hl 2 rfl) ?_
      refine lv_iconst (v := (-1)) hx hb dX11_proof_28 (by decide) ?_
      refine lv_icmp_eq (tgt := 69) hx hb dX11_proof_29 (by decide) (fun cn17 => ?_) (fun cn17 => ?_)
      · have hf := (if_pos cn17).symm.trans hf
        obtain rfl := Option.some.inj hf
        exact kx _ _ _ hw (lv_sub hl [0, 2] rfl)
      · have hf := (if_neg cn17).symm.trans hf
        refine lv_aload_n hx hb dX11_proof_32 rfl (lv_at hl 0 rfl) ?_
        refine x_g_this_hall hc hw fl_11_10 dX11_proof_33 ?_
        refine lv_aload_n hx hb dX11_proof_36 rfl (lv_at hl 0 rfl) ?_
        refine x_g_this_hall hc hw fl_11_10 dX11_proof_37 ?_
        refine x_g_hall_rows hc hw fl_11_116 dX11_proof_40 ?_
        refine lv_iload_n hx hb dX11_proof_43 rfl (lv_at hl 3 rfl) ?_
        obtain ⟨hi8, hf⟩ := gd_some hf
        obtain ⟨hr9, hf⟩ := gd_some hf
        refine x_l_rows hc hw (ok_in hi8) hr9 dX11_proof_44 ?_
        refine lv_iload_n hx hb dX11_proof_45 rfl (lv_at hl 2 rfl) ?_
        obtain ⟨v10, S11, hcall, hf⟩ := bd2_some hf
        refine x_cvi (As := [.ref (xr g (100 + 2 * v6.toNatClampNeg)), .int v5]) (rest := []) hc hw hR (hml.trans hl.1.symm) (cx_H_leastFloor l N S7 v6 v5 v10 S11 hcall) xq_11_H_leastFloor (x_recv_hall hw) (by decide) rfl rfl rfl (Nat.le_of_ble_eq_true rfl) dX11_proof_46 (fun H locs hw => ?_) ⟨Nat.zero_le _, Nat.zero_le _⟩
        refine lv_istore_n (lv' := [(2, .int v10), (0, .ref (xr g 0)), (1, .int c4), (3, .int v6)]) hx hb dX11_proof_49 rfl hl (by decide) rfl (fun ls hl => ?_)
        refine lv_aload_n hx hb dX11_proof_50 rfl (lv_at hl 1 rfl) ?_
        refine x_g_this_hall hc hw fl_11_10 dX11_proof_51 ?_
        refine x_g_hall_rows hc hw fl_11_116 dX11_proof_54 ?_
        refine lv_iload_n hx hb dX11_proof_57 rfl (lv_at hl 3 rfl) ?_
        obtain ⟨hr12, hf⟩ := gd_some hf
        refine x_l_rows hc hw (ok_in hi8) hr12 dX11_proof_58 ?_
        refine lv_iload_n hx hb dX11_proof_59 rfl (lv_at hl 0 rfl) ?_
        refine x_rp_rise hc hw hr12 fl_11_150 dX11_proof_60 (fun H locs hw => ?_)
        refine lv_iinc (lv' := [(3, .int (v6 + 1)), (2, .int v10), (0, .ref (xr g 0)), (1, .int c4)]) hx hb dX11_proof_63 hl (k := 3) rfl rfl (by decide) rfl (fun ls hl => ?_)
        refine lv_goto (tgt := 22) hx hb dX11_proof_66 (by decide) ?_
        exact ih _ _ _ X _ _ _ hf hw (lv_sub hl [2, 3, 1, 0] rfl) kx
def xf_X_proof (N : Nat) (S : xS) (a1 : Int32) : Option (Int32 × xS) := (bd1 (xf_H_rowAt N S a1) fun v1 => (if v1 < 0 then some ((-5), S) else (bd1 (xf_X_keepRises N S) fun S3 => (bd2 (xf_X_proof_L22 N a1 N S3 0 0) fun v13 S14 => (bd1 (xf_X_restoreRises N S14) fun S15 => some (v13, S15))))))
set_option maxRecDepth 100000 in
theorem cx_X_proof (l : Launch) (N : Nat) (S : xS) (a1 : Int32) (res : Int32) (S1 : xS) (hf : xf_X_proof N S a1 = some (res, S1)) : xMi l yX11_proof cX11_proof 4 .int 7 (fun g => [.ref (xr g 0), .int a1]) S res S1 := by
  refine xMi_of (own := RX11) (by decide) rfl rfl (fun g => Nat.le_of_ble_eq_true rfl) ?_
  intro p e R s m args below meth c Q g A H0 H locs ls hc hR hml hw hl hQ
  have hl : lv_has ls 4 [(0, .ref (xr g 0)), (1, .int a1)] := hl
  have hx := hc.1
  have hb := hc.2.1
  unfold xf_X_proof at hf
  refine lv_aload_n hx hb dX11_proof_0 rfl (lv_at hl 0 rfl) ?_
  refine x_g_this_hall hc hw fl_11_10 dX11_proof_1 ?_
  refine lv_iload_n hx hb dX11_proof_4 rfl (lv_at hl 1 rfl) ?_
  obtain ⟨v1, hcall, hf⟩ := bd1_some hf
  refine x_cvr (As := [.int a1]) (rest := []) hc hw hR (hml.trans hl.1.symm) (cx_H_rowAt l N S a1 v1 hcall) xq_11_H_rowAt (x_recv_hall hw) (by decide) rfl rfl rfl (Nat.le_of_ble_eq_true rfl) dX11_proof_5 (fun H locs hw => ?_) ⟨Nat.zero_le _, Nat.zero_le _⟩
  refine x_splitr (fun cn2 => ?_) (fun cn2 => ?_)
  · have hf := (if_pos cn2).symm.trans hf
    refine lv_ifnonnullN hx hb dX11_proof_8 ?_
    refine lv_bipush (v := (-5)) hx hb dX11_proof_11 (by decide) ?_
    obtain ⟨rfl, rfl⟩ := pr2_some hf
    exact hQ _ _ _ _ dX11_proof_13 hw
  · have hf := (if_neg cn2).symm.trans hf
    refine lv_ifnonnull (tgt := 14) hx hb dX11_proof_8 (by decide) ?_
    refine lv_aload_n hx hb dX11_proof_14 rfl (lv_at hl 0 rfl) ?_
    obtain ⟨S3, hcall, hf⟩ := bd1_some hf
    refine x_cvv (As := []) (rest := []) hc hw hR (hml.trans hl.1.symm) (cx_X_keepRises l N S S3 hcall) xq_11_X_keepRises (x_recv_this hw) (by decide) rfl rfl rfl (Nat.le_of_ble_eq_true rfl) dX11_proof_15 (fun H locs hw => ?_) ⟨Nat.zero_le _, Nat.zero_le _⟩
    refine lv_iconst (v := 0) hx hb dX11_proof_18 (by decide) ?_
    refine lv_istore_n (lv' := [(2, .int 0), (0, .ref (xr g 0)), (1, .int a1)]) hx hb dX11_proof_19 rfl hl (by decide) rfl (fun ls hl => ?_)
    refine lv_iconst (v := 0) hx hb dX11_proof_20 (by decide) ?_
    refine lv_istore_n (lv' := [(3, .int 0), (2, .int 0), (0, .ref (xr g 0)), (1, .int a1)]) hx hb dX11_proof_21 rfl hl (by decide) rfl (fun ls hl => ?_)
    obtain ⟨v13, S14, hL, hf⟩ := bd2_some hf
    refine wx_X_proof_L22 hc hR hml N a1 N _ _ _ _ _ _ _ hL hw (lv_sub hl [2, 3, 1, 0] rfl) (fun H locs ls hw hl => ?_)
    refine lv_aload_n hx hb dX11_proof_69 rfl (lv_at hl 0 rfl) ?_
    obtain ⟨S15, hcall, hf⟩ := bd1_some hf
    refine x_cvv (As := []) (rest := []) hc hw hR (hml.trans hl.1.symm) (cx_X_restoreRises l N S14 S15 hcall) xq_11_X_restoreRises (x_recv_this hw) (by decide) rfl rfl rfl (Nat.le_of_ble_eq_true rfl) dX11_proof_70 (fun H locs hw => ?_) ⟨Nat.zero_le _, Nat.zero_le _⟩
    refine lv_iload_n hx hb dX11_proof_73 rfl (lv_at hl 1 rfl) ?_
    obtain ⟨rfl, rfl⟩ := pr2_some hf
    exact hQ _ _ _ _ dX11_proof_74 hw
def xf_H_howManySee_L15 (N : Nat) (c5 : Int32) (c7 : Int32) : Nat → xS → Int32 → Int32 → Option (Int32 × xS)
  | 0, _, _, _ => none
  | n + 1, S9, v6, v8 => (if ok c7 6 then (if c7.toNatClampNeg < S9.2.2.1 then (if (S9.1 56 c7.toNatClampNeg) ≤ v8 then some (v6, S9) else (bd2 (xf_H_seenFrom N S9 c7 v8) fun v12 S13 => (if v12 = c5 then xf_H_howManySee_L15 N c5 c7 n S13 (v6 + 1) (v8 + 1) else xf_H_howManySee_L15 N c5 c7 n S13 v6 (v8 + 1)))) else none) else none)
set_option maxRecDepth 100000 in
theorem wx_H_howManySee_L15 {p : Program} {l : Launch} {e : Env} {R : Room} {s : State} {m : MethodId} {args : Array Value} {below : List Frame} {meth : Method} {c : Code} {Q : State → Prop} {g : xG} {A : Nat → Prop} {H0 : Heap} (hc : qC RX1 cX1_howManySee p s m args c) (hR : qRoom R 7) (hml : c.maxLocals = 5) (N : Nat) (c5 : Int32) (c7 : Int32) : ∀ (n : Nat) (S9 : xS) (v6 : Int32) (v8 : Int32) (X : Int32 × xS) (H : Heap) (locs : List Loc) (ls : Array Slot), xf_H_howManySee_L15 N c5 c7 n S9 v6 v8 = some X → xI g A H0 s S9 H locs → lv_has ls 5 [(0, .ref (xr g 1)), (1, .int c5), (2, .int v6), (3, .int c7), (4, .int v8)] → (∀ (H : Heap) (locs : List Loc) (ls : Array Slot), xI g A H0 s X.2 H locs → lv_has ls 5 [(0, .ref (xr g 1)), (1, .int c5), (2, .int X.1), (3, .int c7)] → W p l e R s m args below meth c H locs 0 0 Q (F0 m 54 ls [])) → W p l e R s m args below meth c H locs 0 0 Q (F0 m 15 ls []) := by
  have hx := hc.1
  have hb := hc.2.1
  intro n
  induction n with
  | zero => intro _ _ _ X H locs ls hf; exact nomatch (show none = some X from hf)
  | succ n ih =>
    intro S9 v6 v8 X H locs ls hf hw hl kx
    rw [xf_H_howManySee_L15] at hf
    refine lv_iload hx hb dX1_howManySee_15 (lv_at hl 4 rfl) ?_
    refine lv_aload_n hx hb dX1_howManySee_17 rfl (lv_at hl 0 rfl) ?_
    refine x_g_hall_rows hc hw fl_1_23 dX1_howManySee_18 ?_
    refine lv_iload_n hx hb dX1_howManySee_21 rfl (lv_at hl 3 rfl) ?_
    obtain ⟨hi10, hf⟩ := gd_some hf
    obtain ⟨hr11, hf⟩ := gd_some hf
    refine x_l_rows hc hw (ok_in hi10) hr11 dX1_howManySee_22 ?_
    refine x_rg_seats hc hw hr11 fl_1_86 dX1_howManySee_23 ?_
    refine lv_icmp_ge (tgt := 54) hx hb dX1_howManySee_26 (by decide) (fun cn19 => ?_) (fun cn19 => ?_)
    · have hf := (if_pos cn19).symm.trans hf
      obtain rfl := Option.some.inj hf
      exact kx _ _ _ hw (lv_sub hl [0, 1, 2, 3] rfl)
    · have hf := (if_neg cn19).symm.trans hf
      refine lv_aload_n hx hb dX1_howManySee_29 rfl (lv_at hl 0 rfl) ?_
      refine lv_aload_n hx hb dX1_howManySee_30 rfl (lv_at hl 0 rfl) ?_
      refine x_g_hall_rows hc hw fl_1_23 dX1_howManySee_31 ?_
      refine lv_iload_n hx hb dX1_howManySee_34 rfl (lv_at hl 3 rfl) ?_
      refine x_l_rows hc hw (ok_in hi10) hr11 dX1_howManySee_35 ?_
      refine lv_iload hx hb dX1_howManySee_36 (lv_at hl 4 rfl) ?_
      obtain ⟨v12, S13, hcall, hf⟩ := bd2_some hf
      refine x_cvi (As := [.ref (xr g (100 + 2 * c7.toNatClampNeg)), .int v8]) (rest := []) hc hw hR (hml.trans hl.1.symm) (cx_H_seenFrom l N S9 c7 v8 v12 S13 hcall) xq_1_H_seenFrom (x_recv_hall hw) (by decide) rfl rfl rfl (Nat.le_of_ble_eq_true rfl) dX1_howManySee_38 (fun H locs hw => ?_) ⟨Nat.zero_le _, Nat.zero_le _⟩
      refine lv_iload_n hx hb dX1_howManySee_41 rfl (lv_at hl 1 rfl) ?_
      refine lv_icmp_ne (tgt := 48) hx hb dX1_howManySee_42 (by decide) (fun cn20 => ?_) (fun cn20 => ?_)
      · have hf := (if_neg cn20).symm.trans hf
        refine lv_iinc (lv' := [(4, .int (v8 + 1)), (0, .ref (xr g 1)), (1, .int c5), (2, .int v6), (3, .int c7)]) hx hb dX1_howManySee_48 hl (k := 4) rfl rfl (by decide) rfl (fun ls hl => ?_)
        refine lv_goto (tgt := 15) hx hb dX1_howManySee_51 (by decide) ?_
        exact ih _ _ _ X _ _ _ hf hw (lv_sub hl [1, 2, 3, 4, 0] rfl) kx
      · have hf := (if_pos cn20).symm.trans hf
        refine lv_iinc (lv' := [(2, .int (v6 + 1)), (0, .ref (xr g 1)), (1, .int c5), (3, .int c7), (4, .int v8)]) hx hb dX1_howManySee_45 hl (k := 2) rfl rfl (by decide) rfl (fun ls hl => ?_)
        refine lv_iinc (lv' := [(4, .int (v8 + 1)), (2, .int (v6 + 1)), (0, .ref (xr g 1)), (1, .int c5), (3, .int c7)]) hx hb dX1_howManySee_48 hl (k := 4) rfl rfl (by decide) rfl (fun ls hl => ?_)
        refine lv_goto (tgt := 15) hx hb dX1_howManySee_51 (by decide) ?_
        exact ih _ _ _ X _ _ _ hf hw (lv_sub hl [2, 3, 1, 4, 0] rfl) kx
def xf_H_howManySee_L4 (N : Nat) (c1 : Int32) : Nat → xS → Int32 → Int32 → Option (Int32 × xS)
  | 0, _, _, _ => none
  | n + 1, S4, v2, v3 => (if (S4.1 16 0) ≤ v3 then some (v2, S4) else (bd2 (xf_H_howManySee_L15 N c1 v3 N S4 v2 0) fun v14 S15 => xf_H_howManySee_L4 N c1 n S15 v14 (v3 + 1)))
set_option maxRecDepth 100000 in
theorem wx_H_howManySee_L4 {p : Program} {l : Launch} {e : Env} {R : Room} {s : State} {m : MethodId} {args : Array Value} {below : List Frame} {meth : Method} {c : Code} {Q : State → Prop} {g : xG} {A : Nat → Prop} {H0 : Heap} (hc : qC RX1 cX1_howManySee p s m args c) (hR : qRoom R 7) (hml : c.maxLocals = 5) (N : Nat) (c1 : Int32) : ∀ (n : Nat) (S4 : xS) (v2 : Int32) (v3 : Int32) (X : Int32 × xS) (H : Heap) (locs : List Loc) (ls : Array Slot), xf_H_howManySee_L4 N c1 n S4 v2 v3 = some X → xI g A H0 s S4 H locs → lv_has ls 5 [(0, .ref (xr g 1)), (1, .int c1), (2, .int v2), (3, .int v3)] → (∀ (H : Heap) (locs : List Loc) (ls : Array Slot), xI g A H0 s X.2 H locs → lv_has ls 5 [(2, .int X.1)] → W p l e R s m args below meth c H locs 0 0 Q (F0 m 60 ls [])) → W p l e R s m args below meth c H locs 0 0 Q (F0 m 4 ls []) := by
  have hx := hc.1
  have hb := hc.2.1
  intro n
  induction n with
  | zero => intro _ _ _ X H locs ls hf; exact nomatch (show none = some X from hf)
  | succ n ih =>
    intro S4 v2 v3 X H locs ls hf hw hl kx
    rw [xf_H_howManySee_L4] at hf
    refine lv_iload_n hx hb dX1_howManySee_4 rfl (lv_at hl 3 rfl) ?_
    refine lv_aload_n hx hb dX1_howManySee_5 rfl (lv_at hl 0 rfl) ?_
    refine x_g_hall_rowCount hc hw fl_1_42 dX1_howManySee_6 ?_
    refine lv_icmp_ge (tgt := 60) hx hb dX1_howManySee_9 (by decide) (fun cn18 => ?_) (fun cn18 => ?_)
    · have hf := (if_pos cn18).symm.trans hf
      obtain rfl := Option.some.inj hf
      exact kx _ _ _ hw (lv_sub hl [2] rfl)
    · have hf := (if_neg cn18).symm.trans hf
      refine lv_iconst (v := 0) hx hb dX1_howManySee_12 (by decide) ?_
      refine lv_istore (lv' := [(4, .int 0), (0, .ref (xr g 1)), (1, .int c1), (2, .int v2), (3, .int v3)]) hx hb dX1_howManySee_13 hl (by decide) rfl (fun ls hl => ?_)
      obtain ⟨v14, S15, hL, hf⟩ := bd2_some hf
      refine wx_H_howManySee_L15 hc hR hml N c1 v3 N _ _ _ _ _ _ _ hL hw (lv_sub hl [1, 2, 3, 4, 0] rfl) (fun H locs ls hw hl => ?_)
      refine lv_iinc (lv' := [(3, .int (v3 + 1)), (0, .ref (xr g 1)), (1, .int c1), (2, .int v14)]) hx hb dX1_howManySee_54 hl (k := 3) rfl rfl (by decide) rfl (fun ls hl => ?_)
      refine lv_goto (tgt := 4) hx hb dX1_howManySee_57 (by decide) ?_
      exact ih _ _ _ X _ _ _ hf hw (lv_sub hl [1, 2, 3, 0] rfl) kx
def xf_H_howManySee (N : Nat) (S : xS) (a1 : Int32) : Option (Int32 × xS) := (bd2 (xf_H_howManySee_L4 N a1 N S 0 0) fun v16 S17 => some (v16, S17))
set_option maxRecDepth 100000 in
theorem cx_H_howManySee (l : Launch) (N : Nat) (S : xS) (a1 : Int32) (res : Int32) (S1 : xS) (hf : xf_H_howManySee N S a1 = some (res, S1)) : xMi l yX1_howManySee cX1_howManySee 5 .int 7 (fun g => [.ref (xr g 1), .int a1]) S res S1 := by
  refine xMi_of (own := RX1) (by decide) rfl rfl (fun g => Nat.le_of_ble_eq_true rfl) ?_
  intro p e R s m args below meth c Q g A H0 H locs ls hc hR hml hw hl hQ
  have hl : lv_has ls 5 [(0, .ref (xr g 1)), (1, .int a1)] := hl
  have hx := hc.1
  have hb := hc.2.1
  unfold xf_H_howManySee at hf
  refine lv_iconst (v := 0) hx hb dX1_howManySee_0 (by decide) ?_
  refine lv_istore_n (lv' := [(2, .int 0), (0, .ref (xr g 1)), (1, .int a1)]) hx hb dX1_howManySee_1 rfl hl (by decide) rfl (fun ls hl => ?_)
  refine lv_iconst (v := 0) hx hb dX1_howManySee_2 (by decide) ?_
  refine lv_istore_n (lv' := [(3, .int 0), (2, .int 0), (0, .ref (xr g 1)), (1, .int a1)]) hx hb dX1_howManySee_3 rfl hl (by decide) rfl (fun ls hl => ?_)
  obtain ⟨v16, S17, hL, hf⟩ := bd2_some hf
  refine wx_H_howManySee_L4 hc hR hml N a1 N _ _ _ _ _ _ _ hL hw (lv_sub hl [2, 3, 1, 0] rfl) (fun H locs ls hw hl => ?_)
  refine lv_iload_n hx hb dX1_howManySee_60 rfl (lv_at hl 0 rfl) ?_
  obtain ⟨rfl, rfl⟩ := pr2_some hf
  exact hQ _ _ _ _ dX1_howManySee_61 hw
def xf_H_firstThatMissesOne_L21 (N : Nat) (c4 : Int32) (c5 : Int32) : Nat → xS → Int32 → Option ((Int32 × xS) ⊕ (xS))
  | 0, _, _ => none
  | n + 1, S7, v6 => (if ok c5 6 then (if c5.toNatClampNeg < S7.2.2.1 then (if (S7.1 56 c5.toNatClampNeg) ≤ v6 then some (.inr S7) else (bd2 (xf_H_seenFrom N S7 c5 v6) fun v10 S11 => (if v10 = c4 then xf_H_firstThatMissesOne_L21 N c4 c5 n S11 (v6 + 1) else some (.inl (c5, S11))))) else none) else none)
set_option maxRecDepth 100000 in
theorem wx_H_firstThatMissesOne_L21 {p : Program} {l : Launch} {e : Env} {R : Room} {s : State} {m : MethodId} {args : Array Value} {below : List Frame} {meth : Method} {c : Code} {Q : State → Prop} {g : xG} {A : Nat → Prop} {H0 : Heap} (hc : qC RX1 cX1_firstThatMissesOne p s m args c) (hR : qRoom R 7) (hml : c.maxLocals = 4) (N : Nat) (c4 : Int32) (c5 : Int32) : ∀ (n : Nat) (S7 : xS) (v6 : Int32) (X : (Int32 × xS) ⊕ (xS)) (H : Heap) (locs : List Loc) (ls : Array Slot), xf_H_firstThatMissesOne_L21 N c4 c5 n S7 v6 = some X → xI g A H0 s S7 H locs → lv_has ls 4 [(0, .ref (xr g 1)), (1, .int c4), (2, .int c5), (3, .int v6)] → (∀ (S17 : xS), X = .inr S17 → ∀ (H : Heap) (locs : List Loc) (ls : Array Slot), xI g A H0 s S17 H locs → lv_has ls 4 [(0, .ref (xr g 1)), (1, .int c4), (2, .int c5)] → W p l e R s m args below meth c H locs 0 0 Q (F0 m 57 ls [])) → (∀ (r : Int32) (S9 : xS), X = .inl (r, S9) → xQi p l e R s m args below meth c cX1_firstThatMissesOne Q g A H0 r S9) → W p l e R s m args below meth c H locs 0 0 Q (F0 m 21 ls []) := by
  have hx := hc.1
  have hb := hc.2.1
  intro n
  induction n with
  | zero => intro _ _ X H locs ls hf; exact nomatch (show none = some X from hf)
  | succ n ih =>
    intro S7 v6 X H locs ls hf hw hl kx kr
    rw [xf_H_firstThatMissesOne_L21] at hf
    refine lv_iload_n hx hb dX1_firstThatMissesOne_21 rfl (lv_at hl 3 rfl) ?_
    refine lv_aload_n hx hb dX1_firstThatMissesOne_22 rfl (lv_at hl 0 rfl) ?_
    refine x_g_hall_rows hc hw fl_1_23 dX1_firstThatMissesOne_23 ?_
    refine lv_iload_n hx hb dX1_firstThatMissesOne_26 rfl (lv_at hl 2 rfl) ?_
    obtain ⟨hi8, hf⟩ := gd_some hf
    obtain ⟨hr9, hf⟩ := gd_some hf
    refine x_l_rows hc hw (ok_in hi8) hr9 dX1_firstThatMissesOne_27 ?_
    refine x_rg_seats hc hw hr9 fl_1_86 dX1_firstThatMissesOne_28 ?_
    refine lv_icmp_ge (tgt := 57) hx hb dX1_firstThatMissesOne_31 (by decide) (fun cn15 => ?_) (fun cn15 => ?_)
    · have hf := (if_pos cn15).symm.trans hf
      obtain rfl := Option.some.inj hf
      exact kx _ rfl _ _ _ hw (lv_sub hl [0, 1, 2] rfl)
    · have hf := (if_neg cn15).symm.trans hf
      refine lv_aload_n hx hb dX1_firstThatMissesOne_34 rfl (lv_at hl 0 rfl) ?_
      refine lv_aload_n hx hb dX1_firstThatMissesOne_35 rfl (lv_at hl 0 rfl) ?_
      refine x_g_hall_rows hc hw fl_1_23 dX1_firstThatMissesOne_36 ?_
      refine lv_iload_n hx hb dX1_firstThatMissesOne_39 rfl (lv_at hl 2 rfl) ?_
      refine x_l_rows hc hw (ok_in hi8) hr9 dX1_firstThatMissesOne_40 ?_
      refine lv_iload_n hx hb dX1_firstThatMissesOne_41 rfl (lv_at hl 3 rfl) ?_
      obtain ⟨v10, S11, hcall, hf⟩ := bd2_some hf
      refine x_cvi (As := [.ref (xr g (100 + 2 * c5.toNatClampNeg)), .int v6]) (rest := []) hc hw hR (hml.trans hl.1.symm) (cx_H_seenFrom l N S7 c5 v6 v10 S11 hcall) xq_1_H_seenFrom (x_recv_hall hw) (by decide) rfl rfl rfl (Nat.le_of_ble_eq_true rfl) dX1_firstThatMissesOne_42 (fun H locs hw => ?_) ⟨Nat.zero_le _, Nat.zero_le _⟩
      refine lv_iload_n hx hb dX1_firstThatMissesOne_45 rfl (lv_at hl 1 rfl) ?_
      refine lv_icmp_eq (tgt := 51) hx hb dX1_firstThatMissesOne_46 (by decide) (fun cn16 => ?_) (fun cn16 => ?_)
      · have hf := (if_pos cn16).symm.trans hf
        refine lv_iinc (lv' := [(3, .int (v6 + 1)), (0, .ref (xr g 1)), (1, .int c4), (2, .int c5)]) hx hb dX1_firstThatMissesOne_51 hl (k := 3) rfl rfl (by decide) rfl (fun ls hl => ?_)
        refine lv_goto (tgt := 21) hx hb dX1_firstThatMissesOne_54 (by decide) ?_
        exact ih _ _ X _ _ _ hf hw (lv_sub hl [1, 2, 3, 0] rfl) kx kr
      · have hf := (if_neg cn16).symm.trans hf
        refine lv_iload_n hx hb dX1_firstThatMissesOne_49 rfl (lv_at hl 2 rfl) ?_
        obtain rfl := Option.some.inj hf
        exact kr _ _  rfl _ _ _ _ dX1_firstThatMissesOne_50 hw
def xf_H_firstThatMissesOne_L11 (N : Nat) (c1 : Int32) : Nat → xS → Int32 → Option ((Int32 × xS) ⊕ (xS))
  | 0, _, _ => none
  | n + 1, S3, v2 => (if (S3.1 16 0) ≤ v2 then some (.inr S3) else (br1 (xf_H_firstThatMissesOne_L21 N c1 v2 N S3 0) (fun q => Option.some (Sum.inl q)) fun S12 => xf_H_firstThatMissesOne_L11 N c1 n S12 (v2 + 1)))
set_option maxRecDepth 100000 in
theorem wx_H_firstThatMissesOne_L11 {p : Program} {l : Launch} {e : Env} {R : Room} {s : State} {m : MethodId} {args : Array Value} {below : List Frame} {meth : Method} {c : Code} {Q : State → Prop} {g : xG} {A : Nat → Prop} {H0 : Heap} (hc : qC RX1 cX1_firstThatMissesOne p s m args c) (hR : qRoom R 7) (hml : c.maxLocals = 4) (N : Nat) (c1 : Int32) : ∀ (n : Nat) (S3 : xS) (v2 : Int32) (X : (Int32 × xS) ⊕ (xS)) (H : Heap) (locs : List Loc) (ls : Array Slot), xf_H_firstThatMissesOne_L11 N c1 n S3 v2 = some X → xI g A H0 s S3 H locs → lv_has ls 4 [(0, .ref (xr g 1)), (1, .int c1), (2, .int v2)] → (∀ (S18 : xS), X = .inr S18 → ∀ (H : Heap) (locs : List Loc) (ls : Array Slot), xI g A H0 s S18 H locs → lv_has ls 4 [] → W p l e R s m args below meth c H locs 0 0 Q (F0 m 63 ls [])) → (∀ (r : Int32) (S9 : xS), X = .inl (r, S9) → xQi p l e R s m args below meth c cX1_firstThatMissesOne Q g A H0 r S9) → W p l e R s m args below meth c H locs 0 0 Q (F0 m 11 ls []) := by
  have hx := hc.1
  have hb := hc.2.1
  intro n
  induction n with
  | zero => intro _ _ X H locs ls hf; exact nomatch (show none = some X from hf)
  | succ n ih =>
    intro S3 v2 X H locs ls hf hw hl kx kr
    rw [xf_H_firstThatMissesOne_L11] at hf
    refine lv_iload_n hx hb dX1_firstThatMissesOne_11 rfl (lv_at hl 2 rfl) ?_
    refine lv_aload_n hx hb dX1_firstThatMissesOne_12 rfl (lv_at hl 0 rfl) ?_
    refine x_g_hall_rowCount hc hw fl_1_42 dX1_firstThatMissesOne_13 ?_
    refine lv_icmp_ge (tgt := 63) hx hb dX1_firstThatMissesOne_16 (by decide) (fun cn14 => ?_) (fun cn14 => ?_)
    · have hf := (if_pos cn14).symm.trans hf
      obtain rfl := Option.some.inj hf
      exact kx _ rfl _ _ _ hw (lv_sub hl [] rfl)
    · have hf := (if_neg cn14).symm.trans hf
      refine lv_iconst (v := 0) hx hb dX1_firstThatMissesOne_19 (by decide) ?_
      refine lv_istore_n (lv' := [(3, .int 0), (0, .ref (xr g 1)), (1, .int c1), (2, .int v2)]) hx hb dX1_firstThatMissesOne_20 rfl hl (by decide) rfl (fun ls hl => ?_)
      rcases br1_some hf with ⟨q, hL, hf⟩ | ⟨S12, hL, hf⟩
      · refine wx_H_firstThatMissesOne_L21 hc hR hml N c1 v2 N _ _ _ _ _ _ hL hw (lv_sub hl [1, 2, 3, 0] rfl) (fun _  h => nomatch h) ?_
        obtain rfl := Option.some.inj hf
        intro z0 z1 h; cases h; exact kr _ _  rfl
      · refine wx_H_firstThatMissesOne_L21 hc hR hml N c1 v2 N _ _ _ _ _ _ hL hw (lv_sub hl [1, 2, 3, 0] rfl) (fun y0 hi => ?_) (fun _ _  h => nomatch h)
        cases hi
        intro H locs ls hw hl
        refine lv_iinc (lv' := [(2, .int (v2 + 1)), (0, .ref (xr g 1)), (1, .int c1)]) hx hb dX1_firstThatMissesOne_57 hl (k := 2) rfl rfl (by decide) rfl (fun ls hl => ?_)
        refine lv_goto (tgt := 11) hx hb dX1_firstThatMissesOne_60 (by decide) ?_
        exact ih _ _ X _ _ _ hf hw (lv_sub hl [1, 2, 0] rfl) kx kr
def xf_H_firstThatMissesOne (N : Nat) (S : xS) : Option (Int32 × xS) := (br1 (xf_H_firstThatMissesOne_L11 N (((1 : Int32) <<< ((S.1 17 0) &&& 31)) - 1) N S 0) (Option.some) fun S13 => some ((-1), S13))
set_option maxRecDepth 100000 in
theorem cx_H_firstThatMissesOne (l : Launch) (N : Nat) (S : xS) (res : Int32) (S1 : xS) (hf : xf_H_firstThatMissesOne N S = some (res, S1)) : xMi l yX1_firstThatMissesOne cX1_firstThatMissesOne 4 .int 7 (fun g => [.ref (xr g 1)]) S res S1 := by
  refine xMi_of (own := RX1) (by decide) rfl rfl (fun g => Nat.le_of_ble_eq_true rfl) ?_
  intro p e R s m args below meth c Q g A H0 H locs ls hc hR hml hw hl hQ
  have hl : lv_has ls 4 [(0, .ref (xr g 1))] := hl
  have hx := hc.1
  have hb := hc.2.1
  unfold xf_H_firstThatMissesOne at hf
  refine lv_iconst (v := 1) hx hb dX1_firstThatMissesOne_0 (by decide) ?_
  refine lv_aload_n hx hb dX1_firstThatMissesOne_1 rfl (lv_at hl 0 rfl) ?_
  refine x_g_hall_pointCount hc hw fl_1_46 dX1_firstThatMissesOne_2 ?_
  refine lv_ishl hx hb dX1_firstThatMissesOne_5 ?_
  refine lv_iconst (v := 1) hx hb dX1_firstThatMissesOne_6 (by decide) ?_
  refine lv_isub hx hb dX1_firstThatMissesOne_7 ?_
  refine lv_istore_n (lv' := [(1, .int (((1 : Int32) <<< ((S.1 17 0) &&& 31)) - 1)), (0, .ref (xr g 1))]) hx hb dX1_firstThatMissesOne_8 rfl hl (by decide) rfl (fun ls hl => ?_)
  refine lv_iconst (v := 0) hx hb dX1_firstThatMissesOne_9 (by decide) ?_
  refine lv_istore_n (lv' := [(2, .int 0), (1, .int (((1 : Int32) <<< ((S.1 17 0) &&& 31)) - 1)), (0, .ref (xr g 1))]) hx hb dX1_firstThatMissesOne_10 rfl hl (by decide) rfl (fun ls hl => ?_)
  rcases br1_some hf with ⟨q, hL, hf⟩ | ⟨S13, hL, hf⟩
  · refine wx_H_firstThatMissesOne_L11 hc hR hml N (((1 : Int32) <<< ((S.1 17 0) &&& 31)) - 1) N _ _ _ _ _ _ hL hw (lv_sub hl [2, 1, 0] rfl) (fun _  h => nomatch h) ?_
    obtain rfl := Option.some.inj hf
    intro z0 z1 h; cases h; exact hQ
  · refine wx_H_firstThatMissesOne_L11 hc hR hml N (((1 : Int32) <<< ((S.1 17 0) &&& 31)) - 1) N _ _ _ _ _ _ hL hw (lv_sub hl [2, 1, 0] rfl) (fun y0 hi => ?_) (fun _ _  h => nomatch h)
    cases hi
    intro H locs ls hw hl
    refine lv_iconst (v := (-1)) hx hb dX1_firstThatMissesOne_63 (by decide) ?_
    obtain ⟨rfl, rfl⟩ := pr2_some hf
    exact hQ _ _ _ _ dX1_firstThatMissesOne_64 hw
def xf_H_allWorth_L14 (N : Nat) (c5 : Int32) : Nat → xS → Int32 → Int32 → Option (Int32 × xS)
  | 0, _, _, _ => none
  | n + 1, S7, v4, v6 => (if ok c5 6 then (if c5.toNatClampNeg < S7.2.2.1 then (if (S7.1 56 c5.toNatClampNeg) ≤ v6 then some (v4, S7) else (bd2 (xf_H_worthOf N S7 c5 v6) fun v10 S11 => xf_H_allWorth_L14 N c5 n S11 (v4 + v10) (v6 + 1))) else none) else none)
set_option maxRecDepth 100000 in
theorem wx_H_allWorth_L14 {p : Program} {l : Launch} {e : Env} {R : Room} {s : State} {m : MethodId} {args : Array Value} {below : List Frame} {meth : Method} {c : Code} {Q : State → Prop} {g : xG} {A : Nat → Prop} {H0 : Heap} (hc : qC RX1 cX1_allWorth p s m args c) (hR : qRoom R 7) (hml : c.maxLocals = 4) (N : Nat) (c5 : Int32) : ∀ (n : Nat) (S7 : xS) (v4 : Int32) (v6 : Int32) (X : Int32 × xS) (H : Heap) (locs : List Loc) (ls : Array Slot), xf_H_allWorth_L14 N c5 n S7 v4 v6 = some X → xI g A H0 s S7 H locs → lv_has ls 4 [(0, .ref (xr g 1)), (1, .int v4), (2, .int c5), (3, .int v6)] → (∀ (H : Heap) (locs : List Loc) (ls : Array Slot), xI g A H0 s X.2 H locs → lv_has ls 4 [(0, .ref (xr g 1)), (1, .int X.1), (2, .int c5)] → W p l e R s m args below meth c H locs 0 0 Q (F0 m 47 ls [])) → W p l e R s m args below meth c H locs 0 0 Q (F0 m 14 ls []) := by
  have hx := hc.1
  have hb := hc.2.1
  intro n
  induction n with
  | zero => intro _ _ _ X H locs ls hf; exact nomatch (show none = some X from hf)
  | succ n ih =>
    intro S7 v4 v6 X H locs ls hf hw hl kx
    rw [xf_H_allWorth_L14] at hf
    refine lv_iload_n hx hb dX1_allWorth_14 rfl (lv_at hl 3 rfl) ?_
    refine lv_aload_n hx hb dX1_allWorth_15 rfl (lv_at hl 0 rfl) ?_
    refine x_g_hall_rows hc hw fl_1_23 dX1_allWorth_16 ?_
    refine lv_iload_n hx hb dX1_allWorth_19 rfl (lv_at hl 2 rfl) ?_
    obtain ⟨hi8, hf⟩ := gd_some hf
    obtain ⟨hr9, hf⟩ := gd_some hf
    refine x_l_rows hc hw (ok_in hi8) hr9 dX1_allWorth_20 ?_
    refine x_rg_seats hc hw hr9 fl_1_86 dX1_allWorth_21 ?_
    refine lv_icmp_ge (tgt := 47) hx hb dX1_allWorth_24 (by decide) (fun cn17 => ?_) (fun cn17 => ?_)
    · have hf := (if_pos cn17).symm.trans hf
      obtain rfl := Option.some.inj hf
      exact kx _ _ _ hw (lv_sub hl [0, 1, 2] rfl)
    · have hf := (if_neg cn17).symm.trans hf
      refine lv_iload_n hx hb dX1_allWorth_27 rfl (lv_at hl 1 rfl) ?_
      refine lv_aload_n hx hb dX1_allWorth_28 rfl (lv_at hl 0 rfl) ?_
      refine lv_aload_n hx hb dX1_allWorth_29 rfl (lv_at hl 0 rfl) ?_
      refine x_g_hall_rows hc hw fl_1_23 dX1_allWorth_30 ?_
      refine lv_iload_n hx hb dX1_allWorth_33 rfl (lv_at hl 2 rfl) ?_
      refine x_l_rows hc hw (ok_in hi8) hr9 dX1_allWorth_34 ?_
      refine lv_iload_n hx hb dX1_allWorth_35 rfl (lv_at hl 3 rfl) ?_
      obtain ⟨v10, S11, hcall, hf⟩ := bd2_some hf
      refine x_cvi (As := [.ref (xr g (100 + 2 * c5.toNatClampNeg)), .int v6]) (rest := [.int v4]) hc hw hR (hml.trans hl.1.symm) (cx_H_worthOf l N S7 c5 v6 v10 S11 hcall) xq_1_H_worthOf (x_recv_hall hw) (by decide) rfl rfl rfl (Nat.le_of_ble_eq_true rfl) dX1_allWorth_36 (fun H locs hw => ?_) ⟨Nat.zero_le _, Nat.zero_le _⟩
      refine lv_iadd hx hb dX1_allWorth_39 ?_
      refine lv_istore_n (lv' := [(1, .int (v4 + v10)), (0, .ref (xr g 1)), (2, .int c5), (3, .int v6)]) hx hb dX1_allWorth_40 rfl hl (by decide) rfl (fun ls hl => ?_)
      refine lv_iinc (lv' := [(3, .int (v6 + 1)), (1, .int (v4 + v10)), (0, .ref (xr g 1)), (2, .int c5)]) hx hb dX1_allWorth_41 hl (k := 3) rfl rfl (by decide) rfl (fun ls hl => ?_)
      refine lv_goto (tgt := 14) hx hb dX1_allWorth_44 (by decide) ?_
      exact ih _ _ _ X _ _ _ hf hw (lv_sub hl [2, 1, 3, 0] rfl) kx
def xf_H_allWorth_L4 (N : Nat) : Nat → xS → Int32 → Int32 → Option (Int32 × xS)
  | 0, _, _, _ => none
  | n + 1, S3, v1, v2 => (if (S3.1 16 0) ≤ v2 then some (v1, S3) else (bd2 (xf_H_allWorth_L14 N v2 N S3 v1 0) fun v12 S13 => xf_H_allWorth_L4 N n S13 v12 (v2 + 1)))
set_option maxRecDepth 100000 in
theorem wx_H_allWorth_L4 {p : Program} {l : Launch} {e : Env} {R : Room} {s : State} {m : MethodId} {args : Array Value} {below : List Frame} {meth : Method} {c : Code} {Q : State → Prop} {g : xG} {A : Nat → Prop} {H0 : Heap} (hc : qC RX1 cX1_allWorth p s m args c) (hR : qRoom R 7) (hml : c.maxLocals = 4) (N : Nat) : ∀ (n : Nat) (S3 : xS) (v1 : Int32) (v2 : Int32) (X : Int32 × xS) (H : Heap) (locs : List Loc) (ls : Array Slot), xf_H_allWorth_L4 N n S3 v1 v2 = some X → xI g A H0 s S3 H locs → lv_has ls 4 [(0, .ref (xr g 1)), (1, .int v1), (2, .int v2)] → (∀ (H : Heap) (locs : List Loc) (ls : Array Slot), xI g A H0 s X.2 H locs → lv_has ls 4 [(1, .int X.1)] → W p l e R s m args below meth c H locs 0 0 Q (F0 m 53 ls [])) → W p l e R s m args below meth c H locs 0 0 Q (F0 m 4 ls []) := by
  have hx := hc.1
  have hb := hc.2.1
  intro n
  induction n with
  | zero => intro _ _ _ X H locs ls hf; exact nomatch (show none = some X from hf)
  | succ n ih =>
    intro S3 v1 v2 X H locs ls hf hw hl kx
    rw [xf_H_allWorth_L4] at hf
    refine lv_iload_n hx hb dX1_allWorth_4 rfl (lv_at hl 2 rfl) ?_
    refine lv_aload_n hx hb dX1_allWorth_5 rfl (lv_at hl 0 rfl) ?_
    refine x_g_hall_rowCount hc hw fl_1_42 dX1_allWorth_6 ?_
    refine lv_icmp_ge (tgt := 53) hx hb dX1_allWorth_9 (by decide) (fun cn16 => ?_) (fun cn16 => ?_)
    · have hf := (if_pos cn16).symm.trans hf
      obtain rfl := Option.some.inj hf
      exact kx _ _ _ hw (lv_sub hl [1] rfl)
    · have hf := (if_neg cn16).symm.trans hf
      refine lv_iconst (v := 0) hx hb dX1_allWorth_12 (by decide) ?_
      refine lv_istore_n (lv' := [(3, .int 0), (0, .ref (xr g 1)), (1, .int v1), (2, .int v2)]) hx hb dX1_allWorth_13 rfl hl (by decide) rfl (fun ls hl => ?_)
      obtain ⟨v12, S13, hL, hf⟩ := bd2_some hf
      refine wx_H_allWorth_L14 hc hR hml N v2 N _ _ _ _ _ _ _ hL hw (lv_sub hl [1, 2, 3, 0] rfl) (fun H locs ls hw hl => ?_)
      refine lv_iinc (lv' := [(2, .int (v2 + 1)), (0, .ref (xr g 1)), (1, .int v12)]) hx hb dX1_allWorth_47 hl (k := 2) rfl rfl (by decide) rfl (fun ls hl => ?_)
      refine lv_goto (tgt := 4) hx hb dX1_allWorth_50 (by decide) ?_
      exact ih _ _ _ X _ _ _ hf hw (lv_sub hl [1, 2, 0] rfl) kx
def xf_H_allWorth (N : Nat) (S : xS) : Option (Int32 × xS) := (bd2 (xf_H_allWorth_L4 N N S 0 0) fun v14 S15 => some (v14, S15))
set_option maxRecDepth 100000 in
theorem cx_H_allWorth (l : Launch) (N : Nat) (S : xS) (res : Int32) (S1 : xS) (hf : xf_H_allWorth N S = some (res, S1)) : xMi l yX1_allWorth cX1_allWorth 4 .int 7 (fun g => [.ref (xr g 1)]) S res S1 := by
  refine xMi_of (own := RX1) (by decide) rfl rfl (fun g => Nat.le_of_ble_eq_true rfl) ?_
  intro p e R s m args below meth c Q g A H0 H locs ls hc hR hml hw hl hQ
  have hl : lv_has ls 4 [(0, .ref (xr g 1))] := hl
  have hx := hc.1
  have hb := hc.2.1
  unfold xf_H_allWorth at hf
  refine lv_iconst (v := 0) hx hb dX1_allWorth_0 (by decide) ?_
  refine lv_istore_n (lv' := [(1, .int 0), (0, .ref (xr g 1))]) hx hb dX1_allWorth_1 rfl hl (by decide) rfl (fun ls hl => ?_)
  refine lv_iconst (v := 0) hx hb dX1_allWorth_2 (by decide) ?_
  refine lv_istore_n (lv' := [(2, .int 0), (1, .int 0), (0, .ref (xr g 1))]) hx hb dX1_allWorth_3 rfl hl (by decide) rfl (fun ls hl => ?_)
  obtain ⟨v14, S15, hL, hf⟩ := bd2_some hf
  refine wx_H_allWorth_L4 hc hR hml N N _ _ _ _ _ _ _ hL hw (lv_sub hl [2, 1, 0] rfl) (fun H locs ls hw hl => ?_)
  refine lv_iload_n hx hb dX1_allWorth_53 rfl (lv_at hl 0 rfl) ?_
  obtain ⟨rfl, rfl⟩ := pr2_some hf
  exact hQ _ _ _ _ dX1_allWorth_54 hw
def xf_H_priceOf (N : Nat) (S : xS) (a1 : Int32) (a2 : Int32) : Option (Int32 × xS) := (bd2 (xf_H_worthOf N S a1 a2) fun v1 S2 => (bd1 (xf_H_nameSeat N S2 a1 a2) fun S3 => (bd2 (xf_H_byLaw N (xs (xs S3 25 (0 : Int32).toNatClampNeg v1) 25 (1 : Int32).toNatClampNeg 0) 1 999) fun v4 S5 => some (v4, S5))))
set_option maxRecDepth 100000 in
theorem cx_H_priceOf (l : Launch) (N : Nat) (S : xS) (a1 : Int32) (a2 : Int32) (res : Int32) (S1 : xS) (hf : xf_H_priceOf N S a1 a2 = some (res, S1)) : xMi l yX1_priceOf cX1_priceOf 4 .int 7 (fun g => [.ref (xr g 1), .ref (xr g (100 + 2 * a1.toNatClampNeg)), .int a2]) S res S1 := by
  refine xMi_of (own := RX1) (by decide) rfl rfl (fun g => Nat.le_of_ble_eq_true rfl) ?_
  intro p e R s m args below meth c Q g A H0 H locs ls hc hR hml hw hl hQ
  have hl : lv_has ls 4 [(0, .ref (xr g 1)), (1, .ref (xr g (100 + 2 * a1.toNatClampNeg))), (2, .int a2)] := hl
  have hx := hc.1
  have hb := hc.2.1
  unfold xf_H_priceOf at hf
  refine lv_aload_n hx hb dX1_priceOf_0 rfl (lv_at hl 0 rfl) ?_
  refine lv_aload_n hx hb dX1_priceOf_1 rfl (lv_at hl 1 rfl) ?_
  refine lv_iload_n hx hb dX1_priceOf_2 rfl (lv_at hl 2 rfl) ?_
  obtain ⟨v1, S2, hcall, hf⟩ := bd2_some hf
  refine x_cvi (As := [.ref (xr g (100 + 2 * a1.toNatClampNeg)), .int a2]) (rest := []) hc hw hR (hml.trans hl.1.symm) (cx_H_worthOf l N S a1 a2 v1 S2 hcall) xq_1_H_worthOf (x_recv_hall hw) (by decide) rfl rfl rfl (Nat.le_of_ble_eq_true rfl) dX1_priceOf_3 (fun H locs hw => ?_) ⟨Nat.zero_le _, Nat.zero_le _⟩
  refine lv_istore_n (lv' := [(3, .int v1), (0, .ref (xr g 1)), (1, .ref (xr g (100 + 2 * a1.toNatClampNeg))), (2, .int a2)]) hx hb dX1_priceOf_6 rfl hl (by decide) rfl (fun ls hl => ?_)
  refine lv_aload_n hx hb dX1_priceOf_7 rfl (lv_at hl 1 rfl) ?_
  refine lv_aload_n hx hb dX1_priceOf_8 rfl (lv_at hl 2 rfl) ?_
  refine lv_iload_n hx hb dX1_priceOf_9 rfl (lv_at hl 3 rfl) ?_
  obtain ⟨S3, hcall, hf⟩ := bd1_some hf
  refine x_cvv (As := [.ref (xr g (100 + 2 * a1.toNatClampNeg)), .int a2]) (rest := []) hc hw hR (hml.trans hl.1.symm) (cx_H_nameSeat l N S2 a1 a2 S3 hcall) xq_1_H_nameSeat (x_recv_hall hw) (by decide) rfl rfl rfl (Nat.le_of_ble_eq_true rfl) dX1_priceOf_10 (fun H locs hw => ?_) ⟨Nat.zero_le _, Nat.zero_le _⟩
  refine lv_aload_n hx hb dX1_priceOf_13 rfl (lv_at hl 1 rfl) ?_
  refine x_g_hall_names hc hw fl_1_79 dX1_priceOf_14 ?_
  refine lv_iconst (v := 0) hx hb dX1_priceOf_17 (by decide) ?_
  refine lv_iload_n hx hb dX1_priceOf_18 rfl (lv_at hl 0 rfl) ?_
  refine x_s_hall_names hc hw (ok_in (by decide)) dX1_priceOf_19 (fun H locs hw => ?_)
  refine lv_aload_n hx hb dX1_priceOf_20 rfl (lv_at hl 1 rfl) ?_
  refine x_g_hall_names hc hw fl_1_79 dX1_priceOf_21 ?_
  refine lv_iconst (v := 1) hx hb dX1_priceOf_24 (by decide) ?_
  refine lv_iconst (v := 0) hx hb dX1_priceOf_25 (by decide) ?_
  refine x_s_hall_names hc hw (ok_in (by decide)) dX1_priceOf_26 (fun H locs hw => ?_)
  refine lv_aload_n hx hb dX1_priceOf_27 rfl (lv_at hl 1 rfl) ?_
  refine lv_iconst (v := 1) hx hb dX1_priceOf_28 (by decide) ?_
  refine lv_sipush (v := 999) hx hb dX1_priceOf_29 (by decide) ?_
  obtain ⟨v4, S5, hcall, hf⟩ := bd2_some hf
  refine x_cvi (As := [.int 1, .int 999]) (rest := []) hc hw hR (hml.trans hl.1.symm) (cx_H_byLaw l N (xs (xs S3 25 (0 : Int32).toNatClampNeg v1) 25 (1 : Int32).toNatClampNeg 0) 1 999 v4 S5 hcall) xq_1_H_byLaw (x_recv_hall hw) (by decide) rfl rfl rfl (Nat.le_of_ble_eq_true rfl) dX1_priceOf_32 (fun H locs hw => ?_) ⟨Nat.zero_le _, Nat.zero_le _⟩
  obtain ⟨rfl, rfl⟩ := pr2_some hf
  exact hQ _ _ _ _ dX1_priceOf_35 hw
