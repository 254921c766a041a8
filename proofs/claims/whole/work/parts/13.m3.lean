def mf_cases_L54 (N : Nat) (c14 : Int32) (c15 : Int32) (c16 : Int32) (c17 : Int32) (c18 : Int32) : Nat → mS → Int32 → Int32 → Option (Int32)
  | 0, _, _, _ => none
  | n + 1, S21, v19, v20 => (if 4 ≤ v20 then some v19 else (if ok v20 4 then (bd1 (mf_above N S21 c17 (S21.1 1 v20.toNatClampNeg)) fun v23 => (bd1 (mf_farOf N S21 c17) fun v24 => (bd1 (mf_isAsHigh N S21 c14 c15 c16 v23 v24) fun v25 => mf_cases_L54 N c14 c15 c16 c17 c18 n S21 (v19 + (if v25 = true then 0 else S21.1 2 v20.toNatClampNeg)) (v20 + 1)))) else none))
set_option maxRecDepth 100000 in
theorem wm_cases_L54 {p : Program} {l : Launch} {e : Env} {R : Room} {s : State} {m : MethodId} {args : Array Value} {below : List Frame} {meth : Method} {c : Code} {Q : State → Prop} {g : mG} {A : Nat → Prop} {H0 : Heap} (hc : qC RX12 cX12_cases p s m args c) (hR : qRoom R 5) (hml : c.maxLocals = 8) (N : Nat) (c14 : Int32) (c15 : Int32) (c16 : Int32) (c17 : Int32) (c18 : Int32) : ∀ (n : Nat) (S21 : mS) (v19 : Int32) (v20 : Int32) (X : Int32) (H : Heap) (locs : List Loc) (ls : Array Slot), mf_cases_L54 N c14 c15 c16 c17 c18 n S21 v19 v20 = some X → mI g A H0 s S21 H locs → lv_has ls 8 [(0, .ref (mr g 0)), (1, .int c14), (2, .int c15), (3, .int c16), (4, .int c17), (5, .int c18), (6, .int v19), (7, .int v20)] → (∀ (H : Heap) (locs : List Loc) (ls : Array Slot), mI g A H0 s S21 H locs → lv_has ls 8 [(0, .ref (mr g 0)), (1, .int c14), (2, .int c15), (3, .int c16), (4, .int c17), (5, .int c18), (6, .int X)] → W p l e R s m args below meth c H locs 0 0 Q (F0 m 111 ls [])) → W p l e R s m args below meth c H locs 0 0 Q (F0 m 54 ls []) := by
  have hx := hc.1
  have hb := hc.2.1
  intro n
  induction n with
  | zero => intro _ _ _ X H locs ls hf; exact nomatch (show none = some X from hf)
  | succ n ih =>
    intro S21 v19 v20 X H locs ls hf hw hl kx
    rw [mf_cases_L54] at hf
    refine lv_iload hx hb dX12_cases_54 (lv_at hl 7 rfl) ?_
    refine lv_iconst (v := 4) hx hb dX12_cases_56 (by decide) ?_
    refine lv_icmp_ge (tgt := 111) hx hb dX12_cases_57 (by decide) (fun cn34 => ?_) (fun cn34 => ?_)
    · have hf := (if_pos cn34).symm.trans hf
      cases hf
      exact kx _ _ _ hw (lv_sub hl [0, 1, 2, 3, 4, 5, 6] rfl)
    · have hf := (if_neg cn34).symm.trans hf
      refine lv_iload hx hb dX12_cases_60 (lv_at hl 6 rfl) ?_
      refine lv_aload_n hx hb dX12_cases_62 rfl (lv_at hl 0 rfl) ?_
      refine lv_iload_n hx hb dX12_cases_63 rfl (lv_at hl 1 rfl) ?_
      refine lv_iload_n hx hb dX12_cases_64 rfl (lv_at hl 2 rfl) ?_
      refine lv_iload_n hx hb dX12_cases_65 rfl (lv_at hl 3 rfl) ?_
      refine lv_aload_n hx hb dX12_cases_66 rfl (lv_at hl 0 rfl) ?_
      refine lv_iload hx hb dX12_cases_67 (lv_at hl 4 rfl) ?_
      refine lv_aload_n hx hb dX12_cases_69 rfl (lv_at hl 0 rfl) ?_
      refine m_g1 hc hw dX12_cases_70 ?_
      refine lv_iload hx hb dX12_cases_73 (lv_at hl 7 rfl) ?_
      obtain ⟨hi22, hf⟩ := gd_some hf
      have hi22 := ok_in hi22
      refine m_l1 hc hw hi22 dX12_cases_75 ?_
      obtain ⟨v23, hcall, hf⟩ := bd1_some hf
      refine m_cvi (As := [.int c17, .int (S21.1 1 v20.toNatClampNeg)]) (rest := [.int c16, .int c15, .int c14, .ref (mr g 0), .int v19]) hc hw hR (hml.trans hl.1.symm) (cm_above l N S21 c17 (S21.1 1 v20.toNatClampNeg) v23 hcall) mq_above rfl (by decide) rfl rfl rfl (Nat.le_of_ble_eq_true rfl) dX12_cases_76 (fun H locs hw => ?_) ⟨Nat.zero_le _, Nat.zero_le _⟩
      refine lv_aload_n hx hb dX12_cases_79 rfl (lv_at hl 0 rfl) ?_
      refine lv_iload hx hb dX12_cases_80 (lv_at hl 4 rfl) ?_
      obtain ⟨v24, hcall, hf⟩ := bd1_some hf
      refine m_cvi (As := [.int c17]) (rest := [.int v23, .int c16, .int c15, .int c14, .ref (mr g 0), .int v19]) hc hw hR (hml.trans hl.1.symm) (cm_farOf l N S21 c17 v24 hcall) mq_farOf rfl (by decide) rfl rfl rfl (Nat.le_of_ble_eq_true rfl) dX12_cases_82 (fun H locs hw => ?_) ⟨Nat.zero_le _, Nat.zero_le _⟩
      obtain ⟨v25, hcall, hf⟩ := bd1_some hf
      refine m_cvi (As := [.int c14, .int c15, .int c16, .int v23, .int v24]) (rest := [.int v19]) hc hw hR (hml.trans hl.1.symm) (cm_isAsHigh l N S21 c14 c15 c16 v23 v24 v25 hcall) mq_isAsHigh rfl (by decide) rfl rfl rfl (Nat.le_of_ble_eq_true rfl) dX12_cases_85 (fun H locs hw => ?_) ⟨Nat.zero_le _, Nat.zero_le _⟩
      obtain ⟨v26, hv26⟩ : ∃ y : Int32, y = (if v25 = true then 0 else S21.1 2 v20.toNatClampNeg) := ⟨_, rfl⟩
      try rw [← hv26] at hf
      have kJ : ∀ ls : Array Slot, lv_has ls 8 [(0, .ref (mr g 0)), (1, .int c14), (2, .int c15), (3, .int c16), (4, .int c17), (5, .int c18), (7, .int v20)] → W p l e R s m args below meth c H locs 0 0 Q (F0 m 102 ls [.int v26, .int v19]) := by
        intro ls hl
        refine lv_iadd hx hb dX12_cases_102 ?_
        refine lv_istore (lv' := [(6, .int (v19 + v26)), (0, .ref (mr g 0)), (1, .int c14), (2, .int c15), (3, .int c16), (4, .int c17), (5, .int c18), (7, .int v20)]) hx hb dX12_cases_103 hl (by decide) rfl (fun ls hl => ?_)
        refine lv_iinc (lv' := [(7, .int (v20 + 1)), (6, .int (v19 + v26)), (0, .ref (mr g 0)), (1, .int c14), (2, .int c15), (3, .int c16), (4, .int c17), (5, .int c18)]) hx hb dX12_cases_105 hl (k := 7) rfl rfl (by decide) rfl (fun ls hl => ?_)
        refine lv_goto (tgt := 54) hx hb dX12_cases_108 (by decide) ?_
        exact ih _ _ _ X _ _ _ hf hw (lv_sub hl [2, 3, 4, 5, 6, 7, 1, 0] rfl) kx
      refine lv_if_eqb (tgt := 95) hx hb dX12_cases_88 (by decide) (fun cn35 => ?_) (fun cn35 => ?_)
      · refine lv_aload_n hx hb dX12_cases_95 rfl (lv_at hl 0 rfl) ?_
        refine m_g2 hc hw dX12_cases_96 ?_
        refine lv_iload hx hb dX12_cases_99 (lv_at hl 7 rfl) ?_
        refine m_l2 hc hw hi22 dX12_cases_101 ?_
        have ev26 : v26 = S21.1 2 v20.toNatClampNeg := by rw [hv26]; simp only [if_neg cn35]
        exact W.eq (by simp only [ev26]) (kJ ls (by skip; exact lv_sub hl [0, 1, 2, 3, 4, 5, 7] rfl))
      · refine lv_iconst (v := 0) hx hb dX12_cases_91 (by decide) ?_
        refine lv_goto (tgt := 102) hx hb dX12_cases_92 (by decide) ?_
        have ev26 : v26 = 0 := by rw [hv26]; simp only [if_pos cn35]
        exact W.eq (by simp only [ev26]) (kJ ls (by skip; exact lv_sub hl [0, 1, 2, 3, 4, 5, 7] rfl))
def mf_cases_L22 (N : Nat) (c6 : Int32) (c7 : Int32) (c8 : Int32) (c9 : Int32) : Nat → mS → Int32 → Option (mS)
  | 0, _, _ => none
  | n + 1, S11, v10 => (if ok c9 6 then (if (S11.1 5 c9.toNatClampNeg) ≤ v10 then some S11 else (bd1 (mf_isNear N S11 c6 c7 c8 c9 v10) fun v13 => (if v13 = true then (bd1 (mf_cases_L54 N c6 c7 c8 c9 v10 N S11 0 0) fun v27 => mf_cases_L22 N c6 c7 c8 c9 n (mt (ms S11 52 0 ((S11.1 52 0) + 1)) 53 0 (((ms S11 52 0 ((S11.1 52 0) + 1)).2 53 0) * v27.toInt64)) (v10 + 1)) else mf_cases_L22 N c6 c7 c8 c9 n S11 (v10 + 1)))) else none)
set_option maxRecDepth 100000 in
theorem wm_cases_L22 {p : Program} {l : Launch} {e : Env} {R : Room} {s : State} {m : MethodId} {args : Array Value} {below : List Frame} {meth : Method} {c : Code} {Q : State → Prop} {g : mG} {A : Nat → Prop} {H0 : Heap} (hc : qC RX12 cX12_cases p s m args c) (hR : qRoom R 5) (hml : c.maxLocals = 8) (N : Nat) (c6 : Int32) (c7 : Int32) (c8 : Int32) (c9 : Int32) : ∀ (n : Nat) (S11 : mS) (v10 : Int32) (X : mS) (H : Heap) (locs : List Loc) (ls : Array Slot), mf_cases_L22 N c6 c7 c8 c9 n S11 v10 = some X → mI g A H0 s S11 H locs → lv_has ls 8 [(0, .ref (mr g 0)), (1, .int c6), (2, .int c7), (3, .int c8), (4, .int c9), (5, .int v10)] → (∀ (H : Heap) (locs : List Loc) (ls : Array Slot), mI g A H0 s X H locs → lv_has ls 8 [(0, .ref (mr g 0)), (1, .int c6), (2, .int c7), (3, .int c8), (4, .int c9)] → W p l e R s m args below meth c H locs 0 0 Q (F0 m 139 ls [])) → W p l e R s m args below meth c H locs 0 0 Q (F0 m 22 ls []) := by
  have hx := hc.1
  have hb := hc.2.1
  intro n
  induction n with
  | zero => intro _ _ X H locs ls hf; exact nomatch (show none = some X from hf)
  | succ n ih =>
    intro S11 v10 X H locs ls hf hw hl kx
    rw [mf_cases_L22] at hf
    refine lv_iload hx hb dX12_cases_22 (lv_at hl 5 rfl) ?_
    refine lv_aload_n hx hb dX12_cases_24 rfl (lv_at hl 0 rfl) ?_
    refine m_g5 hc hw dX12_cases_25 ?_
    refine lv_iload hx hb dX12_cases_28 (lv_at hl 4 rfl) ?_
    obtain ⟨hi12, hf⟩ := gd_some hf
    have hi12 := ok_in hi12
    refine m_l5 hc hw hi12 dX12_cases_30 ?_
    refine lv_icmp_ge (tgt := 139) hx hb dX12_cases_31 (by decide) (fun cn32 => ?_) (fun cn32 => ?_)
    · have hf := (if_pos cn32).symm.trans hf
      cases hf
      exact kx _ _ _ hw (lv_sub hl [0, 1, 2, 3, 4] rfl)
    · have hf := (if_neg cn32).symm.trans hf
      refine lv_aload_n hx hb dX12_cases_34 rfl (lv_at hl 0 rfl) ?_
      refine lv_iload_n hx hb dX12_cases_35 rfl (lv_at hl 1 rfl) ?_
      refine lv_iload_n hx hb dX12_cases_36 rfl (lv_at hl 2 rfl) ?_
      refine lv_iload_n hx hb dX12_cases_37 rfl (lv_at hl 3 rfl) ?_
      refine lv_iload hx hb dX12_cases_38 (lv_at hl 4 rfl) ?_
      refine lv_iload hx hb dX12_cases_40 (lv_at hl 5 rfl) ?_
      obtain ⟨v13, hcall, hf⟩ := bd1_some hf
      refine m_cvi (As := [.int c6, .int c7, .int c8, .int c9, .int v10]) (rest := []) hc hw hR (hml.trans hl.1.symm) (cm_isNear l N S11 c6 c7 c8 c9 v10 v13 hcall) mq_isNear rfl (by decide) rfl rfl rfl (Nat.le_of_ble_eq_true rfl) dX12_cases_42 (fun H locs hw => ?_) ⟨Nat.zero_le _, Nat.zero_le _⟩
      refine lv_if_eqb (tgt := 133) hx hb dX12_cases_45 (by decide) (fun cn33 => ?_) (fun cn33 => ?_)
      · have hf := (if_neg cn33).symm.trans hf
        refine lv_iinc (lv' := [(5, .int (v10 + 1)), (0, .ref (mr g 0)), (1, .int c6), (2, .int c7), (3, .int c8), (4, .int c9)]) hx hb dX12_cases_133 hl (k := 5) rfl rfl (by decide) rfl (fun ls hl => ?_)
        refine lv_goto (tgt := 22) hx hb dX12_cases_136 (by decide) ?_
        exact ih _ _ X _ _ _ hf hw (lv_sub hl [1, 2, 3, 4, 5, 0] rfl) kx
      · have hf := (if_pos cn33).symm.trans hf
        refine lv_iconst (v := 0) hx hb dX12_cases_48 (by decide) ?_
        refine lv_istore (lv' := [(6, .int 0), (0, .ref (mr g 0)), (1, .int c6), (2, .int c7), (3, .int c8), (4, .int c9), (5, .int v10)]) hx hb dX12_cases_49 hl (by decide) rfl (fun ls hl => ?_)
        refine lv_iconst (v := 0) hx hb dX12_cases_51 (by decide) ?_
        refine lv_istore (lv' := [(7, .int 0), (6, .int 0), (0, .ref (mr g 0)), (1, .int c6), (2, .int c7), (3, .int c8), (4, .int c9), (5, .int v10)]) hx hb dX12_cases_52 hl (by decide) rfl (fun ls hl => ?_)
        obtain ⟨v27, hX, hf⟩ := bd1_some hf
        refine wm_cases_L54 hc hR hml N c6 c7 c8 c9 v10 N _ _ _ _ _ _ _ hX hw (lv_sub hl [2, 3, 4, 5, 6, 7, 1, 0] rfl) (fun H locs ls hw hl => ?_)
        refine lv_aload_n hx hb dX12_cases_111 rfl (lv_at hl 0 rfl) ?_
        refine lv_dup hx hb dX12_cases_112 rfl ?_
        refine m_g52 hc hw dX12_cases_113 ?_
        refine lv_iconst (v := 1) hx hb dX12_cases_116 (by decide) ?_
        refine lv_iadd hx hb dX12_cases_117 ?_
        refine m_p52 hc hw dX12_cases_118 (fun H locs hw => ?_)
        refine lv_aload_n hx hb dX12_cases_121 rfl (lv_at hl 0 rfl) ?_
        refine lv_dup hx hb dX12_cases_122 rfl ?_
        refine m_g53 hc hw dX12_cases_123 ?_
        refine lv_iload hx hb dX12_cases_126 (lv_at hl 6 rfl) ?_
        refine lv_i2l hx hb dX12_cases_128 rfl ?_
        refine lv_lmul hx hb dX12_cases_129 ?_
        refine m_p53 hc hw dX12_cases_130 (fun H locs hw => ?_)
        refine lv_iinc (lv' := [(5, .int (v10 + 1)), (0, .ref (mr g 0)), (1, .int c6), (2, .int c7), (3, .int c8), (4, .int c9), (6, .int v27)]) hx hb dX12_cases_133 hl (k := 5) rfl rfl (by decide) rfl (fun ls hl => ?_)
        refine lv_goto (tgt := 22) hx hb dX12_cases_136 (by decide) ?_
        exact ih _ _ X _ _ _ hf hw (lv_sub hl [1, 2, 3, 4, 5, 0] rfl) kx
def mf_cases_L13 (N : Nat) (c1 : Int32) (c2 : Int32) (c3 : Int32) : Nat → mS → Int32 → Option (mS)
  | 0, _, _ => none
  | n + 1, S5, v4 => (if c1 ≤ v4 then some S5 else (bd1 (mf_cases_L22 N c1 c2 c3 v4 N S5 0) fun S28 => mf_cases_L13 N c1 c2 c3 n S28 (v4 + 1)))
set_option maxRecDepth 100000 in
theorem wm_cases_L13 {p : Program} {l : Launch} {e : Env} {R : Room} {s : State} {m : MethodId} {args : Array Value} {below : List Frame} {meth : Method} {c : Code} {Q : State → Prop} {g : mG} {A : Nat → Prop} {H0 : Heap} (hc : qC RX12 cX12_cases p s m args c) (hR : qRoom R 5) (hml : c.maxLocals = 8) (N : Nat) (c1 : Int32) (c2 : Int32) (c3 : Int32) : ∀ (n : Nat) (S5 : mS) (v4 : Int32) (X : mS) (H : Heap) (locs : List Loc) (ls : Array Slot), mf_cases_L13 N c1 c2 c3 n S5 v4 = some X → mI g A H0 s S5 H locs → lv_has ls 8 [(0, .ref (mr g 0)), (1, .int c1), (2, .int c2), (3, .int c3), (4, .int v4)] → (∀ (H : Heap) (locs : List Loc) (ls : Array Slot), mI g A H0 s X H locs → lv_has ls 8 [(0, .ref (mr g 0)), (1, .int c1), (2, .int c2), (3, .int c3)] → W p l e R s m args below meth c H locs 0 0 Q (F0 m 145 ls [])) → W p l e R s m args below meth c H locs 0 0 Q (F0 m 13 ls []) := by
  have hx := hc.1
  have hb := hc.2.1
  intro n
  induction n with
  | zero => intro _ _ X H locs ls hf; exact nomatch (show none = some X from hf)
  | succ n ih =>
    intro S5 v4 X H locs ls hf hw hl kx
    rw [mf_cases_L13] at hf
    refine lv_iload hx hb dX12_cases_13 (lv_at hl 4 rfl) ?_
    refine lv_iload_n hx hb dX12_cases_15 rfl (lv_at hl 1 rfl) ?_
    refine lv_icmp_ge (tgt := 145) hx hb dX12_cases_16 (by decide) (fun cn31 => ?_) (fun cn31 => ?_)
    · have hf := (if_pos cn31).symm.trans hf
      cases hf
      exact kx _ _ _ hw (lv_sub hl [0, 1, 2, 3] rfl)
    · have hf := (if_neg cn31).symm.trans hf
      refine lv_iconst (v := 0) hx hb dX12_cases_19 (by decide) ?_
      refine lv_istore (lv' := [(5, .int 0), (0, .ref (mr g 0)), (1, .int c1), (2, .int c2), (3, .int c3), (4, .int v4)]) hx hb dX12_cases_20 hl (by decide) rfl (fun ls hl => ?_)
      obtain ⟨S28, hX, hf⟩ := bd1_some hf
      refine wm_cases_L22 hc hR hml N c1 c2 c3 v4 N _ _ _ _ _ _ hX hw (lv_sub hl [1, 2, 3, 4, 5, 0] rfl) (fun H locs ls hw hl => ?_)
      refine lv_iinc (lv' := [(4, .int (v4 + 1)), (0, .ref (mr g 0)), (1, .int c1), (2, .int c2), (3, .int c3)]) hx hb dX12_cases_139 hl (k := 4) rfl rfl (by decide) rfl (fun ls hl => ?_)
      refine lv_goto (tgt := 13) hx hb dX12_cases_142 (by decide) ?_
      exact ih _ _ X _ _ _ hf hw (lv_sub hl [1, 2, 3, 4, 0] rfl) kx
def mf_cases (N : Nat) (S : mS) (a1 : Int32) (a2 : Int32) (a3 : Int32) : Option (mS) := (bd1 (mf_cases_L13 N a1 a2 a3 N (mt (ms S 52 0 0) 53 0 1) 0) fun S29 => (bd1 (mf_postBefore N S29 a1 a2 a3) fun v30 => (if v30 = (-1) then some (mt S29 53 0 (S29.2 53 0)) else some (mt S29 53 0 0))))
set_option maxRecDepth 100000 in
theorem cm_cases (l : Launch) (N : Nat) (S : mS) (a1 : Int32) (a2 : Int32) (a3 : Int32) (S1 : mS) (hf : mf_cases N S a1 a2 a3 = some S1) : mMv l yX12_cases cX12_cases 8 5 (fun g => [.ref (mr g 0), .int a1, .int a2, .int a3]) S S1 := by
  refine mMv_of (own := RX12) (by decide) rfl (fun g => Nat.le_of_ble_eq_true rfl) ?_
  intro p e R s m args below meth c Q g A H0 H locs ls hc hR hml hw hl hQ
  have hl : lv_has ls 8 [(0, .ref (mr g 0)), (1, .int a1), (2, .int a2), (3, .int a3)] := hl
  have hx := hc.1
  have hb := hc.2.1
  unfold mf_cases at hf
  refine lv_aload_n hx hb dX12_cases_0 rfl (lv_at hl 0 rfl) ?_
  refine lv_iconst (v := 0) hx hb dX12_cases_1 (by decide) ?_
  refine m_p52 hc hw dX12_cases_2 (fun H locs hw => ?_)
  refine lv_aload_n hx hb dX12_cases_5 rfl (lv_at hl 0 rfl) ?_
  refine lv_lconst (v := 1) hx hb dX12_cases_6 rfl ?_
  refine m_p53 hc hw dX12_cases_7 (fun H locs hw => ?_)
  refine lv_iconst (v := 0) hx hb dX12_cases_10 (by decide) ?_
  refine lv_istore (lv' := [(4, .int 0), (0, .ref (mr g 0)), (1, .int a1), (2, .int a2), (3, .int a3)]) hx hb dX12_cases_11 hl (by decide) rfl (fun ls hl => ?_)
  obtain ⟨S29, hX, hf⟩ := bd1_some hf
  refine wm_cases_L13 hc hR hml N a1 a2 a3 N _ _ _ _ _ _ hX hw (lv_sub hl [1, 2, 3, 4, 0] rfl) (fun H locs ls hw hl => ?_)
  refine lv_aload_n hx hb dX12_cases_145 rfl (lv_at hl 0 rfl) ?_
  refine lv_aload_n hx hb dX12_cases_146 rfl (lv_at hl 0 rfl) ?_
  refine lv_iload_n hx hb dX12_cases_147 rfl (lv_at hl 1 rfl) ?_
  refine lv_iload_n hx hb dX12_cases_148 rfl (lv_at hl 2 rfl) ?_
  refine lv_iload_n hx hb dX12_cases_149 rfl (lv_at hl 3 rfl) ?_
  obtain ⟨v30, hcall, hf⟩ := bd1_some hf
  refine m_cvi (As := [.int a1, .int a2, .int a3]) (rest := [.ref (mr g 0)]) hc hw hR (hml.trans hl.1.symm) (cm_postBefore l N S29 a1 a2 a3 v30 hcall) mq_postBefore rfl (by decide) rfl rfl rfl (Nat.le_of_ble_eq_true rfl) dX12_cases_150 (fun H locs hw => ?_) ⟨Nat.zero_le _, Nat.zero_le _⟩
  refine lv_iconst (v := (-1)) hx hb dX12_cases_153 (by decide) ?_
  refine lv_icmp_ne (tgt := 164) hx hb dX12_cases_154 (by decide) (fun cn39 => ?_) (fun cn39 => ?_)
  · have hf := (if_neg cn39).symm.trans hf
    refine lv_lconst (v := 0) hx hb dX12_cases_164 rfl ?_
    refine m_p53 hc hw dX12_cases_165 (fun H locs hw => ?_)
    cases hf
    exact hQ _ _ _ _ dX12_cases_168 hw
  · have hf := (if_pos cn39).symm.trans hf
    refine lv_aload_n hx hb dX12_cases_157 rfl (lv_at hl 0 rfl) ?_
    refine m_g53 hc hw dX12_cases_158 ?_
    refine lv_goto (tgt := 165) hx hb dX12_cases_161 (by decide) ?_
    refine m_p53 hc hw dX12_cases_165 (fun H locs hw => ?_)
    cases hf
    exact hQ _ _ _ _ dX12_cases_168 hw
theorem mq_cases : qCv RX12 331 yX12_cases cX12_cases 8 none 3 := ⟨⟨(mem_g 1557 (by decide +kernel) rfl), (mem_g 1559 (by decide +kernel) rfl), (mem_g 68 (by decide +kernel) rfl), (mem_g 89 (by decide +kernel) rfl), (mem_g 1560 (by decide +kernel) rfl)⟩, by decide, by decide +kernel, by decide⟩
def mf_sitters_L64 (N : Nat) (c2 : Int32) (c3 : Int32) (c4 : Int32) : Nat → mS → Int32 → Int32 → Option ((Int32 × mS) ⊕ (Int32 × mS))
  | 0, _, _, _ => none
  | n + 1, S7, v5, v6 => (if c4 ≤ v6 then some (.inr (v5, S7)) else (if ok c2 4 then (if v6 < (S7.1 38 c2.toNatClampNeg) then (if ok ((60 * c2) + v6) 240 then (bd2 (mf_sit N S7 c3 v6 (S7.1 39 ((60 * c2) + v6).toNatClampNeg)) fun v10 S11 => mf_sitters_L64 N c2 c3 c4 n S11 (v5 + (if v10 < 0 then 0 else 1)) (v6 + 1)) else none) else some (.inl ((-12), S7))) else none))
set_option maxRecDepth 100000 in
theorem wm_sitters_L64 {p : Program} {l : Launch} {e : Env} {R : Room} {s : State} {m : MethodId} {args : Array Value} {below : List Frame} {meth : Method} {c : Code} {Q : State → Prop} {g : mG} {A : Nat → Prop} {H0 : Heap} (hc : qC RX12 cX12_sitters p s m args c) (hR : qRoom R 5) (hml : c.maxLocals = 7) (N : Nat) (c2 : Int32) (c3 : Int32) (c4 : Int32) : ∀ (n : Nat) (S7 : mS) (v5 : Int32) (v6 : Int32) (X : (Int32 × mS) ⊕ (Int32 × mS)) (H : Heap) (locs : List Loc) (ls : Array Slot), mf_sitters_L64 N c2 c3 c4 n S7 v5 v6 = some X → mI g A H0 s S7 H locs → lv_has ls 7 [(0, .ref (mr g 0)), (1, .int c2), (3, .int c3), (4, .int c4), (5, .int v5), (6, .int v6)] → (∀ (x24 : Int32) (S23 : mS), X = .inr (x24, S23) → ∀ (H : Heap) (locs : List Loc) (ls : Array Slot), mI g A H0 s S23 H locs → lv_has ls 7 [(5, .int x24)] → W p l e R s m args below meth c H locs 0 0 Q (F0 m 123 ls [])) → (∀ (r : Int32) (S9 : mS), X = .inl (r, S9) → mQi p l e R s m args below meth c cX12_sitters Q g A H0 r S9) → W p l e R s m args below meth c H locs 0 0 Q (F0 m 64 ls []) := by
  have hx := hc.1
  have hb := hc.2.1
  intro n
  induction n with
  | zero => intro _ _ _ X H locs ls hf; exact nomatch (show none = some X from hf)
  | succ n ih =>
    intro S7 v5 v6 X H locs ls hf hw hl kx kr
    rw [mf_sitters_L64] at hf
    refine lv_iload hx hb dX12_sitters_64 (lv_at hl 5 rfl) ?_
    refine lv_iload hx hb dX12_sitters_66 (lv_at hl 3 rfl) ?_
    refine lv_icmp_ge (tgt := 123) hx hb dX12_sitters_68 (by decide) (fun cn20 => ?_) (fun cn20 => ?_)
    · have hf := (if_pos cn20).symm.trans hf
      cases hf
      exact kx _ _ rfl _ _ _ hw (lv_sub hl [4] rfl)
    · have hf := (if_neg cn20).symm.trans hf
      refine lv_iload hx hb dX12_sitters_71 (lv_at hl 5 rfl) ?_
      refine lv_aload_n hx hb dX12_sitters_73 rfl (lv_at hl 0 rfl) ?_
      refine m_g38 hc hw dX12_sitters_74 ?_
      refine lv_iload_n hx hb dX12_sitters_77 rfl (lv_at hl 1 rfl) ?_
      obtain ⟨hi8, hf⟩ := gd_some hf
      have hi8 := ok_in hi8
      refine m_l38 hc hw hi8 dX12_sitters_78 ?_
      refine lv_icmp_lt (tgt := 85) hx hb dX12_sitters_79 (by decide) (fun cn21 => ?_) (fun cn21 => ?_)
      · have hf := (if_pos cn21).symm.trans hf
        refine lv_iload hx hb dX12_sitters_85 (lv_at hl 4 rfl) ?_
        refine lv_aload_n hx hb dX12_sitters_87 rfl (lv_at hl 0 rfl) ?_
        refine lv_iload_n hx hb dX12_sitters_88 rfl (lv_at hl 2 rfl) ?_
        refine lv_iload hx hb dX12_sitters_89 (lv_at hl 5 rfl) ?_
        refine lv_aload_n hx hb dX12_sitters_91 rfl (lv_at hl 0 rfl) ?_
        refine m_g39 hc hw dX12_sitters_92 ?_
        refine lv_bipush (v := 60) hx hb dX12_sitters_95 (by decide) ?_
        refine lv_iload_n hx hb dX12_sitters_97 rfl (lv_at hl 1 rfl) ?_
        refine lv_imul hx hb dX12_sitters_98 ?_
        refine lv_iload hx hb dX12_sitters_99 (lv_at hl 5 rfl) ?_
        refine lv_iadd hx hb dX12_sitters_101 ?_
        obtain ⟨hi9, hf⟩ := gd_some hf
        have hi9 := ok_in hi9
        refine m_l39 hc hw hi9 dX12_sitters_102 ?_
        obtain ⟨v10, S11, hcall, hf⟩ := bd2_some hf
        refine m_cvi (As := [.int c3, .int v6, .int (S7.1 39 ((60 * c2) + v6).toNatClampNeg)]) (rest := [.int v5]) hc hw hR (hml.trans hl.1.symm) (cm_sit l N S7 c3 v6 (S7.1 39 ((60 * c2) + v6).toNatClampNeg) v10 S11 hcall) mq_sit rfl (by decide) rfl rfl rfl (Nat.le_of_ble_eq_true rfl) dX12_sitters_103 (fun H locs hw => ?_) ⟨Nat.zero_le _, Nat.zero_le _⟩
        obtain ⟨v12, hv12⟩ : ∃ y : Int32, y = (if v10 < 0 then 0 else 1) := ⟨_, rfl⟩
        try rw [← hv12] at hf
        have kJ : ∀ ls : Array Slot, lv_has ls 7 [(0, .ref (mr g 0)), (1, .int c2), (3, .int c3), (4, .int c4), (6, .int v6)] → W p l e R s m args below meth c H locs 0 0 Q (F0 m 114 ls [.int v12, .int v5]) := by
          intro ls hl
          refine lv_iadd hx hb dX12_sitters_114 ?_
          refine lv_istore (lv' := [(5, .int (v5 + v12)), (0, .ref (mr g 0)), (1, .int c2), (3, .int c3), (4, .int c4), (6, .int v6)]) hx hb dX12_sitters_115 hl (by decide) rfl (fun ls hl => ?_)
          refine lv_iinc (lv' := [(6, .int (v6 + 1)), (5, .int (v5 + v12)), (0, .ref (mr g 0)), (1, .int c2), (3, .int c3), (4, .int c4)]) hx hb dX12_sitters_117 hl (k := 5) rfl rfl (by decide) rfl (fun ls hl => ?_)
          refine lv_goto (tgt := 64) hx hb dX12_sitters_120 (by decide) ?_
          exact ih _ _ _ X _ _ _ hf hw (lv_sub hl [2, 3, 4, 5, 1, 0] rfl) kx kr
        refine lv_if_lt (tgt := 113) hx hb dX12_sitters_106 (by decide) (fun cn22 => ?_) (fun cn22 => ?_)
        · refine lv_iconst (v := 0) hx hb dX12_sitters_113 (by decide) ?_
          have ev12 : v12 = 0 := by rw [hv12]; simp only [if_pos cn22]
          exact W.eq (by simp only [ev12]) (kJ ls (by skip; exact lv_sub hl [0, 1, 2, 3, 5] rfl))
        · refine lv_iconst (v := 1) hx hb dX12_sitters_109 (by decide) ?_
          refine lv_goto (tgt := 114) hx hb dX12_sitters_110 (by decide) ?_
          have ev12 : v12 = 1 := by rw [hv12]; simp only [if_neg cn22]
          exact W.eq (by simp only [ev12]) (kJ ls (by skip; exact lv_sub hl [0, 1, 2, 3, 5] rfl))
      · have hf := (if_neg cn21).symm.trans hf
        refine lv_bipush (v := (-12)) hx hb dX12_sitters_82 (by decide) ?_
        cases hf
        exact kr _ _  rfl _ _ _ _ dX12_sitters_84 hw
def mf_sitters (N : Nat) (S : mS) (a1 : Int32) (a2 : Int32) (a3 : Int32) (a4 : Int32) : Option (Int32 × mS) := (if (mf_in a1 0 3) = true then (if (mf_in a2 0 2) = true then (if (mf_in a4 0 8) = true then (if ok a1 4 then (if (S.1 37 a1.toNatClampNeg) = (-1) then some ((-11), S) else (if (S.1 37 a1.toNatClampNeg) = a2 then (br2 (mf_sitters_L64 N a1 a3 a4 N S 0 0) (Option.some) fun v13 S14 => some (v13, S14)) else some ((-13), S))) else none) else some ((-2), S)) else some ((-2), S)) else some ((-2), S))
set_option maxRecDepth 100000 in
theorem cm_sitters (l : Launch) (N : Nat) (S : mS) (a1 : Int32) (a2 : Int32) (a3 : Int32) (a4 : Int32) (res : Int32) (S1 : mS) (hf : mf_sitters N S a1 a2 a3 a4 = some (res, S1)) : mMi l yX12_sitters cX12_sitters 7 .int 5 (fun g => [.ref (mr g 0), .int a1, .int a2, .int a3, .int a4]) S res S1 := by
  refine mMi_of (own := RX12) (by decide) rfl rfl (fun g => Nat.le_of_ble_eq_true rfl) ?_
  intro p e R s m args below meth c Q g A H0 H locs ls hc hR hml hw hl hQ
  have hl : lv_has ls 7 [(0, .ref (mr g 0)), (1, .int a1), (2, .int a2), (3, .int a3), (4, .int a4)] := hl
  have hx := hc.1
  have hb := hc.2.1
  unfold mf_sitters at hf
  refine lv_iload_n hx hb dX12_sitters_0 rfl (lv_at hl 1 rfl) ?_
  refine lv_iconst (v := 0) hx hb dX12_sitters_1 (by decide) ?_
  refine lv_iconst (v := 3) hx hb dX12_sitters_2 (by decide) ?_
  refine m_csi (As := [.int a1, .int 0, .int 3]) (rest := []) hc hw hR (hml.trans hl.1.symm) (cm_in l S a1 0 3 _ rfl) mq_in (by decide) rfl rfl rfl (Nat.le_of_ble_eq_true rfl) dX12_sitters_3 (fun H locs hw => ?_) ⟨Nat.zero_le _, Nat.zero_le _⟩
  refine lv_if_eqb (tgt := 29) hx hb dX12_sitters_6 (by decide) (fun cn15 => ?_) (fun cn15 => ?_)
  · have hf := (if_neg cn15).symm.trans hf
    refine lv_bipush (v := (-2)) hx hb dX12_sitters_29 (by decide) ?_
    cases hf
    exact hQ _ _ _ _ dX12_sitters_31 hw
  · have hf := (if_pos cn15).symm.trans hf
    refine lv_iload_n hx hb dX12_sitters_9 rfl (lv_at hl 2 rfl) ?_
    refine lv_iconst (v := 0) hx hb dX12_sitters_10 (by decide) ?_
    refine lv_iconst (v := 2) hx hb dX12_sitters_11 (by decide) ?_
    refine m_csi (As := [.int a2, .int 0, .int 2]) (rest := []) hc hw hR (hml.trans hl.1.symm) (cm_in l S a2 0 2 _ rfl) mq_in (by decide) rfl rfl rfl (Nat.le_of_ble_eq_true rfl) dX12_sitters_12 (fun H locs hw => ?_) ⟨Nat.zero_le _, Nat.zero_le _⟩
    refine lv_if_eqb (tgt := 29) hx hb dX12_sitters_15 (by decide) (fun cn16 => ?_) (fun cn16 => ?_)
    · have hf := (if_neg cn16).symm.trans hf
      refine lv_bipush (v := (-2)) hx hb dX12_sitters_29 (by decide) ?_
      cases hf
      exact hQ _ _ _ _ dX12_sitters_31 hw
    · have hf := (if_pos cn16).symm.trans hf
      refine lv_iload hx hb dX12_sitters_18 (lv_at hl 4 rfl) ?_
      refine lv_iconst (v := 0) hx hb dX12_sitters_20 (by decide) ?_
      refine lv_bipush (v := 8) hx hb dX12_sitters_21 (by decide) ?_
      refine m_csi (As := [.int a4, .int 0, .int 8]) (rest := []) hc hw hR (hml.trans hl.1.symm) (cm_in l S a4 0 8 _ rfl) mq_in (by decide) rfl rfl rfl (Nat.le_of_ble_eq_true rfl) dX12_sitters_23 (fun H locs hw => ?_) ⟨Nat.zero_le _, Nat.zero_le _⟩
      refine lv_if_neb (tgt := 32) hx hb dX12_sitters_26 (by decide) (fun cn17 => ?_) (fun cn17 => ?_)
      · have hf := (if_pos cn17).symm.trans hf
        refine lv_aload_n hx hb dX12_sitters_32 rfl (lv_at hl 0 rfl) ?_
        refine m_g37 hc hw dX12_sitters_33 ?_
        refine lv_iload_n hx hb dX12_sitters_36 rfl (lv_at hl 1 rfl) ?_
        obtain ⟨hi1, hf⟩ := gd_some hf
        have hi1 := ok_in hi1
        refine m_l37 hc hw hi1 dX12_sitters_37 ?_
        refine lv_iconst (v := (-1)) hx hb dX12_sitters_38 (by decide) ?_
        refine lv_icmp_ne (tgt := 45) hx hb dX12_sitters_39 (by decide) (fun cn18 => ?_) (fun cn18 => ?_)
        · have hf := (if_neg cn18).symm.trans hf
          refine lv_aload_n hx hb dX12_sitters_45 rfl (lv_at hl 0 rfl) ?_
          refine m_g37 hc hw dX12_sitters_46 ?_
          refine lv_iload_n hx hb dX12_sitters_49 rfl (lv_at hl 1 rfl) ?_
          refine m_l37 hc hw hi1 dX12_sitters_50 ?_
          refine lv_iload_n hx hb dX12_sitters_51 rfl (lv_at hl 2 rfl) ?_
          refine lv_icmp_eq (tgt := 58) hx hb dX12_sitters_52 (by decide) (fun cn19 => ?_) (fun cn19 => ?_)
          · have hf := (if_pos cn19).symm.trans hf
            refine lv_iconst (v := 0) hx hb dX12_sitters_58 (by decide) ?_
            refine lv_istore (lv' := [(5, .int 0), (0, .ref (mr g 0)), (1, .int a1), (2, .int a2), (3, .int a3), (4, .int a4)]) hx hb dX12_sitters_59 hl (by decide) rfl (fun ls hl => ?_)
            refine lv_iconst (v := 0) hx hb dX12_sitters_61 (by decide) ?_
            refine lv_istore (lv' := [(6, .int 0), (5, .int 0), (0, .ref (mr g 0)), (1, .int a1), (2, .int a2), (3, .int a3), (4, .int a4)]) hx hb dX12_sitters_62 hl (by decide) rfl (fun ls hl => ?_)
            rcases br2_some hf with ⟨q, hX, hf⟩ | ⟨v13, S14, hX, hf⟩
            · refine wm_sitters_L64 hc hR hml N a1 a3 a4 N _ _ _ _ _ _ _ hX hw (lv_sub hl [2, 3, 5, 6, 1, 0] rfl) (fun _ _  h => nomatch h) ?_
              cases hf
              intro z0 z1 h; cases h; exact hQ
            · refine wm_sitters_L64 hc hR hml N a1 a3 a4 N _ _ _ _ _ _ _ hX hw (lv_sub hl [2, 3, 5, 6, 1, 0] rfl) (fun y0 y1 hi => ?_) (fun _ _  h => nomatch h)
              cases hi
              intro H locs ls hw hl
              refine lv_iload hx hb dX12_sitters_123 (lv_at hl 0 rfl) ?_
              cases hf
              exact hQ _ _ _ _ dX12_sitters_125 hw
          · have hf := (if_neg cn19).symm.trans hf
            refine lv_bipush (v := (-13)) hx hb dX12_sitters_55 (by decide) ?_
            cases hf
            exact hQ _ _ _ _ dX12_sitters_57 hw
        · have hf := (if_pos cn18).symm.trans hf
          refine lv_bipush (v := (-11)) hx hb dX12_sitters_42 (by decide) ?_
          cases hf
          exact hQ _ _ _ _ dX12_sitters_44 hw
      · have hf := (if_neg cn17).symm.trans hf
        refine lv_bipush (v := (-2)) hx hb dX12_sitters_29 (by decide) ?_
        cases hf
        exact hQ _ _ _ _ dX12_sitters_31 hw
def mf_hidden (N : Nat) (S : mS) (a1 : Int32) (a2 : Int32) (a3 : Int32) : Option (Int32) := (bd1 (mf_isSeat N S a1 a2) fun v1 => (if v1 = true then (if (mf_in a3 0 ((S.1 10 0) - 1)) = true then (bd1 (mf_hiderOf N S a1 a2 a3) fun v2 => some v2) else some (-7)) else some (-5)))
set_option maxRecDepth 100000 in
theorem cm_hidden (l : Launch) (N : Nat) (S : mS) (a1 : Int32) (a2 : Int32) (a3 : Int32) (res : Int32) (hf : mf_hidden N S a1 a2 a3 = some res) : mMi l yX12_hidden cX12_hidden 4 .int 6 (fun g => [.ref (mr g 0), .int a1, .int a2, .int a3]) S res S := by
  refine mMi_of (own := RX12) (by decide) rfl rfl (fun g => Nat.le_of_ble_eq_true rfl) ?_
  intro p e R s m args below meth c Q g A H0 H locs ls hc hR hml hw hl hQ
  have hl : lv_has ls 4 [(0, .ref (mr g 0)), (1, .int a1), (2, .int a2), (3, .int a3)] := hl
  have hx := hc.1
  have hb := hc.2.1
  unfold mf_hidden at hf
  refine lv_aload_n hx hb dX12_hidden_0 rfl (lv_at hl 0 rfl) ?_
  refine lv_iload_n hx hb dX12_hidden_1 rfl (lv_at hl 1 rfl) ?_
  refine lv_iload_n hx hb dX12_hidden_2 rfl (lv_at hl 2 rfl) ?_
  obtain ⟨v1, hcall, hf⟩ := bd1_some hf
  refine m_cvi (As := [.int a1, .int a2]) (rest := []) hc hw hR (hml.trans hl.1.symm) (cm_isSeat l N S a1 a2 v1 hcall) mq_isSeat rfl (by decide) rfl rfl rfl (Nat.le_of_ble_eq_true rfl) dX12_hidden_3 (fun H locs hw => ?_) ⟨Nat.zero_le _, Nat.zero_le _⟩
  refine lv_if_neb (tgt := 14) hx hb dX12_hidden_6 (by decide) (fun cn3 => ?_) (fun cn3 => ?_)
  · have hf := (if_pos cn3).symm.trans hf
    refine lv_iload_n hx hb dX12_hidden_14 rfl (lv_at hl 3 rfl) ?_
    refine lv_iconst (v := 0) hx hb dX12_hidden_15 (by decide) ?_
    refine lv_aload_n hx hb dX12_hidden_16 rfl (lv_at hl 0 rfl) ?_
    refine m_g10 hc hw dX12_hidden_17 ?_
    refine lv_iconst (v := 1) hx hb dX12_hidden_20 (by decide) ?_
    refine lv_isub hx hb dX12_hidden_21 ?_
    refine m_csi (As := [.int a3, .int 0, .int ((S.1 10 0) - 1)]) (rest := []) hc hw hR (hml.trans hl.1.symm) (cm_in l S a3 0 ((S.1 10 0) - 1) _ rfl) mq_in (by decide) rfl rfl rfl (Nat.le_of_ble_eq_true rfl) dX12_hidden_22 (fun H locs hw => ?_) ⟨Nat.zero_le _, Nat.zero_le _⟩
    refine lv_if_eqb (tgt := 38) hx hb dX12_hidden_25 (by decide) (fun cn4 => ?_) (fun cn4 => ?_)
    · have hf := (if_neg cn4).symm.trans hf
      refine lv_bipush (v := (-7)) hx hb dX12_hidden_38 (by decide) ?_
      cases hf
      exact hQ _ _ _ _ dX12_hidden_40 hw
    · have hf := (if_pos cn4).symm.trans hf
      refine lv_aload_n hx hb dX12_hidden_28 rfl (lv_at hl 0 rfl) ?_
      refine lv_iload_n hx hb dX12_hidden_29 rfl (lv_at hl 1 rfl) ?_
      refine lv_iload_n hx hb dX12_hidden_30 rfl (lv_at hl 2 rfl) ?_
      refine lv_iload_n hx hb dX12_hidden_31 rfl (lv_at hl 3 rfl) ?_
      obtain ⟨v2, hcall, hf⟩ := bd1_some hf
      refine m_cvi (As := [.int a1, .int a2, .int a3]) (rest := []) hc hw hR (hml.trans hl.1.symm) (cm_hiderOf l N S a1 a2 a3 v2 hcall) mq_hiderOf rfl (by decide) rfl rfl rfl (Nat.le_of_ble_eq_true rfl) dX12_hidden_32 (fun H locs hw => ?_) ⟨Nat.zero_le _, Nat.zero_le _⟩
      refine lv_goto (tgt := 40) hx hb dX12_hidden_35 (by decide) ?_
      cases hf
      exact hQ _ _ _ _ dX12_hidden_40 hw
  · have hf := (if_neg cn3).symm.trans hf
    refine lv_bipush (v := (-5)) hx hb dX12_hidden_9 (by decide) ?_
    refine lv_goto (tgt := 40) hx hb dX12_hidden_11 (by decide) ?_
    cases hf
    exact hQ _ _ _ _ dX12_hidden_40 hw
def mf_seesOf_L5 (N : Nat) (c1 : Int32) (c2 : Int32) : Nat → mS → Int32 → Int32 → Option (Int32)
  | 0, _, _, _ => none
  | n + 1, S5, v3, v4 => (if (S5.1 10 0) ≤ v4 then some v3 else (bd1 (mf_hiderOf N S5 c1 c2 v4) fun v6 => mf_seesOf_L5 N c1 c2 n S5 (v3 ||| (if v6 = (-1) then (1 : Int32) <<< (v4 &&& 31) else 0)) (v4 + 1)))
set_option maxRecDepth 100000 in
theorem wm_seesOf_L5 {p : Program} {l : Launch} {e : Env} {R : Room} {s : State} {m : MethodId} {args : Array Value} {below : List Frame} {meth : Method} {c : Code} {Q : State → Prop} {g : mG} {A : Nat → Prop} {H0 : Heap} (hc : qC RX12 cX12_seesOf p s m args c) (hR : qRoom R 6) (hml : c.maxLocals = 5) (N : Nat) (c1 : Int32) (c2 : Int32) : ∀ (n : Nat) (S5 : mS) (v3 : Int32) (v4 : Int32) (X : Int32) (H : Heap) (locs : List Loc) (ls : Array Slot), mf_seesOf_L5 N c1 c2 n S5 v3 v4 = some X → mI g A H0 s S5 H locs → lv_has ls 5 [(0, .ref (mr g 0)), (1, .int c1), (2, .int c2), (3, .int v3), (4, .int v4)] → (∀ (H : Heap) (locs : List Loc) (ls : Array Slot), mI g A H0 s S5 H locs → lv_has ls 5 [(3, .int X)] → W p l e R s m args below meth c H locs 0 0 Q (F0 m 43 ls [])) → W p l e R s m args below meth c H locs 0 0 Q (F0 m 5 ls []) := by
  have hx := hc.1
  have hb := hc.2.1
  intro n
  induction n with
  | zero => intro _ _ _ X H locs ls hf; exact nomatch (show none = some X from hf)
  | succ n ih =>
    intro S5 v3 v4 X H locs ls hf hw hl kx
    rw [mf_seesOf_L5] at hf
    refine lv_iload hx hb dX12_seesOf_5 (lv_at hl 4 rfl) ?_
    refine lv_aload_n hx hb dX12_seesOf_7 rfl (lv_at hl 0 rfl) ?_
    refine m_g10 hc hw dX12_seesOf_8 ?_
    refine lv_icmp_ge (tgt := 43) hx hb dX12_seesOf_11 (by decide) (fun cn9 => ?_) (fun cn9 => ?_)
    · have hf := (if_pos cn9).symm.trans hf
      cases hf
      exact kx _ _ _ hw (lv_sub hl [3] rfl)
    · have hf := (if_neg cn9).symm.trans hf
      refine lv_iload_n hx hb dX12_seesOf_14 rfl (lv_at hl 3 rfl) ?_
      refine lv_aload_n hx hb dX12_seesOf_15 rfl (lv_at hl 0 rfl) ?_
      refine lv_iload_n hx hb dX12_seesOf_16 rfl (lv_at hl 1 rfl) ?_
      refine lv_iload_n hx hb dX12_seesOf_17 rfl (lv_at hl 2 rfl) ?_
      refine lv_iload hx hb dX12_seesOf_18 (lv_at hl 4 rfl) ?_
      obtain ⟨v6, hcall, hf⟩ := bd1_some hf
      refine m_cvi (As := [.int c1, .int c2, .int v4]) (rest := [.int v3]) hc hw hR (hml.trans hl.1.symm) (cm_hiderOf l N S5 c1 c2 v4 v6 hcall) mq_hiderOf rfl (by decide) rfl rfl rfl (Nat.le_of_ble_eq_true rfl) dX12_seesOf_20 (fun H locs hw => ?_) ⟨Nat.zero_le _, Nat.zero_le _⟩
      refine lv_iconst (v := (-1)) hx hb dX12_seesOf_23 (by decide) ?_
      obtain ⟨v7, hv7⟩ : ∃ y : Int32, y = (if v6 = (-1) then (1 : Int32) <<< (v4 &&& 31) else 0) := ⟨_, rfl⟩
      try rw [← hv7] at hf
      have kJ : ∀ ls : Array Slot, lv_has ls 5 [(0, .ref (mr g 0)), (1, .int c1), (2, .int c2), (4, .int v4)] → W p l e R s m args below meth c H locs 0 0 Q (F0 m 35 ls [.int v7, .int v3]) := by
        intro ls hl
        refine lv_ior hx hb dX12_seesOf_35 ?_
        refine lv_istore_n (lv' := [(3, .int (v3 ||| v7)), (0, .ref (mr g 0)), (1, .int c1), (2, .int c2), (4, .int v4)]) hx hb dX12_seesOf_36 rfl hl (by decide) rfl (fun ls hl => ?_)
        refine lv_iinc (lv' := [(4, .int (v4 + 1)), (3, .int (v3 ||| v7)), (0, .ref (mr g 0)), (1, .int c1), (2, .int c2)]) hx hb dX12_seesOf_37 hl (k := 4) rfl rfl (by decide) rfl (fun ls hl => ?_)
        refine lv_goto (tgt := 5) hx hb dX12_seesOf_40 (by decide) ?_
        exact ih _ _ _ X _ _ _ hf hw (lv_sub hl [2, 3, 4, 1, 0] rfl) kx
      refine lv_icmp_ne (tgt := 34) hx hb dX12_seesOf_24 (by decide) (fun cn10 => ?_) (fun cn10 => ?_)
      · refine lv_iconst (v := 0) hx hb dX12_seesOf_34 (by decide) ?_
        have ev7 : v7 = 0 := by rw [hv7]; simp only [if_neg cn10]
        exact W.eq (by simp only [ev7]) (kJ ls (by skip; exact lv_sub hl [0, 1, 2, 4] rfl))
      · refine lv_iconst (v := 1) hx hb dX12_seesOf_27 (by decide) ?_
        refine lv_iload hx hb dX12_seesOf_28 (lv_at hl 4 rfl) ?_
        refine lv_ishl hx hb dX12_seesOf_30 ?_
        refine lv_goto (tgt := 35) hx hb dX12_seesOf_31 (by decide) ?_
        have ev7 : v7 = (1 : Int32) <<< (v4 &&& 31) := by rw [hv7]; simp only [if_pos cn10]
        exact W.eq (by simp only [ev7]) (kJ ls (by skip; exact lv_sub hl [0, 1, 2, 4] rfl))
def mf_seesOf (N : Nat) (S : mS) (a1 : Int32) (a2 : Int32) : Option (Int32) := (bd1 (mf_seesOf_L5 N a1 a2 N S 0 0) fun v8 => some v8)
set_option maxRecDepth 100000 in
theorem cm_seesOf (l : Launch) (N : Nat) (S : mS) (a1 : Int32) (a2 : Int32) (res : Int32) (hf : mf_seesOf N S a1 a2 = some res) : mMi l yX12_seesOf cX12_seesOf 5 .int 6 (fun g => [.ref (mr g 0), .int a1, .int a2]) S res S := by
  refine mMi_of (own := RX12) (by decide) rfl rfl (fun g => Nat.le_of_ble_eq_true rfl) ?_
  intro p e R s m args below meth c Q g A H0 H locs ls hc hR hml hw hl hQ
  have hl : lv_has ls 5 [(0, .ref (mr g 0)), (1, .int a1), (2, .int a2)] := hl
  have hx := hc.1
  have hb := hc.2.1
  unfold mf_seesOf at hf
  refine lv_iconst (v := 0) hx hb dX12_seesOf_0 (by decide) ?_
  refine lv_istore_n (lv' := [(3, .int 0), (0, .ref (mr g 0)), (1, .int a1), (2, .int a2)]) hx hb dX12_seesOf_1 rfl hl (by decide) rfl (fun ls hl => ?_)
  refine lv_iconst (v := 0) hx hb dX12_seesOf_2 (by decide) ?_
  refine lv_istore (lv' := [(4, .int 0), (3, .int 0), (0, .ref (mr g 0)), (1, .int a1), (2, .int a2)]) hx hb dX12_seesOf_3 hl (by decide) rfl (fun ls hl => ?_)
  obtain ⟨v8, hX, hf⟩ := bd1_some hf
  refine wm_seesOf_L5 hc hR hml N a1 a2 N _ _ _ _ _ _ _ hX hw (lv_sub hl [2, 3, 4, 1, 0] rfl) (fun H locs ls hw hl => ?_)
  refine lv_iload_n hx hb dX12_seesOf_43 rfl (lv_at hl 0 rfl) ?_
  cases hf
  exact hQ _ _ _ _ dX12_seesOf_44 hw
theorem mq_seesOf : qCv RX12 288 yX12_seesOf cX12_seesOf 5 (some .int) 2 := ⟨⟨(mem_g 1481 (by decide +kernel) rfl), (mem_g 1483 (by decide +kernel) rfl), (mem_g 57 (by decide +kernel) rfl), (mem_g 89 (by decide +kernel) rfl), (mem_g 1484 (by decide +kernel) rfl)⟩, by decide, by decide +kernel, by decide⟩
def mf_worthOf_L5 (N : Nat) (c1 : Int32) (c2 : Int32) : Nat → mS → Int32 → Int32 → Option (Int32 × mS)
  | 0, _, _, _ => none
  | n + 1, S5, v3, v4 => (if (S5.1 10 0) ≤ v4 then some (v3, S5) else (bd1 (mf_hiderOf N S5 c1 c2 v4) fun v6 => (bd2 (if v6 = (-1) then (bd2 (mf_likeOf N S5 c1 c2 v4) fun v7 S8 => some (v7, S8)) else some (0, S5)) fun v9 S10 => mf_worthOf_L5 N c1 c2 n S10 (v3 + v9) (v4 + 1))))
set_option maxRecDepth 100000 in
theorem wm_worthOf_L5 {p : Program} {l : Launch} {e : Env} {R : Room} {s : State} {m : MethodId} {args : Array Value} {below : List Frame} {meth : Method} {c : Code} {Q : State → Prop} {g : mG} {A : Nat → Prop} {H0 : Heap} (hc : qC RX12 cX12_worthOf p s m args c) (hR : qRoom R 6) (hml : c.maxLocals = 5) (N : Nat) (c1 : Int32) (c2 : Int32) : ∀ (n : Nat) (S5 : mS) (v3 : Int32) (v4 : Int32) (X : Int32 × mS) (H : Heap) (locs : List Loc) (ls : Array Slot), mf_worthOf_L5 N c1 c2 n S5 v3 v4 = some X → mI g A H0 s S5 H locs → lv_has ls 5 [(0, .ref (mr g 0)), (1, .int c1), (2, .int c2), (3, .int v3), (4, .int v4)] → (∀ (H : Heap) (locs : List Loc) (ls : Array Slot), mI g A H0 s X.2 H locs → lv_has ls 5 [(3, .int X.1)] → W p l e R s m args below meth c H locs 0 0 Q (F0 m 47 ls [])) → W p l e R s m args below meth c H locs 0 0 Q (F0 m 5 ls []) := by
  have hx := hc.1
  have hb := hc.2.1
  intro n
  induction n with
  | zero => intro _ _ _ X H locs ls hf; exact nomatch (show none = some X from hf)
  | succ n ih =>
    intro S5 v3 v4 X H locs ls hf hw hl kx
    rw [mf_worthOf_L5] at hf
    refine lv_iload hx hb dX12_worthOf_5 (lv_at hl 4 rfl) ?_
    refine lv_aload_n hx hb dX12_worthOf_7 rfl (lv_at hl 0 rfl) ?_
    refine m_g10 hc hw dX12_worthOf_8 ?_
    refine lv_icmp_ge (tgt := 47) hx hb dX12_worthOf_11 (by decide) (fun cn13 => ?_) (fun cn13 => ?_)
    · have hf := (if_pos cn13).symm.trans hf
      cases hf
      exact kx _ _ _ hw (lv_sub hl [3] rfl)
    · have hf := (if_neg cn13).symm.trans hf
      refine lv_iload_n hx hb dX12_worthOf_14 rfl (lv_at hl 3 rfl) ?_
      refine lv_aload_n hx hb dX12_worthOf_15 rfl (lv_at hl 0 rfl) ?_
      refine lv_iload_n hx hb dX12_worthOf_16 rfl (lv_at hl 1 rfl) ?_
      refine lv_iload_n hx hb dX12_worthOf_17 rfl (lv_at hl 2 rfl) ?_
      refine lv_iload hx hb dX12_worthOf_18 (lv_at hl 4 rfl) ?_
      obtain ⟨v6, hcall, hf⟩ := bd1_some hf
      refine m_cvi (As := [.int c1, .int c2, .int v4]) (rest := [.int v3]) hc hw hR (hml.trans hl.1.symm) (cm_hiderOf l N S5 c1 c2 v4 v6 hcall) mq_hiderOf rfl (by decide) rfl rfl rfl (Nat.le_of_ble_eq_true rfl) dX12_worthOf_20 (fun H locs hw => ?_) ⟨Nat.zero_le _, Nat.zero_le _⟩
      refine lv_iconst (v := (-1)) hx hb dX12_worthOf_23 (by decide) ?_
      obtain ⟨v9, S10, hX, hf⟩ := bd2_some hf
      have kJ : ∀ (H : Heap) (locs : List Loc) (ls : Array Slot), mI g A H0 s S10 H locs → lv_has ls 5 [(0, .ref (mr g 0)), (1, .int c1), (2, .int c2), (4, .int v4)] → W p l e R s m args below meth c H locs 0 0 Q (F0 m 39 ls [.int v9, .int v3]) := by
        intro H locs ls hw hl
        refine lv_iadd hx hb dX12_worthOf_39 ?_
        refine lv_istore_n (lv' := [(3, .int (v3 + v9)), (0, .ref (mr g 0)), (1, .int c1), (2, .int c2), (4, .int v4)]) hx hb dX12_worthOf_40 rfl hl (by decide) rfl (fun ls hl => ?_)
        refine lv_iinc (lv' := [(4, .int (v4 + 1)), (3, .int (v3 + v9)), (0, .ref (mr g 0)), (1, .int c1), (2, .int c2)]) hx hb dX12_worthOf_41 hl (k := 4) rfl rfl (by decide) rfl (fun ls hl => ?_)
        refine lv_goto (tgt := 5) hx hb dX12_worthOf_44 (by decide) ?_
        exact ih _ _ _ X _ _ _ hf hw (lv_sub hl [2, 3, 4, 1, 0] rfl) kx
      refine lv_icmp_ne (tgt := 38) hx hb dX12_worthOf_24 (by decide) (fun cn14 => ?_) (fun cn14 => ?_)
      · have hX := (if_neg cn14).symm.trans hX
        refine lv_iconst (v := 0) hx hb dX12_worthOf_38 (by decide) ?_
        cases hX
        exact kJ _ _ _ hw (lv_sub hl [0, 1, 2, 4] rfl)
      · have hX := (if_pos cn14).symm.trans hX
        refine lv_aload_n hx hb dX12_worthOf_27 rfl (lv_at hl 0 rfl) ?_
        refine lv_iload_n hx hb dX12_worthOf_28 rfl (lv_at hl 1 rfl) ?_
        refine lv_iload_n hx hb dX12_worthOf_29 rfl (lv_at hl 2 rfl) ?_
        refine lv_iload hx hb dX12_worthOf_30 (lv_at hl 4 rfl) ?_
        obtain ⟨v7, S8, hcall, hX⟩ := bd2_some hX
        refine m_cvi (As := [.int c1, .int c2, .int v4]) (rest := [.int v3]) hc hw hR (hml.trans hl.1.symm) (cm_likeOf l N S5 c1 c2 v4 v7 S8 hcall) mq_likeOf rfl (by decide) rfl rfl rfl (Nat.le_of_ble_eq_true rfl) dX12_worthOf_32 (fun H locs hw => ?_) ⟨Nat.zero_le _, Nat.zero_le _⟩
        refine lv_goto (tgt := 39) hx hb dX12_worthOf_35 (by decide) ?_
        cases hX
        exact kJ _ _ _ hw (lv_sub hl [0, 1, 2, 4] rfl)
def mf_worthOf (N : Nat) (S : mS) (a1 : Int32) (a2 : Int32) : Option (Int32 × mS) := (bd2 (mf_worthOf_L5 N a1 a2 N S 0 0) fun v11 S12 => some (v11, S12))
set_option maxRecDepth 100000 in
theorem cm_worthOf (l : Launch) (N : Nat) (S : mS) (a1 : Int32) (a2 : Int32) (res : Int32) (S1 : mS) (hf : mf_worthOf N S a1 a2 = some (res, S1)) : mMi l yX12_worthOf cX12_worthOf 5 .int 6 (fun g => [.ref (mr g 0), .int a1, .int a2]) S res S1 := by
  refine mMi_of (own := RX12) (by decide) rfl rfl (fun g => Nat.le_of_ble_eq_true rfl) ?_
  intro p e R s m args below meth c Q g A H0 H locs ls hc hR hml hw hl hQ
  have hl : lv_has ls 5 [(0, .ref (mr g 0)), (1, .int a1), (2, .int a2)] := hl
  have hx := hc.1
  have hb := hc.2.1
  unfold mf_worthOf at hf
  refine lv_iconst (v := 0) hx hb dX12_worthOf_0 (by decide) ?_
  refine lv_istore_n (lv' := [(3, .int 0), (0, .ref (mr g 0)), (1, .int a1), (2, .int a2)]) hx hb dX12_worthOf_1 rfl hl (by decide) rfl (fun ls hl => ?_)
  refine lv_iconst (v := 0) hx hb dX12_worthOf_2 (by decide) ?_
  refine lv_istore (lv' := [(4, .int 0), (3, .int 0), (0, .ref (mr g 0)), (1, .int a1), (2, .int a2)]) hx hb dX12_worthOf_3 hl (by decide) rfl (fun ls hl => ?_)
  obtain ⟨v11, S12, hX, hf⟩ := bd2_some hf
  refine wm_worthOf_L5 hc hR hml N a1 a2 N _ _ _ _ _ _ _ hX hw (lv_sub hl [2, 3, 4, 1, 0] rfl) (fun H locs ls hw hl => ?_)
  refine lv_iload_n hx hb dX12_worthOf_47 rfl (lv_at hl 0 rfl) ?_
  cases hf
  exact hQ _ _ _ _ dX12_worthOf_48 hw
theorem mq_worthOf : qCv RX12 301 yX12_worthOf cX12_worthOf 5 (some .int) 2 := ⟨⟨(mem_g 1489 (by decide +kernel) rfl), (mem_g 1491 (by decide +kernel) rfl), (mem_g 58 (by decide +kernel) rfl), (mem_g 89 (by decide +kernel) rfl), (mem_g 1492 (by decide +kernel) rfl)⟩, by decide, by decide +kernel, by decide⟩
def mf_chance (N : Nat) (S : mS) (a1 : Int32) (a2 : Int32) (a3 : Int32) (a4 : Int32) : Option (Int64 × mS) := (bd1 (mf_isSeat N S a1 a2) fun v1 => (if v1 = true then (if (mf_in a3 0 ((S.1 10 0) - 1)) = true then (if (mf_in a4 0 1) = true then (bd1 (mf_allCounts N S) fun v2 => (if v2 = 0 then some ((-4611686018427387904), S) else (bd1 (mf_cases N S a1 a2 a3) fun S3 => (bd1 (mf_allCounts N S3) fun v4 => (bd1 (mf_power N v4.toInt64 (S3.1 52 0)) fun v5 => (bd1 (mf_lowest N (S3.2 53 0) v5 a4) fun v6 => some (v6, S3))))))) else some ((-4611686018427387904), S)) else some ((-4611686018427387904), S)) else some ((-4611686018427387904), S)))
set_option maxRecDepth 100000 in
theorem cm_chance (l : Launch) (N : Nat) (S : mS) (a1 : Int32) (a2 : Int32) (a3 : Int32) (a4 : Int32) (res : Int64) (S1 : mS) (hf : mf_chance N S a1 a2 a3 a4 = some (res, S1)) : mMl l yX12_chance cX12_chance 5 6 (fun g => [.ref (mr g 0), .int a1, .int a2, .int a3, .int a4]) S res S1 := by
  refine mMl_of (own := RX12) (by decide) rfl (fun g => Nat.le_of_ble_eq_true rfl) ?_
  intro p e R s m args below meth c Q g A H0 H locs ls hc hR hml hw hl hQ
  have hl : lv_has ls 5 [(0, .ref (mr g 0)), (1, .int a1), (2, .int a2), (3, .int a3), (4, .int a4)] := hl
  have hx := hc.1
  have hb := hc.2.1
  unfold mf_chance at hf
  refine lv_aload_n hx hb dX12_chance_0 rfl (lv_at hl 0 rfl) ?_
  refine lv_iload_n hx hb dX12_chance_1 rfl (lv_at hl 1 rfl) ?_
  refine lv_iload_n hx hb dX12_chance_2 rfl (lv_at hl 2 rfl) ?_
  obtain ⟨v1, hcall, hf⟩ := bd1_some hf
  refine m_cvi (As := [.int a1, .int a2]) (rest := []) hc hw hR (hml.trans hl.1.symm) (cm_isSeat l N S a1 a2 v1 hcall) mq_isSeat rfl (by decide) rfl rfl rfl (Nat.le_of_ble_eq_true rfl) dX12_chance_3 (fun H locs hw => ?_) ⟨Nat.zero_le _, Nat.zero_le _⟩
  refine lv_if_eqb (tgt := 40) hx hb dX12_chance_6 (by decide) (fun cn7 => ?_) (fun cn7 => ?_)
  · have hf := (if_neg cn7).symm.trans hf
    refine lv_ldc2 (v := (-4611686018427387904)) hx hb hc.2.2.1 (hc.2.2.2 _ (mem_g 1556 (by decide +kernel) rfl)) dX12_chance_40 ?_
    cases hf
    exact hQ _ _ _ _ dX12_chance_43 hw
  · have hf := (if_pos cn7).symm.trans hf
    refine lv_iload_n hx hb dX12_chance_9 rfl (lv_at hl 3 rfl) ?_
    refine lv_iconst (v := 0) hx hb dX12_chance_10 (by decide) ?_
    refine lv_aload_n hx hb dX12_chance_11 rfl (lv_at hl 0 rfl) ?_
    refine m_g10 hc hw dX12_chance_12 ?_
    refine lv_iconst (v := 1) hx hb dX12_chance_15 (by decide) ?_
    refine lv_isub hx hb dX12_chance_16 ?_
    refine m_csi (As := [.int a3, .int 0, .int ((S.1 10 0) - 1)]) (rest := []) hc hw hR (hml.trans hl.1.symm) (cm_in l S a3 0 ((S.1 10 0) - 1) _ rfl) mq_in (by decide) rfl rfl rfl (Nat.le_of_ble_eq_true rfl) dX12_chance_17 (fun H locs hw => ?_) ⟨Nat.zero_le _, Nat.zero_le _⟩
    refine lv_if_eqb (tgt := 40) hx hb dX12_chance_20 (by decide) (fun cn8 => ?_) (fun cn8 => ?_)
    · have hf := (if_neg cn8).symm.trans hf
      refine lv_ldc2 (v := (-4611686018427387904)) hx hb hc.2.2.1 (hc.2.2.2 _ (mem_g 1556 (by decide +kernel) rfl)) dX12_chance_40 ?_
      cases hf
      exact hQ _ _ _ _ dX12_chance_43 hw
    · have hf := (if_pos cn8).symm.trans hf
      refine lv_iload hx hb dX12_chance_23 (lv_at hl 4 rfl) ?_
      refine lv_iconst (v := 0) hx hb dX12_chance_25 (by decide) ?_
      refine lv_iconst (v := 1) hx hb dX12_chance_26 (by decide) ?_
      refine m_csi (As := [.int a4, .int 0, .int 1]) (rest := []) hc hw hR (hml.trans hl.1.symm) (cm_in l S a4 0 1 _ rfl) mq_in (by decide) rfl rfl rfl (Nat.le_of_ble_eq_true rfl) dX12_chance_27 (fun H locs hw => ?_) ⟨Nat.zero_le _, Nat.zero_le _⟩
      refine lv_if_eqb (tgt := 40) hx hb dX12_chance_30 (by decide) (fun cn9 => ?_) (fun cn9 => ?_)
      · have hf := (if_neg cn9).symm.trans hf
        refine lv_ldc2 (v := (-4611686018427387904)) hx hb hc.2.2.1 (hc.2.2.2 _ (mem_g 1556 (by decide +kernel) rfl)) dX12_chance_40 ?_
        cases hf
        exact hQ _ _ _ _ dX12_chance_43 hw
      · have hf := (if_pos cn9).symm.trans hf
        refine lv_aload_n hx hb dX12_chance_33 rfl (lv_at hl 0 rfl) ?_
        obtain ⟨v2, hcall, hf⟩ := bd1_some hf
        refine m_cvi (As := []) (rest := []) hc hw hR (hml.trans hl.1.symm) (cm_allCounts l N S v2 hcall) mq_allCounts rfl (by decide) rfl rfl rfl (Nat.le_of_ble_eq_true rfl) dX12_chance_34 (fun H locs hw => ?_) ⟨Nat.zero_le _, Nat.zero_le _⟩
        refine lv_if_ne (tgt := 44) hx hb dX12_chance_37 (by decide) (fun cn10 => ?_) (fun cn10 => ?_)
        · have hf := (if_neg cn10).symm.trans hf
          refine lv_aload_n hx hb dX12_chance_44 rfl (lv_at hl 0 rfl) ?_
          refine lv_iload_n hx hb dX12_chance_45 rfl (lv_at hl 1 rfl) ?_
          refine lv_iload_n hx hb dX12_chance_46 rfl (lv_at hl 2 rfl) ?_
          refine lv_iload_n hx hb dX12_chance_47 rfl (lv_at hl 3 rfl) ?_
          obtain ⟨S3, hcall, hf⟩ := bd1_some hf
          refine m_cvv (As := [.int a1, .int a2, .int a3]) (rest := []) hc hw hR (hml.trans hl.1.symm) (cm_cases l N S a1 a2 a3 S3 hcall) mq_cases rfl (by decide) rfl rfl rfl (Nat.le_of_ble_eq_true rfl) dX12_chance_48 (fun H locs hw => ?_) ⟨Nat.zero_le _, Nat.zero_le _⟩
          refine lv_aload_n hx hb dX12_chance_51 rfl (lv_at hl 0 rfl) ?_
          refine m_g53 hc hw dX12_chance_52 ?_
          refine lv_aload_n hx hb dX12_chance_55 rfl (lv_at hl 0 rfl) ?_
          obtain ⟨v4, hcall, hf⟩ := bd1_some hf
          refine m_cvi (As := []) (rest := [.long (S3.2 53 0)]) hc hw hR (hml.trans hl.1.symm) (cm_allCounts l N S3 v4 hcall) mq_allCounts rfl (by decide) rfl rfl rfl (Nat.le_of_ble_eq_true rfl) dX12_chance_56 (fun H locs hw => ?_) ⟨Nat.zero_le _, Nat.zero_le _⟩
          refine lv_i2l hx hb dX12_chance_59 rfl ?_
          refine lv_aload_n hx hb dX12_chance_60 rfl (lv_at hl 0 rfl) ?_
          refine m_g52 hc hw dX12_chance_61 ?_
          obtain ⟨v5, hcall, hf⟩ := bd1_some hf
          refine m_csl (As := [.long v4.toInt64, .int (S3.1 52 0)]) (rest := [.long (S3.2 53 0)]) hc hw hR (hml.trans hl.1.symm) (cm_power l N S3 v4.toInt64 (S3.1 52 0) v5 hcall) mq_power (by decide) rfl rfl rfl (Nat.le_of_ble_eq_true rfl) dX12_chance_64 (fun H locs hw => ?_) ⟨Nat.zero_le _, Nat.zero_le _⟩
          refine lv_iload hx hb dX12_chance_67 (lv_at hl 4 rfl) ?_
          obtain ⟨v6, hcall, hf⟩ := bd1_some hf
          refine m_csl (As := [.long (S3.2 53 0), .long v5, .int a4]) (rest := []) hc hw hR (hml.trans hl.1.symm) (cm_lowest l N S3 (S3.2 53 0) v5 a4 v6 hcall) mq_lowest (by decide) rfl rfl rfl (Nat.le_of_ble_eq_true rfl) dX12_chance_69 (fun H locs hw => ?_) ⟨Nat.zero_le _, Nat.zero_le _⟩
          cases hf
          exact hQ _ _ _ _ dX12_chance_72 hw
        · have hf := (if_pos cn10).symm.trans hf
          refine lv_ldc2 (v := (-4611686018427387904)) hx hb hc.2.2.1 (hc.2.2.2 _ (mem_g 1556 (by decide +kernel) rfl)) dX12_chance_40 ?_
          cases hf
          exact hQ _ _ _ _ dX12_chance_43 hw
def mf_mean_L35 (N : Nat) (c3 : Int32) (c4 : Int32) (c5 : Int32) : Nat → mS → Int32 → Int32 → Option (Int32 × mS)
  | 0, _, _, _ => none
  | n + 1, S8, v6, v7 => (if (S8.1 10 0) ≤ v7 then some (v6, S8) else (bd1 (mf_cases N S8 c3 c4 v7) fun S9 => (if (S9.1 52 0) ≤ v6 then mf_mean_L35 N c3 c4 c5 n S9 v6 (v7 + 1) else mf_mean_L35 N c3 c4 c5 n S9 (S9.1 52 0) (v7 + 1))))
set_option maxRecDepth 100000 in
theorem wm_mean_L35 {p : Program} {l : Launch} {e : Env} {R : Room} {s : State} {m : MethodId} {args : Array Value} {below : List Frame} {meth : Method} {c : Code} {Q : State → Prop} {g : mG} {A : Nat → Prop} {H0 : Heap} (hc : qC RX12 cX12_mean p s m args c) (hR : qRoom R 6) (hml : c.maxLocals = 8) (N : Nat) (c3 : Int32) (c4 : Int32) (c5 : Int32) : ∀ (n : Nat) (S8 : mS) (v6 : Int32) (v7 : Int32) (X : Int32 × mS) (H : Heap) (locs : List Loc) (ls : Array Slot), mf_mean_L35 N c3 c4 c5 n S8 v6 v7 = some X → mI g A H0 s S8 H locs → lv_has ls 8 [(0, .ref (mr g 0)), (1, .int c3), (2, .int c4), (3, .int c5), (4, .int v6), (5, .int v7)] → (∀ (H : Heap) (locs : List Loc) (ls : Array Slot), mI g A H0 s X.2 H locs → lv_has ls 8 [(0, .ref (mr g 0)), (1, .int c3), (2, .int c4), (3, .int c5), (4, .int X.1)] → W p l e R s m args below meth c H locs 0 0 Q (F0 m 78 ls [])) → W p l e R s m args below meth c H locs 0 0 Q (F0 m 35 ls []) := by
  have hx := hc.1
  have hb := hc.2.1
  intro n
  induction n with
  | zero => intro _ _ _ X H locs ls hf; exact nomatch (show none = some X from hf)
  | succ n ih =>
    intro S8 v6 v7 X H locs ls hf hw hl kx
    rw [mf_mean_L35] at hf
    refine lv_iload hx hb dX12_mean_35 (lv_at hl 5 rfl) ?_
    refine lv_aload_n hx hb dX12_mean_37 rfl (lv_at hl 0 rfl) ?_
    refine m_g10 hc hw dX12_mean_38 ?_
    refine lv_icmp_ge (tgt := 78) hx hb dX12_mean_41 (by decide) (fun cn32 => ?_) (fun cn32 => ?_)
    · have hf := (if_pos cn32).symm.trans hf
      cases hf
      exact kx _ _ _ hw (lv_sub hl [0, 1, 2, 3, 4] rfl)
    · have hf := (if_neg cn32).symm.trans hf
      refine lv_aload_n hx hb dX12_mean_44 rfl (lv_at hl 0 rfl) ?_
      refine lv_iload_n hx hb dX12_mean_45 rfl (lv_at hl 1 rfl) ?_
      refine lv_iload_n hx hb dX12_mean_46 rfl (lv_at hl 2 rfl) ?_
      refine lv_iload hx hb dX12_mean_47 (lv_at hl 5 rfl) ?_
      obtain ⟨S9, hcall, hf⟩ := bd1_some hf
      refine m_cvv (As := [.int c3, .int c4, .int v7]) (rest := []) hc hw hR (hml.trans hl.1.symm) (cm_cases l N S8 c3 c4 v7 S9 hcall) mq_cases rfl (by decide) rfl rfl rfl (Nat.le_of_ble_eq_true rfl) dX12_mean_49 (fun H locs hw => ?_) ⟨Nat.zero_le _, Nat.zero_le _⟩
      refine lv_aload_n hx hb dX12_mean_52 rfl (lv_at hl 0 rfl) ?_
      refine m_g52 hc hw dX12_mean_53 ?_
      refine lv_iload hx hb dX12_mean_56 (lv_at hl 4 rfl) ?_
      refine lv_icmp_le (tgt := 68) hx hb dX12_mean_58 (by decide) (fun cn33 => ?_) (fun cn33 => ?_)
      · have hf := (if_pos cn33).symm.trans hf
        refine lv_iload hx hb dX12_mean_68 (lv_at hl 4 rfl) ?_
        refine lv_istore (lv' := [(4, .int v6), (0, .ref (mr g 0)), (1, .int c3), (2, .int c4), (3, .int c5), (5, .int v7)]) hx hb dX12_mean_70 hl (by decide) rfl (fun ls hl => ?_)
        refine lv_iinc (lv' := [(5, .int (v7 + 1)), (4, .int v6), (0, .ref (mr g 0)), (1, .int c3), (2, .int c4), (3, .int c5)]) hx hb dX12_mean_72 hl (k := 5) rfl rfl (by decide) rfl (fun ls hl => ?_)
        refine lv_goto (tgt := 35) hx hb dX12_mean_75 (by decide) ?_
        exact ih _ _ _ X _ _ _ hf hw (lv_sub hl [2, 3, 4, 5, 1, 0] rfl) kx
      · have hf := (if_neg cn33).symm.trans hf
        refine lv_aload_n hx hb dX12_mean_61 rfl (lv_at hl 0 rfl) ?_
        refine m_g52 hc hw dX12_mean_62 ?_
        refine lv_goto (tgt := 70) hx hb dX12_mean_65 (by decide) ?_
        refine lv_istore (lv' := [(4, .int (S9.1 52 0)), (0, .ref (mr g 0)), (1, .int c3), (2, .int c4), (3, .int c5), (5, .int v7)]) hx hb dX12_mean_70 hl (by decide) rfl (fun ls hl => ?_)
        refine lv_iinc (lv' := [(5, .int (v7 + 1)), (4, .int (S9.1 52 0)), (0, .ref (mr g 0)), (1, .int c3), (2, .int c4), (3, .int c5)]) hx hb dX12_mean_72 hl (k := 5) rfl rfl (by decide) rfl (fun ls hl => ?_)
        refine lv_goto (tgt := 35) hx hb dX12_mean_75 (by decide) ?_
        exact ih _ _ _ X _ _ _ hf hw (lv_sub hl [2, 3, 4, 5, 1, 0] rfl) kx
def mf_mean_L84 (N : Nat) (c12 : Int32) (c13 : Int32) (c14 : Int32) (c15 : Int32) : Nat → mS → Int64 → Int32 → Option (Int64 × mS)
  | 0, _, _, _ => none
  | n + 1, S18, v16, v17 => (if (S18.1 10 0) ≤ v17 then some (v16, S18) else (bd1 (mf_cases N S18 c12 c13 v17) fun S19 => (bd2 (mf_likeOf N S19 c12 c13 v17) fun v20 S21 => (bd1 (mf_allCounts N S21) fun v22 => (bd1 (mf_power N v22.toInt64 (c15 - (S21.1 52 0))) fun v23 => mf_mean_L84 N c12 c13 c14 c15 n S21 (v16 + ((v20.toInt64 * (S21.2 53 0)) * v23)) (v17 + 1))))))
set_option maxRecDepth 100000 in
theorem wm_mean_L84 {p : Program} {l : Launch} {e : Env} {R : Room} {s : State} {m : MethodId} {args : Array Value} {below : List Frame} {meth : Method} {c : Code} {Q : State → Prop} {g : mG} {A : Nat → Prop} {H0 : Heap} (hc : qC RX12 cX12_mean p s m args c) (hR : qRoom R 6) (hml : c.maxLocals = 8) (N : Nat) (c12 : Int32) (c13 : Int32) (c14 : Int32) (c15 : Int32) : ∀ (n : Nat) (S18 : mS) (v16 : Int64) (v17 : Int32) (X : Int64 × mS) (H : Heap) (locs : List Loc) (ls : Array Slot), mf_mean_L84 N c12 c13 c14 c15 n S18 v16 v17 = some X → mI g A H0 s S18 H locs → lv_has ls 8 [(0, .ref (mr g 0)), (1, .int c12), (2, .int c13), (3, .int c14), (4, .int c15), (5, .long v16), (7, .int v17)] → (∀ (H : Heap) (locs : List Loc) (ls : Array Slot), mI g A H0 s X.2 H locs → lv_has ls 8 [(0, .ref (mr g 0)), (3, .int c14), (4, .int c15), (5, .long X.1)] → W p l e R s m args below meth c H locs 0 0 Q (F0 m 142 ls [])) → W p l e R s m args below meth c H locs 0 0 Q (F0 m 84 ls []) := by
  have hx := hc.1
  have hb := hc.2.1
  intro n
  induction n with
  | zero => intro _ _ _ X H locs ls hf; exact nomatch (show none = some X from hf)
  | succ n ih =>
    intro S18 v16 v17 X H locs ls hf hw hl kx
    rw [mf_mean_L84] at hf
    refine lv_iload hx hb dX12_mean_84 (lv_at hl 6 rfl) ?_
    refine lv_aload_n hx hb dX12_mean_86 rfl (lv_at hl 0 rfl) ?_
    refine m_g10 hc hw dX12_mean_87 ?_
    refine lv_icmp_ge (tgt := 142) hx hb dX12_mean_90 (by decide) (fun cn36 => ?_) (fun cn36 => ?_)
    · have hf := (if_pos cn36).symm.trans hf
      cases hf
      exact kx _ _ _ hw (lv_sub hl [0, 3, 4, 5] rfl)
    · have hf := (if_neg cn36).symm.trans hf
      refine lv_aload_n hx hb dX12_mean_93 rfl (lv_at hl 0 rfl) ?_
      refine lv_iload_n hx hb dX12_mean_94 rfl (lv_at hl 1 rfl) ?_
      refine lv_iload_n hx hb dX12_mean_95 rfl (lv_at hl 2 rfl) ?_
      refine lv_iload hx hb dX12_mean_96 (lv_at hl 6 rfl) ?_
      obtain ⟨S19, hcall, hf⟩ := bd1_some hf
      refine m_cvv (As := [.int c12, .int c13, .int v17]) (rest := []) hc hw hR (hml.trans hl.1.symm) (cm_cases l N S18 c12 c13 v17 S19 hcall) mq_cases rfl (by decide) rfl rfl rfl (Nat.le_of_ble_eq_true rfl) dX12_mean_98 (fun H locs hw => ?_) ⟨Nat.zero_le _, Nat.zero_le _⟩
      refine lv_lload hx hb dX12_mean_101 (lv_at hl 5 rfl) ?_
      refine lv_aload_n hx hb dX12_mean_103 rfl (lv_at hl 0 rfl) ?_
      refine lv_iload_n hx hb dX12_mean_104 rfl (lv_at hl 1 rfl) ?_
      refine lv_iload_n hx hb dX12_mean_105 rfl (lv_at hl 2 rfl) ?_
      refine lv_iload hx hb dX12_mean_106 (lv_at hl 6 rfl) ?_
      obtain ⟨v20, S21, hcall, hf⟩ := bd2_some hf
      refine m_cvi (As := [.int c12, .int c13, .int v17]) (rest := [.long v16]) hc hw hR (hml.trans hl.1.symm) (cm_likeOf l N S19 c12 c13 v17 v20 S21 hcall) mq_likeOf rfl (by decide) rfl rfl rfl (Nat.le_of_ble_eq_true rfl) dX12_mean_108 (fun H locs hw => ?_) ⟨Nat.zero_le _, Nat.zero_le _⟩
      refine lv_i2l hx hb dX12_mean_111 rfl ?_
      refine lv_aload_n hx hb dX12_mean_112 rfl (lv_at hl 0 rfl) ?_
      refine m_g53 hc hw dX12_mean_113 ?_
      refine lv_lmul hx hb dX12_mean_116 ?_
      refine lv_aload_n hx hb dX12_mean_117 rfl (lv_at hl 0 rfl) ?_
      obtain ⟨v22, hcall, hf⟩ := bd1_some hf
      refine m_cvi (As := []) (rest := [.long (v20.toInt64 * (S21.2 53 0)), .long v16]) hc hw hR (hml.trans hl.1.symm) (cm_allCounts l N S21 v22 hcall) mq_allCounts rfl (by decide) rfl rfl rfl (Nat.le_of_ble_eq_true rfl) dX12_mean_118 (fun H locs hw => ?_) ⟨Nat.zero_le _, Nat.zero_le _⟩
      refine lv_i2l hx hb dX12_mean_121 rfl ?_
      refine lv_iload hx hb dX12_mean_122 (lv_at hl 4 rfl) ?_
      refine lv_aload_n hx hb dX12_mean_124 rfl (lv_at hl 0 rfl) ?_
      refine m_g52 hc hw dX12_mean_125 ?_
      refine lv_isub hx hb dX12_mean_128 ?_
      obtain ⟨v23, hcall, hf⟩ := bd1_some hf
      refine m_csl (As := [.long v22.toInt64, .int (c15 - (S21.1 52 0))]) (rest := [.long (v20.toInt64 * (S21.2 53 0)), .long v16]) hc hw hR (hml.trans hl.1.symm) (cm_power l N S21 v22.toInt64 (c15 - (S21.1 52 0)) v23 hcall) mq_power (by decide) rfl rfl rfl (Nat.le_of_ble_eq_true rfl) dX12_mean_129 (fun H locs hw => ?_) ⟨Nat.zero_le _, Nat.zero_le _⟩
      refine lv_lmul hx hb dX12_mean_132 ?_
      refine lv_ladd hx hb dX12_mean_133 ?_
      refine lv_lstore (lv' := [(5, .long (v16 + ((v20.toInt64 * (S21.2 53 0)) * v23))), (0, .ref (mr g 0)), (1, .int c12), (2, .int c13), (3, .int c14), (4, .int c15), (7, .int v17)]) hx hb dX12_mean_134 hl (by decide) rfl (fun ls hl => ?_)
      refine lv_iinc (lv' := [(7, .int (v17 + 1)), (5, .long (v16 + ((v20.toInt64 * (S21.2 53 0)) * v23))), (0, .ref (mr g 0)), (1, .int c12), (2, .int c13), (3, .int c14), (4, .int c15)]) hx hb dX12_mean_136 hl (k := 6) rfl rfl (by decide) rfl (fun ls hl => ?_)
      refine lv_goto (tgt := 84) hx hb dX12_mean_139 (by decide) ?_
      exact ih _ _ _ X _ _ _ hf hw (lv_sub hl [2, 3, 4, 5, 6, 1, 0] rfl) kx
def mf_mean (N : Nat) (S : mS) (a1 : Int32) (a2 : Int32) (a3 : Int32) : Option (Int64 × mS) := (bd1 (mf_isSeat N S a1 a2) fun v1 => (if v1 = true then (if (mf_in a3 0 1) = true then (bd1 (mf_allCounts N S) fun v2 => (if v2 = 0 then some ((-4611686018427387904), S) else (bd2 (mf_mean_L35 N a1 a2 a3 N S 0 0) fun v10 S11 => (bd2 (mf_mean_L84 N a1 a2 a3 v10 N S11 0 0) fun v24 S25 => (bd1 (mf_allCounts N S25) fun v26 => (bd1 (mf_power N v26.toInt64 v10) fun v27 => (bd1 (mf_lowest N v24 v27 a3) fun v28 => some (v28, S25)))))))) else some ((-4611686018427387904), S)) else some ((-4611686018427387904), S)))
set_option maxRecDepth 100000 in
theorem cm_mean (l : Launch) (N : Nat) (S : mS) (a1 : Int32) (a2 : Int32) (a3 : Int32) (res : Int64) (S1 : mS) (hf : mf_mean N S a1 a2 a3 = some (res, S1)) : mMl l yX12_mean cX12_mean 8 6 (fun g => [.ref (mr g 0), .int a1, .int a2, .int a3]) S res S1 := by
  refine mMl_of (own := RX12) (by decide) rfl (fun g => Nat.le_of_ble_eq_true rfl) ?_
  intro p e R s m args below meth c Q g A H0 H locs ls hc hR hml hw hl hQ
  have hl : lv_has ls 8 [(0, .ref (mr g 0)), (1, .int a1), (2, .int a2), (3, .int a3)] := hl
  have hx := hc.1
  have hb := hc.2.1
  unfold mf_mean at hf
  refine lv_aload_n hx hb dX12_mean_0 rfl (lv_at hl 0 rfl) ?_
  refine lv_iload_n hx hb dX12_mean_1 rfl (lv_at hl 1 rfl) ?_
  refine lv_iload_n hx hb dX12_mean_2 rfl (lv_at hl 2 rfl) ?_
  obtain ⟨v1, hcall, hf⟩ := bd1_some hf
  refine m_cvi (As := [.int a1, .int a2]) (rest := []) hc hw hR (hml.trans hl.1.symm) (cm_isSeat l N S a1 a2 v1 hcall) mq_isSeat rfl (by decide) rfl rfl rfl (Nat.le_of_ble_eq_true rfl) dX12_mean_3 (fun H locs hw => ?_) ⟨Nat.zero_le _, Nat.zero_le _⟩
  refine lv_if_eqb (tgt := 25) hx hb dX12_mean_6 (by decide) (fun cn29 => ?_) (fun cn29 => ?_)
  · have hf := (if_neg cn29).symm.trans hf
    refine lv_ldc2 (v := (-4611686018427387904)) hx hb hc.2.2.1 (hc.2.2.2 _ (mem_g 1556 (by decide +kernel) rfl)) dX12_mean_25 ?_
    cases hf
    exact hQ _ _ _ _ dX12_mean_28 hw
  · have hf := (if_pos cn29).symm.trans hf
    refine lv_iload_n hx hb dX12_mean_9 rfl (lv_at hl 3 rfl) ?_
    refine lv_iconst (v := 0) hx hb dX12_mean_10 (by decide) ?_
    refine lv_iconst (v := 1) hx hb dX12_mean_11 (by decide) ?_
    refine m_csi (As := [.int a3, .int 0, .int 1]) (rest := []) hc hw hR (hml.trans hl.1.symm) (cm_in l S a3 0 1 _ rfl) mq_in (by decide) rfl rfl rfl (Nat.le_of_ble_eq_true rfl) dX12_mean_12 (fun H locs hw => ?_) ⟨Nat.zero_le _, Nat.zero_le _⟩
    refine lv_if_eqb (tgt := 25) hx hb dX12_mean_15 (by decide) (fun cn30 => ?_) (fun cn30 => ?_)
    · have hf := (if_neg cn30).symm.trans hf
      refine lv_ldc2 (v := (-4611686018427387904)) hx hb hc.2.2.1 (hc.2.2.2 _ (mem_g 1556 (by decide +kernel) rfl)) dX12_mean_25 ?_
      cases hf
      exact hQ _ _ _ _ dX12_mean_28 hw
    · have hf := (if_pos cn30).symm.trans hf
      refine lv_aload_n hx hb dX12_mean_18 rfl (lv_at hl 0 rfl) ?_
      obtain ⟨v2, hcall, hf⟩ := bd1_some hf
      refine m_cvi (As := []) (rest := []) hc hw hR (hml.trans hl.1.symm) (cm_allCounts l N S v2 hcall) mq_allCounts rfl (by decide) rfl rfl rfl (Nat.le_of_ble_eq_true rfl) dX12_mean_19 (fun H locs hw => ?_) ⟨Nat.zero_le _, Nat.zero_le _⟩
      refine lv_if_ne (tgt := 29) hx hb dX12_mean_22 (by decide) (fun cn31 => ?_) (fun cn31 => ?_)
      · have hf := (if_neg cn31).symm.trans hf
        refine lv_iconst (v := 0) hx hb dX12_mean_29 (by decide) ?_
        refine lv_istore (lv' := [(4, .int 0), (0, .ref (mr g 0)), (1, .int a1), (2, .int a2), (3, .int a3)]) hx hb dX12_mean_30 hl (by decide) rfl (fun ls hl => ?_)
        refine lv_iconst (v := 0) hx hb dX12_mean_32 (by decide) ?_
        refine lv_istore (lv' := [(5, .int 0), (4, .int 0), (0, .ref (mr g 0)), (1, .int a1), (2, .int a2), (3, .int a3)]) hx hb dX12_mean_33 hl (by decide) rfl (fun ls hl => ?_)
        obtain ⟨v10, S11, hX, hf⟩ := bd2_some hf
        refine wm_mean_L35 hc hR hml N a1 a2 a3 N _ _ _ _ _ _ _ hX hw (lv_sub hl [2, 3, 4, 5, 1, 0] rfl) (fun H locs ls hw hl => ?_)
        refine lv_lconst (v := 0) hx hb dX12_mean_78 rfl ?_
        refine lv_lstore (lv' := [(5, .long 0), (0, .ref (mr g 0)), (1, .int a1), (2, .int a2), (3, .int a3), (4, .int v10)]) hx hb dX12_mean_79 hl (by decide) rfl (fun ls hl => ?_)
        refine lv_iconst (v := 0) hx hb dX12_mean_81 (by decide) ?_
        refine lv_istore (lv' := [(7, .int 0), (5, .long 0), (0, .ref (mr g 0)), (1, .int a1), (2, .int a2), (3, .int a3), (4, .int v10)]) hx hb dX12_mean_82 hl (by decide) rfl (fun ls hl => ?_)
        obtain ⟨v24, S25, hX, hf⟩ := bd2_some hf
        refine wm_mean_L84 hc hR hml N a1 a2 a3 v10 N _ _ _ _ _ _ _ hX hw (lv_sub hl [2, 3, 4, 5, 6, 1, 0] rfl) (fun H locs ls hw hl => ?_)
        refine lv_lload hx hb dX12_mean_142 (lv_at hl 3 rfl) ?_
        refine lv_aload_n hx hb dX12_mean_144 rfl (lv_at hl 0 rfl) ?_
        obtain ⟨v26, hcall, hf⟩ := bd1_some hf
        refine m_cvi (As := []) (rest := [.long v24]) hc hw hR (hml.trans hl.1.symm) (cm_allCounts l N S25 v26 hcall) mq_allCounts rfl (by decide) rfl rfl rfl (Nat.le_of_ble_eq_true rfl) dX12_mean_145 (fun H locs hw => ?_) ⟨Nat.zero_le _, Nat.zero_le _⟩
        refine lv_i2l hx hb dX12_mean_148 rfl ?_
        refine lv_iload hx hb dX12_mean_149 (lv_at hl 2 rfl) ?_
        obtain ⟨v27, hcall, hf⟩ := bd1_some hf
        refine m_csl (As := [.long v26.toInt64, .int v10]) (rest := [.long v24]) hc hw hR (hml.trans hl.1.symm) (cm_power l N S25 v26.toInt64 v10 v27 hcall) mq_power (by decide) rfl rfl rfl (Nat.le_of_ble_eq_true rfl) dX12_mean_151 (fun H locs hw => ?_) ⟨Nat.zero_le _, Nat.zero_le _⟩
        refine lv_iload_n hx hb dX12_mean_154 rfl (lv_at hl 1 rfl) ?_
        obtain ⟨v28, hcall, hf⟩ := bd1_some hf
        refine m_csl (As := [.long v24, .long v27, .int a3]) (rest := []) hc hw hR (hml.trans hl.1.symm) (cm_lowest l N S25 v24 v27 a3 v28 hcall) mq_lowest (by decide) rfl rfl rfl (Nat.le_of_ble_eq_true rfl) dX12_mean_155 (fun H locs hw => ?_) ⟨Nat.zero_le _, Nat.zero_le _⟩
        cases hf
        exact hQ _ _ _ _ dX12_mean_158 hw
      · have hf := (if_pos cn31).symm.trans hf
        refine lv_ldc2 (v := (-4611686018427387904)) hx hb hc.2.2.1 (hc.2.2.2 _ (mem_g 1556 (by decide +kernel) rfl)) dX12_mean_25 ?_
        cases hf
        exact hQ _ _ _ _ dX12_mean_28 hw
def mf_sees (N : Nat) (S : mS) (a1 : Int32) (a2 : Int32) : Option (Int32) := (bd1 (mf_isSeat N S a1 a2) fun v1 => (if v1 = true then (bd1 (mf_seesOf N S a1 a2) fun v2 => some v2) else some (-5)))
set_option maxRecDepth 100000 in
theorem cm_sees (l : Launch) (N : Nat) (S : mS) (a1 : Int32) (a2 : Int32) (res : Int32) (hf : mf_sees N S a1 a2 = some res) : mMi l yX12_sees cX12_sees 3 .int 7 (fun g => [.ref (mr g 0), .int a1, .int a2]) S res S := by
  refine mMi_of (own := RX12) (by decide) rfl rfl (fun g => Nat.le_of_ble_eq_true rfl) ?_
  intro p e R s m args below meth c Q g A H0 H locs ls hc hR hml hw hl hQ
  have hl : lv_has ls 3 [(0, .ref (mr g 0)), (1, .int a1), (2, .int a2)] := hl
  have hx := hc.1
  have hb := hc.2.1
  unfold mf_sees at hf
  refine lv_aload_n hx hb dX12_sees_0 rfl (lv_at hl 0 rfl) ?_
  refine lv_iload_n hx hb dX12_sees_1 rfl (lv_at hl 1 rfl) ?_
  refine lv_iload_n hx hb dX12_sees_2 rfl (lv_at hl 2 rfl) ?_
  obtain ⟨v1, hcall, hf⟩ := bd1_some hf
  refine m_cvi (As := [.int a1, .int a2]) (rest := []) hc hw hR (hml.trans hl.1.symm) (cm_isSeat l N S a1 a2 v1 hcall) mq_isSeat rfl (by decide) rfl rfl rfl (Nat.le_of_ble_eq_true rfl) dX12_sees_3 (fun H locs hw => ?_) ⟨Nat.zero_le _, Nat.zero_le _⟩
  refine lv_if_eqb (tgt := 18) hx hb dX12_sees_6 (by decide) (fun cn3 => ?_) (fun cn3 => ?_)
  · have hf := (if_neg cn3).symm.trans hf
    refine lv_bipush (v := (-5)) hx hb dX12_sees_18 (by decide) ?_
    cases hf
    exact hQ _ _ _ _ dX12_sees_20 hw
  · have hf := (if_pos cn3).symm.trans hf
    refine lv_aload_n hx hb dX12_sees_9 rfl (lv_at hl 0 rfl) ?_
    refine lv_iload_n hx hb dX12_sees_10 rfl (lv_at hl 1 rfl) ?_
    refine lv_iload_n hx hb dX12_sees_11 rfl (lv_at hl 2 rfl) ?_
    obtain ⟨v2, hcall, hf⟩ := bd1_some hf
    refine m_cvi (As := [.int a1, .int a2]) (rest := []) hc hw hR (hml.trans hl.1.symm) (cm_seesOf l N S a1 a2 v2 hcall) mq_seesOf rfl (by decide) rfl rfl rfl (Nat.le_of_ble_eq_true rfl) dX12_sees_12 (fun H locs hw => ?_) ⟨Nat.zero_le _, Nat.zero_le _⟩
    refine lv_goto (tgt := 20) hx hb dX12_sees_15 (by decide) ?_
    cases hf
    exact hQ _ _ _ _ dX12_sees_20 hw
def mf_worth (N : Nat) (S : mS) (a1 : Int32) (a2 : Int32) : Option (Int32 × mS) := (bd1 (mf_isSeat N S a1 a2) fun v1 => (if v1 = true then (bd2 (mf_worthOf N S a1 a2) fun v2 S3 => some (v2, S3)) else some ((-5), S)))
set_option maxRecDepth 100000 in
theorem cm_worth (l : Launch) (N : Nat) (S : mS) (a1 : Int32) (a2 : Int32) (res : Int32) (S1 : mS) (hf : mf_worth N S a1 a2 = some (res, S1)) : mMi l yX12_worth cX12_worth 3 .int 7 (fun g => [.ref (mr g 0), .int a1, .int a2]) S res S1 := by
  refine mMi_of (own := RX12) (by decide) rfl rfl (fun g => Nat.le_of_ble_eq_true rfl) ?_
  intro p e R s m args below meth c Q g A H0 H locs ls hc hR hml hw hl hQ
  have hl : lv_has ls 3 [(0, .ref (mr g 0)), (1, .int a1), (2, .int a2)] := hl
  have hx := hc.1
  have hb := hc.2.1
  unfold mf_worth at hf
  refine lv_aload_n hx hb dX12_worth_0 rfl (lv_at hl 0 rfl) ?_
  refine lv_iload_n hx hb dX12_worth_1 rfl (lv_at hl 1 rfl) ?_
  refine lv_iload_n hx hb dX12_worth_2 rfl (lv_at hl 2 rfl) ?_
  obtain ⟨v1, hcall, hf⟩ := bd1_some hf
  refine m_cvi (As := [.int a1, .int a2]) (rest := []) hc hw hR (hml.trans hl.1.symm) (cm_isSeat l N S a1 a2 v1 hcall) mq_isSeat rfl (by decide) rfl rfl rfl (Nat.le_of_ble_eq_true rfl) dX12_worth_3 (fun H locs hw => ?_) ⟨Nat.zero_le _, Nat.zero_le _⟩
  refine lv_if_eqb (tgt := 18) hx hb dX12_worth_6 (by decide) (fun cn4 => ?_) (fun cn4 => ?_)
  · have hf := (if_neg cn4).symm.trans hf
    refine lv_bipush (v := (-5)) hx hb dX12_worth_18 (by decide) ?_
    cases hf
    exact hQ _ _ _ _ dX12_worth_20 hw
  · have hf := (if_pos cn4).symm.trans hf
    refine lv_aload_n hx hb dX12_worth_9 rfl (lv_at hl 0 rfl) ?_
    refine lv_iload_n hx hb dX12_worth_10 rfl (lv_at hl 1 rfl) ?_
    refine lv_iload_n hx hb dX12_worth_11 rfl (lv_at hl 2 rfl) ?_
    obtain ⟨v2, S3, hcall, hf⟩ := bd2_some hf
    refine m_cvi (As := [.int a1, .int a2]) (rest := []) hc hw hR (hml.trans hl.1.symm) (cm_worthOf l N S a1 a2 v2 S3 hcall) mq_worthOf rfl (by decide) rfl rfl rfl (Nat.le_of_ble_eq_true rfl) dX12_worth_12 (fun H locs hw => ?_) ⟨Nat.zero_le _, Nat.zero_le _⟩
    refine lv_goto (tgt := 20) hx hb dX12_worth_15 (by decide) ?_
    cases hf
    exact hQ _ _ _ _ dX12_worth_20 hw
def mf_priceOf (N : Nat) (S : mS) (a1 : Int32) (a2 : Int32) : Option (Int32 × mS) := (bd2 (mf_worthOf N S a1 a2) fun v1 S2 => (bd1 (mf_placeOf N S2 a1 a2) fun v3 => (bd1 (mf_floorOf N S2 a1) fun v4 => (if ok ((8 * a1) + a2) 48 then (bd1 (mf_names N S2 v1 0 a1 v3 v4 (S2.1 9 ((8 * a1) + a2).toNatClampNeg)) fun S6 => (bd2 (mf_says N S6 1 999) fun v7 S8 => some (v7, S8))) else none))))
set_option maxRecDepth 100000 in
theorem cm_priceOf (l : Launch) (N : Nat) (S : mS) (a1 : Int32) (a2 : Int32) (res : Int32) (S1 : mS) (hf : mf_priceOf N S a1 a2 = some (res, S1)) : mMi l yX12_priceOf cX12_priceOf 4 .int 7 (fun g => [.ref (mr g 0), .int a1, .int a2]) S res S1 := by
  refine mMi_of (own := RX12) (by decide) rfl rfl (fun g => Nat.le_of_ble_eq_true rfl) ?_
  intro p e R s m args below meth c Q g A H0 H locs ls hc hR hml hw hl hQ
  have hl : lv_has ls 4 [(0, .ref (mr g 0)), (1, .int a1), (2, .int a2)] := hl
  have hx := hc.1
  have hb := hc.2.1
  unfold mf_priceOf at hf
  refine lv_aload_n hx hb dX12_priceOf_0 rfl (lv_at hl 0 rfl) ?_
  refine lv_iload_n hx hb dX12_priceOf_1 rfl (lv_at hl 1 rfl) ?_
  refine lv_iload_n hx hb dX12_priceOf_2 rfl (lv_at hl 2 rfl) ?_
  obtain ⟨v1, S2, hcall, hf⟩ := bd2_some hf
  refine m_cvi (As := [.int a1, .int a2]) (rest := []) hc hw hR (hml.trans hl.1.symm) (cm_worthOf l N S a1 a2 v1 S2 hcall) mq_worthOf rfl (by decide) rfl rfl rfl (Nat.le_of_ble_eq_true rfl) dX12_priceOf_3 (fun H locs hw => ?_) ⟨Nat.zero_le _, Nat.zero_le _⟩
  refine lv_istore_n (lv' := [(3, .int v1), (0, .ref (mr g 0)), (1, .int a1), (2, .int a2)]) hx hb dX12_priceOf_6 rfl hl (by decide) rfl (fun ls hl => ?_)
  refine lv_aload_n hx hb dX12_priceOf_7 rfl (lv_at hl 1 rfl) ?_
  refine lv_iload_n hx hb dX12_priceOf_8 rfl (lv_at hl 0 rfl) ?_
  refine lv_iconst (v := 0) hx hb dX12_priceOf_9 (by decide) ?_
  refine lv_iload_n hx hb dX12_priceOf_10 rfl (lv_at hl 2 rfl) ?_
  refine lv_aload_n hx hb dX12_priceOf_11 rfl (lv_at hl 1 rfl) ?_
  refine lv_iload_n hx hb dX12_priceOf_12 rfl (lv_at hl 2 rfl) ?_
  refine lv_iload_n hx hb dX12_priceOf_13 rfl (lv_at hl 3 rfl) ?_
  obtain ⟨v3, hcall, hf⟩ := bd1_some hf
  refine m_cvi (As := [.int a1, .int a2]) (rest := [.int a1, .int 0, .int v1, .ref (mr g 0)]) hc hw hR (hml.trans hl.1.symm) (cm_placeOf l N S2 a1 a2 v3 hcall) mq_placeOf rfl (by decide) rfl rfl rfl (Nat.le_of_ble_eq_true rfl) dX12_priceOf_14 (fun H locs hw => ?_) ⟨Nat.zero_le _, Nat.zero_le _⟩
  refine lv_aload_n hx hb dX12_priceOf_17 rfl (lv_at hl 1 rfl) ?_
  refine lv_iload_n hx hb dX12_priceOf_18 rfl (lv_at hl 2 rfl) ?_
  obtain ⟨v4, hcall, hf⟩ := bd1_some hf
  refine m_cvi (As := [.int a1]) (rest := [.int v3, .int a1, .int 0, .int v1, .ref (mr g 0)]) hc hw hR (hml.trans hl.1.symm) (cm_floorOf l N S2 a1 v4 hcall) mq_floorOf rfl (by decide) rfl rfl rfl (Nat.le_of_ble_eq_true rfl) dX12_priceOf_19 (fun H locs hw => ?_) ⟨Nat.zero_le _, Nat.zero_le _⟩
  refine lv_aload_n hx hb dX12_priceOf_22 rfl (lv_at hl 1 rfl) ?_
  refine m_g9 hc hw dX12_priceOf_23 ?_
  refine lv_bipush (v := 8) hx hb dX12_priceOf_26 (by decide) ?_
  refine lv_iload_n hx hb dX12_priceOf_28 rfl (lv_at hl 2 rfl) ?_
  refine lv_imul hx hb dX12_priceOf_29 ?_
  refine lv_iload_n hx hb dX12_priceOf_30 rfl (lv_at hl 3 rfl) ?_
  refine lv_iadd hx hb dX12_priceOf_31 ?_
  obtain ⟨hi5, hf⟩ := gd_some hf
  have hi5 := ok_in hi5
  refine m_l9 hc hw hi5 dX12_priceOf_32 ?_
  obtain ⟨S6, hcall, hf⟩ := bd1_some hf
  refine m_cvv (As := [.int v1, .int 0, .int a1, .int v3, .int v4, .int (S2.1 9 ((8 * a1) + a2).toNatClampNeg)]) (rest := []) hc hw hR (hml.trans hl.1.symm) (cm_names l N S2 v1 0 a1 v3 v4 (S2.1 9 ((8 * a1) + a2).toNatClampNeg) S6 hcall) mq_names rfl (by decide) rfl rfl rfl (Nat.le_of_ble_eq_true rfl) dX12_priceOf_33 (fun H locs hw => ?_) ⟨Nat.zero_le _, Nat.zero_le _⟩
  refine lv_aload_n hx hb dX12_priceOf_36 rfl (lv_at hl 1 rfl) ?_
  refine lv_iconst (v := 1) hx hb dX12_priceOf_37 (by decide) ?_
  refine lv_sipush (v := 999) hx hb dX12_priceOf_38 (by decide) ?_
  obtain ⟨v7, S8, hcall, hf⟩ := bd2_some hf
  refine m_cvi (As := [.int 1, .int 999]) (rest := []) hc hw hR (hml.trans hl.1.symm) (cm_says l N S6 1 999 v7 S8 hcall) mq_says rfl (by decide) rfl rfl rfl (Nat.le_of_ble_eq_true rfl) dX12_priceOf_41 (fun H locs hw => ?_) ⟨Nat.zero_le _, Nat.zero_le _⟩
  cases hf
  exact hQ _ _ _ _ dX12_priceOf_44 hw
theorem mq_priceOf : qCv RX12 304 yX12_priceOf cX12_priceOf 4 (some .int) 2 := ⟨⟨(mem_g 1512 (by decide +kernel) rfl), (mem_g 1514 (by decide +kernel) rfl), (mem_g 62 (by decide +kernel) rfl), (mem_g 89 (by decide +kernel) rfl), (mem_g 1515 (by decide +kernel) rfl)⟩, by decide, by decide +kernel, by decide⟩
def mf_allWorth_L14 (N : Nat) (c5 : Int32) : Nat → mS → Int32 → Int32 → Option (Int32 × mS)
  | 0, _, _, _ => none
  | n + 1, S7, v4, v6 => (if ok c5 6 then (if (S7.1 5 c5.toNatClampNeg) ≤ v6 then some (v4, S7) else (bd2 (mf_worthOf N S7 c5 v6) fun v9 S10 => mf_allWorth_L14 N c5 n S10 (v4 + v9) (v6 + 1))) else none)
set_option maxRecDepth 100000 in
theorem wm_allWorth_L14 {p : Program} {l : Launch} {e : Env} {R : Room} {s : State} {m : MethodId} {args : Array Value} {below : List Frame} {meth : Method} {c : Code} {Q : State → Prop} {g : mG} {A : Nat → Prop} {H0 : Heap} (hc : qC RX12 cX12_allWorth p s m args c) (hR : qRoom R 7) (hml : c.maxLocals = 4) (N : Nat) (c5 : Int32) : ∀ (n : Nat) (S7 : mS) (v4 : Int32) (v6 : Int32) (X : Int32 × mS) (H : Heap) (locs : List Loc) (ls : Array Slot), mf_allWorth_L14 N c5 n S7 v4 v6 = some X → mI g A H0 s S7 H locs → lv_has ls 4 [(0, .ref (mr g 0)), (1, .int v4), (2, .int c5), (3, .int v6)] → (∀ (H : Heap) (locs : List Loc) (ls : Array Slot), mI g A H0 s X.2 H locs → lv_has ls 4 [(0, .ref (mr g 0)), (1, .int X.1), (2, .int c5)] → W p l e R s m args below meth c H locs 0 0 Q (F0 m 39 ls [])) → W p l e R s m args below meth c H locs 0 0 Q (F0 m 14 ls []) := by
  have hx := hc.1
  have hb := hc.2.1
  intro n
  induction n with
  | zero => intro _ _ _ X H locs ls hf; exact nomatch (show none = some X from hf)
  | succ n ih =>
    intro S7 v4 v6 X H locs ls hf hw hl kx
    rw [mf_allWorth_L14] at hf
    refine lv_iload_n hx hb dX12_allWorth_14 rfl (lv_at hl 3 rfl) ?_
    refine lv_aload_n hx hb dX12_allWorth_15 rfl (lv_at hl 0 rfl) ?_
    refine m_g5 hc hw dX12_allWorth_16 ?_
    refine lv_iload_n hx hb dX12_allWorth_19 rfl (lv_at hl 2 rfl) ?_
    obtain ⟨hi8, hf⟩ := gd_some hf
    have hi8 := ok_in hi8
    refine m_l5 hc hw hi8 dX12_allWorth_20 ?_
    refine lv_icmp_ge (tgt := 39) hx hb dX12_allWorth_21 (by decide) (fun cn16 => ?_) (fun cn16 => ?_)
    · have hf := (if_pos cn16).symm.trans hf
      cases hf
      exact kx _ _ _ hw (lv_sub hl [0, 1, 2] rfl)
    · have hf := (if_neg cn16).symm.trans hf
      refine lv_iload_n hx hb dX12_allWorth_24 rfl (lv_at hl 1 rfl) ?_
      refine lv_aload_n hx hb dX12_allWorth_25 rfl (lv_at hl 0 rfl) ?_
      refine lv_iload_n hx hb dX12_allWorth_26 rfl (lv_at hl 2 rfl) ?_
      refine lv_iload_n hx hb dX12_allWorth_27 rfl (lv_at hl 3 rfl) ?_
      obtain ⟨v9, S10, hcall, hf⟩ := bd2_some hf
      refine m_cvi (As := [.int c5, .int v6]) (rest := [.int v4]) hc hw hR (hml.trans hl.1.symm) (cm_worthOf l N S7 c5 v6 v9 S10 hcall) mq_worthOf rfl (by decide) rfl rfl rfl (Nat.le_of_ble_eq_true rfl) dX12_allWorth_28 (fun H locs hw => ?_) ⟨Nat.zero_le _, Nat.zero_le _⟩
      refine lv_iadd hx hb dX12_allWorth_31 ?_
      refine lv_istore_n (lv' := [(1, .int (v4 + v9)), (0, .ref (mr g 0)), (2, .int c5), (3, .int v6)]) hx hb dX12_allWorth_32 rfl hl (by decide) rfl (fun ls hl => ?_)
      refine lv_iinc (lv' := [(3, .int (v6 + 1)), (1, .int (v4 + v9)), (0, .ref (mr g 0)), (2, .int c5)]) hx hb dX12_allWorth_33 hl (k := 3) rfl rfl (by decide) rfl (fun ls hl => ?_)
      refine lv_goto (tgt := 14) hx hb dX12_allWorth_36 (by decide) ?_
      exact ih _ _ _ X _ _ _ hf hw (lv_sub hl [2, 1, 3, 0] rfl) kx
def mf_allWorth_L4 (N : Nat) : Nat → mS → Int32 → Int32 → Option (Int32 × mS)
  | 0, _, _, _ => none
  | n + 1, S3, v1, v2 => (if (S3.1 3 0) ≤ v2 then some (v1, S3) else (bd2 (mf_allWorth_L14 N v2 N S3 v1 0) fun v11 S12 => mf_allWorth_L4 N n S12 v11 (v2 + 1)))
set_option maxRecDepth 100000 in
theorem wm_allWorth_L4 {p : Program} {l : Launch} {e : Env} {R : Room} {s : State} {m : MethodId} {args : Array Value} {below : List Frame} {meth : Method} {c : Code} {Q : State → Prop} {g : mG} {A : Nat → Prop} {H0 : Heap} (hc : qC RX12 cX12_allWorth p s m args c) (hR : qRoom R 7) (hml : c.maxLocals = 4) (N : Nat) : ∀ (n : Nat) (S3 : mS) (v1 : Int32) (v2 : Int32) (X : Int32 × mS) (H : Heap) (locs : List Loc) (ls : Array Slot), mf_allWorth_L4 N n S3 v1 v2 = some X → mI g A H0 s S3 H locs → lv_has ls 4 [(0, .ref (mr g 0)), (1, .int v1), (2, .int v2)] → (∀ (H : Heap) (locs : List Loc) (ls : Array Slot), mI g A H0 s X.2 H locs → lv_has ls 4 [(1, .int X.1)] → W p l e R s m args below meth c H locs 0 0 Q (F0 m 45 ls [])) → W p l e R s m args below meth c H locs 0 0 Q (F0 m 4 ls []) := by
  have hx := hc.1
  have hb := hc.2.1
  intro n
  induction n with
  | zero => intro _ _ _ X H locs ls hf; exact nomatch (show none = some X from hf)
  | succ n ih =>
    intro S3 v1 v2 X H locs ls hf hw hl kx
    rw [mf_allWorth_L4] at hf
    refine lv_iload_n hx hb dX12_allWorth_4 rfl (lv_at hl 2 rfl) ?_
    refine lv_aload_n hx hb dX12_allWorth_5 rfl (lv_at hl 0 rfl) ?_
    refine m_g3 hc hw dX12_allWorth_6 ?_
    refine lv_icmp_ge (tgt := 45) hx hb dX12_allWorth_9 (by decide) (fun cn15 => ?_) (fun cn15 => ?_)
    · have hf := (if_pos cn15).symm.trans hf
      cases hf
      exact kx _ _ _ hw (lv_sub hl [1] rfl)
    · have hf := (if_neg cn15).symm.trans hf
      refine lv_iconst (v := 0) hx hb dX12_allWorth_12 (by decide) ?_
      refine lv_istore_n (lv' := [(3, .int 0), (0, .ref (mr g 0)), (1, .int v1), (2, .int v2)]) hx hb dX12_allWorth_13 rfl hl (by decide) rfl (fun ls hl => ?_)
      obtain ⟨v11, S12, hX, hf⟩ := bd2_some hf
      refine wm_allWorth_L14 hc hR hml N v2 N _ _ _ _ _ _ _ hX hw (lv_sub hl [1, 2, 3, 0] rfl) (fun H locs ls hw hl => ?_)
      refine lv_iinc (lv' := [(2, .int (v2 + 1)), (0, .ref (mr g 0)), (1, .int v11)]) hx hb dX12_allWorth_39 hl (k := 2) rfl rfl (by decide) rfl (fun ls hl => ?_)
      refine lv_goto (tgt := 4) hx hb dX12_allWorth_42 (by decide) ?_
      exact ih _ _ _ X _ _ _ hf hw (lv_sub hl [1, 2, 0] rfl) kx
def mf_allWorth (N : Nat) (S : mS) : Option (Int32 × mS) := (bd2 (mf_allWorth_L4 N N S 0 0) fun v13 S14 => some (v13, S14))
set_option maxRecDepth 100000 in
theorem cm_allWorth (l : Launch) (N : Nat) (S : mS) (res : Int32) (S1 : mS) (hf : mf_allWorth N S = some (res, S1)) : mMi l yX12_allWorth cX12_allWorth 4 .int 7 (fun g => [.ref (mr g 0)]) S res S1 := by
  refine mMi_of (own := RX12) (by decide) rfl rfl (fun g => Nat.le_of_ble_eq_true rfl) ?_
  intro p e R s m args below meth c Q g A H0 H locs ls hc hR hml hw hl hQ
  have hl : lv_has ls 4 [(0, .ref (mr g 0))] := hl
  have hx := hc.1
  have hb := hc.2.1
  unfold mf_allWorth at hf
  refine lv_iconst (v := 0) hx hb dX12_allWorth_0 (by decide) ?_
  refine lv_istore_n (lv' := [(1, .int 0), (0, .ref (mr g 0))]) hx hb dX12_allWorth_1 rfl hl (by decide) rfl (fun ls hl => ?_)
  refine lv_iconst (v := 0) hx hb dX12_allWorth_2 (by decide) ?_
  refine lv_istore_n (lv' := [(2, .int 0), (1, .int 0), (0, .ref (mr g 0))]) hx hb dX12_allWorth_3 rfl hl (by decide) rfl (fun ls hl => ?_)
  obtain ⟨v13, S14, hX, hf⟩ := bd2_some hf
  refine wm_allWorth_L4 hc hR hml N N _ _ _ _ _ _ _ hX hw (lv_sub hl [2, 1, 0] rfl) (fun H locs ls hw hl => ?_)
  refine lv_iload_n hx hb dX12_allWorth_45 rfl (lv_at hl 0 rfl) ?_
  cases hf
  exact hQ _ _ _ _ dX12_allWorth_46 hw
theorem mq_allWorth : qCv RX12 346 yX12_allWorth cX12_allWorth 4 (some .int) 0 := ⟨⟨(mem_g 1579 (by decide +kernel) rfl), (mem_g 1581 (by decide +kernel) rfl), (mem_g 70 (by decide +kernel) rfl), (mem_g 89 (by decide +kernel) rfl), (mem_g 1582 (by decide +kernel) rfl)⟩, by decide, by decide +kernel, by decide⟩
def mf_allSee_L2 (N : Nat) (c1 : Int32) : Nat → mS → Int32 → Option ((Bool) ⊕ (Unit))
  | 0, _, _ => none
  | n + 1, S3, v2 => (if ok c1 6 then (if (S3.1 5 c1.toNatClampNeg) ≤ v2 then some (.inr ()) else (bd1 (mf_seesOf N S3 c1 v2) fun v5 => (if v5 = (((1 : Int32) <<< ((S3.1 10 0) &&& 31)) - 1) then mf_allSee_L2 N c1 n S3 (v2 + 1) else some (.inl false)))) else none)
set_option maxRecDepth 100000 in
theorem wm_allSee_L2 {p : Program} {l : Launch} {e : Env} {R : Room} {s : State} {m : MethodId} {args : Array Value} {below : List Frame} {meth : Method} {c : Code} {Q : State → Prop} {g : mG} {A : Nat → Prop} {H0 : Heap} (hc : qC RX12 cX12_allSee p s m args c) (hR : qRoom R 7) (hml : c.maxLocals = 3) (N : Nat) (c1 : Int32) : ∀ (n : Nat) (S3 : mS) (v2 : Int32) (X : (Bool) ⊕ (Unit)) (H : Heap) (locs : List Loc) (ls : Array Slot), mf_allSee_L2 N c1 n S3 v2 = some X → mI g A H0 s S3 H locs → lv_has ls 3 [(0, .ref (mr g 0)), (1, .int c1), (2, .int v2)] → (∀ (_ : Unit), X = .inr () → ∀ (H : Heap) (locs : List Loc) (ls : Array Slot), mI g A H0 s S3 H locs → lv_has ls 3 [] → W p l e R s m args below meth c H locs 0 0 Q (F0 m 37 ls [])) → (∀ (r : Bool), X = .inl r → mQi p l e R s m args below meth c cX12_allSee Q g A H0 (bi r) S3) → W p l e R s m args below meth c H locs 0 0 Q (F0 m 2 ls []) := by
  have hx := hc.1
  have hb := hc.2.1
  intro n
  induction n with
  | zero => intro _ _ X H locs ls hf; exact nomatch (show none = some X from hf)
  | succ n ih =>
    intro S3 v2 X H locs ls hf hw hl kx kr
    rw [mf_allSee_L2] at hf
    refine lv_iload_n hx hb dX12_allSee_2 rfl (lv_at hl 2 rfl) ?_
    refine lv_aload_n hx hb dX12_allSee_3 rfl (lv_at hl 0 rfl) ?_
    refine m_g5 hc hw dX12_allSee_4 ?_
    refine lv_iload_n hx hb dX12_allSee_7 rfl (lv_at hl 1 rfl) ?_
    obtain ⟨hi4, hf⟩ := gd_some hf
    have hi4 := ok_in hi4
    refine m_l5 hc hw hi4 dX12_allSee_8 ?_
    refine lv_icmp_ge (tgt := 37) hx hb dX12_allSee_9 (by decide) (fun cn6 => ?_) (fun cn6 => ?_)
    · have hf := (if_pos cn6).symm.trans hf
      cases hf
      exact kx _ rfl _ _ _ hw (lv_sub hl [] rfl)
    · have hf := (if_neg cn6).symm.trans hf
      refine lv_aload_n hx hb dX12_allSee_12 rfl (lv_at hl 0 rfl) ?_
      refine lv_iload_n hx hb dX12_allSee_13 rfl (lv_at hl 1 rfl) ?_
      refine lv_iload_n hx hb dX12_allSee_14 rfl (lv_at hl 2 rfl) ?_
      obtain ⟨v5, hcall, hf⟩ := bd1_some hf
      refine m_cvi (As := [.int c1, .int v2]) (rest := []) hc hw hR (hml.trans hl.1.symm) (cm_seesOf l N S3 c1 v2 v5 hcall) mq_seesOf rfl (by decide) rfl rfl rfl (Nat.le_of_ble_eq_true rfl) dX12_allSee_15 (fun H locs hw => ?_) ⟨Nat.zero_le _, Nat.zero_le _⟩
      refine lv_iconst (v := 1) hx hb dX12_allSee_18 (by decide) ?_
      refine lv_aload_n hx hb dX12_allSee_19 rfl (lv_at hl 0 rfl) ?_
      refine m_g10 hc hw dX12_allSee_20 ?_
      refine lv_ishl hx hb dX12_allSee_23 ?_
      refine lv_iconst (v := 1) hx hb dX12_allSee_24 (by decide) ?_
      refine lv_isub hx hb dX12_allSee_25 ?_
      refine lv_icmp_eq (tgt := 31) hx hb dX12_allSee_26 (by decide) (fun cn7 => ?_) (fun cn7 => ?_)
      · have hf := (if_pos cn7).symm.trans hf
        refine lv_iinc (lv' := [(2, .int (v2 + 1)), (0, .ref (mr g 0)), (1, .int c1)]) hx hb dX12_allSee_31 hl (k := 2) rfl rfl (by decide) rfl (fun ls hl => ?_)
        refine lv_goto (tgt := 2) hx hb dX12_allSee_34 (by decide) ?_
        exact ih _ _ X _ _ _ hf hw (lv_sub hl [1, 2, 0] rfl) kx kr
      · have hf := (if_neg cn7).symm.trans hf
        refine lv_iconst (v := 0) hx hb dX12_allSee_29 (by decide) ?_
        cases hf
        exact kr _  rfl _ _ _ _ dX12_allSee_30 hw
def mf_allSee (N : Nat) (S : mS) (a1 : Int32) : Option (Bool) := (br0 (mf_allSee_L2 N a1 N S 0) (Option.some) fun _ => some true)
set_option maxRecDepth 100000 in
theorem cm_allSee (l : Launch) (N : Nat) (S : mS) (a1 : Int32) (res : Bool) (hf : mf_allSee N S a1 = some res) : mMi l yX12_allSee cX12_allSee 3 .boolean 7 (fun g => [.ref (mr g 0), .int a1]) S (bi res) S := by
  refine mMi_of (own := RX12) (by decide) rfl (narrow_bi _) (fun g => Nat.le_of_ble_eq_true rfl) ?_
  intro p e R s m args below meth c Q g A H0 H locs ls hc hR hml hw hl hQ
  have hl : lv_has ls 3 [(0, .ref (mr g 0)), (1, .int a1)] := hl
  have hx := hc.1
  have hb := hc.2.1
  unfold mf_allSee at hf
  refine lv_iconst (v := 0) hx hb dX12_allSee_0 (by decide) ?_
  refine lv_istore_n (lv' := [(2, .int 0), (0, .ref (mr g 0)), (1, .int a1)]) hx hb dX12_allSee_1 rfl hl (by decide) rfl (fun ls hl => ?_)
  rcases br0_some hf with ⟨q, hX, hf⟩ | ⟨hX, hf⟩
  · refine wm_allSee_L2 hc hR hml N a1 N _ _ _ _ _ _ hX hw (lv_sub hl [1, 2, 0] rfl) (fun _  h => nomatch h) ?_
    cases hf
    intro z0 h; cases h; exact hQ
  · refine wm_allSee_L2 hc hR hml N a1 N _ _ _ _ _ _ hX hw (lv_sub hl [1, 2, 0] rfl) (fun y0 hi => ?_) (fun _  h => nomatch h)
    cases hi
    intro H locs ls hw hl
    refine lv_iconst (v := 1) hx hb dX12_allSee_37 (by decide) ?_
    cases hf
    exact hQ _ _ _ _ dX12_allSee_38 hw
theorem mq_allSee : qCv RX12 313 yX12_allSee cX12_allSee 3 (some .boolean) 1 := ⟨⟨(mem_g 1540 (by decide +kernel) rfl), (mem_g 1542 (by decide +kernel) rfl), (mem_g 65 (by decide +kernel) rfl), (mem_g 89 (by decide +kernel) rfl), (mem_g 1543 (by decide +kernel) rfl)⟩, by decide, by decide +kernel, by decide⟩
def mf_price (N : Nat) (S : mS) (a1 : Int32) (a2 : Int32) : Option (Int32 × mS) := (bd1 (mf_isSeat N S a1 a2) fun v1 => (if v1 = true then (bd2 (mf_priceOf N S a1 a2) fun v2 S3 => some (v2, S3)) else some ((-5), S)))
set_option maxRecDepth 100000 in
theorem cm_price (l : Launch) (N : Nat) (S : mS) (a1 : Int32) (a2 : Int32) (res : Int32) (S1 : mS) (hf : mf_price N S a1 a2 = some (res, S1)) : mMi l yX12_price cX12_price 3 .int 8 (fun g => [.ref (mr g 0), .int a1, .int a2]) S res S1 := by
  refine mMi_of (own := RX12) (by decide) rfl rfl (fun g => Nat.le_of_ble_eq_true rfl) ?_
  intro p e R s m args below meth c Q g A H0 H locs ls hc hR hml hw hl hQ
  have hl : lv_has ls 3 [(0, .ref (mr g 0)), (1, .int a1), (2, .int a2)] := hl
  have hx := hc.1
  have hb := hc.2.1
  unfold mf_price at hf
  refine lv_aload_n hx hb dX12_price_0 rfl (lv_at hl 0 rfl) ?_
  refine lv_iload_n hx hb dX12_price_1 rfl (lv_at hl 1 rfl) ?_
  refine lv_iload_n hx hb dX12_price_2 rfl (lv_at hl 2 rfl) ?_
  obtain ⟨v1, hcall, hf⟩ := bd1_some hf
  refine m_cvi (As := [.int a1, .int a2]) (rest := []) hc hw hR (hml.trans hl.1.symm) (cm_isSeat l N S a1 a2 v1 hcall) mq_isSeat rfl (by decide) rfl rfl rfl (Nat.le_of_ble_eq_true rfl) dX12_price_3 (fun H locs hw => ?_) ⟨Nat.zero_le _, Nat.zero_le _⟩
  refine lv_if_eqb (tgt := 18) hx hb dX12_price_6 (by decide) (fun cn4 => ?_) (fun cn4 => ?_)
  · have hf := (if_neg cn4).symm.trans hf
    refine lv_bipush (v := (-5)) hx hb dX12_price_18 (by decide) ?_
    cases hf
    exact hQ _ _ _ _ dX12_price_20 hw
  · have hf := (if_pos cn4).symm.trans hf
    refine lv_aload_n hx hb dX12_price_9 rfl (lv_at hl 0 rfl) ?_
    refine lv_iload_n hx hb dX12_price_10 rfl (lv_at hl 1 rfl) ?_
    refine lv_iload_n hx hb dX12_price_11 rfl (lv_at hl 2 rfl) ?_
    obtain ⟨v2, S3, hcall, hf⟩ := bd2_some hf
    refine m_cvi (As := [.int a1, .int a2]) (rest := []) hc hw hR (hml.trans hl.1.symm) (cm_priceOf l N S a1 a2 v2 S3 hcall) mq_priceOf rfl (by decide) rfl rfl rfl (Nat.le_of_ble_eq_true rfl) dX12_price_12 (fun H locs hw => ?_) ⟨Nat.zero_le _, Nat.zero_le _⟩
    refine lv_goto (tgt := 20) hx hb dX12_price_15 (by decide) ?_
    cases hf
    exact hQ _ _ _ _ dX12_price_20 hw
def mf_all_L27 (N : Nat) (c5 : Int32) (c7 : Int32) : Nat → mS → Int32 → Int32 → Option (Int32 × mS)
  | 0, _, _, _ => none
  | n + 1, S9, v6, v8 => (if ok c7 6 then (if (S9.1 5 c7.toNatClampNeg) ≤ v8 then some (v6, S9) else (bd1 (mf_seesOf N S9 c7 v8) fun v11 => (bd2 (if c5 = 0 then (bd2 (mf_priceOf N S9 c7 v8) fun v15 S16 => some (v15, S16)) else (if c5 = 1 then (bd2 (mf_worthOf N S9 c7 v8) fun v13 S14 => some (v13, S14)) else (if v11 = (if c5 = 2 then ((1 : Int32) <<< ((S9.1 10 0) &&& 31)) - 1 else 0) then some (1, S9) else some (0, S9)))) fun v17 S18 => mf_all_L27 N c5 c7 n S18 (v6 + v17) (v8 + 1)))) else none)
set_option maxRecDepth 100000 in
theorem wm_all_L27 {p : Program} {l : Launch} {e : Env} {R : Room} {s : State} {m : MethodId} {args : Array Value} {below : List Frame} {meth : Method} {c : Code} {Q : State → Prop} {g : mG} {A : Nat → Prop} {H0 : Heap} (hc : qC RX12 cX12_all p s m args c) (hR : qRoom R 8) (hml : c.maxLocals = 6) (N : Nat) (c5 : Int32) (c7 : Int32) : ∀ (n : Nat) (S9 : mS) (v6 : Int32) (v8 : Int32) (X : Int32 × mS) (H : Heap) (locs : List Loc) (ls : Array Slot), mf_all_L27 N c5 c7 n S9 v6 v8 = some X → mI g A H0 s S9 H locs → lv_has ls 6 [(0, .ref (mr g 0)), (1, .int c5), (2, .int v6), (3, .int c7), (4, .int v8)] → (∀ (H : Heap) (locs : List Loc) (ls : Array Slot), mI g A H0 s X.2 H locs → lv_has ls 6 [(0, .ref (mr g 0)), (1, .int c5), (2, .int X.1), (3, .int c7)] → W p l e R s m args below meth c H locs 0 0 Q (F0 m 112 ls [])) → W p l e R s m args below meth c H locs 0 0 Q (F0 m 27 ls []) := by
  have hx := hc.1
  have hb := hc.2.1
  intro n
  induction n with
  | zero => intro _ _ _ X H locs ls hf; exact nomatch (show none = some X from hf)
  | succ n ih =>
    intro S9 v6 v8 X H locs ls hf hw hl kx
    rw [mf_all_L27] at hf
    refine lv_iload hx hb dX12_all_27 (lv_at hl 4 rfl) ?_
    refine lv_aload_n hx hb dX12_all_29 rfl (lv_at hl 0 rfl) ?_
    refine m_g5 hc hw dX12_all_30 ?_
    refine lv_iload_n hx hb dX12_all_33 rfl (lv_at hl 3 rfl) ?_
    obtain ⟨hi10, hf⟩ := gd_some hf
    have hi10 := ok_in hi10
    refine m_l5 hc hw hi10 dX12_all_34 ?_
    refine lv_icmp_ge (tgt := 112) hx hb dX12_all_35 (by decide) (fun cn25 => ?_) (fun cn25 => ?_)
    · have hf := (if_pos cn25).symm.trans hf
      cases hf
      exact kx _ _ _ hw (lv_sub hl [0, 1, 2, 3] rfl)
    · have hf := (if_neg cn25).symm.trans hf
      refine lv_aload_n hx hb dX12_all_38 rfl (lv_at hl 0 rfl) ?_
      refine lv_iload_n hx hb dX12_all_39 rfl (lv_at hl 3 rfl) ?_
      refine lv_iload hx hb dX12_all_40 (lv_at hl 4 rfl) ?_
      obtain ⟨v11, hcall, hf⟩ := bd1_some hf
      refine m_cvi (As := [.int c7, .int v8]) (rest := []) hc hw hR (hml.trans hl.1.symm) (cm_seesOf l N S9 c7 v8 v11 hcall) mq_seesOf rfl (by decide) rfl rfl rfl (Nat.le_of_ble_eq_true rfl) dX12_all_42 (fun H locs hw => ?_) ⟨Nat.zero_le _, Nat.zero_le _⟩
      refine lv_istore (lv' := [(5, .int v11), (0, .ref (mr g 0)), (1, .int c5), (2, .int v6), (3, .int c7), (4, .int v8)]) hx hb dX12_all_45 hl (by decide) rfl (fun ls hl => ?_)
      refine lv_iload_n hx hb dX12_all_47 rfl (lv_at hl 3 rfl) ?_
      refine lv_iload_n hx hb dX12_all_48 rfl (lv_at hl 2 rfl) ?_
      obtain ⟨v17, S18, hX, hf⟩ := bd2_some hf
      have kJ : ∀ (H : Heap) (locs : List Loc) (ls : Array Slot), mI g A H0 s S18 H locs → lv_has ls 6 [(0, .ref (mr g 0)), (1, .int c5), (3, .int c7), (4, .int v8)] → W p l e R s m args below meth c H locs 0 0 Q (F0 m 104 ls [.int v17, .int v6]) := by
        intro H locs ls hw hl
        refine lv_iadd hx hb dX12_all_104 ?_
        refine lv_istore_n (lv' := [(2, .int (v6 + v17)), (0, .ref (mr g 0)), (1, .int c5), (3, .int c7), (4, .int v8)]) hx hb dX12_all_105 rfl hl (by decide) rfl (fun ls hl => ?_)
        refine lv_iinc (lv' := [(4, .int (v8 + 1)), (2, .int (v6 + v17)), (0, .ref (mr g 0)), (1, .int c5), (3, .int c7)]) hx hb dX12_all_106 hl (k := 4) rfl rfl (by decide) rfl (fun ls hl => ?_)
        refine lv_goto (tgt := 27) hx hb dX12_all_109 (by decide) ?_
        exact ih _ _ _ X _ _ _ hf hw (lv_sub hl [2, 3, 1, 4, 0] rfl) kx
      refine lv_if_ne (tgt := 62) hx hb dX12_all_49 (by decide) (fun cn26 => ?_) (fun cn26 => ?_)
      · have hX := (if_neg cn26).symm.trans hX
        refine lv_iload_n hx hb dX12_all_62 rfl (lv_at hl 2 rfl) ?_
        refine lv_iconst (v := 1) hx hb dX12_all_63 (by decide) ?_
        refine lv_icmp_ne (tgt := 77) hx hb dX12_all_64 (by decide) (fun cn27 => ?_) (fun cn27 => ?_)
        · have hX := (if_neg cn27).symm.trans hX
          refine lv_iload hx hb dX12_all_77 (lv_at hl 0 rfl) ?_
          refine lv_iload_n hx hb dX12_all_79 rfl (lv_at hl 2 rfl) ?_
          refine lv_iconst (v := 2) hx hb dX12_all_80 (by decide) ?_
          obtain ⟨v12, hv12⟩ : ∃ y : Int32, y = (if c5 = 2 then ((1 : Int32) <<< ((S9.1 10 0) &&& 31)) - 1 else 0) := ⟨_, rfl⟩
          try rw [← hv12] at hX
          have kJ : ∀ ls : Array Slot, lv_has ls 6 [(0, .ref (mr g 0)), (1, .int c5), (3, .int c7), (4, .int v8)] → W p l e R s m args below meth c H locs 0 0 Q (F0 m 96 ls [.int v12, .int v11, .int v6]) := by
            intro ls hl
            refine lv_icmp_ne (tgt := 103) hx hb dX12_all_96 (by decide) (fun cn28 => ?_) (fun cn28 => ?_)
            · have hX := (if_neg cn28).symm.trans hX
              refine lv_iconst (v := 0) hx hb dX12_all_103 (by decide) ?_
              cases hX
              exact kJ _ _ _ hw (lv_sub hl [0, 1, 2, 3] rfl)
            · have hX := (if_pos cn28).symm.trans hX
              refine lv_iconst (v := 1) hx hb dX12_all_99 (by decide) ?_
              refine lv_goto (tgt := 104) hx hb dX12_all_100 (by decide) ?_
              cases hX
              exact kJ _ _ _ hw (lv_sub hl [0, 1, 2, 3] rfl)
          refine lv_icmp_ne (tgt := 95) hx hb dX12_all_81 (by decide) (fun cn29 => ?_) (fun cn29 => ?_)
          · refine lv_iconst (v := 0) hx hb dX12_all_95 (by decide) ?_
            have ev12 : v12 = 0 := by rw [hv12]; simp only [if_neg cn29]
            exact W.eq (by simp only [ev12]) (kJ ls (by skip; exact lv_sub hl [1, 2, 4, 5] rfl))
          · refine lv_iconst (v := 1) hx hb dX12_all_84 (by decide) ?_
            refine lv_aload_n hx hb dX12_all_85 rfl (lv_at hl 1 rfl) ?_
            refine m_g10 hc hw dX12_all_86 ?_
            refine lv_ishl hx hb dX12_all_89 ?_
            refine lv_iconst (v := 1) hx hb dX12_all_90 (by decide) ?_
            refine lv_isub hx hb dX12_all_91 ?_
            refine lv_goto (tgt := 96) hx hb dX12_all_92 (by decide) ?_
            have ev12 : v12 = ((1 : Int32) <<< ((S9.1 10 0) &&& 31)) - 1 := by rw [hv12]; simp only [if_pos cn29]
            exact W.eq (by simp only [ev12]) (kJ ls (by skip; exact lv_sub hl [1, 2, 4, 5] rfl))
        · have hX := (if_pos cn27).symm.trans hX
          refine lv_aload_n hx hb dX12_all_67 rfl (lv_at hl 1 rfl) ?_
          refine lv_iload_n hx hb dX12_all_68 rfl (lv_at hl 4 rfl) ?_
          refine lv_iload hx hb dX12_all_69 (lv_at hl 5 rfl) ?_
          obtain ⟨v13, S14, hcall, hX⟩ := bd2_some hX
          refine m_cvi (As := [.int c7, .int v8]) (rest := [.int v6]) hc hw hR (hml.trans hl.1.symm) (cm_worthOf l N S9 c7 v8 v13 S14 hcall) mq_worthOf rfl (by decide) rfl rfl rfl (Nat.le_of_ble_eq_true rfl) dX12_all_71 (fun H locs hw => ?_) ⟨Nat.zero_le _, Nat.zero_le _⟩
          refine lv_goto (tgt := 104) hx hb dX12_all_74 (by decide) ?_
          cases hX
          exact kJ _ _ _ hw (lv_sub hl [1, 2, 4, 5] rfl)
      · have hX := (if_pos cn26).symm.trans hX
        refine lv_aload_n hx hb dX12_all_52 rfl (lv_at hl 1 rfl) ?_
        refine lv_iload_n hx hb dX12_all_53 rfl (lv_at hl 4 rfl) ?_
        refine lv_iload hx hb dX12_all_54 (lv_at hl 5 rfl) ?_
        obtain ⟨v15, S16, hcall, hX⟩ := bd2_some hX
        refine m_cvi (As := [.int c7, .int v8]) (rest := [.int v6]) hc hw hR (hml.trans hl.1.symm) (cm_priceOf l N S9 c7 v8 v15 S16 hcall) mq_priceOf rfl (by decide) rfl rfl rfl (Nat.le_of_ble_eq_true rfl) dX12_all_56 (fun H locs hw => ?_) ⟨Nat.zero_le _, Nat.zero_le _⟩
        refine lv_goto (tgt := 104) hx hb dX12_all_59 (by decide) ?_
        cases hX
        exact kJ _ _ _ hw (lv_sub hl [1, 2, 4, 5] rfl)
def mf_all_L16 (N : Nat) (c1 : Int32) : Nat → mS → Int32 → Int32 → Option (Int32 × mS)
  | 0, _, _, _ => none
  | n + 1, S4, v2, v3 => (if (S4.1 3 0) ≤ v3 then some (v2, S4) else (bd2 (mf_all_L27 N c1 v3 N S4 v2 0) fun v19 S20 => mf_all_L16 N c1 n S20 v19 (v3 + 1)))
set_option maxRecDepth 100000 in
theorem wm_all_L16 {p : Program} {l : Launch} {e : Env} {R : Room} {s : State} {m : MethodId} {args : Array Value} {below : List Frame} {meth : Method} {c : Code} {Q : State → Prop} {g : mG} {A : Nat → Prop} {H0 : Heap} (hc : qC RX12 cX12_all p s m args c) (hR : qRoom R 8) (hml : c.maxLocals = 6) (N : Nat) (c1 : Int32) : ∀ (n : Nat) (S4 : mS) (v2 : Int32) (v3 : Int32) (X : Int32 × mS) (H : Heap) (locs : List Loc) (ls : Array Slot), mf_all_L16 N c1 n S4 v2 v3 = some X → mI g A H0 s S4 H locs → lv_has ls 6 [(0, .ref (mr g 0)), (1, .int c1), (2, .int v2), (3, .int v3)] → (∀ (H : Heap) (locs : List Loc) (ls : Array Slot), mI g A H0 s X.2 H locs → lv_has ls 6 [(2, .int X.1)] → W p l e R s m args below meth c H locs 0 0 Q (F0 m 118 ls [])) → W p l e R s m args below meth c H locs 0 0 Q (F0 m 16 ls []) := by
  have hx := hc.1
  have hb := hc.2.1
  intro n
  induction n with
  | zero => intro _ _ _ X H locs ls hf; exact nomatch (show none = some X from hf)
  | succ n ih =>
    intro S4 v2 v3 X H locs ls hf hw hl kx
    rw [mf_all_L16] at hf
    refine lv_iload_n hx hb dX12_all_16 rfl (lv_at hl 3 rfl) ?_
    refine lv_aload_n hx hb dX12_all_17 rfl (lv_at hl 0 rfl) ?_
    refine m_g3 hc hw dX12_all_18 ?_
    refine lv_icmp_ge (tgt := 118) hx hb dX12_all_21 (by decide) (fun cn24 => ?_) (fun cn24 => ?_)
    · have hf := (if_pos cn24).symm.trans hf
      cases hf
      exact kx _ _ _ hw (lv_sub hl [2] rfl)
    · have hf := (if_neg cn24).symm.trans hf
      refine lv_iconst (v := 0) hx hb dX12_all_24 (by decide) ?_
      refine lv_istore (lv' := [(4, .int 0), (0, .ref (mr g 0)), (1, .int c1), (2, .int v2), (3, .int v3)]) hx hb dX12_all_25 hl (by decide) rfl (fun ls hl => ?_)
      obtain ⟨v19, S20, hX, hf⟩ := bd2_some hf
      refine wm_all_L27 hc hR hml N c1 v3 N _ _ _ _ _ _ _ hX hw (lv_sub hl [1, 2, 3, 4, 0] rfl) (fun H locs ls hw hl => ?_)
      refine lv_iinc (lv' := [(3, .int (v3 + 1)), (0, .ref (mr g 0)), (1, .int c1), (2, .int v19)]) hx hb dX12_all_112 hl (k := 3) rfl rfl (by decide) rfl (fun ls hl => ?_)
      refine lv_goto (tgt := 16) hx hb dX12_all_115 (by decide) ?_
      exact ih _ _ _ X _ _ _ hf hw (lv_sub hl [1, 2, 3, 0] rfl) kx
def mf_all (N : Nat) (S : mS) (a1 : Int32) : Option (Int32 × mS) := (if (mf_in a1 0 3) = true then (bd2 (mf_all_L16 N a1 N S 0 0) fun v21 S22 => some (v21, S22)) else some ((-2), S))
set_option maxRecDepth 100000 in
theorem cm_all (l : Launch) (N : Nat) (S : mS) (a1 : Int32) (res : Int32) (S1 : mS) (hf : mf_all N S a1 = some (res, S1)) : mMi l yX12_all cX12_all 6 .int 8 (fun g => [.ref (mr g 0), .int a1]) S res S1 := by
  refine mMi_of (own := RX12) (by decide) rfl rfl (fun g => Nat.le_of_ble_eq_true rfl) ?_
  intro p e R s m args below meth c Q g A H0 H locs ls hc hR hml hw hl hQ
  have hl : lv_has ls 6 [(0, .ref (mr g 0)), (1, .int a1)] := hl
  have hx := hc.1
  have hb := hc.2.1
  unfold mf_all at hf
  refine lv_iload_n hx hb dX12_all_0 rfl (lv_at hl 1 rfl) ?_
  refine lv_iconst (v := 0) hx hb dX12_all_1 (by decide) ?_
  refine lv_iconst (v := 3) hx hb dX12_all_2 (by decide) ?_
  refine m_csi (As := [.int a1, .int 0, .int 3]) (rest := []) hc hw hR (hml.trans hl.1.symm) (cm_in l S a1 0 3 _ rfl) mq_in (by decide) rfl rfl rfl (Nat.le_of_ble_eq_true rfl) dX12_all_3 (fun H locs hw => ?_) ⟨Nat.zero_le _, Nat.zero_le _⟩
  refine lv_if_neb (tgt := 12) hx hb dX12_all_6 (by decide) (fun cn23 => ?_) (fun cn23 => ?_)
  · have hf := (if_pos cn23).symm.trans hf
    refine lv_iconst (v := 0) hx hb dX12_all_12 (by decide) ?_
    refine lv_istore_n (lv' := [(2, .int 0), (0, .ref (mr g 0)), (1, .int a1)]) hx hb dX12_all_13 rfl hl (by decide) rfl (fun ls hl => ?_)
    refine lv_iconst (v := 0) hx hb dX12_all_14 (by decide) ?_
    refine lv_istore_n (lv' := [(3, .int 0), (2, .int 0), (0, .ref (mr g 0)), (1, .int a1)]) hx hb dX12_all_15 rfl hl (by decide) rfl (fun ls hl => ?_)
    obtain ⟨v21, S22, hX, hf⟩ := bd2_some hf
    refine wm_all_L16 hc hR hml N a1 N _ _ _ _ _ _ _ hX hw (lv_sub hl [2, 3, 1, 0] rfl) (fun H locs ls hw hl => ?_)
    refine lv_iload_n hx hb dX12_all_118 rfl (lv_at hl 0 rfl) ?_
    cases hf
    exact hQ _ _ _ _ dX12_all_119 hw
  · have hf := (if_neg cn23).symm.trans hf
    refine lv_bipush (v := (-2)) hx hb dX12_all_9 (by decide) ?_
    cases hf
    exact hQ _ _ _ _ dX12_all_11 hw
def mf_judge_L46 (N : Nat) (c2 : Int32) : Nat → mS → Int32 → Int32 → Option (Int32)
  | 0, _, _, _ => none
  | n + 1, S5, v3, v4 => (if (S5.1 3 0) ≤ v4 then some v3 else (if v3 = 0 then some v3 else (if ok ((60 * c2) + v4) 240 then mf_judge_L46 N c2 n S5 (bi (mf_in (S5.1 39 ((60 * c2) + v4).toNatClampNeg) 0 99)) (v4 + 1) else none)))
set_option maxRecDepth 100000 in
theorem wm_judge_L46 {p : Program} {l : Launch} {e : Env} {R : Room} {s : State} {m : MethodId} {args : Array Value} {below : List Frame} {meth : Method} {c : Code} {Q : State → Prop} {g : mG} {A : Nat → Prop} {H0 : Heap} (hc : qC RX12 cX12_judge p s m args c) (hR : qRoom R 8) (hml : c.maxLocals = 5) (N : Nat) (c2 : Int32) : ∀ (n : Nat) (S5 : mS) (v3 : Int32) (v4 : Int32) (X : Int32) (H : Heap) (locs : List Loc) (ls : Array Slot), mf_judge_L46 N c2 n S5 v3 v4 = some X → mI g A H0 s S5 H locs → lv_has ls 5 [(0, .ref (mr g 0)), (1, .int c2), (2, .int v3), (3, .int v4)] → (∀ (H : Heap) (locs : List Loc) (ls : Array Slot), mI g A H0 s S5 H locs → lv_has ls 5 [(0, .ref (mr g 0)), (1, .int c2), (2, .int X)] → W p l e R s m args below meth c H locs 0 0 Q (F0 m 82 ls [])) → W p l e R s m args below meth c H locs 0 0 Q (F0 m 46 ls []) := by
  have hx := hc.1
  have hb := hc.2.1
  intro n
  induction n with
  | zero => intro _ _ _ X H locs ls hf; exact nomatch (show none = some X from hf)
  | succ n ih =>
    intro S5 v3 v4 X H locs ls hf hw hl kx
    rw [mf_judge_L46] at hf
    refine lv_iload_n hx hb dX12_judge_46 rfl (lv_at hl 3 rfl) ?_
    refine lv_aload_n hx hb dX12_judge_47 rfl (lv_at hl 0 rfl) ?_
    refine m_g3 hc hw dX12_judge_48 ?_
    refine lv_icmp_ge (tgt := 82) hx hb dX12_judge_51 (by decide) (fun cn43 => ?_) (fun cn43 => ?_)
    · have hf := (if_pos cn43).symm.trans hf
      cases hf
      exact kx _ _ _ hw (lv_sub hl [0, 1, 2] rfl)
    · have hf := (if_neg cn43).symm.trans hf
      refine lv_iload_n hx hb dX12_judge_54 rfl (lv_at hl 2 rfl) ?_
      refine lv_if_eq (tgt := 82) hx hb dX12_judge_55 (by decide) (fun cn44 => ?_) (fun cn44 => ?_)
      · have hf := (if_pos cn44).symm.trans hf
        cases hf
        exact kx _ _ _ hw (lv_sub hl [0, 1, 2] rfl)
      · have hf := (if_neg cn44).symm.trans hf
        refine lv_aload_n hx hb dX12_judge_58 rfl (lv_at hl 0 rfl) ?_
        refine m_g39 hc hw dX12_judge_59 ?_
        refine lv_bipush (v := 60) hx hb dX12_judge_62 (by decide) ?_
        refine lv_iload_n hx hb dX12_judge_64 rfl (lv_at hl 1 rfl) ?_
        refine lv_imul hx hb dX12_judge_65 ?_
        refine lv_iload_n hx hb dX12_judge_66 rfl (lv_at hl 3 rfl) ?_
        refine lv_iadd hx hb dX12_judge_67 ?_
        obtain ⟨hi6, hf⟩ := gd_some hf
        have hi6 := ok_in hi6
        refine m_l39 hc hw hi6 dX12_judge_68 ?_
        refine lv_iconst (v := 0) hx hb dX12_judge_69 (by decide) ?_
        refine lv_bipush (v := 99) hx hb dX12_judge_70 (by decide) ?_
        refine m_csi (As := [.int (S5.1 39 ((60 * c2) + v4).toNatClampNeg), .int 0, .int 99]) (rest := []) hc hw hR (hml.trans hl.1.symm) (cm_in l S5 (S5.1 39 ((60 * c2) + v4).toNatClampNeg) 0 99 _ rfl) mq_in (by decide) rfl rfl rfl (Nat.le_of_ble_eq_true rfl) dX12_judge_72 (fun H locs hw => ?_) ⟨Nat.zero_le _, Nat.zero_le _⟩
        refine lv_istore_n (lv' := [(2, .int (bi (mf_in (S5.1 39 ((60 * c2) + v4).toNatClampNeg) 0 99))), (0, .ref (mr g 0)), (1, .int c2), (3, .int v4)]) hx hb dX12_judge_75 rfl hl (by decide) rfl (fun ls hl => ?_)
        refine lv_iinc (lv' := [(3, .int (v4 + 1)), (2, .int (bi (mf_in (S5.1 39 ((60 * c2) + v4).toNatClampNeg) 0 99))), (0, .ref (mr g 0)), (1, .int c2)]) hx hb dX12_judge_76 hl (k := 3) rfl rfl (by decide) rfl (fun ls hl => ?_)
        refine lv_goto (tgt := 46) hx hb dX12_judge_79 (by decide) ?_
        exact ih _ _ _ X _ _ _ hf hw (lv_sub hl [2, 3, 1, 0] rfl) kx
def mf_judge_L95 (N : Nat) (c9 : Int32) : Nat → mS → Int32 → Option (mS)
  | 0, _, _ => none
  | n + 1, S11, v10 => (if (S11.1 3 0) ≤ v10 then some S11 else (if ok ((60 * c9) + v10) 240 then (if ok v10 6 then mf_judge_L95 N c9 n (ms S11 7 v10.toNatClampNeg (S11.1 39 ((60 * c9) + v10).toNatClampNeg)) (v10 + 1) else none) else none))
set_option maxRecDepth 100000 in
theorem wm_judge_L95 {p : Program} {l : Launch} {e : Env} {R : Room} {s : State} {m : MethodId} {args : Array Value} {below : List Frame} {meth : Method} {c : Code} {Q : State → Prop} {g : mG} {A : Nat → Prop} {H0 : Heap} (hc : qC RX12 cX12_judge p s m args c) (hR : qRoom R 8) (hml : c.maxLocals = 5) (N : Nat) (c9 : Int32) : ∀ (n : Nat) (S11 : mS) (v10 : Int32) (X : mS) (H : Heap) (locs : List Loc) (ls : Array Slot), mf_judge_L95 N c9 n S11 v10 = some X → mI g A H0 s S11 H locs → lv_has ls 5 [(0, .ref (mr g 0)), (1, .int c9), (3, .int v10)] → (∀ (H : Heap) (locs : List Loc) (ls : Array Slot), mI g A H0 s X H locs → lv_has ls 5 [(0, .ref (mr g 0))] → W p l e R s m args below meth c H locs 0 0 Q (F0 m 126 ls [])) → W p l e R s m args below meth c H locs 0 0 Q (F0 m 95 ls []) := by
  have hx := hc.1
  have hb := hc.2.1
  intro n
  induction n with
  | zero => intro _ _ X H locs ls hf; exact nomatch (show none = some X from hf)
  | succ n ih =>
    intro S11 v10 X H locs ls hf hw hl kx
    rw [mf_judge_L95] at hf
    refine lv_iload_n hx hb dX12_judge_95 rfl (lv_at hl 2 rfl) ?_
    refine lv_aload_n hx hb dX12_judge_96 rfl (lv_at hl 0 rfl) ?_
    refine m_g3 hc hw dX12_judge_97 ?_
    refine lv_icmp_ge (tgt := 126) hx hb dX12_judge_100 (by decide) (fun cn47 => ?_) (fun cn47 => ?_)
    · have hf := (if_pos cn47).symm.trans hf
      cases hf
      exact kx _ _ _ hw (lv_sub hl [0] rfl)
    · have hf := (if_neg cn47).symm.trans hf
      refine lv_aload_n hx hb dX12_judge_103 rfl (lv_at hl 0 rfl) ?_
      refine m_g7 hc hw dX12_judge_104 ?_
      refine lv_iload_n hx hb dX12_judge_107 rfl (lv_at hl 2 rfl) ?_
      refine lv_aload_n hx hb dX12_judge_108 rfl (lv_at hl 0 rfl) ?_
      refine m_g39 hc hw dX12_judge_109 ?_
      refine lv_bipush (v := 60) hx hb dX12_judge_112 (by decide) ?_
      refine lv_iload_n hx hb dX12_judge_114 rfl (lv_at hl 1 rfl) ?_
      refine lv_imul hx hb dX12_judge_115 ?_
      refine lv_iload_n hx hb dX12_judge_116 rfl (lv_at hl 2 rfl) ?_
      refine lv_iadd hx hb dX12_judge_117 ?_
      obtain ⟨hi12, hf⟩ := gd_some hf
      have hi12 := ok_in hi12
      refine m_l39 hc hw hi12 dX12_judge_118 ?_
      obtain ⟨hi13, hf⟩ := gd_some hf
      have hi13 := ok_in hi13
      refine m_s7 hc hw hi13 dX12_judge_119 (fun H locs hw => ?_)
      refine lv_iinc (lv' := [(3, .int (v10 + 1)), (0, .ref (mr g 0)), (1, .int c9)]) hx hb dX12_judge_120 hl (k := 2) rfl rfl (by decide) rfl (fun ls hl => ?_)
      refine lv_goto (tgt := 95) hx hb dX12_judge_123 (by decide) ?_
      exact ih _ _ X _ _ _ hf hw (lv_sub hl [1, 2, 0] rfl) kx
def mf_judge_L136 (N : Nat) : Nat → mS → Int32 → Int32 → Option (Int32)
  | 0, _, _, _ => none
  | n + 1, S17, v15, v16 => (if v16 < 0 then some v15 else (bd1 (mf_allSee N S17 v16) fun v18 => (if v18 = true then mf_judge_L136 N n S17 v15 (v16 + (-1)) else mf_judge_L136 N n S17 v16 (v16 + (-1)))))
set_option maxRecDepth 100000 in
theorem wm_judge_L136 {p : Program} {l : Launch} {e : Env} {R : Room} {s : State} {m : MethodId} {args : Array Value} {below : List Frame} {meth : Method} {c : Code} {Q : State → Prop} {g : mG} {A : Nat → Prop} {H0 : Heap} (hc : qC RX12 cX12_judge p s m args c) (hR : qRoom R 8) (hml : c.maxLocals = 5) (N : Nat) : ∀ (n : Nat) (S17 : mS) (v15 : Int32) (v16 : Int32) (X : Int32) (H : Heap) (locs : List Loc) (ls : Array Slot), mf_judge_L136 N n S17 v15 v16 = some X → mI g A H0 s S17 H locs → lv_has ls 5 [(0, .ref (mr g 0)), (3, .int v15), (4, .int v16)] → (∀ (H : Heap) (locs : List Loc) (ls : Array Slot), mI g A H0 s S17 H locs → lv_has ls 5 [(0, .ref (mr g 0)), (3, .int X)] → W p l e R s m args below meth c H locs 0 0 Q (F0 m 163 ls [])) → W p l e R s m args below meth c H locs 0 0 Q (F0 m 136 ls []) := by
  have hx := hc.1
  have hb := hc.2.1
  intro n
  induction n with
  | zero => intro _ _ _ X H locs ls hf; exact nomatch (show none = some X from hf)
  | succ n ih =>
    intro S17 v15 v16 X H locs ls hf hw hl kx
    rw [mf_judge_L136] at hf
    refine lv_iload hx hb dX12_judge_136 (lv_at hl 2 rfl) ?_
    refine lv_if_lt (tgt := 163) hx hb dX12_judge_138 (by decide) (fun cn49 => ?_) (fun cn49 => ?_)
    · have hf := (if_pos cn49).symm.trans hf
      cases hf
      exact kx _ _ _ hw (lv_sub hl [0, 1] rfl)
    · have hf := (if_neg cn49).symm.trans hf
      refine lv_aload_n hx hb dX12_judge_141 rfl (lv_at hl 0 rfl) ?_
      refine lv_iload hx hb dX12_judge_142 (lv_at hl 2 rfl) ?_
      obtain ⟨v18, hcall, hf⟩ := bd1_some hf
      refine m_cvi (As := [.int v16]) (rest := []) hc hw hR (hml.trans hl.1.symm) (cm_allSee l N S17 v16 v18 hcall) mq_allSee rfl (by decide) rfl rfl rfl (Nat.le_of_ble_eq_true rfl) dX12_judge_144 (fun H locs hw => ?_) ⟨Nat.zero_le _, Nat.zero_le _⟩
      refine lv_if_eqb (tgt := 154) hx hb dX12_judge_147 (by decide) (fun cn50 => ?_) (fun cn50 => ?_)
      · have hf := (if_neg cn50).symm.trans hf
        refine lv_iload hx hb dX12_judge_154 (lv_at hl 2 rfl) ?_
        refine lv_istore_n (lv' := [(3, .int v16), (0, .ref (mr g 0)), (4, .int v16)]) hx hb dX12_judge_156 rfl hl (by decide) rfl (fun ls hl => ?_)
        refine lv_iinc (lv' := [(4, .int (v16 + (-1))), (3, .int v16), (0, .ref (mr g 0))]) hx hb dX12_judge_157 hl (k := 2) rfl rfl (by decide) rfl (fun ls hl => ?_)
        refine lv_goto (tgt := 136) hx hb dX12_judge_160 (by decide) ?_
        exact ih _ _ _ X _ _ _ hf hw (lv_sub hl [2, 1, 0] rfl) kx
      · have hf := (if_pos cn50).symm.trans hf
        refine lv_iload_n hx hb dX12_judge_150 rfl (lv_at hl 1 rfl) ?_
        refine lv_goto (tgt := 156) hx hb dX12_judge_151 (by decide) ?_
        refine lv_istore_n (lv' := [(3, .int v15), (0, .ref (mr g 0)), (4, .int v16)]) hx hb dX12_judge_156 rfl hl (by decide) rfl (fun ls hl => ?_)
        refine lv_iinc (lv' := [(4, .int (v16 + (-1))), (3, .int v15), (0, .ref (mr g 0))]) hx hb dX12_judge_157 hl (k := 2) rfl rfl (by decide) rfl (fun ls hl => ?_)
        refine lv_goto (tgt := 136) hx hb dX12_judge_160 (by decide) ?_
        exact ih _ _ _ X _ _ _ hf hw (lv_sub hl [2, 1, 0] rfl) kx
def mf_judge_L46 (N : Nat) (c21 : Int32) : Nat → mS → Int32 → Int32 → Option (Int32)
  | 0, _, _, _ => none
  | n + 1, S24, v22, v23 => (if (S24.1 3 0) ≤ v23 then some v22 else (if v22 = 0 then some v22 else (if ok ((60 * c21) + v23) 240 then mf_judge_L46 N c21 n S24 (bi (mf_in (S24.1 39 ((60 * c21) + v23).toNatClampNeg) 0 99)) (v23 + 1) else none)))
set_option maxRecDepth 100000 in
theorem wm_judge_L46 {p : Program} {l : Launch} {e : Env} {R : Room} {s : State} {m : MethodId} {args : Array Value} {below : List Frame} {meth : Method} {c : Code} {Q : State → Prop} {g : mG} {A : Nat → Prop} {H0 : Heap} (hc : qC RX12 cX12_judge p s m args c) (hR : qRoom R 8) (hml : c.maxLocals = 5) (N : Nat) (c21 : Int32) : ∀ (n : Nat) (S24 : mS) (v22 : Int32) (v23 : Int32) (X : Int32) (H : Heap) (locs : List Loc) (ls : Array Slot), mf_judge_L46 N c21 n S24 v22 v23 = some X → mI g A H0 s S24 H locs → lv_has ls 5 [(0, .ref (mr g 0)), (1, .int c21), (2, .int v22), (3, .int v23)] → (∀ (H : Heap) (locs : List Loc) (ls : Array Slot), mI g A H0 s S24 H locs → lv_has ls 5 [(0, .ref (mr g 0)), (1, .int c21), (2, .int X)] → W p l e R s m args below meth c H locs 0 0 Q (F0 m 82 ls [])) → W p l e R s m args below meth c H locs 0 0 Q (F0 m 46 ls []) := by
  have hx := hc.1
  have hb := hc.2.1
  intro n
  induction n with
  | zero => intro _ _ _ X H locs ls hf; exact nomatch (show none = some X from hf)
  | succ n ih =>
    intro S24 v22 v23 X H locs ls hf hw hl kx
    rw [mf_judge_L46] at hf
    refine lv_iload_n hx hb dX12_judge_46 rfl (lv_at hl 3 rfl) ?_
    refine lv_aload_n hx hb dX12_judge_47 rfl (lv_at hl 0 rfl) ?_
    refine m_g3 hc hw dX12_judge_48 ?_
    refine lv_icmp_ge (tgt := 82) hx hb dX12_judge_51 (by decide) (fun cn52 => ?_) (fun cn52 => ?_)
    · have hf := (if_pos cn52).symm.trans hf
      cases hf
      exact kx _ _ _ hw (lv_sub hl [0, 1, 2] rfl)
    · have hf := (if_neg cn52).symm.trans hf
      refine lv_iload_n hx hb dX12_judge_54 rfl (lv_at hl 2 rfl) ?_
      refine lv_if_eq (tgt := 82) hx hb dX12_judge_55 (by decide) (fun cn53 => ?_) (fun cn53 => ?_)
      · have hf := (if_pos cn53).symm.trans hf
        cases hf
        exact kx _ _ _ hw (lv_sub hl [0, 1, 2] rfl)
      · have hf := (if_neg cn53).symm.trans hf
        refine lv_aload_n hx hb dX12_judge_58 rfl (lv_at hl 0 rfl) ?_
        refine m_g39 hc hw dX12_judge_59 ?_
        refine lv_bipush (v := 60) hx hb dX12_judge_62 (by decide) ?_
        refine lv_iload_n hx hb dX12_judge_64 rfl (lv_at hl 1 rfl) ?_
        refine lv_imul hx hb dX12_judge_65 ?_
        refine lv_iload_n hx hb dX12_judge_66 rfl (lv_at hl 3 rfl) ?_
        refine lv_iadd hx hb dX12_judge_67 ?_
        obtain ⟨hi25, hf⟩ := gd_some hf
        have hi25 := ok_in hi25
        refine m_l39 hc hw hi25 dX12_judge_68 ?_
        refine lv_iconst (v := 0) hx hb dX12_judge_69 (by decide) ?_
        refine lv_bipush (v := 99) hx hb dX12_judge_70 (by decide) ?_
        refine m_csi (As := [.int (S24.1 39 ((60 * c21) + v23).toNatClampNeg), .int 0, .int 99]) (rest := []) hc hw hR (hml.trans hl.1.symm) (cm_in l S24 (S24.1 39 ((60 * c21) + v23).toNatClampNeg) 0 99 _ rfl) mq_in (by decide) rfl rfl rfl (Nat.le_of_ble_eq_true rfl) dX12_judge_72 (fun H locs hw => ?_) ⟨Nat.zero_le _, Nat.zero_le _⟩
        refine lv_istore_n (lv' := [(2, .int (bi (mf_in (S24.1 39 ((60 * c21) + v23).toNatClampNeg) 0 99))), (0, .ref (mr g 0)), (1, .int c21), (3, .int v23)]) hx hb dX12_judge_75 rfl hl (by decide) rfl (fun ls hl => ?_)
        refine lv_iinc (lv' := [(3, .int (v23 + 1)), (2, .int (bi (mf_in (S24.1 39 ((60 * c21) + v23).toNatClampNeg) 0 99))), (0, .ref (mr g 0)), (1, .int c21)]) hx hb dX12_judge_76 hl (k := 3) rfl rfl (by decide) rfl (fun ls hl => ?_)
        refine lv_goto (tgt := 46) hx hb dX12_judge_79 (by decide) ?_
        exact ih _ _ _ X _ _ _ hf hw (lv_sub hl [2, 3, 1, 0] rfl) kx
def mf_judge_L95 (N : Nat) (c28 : Int32) : Nat → mS → Int32 → Option (mS)
  | 0, _, _ => none
  | n + 1, S30, v29 => (if (S30.1 3 0) ≤ v29 then some S30 else (if ok ((60 * c28) + v29) 240 then (if ok v29 6 then mf_judge_L95 N c28 n (ms S30 7 v29.toNatClampNeg (S30.1 39 ((60 * c28) + v29).toNatClampNeg)) (v29 + 1) else none) else none))
set_option maxRecDepth 100000 in
theorem wm_judge_L95 {p : Program} {l : Launch} {e : Env} {R : Room} {s : State} {m : MethodId} {args : Array Value} {below : List Frame} {meth : Method} {c : Code} {Q : State → Prop} {g : mG} {A : Nat → Prop} {H0 : Heap} (hc : qC RX12 cX12_judge p s m args c) (hR : qRoom R 8) (hml : c.maxLocals = 5) (N : Nat) (c28 : Int32) : ∀ (n : Nat) (S30 : mS) (v29 : Int32) (X : mS) (H : Heap) (locs : List Loc) (ls : Array Slot), mf_judge_L95 N c28 n S30 v29 = some X → mI g A H0 s S30 H locs → lv_has ls 5 [(0, .ref (mr g 0)), (1, .int c28), (3, .int v29)] → (∀ (H : Heap) (locs : List Loc) (ls : Array Slot), mI g A H0 s X H locs → lv_has ls 5 [(0, .ref (mr g 0))] → W p l e R s m args below meth c H locs 0 0 Q (F0 m 126 ls [])) → W p l e R s m args below meth c H locs 0 0 Q (F0 m 95 ls []) := by
  have hx := hc.1
  have hb := hc.2.1
  intro n
  induction n with
  | zero => intro _ _ X H locs ls hf; exact nomatch (show none = some X from hf)
  | succ n ih =>
    intro S30 v29 X H locs ls hf hw hl kx
    rw [mf_judge_L95] at hf
    refine lv_iload_n hx hb dX12_judge_95 rfl (lv_at hl 2 rfl) ?_
    refine lv_aload_n hx hb dX12_judge_96 rfl (lv_at hl 0 rfl) ?_
    refine m_g3 hc hw dX12_judge_97 ?_
    refine lv_icmp_ge (tgt := 126) hx hb dX12_judge_100 (by decide) (fun cn56 => ?_) (fun cn56 => ?_)
    · have hf := (if_pos cn56).symm.trans hf
      cases hf
      exact kx _ _ _ hw (lv_sub hl [0] rfl)
    · have hf := (if_neg cn56).symm.trans hf
      refine lv_aload_n hx hb dX12_judge_103 rfl (lv_at hl 0 rfl) ?_
      refine m_g7 hc hw dX12_judge_104 ?_
      refine lv_iload_n hx hb dX12_judge_107 rfl (lv_at hl 2 rfl) ?_
      refine lv_aload_n hx hb dX12_judge_108 rfl (lv_at hl 0 rfl) ?_
      refine m_g39 hc hw dX12_judge_109 ?_
      refine lv_bipush (v := 60) hx hb dX12_judge_112 (by decide) ?_
      refine lv_iload_n hx hb dX12_judge_114 rfl (lv_at hl 1 rfl) ?_
      refine lv_imul hx hb dX12_judge_115 ?_
      refine lv_iload_n hx hb dX12_judge_116 rfl (lv_at hl 2 rfl) ?_
      refine lv_iadd hx hb dX12_judge_117 ?_
      obtain ⟨hi31, hf⟩ := gd_some hf
      have hi31 := ok_in hi31
      refine m_l39 hc hw hi31 dX12_judge_118 ?_
      obtain ⟨hi32, hf⟩ := gd_some hf
      have hi32 := ok_in hi32
      refine m_s7 hc hw hi32 dX12_judge_119 (fun H locs hw => ?_)
      refine lv_iinc (lv' := [(3, .int (v29 + 1)), (0, .ref (mr g 0)), (1, .int c28)]) hx hb dX12_judge_120 hl (k := 2) rfl rfl (by decide) rfl (fun ls hl => ?_)
      refine lv_goto (tgt := 95) hx hb dX12_judge_123 (by decide) ?_
      exact ih _ _ X _ _ _ hf hw (lv_sub hl [1, 2, 0] rfl) kx
def mf_judge_L136 (N : Nat) : Nat → mS → Int32 → Int32 → Option (Int32)
  | 0, _, _, _ => none
  | n + 1, S36, v34, v35 => (if v35 < 0 then some v34 else (bd1 (mf_allSee N S36 v35) fun v37 => (if v37 = true then mf_judge_L136 N n S36 v34 (v35 + (-1)) else mf_judge_L136 N n S36 v35 (v35 + (-1)))))
set_option maxRecDepth 100000 in
theorem wm_judge_L136 {p : Program} {l : Launch} {e : Env} {R : Room} {s : State} {m : MethodId} {args : Array Value} {below : List Frame} {meth : Method} {c : Code} {Q : State → Prop} {g : mG} {A : Nat → Prop} {H0 : Heap} (hc : qC RX12 cX12_judge p s m args c) (hR : qRoom R 8) (hml : c.maxLocals = 5) (N : Nat) : ∀ (n : Nat) (S36 : mS) (v34 : Int32) (v35 : Int32) (X : Int32) (H : Heap) (locs : List Loc) (ls : Array Slot), mf_judge_L136 N n S36 v34 v35 = some X → mI g A H0 s S36 H locs → lv_has ls 5 [(0, .ref (mr g 0)), (3, .int v34), (4, .int v35)] → (∀ (H : Heap) (locs : List Loc) (ls : Array Slot), mI g A H0 s S36 H locs → lv_has ls 5 [(0, .ref (mr g 0)), (3, .int X)] → W p l e R s m args below meth c H locs 0 0 Q (F0 m 163 ls [])) → W p l e R s m args below meth c H locs 0 0 Q (F0 m 136 ls []) := by
  have hx := hc.1
  have hb := hc.2.1
  intro n
  induction n with
  | zero => intro _ _ _ X H locs ls hf; exact nomatch (show none = some X from hf)
  | succ n ih =>
    intro S36 v34 v35 X H locs ls hf hw hl kx
    rw [mf_judge_L136] at hf
    refine lv_iload hx hb dX12_judge_136 (lv_at hl 2 rfl) ?_
    refine lv_if_lt (tgt := 163) hx hb dX12_judge_138 (by decide) (fun cn58 => ?_) (fun cn58 => ?_)
    · have hf := (if_pos cn58).symm.trans hf
      cases hf
      exact kx _ _ _ hw (lv_sub hl [0, 1] rfl)
    · have hf := (if_neg cn58).symm.trans hf
      refine lv_aload_n hx hb dX12_judge_141 rfl (lv_at hl 0 rfl) ?_
      refine lv_iload hx hb dX12_judge_142 (lv_at hl 2 rfl) ?_
      obtain ⟨v37, hcall, hf⟩ := bd1_some hf
      refine m_cvi (As := [.int v35]) (rest := []) hc hw hR (hml.trans hl.1.symm) (cm_allSee l N S36 v35 v37 hcall) mq_allSee rfl (by decide) rfl rfl rfl (Nat.le_of_ble_eq_true rfl) dX12_judge_144 (fun H locs hw => ?_) ⟨Nat.zero_le _, Nat.zero_le _⟩
      refine lv_if_eqb (tgt := 154) hx hb dX12_judge_147 (by decide) (fun cn59 => ?_) (fun cn59 => ?_)
      · have hf := (if_neg cn59).symm.trans hf
        refine lv_iload hx hb dX12_judge_154 (lv_at hl 2 rfl) ?_
        refine lv_istore_n (lv' := [(3, .int v35), (0, .ref (mr g 0)), (4, .int v35)]) hx hb dX12_judge_156 rfl hl (by decide) rfl (fun ls hl => ?_)
        refine lv_iinc (lv' := [(4, .int (v35 + (-1))), (3, .int v35), (0, .ref (mr g 0))]) hx hb dX12_judge_157 hl (k := 2) rfl rfl (by decide) rfl (fun ls hl => ?_)
        refine lv_goto (tgt := 136) hx hb dX12_judge_160 (by decide) ?_
        exact ih _ _ _ X _ _ _ hf hw (lv_sub hl [2, 1, 0] rfl) kx
      · have hf := (if_pos cn59).symm.trans hf
        refine lv_iload_n hx hb dX12_judge_150 rfl (lv_at hl 1 rfl) ?_
        refine lv_goto (tgt := 156) hx hb dX12_judge_151 (by decide) ?_
        refine lv_istore_n (lv' := [(3, .int v34), (0, .ref (mr g 0)), (4, .int v35)]) hx hb dX12_judge_156 rfl hl (by decide) rfl (fun ls hl => ?_)
        refine lv_iinc (lv' := [(4, .int (v35 + (-1))), (3, .int v34), (0, .ref (mr g 0))]) hx hb dX12_judge_157 hl (k := 2) rfl rfl (by decide) rfl (fun ls hl => ?_)
        refine lv_goto (tgt := 136) hx hb dX12_judge_160 (by decide) ?_
        exact ih _ _ _ X _ _ _ hf hw (lv_sub hl [2, 1, 0] rfl) kx
def mf_judge (N : Nat) (S : mS) (a1 : Int32) : Option (Int32 × mS) := (if (mf_in a1 0 3) = true then (if ok a1 4 then (if (S.1 37 a1.toNatClampNeg) = (-1) then some ((-11), S) else (if (S.1 38 a1.toNatClampNeg) = (S.1 3 0) then (bd1 (mf_judge_L46 N a1 N S 1 0) fun v26 => (if v26 = 0 then some ((-2), S) else (bd1 (mf_keepsRises N S) fun S27 => (bd1 (mf_judge_L95 N a1 N S27 0) fun S33 => (bd1 (mf_judge_L136 N N S33 (-1) ((S33.1 3 0) - 1)) fun v38 => (bd1 (mf_laysRises N S33) fun S39 => some (v38, S39))))))) else (bd1 (mf_judge_L46 N a1 N S 0 0) fun v7 => (if v7 = 0 then some ((-2), S) else (bd1 (mf_keepsRises N S) fun S8 => (bd1 (mf_judge_L95 N a1 N S8 0) fun S14 => (bd1 (mf_judge_L136 N N S14 (-1) ((S14.1 3 0) - 1)) fun v19 => (bd1 (mf_laysRises N S14) fun S20 => some (v19, S20))))))))) else none) else some ((-2), S))
set_option maxRecDepth 100000 in
theorem cm_judge (l : Launch) (N : Nat) (S : mS) (a1 : Int32) (res : Int32) (S1 : mS) (hf : mf_judge N S a1 = some (res, S1)) : mMi l yX12_judge cX12_judge 5 .int 8 (fun g => [.ref (mr g 0), .int a1]) S res S1 := by
  refine mMi_of (own := RX12) (by decide) rfl rfl (fun g => Nat.le_of_ble_eq_true rfl) ?_
  intro p e R s m args below meth c Q g A H0 H locs ls hc hR hml hw hl hQ
  have hl : lv_has ls 5 [(0, .ref (mr g 0)), (1, .int a1)] := hl
  have hx := hc.1
  have hb := hc.2.1
  unfold mf_judge at hf
  refine lv_iload_n hx hb dX12_judge_0 rfl (lv_at hl 1 rfl) ?_
  refine lv_iconst (v := 0) hx hb dX12_judge_1 (by decide) ?_
  refine lv_iconst (v := 3) hx hb dX12_judge_2 (by decide) ?_
  refine m_csi (As := [.int a1, .int 0, .int 3]) (rest := []) hc hw hR (hml.trans hl.1.symm) (cm_in l S a1 0 3 _ rfl) mq_in (by decide) rfl rfl rfl (Nat.le_of_ble_eq_true rfl) dX12_judge_3 (fun H locs hw => ?_) ⟨Nat.zero_le _, Nat.zero_le _⟩
  refine lv_if_neb (tgt := 12) hx hb dX12_judge_6 (by decide) (fun cn40 => ?_) (fun cn40 => ?_)
  · have hf := (if_pos cn40).symm.trans hf
    refine lv_aload_n hx hb dX12_judge_12 rfl (lv_at hl 0 rfl) ?_
    refine m_g37 hc hw dX12_judge_13 ?_
    refine lv_iload_n hx hb dX12_judge_16 rfl (lv_at hl 1 rfl) ?_
    obtain ⟨hi1, hf⟩ := gd_some hf
    have hi1 := ok_in hi1
    refine m_l37 hc hw hi1 dX12_judge_17 ?_
    refine lv_iconst (v := (-1)) hx hb dX12_judge_18 (by decide) ?_
    refine lv_icmp_ne (tgt := 25) hx hb dX12_judge_19 (by decide) (fun cn41 => ?_) (fun cn41 => ?_)
    · have hf := (if_neg cn41).symm.trans hf
      refine lv_aload_n hx hb dX12_judge_25 rfl (lv_at hl 0 rfl) ?_
      refine m_g38 hc hw dX12_judge_26 ?_
      refine lv_iload_n hx hb dX12_judge_29 rfl (lv_at hl 1 rfl) ?_
      refine m_l38 hc hw hi1 dX12_judge_30 ?_
      refine lv_aload_n hx hb dX12_judge_31 rfl (lv_at hl 0 rfl) ?_
      refine m_g3 hc hw dX12_judge_32 ?_
      refine lv_icmp_ne (tgt := 42) hx hb dX12_judge_35 (by decide) (fun cn42 => ?_) (fun cn42 => ?_)
      · have hf := (if_neg cn42).symm.trans hf
        refine lv_iconst (v := 0) hx hb dX12_judge_42 (by decide) ?_
        refine lv_istore_n (lv' := [(2, .int 0), (0, .ref (mr g 0)), (1, .int a1)]) hx hb dX12_judge_43 rfl hl (by decide) rfl (fun ls hl => ?_)
        refine lv_iconst (v := 0) hx hb dX12_judge_44 (by decide) ?_
        refine lv_istore_n (lv' := [(3, .int 0), (2, .int 0), (0, .ref (mr g 0)), (1, .int a1)]) hx hb dX12_judge_45 rfl hl (by decide) rfl (fun ls hl => ?_)
        obtain ⟨v7, hX, hf⟩ := bd1_some hf
        refine wm_judge_L46 hc hR hml N a1 N _ _ _ _ _ _ _ hX hw (lv_sub hl [2, 3, 1, 0] rfl) (fun H locs ls hw hl => ?_)
        refine lv_iload_n hx hb dX12_judge_82 rfl (lv_at hl 2 rfl) ?_
        refine lv_if_ne (tgt := 89) hx hb dX12_judge_83 (by decide) (fun cn46 => ?_) (fun cn46 => ?_)
        · have hf := (if_neg cn46).symm.trans hf
          refine lv_aload_n hx hb dX12_judge_89 rfl (lv_at hl 0 rfl) ?_
          obtain ⟨S8, hcall, hf⟩ := bd1_some hf
          refine m_cvv (As := []) (rest := []) hc hw hR (hml.trans hl.1.symm) (cm_keepsRises l N S S8 hcall) mq_keepsRises rfl (by decide) rfl rfl rfl (Nat.le_of_ble_eq_true rfl) dX12_judge_90 (fun H locs hw => ?_) ⟨Nat.zero_le _, Nat.zero_le _⟩
          refine lv_iconst (v := 0) hx hb dX12_judge_93 (by decide) ?_
          refine lv_istore_n (lv' := [(3, .int 0), (0, .ref (mr g 0)), (1, .int a1), (2, .int v7)]) hx hb dX12_judge_94 rfl hl (by decide) rfl (fun ls hl => ?_)
          obtain ⟨S14, hX, hf⟩ := bd1_some hf
          refine wm_judge_L95 hc hR hml N a1 N _ _ _ _ _ _ hX hw (lv_sub hl [1, 2, 0] rfl) (fun H locs ls hw hl => ?_)
          refine lv_iconst (v := (-1)) hx hb dX12_judge_126 (by decide) ?_
          refine lv_istore_n (lv' := [(3, .int (-1)), (0, .ref (mr g 0))]) hx hb dX12_judge_127 rfl hl (by decide) rfl (fun ls hl => ?_)
          refine lv_aload_n hx hb dX12_judge_128 rfl (lv_at hl 1 rfl) ?_
          refine m_g3 hc hw dX12_judge_129 ?_
          refine lv_iconst (v := 1) hx hb dX12_judge_132 (by decide) ?_
          refine lv_isub hx hb dX12_judge_133 ?_
          refine lv_istore (lv' := [(4, .int ((S14.1 3 0) - 1)), (3, .int (-1)), (0, .ref (mr g 0))]) hx hb dX12_judge_134 hl (by decide) rfl (fun ls hl => ?_)
          obtain ⟨v19, hX, hf⟩ := bd1_some hf
          refine wm_judge_L136 hc hR hml N N _ _ _ _ _ _ _ hX hw (lv_sub hl [2, 1, 0] rfl) (fun H locs ls hw hl => ?_)
          refine lv_aload_n hx hb dX12_judge_163 rfl (lv_at hl 0 rfl) ?_
          obtain ⟨S20, hcall, hf⟩ := bd1_some hf
          refine m_cvv (As := []) (rest := []) hc hw hR (hml.trans hl.1.symm) (cm_laysRises l N S14 S20 hcall) mq_laysRises rfl (by decide) rfl rfl rfl (Nat.le_of_ble_eq_true rfl) dX12_judge_164 (fun H locs hw => ?_) ⟨Nat.zero_le _, Nat.zero_le _⟩
          refine lv_iload_n hx hb dX12_judge_167 rfl (lv_at hl 1 rfl) ?_
          cases hf
          exact hQ _ _ _ _ dX12_judge_168 hw
        · have hf := (if_pos cn46).symm.trans hf
          refine lv_bipush (v := (-2)) hx hb dX12_judge_86 (by decide) ?_
          cases hf
          exact hQ _ _ _ _ dX12_judge_88 hw
      · have hf := (if_pos cn42).symm.trans hf
        refine lv_iconst (v := 1) hx hb dX12_judge_38 (by decide) ?_
        refine lv_goto (tgt := 43) hx hb dX12_judge_39 (by decide) ?_
        refine lv_istore_n (lv' := [(2, .int 1), (0, .ref (mr g 0)), (1, .int a1)]) hx hb dX12_judge_43 rfl hl (by decide) rfl (fun ls hl => ?_)
        refine lv_iconst (v := 0) hx hb dX12_judge_44 (by decide) ?_
        refine lv_istore_n (lv' := [(3, .int 0), (2, .int 1), (0, .ref (mr g 0)), (1, .int a1)]) hx hb dX12_judge_45 rfl hl (by decide) rfl (fun ls hl => ?_)
        obtain ⟨v26, hX, hf⟩ := bd1_some hf
        refine wm_judge_L46 hc hR hml N a1 N _ _ _ _ _ _ _ hX hw (lv_sub hl [2, 3, 1, 0] rfl) (fun H locs ls hw hl => ?_)
        refine lv_iload_n hx hb dX12_judge_82 rfl (lv_at hl 2 rfl) ?_
        refine lv_if_ne (tgt := 89) hx hb dX12_judge_83 (by decide) (fun cn55 => ?_) (fun cn55 => ?_)
        · have hf := (if_neg cn55).symm.trans hf
          refine lv_aload_n hx hb dX12_judge_89 rfl (lv_at hl 0 rfl) ?_
          obtain ⟨S27, hcall, hf⟩ := bd1_some hf
          refine m_cvv (As := []) (rest := []) hc hw hR (hml.trans hl.1.symm) (cm_keepsRises l N S S27 hcall) mq_keepsRises rfl (by decide) rfl rfl rfl (Nat.le_of_ble_eq_true rfl) dX12_judge_90 (fun H locs hw => ?_) ⟨Nat.zero_le _, Nat.zero_le _⟩
          refine lv_iconst (v := 0) hx hb dX12_judge_93 (by decide) ?_
          refine lv_istore_n (lv' := [(3, .int 0), (0, .ref (mr g 0)), (1, .int a1), (2, .int v26)]) hx hb dX12_judge_94 rfl hl (by decide) rfl (fun ls hl => ?_)
          obtain ⟨S33, hX, hf⟩ := bd1_some hf
          refine wm_judge_L95 hc hR hml N a1 N _ _ _ _ _ _ hX hw (lv_sub hl [1, 2, 0] rfl) (fun H locs ls hw hl => ?_)
          refine lv_iconst (v := (-1)) hx hb dX12_judge_126 (by decide) ?_
          refine lv_istore_n (lv' := [(3, .int (-1)), (0, .ref (mr g 0))]) hx hb dX12_judge_127 rfl hl (by decide) rfl (fun ls hl => ?_)
          refine lv_aload_n hx hb dX12_judge_128 rfl (lv_at hl 1 rfl) ?_
          refine m_g3 hc hw dX12_judge_129 ?_
          refine lv_iconst (v := 1) hx hb dX12_judge_132 (by decide) ?_
          refine lv_isub hx hb dX12_judge_133 ?_
          refine lv_istore (lv' := [(4, .int ((S33.1 3 0) - 1)), (3, .int (-1)), (0, .ref (mr g 0))]) hx hb dX12_judge_134 hl (by decide) rfl (fun ls hl => ?_)
          obtain ⟨v38, hX, hf⟩ := bd1_some hf
          refine wm_judge_L136 hc hR hml N N _ _ _ _ _ _ _ hX hw (lv_sub hl [2, 1, 0] rfl) (fun H locs ls hw hl => ?_)
          refine lv_aload_n hx hb dX12_judge_163 rfl (lv_at hl 0 rfl) ?_
          obtain ⟨S39, hcall, hf⟩ := bd1_some hf
          refine m_cvv (As := []) (rest := []) hc hw hR (hml.trans hl.1.symm) (cm_laysRises l N S33 S39 hcall) mq_laysRises rfl (by decide) rfl rfl rfl (Nat.le_of_ble_eq_true rfl) dX12_judge_164 (fun H locs hw => ?_) ⟨Nat.zero_le _, Nat.zero_le _⟩
          refine lv_iload_n hx hb dX12_judge_167 rfl (lv_at hl 1 rfl) ?_
          cases hf
          exact hQ _ _ _ _ dX12_judge_168 hw
        · have hf := (if_pos cn55).symm.trans hf
          refine lv_bipush (v := (-2)) hx hb dX12_judge_86 (by decide) ?_
          cases hf
          exact hQ _ _ _ _ dX12_judge_88 hw
    · have hf := (if_pos cn41).symm.trans hf
      refine lv_bipush (v := (-11)) hx hb dX12_judge_22 (by decide) ?_
      cases hf
      exact hQ _ _ _ _ dX12_judge_24 hw
  · have hf := (if_neg cn40).symm.trans hf
    refine lv_bipush (v := (-2)) hx hb dX12_judge_9 (by decide) ?_
    cases hf
    exact hQ _ _ _ _ dX12_judge_11 hw
def mf_tall_L18 (N : Nat) (c2 : Int32) : Nat → mS → Int32 → Option (mS)
  | 0, _, _ => none
  | n + 1, S4, v3 => (if 48 ≤ v3 then some S4 else (if ok v3 48 then mf_tall_L18 N c2 n (ms S4 9 v3.toNatClampNeg c2) (v3 + 1) else none))
set_option maxRecDepth 100000 in
theorem wm_tall_L18 {p : Program} {l : Launch} {e : Env} {R : Room} {s : State} {m : MethodId} {args : Array Value} {below : List Frame} {meth : Method} {c : Code} {Q : State → Prop} {g : mG} {A : Nat → Prop} {H0 : Heap} (hc : qC RX12 cX12_tall p s m args c) (hR : qRoom R 8) (hml : c.maxLocals = 3) (N : Nat) (c2 : Int32) : ∀ (n : Nat) (S4 : mS) (v3 : Int32) (X : mS) (H : Heap) (locs : List Loc) (ls : Array Slot), mf_tall_L18 N c2 n S4 v3 = some X → mI g A H0 s S4 H locs → lv_has ls 3 [(0, .ref (mr g 0)), (1, .int c2), (2, .int v3)] → (∀ (H : Heap) (locs : List Loc) (ls : Array Slot), mI g A H0 s X H locs → lv_has ls 3 [(0, .ref (mr g 0))] → W p l e R s m args below meth c H locs 0 0 Q (F0 m 37 ls [])) → W p l e R s m args below meth c H locs 0 0 Q (F0 m 18 ls []) := by
  have hx := hc.1
  have hb := hc.2.1
  intro n
  induction n with
  | zero => intro _ _ X H locs ls hf; exact nomatch (show none = some X from hf)
  | succ n ih =>
    intro S4 v3 X H locs ls hf hw hl kx
    rw [mf_tall_L18] at hf
    refine lv_iload_n hx hb dX12_tall_18 rfl (lv_at hl 2 rfl) ?_
    refine lv_bipush (v := 48) hx hb dX12_tall_19 (by decide) ?_
    refine lv_icmp_ge (tgt := 37) hx hb dX12_tall_21 (by decide) (fun cn11 => ?_) (fun cn11 => ?_)
    · have hf := (if_pos cn11).symm.trans hf
      cases hf
      exact kx _ _ _ hw (lv_sub hl [0] rfl)
    · have hf := (if_neg cn11).symm.trans hf
      refine lv_aload_n hx hb dX12_tall_24 rfl (lv_at hl 0 rfl) ?_
      refine m_g9 hc hw dX12_tall_25 ?_
      refine lv_iload_n hx hb dX12_tall_28 rfl (lv_at hl 2 rfl) ?_
      refine lv_iload_n hx hb dX12_tall_29 rfl (lv_at hl 1 rfl) ?_
      obtain ⟨hi5, hf⟩ := gd_some hf
      have hi5 := ok_in hi5
      refine m_s9 hc hw hi5 dX12_tall_30 (fun H locs hw => ?_)
      refine lv_iinc (lv' := [(2, .int (v3 + 1)), (0, .ref (mr g 0)), (1, .int c2)]) hx hb dX12_tall_31 hl (k := 2) rfl rfl (by decide) rfl (fun ls hl => ?_)
      refine lv_goto (tgt := 18) hx hb dX12_tall_34 (by decide) ?_
      exact ih _ _ X _ _ _ hf hw (lv_sub hl [1, 2, 0] rfl) kx
def mf_tall (N : Nat) (S : mS) (a1 : Int32) : Option (Int32 × mS) := (if (mf_in a1 0 3) = true then (bd1 (mf_keepsSorts N S) fun S1 => (bd1 (mf_tall_L18 N a1 N S1 0) fun S6 => (bd2 (mf_allWorth N S6) fun v7 S8 => (bd1 (mf_laysSorts N S8) fun S9 => some (v7, S9))))) else some ((-2), S))
set_option maxRecDepth 100000 in
theorem cm_tall (l : Launch) (N : Nat) (S : mS) (a1 : Int32) (res : Int32) (S1 : mS) (hf : mf_tall N S a1 = some (res, S1)) : mMi l yX12_tall cX12_tall 3 .int 8 (fun g => [.ref (mr g 0), .int a1]) S res S1 := by
  refine mMi_of (own := RX12) (by decide) rfl rfl (fun g => Nat.le_of_ble_eq_true rfl) ?_
  intro p e R s m args below meth c Q g A H0 H locs ls hc hR hml hw hl hQ
  have hl : lv_has ls 3 [(0, .ref (mr g 0)), (1, .int a1)] := hl
  have hx := hc.1
  have hb := hc.2.1
  unfold mf_tall at hf
  refine lv_iload_n hx hb dX12_tall_0 rfl (lv_at hl 1 rfl) ?_
  refine lv_iconst (v := 0) hx hb dX12_tall_1 (by decide) ?_
  refine lv_iconst (v := 3) hx hb dX12_tall_2 (by decide) ?_
  refine m_csi (As := [.int a1, .int 0, .int 3]) (rest := []) hc hw hR (hml.trans hl.1.symm) (cm_in l S a1 0 3 _ rfl) mq_in (by decide) rfl rfl rfl (Nat.le_of_ble_eq_true rfl) dX12_tall_3 (fun H locs hw => ?_) ⟨Nat.zero_le _, Nat.zero_le _⟩
  refine lv_if_neb (tgt := 12) hx hb dX12_tall_6 (by decide) (fun cn10 => ?_) (fun cn10 => ?_)
  · have hf := (if_pos cn10).symm.trans hf
    refine lv_aload_n hx hb dX12_tall_12 rfl (lv_at hl 0 rfl) ?_
    obtain ⟨S1, hcall, hf⟩ := bd1_some hf
    refine m_cvv (As := []) (rest := []) hc hw hR (hml.trans hl.1.symm) (cm_keepsSorts l N S S1 hcall) mq_keepsSorts rfl (by decide) rfl rfl rfl (Nat.le_of_ble_eq_true rfl) dX12_tall_13 (fun H locs hw => ?_) ⟨Nat.zero_le _, Nat.zero_le _⟩
    refine lv_iconst (v := 0) hx hb dX12_tall_16 (by decide) ?_
    refine lv_istore_n (lv' := [(2, .int 0), (0, .ref (mr g 0)), (1, .int a1)]) hx hb dX12_tall_17 rfl hl (by decide) rfl (fun ls hl => ?_)
    obtain ⟨S6, hX, hf⟩ := bd1_some hf
    refine wm_tall_L18 hc hR hml N a1 N _ _ _ _ _ _ hX hw (lv_sub hl [1, 2, 0] rfl) (fun H locs ls hw hl => ?_)
    refine lv_aload_n hx hb dX12_tall_37 rfl (lv_at hl 0 rfl) ?_
    obtain ⟨v7, S8, hcall, hf⟩ := bd2_some hf
    refine m_cvi (As := []) (rest := []) hc hw hR (hml.trans hl.1.symm) (cm_allWorth l N S6 v7 S8 hcall) mq_allWorth rfl (by decide) rfl rfl rfl (Nat.le_of_ble_eq_true rfl) dX12_tall_38 (fun H locs hw => ?_) ⟨Nat.zero_le _, Nat.zero_le _⟩
    refine lv_istore_n (lv' := [(2, .int v7), (0, .ref (mr g 0))]) hx hb dX12_tall_41 rfl hl (by decide) rfl (fun ls hl => ?_)
    refine lv_aload_n hx hb dX12_tall_42 rfl (lv_at hl 1 rfl) ?_
    obtain ⟨S9, hcall, hf⟩ := bd1_some hf
    refine m_cvv (As := []) (rest := []) hc hw hR (hml.trans hl.1.symm) (cm_laysSorts l N S8 S9 hcall) mq_laysSorts rfl (by decide) rfl rfl rfl (Nat.le_of_ble_eq_true rfl) dX12_tall_43 (fun H locs hw => ?_) ⟨Nat.zero_le _, Nat.zero_le _⟩
    refine lv_iload_n hx hb dX12_tall_46 rfl (lv_at hl 0 rfl) ?_
    cases hf
    exact hQ _ _ _ _ dX12_tall_47 hw
  · have hf := (if_neg cn10).symm.trans hf
    refine lv_bipush (v := (-2)) hx hb dX12_tall_9 (by decide) ?_
    cases hf
    exact hQ _ _ _ _ dX12_tall_11 hw
def mf_raises_L2 (N : Nat) (c1 : Int32) : Nat → mS → Int32 → Option ((Int32 × mS) ⊕ (mS))
  | 0, _, _ => none
  | n + 1, S3, v2 => (if 99 < v2 then some (.inr S3) else (if ok c1 6 then (bd1 (mf_allSee N (ms S3 7 c1.toNatClampNeg v2) c1) fun v5 => (if v5 = true then some (.inl (v2, ms S3 7 c1.toNatClampNeg v2)) else mf_raises_L2 N c1 n (ms S3 7 c1.toNatClampNeg v2) (v2 + 1))) else none))
set_option maxRecDepth 100000 in
theorem wm_raises_L2 {p : Program} {l : Launch} {e : Env} {R : Room} {s : State} {m : MethodId} {args : Array Value} {below : List Frame} {meth : Method} {c : Code} {Q : State → Prop} {g : mG} {A : Nat → Prop} {H0 : Heap} (hc : qC RX12 cX12_raises p s m args c) (hR : qRoom R 8) (hml : c.maxLocals = 4) (N : Nat) (c1 : Int32) : ∀ (n : Nat) (S3 : mS) (v2 : Int32) (X : (Int32 × mS) ⊕ (mS)) (H : Heap) (locs : List Loc) (ls : Array Slot), mf_raises_L2 N c1 n S3 v2 = some X → mI g A H0 s S3 H locs → lv_has ls 4 [(0, .ref (mr g 0)), (1, .int c1), (3, .int v2)] → (∀ (S9 : mS), X = .inr S9 → ∀ (H : Heap) (locs : List Loc) (ls : Array Slot), mI g A H0 s S9 H locs → lv_has ls 4 [] → W p l e R s m args below meth c H locs 0 0 Q (F0 m 31 ls [])) → (∀ (r : Int32) (S9 : mS), X = .inl (r, S9) → mQi p l e R s m args below meth c cX12_raises Q g A H0 r S9) → W p l e R s m args below meth c H locs 0 0 Q (F0 m 2 ls []) := by
  have hx := hc.1
  have hb := hc.2.1
  intro n
  induction n with
  | zero => intro _ _ X H locs ls hf; exact nomatch (show none = some X from hf)
  | succ n ih =>
    intro S3 v2 X H locs ls hf hw hl kx kr
    rw [mf_raises_L2] at hf
    refine lv_iload_n hx hb dX12_raises_2 rfl (lv_at hl 2 rfl) ?_
    refine lv_bipush (v := 99) hx hb dX12_raises_3 (by decide) ?_
    refine lv_icmp_gt (tgt := 31) hx hb dX12_raises_5 (by decide) (fun cn7 => ?_) (fun cn7 => ?_)
    · have hf := (if_pos cn7).symm.trans hf
      cases hf
      exact kx _ rfl _ _ _ hw (lv_sub hl [] rfl)
    · have hf := (if_neg cn7).symm.trans hf
      refine lv_aload_n hx hb dX12_raises_8 rfl (lv_at hl 0 rfl) ?_
      refine m_g7 hc hw dX12_raises_9 ?_
      refine lv_iload_n hx hb dX12_raises_12 rfl (lv_at hl 1 rfl) ?_
      refine lv_iload_n hx hb dX12_raises_13 rfl (lv_at hl 2 rfl) ?_
      obtain ⟨hi4, hf⟩ := gd_some hf
      have hi4 := ok_in hi4
      refine m_s7 hc hw hi4 dX12_raises_14 (fun H locs hw => ?_)
      refine lv_aload_n hx hb dX12_raises_15 rfl (lv_at hl 0 rfl) ?_
      refine lv_iload_n hx hb dX12_raises_16 rfl (lv_at hl 1 rfl) ?_
      obtain ⟨v5, hcall, hf⟩ := bd1_some hf
      refine m_cvi (As := [.int c1]) (rest := []) hc hw hR (hml.trans hl.1.symm) (cm_allSee l N (ms S3 7 c1.toNatClampNeg v2) c1 v5 hcall) mq_allSee rfl (by decide) rfl rfl rfl (Nat.le_of_ble_eq_true rfl) dX12_raises_17 (fun H locs hw => ?_) ⟨Nat.zero_le _, Nat.zero_le _⟩
      refine lv_if_eqb (tgt := 25) hx hb dX12_raises_20 (by decide) (fun cn8 => ?_) (fun cn8 => ?_)
      · have hf := (if_neg cn8).symm.trans hf
        refine lv_iinc (lv' := [(3, .int (v2 + 1)), (0, .ref (mr g 0)), (1, .int c1)]) hx hb dX12_raises_25 hl (k := 2) rfl rfl (by decide) rfl (fun ls hl => ?_)
        refine lv_goto (tgt := 2) hx hb dX12_raises_28 (by decide) ?_
        exact ih _ _ X _ _ _ hf hw (lv_sub hl [1, 2, 0] rfl) kx kr
      · have hf := (if_pos cn8).symm.trans hf
        refine lv_iload_n hx hb dX12_raises_23 rfl (lv_at hl 2 rfl) ?_
        cases hf
        exact kr _ _  rfl _ _ _ _ dX12_raises_24 hw
def mf_raises (N : Nat) (S : mS) (a1 : Int32) (a2 : Int32) : Option (Int32 × mS) := (br1 (mf_raises_L2 N a1 N S a2) (Option.some) fun S6 => some ((-1), S6))
set_option maxRecDepth 100000 in
theorem cm_raises (l : Launch) (N : Nat) (S : mS) (a1 : Int32) (a2 : Int32) (res : Int32) (S1 : mS) (hf : mf_raises N S a1 a2 = some (res, S1)) : mMi l yX12_raises cX12_raises 4 .int 8 (fun g => [.ref (mr g 0), .int a1, .int a2]) S res S1 := by
  refine mMi_of (own := RX12) (by decide) rfl rfl (fun g => Nat.le_of_ble_eq_true rfl) ?_
  intro p e R s m args below meth c Q g A H0 H locs ls hc hR hml hw hl hQ
  have hl : lv_has ls 4 [(0, .ref (mr g 0)), (1, .int a1), (2, .int a2)] := hl
  have hx := hc.1
  have hb := hc.2.1
  unfold mf_raises at hf
  refine lv_iload_n hx hb dX12_raises_0 rfl (lv_at hl 2 rfl) ?_
  refine lv_istore_n (lv' := [(3, .int a2), (0, .ref (mr g 0)), (1, .int a1), (2, .int a2)]) hx hb dX12_raises_1 rfl hl (by decide) rfl (fun ls hl => ?_)
  rcases br1_some hf with ⟨q, hX, hf⟩ | ⟨S6, hX, hf⟩
  · refine wm_raises_L2 hc hR hml N a1 N _ _ _ _ _ _ hX hw (lv_sub hl [1, 2, 0] rfl) (fun _  h => nomatch h) ?_
    cases hf
    intro z0 z1 h; cases h; exact hQ
  · refine wm_raises_L2 hc hR hml N a1 N _ _ _ _ _ _ hX hw (lv_sub hl [1, 2, 0] rfl) (fun y0 hi => ?_) (fun _ _  h => nomatch h)
    cases hi
    intro H locs ls hw hl
    refine lv_iconst (v := (-1)) hx hb dX12_raises_31 (by decide) ?_
    cases hf
    exact hQ _ _ _ _ dX12_raises_32 hw
theorem mq_raises : qCv RX12 352 yX12_raises cX12_raises 4 (some .int) 2 := ⟨⟨(mem_g 1591 (by decide +kernel) rfl), (mem_g 1593 (by decide +kernel) rfl), (mem_g 72 (by decide +kernel) rfl), (mem_g 89 (by decide +kernel) rfl), (mem_g 1594 (by decide +kernel) rfl)⟩, by decide, by decide +kernel, by decide⟩
def mf_shifts_L14 (N : Nat) (c1 : Int32) : Nat → mS → Int32 → Option (mS)
  | 0, _, _ => none
  | n + 1, S3, v2 => (if 6 ≤ v2 then some S3 else (if ok v2 6 then mf_shifts_L14 N c1 n (ms S3 55 v2.toNatClampNeg (S3.1 8 v2.toNatClampNeg)) (v2 + 1) else none))
set_option maxRecDepth 100000 in
theorem wm_shifts_L14 {p : Program} {l : Launch} {e : Env} {R : Room} {s : State} {m : MethodId} {args : Array Value} {below : List Frame} {meth : Method} {c : Code} {Q : State → Prop} {g : mG} {A : Nat → Prop} {H0 : Heap} (hc : qC RX12 cX12_shifts p s m args c) (hR : qRoom R 8) (hml : c.maxLocals = 6) (N : Nat) (c1 : Int32) : ∀ (n : Nat) (S3 : mS) (v2 : Int32) (X : mS) (H : Heap) (locs : List Loc) (ls : Array Slot), mf_shifts_L14 N c1 n S3 v2 = some X → mI g A H0 s S3 H locs → lv_has ls 6 [(0, .ref (mr g 0)), (1, .int c1), (2, .int v2)] → (∀ (H : Heap) (locs : List Loc) (ls : Array Slot), mI g A H0 s X H locs → lv_has ls 6 [(0, .ref (mr g 0)), (1, .int c1)] → W p l e R s m args below meth c H locs 0 0 Q (F0 m 38 ls [])) → W p l e R s m args below meth c H locs 0 0 Q (F0 m 14 ls []) := by
  have hx := hc.1
  have hb := hc.2.1
  intro n
  induction n with
  | zero => intro _ _ X H locs ls hf; exact nomatch (show none = some X from hf)
  | succ n ih =>
    intro S3 v2 X H locs ls hf hw hl kx
    rw [mf_shifts_L14] at hf
    refine lv_iload_n hx hb dX12_shifts_14 rfl (lv_at hl 2 rfl) ?_
    refine lv_bipush (v := 6) hx hb dX12_shifts_15 (by decide) ?_
    refine lv_icmp_ge (tgt := 38) hx hb dX12_shifts_17 (by decide) (fun cn32 => ?_) (fun cn32 => ?_)
    · have hf := (if_pos cn32).symm.trans hf
      cases hf
      exact kx _ _ _ hw (lv_sub hl [0, 1] rfl)
    · have hf := (if_neg cn32).symm.trans hf
      refine lv_aload_n hx hb dX12_shifts_20 rfl (lv_at hl 0 rfl) ?_
      refine m_g55 hc hw dX12_shifts_21 ?_
      refine lv_iload_n hx hb dX12_shifts_24 rfl (lv_at hl 2 rfl) ?_
      refine lv_aload_n hx hb dX12_shifts_25 rfl (lv_at hl 0 rfl) ?_
      refine m_g8 hc hw dX12_shifts_26 ?_
      refine lv_iload_n hx hb dX12_shifts_29 rfl (lv_at hl 2 rfl) ?_
      obtain ⟨hi4, hf⟩ := gd_some hf
      have hi4 := ok_in hi4
      refine m_l8 hc hw hi4 dX12_shifts_30 ?_
      refine m_s55 hc hw hi4 dX12_shifts_31 (fun H locs hw => ?_)
      refine lv_iinc (lv' := [(2, .int (v2 + 1)), (0, .ref (mr g 0)), (1, .int c1)]) hx hb dX12_shifts_32 hl (k := 2) rfl rfl (by decide) rfl (fun ls hl => ?_)
      refine lv_goto (tgt := 14) hx hb dX12_shifts_35 (by decide) ?_
      exact ih _ _ X _ _ _ hf hw (lv_sub hl [1, 2, 0] rfl) kx
def mf_shifts_L59 (N : Nat) (c11 : Int32) (c12 : Int32) (c13 : Int32) (c14 : Int32) : Nat → mS → Int32 → Option (mS)
  | 0, _, _ => none
  | n + 1, S16, v15 => (if (S16.1 3 0) ≤ v15 then some S16 else (if ok v15 6 then mf_shifts_L59 N c11 c12 c13 c14 n (ms S16 8 v15.toNatClampNeg ((c14 >>> (v15 &&& 31)) &&& 1)) (v15 + 1) else none))
set_option maxRecDepth 100000 in
theorem wm_shifts_L59 {p : Program} {l : Launch} {e : Env} {R : Room} {s : State} {m : MethodId} {args : Array Value} {below : List Frame} {meth : Method} {c : Code} {Q : State → Prop} {g : mG} {A : Nat → Prop} {H0 : Heap} (hc : qC RX12 cX12_shifts p s m args c) (hR : qRoom R 8) (hml : c.maxLocals = 6) (N : Nat) (c11 : Int32) (c12 : Int32) (c13 : Int32) (c14 : Int32) : ∀ (n : Nat) (S16 : mS) (v15 : Int32) (X : mS) (H : Heap) (locs : List Loc) (ls : Array Slot), mf_shifts_L59 N c11 c12 c13 c14 n S16 v15 = some X → mI g A H0 s S16 H locs → lv_has ls 6 [(0, .ref (mr g 0)), (1, .int c11), (2, .int c12), (3, .int c13), (4, .int c14), (5, .int v15)] → (∀ (H : Heap) (locs : List Loc) (ls : Array Slot), mI g A H0 s X H locs → lv_has ls 6 [(0, .ref (mr g 0)), (1, .int c11), (2, .int c12), (3, .int c13), (4, .int c14)] → W p l e R s m args below meth c H locs 0 0 Q (F0 m 88 ls [])) → W p l e R s m args below meth c H locs 0 0 Q (F0 m 59 ls []) := by
  have hx := hc.1
  have hb := hc.2.1
  intro n
  induction n with
  | zero => intro _ _ X H locs ls hf; exact nomatch (show none = some X from hf)
  | succ n ih =>
    intro S16 v15 X H locs ls hf hw hl kx
    rw [mf_shifts_L59] at hf
    refine lv_iload hx hb dX12_shifts_59 (lv_at hl 5 rfl) ?_
    refine lv_aload_n hx hb dX12_shifts_61 rfl (lv_at hl 0 rfl) ?_
    refine m_g3 hc hw dX12_shifts_62 ?_
    refine lv_icmp_ge (tgt := 88) hx hb dX12_shifts_65 (by decide) (fun cn35 => ?_) (fun cn35 => ?_)
    · have hf := (if_pos cn35).symm.trans hf
      cases hf
      exact kx _ _ _ hw (lv_sub hl [0, 1, 2, 3, 4] rfl)
    · have hf := (if_neg cn35).symm.trans hf
      refine lv_aload_n hx hb dX12_shifts_68 rfl (lv_at hl 0 rfl) ?_
      refine m_g8 hc hw dX12_shifts_69 ?_
      refine lv_iload hx hb dX12_shifts_72 (lv_at hl 5 rfl) ?_
      refine lv_iload hx hb dX12_shifts_74 (lv_at hl 4 rfl) ?_
      refine lv_iload hx hb dX12_shifts_76 (lv_at hl 5 rfl) ?_
      refine lv_ishr hx hb dX12_shifts_78 ?_
      refine lv_iconst (v := 1) hx hb dX12_shifts_79 (by decide) ?_
      refine lv_iand hx hb dX12_shifts_80 ?_
      obtain ⟨hi17, hf⟩ := gd_some hf
      have hi17 := ok_in hi17
      refine m_s8 hc hw hi17 dX12_shifts_81 (fun H locs hw => ?_)
      refine lv_iinc (lv' := [(5, .int (v15 + 1)), (0, .ref (mr g 0)), (1, .int c11), (2, .int c12), (3, .int c13), (4, .int c14)]) hx hb dX12_shifts_82 hl (k := 5) rfl rfl (by decide) rfl (fun ls hl => ?_)
      refine lv_goto (tgt := 59) hx hb dX12_shifts_85 (by decide) ?_
      exact ih _ _ X _ _ _ hf hw (lv_sub hl [1, 2, 3, 4, 5, 0] rfl) kx
def mf_shifts_L45 (N : Nat) (c6 : Int32) : Nat → mS → Int32 → Int32 → Int32 → Option (Int32 × Int32 × mS)
  | 0, _, _, _, _ => none
  | n + 1, S10, v7, v8, v9 => (if ((1 : Int32) <<< ((S10.1 3 0) &&& 31)) ≤ v9 then some (v7, v8, S10) else (bd1 (mf_shifts_L59 N c6 v7 v8 v9 N S10 0) fun S18 => (bd2 (mf_allWorth N S18) fun v19 S20 => (if v19 ≤ v8 then mf_shifts_L45 N c6 n S20 v7 v8 (v9 + 1) else mf_shifts_L45 N c6 n S20 v9 v19 (v9 + 1)))))
set_option maxRecDepth 100000 in
theorem wm_shifts_L45 {p : Program} {l : Launch} {e : Env} {R : Room} {s : State} {m : MethodId} {args : Array Value} {below : List Frame} {meth : Method} {c : Code} {Q : State → Prop} {g : mG} {A : Nat → Prop} {H0 : Heap} (hc : qC RX12 cX12_shifts p s m args c) (hR : qRoom R 8) (hml : c.maxLocals = 6) (N : Nat) (c6 : Int32) : ∀ (n : Nat) (S10 : mS) (v7 : Int32) (v8 : Int32) (v9 : Int32) (X : Int32 × Int32 × mS) (H : Heap) (locs : List Loc) (ls : Array Slot), mf_shifts_L45 N c6 n S10 v7 v8 v9 = some X → mI g A H0 s S10 H locs → lv_has ls 6 [(0, .ref (mr g 0)), (1, .int c6), (2, .int v7), (3, .int v8), (4, .int v9)] → (∀ (H : Heap) (locs : List Loc) (ls : Array Slot), mI g A H0 s X.2.2 H locs → lv_has ls 6 [(0, .ref (mr g 0)), (1, .int c6), (2, .int X.1), (3, .int X.2.1)] → W p l e R s m args below meth c H locs 0 0 Q (F0 m 112 ls [])) → W p l e R s m args below meth c H locs 0 0 Q (F0 m 45 ls []) := by
  have hx := hc.1
  have hb := hc.2.1
  intro n
  induction n with
  | zero => intro _ _ _ _ X H locs ls hf; exact nomatch (show none = some X from hf)
  | succ n ih =>
    intro S10 v7 v8 v9 X H locs ls hf hw hl kx
    rw [mf_shifts_L45] at hf
    refine lv_iload hx hb dX12_shifts_45 (lv_at hl 4 rfl) ?_
    refine lv_iconst (v := 1) hx hb dX12_shifts_47 (by decide) ?_
    refine lv_aload_n hx hb dX12_shifts_48 rfl (lv_at hl 0 rfl) ?_
    refine m_g3 hc hw dX12_shifts_49 ?_
    refine lv_ishl hx hb dX12_shifts_52 ?_
    refine lv_icmp_ge (tgt := 112) hx hb dX12_shifts_53 (by decide) (fun cn34 => ?_) (fun cn34 => ?_)
    · have hf := (if_pos cn34).symm.trans hf
      cases hf
      exact kx _ _ _ hw (lv_sub hl [0, 1, 2, 3] rfl)
    · have hf := (if_neg cn34).symm.trans hf
      refine lv_iconst (v := 0) hx hb dX12_shifts_56 (by decide) ?_
      refine lv_istore (lv' := [(5, .int 0), (0, .ref (mr g 0)), (1, .int c6), (2, .int v7), (3, .int v8), (4, .int v9)]) hx hb dX12_shifts_57 hl (by decide) rfl (fun ls hl => ?_)
      obtain ⟨S18, hX, hf⟩ := bd1_some hf
      refine wm_shifts_L59 hc hR hml N c6 v7 v8 v9 N _ _ _ _ _ _ hX hw (lv_sub hl [1, 2, 3, 4, 5, 0] rfl) (fun H locs ls hw hl => ?_)
      refine lv_aload_n hx hb dX12_shifts_88 rfl (lv_at hl 0 rfl) ?_
      obtain ⟨v19, S20, hcall, hf⟩ := bd2_some hf
      refine m_cvi (As := []) (rest := []) hc hw hR (hml.trans hl.1.symm) (cm_allWorth l N S18 v19 S20 hcall) mq_allWorth rfl (by decide) rfl rfl rfl (Nat.le_of_ble_eq_true rfl) dX12_shifts_89 (fun H locs hw => ?_) ⟨Nat.zero_le _, Nat.zero_le _⟩
      refine lv_istore (lv' := [(5, .int v19), (0, .ref (mr g 0)), (1, .int c6), (2, .int v7), (3, .int v8), (4, .int v9)]) hx hb dX12_shifts_92 hl (by decide) rfl (fun ls hl => ?_)
      refine lv_iload hx hb dX12_shifts_94 (lv_at hl 0 rfl) ?_
      refine lv_iload_n hx hb dX12_shifts_96 rfl (lv_at hl 4 rfl) ?_
      refine lv_icmp_le (tgt := 106) hx hb dX12_shifts_97 (by decide) (fun cn37 => ?_) (fun cn37 => ?_)
      · have hf := (if_pos cn37).symm.trans hf
        refine lv_iinc (lv' := [(4, .int (v9 + 1)), (5, .int v19), (0, .ref (mr g 0)), (1, .int c6), (2, .int v7), (3, .int v8)]) hx hb dX12_shifts_106 hl (k := 5) rfl rfl (by decide) rfl (fun ls hl => ?_)
        refine lv_goto (tgt := 45) hx hb dX12_shifts_109 (by decide) ?_
        exact ih _ _ _ _ X _ _ _ hf hw (lv_sub hl [2, 3, 4, 5, 0] rfl) kx
      · have hf := (if_neg cn37).symm.trans hf
        refine lv_iload hx hb dX12_shifts_100 (lv_at hl 5 rfl) ?_
        refine lv_istore_n (lv' := [(2, .int v9), (5, .int v19), (0, .ref (mr g 0)), (1, .int c6), (3, .int v8), (4, .int v9)]) hx hb dX12_shifts_102 rfl hl (by decide) rfl (fun ls hl => ?_)
        refine lv_iload hx hb dX12_shifts_103 (lv_at hl 1 rfl) ?_
        refine lv_istore_n (lv' := [(3, .int v19), (2, .int v9), (5, .int v19), (0, .ref (mr g 0)), (1, .int c6), (4, .int v9)]) hx hb dX12_shifts_105 rfl hl (by decide) rfl (fun ls hl => ?_)
        refine lv_iinc (lv' := [(4, .int (v9 + 1)), (3, .int v19), (2, .int v9), (5, .int v19), (0, .ref (mr g 0)), (1, .int c6)]) hx hb dX12_shifts_106 hl (k := 5) rfl rfl (by decide) rfl (fun ls hl => ?_)
        refine lv_goto (tgt := 45) hx hb dX12_shifts_109 (by decide) ?_
        exact ih _ _ _ _ X _ _ _ hf hw (lv_sub hl [4, 5, 2, 1, 0] rfl) kx
def mf_shifts_L115 (N : Nat) (c24 : Int32) (c25 : Int32) (c26 : Int32) : Nat → mS → Int32 → Option (mS)
  | 0, _, _ => none
  | n + 1, S28, v27 => (if 6 ≤ v27 then some S28 else (if ok v27 6 then mf_shifts_L115 N c24 c25 c26 n (ms S28 8 v27.toNatClampNeg (S28.1 55 v27.toNatClampNeg)) (v27 + 1) else none))
set_option maxRecDepth 100000 in
theorem wm_shifts_L115 {p : Program} {l : Launch} {e : Env} {R : Room} {s : State} {m : MethodId} {args : Array Value} {below : List Frame} {meth : Method} {c : Code} {Q : State → Prop} {g : mG} {A : Nat → Prop} {H0 : Heap} (hc : qC RX12 cX12_shifts p s m args c) (hR : qRoom R 8) (hml : c.maxLocals = 6) (N : Nat) (c24 : Int32) (c25 : Int32) (c26 : Int32) : ∀ (n : Nat) (S28 : mS) (v27 : Int32) (X : mS) (H : Heap) (locs : List Loc) (ls : Array Slot), mf_shifts_L115 N c24 c25 c26 n S28 v27 = some X → mI g A H0 s S28 H locs → lv_has ls 6 [(0, .ref (mr g 0)), (1, .int c24), (2, .int c25), (3, .int c26), (4, .int v27)] → (∀ (H : Heap) (locs : List Loc) (ls : Array Slot), mI g A H0 s X H locs → lv_has ls 6 [(1, .int c24), (2, .int c25), (3, .int c26)] → W p l e R s m args below meth c H locs 0 0 Q (F0 m 142 ls [])) → W p l e R s m args below meth c H locs 0 0 Q (F0 m 115 ls []) := by
  have hx := hc.1
  have hb := hc.2.1
  intro n
  induction n with
  | zero => intro _ _ X H locs ls hf; exact nomatch (show none = some X from hf)
  | succ n ih =>
    intro S28 v27 X H locs ls hf hw hl kx
    rw [mf_shifts_L115] at hf
    refine lv_iload hx hb dX12_shifts_115 (lv_at hl 4 rfl) ?_
    refine lv_bipush (v := 6) hx hb dX12_shifts_117 (by decide) ?_
    refine lv_icmp_ge (tgt := 142) hx hb dX12_shifts_119 (by decide) (fun cn41 => ?_) (fun cn41 => ?_)
    · have hf := (if_pos cn41).symm.trans hf
      cases hf
      exact kx _ _ _ hw (lv_sub hl [1, 2, 3] rfl)
    · have hf := (if_neg cn41).symm.trans hf
      refine lv_aload_n hx hb dX12_shifts_122 rfl (lv_at hl 0 rfl) ?_
      refine m_g8 hc hw dX12_shifts_123 ?_
      refine lv_iload hx hb dX12_shifts_126 (lv_at hl 4 rfl) ?_
      refine lv_aload_n hx hb dX12_shifts_128 rfl (lv_at hl 0 rfl) ?_
      refine m_g55 hc hw dX12_shifts_129 ?_
      refine lv_iload hx hb dX12_shifts_132 (lv_at hl 4 rfl) ?_
      obtain ⟨hi29, hf⟩ := gd_some hf
      have hi29 := ok_in hi29
      refine m_l55 hc hw hi29 dX12_shifts_134 ?_
      refine m_s8 hc hw hi29 dX12_shifts_135 (fun H locs hw => ?_)
      refine lv_iinc (lv' := [(4, .int (v27 + 1)), (0, .ref (mr g 0)), (1, .int c24), (2, .int c25), (3, .int c26)]) hx hb dX12_shifts_136 hl (k := 4) rfl rfl (by decide) rfl (fun ls hl => ?_)
      refine lv_goto (tgt := 115) hx hb dX12_shifts_139 (by decide) ?_
      exact ih _ _ X _ _ _ hf hw (lv_sub hl [1, 2, 3, 4, 0] rfl) kx
def mf_shifts (N : Nat) (S : mS) (a1 : Int32) : Option (Int32 × mS) := (if (mf_in a1 0 1) = true then (bd1 (mf_shifts_L14 N a1 N S 0) fun S5 => (bd3 (mf_shifts_L45 N a1 N S5 0 (-1) 0) fun v21 v22 S23 => (bd1 (mf_shifts_L115 N a1 v21 v22 N S23 0) fun S30 => (if a1 = 0 then some (v21, S30) else some (v22, S30))))) else some ((-2), S))
set_option maxRecDepth 100000 in
theorem cm_shifts (l : Launch) (N : Nat) (S : mS) (a1 : Int32) (res : Int32) (S1 : mS) (hf : mf_shifts N S a1 = some (res, S1)) : mMi l yX12_shifts cX12_shifts 6 .int 8 (fun g => [.ref (mr g 0), .int a1]) S res S1 := by
  refine mMi_of (own := RX12) (by decide) rfl rfl (fun g => Nat.le_of_ble_eq_true rfl) ?_
  intro p e R s m args below meth c Q g A H0 H locs ls hc hR hml hw hl hQ
  have hl : lv_has ls 6 [(0, .ref (mr g 0)), (1, .int a1)] := hl
  have hx := hc.1
  have hb := hc.2.1
  unfold mf_shifts at hf
  refine lv_iload_n hx hb dX12_shifts_0 rfl (lv_at hl 1 rfl) ?_
  refine lv_iconst (v := 0) hx hb dX12_shifts_1 (by decide) ?_
  refine lv_iconst (v := 1) hx hb dX12_shifts_2 (by decide) ?_
  refine m_csi (As := [.int a1, .int 0, .int 1]) (rest := []) hc hw hR (hml.trans hl.1.symm) (cm_in l S a1 0 1 _ rfl) mq_in (by decide) rfl rfl rfl (Nat.le_of_ble_eq_true rfl) dX12_shifts_3 (fun H locs hw => ?_) ⟨Nat.zero_le _, Nat.zero_le _⟩
  refine lv_if_neb (tgt := 12) hx hb dX12_shifts_6 (by decide) (fun cn31 => ?_) (fun cn31 => ?_)
  · have hf := (if_pos cn31).symm.trans hf
    refine lv_iconst (v := 0) hx hb dX12_shifts_12 (by decide) ?_
    refine lv_istore_n (lv' := [(2, .int 0), (0, .ref (mr g 0)), (1, .int a1)]) hx hb dX12_shifts_13 rfl hl (by decide) rfl (fun ls hl => ?_)
    obtain ⟨S5, hX, hf⟩ := bd1_some hf
    refine wm_shifts_L14 hc hR hml N a1 N _ _ _ _ _ _ hX hw (lv_sub hl [1, 2, 0] rfl) (fun H locs ls hw hl => ?_)
    refine lv_iconst (v := 0) hx hb dX12_shifts_38 (by decide) ?_
    refine lv_istore_n (lv' := [(2, .int 0), (0, .ref (mr g 0)), (1, .int a1)]) hx hb dX12_shifts_39 rfl hl (by decide) rfl (fun ls hl => ?_)
    refine lv_iconst (v := (-1)) hx hb dX12_shifts_40 (by decide) ?_
    refine lv_istore_n (lv' := [(3, .int (-1)), (2, .int 0), (0, .ref (mr g 0)), (1, .int a1)]) hx hb dX12_shifts_41 rfl hl (by decide) rfl (fun ls hl => ?_)
    refine lv_iconst (v := 0) hx hb dX12_shifts_42 (by decide) ?_
    refine lv_istore (lv' := [(4, .int 0), (3, .int (-1)), (2, .int 0), (0, .ref (mr g 0)), (1, .int a1)]) hx hb dX12_shifts_43 hl (by decide) rfl (fun ls hl => ?_)
    obtain ⟨v21, v22, S23, hX, hf⟩ := bd3_some hf
    refine wm_shifts_L45 hc hR hml N a1 N _ _ _ _ _ _ _ _ hX hw (lv_sub hl [3, 4, 2, 1, 0] rfl) (fun H locs ls hw hl => ?_)
    refine lv_iconst (v := 0) hx hb dX12_shifts_112 (by decide) ?_
    refine lv_istore (lv' := [(4, .int 0), (0, .ref (mr g 0)), (1, .int a1), (2, .int v21), (3, .int v22)]) hx hb dX12_shifts_113 hl (by decide) rfl (fun ls hl => ?_)
    obtain ⟨S30, hX, hf⟩ := bd1_some hf
    refine wm_shifts_L115 hc hR hml N a1 v21 v22 N _ _ _ _ _ _ hX hw (lv_sub hl [1, 2, 3, 4, 0] rfl) (fun H locs ls hw hl => ?_)
    refine lv_iload_n hx hb dX12_shifts_142 rfl (lv_at hl 0 rfl) ?_
    refine lv_if_ne (tgt := 150) hx hb dX12_shifts_143 (by decide) (fun cn43 => ?_) (fun cn43 => ?_)
    · have hf := (if_neg cn43).symm.trans hf
      refine lv_iload_n hx hb dX12_shifts_150 rfl (lv_at hl 2 rfl) ?_
      cases hf
      exact hQ _ _ _ _ dX12_shifts_151 hw
    · have hf := (if_pos cn43).symm.trans hf
      refine lv_iload_n hx hb dX12_shifts_146 rfl (lv_at hl 1 rfl) ?_
      refine lv_goto (tgt := 151) hx hb dX12_shifts_147 (by decide) ?_
      cases hf
      exact hQ _ _ _ _ dX12_shifts_151 hw
  · have hf := (if_neg cn31).symm.trans hf
    refine lv_bipush (v := (-2)) hx hb dX12_shifts_9 (by decide) ?_
    cases hf
    exact hQ _ _ _ _ dX12_shifts_11 hw
