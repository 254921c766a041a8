def mf_coin_L46 (N : Nat) (c1 : Int32) (c2 : Int32) (c3 : Int32) : Nat → mS → Int32 → Int32 → Option (Int32)
  | 0, _, _, _ => none
  | n + 1, S6, v4, v5 => (if c3 ≤ v5 then some v4 else mf_coin_L46 N c1 c2 c3 n S6 (v4 * 3) (v5 + 1))
set_option maxRecDepth 100000 in
theorem wm_coin_L46 {p : Program} {l : Launch} {e : Env} {R : Room} {s : State} {m : MethodId} {args : Array Value} {below : List Frame} {meth : Method} {c : Code} {Q : State → Prop} {g : mG} {A : Nat → Prop} {H0 : Heap} (hc : qC RX12 cX12_coin p s m args c) (hR : qRoom R 8) (hml : c.maxLocals = 12) (N : Nat) (c1 : Int32) (c2 : Int32) (c3 : Int32) : ∀ (n : Nat) (S6 : mS) (v4 : Int32) (v5 : Int32) (X : Int32) (H : Heap) (locs : List Loc) (ls : Array Slot), mf_coin_L46 N c1 c2 c3 n S6 v4 v5 = some X → mI g A H0 s S6 H locs → lv_has ls 12 [(0, .ref (mr g 0)), (1, .int c1), (2, .int c2), (3, .int c3), (4, .int v4), (5, .int v5)] → (∀ (H : Heap) (locs : List Loc) (ls : Array Slot), mI g A H0 s S6 H locs → lv_has ls 12 [(0, .ref (mr g 0)), (1, .int c1), (2, .int c2), (3, .int c3), (4, .int X)] → W p l e R s m args below meth c H locs 0 0 Q (F0 m 64 ls [])) → W p l e R s m args below meth c H locs 0 0 Q (F0 m 46 ls []) := by
  have hx := hc.1
  have hb := hc.2.1
  intro n
  induction n with
  | zero => intro _ _ _ X H locs ls hf; exact nomatch (show none = some X from hf)
  | succ n ih =>
    intro S6 v4 v5 X H locs ls hf hw hl kx
    rw [mf_coin_L46] at hf
    refine lv_iload hx hb dX12_coin_46 (lv_at hl 5 rfl) ?_
    refine lv_iload_n hx hb dX12_coin_48 rfl (lv_at hl 3 rfl) ?_
    refine lv_icmp_ge (tgt := 64) hx hb dX12_coin_49 (by decide) (fun cn82 => ?_) (fun cn82 => ?_)
    · have hf := (if_pos cn82).symm.trans hf
      cases hf
      exact kx _ _ _ hw (lv_sub hl [0, 1, 2, 3, 4] rfl)
    · have hf := (if_neg cn82).symm.trans hf
      refine lv_iload hx hb dX12_coin_52 (lv_at hl 4 rfl) ?_
      refine lv_iconst (v := 3) hx hb dX12_coin_54 (by decide) ?_
      refine lv_imul hx hb dX12_coin_55 ?_
      refine lv_istore (lv' := [(4, .int (v4 * 3)), (0, .ref (mr g 0)), (1, .int c1), (2, .int c2), (3, .int c3), (5, .int v5)]) hx hb dX12_coin_56 hl (by decide) rfl (fun ls hl => ?_)
      refine lv_iinc (lv' := [(5, .int (v5 + 1)), (4, .int (v4 * 3)), (0, .ref (mr g 0)), (1, .int c1), (2, .int c2), (3, .int c3)]) hx hb dX12_coin_58 hl (k := 5) rfl rfl (by decide) rfl (fun ls hl => ?_)
      refine lv_goto (tgt := 46) hx hb dX12_coin_61 (by decide) ?_
      exact ih _ _ _ X _ _ _ hf hw (lv_sub hl [2, 3, 4, 5, 1, 0] rfl) kx
def mf_coin_L99 (N : Nat) (c17 : Int32) (c18 : Int32) (c19 : Int32) (c20 : Int32) (c21 : Int32) (c22 : Int32) (c23 : Int32) : Nat → mS → Int32 → Int32 → Int32 → Int32 → Option (Int32 × mS)
  | 0, _, _, _, _, _ => none
  | n + 1, S28, v24, v25, v26, v27 => (if v27 < 0 then some (v25, S28) else (if ok v27 6 then mf_coin_L99 N c17 c18 c19 c20 c21 c22 c23 n (ms S28 7 v27.toNatClampNeg (6 * (v24 - v24 / 3 * 3))) (v24 / 3) (v25 + (v26 * (v24 - v24 / 3 * 3))) (v26 * 10) (v27 + (-1)) else none))
set_option maxRecDepth 100000 in
theorem wm_coin_L99 {p : Program} {l : Launch} {e : Env} {R : Room} {s : State} {m : MethodId} {args : Array Value} {below : List Frame} {meth : Method} {c : Code} {Q : State → Prop} {g : mG} {A : Nat → Prop} {H0 : Heap} (hc : qC RX12 cX12_coin p s m args c) (hR : qRoom R 8) (hml : c.maxLocals = 12) (N : Nat) (c17 : Int32) (c18 : Int32) (c19 : Int32) (c20 : Int32) (c21 : Int32) (c22 : Int32) (c23 : Int32) : ∀ (n : Nat) (S28 : mS) (v24 : Int32) (v25 : Int32) (v26 : Int32) (v27 : Int32) (X : Int32 × mS) (H : Heap) (locs : List Loc) (ls : Array Slot), mf_coin_L99 N c17 c18 c19 c20 c21 c22 c23 n S28 v24 v25 v26 v27 = some X → mI g A H0 s S28 H locs → lv_has ls 12 [(0, .ref (mr g 0)), (1, .int c17), (2, .int c18), (3, .int c19), (4, .int c20), (5, .int c21), (6, .int c22), (7, .int c23), (8, .int v24), (9, .int v25), (10, .int v26), (11, .int v27)] → (∀ (H : Heap) (locs : List Loc) (ls : Array Slot), mI g A H0 s X.2 H locs → lv_has ls 12 [(0, .ref (mr g 0)), (1, .int c17), (2, .int c18), (3, .int c19), (4, .int c20), (5, .int c21), (6, .int c22), (7, .int c23), (9, .int X.1)] → W p l e R s m args below meth c H locs 0 0 Q (F0 m 149 ls [])) → W p l e R s m args below meth c H locs 0 0 Q (F0 m 99 ls []) := by
  have hx := hc.1
  have hb := hc.2.1
  intro n
  induction n with
  | zero => intro _ _ _ _ _ X H locs ls hf; exact nomatch (show none = some X from hf)
  | succ n ih =>
    intro S28 v24 v25 v26 v27 X H locs ls hf hw hl kx
    rw [mf_coin_L99] at hf
    refine lv_iload hx hb dX12_coin_99 (lv_at hl 11 rfl) ?_
    refine lv_if_lt (tgt := 149) hx hb dX12_coin_101 (by decide) (fun cn85 => ?_) (fun cn85 => ?_)
    · have hf := (if_pos cn85).symm.trans hf
      cases hf
      exact kx _ _ _ hw (lv_sub hl [0, 1, 2, 3, 4, 5, 6, 7, 9] rfl)
    · have hf := (if_neg cn85).symm.trans hf
      refine lv_aload_n hx hb dX12_coin_104 rfl (lv_at hl 0 rfl) ?_
      refine m_g7 hc hw dX12_coin_105 ?_
      refine lv_iload hx hb dX12_coin_108 (lv_at hl 11 rfl) ?_
      refine lv_bipush (v := 6) hx hb dX12_coin_110 (by decide) ?_
      refine lv_iload hx hb dX12_coin_112 (lv_at hl 8 rfl) ?_
      refine lv_iconst (v := 3) hx hb dX12_coin_114 (by decide) ?_
      refine lv_irem hx hb dX12_coin_115 (by decide) ?_
      refine lv_imul hx hb dX12_coin_116 ?_
      obtain ⟨hi29, hf⟩ := gd_some hf
      have hi29 := ok_in hi29
      refine m_s7 hc hw hi29 dX12_coin_117 (fun H locs hw => ?_)
      refine lv_iload hx hb dX12_coin_118 (lv_at hl 9 rfl) ?_
      refine lv_iload hx hb dX12_coin_120 (lv_at hl 10 rfl) ?_
      refine lv_iload hx hb dX12_coin_122 (lv_at hl 8 rfl) ?_
      refine lv_iconst (v := 3) hx hb dX12_coin_124 (by decide) ?_
      refine lv_irem hx hb dX12_coin_125 (by decide) ?_
      refine lv_imul hx hb dX12_coin_126 ?_
      refine lv_iadd hx hb dX12_coin_127 ?_
      refine lv_istore (lv' := [(9, .int (v25 + (v26 * (v24 - v24 / 3 * 3)))), (0, .ref (mr g 0)), (1, .int c17), (2, .int c18), (3, .int c19), (4, .int c20), (5, .int c21), (6, .int c22), (7, .int c23), (8, .int v24), (10, .int v26), (11, .int v27)]) hx hb dX12_coin_128 hl (by decide) rfl (fun ls hl => ?_)
      refine lv_iload hx hb dX12_coin_130 (lv_at hl 10 rfl) ?_
      refine lv_bipush (v := 10) hx hb dX12_coin_132 (by decide) ?_
      refine lv_imul hx hb dX12_coin_134 ?_
      refine lv_istore (lv' := [(10, .int (v26 * 10)), (9, .int (v25 + (v26 * (v24 - v24 / 3 * 3)))), (0, .ref (mr g 0)), (1, .int c17), (2, .int c18), (3, .int c19), (4, .int c20), (5, .int c21), (6, .int c22), (7, .int c23), (8, .int v24), (11, .int v27)]) hx hb dX12_coin_135 hl (by decide) rfl (fun ls hl => ?_)
      refine lv_iload hx hb dX12_coin_137 (lv_at hl 10 rfl) ?_
      refine lv_iconst (v := 3) hx hb dX12_coin_139 (by decide) ?_
      refine lv_idiv hx hb dX12_coin_140 (by decide) ?_
      refine lv_istore (lv' := [(8, .int (v24 / 3)), (10, .int (v26 * 10)), (9, .int (v25 + (v26 * (v24 - v24 / 3 * 3)))), (0, .ref (mr g 0)), (1, .int c17), (2, .int c18), (3, .int c19), (4, .int c20), (5, .int c21), (6, .int c22), (7, .int c23), (11, .int v27)]) hx hb dX12_coin_141 hl (by decide) rfl (fun ls hl => ?_)
      refine lv_iinc (lv' := [(11, .int (v27 + (-1))), (8, .int (v24 / 3)), (10, .int (v26 * 10)), (9, .int (v25 + (v26 * (v24 - v24 / 3 * 3)))), (0, .ref (mr g 0)), (1, .int c17), (2, .int c18), (3, .int c19), (4, .int c20), (5, .int c21), (6, .int c22), (7, .int c23)]) hx hb dX12_coin_143 hl (k := 11) rfl rfl (by decide) rfl (fun ls hl => ?_)
      refine lv_goto (tgt := 99) hx hb dX12_coin_146 (by decide) ?_
      exact ih _ _ _ _ _ X _ _ _ hf hw (lv_sub hl [4, 5, 6, 7, 8, 9, 10, 11, 1, 3, 2, 0] rfl) kx
def mf_coin_L77 (N : Nat) (c9 : Int32) (c10 : Int32) (c11 : Int32) (c12 : Int32) : Nat → mS → Int32 → Int32 → Int32 → Option (Int32 × Int32 × mS)
  | 0, _, _, _, _ => none
  | n + 1, S16, v13, v14, v15 => (if c12 ≤ v15 then some (v13, v14, S16) else (bd2 (mf_coin_L99 N c9 c10 c11 c12 v13 v14 v15 N S16 v15 0 1 (c11 - 1)) fun v30 S31 => (bd2 (mf_cost N S31) fun v32 S33 => (if c9 < v32 then mf_coin_L77 N c9 c10 c11 c12 n S33 v13 v14 (v15 + 1) else (bd2 (mf_allWorth N S33) fun v34 S35 => (if v13 = (-1) then mf_coin_L77 N c9 c10 c11 c12 n S35 v30 v34 (v15 + 1) else (if v34 ≤ v14 then mf_coin_L77 N c9 c10 c11 c12 n S35 v13 v14 (v15 + 1) else mf_coin_L77 N c9 c10 c11 c12 n S35 v30 v34 (v15 + 1))))))))
set_option maxRecDepth 100000 in
theorem wm_coin_L77 {p : Program} {l : Launch} {e : Env} {R : Room} {s : State} {m : MethodId} {args : Array Value} {below : List Frame} {meth : Method} {c : Code} {Q : State → Prop} {g : mG} {A : Nat → Prop} {H0 : Heap} (hc : qC RX12 cX12_coin p s m args c) (hR : qRoom R 8) (hml : c.maxLocals = 12) (N : Nat) (c9 : Int32) (c10 : Int32) (c11 : Int32) (c12 : Int32) : ∀ (n : Nat) (S16 : mS) (v13 : Int32) (v14 : Int32) (v15 : Int32) (X : Int32 × Int32 × mS) (H : Heap) (locs : List Loc) (ls : Array Slot), mf_coin_L77 N c9 c10 c11 c12 n S16 v13 v14 v15 = some X → mI g A H0 s S16 H locs → lv_has ls 12 [(0, .ref (mr g 0)), (1, .int c9), (2, .int c10), (3, .int c11), (4, .int c12), (5, .int v13), (6, .int v14), (7, .int v15)] → (∀ (H : Heap) (locs : List Loc) (ls : Array Slot), mI g A H0 s X.2.2 H locs → lv_has ls 12 [(0, .ref (mr g 0)), (2, .int c10), (5, .int X.1), (6, .int X.2.1)] → W p l e R s m args below meth c H locs 0 0 Q (F0 m 190 ls [])) → W p l e R s m args below meth c H locs 0 0 Q (F0 m 77 ls []) := by
  have hx := hc.1
  have hb := hc.2.1
  intro n
  induction n with
  | zero => intro _ _ _ _ X H locs ls hf; exact nomatch (show none = some X from hf)
  | succ n ih =>
    intro S16 v13 v14 v15 X H locs ls hf hw hl kx
    rw [mf_coin_L77] at hf
    refine lv_iload hx hb dX12_coin_77 (lv_at hl 7 rfl) ?_
    refine lv_iload hx hb dX12_coin_79 (lv_at hl 4 rfl) ?_
    refine lv_icmp_ge (tgt := 190) hx hb dX12_coin_81 (by decide) (fun cn84 => ?_) (fun cn84 => ?_)
    · have hf := (if_pos cn84).symm.trans hf
      cases hf
      exact kx _ _ _ hw (lv_sub hl [0, 2, 5, 6] rfl)
    · have hf := (if_neg cn84).symm.trans hf
      refine lv_iload hx hb dX12_coin_84 (lv_at hl 7 rfl) ?_
      refine lv_istore (lv' := [(8, .int v15), (0, .ref (mr g 0)), (1, .int c9), (2, .int c10), (3, .int c11), (4, .int c12), (5, .int v13), (6, .int v14), (7, .int v15)]) hx hb dX12_coin_86 hl (by decide) rfl (fun ls hl => ?_)
      refine lv_iconst (v := 0) hx hb dX12_coin_88 (by decide) ?_
      refine lv_istore (lv' := [(9, .int 0), (8, .int v15), (0, .ref (mr g 0)), (1, .int c9), (2, .int c10), (3, .int c11), (4, .int c12), (5, .int v13), (6, .int v14), (7, .int v15)]) hx hb dX12_coin_89 hl (by decide) rfl (fun ls hl => ?_)
      refine lv_iconst (v := 1) hx hb dX12_coin_91 (by decide) ?_
      refine lv_istore (lv' := [(10, .int 1), (9, .int 0), (8, .int v15), (0, .ref (mr g 0)), (1, .int c9), (2, .int c10), (3, .int c11), (4, .int c12), (5, .int v13), (6, .int v14), (7, .int v15)]) hx hb dX12_coin_92 hl (by decide) rfl (fun ls hl => ?_)
      refine lv_iload_n hx hb dX12_coin_94 rfl (lv_at hl 6 rfl) ?_
      refine lv_iconst (v := 1) hx hb dX12_coin_95 (by decide) ?_
      refine lv_isub hx hb dX12_coin_96 ?_
      refine lv_istore (lv' := [(11, .int (c11 - 1)), (10, .int 1), (9, .int 0), (8, .int v15), (0, .ref (mr g 0)), (1, .int c9), (2, .int c10), (3, .int c11), (4, .int c12), (5, .int v13), (6, .int v14), (7, .int v15)]) hx hb dX12_coin_97 hl (by decide) rfl (fun ls hl => ?_)
      obtain ⟨v30, S31, hX, hf⟩ := bd2_some hf
      refine wm_coin_L99 hc hR hml N c9 c10 c11 c12 v13 v14 v15 N _ _ _ _ _ _ _ _ _ hX hw (lv_sub hl [4, 5, 6, 7, 8, 9, 10, 11, 3, 2, 1, 0] rfl) (fun H locs ls hw hl => ?_)
      refine lv_aload_n hx hb dX12_coin_149 rfl (lv_at hl 0 rfl) ?_
      obtain ⟨v32, S33, hcall, hf⟩ := bd2_some hf
      refine m_cvi (As := []) (rest := []) hc hw hR (hml.trans hl.1.symm) (cm_cost l N S31 v32 S33 hcall) mq_cost rfl (by decide) rfl rfl rfl (Nat.le_of_ble_eq_true rfl) dX12_coin_150 (fun H locs hw => ?_) ⟨Nat.zero_le _, Nat.zero_le _⟩
      refine lv_iload_n hx hb dX12_coin_153 rfl (lv_at hl 1 rfl) ?_
      refine lv_icmp_gt (tgt := 184) hx hb dX12_coin_154 (by decide) (fun cn88 => ?_) (fun cn88 => ?_)
      · have hf := (if_pos cn88).symm.trans hf
        refine lv_iinc (lv' := [(7, .int (v15 + 1)), (0, .ref (mr g 0)), (1, .int c9), (2, .int c10), (3, .int c11), (4, .int c12), (5, .int v13), (6, .int v14), (9, .int v30)]) hx hb dX12_coin_184 hl (k := 7) rfl rfl (by decide) rfl (fun ls hl => ?_)
        refine lv_goto (tgt := 77) hx hb dX12_coin_187 (by decide) ?_
        exact ih _ _ _ _ X _ _ _ hf hw (lv_sub hl [1, 2, 3, 4, 5, 6, 7, 0] rfl) kx
      · have hf := (if_neg cn88).symm.trans hf
        refine lv_aload_n hx hb dX12_coin_157 rfl (lv_at hl 0 rfl) ?_
        obtain ⟨v34, S35, hcall, hf⟩ := bd2_some hf
        refine m_cvi (As := []) (rest := []) hc hw hR (hml.trans hl.1.symm) (cm_allWorth l N S33 v34 S35 hcall) mq_allWorth rfl (by decide) rfl rfl rfl (Nat.le_of_ble_eq_true rfl) dX12_coin_158 (fun H locs hw => ?_) ⟨Nat.zero_le _, Nat.zero_le _⟩
        refine lv_istore (lv' := [(11, .int v34), (0, .ref (mr g 0)), (1, .int c9), (2, .int c10), (3, .int c11), (4, .int c12), (5, .int v13), (6, .int v14), (7, .int v15), (9, .int v30)]) hx hb dX12_coin_161 hl (by decide) rfl (fun ls hl => ?_)
        refine lv_iload hx hb dX12_coin_163 (lv_at hl 6 rfl) ?_
        refine lv_iconst (v := (-1)) hx hb dX12_coin_165 (by decide) ?_
        refine lv_icmp_eq (tgt := 176) hx hb dX12_coin_166 (by decide) (fun cn89 => ?_) (fun cn89 => ?_)
        · have hf := (if_pos cn89).symm.trans hf
          refine lv_iload hx hb dX12_coin_176 (lv_at hl 9 rfl) ?_
          refine lv_istore (lv' := [(5, .int v30), (11, .int v34), (0, .ref (mr g 0)), (1, .int c9), (2, .int c10), (3, .int c11), (4, .int c12), (6, .int v14), (7, .int v15), (9, .int v30)]) hx hb dX12_coin_178 hl (by decide) rfl (fun ls hl => ?_)
          refine lv_iload hx hb dX12_coin_180 (lv_at hl 1 rfl) ?_
          refine lv_istore (lv' := [(6, .int v34), (5, .int v30), (11, .int v34), (0, .ref (mr g 0)), (1, .int c9), (2, .int c10), (3, .int c11), (4, .int c12), (7, .int v15), (9, .int v30)]) hx hb dX12_coin_182 hl (by decide) rfl (fun ls hl => ?_)
          refine lv_iinc (lv' := [(7, .int (v15 + 1)), (6, .int v34), (5, .int v30), (11, .int v34), (0, .ref (mr g 0)), (1, .int c9), (2, .int c10), (3, .int c11), (4, .int c12), (9, .int v30)]) hx hb dX12_coin_184 hl (k := 8) rfl rfl (by decide) rfl (fun ls hl => ?_)
          refine lv_goto (tgt := 77) hx hb dX12_coin_187 (by decide) ?_
          exact ih _ _ _ _ X _ _ _ hf hw (lv_sub hl [4, 5, 6, 7, 8, 2, 1, 0] rfl) kx
        · have hf := (if_neg cn89).symm.trans hf
          refine lv_iload hx hb dX12_coin_169 (lv_at hl 0 rfl) ?_
          refine lv_iload hx hb dX12_coin_171 (lv_at hl 7 rfl) ?_
          refine lv_icmp_le (tgt := 184) hx hb dX12_coin_173 (by decide) (fun cn90 => ?_) (fun cn90 => ?_)
          · have hf := (if_pos cn90).symm.trans hf
            refine lv_iinc (lv' := [(7, .int (v15 + 1)), (11, .int v34), (0, .ref (mr g 0)), (1, .int c9), (2, .int c10), (3, .int c11), (4, .int c12), (5, .int v13), (6, .int v14), (9, .int v30)]) hx hb dX12_coin_184 hl (k := 8) rfl rfl (by decide) rfl (fun ls hl => ?_)
            refine lv_goto (tgt := 77) hx hb dX12_coin_187 (by decide) ?_
            exact ih _ _ _ _ X _ _ _ hf hw (lv_sub hl [2, 3, 4, 5, 6, 7, 8, 0] rfl) kx
          · have hf := (if_neg cn90).symm.trans hf
            refine lv_iload hx hb dX12_coin_176 (lv_at hl 9 rfl) ?_
            refine lv_istore (lv' := [(5, .int v30), (11, .int v34), (0, .ref (mr g 0)), (1, .int c9), (2, .int c10), (3, .int c11), (4, .int c12), (6, .int v14), (7, .int v15), (9, .int v30)]) hx hb dX12_coin_178 hl (by decide) rfl (fun ls hl => ?_)
            refine lv_iload hx hb dX12_coin_180 (lv_at hl 1 rfl) ?_
            refine lv_istore (lv' := [(6, .int v34), (5, .int v30), (11, .int v34), (0, .ref (mr g 0)), (1, .int c9), (2, .int c10), (3, .int c11), (4, .int c12), (7, .int v15), (9, .int v30)]) hx hb dX12_coin_182 hl (by decide) rfl (fun ls hl => ?_)
            refine lv_iinc (lv' := [(7, .int (v15 + 1)), (6, .int v34), (5, .int v30), (11, .int v34), (0, .ref (mr g 0)), (1, .int c9), (2, .int c10), (3, .int c11), (4, .int c12), (9, .int v30)]) hx hb dX12_coin_184 hl (k := 8) rfl rfl (by decide) rfl (fun ls hl => ?_)
            refine lv_goto (tgt := 77) hx hb dX12_coin_187 (by decide) ?_
            exact ih _ _ _ _ X _ _ _ hf hw (lv_sub hl [4, 5, 6, 7, 8, 2, 1, 0] rfl) kx
def mf_coin_L46 (N : Nat) (c40 : Int32) (c41 : Int32) (c42 : Int32) : Nat → mS → Int32 → Int32 → Option (Int32)
  | 0, _, _, _ => none
  | n + 1, S45, v43, v44 => (if c42 ≤ v44 then some v43 else mf_coin_L46 N c40 c41 c42 n S45 (v43 * 3) (v44 + 1))
set_option maxRecDepth 100000 in
theorem wm_coin_L46 {p : Program} {l : Launch} {e : Env} {R : Room} {s : State} {m : MethodId} {args : Array Value} {below : List Frame} {meth : Method} {c : Code} {Q : State → Prop} {g : mG} {A : Nat → Prop} {H0 : Heap} (hc : qC RX12 cX12_coin p s m args c) (hR : qRoom R 8) (hml : c.maxLocals = 12) (N : Nat) (c40 : Int32) (c41 : Int32) (c42 : Int32) : ∀ (n : Nat) (S45 : mS) (v43 : Int32) (v44 : Int32) (X : Int32) (H : Heap) (locs : List Loc) (ls : Array Slot), mf_coin_L46 N c40 c41 c42 n S45 v43 v44 = some X → mI g A H0 s S45 H locs → lv_has ls 12 [(0, .ref (mr g 0)), (1, .int c40), (2, .int c41), (3, .int c42), (4, .int v43), (5, .int v44)] → (∀ (H : Heap) (locs : List Loc) (ls : Array Slot), mI g A H0 s S45 H locs → lv_has ls 12 [(0, .ref (mr g 0)), (1, .int c40), (2, .int c41), (3, .int c42), (4, .int X)] → W p l e R s m args below meth c H locs 0 0 Q (F0 m 64 ls [])) → W p l e R s m args below meth c H locs 0 0 Q (F0 m 46 ls []) := by
  have hx := hc.1
  have hb := hc.2.1
  intro n
  induction n with
  | zero => intro _ _ _ X H locs ls hf; exact nomatch (show none = some X from hf)
  | succ n ih =>
    intro S45 v43 v44 X H locs ls hf hw hl kx
    rw [mf_coin_L46] at hf
    refine lv_iload hx hb dX12_coin_46 (lv_at hl 5 rfl) ?_
    refine lv_iload_n hx hb dX12_coin_48 rfl (lv_at hl 3 rfl) ?_
    refine lv_icmp_ge (tgt := 64) hx hb dX12_coin_49 (by decide) (fun cn96 => ?_) (fun cn96 => ?_)
    · have hf := (if_pos cn96).symm.trans hf
      cases hf
      exact kx _ _ _ hw (lv_sub hl [0, 1, 2, 3, 4] rfl)
    · have hf := (if_neg cn96).symm.trans hf
      refine lv_iload hx hb dX12_coin_52 (lv_at hl 4 rfl) ?_
      refine lv_iconst (v := 3) hx hb dX12_coin_54 (by decide) ?_
      refine lv_imul hx hb dX12_coin_55 ?_
      refine lv_istore (lv' := [(4, .int (v43 * 3)), (0, .ref (mr g 0)), (1, .int c40), (2, .int c41), (3, .int c42), (5, .int v44)]) hx hb dX12_coin_56 hl (by decide) rfl (fun ls hl => ?_)
      refine lv_iinc (lv' := [(5, .int (v44 + 1)), (4, .int (v43 * 3)), (0, .ref (mr g 0)), (1, .int c40), (2, .int c41), (3, .int c42)]) hx hb dX12_coin_58 hl (k := 5) rfl rfl (by decide) rfl (fun ls hl => ?_)
      refine lv_goto (tgt := 46) hx hb dX12_coin_61 (by decide) ?_
      exact ih _ _ _ X _ _ _ hf hw (lv_sub hl [2, 3, 4, 5, 1, 0] rfl) kx
def mf_coin_L99 (N : Nat) (c56 : Int32) (c57 : Int32) (c58 : Int32) (c59 : Int32) (c60 : Int32) (c61 : Int32) (c62 : Int32) : Nat → mS → Int32 → Int32 → Int32 → Int32 → Option (Int32 × mS)
  | 0, _, _, _, _, _ => none
  | n + 1, S67, v63, v64, v65, v66 => (if v66 < 0 then some (v64, S67) else (if ok v66 6 then mf_coin_L99 N c56 c57 c58 c59 c60 c61 c62 n (ms S67 7 v66.toNatClampNeg (6 * (v63 - v63 / 3 * 3))) (v63 / 3) (v64 + (v65 * (v63 - v63 / 3 * 3))) (v65 * 10) (v66 + (-1)) else none))
set_option maxRecDepth 100000 in
theorem wm_coin_L99 {p : Program} {l : Launch} {e : Env} {R : Room} {s : State} {m : MethodId} {args : Array Value} {below : List Frame} {meth : Method} {c : Code} {Q : State → Prop} {g : mG} {A : Nat → Prop} {H0 : Heap} (hc : qC RX12 cX12_coin p s m args c) (hR : qRoom R 8) (hml : c.maxLocals = 12) (N : Nat) (c56 : Int32) (c57 : Int32) (c58 : Int32) (c59 : Int32) (c60 : Int32) (c61 : Int32) (c62 : Int32) : ∀ (n : Nat) (S67 : mS) (v63 : Int32) (v64 : Int32) (v65 : Int32) (v66 : Int32) (X : Int32 × mS) (H : Heap) (locs : List Loc) (ls : Array Slot), mf_coin_L99 N c56 c57 c58 c59 c60 c61 c62 n S67 v63 v64 v65 v66 = some X → mI g A H0 s S67 H locs → lv_has ls 12 [(0, .ref (mr g 0)), (1, .int c56), (2, .int c57), (3, .int c58), (4, .int c59), (5, .int c60), (6, .int c61), (7, .int c62), (8, .int v63), (9, .int v64), (10, .int v65), (11, .int v66)] → (∀ (H : Heap) (locs : List Loc) (ls : Array Slot), mI g A H0 s X.2 H locs → lv_has ls 12 [(0, .ref (mr g 0)), (1, .int c56), (2, .int c57), (3, .int c58), (4, .int c59), (5, .int c60), (6, .int c61), (7, .int c62), (9, .int X.1)] → W p l e R s m args below meth c H locs 0 0 Q (F0 m 149 ls [])) → W p l e R s m args below meth c H locs 0 0 Q (F0 m 99 ls []) := by
  have hx := hc.1
  have hb := hc.2.1
  intro n
  induction n with
  | zero => intro _ _ _ _ _ X H locs ls hf; exact nomatch (show none = some X from hf)
  | succ n ih =>
    intro S67 v63 v64 v65 v66 X H locs ls hf hw hl kx
    rw [mf_coin_L99] at hf
    refine lv_iload hx hb dX12_coin_99 (lv_at hl 11 rfl) ?_
    refine lv_if_lt (tgt := 149) hx hb dX12_coin_101 (by decide) (fun cn99 => ?_) (fun cn99 => ?_)
    · have hf := (if_pos cn99).symm.trans hf
      cases hf
      exact kx _ _ _ hw (lv_sub hl [0, 1, 2, 3, 4, 5, 6, 7, 9] rfl)
    · have hf := (if_neg cn99).symm.trans hf
      refine lv_aload_n hx hb dX12_coin_104 rfl (lv_at hl 0 rfl) ?_
      refine m_g7 hc hw dX12_coin_105 ?_
      refine lv_iload hx hb dX12_coin_108 (lv_at hl 11 rfl) ?_
      refine lv_bipush (v := 6) hx hb dX12_coin_110 (by decide) ?_
      refine lv_iload hx hb dX12_coin_112 (lv_at hl 8 rfl) ?_
      refine lv_iconst (v := 3) hx hb dX12_coin_114 (by decide) ?_
      refine lv_irem hx hb dX12_coin_115 (by decide) ?_
      refine lv_imul hx hb dX12_coin_116 ?_
      obtain ⟨hi68, hf⟩ := gd_some hf
      have hi68 := ok_in hi68
      refine m_s7 hc hw hi68 dX12_coin_117 (fun H locs hw => ?_)
      refine lv_iload hx hb dX12_coin_118 (lv_at hl 9 rfl) ?_
      refine lv_iload hx hb dX12_coin_120 (lv_at hl 10 rfl) ?_
      refine lv_iload hx hb dX12_coin_122 (lv_at hl 8 rfl) ?_
      refine lv_iconst (v := 3) hx hb dX12_coin_124 (by decide) ?_
      refine lv_irem hx hb dX12_coin_125 (by decide) ?_
      refine lv_imul hx hb dX12_coin_126 ?_
      refine lv_iadd hx hb dX12_coin_127 ?_
      refine lv_istore (lv' := [(9, .int (v64 + (v65 * (v63 - v63 / 3 * 3)))), (0, .ref (mr g 0)), (1, .int c56), (2, .int c57), (3, .int c58), (4, .int c59), (5, .int c60), (6, .int c61), (7, .int c62), (8, .int v63), (10, .int v65), (11, .int v66)]) hx hb dX12_coin_128 hl (by decide) rfl (fun ls hl => ?_)
      refine lv_iload hx hb dX12_coin_130 (lv_at hl 10 rfl) ?_
      refine lv_bipush (v := 10) hx hb dX12_coin_132 (by decide) ?_
      refine lv_imul hx hb dX12_coin_134 ?_
      refine lv_istore (lv' := [(10, .int (v65 * 10)), (9, .int (v64 + (v65 * (v63 - v63 / 3 * 3)))), (0, .ref (mr g 0)), (1, .int c56), (2, .int c57), (3, .int c58), (4, .int c59), (5, .int c60), (6, .int c61), (7, .int c62), (8, .int v63), (11, .int v66)]) hx hb dX12_coin_135 hl (by decide) rfl (fun ls hl => ?_)
      refine lv_iload hx hb dX12_coin_137 (lv_at hl 10 rfl) ?_
      refine lv_iconst (v := 3) hx hb dX12_coin_139 (by decide) ?_
      refine lv_idiv hx hb dX12_coin_140 (by decide) ?_
      refine lv_istore (lv' := [(8, .int (v63 / 3)), (10, .int (v65 * 10)), (9, .int (v64 + (v65 * (v63 - v63 / 3 * 3)))), (0, .ref (mr g 0)), (1, .int c56), (2, .int c57), (3, .int c58), (4, .int c59), (5, .int c60), (6, .int c61), (7, .int c62), (11, .int v66)]) hx hb dX12_coin_141 hl (by decide) rfl (fun ls hl => ?_)
      refine lv_iinc (lv' := [(11, .int (v66 + (-1))), (8, .int (v63 / 3)), (10, .int (v65 * 10)), (9, .int (v64 + (v65 * (v63 - v63 / 3 * 3)))), (0, .ref (mr g 0)), (1, .int c56), (2, .int c57), (3, .int c58), (4, .int c59), (5, .int c60), (6, .int c61), (7, .int c62)]) hx hb dX12_coin_143 hl (k := 11) rfl rfl (by decide) rfl (fun ls hl => ?_)
      refine lv_goto (tgt := 99) hx hb dX12_coin_146 (by decide) ?_
      exact ih _ _ _ _ _ X _ _ _ hf hw (lv_sub hl [4, 5, 6, 7, 8, 9, 10, 11, 1, 3, 2, 0] rfl) kx
def mf_coin_L77 (N : Nat) (c48 : Int32) (c49 : Int32) (c50 : Int32) (c51 : Int32) : Nat → mS → Int32 → Int32 → Int32 → Option (Int32 × Int32 × mS)
  | 0, _, _, _, _ => none
  | n + 1, S55, v52, v53, v54 => (if c51 ≤ v54 then some (v52, v53, S55) else (bd2 (mf_coin_L99 N c48 c49 c50 c51 v52 v53 v54 N S55 v54 0 1 (c50 - 1)) fun v69 S70 => (bd2 (mf_cost N S70) fun v71 S72 => (if c48 < v71 then mf_coin_L77 N c48 c49 c50 c51 n S72 v52 v53 (v54 + 1) else (bd2 (mf_allWorth N S72) fun v73 S74 => (if v52 = (-1) then mf_coin_L77 N c48 c49 c50 c51 n S74 v69 v73 (v54 + 1) else (if v73 ≤ v53 then mf_coin_L77 N c48 c49 c50 c51 n S74 v52 v53 (v54 + 1) else mf_coin_L77 N c48 c49 c50 c51 n S74 v69 v73 (v54 + 1))))))))
set_option maxRecDepth 100000 in
theorem wm_coin_L77 {p : Program} {l : Launch} {e : Env} {R : Room} {s : State} {m : MethodId} {args : Array Value} {below : List Frame} {meth : Method} {c : Code} {Q : State → Prop} {g : mG} {A : Nat → Prop} {H0 : Heap} (hc : qC RX12 cX12_coin p s m args c) (hR : qRoom R 8) (hml : c.maxLocals = 12) (N : Nat) (c48 : Int32) (c49 : Int32) (c50 : Int32) (c51 : Int32) : ∀ (n : Nat) (S55 : mS) (v52 : Int32) (v53 : Int32) (v54 : Int32) (X : Int32 × Int32 × mS) (H : Heap) (locs : List Loc) (ls : Array Slot), mf_coin_L77 N c48 c49 c50 c51 n S55 v52 v53 v54 = some X → mI g A H0 s S55 H locs → lv_has ls 12 [(0, .ref (mr g 0)), (1, .int c48), (2, .int c49), (3, .int c50), (4, .int c51), (5, .int v52), (6, .int v53), (7, .int v54)] → (∀ (H : Heap) (locs : List Loc) (ls : Array Slot), mI g A H0 s X.2.2 H locs → lv_has ls 12 [(0, .ref (mr g 0)), (2, .int c49), (5, .int X.1), (6, .int X.2.1)] → W p l e R s m args below meth c H locs 0 0 Q (F0 m 190 ls [])) → W p l e R s m args below meth c H locs 0 0 Q (F0 m 77 ls []) := by
  have hx := hc.1
  have hb := hc.2.1
  intro n
  induction n with
  | zero => intro _ _ _ _ X H locs ls hf; exact nomatch (show none = some X from hf)
  | succ n ih =>
    intro S55 v52 v53 v54 X H locs ls hf hw hl kx
    rw [mf_coin_L77] at hf
    refine lv_iload hx hb dX12_coin_77 (lv_at hl 7 rfl) ?_
    refine lv_iload hx hb dX12_coin_79 (lv_at hl 4 rfl) ?_
    refine lv_icmp_ge (tgt := 190) hx hb dX12_coin_81 (by decide) (fun cn98 => ?_) (fun cn98 => ?_)
    · have hf := (if_pos cn98).symm.trans hf
      cases hf
      exact kx _ _ _ hw (lv_sub hl [0, 2, 5, 6] rfl)
    · have hf := (if_neg cn98).symm.trans hf
      refine lv_iload hx hb dX12_coin_84 (lv_at hl 7 rfl) ?_
      refine lv_istore (lv' := [(8, .int v54), (0, .ref (mr g 0)), (1, .int c48), (2, .int c49), (3, .int c50), (4, .int c51), (5, .int v52), (6, .int v53), (7, .int v54)]) hx hb dX12_coin_86 hl (by decide) rfl (fun ls hl => ?_)
      refine lv_iconst (v := 0) hx hb dX12_coin_88 (by decide) ?_
      refine lv_istore (lv' := [(9, .int 0), (8, .int v54), (0, .ref (mr g 0)), (1, .int c48), (2, .int c49), (3, .int c50), (4, .int c51), (5, .int v52), (6, .int v53), (7, .int v54)]) hx hb dX12_coin_89 hl (by decide) rfl (fun ls hl => ?_)
      refine lv_iconst (v := 1) hx hb dX12_coin_91 (by decide) ?_
      refine lv_istore (lv' := [(10, .int 1), (9, .int 0), (8, .int v54), (0, .ref (mr g 0)), (1, .int c48), (2, .int c49), (3, .int c50), (4, .int c51), (5, .int v52), (6, .int v53), (7, .int v54)]) hx hb dX12_coin_92 hl (by decide) rfl (fun ls hl => ?_)
      refine lv_iload_n hx hb dX12_coin_94 rfl (lv_at hl 6 rfl) ?_
      refine lv_iconst (v := 1) hx hb dX12_coin_95 (by decide) ?_
      refine lv_isub hx hb dX12_coin_96 ?_
      refine lv_istore (lv' := [(11, .int (c50 - 1)), (10, .int 1), (9, .int 0), (8, .int v54), (0, .ref (mr g 0)), (1, .int c48), (2, .int c49), (3, .int c50), (4, .int c51), (5, .int v52), (6, .int v53), (7, .int v54)]) hx hb dX12_coin_97 hl (by decide) rfl (fun ls hl => ?_)
      obtain ⟨v69, S70, hX, hf⟩ := bd2_some hf
      refine wm_coin_L99 hc hR hml N c48 c49 c50 c51 v52 v53 v54 N _ _ _ _ _ _ _ _ _ hX hw (lv_sub hl [4, 5, 6, 7, 8, 9, 10, 11, 3, 2, 1, 0] rfl) (fun H locs ls hw hl => ?_)
      refine lv_aload_n hx hb dX12_coin_149 rfl (lv_at hl 0 rfl) ?_
      obtain ⟨v71, S72, hcall, hf⟩ := bd2_some hf
      refine m_cvi (As := []) (rest := []) hc hw hR (hml.trans hl.1.symm) (cm_cost l N S70 v71 S72 hcall) mq_cost rfl (by decide) rfl rfl rfl (Nat.le_of_ble_eq_true rfl) dX12_coin_150 (fun H locs hw => ?_) ⟨Nat.zero_le _, Nat.zero_le _⟩
      refine lv_iload_n hx hb dX12_coin_153 rfl (lv_at hl 1 rfl) ?_
      refine lv_icmp_gt (tgt := 184) hx hb dX12_coin_154 (by decide) (fun cn102 => ?_) (fun cn102 => ?_)
      · have hf := (if_pos cn102).symm.trans hf
        refine lv_iinc (lv' := [(7, .int (v54 + 1)), (0, .ref (mr g 0)), (1, .int c48), (2, .int c49), (3, .int c50), (4, .int c51), (5, .int v52), (6, .int v53), (9, .int v69)]) hx hb dX12_coin_184 hl (k := 7) rfl rfl (by decide) rfl (fun ls hl => ?_)
        refine lv_goto (tgt := 77) hx hb dX12_coin_187 (by decide) ?_
        exact ih _ _ _ _ X _ _ _ hf hw (lv_sub hl [1, 2, 3, 4, 5, 6, 7, 0] rfl) kx
      · have hf := (if_neg cn102).symm.trans hf
        refine lv_aload_n hx hb dX12_coin_157 rfl (lv_at hl 0 rfl) ?_
        obtain ⟨v73, S74, hcall, hf⟩ := bd2_some hf
        refine m_cvi (As := []) (rest := []) hc hw hR (hml.trans hl.1.symm) (cm_allWorth l N S72 v73 S74 hcall) mq_allWorth rfl (by decide) rfl rfl rfl (Nat.le_of_ble_eq_true rfl) dX12_coin_158 (fun H locs hw => ?_) ⟨Nat.zero_le _, Nat.zero_le _⟩
        refine lv_istore (lv' := [(11, .int v73), (0, .ref (mr g 0)), (1, .int c48), (2, .int c49), (3, .int c50), (4, .int c51), (5, .int v52), (6, .int v53), (7, .int v54), (9, .int v69)]) hx hb dX12_coin_161 hl (by decide) rfl (fun ls hl => ?_)
        refine lv_iload hx hb dX12_coin_163 (lv_at hl 6 rfl) ?_
        refine lv_iconst (v := (-1)) hx hb dX12_coin_165 (by decide) ?_
        refine lv_icmp_eq (tgt := 176) hx hb dX12_coin_166 (by decide) (fun cn103 => ?_) (fun cn103 => ?_)
        · have hf := (if_pos cn103).symm.trans hf
          refine lv_iload hx hb dX12_coin_176 (lv_at hl 9 rfl) ?_
          refine lv_istore (lv' := [(5, .int v69), (11, .int v73), (0, .ref (mr g 0)), (1, .int c48), (2, .int c49), (3, .int c50), (4, .int c51), (6, .int v53), (7, .int v54), (9, .int v69)]) hx hb dX12_coin_178 hl (by decide) rfl (fun ls hl => ?_)
          refine lv_iload hx hb dX12_coin_180 (lv_at hl 1 rfl) ?_
          refine lv_istore (lv' := [(6, .int v73), (5, .int v69), (11, .int v73), (0, .ref (mr g 0)), (1, .int c48), (2, .int c49), (3, .int c50), (4, .int c51), (7, .int v54), (9, .int v69)]) hx hb dX12_coin_182 hl (by decide) rfl (fun ls hl => ?_)
          refine lv_iinc (lv' := [(7, .int (v54 + 1)), (6, .int v73), (5, .int v69), (11, .int v73), (0, .ref (mr g 0)), (1, .int c48), (2, .int c49), (3, .int c50), (4, .int c51), (9, .int v69)]) hx hb dX12_coin_184 hl (k := 8) rfl rfl (by decide) rfl (fun ls hl => ?_)
          refine lv_goto (tgt := 77) hx hb dX12_coin_187 (by decide) ?_
          exact ih _ _ _ _ X _ _ _ hf hw (lv_sub hl [4, 5, 6, 7, 8, 2, 1, 0] rfl) kx
        · have hf := (if_neg cn103).symm.trans hf
          refine lv_iload hx hb dX12_coin_169 (lv_at hl 0 rfl) ?_
          refine lv_iload hx hb dX12_coin_171 (lv_at hl 7 rfl) ?_
          refine lv_icmp_le (tgt := 184) hx hb dX12_coin_173 (by decide) (fun cn104 => ?_) (fun cn104 => ?_)
          · have hf := (if_pos cn104).symm.trans hf
            refine lv_iinc (lv' := [(7, .int (v54 + 1)), (11, .int v73), (0, .ref (mr g 0)), (1, .int c48), (2, .int c49), (3, .int c50), (4, .int c51), (5, .int v52), (6, .int v53), (9, .int v69)]) hx hb dX12_coin_184 hl (k := 8) rfl rfl (by decide) rfl (fun ls hl => ?_)
            refine lv_goto (tgt := 77) hx hb dX12_coin_187 (by decide) ?_
            exact ih _ _ _ _ X _ _ _ hf hw (lv_sub hl [2, 3, 4, 5, 6, 7, 8, 0] rfl) kx
          · have hf := (if_neg cn104).symm.trans hf
            refine lv_iload hx hb dX12_coin_176 (lv_at hl 9 rfl) ?_
            refine lv_istore (lv' := [(5, .int v69), (11, .int v73), (0, .ref (mr g 0)), (1, .int c48), (2, .int c49), (3, .int c50), (4, .int c51), (6, .int v53), (7, .int v54), (9, .int v69)]) hx hb dX12_coin_178 hl (by decide) rfl (fun ls hl => ?_)
            refine lv_iload hx hb dX12_coin_180 (lv_at hl 1 rfl) ?_
            refine lv_istore (lv' := [(6, .int v73), (5, .int v69), (11, .int v73), (0, .ref (mr g 0)), (1, .int c48), (2, .int c49), (3, .int c50), (4, .int c51), (7, .int v54), (9, .int v69)]) hx hb dX12_coin_182 hl (by decide) rfl (fun ls hl => ?_)
            refine lv_iinc (lv' := [(7, .int (v54 + 1)), (6, .int v73), (5, .int v69), (11, .int v73), (0, .ref (mr g 0)), (1, .int c48), (2, .int c49), (3, .int c50), (4, .int c51), (9, .int v69)]) hx hb dX12_coin_184 hl (k := 8) rfl rfl (by decide) rfl (fun ls hl => ?_)
            refine lv_goto (tgt := 77) hx hb dX12_coin_187 (by decide) ?_
            exact ih _ _ _ _ X _ _ _ hf hw (lv_sub hl [4, 5, 6, 7, 8, 2, 1, 0] rfl) kx
def mf_coin (N : Nat) (S : mS) (a1 : Int32) (a2 : Int32) : Option (Int32 × mS) := (if (mf_in a1 0 99999) = true then (if (mf_in a2 0 1) = true then (if 4 ≤ (S.1 3 0) then (bd1 (mf_coin_L46 N a1 a2 4 N S 1 0) fun v7 => (bd1 (mf_keepsRises N S) fun S8 => (bd3 (mf_coin_L77 N a1 a2 4 v7 N S8 (-1) 0 0) fun v36 v37 S38 => (bd1 (mf_laysRises N S38) fun S39 => (if v36 = (-1) then some (v36, S39) else (if a2 = 0 then some (v36, S39) else some (v37, S39))))))) else (bd1 (mf_coin_L46 N a1 a2 (S.1 3 0) N S 1 0) fun v46 => (bd1 (mf_keepsRises N S) fun S47 => (bd3 (mf_coin_L77 N a1 a2 (S.1 3 0) v46 N S47 (-1) 0 0) fun v75 v76 S77 => (bd1 (mf_laysRises N S77) fun S78 => (if v75 = (-1) then some (v75, S78) else (if a2 = 0 then some (v75, S78) else some (v76, S78)))))))) else some ((-2), S)) else some ((-2), S))
set_option maxRecDepth 100000 in
theorem cm_coin (l : Launch) (N : Nat) (S : mS) (a1 : Int32) (a2 : Int32) (res : Int32) (S1 : mS) (hf : mf_coin N S a1 a2 = some (res, S1)) : mMi l yX12_coin cX12_coin 12 .int 8 (fun g => [.ref (mr g 0), .int a1, .int a2]) S res S1 := by
  refine mMi_of (own := RX12) (by decide) rfl rfl (fun g => Nat.le_of_ble_eq_true rfl) ?_
  intro p e R s m args below meth c Q g A H0 H locs ls hc hR hml hw hl hQ
  have hl : lv_has ls 12 [(0, .ref (mr g 0)), (1, .int a1), (2, .int a2)] := hl
  have hx := hc.1
  have hb := hc.2.1
  unfold mf_coin at hf
  refine lv_iload_n hx hb dX12_coin_0 rfl (lv_at hl 1 rfl) ?_
  refine lv_iconst (v := 0) hx hb dX12_coin_1 (by decide) ?_
  refine lv_ldcw (v := 99999) hx hb hc.2.2.1 (hc.2.2.2 _ (mem_g 1607 (by decide +kernel) rfl)) dX12_coin_2 ?_
  refine m_csi (As := [.int a1, .int 0, .int 99999]) (rest := []) hc hw hR (hml.trans hl.1.symm) (cm_in l S a1 0 99999 _ rfl) mq_in (by decide) rfl rfl rfl (Nat.le_of_ble_eq_true rfl) dX12_coin_5 (fun H locs hw => ?_) ⟨Nat.zero_le _, Nat.zero_le _⟩
  refine lv_if_eqb (tgt := 20) hx hb dX12_coin_8 (by decide) (fun cn79 => ?_) (fun cn79 => ?_)
  · have hf := (if_neg cn79).symm.trans hf
    refine lv_bipush (v := (-2)) hx hb dX12_coin_20 (by decide) ?_
    cases hf
    exact hQ _ _ _ _ dX12_coin_22 hw
  · have hf := (if_pos cn79).symm.trans hf
    refine lv_iload_n hx hb dX12_coin_11 rfl (lv_at hl 2 rfl) ?_
    refine lv_iconst (v := 0) hx hb dX12_coin_12 (by decide) ?_
    refine lv_iconst (v := 1) hx hb dX12_coin_13 (by decide) ?_
    refine m_csi (As := [.int a2, .int 0, .int 1]) (rest := []) hc hw hR (hml.trans hl.1.symm) (cm_in l S a2 0 1 _ rfl) mq_in (by decide) rfl rfl rfl (Nat.le_of_ble_eq_true rfl) dX12_coin_14 (fun H locs hw => ?_) ⟨Nat.zero_le _, Nat.zero_le _⟩
    refine lv_if_neb (tgt := 23) hx hb dX12_coin_17 (by decide) (fun cn80 => ?_) (fun cn80 => ?_)
    · have hf := (if_pos cn80).symm.trans hf
      refine lv_aload_n hx hb dX12_coin_23 rfl (lv_at hl 0 rfl) ?_
      refine m_g3 hc hw dX12_coin_24 ?_
      refine lv_iconst (v := 4) hx hb dX12_coin_27 (by decide) ?_
      refine lv_icmp_ge (tgt := 38) hx hb dX12_coin_28 (by decide) (fun cn81 => ?_) (fun cn81 => ?_)
      · have hf := (if_pos cn81).symm.trans hf
        refine lv_iconst (v := 4) hx hb dX12_coin_38 (by decide) ?_
        refine lv_istore_n (lv' := [(3, .int 4), (0, .ref (mr g 0)), (1, .int a1), (2, .int a2)]) hx hb dX12_coin_39 rfl hl (by decide) rfl (fun ls hl => ?_)
        refine lv_iconst (v := 1) hx hb dX12_coin_40 (by decide) ?_
        refine lv_istore (lv' := [(4, .int 1), (3, .int 4), (0, .ref (mr g 0)), (1, .int a1), (2, .int a2)]) hx hb dX12_coin_41 hl (by decide) rfl (fun ls hl => ?_)
        refine lv_iconst (v := 0) hx hb dX12_coin_43 (by decide) ?_
        refine lv_istore (lv' := [(5, .int 0), (4, .int 1), (3, .int 4), (0, .ref (mr g 0)), (1, .int a1), (2, .int a2)]) hx hb dX12_coin_44 hl (by decide) rfl (fun ls hl => ?_)
        obtain ⟨v7, hX, hf⟩ := bd1_some hf
        refine wm_coin_L46 hc hR hml N a1 a2 4 N _ _ _ _ _ _ _ hX hw (lv_sub hl [3, 4, 5, 2, 1, 0] rfl) (fun H locs ls hw hl => ?_)
        refine lv_aload_n hx hb dX12_coin_64 rfl (lv_at hl 0 rfl) ?_
        obtain ⟨S8, hcall, hf⟩ := bd1_some hf
        refine m_cvv (As := []) (rest := []) hc hw hR (hml.trans hl.1.symm) (cm_keepsRises l N S S8 hcall) mq_keepsRises rfl (by decide) rfl rfl rfl (Nat.le_of_ble_eq_true rfl) dX12_coin_65 (fun H locs hw => ?_) ⟨Nat.zero_le _, Nat.zero_le _⟩
        refine lv_iconst (v := (-1)) hx hb dX12_coin_68 (by decide) ?_
        refine lv_istore (lv' := [(5, .int (-1)), (0, .ref (mr g 0)), (1, .int a1), (2, .int a2), (3, .int 4), (4, .int v7)]) hx hb dX12_coin_69 hl (by decide) rfl (fun ls hl => ?_)
        refine lv_iconst (v := 0) hx hb dX12_coin_71 (by decide) ?_
        refine lv_istore (lv' := [(6, .int 0), (5, .int (-1)), (0, .ref (mr g 0)), (1, .int a1), (2, .int a2), (3, .int 4), (4, .int v7)]) hx hb dX12_coin_72 hl (by decide) rfl (fun ls hl => ?_)
        refine lv_iconst (v := 0) hx hb dX12_coin_74 (by decide) ?_
        refine lv_istore (lv' := [(7, .int 0), (6, .int 0), (5, .int (-1)), (0, .ref (mr g 0)), (1, .int a1), (2, .int a2), (3, .int 4), (4, .int v7)]) hx hb dX12_coin_75 hl (by decide) rfl (fun ls hl => ?_)
        obtain ⟨v36, v37, S38, hX, hf⟩ := bd3_some hf
        refine wm_coin_L77 hc hR hml N a1 a2 4 v7 N _ _ _ _ _ _ _ _ hX hw (lv_sub hl [3, 4, 5, 6, 7, 2, 1, 0] rfl) (fun H locs ls hw hl => ?_)
        refine lv_aload_n hx hb dX12_coin_190 rfl (lv_at hl 0 rfl) ?_
        obtain ⟨S39, hcall, hf⟩ := bd1_some hf
        refine m_cvv (As := []) (rest := []) hc hw hR (hml.trans hl.1.symm) (cm_laysRises l N S38 S39 hcall) mq_laysRises rfl (by decide) rfl rfl rfl (Nat.le_of_ble_eq_true rfl) dX12_coin_191 (fun H locs hw => ?_) ⟨Nat.zero_le _, Nat.zero_le _⟩
        refine lv_iload hx hb dX12_coin_194 (lv_at hl 2 rfl) ?_
        refine lv_iconst (v := (-1)) hx hb dX12_coin_196 (by decide) ?_
        refine lv_icmp_eq (tgt := 204) hx hb dX12_coin_197 (by decide) (fun cn94 => ?_) (fun cn94 => ?_)
        · have hf := (if_pos cn94).symm.trans hf
          refine lv_iload hx hb dX12_coin_204 (lv_at hl 2 rfl) ?_
          refine lv_goto (tgt := 211) hx hb dX12_coin_206 (by decide) ?_
          cases hf
          exact hQ _ _ _ _ dX12_coin_211 hw
        · have hf := (if_neg cn94).symm.trans hf
          refine lv_iload_n hx hb dX12_coin_200 rfl (lv_at hl 1 rfl) ?_
          refine lv_if_ne (tgt := 209) hx hb dX12_coin_201 (by decide) (fun cn95 => ?_) (fun cn95 => ?_)
          · have hf := (if_neg cn95).symm.trans hf
            refine lv_iload hx hb dX12_coin_209 (lv_at hl 3 rfl) ?_
            cases hf
            exact hQ _ _ _ _ dX12_coin_211 hw
          · have hf := (if_pos cn95).symm.trans hf
            refine lv_iload hx hb dX12_coin_204 (lv_at hl 2 rfl) ?_
            refine lv_goto (tgt := 211) hx hb dX12_coin_206 (by decide) ?_
            cases hf
            exact hQ _ _ _ _ dX12_coin_211 hw
      · have hf := (if_neg cn81).symm.trans hf
        refine lv_aload_n hx hb dX12_coin_31 rfl (lv_at hl 0 rfl) ?_
        refine m_g3 hc hw dX12_coin_32 ?_
        refine lv_goto (tgt := 39) hx hb dX12_coin_35 (by decide) ?_
        refine lv_istore_n (lv' := [(3, .int (S.1 3 0)), (0, .ref (mr g 0)), (1, .int a1), (2, .int a2)]) hx hb dX12_coin_39 rfl hl (by decide) rfl (fun ls hl => ?_)
        refine lv_iconst (v := 1) hx hb dX12_coin_40 (by decide) ?_
        refine lv_istore (lv' := [(4, .int 1), (3, .int (S.1 3 0)), (0, .ref (mr g 0)), (1, .int a1), (2, .int a2)]) hx hb dX12_coin_41 hl (by decide) rfl (fun ls hl => ?_)
        refine lv_iconst (v := 0) hx hb dX12_coin_43 (by decide) ?_
        refine lv_istore (lv' := [(5, .int 0), (4, .int 1), (3, .int (S.1 3 0)), (0, .ref (mr g 0)), (1, .int a1), (2, .int a2)]) hx hb dX12_coin_44 hl (by decide) rfl (fun ls hl => ?_)
        obtain ⟨v46, hX, hf⟩ := bd1_some hf
        refine wm_coin_L46 hc hR hml N a1 a2 (S.1 3 0) N _ _ _ _ _ _ _ hX hw (lv_sub hl [3, 4, 5, 2, 1, 0] rfl) (fun H locs ls hw hl => ?_)
        refine lv_aload_n hx hb dX12_coin_64 rfl (lv_at hl 0 rfl) ?_
        obtain ⟨S47, hcall, hf⟩ := bd1_some hf
        refine m_cvv (As := []) (rest := []) hc hw hR (hml.trans hl.1.symm) (cm_keepsRises l N S S47 hcall) mq_keepsRises rfl (by decide) rfl rfl rfl (Nat.le_of_ble_eq_true rfl) dX12_coin_65 (fun H locs hw => ?_) ⟨Nat.zero_le _, Nat.zero_le _⟩
        refine lv_iconst (v := (-1)) hx hb dX12_coin_68 (by decide) ?_
        refine lv_istore (lv' := [(5, .int (-1)), (0, .ref (mr g 0)), (1, .int a1), (2, .int a2), (3, .int (S.1 3 0)), (4, .int v46)]) hx hb dX12_coin_69 hl (by decide) rfl (fun ls hl => ?_)
        refine lv_iconst (v := 0) hx hb dX12_coin_71 (by decide) ?_
        refine lv_istore (lv' := [(6, .int 0), (5, .int (-1)), (0, .ref (mr g 0)), (1, .int a1), (2, .int a2), (3, .int (S.1 3 0)), (4, .int v46)]) hx hb dX12_coin_72 hl (by decide) rfl (fun ls hl => ?_)
        refine lv_iconst (v := 0) hx hb dX12_coin_74 (by decide) ?_
        refine lv_istore (lv' := [(7, .int 0), (6, .int 0), (5, .int (-1)), (0, .ref (mr g 0)), (1, .int a1), (2, .int a2), (3, .int (S.1 3 0)), (4, .int v46)]) hx hb dX12_coin_75 hl (by decide) rfl (fun ls hl => ?_)
        obtain ⟨v75, v76, S77, hX, hf⟩ := bd3_some hf
        refine wm_coin_L77 hc hR hml N a1 a2 (S.1 3 0) v46 N _ _ _ _ _ _ _ _ hX hw (lv_sub hl [3, 4, 5, 6, 7, 2, 1, 0] rfl) (fun H locs ls hw hl => ?_)
        refine lv_aload_n hx hb dX12_coin_190 rfl (lv_at hl 0 rfl) ?_
        obtain ⟨S78, hcall, hf⟩ := bd1_some hf
        refine m_cvv (As := []) (rest := []) hc hw hR (hml.trans hl.1.symm) (cm_laysRises l N S77 S78 hcall) mq_laysRises rfl (by decide) rfl rfl rfl (Nat.le_of_ble_eq_true rfl) dX12_coin_191 (fun H locs hw => ?_) ⟨Nat.zero_le _, Nat.zero_le _⟩
        refine lv_iload hx hb dX12_coin_194 (lv_at hl 2 rfl) ?_
        refine lv_iconst (v := (-1)) hx hb dX12_coin_196 (by decide) ?_
        refine lv_icmp_eq (tgt := 204) hx hb dX12_coin_197 (by decide) (fun cn108 => ?_) (fun cn108 => ?_)
        · have hf := (if_pos cn108).symm.trans hf
          refine lv_iload hx hb dX12_coin_204 (lv_at hl 2 rfl) ?_
          refine lv_goto (tgt := 211) hx hb dX12_coin_206 (by decide) ?_
          cases hf
          exact hQ _ _ _ _ dX12_coin_211 hw
        · have hf := (if_neg cn108).symm.trans hf
          refine lv_iload_n hx hb dX12_coin_200 rfl (lv_at hl 1 rfl) ?_
          refine lv_if_ne (tgt := 209) hx hb dX12_coin_201 (by decide) (fun cn109 => ?_) (fun cn109 => ?_)
          · have hf := (if_neg cn109).symm.trans hf
            refine lv_iload hx hb dX12_coin_209 (lv_at hl 3 rfl) ?_
            cases hf
            exact hQ _ _ _ _ dX12_coin_211 hw
          · have hf := (if_pos cn109).symm.trans hf
            refine lv_iload hx hb dX12_coin_204 (lv_at hl 2 rfl) ?_
            refine lv_goto (tgt := 211) hx hb dX12_coin_206 (by decide) ?_
            cases hf
            exact hQ _ _ _ _ dX12_coin_211 hw
    · have hf := (if_neg cn80).symm.trans hf
      refine lv_bipush (v := (-2)) hx hb dX12_coin_20 (by decide) ?_
      cases hf
      exact hQ _ _ _ _ dX12_coin_22 hw
def mf_stage_L18 (N : Nat) (c7 : Int32) (c8 : Int32) (c9 : Int32) : Nat → mS → Int32 → Option (mS)
  | 0, _, _ => none
  | n + 1, S11, v10 => (if (S11.1 10 0) ≤ v10 then some S11 else (if ok v10 6 then mf_stage_L18 N c7 c8 c9 n (ms S11 12 v10.toNatClampNeg ((S11.1 12 v10.toNatClampNeg) + 1)) (v10 + 1) else none))
set_option maxRecDepth 100000 in
theorem wm_stage_L18 {p : Program} {l : Launch} {e : Env} {R : Room} {s : State} {m : MethodId} {args : Array Value} {below : List Frame} {meth : Method} {c : Code} {Q : State → Prop} {g : mG} {A : Nat → Prop} {H0 : Heap} (hc : qC RX12 cX12_stage p s m args c) (hR : qRoom R 8) (hml : c.maxLocals = 5) (N : Nat) (c7 : Int32) (c8 : Int32) (c9 : Int32) : ∀ (n : Nat) (S11 : mS) (v10 : Int32) (X : mS) (H : Heap) (locs : List Loc) (ls : Array Slot), mf_stage_L18 N c7 c8 c9 n S11 v10 = some X → mI g A H0 s S11 H locs → lv_has ls 5 [(0, .ref (mr g 0)), (1, .int c7), (2, .int c8), (3, .int c9), (4, .int v10)] → (∀ (H : Heap) (locs : List Loc) (ls : Array Slot), mI g A H0 s X H locs → lv_has ls 5 [(0, .ref (mr g 0)), (1, .int c7), (2, .int c8), (3, .int c9)] → W p l e R s m args below meth c H locs 0 0 Q (F0 m 44 ls [])) → W p l e R s m args below meth c H locs 0 0 Q (F0 m 18 ls []) := by
  have hx := hc.1
  have hb := hc.2.1
  intro n
  induction n with
  | zero => intro _ _ X H locs ls hf; exact nomatch (show none = some X from hf)
  | succ n ih =>
    intro S11 v10 X H locs ls hf hw hl kx
    rw [mf_stage_L18] at hf
    refine lv_iload hx hb dX12_stage_18 (lv_at hl 4 rfl) ?_
    refine lv_aload_n hx hb dX12_stage_20 rfl (lv_at hl 0 rfl) ?_
    refine m_g10 hc hw dX12_stage_21 ?_
    refine lv_icmp_ge (tgt := 44) hx hb dX12_stage_24 (by decide) (fun cn24 => ?_) (fun cn24 => ?_)
    · have hf := (if_pos cn24).symm.trans hf
      cases hf
      exact kx _ _ _ hw (lv_sub hl [0, 1, 2, 3] rfl)
    · have hf := (if_neg cn24).symm.trans hf
      refine lv_aload_n hx hb dX12_stage_27 rfl (lv_at hl 0 rfl) ?_
      refine m_g12 hc hw dX12_stage_28 ?_
      refine lv_iload hx hb dX12_stage_31 (lv_at hl 4 rfl) ?_
      refine lv_dup2_11 hx hb dX12_stage_33 rfl rfl ?_
      obtain ⟨hi12, hf⟩ := gd_some hf
      have hi12 := ok_in hi12
      refine m_l12 hc hw hi12 dX12_stage_34 ?_
      refine lv_iconst (v := 1) hx hb dX12_stage_35 (by decide) ?_
      refine lv_iadd hx hb dX12_stage_36 ?_
      refine m_s12 hc hw hi12 dX12_stage_37 (fun H locs hw => ?_)
      refine lv_iinc (lv' := [(4, .int (v10 + 1)), (0, .ref (mr g 0)), (1, .int c7), (2, .int c8), (3, .int c9)]) hx hb dX12_stage_38 hl (k := 4) rfl rfl (by decide) rfl (fun ls hl => ?_)
      refine lv_goto (tgt := 18) hx hb dX12_stage_41 (by decide) ?_
      exact ih _ _ X _ _ _ hf hw (lv_sub hl [1, 2, 3, 4, 0] rfl) kx
def mf_stage_L9 (N : Nat) : Nat → mS → Int32 → Int32 → Int32 → Option (Int32 × mS)
  | 0, _, _, _, _ => none
  | n + 1, S6, v3, v4, v5 => (if 10 < v5 then some (v3, S6) else (bd1 (mf_stage_L18 N v3 v4 v5 N S6 0) fun S13 => (bd2 (mf_allWorth N S13) fun v14 S15 => (if v14 ≤ v4 then mf_stage_L9 N n S15 v3 v4 (v5 + 1) else mf_stage_L9 N n S15 v5 v14 (v5 + 1)))))
set_option maxRecDepth 100000 in
theorem wm_stage_L9 {p : Program} {l : Launch} {e : Env} {R : Room} {s : State} {m : MethodId} {args : Array Value} {below : List Frame} {meth : Method} {c : Code} {Q : State → Prop} {g : mG} {A : Nat → Prop} {H0 : Heap} (hc : qC RX12 cX12_stage p s m args c) (hR : qRoom R 8) (hml : c.maxLocals = 5) (N : Nat) : ∀ (n : Nat) (S6 : mS) (v3 : Int32) (v4 : Int32) (v5 : Int32) (X : Int32 × mS) (H : Heap) (locs : List Loc) (ls : Array Slot), mf_stage_L9 N n S6 v3 v4 v5 = some X → mI g A H0 s S6 H locs → lv_has ls 5 [(0, .ref (mr g 0)), (1, .int v3), (2, .int v4), (3, .int v5)] → (∀ (H : Heap) (locs : List Loc) (ls : Array Slot), mI g A H0 s X.2 H locs → lv_has ls 5 [(0, .ref (mr g 0)), (1, .int X.1)] → W p l e R s m args below meth c H locs 0 0 Q (F0 m 67 ls [])) → W p l e R s m args below meth c H locs 0 0 Q (F0 m 9 ls []) := by
  have hx := hc.1
  have hb := hc.2.1
  intro n
  induction n with
  | zero => intro _ _ _ _ X H locs ls hf; exact nomatch (show none = some X from hf)
  | succ n ih =>
    intro S6 v3 v4 v5 X H locs ls hf hw hl kx
    rw [mf_stage_L9] at hf
    refine lv_iload_n hx hb dX12_stage_9 rfl (lv_at hl 3 rfl) ?_
    refine lv_bipush (v := 10) hx hb dX12_stage_10 (by decide) ?_
    refine lv_icmp_gt (tgt := 67) hx hb dX12_stage_12 (by decide) (fun cn23 => ?_) (fun cn23 => ?_)
    · have hf := (if_pos cn23).symm.trans hf
      cases hf
      exact kx _ _ _ hw (lv_sub hl [0, 1] rfl)
    · have hf := (if_neg cn23).symm.trans hf
      refine lv_iconst (v := 0) hx hb dX12_stage_15 (by decide) ?_
      refine lv_istore (lv' := [(4, .int 0), (0, .ref (mr g 0)), (1, .int v3), (2, .int v4), (3, .int v5)]) hx hb dX12_stage_16 hl (by decide) rfl (fun ls hl => ?_)
      obtain ⟨S13, hX, hf⟩ := bd1_some hf
      refine wm_stage_L18 hc hR hml N v3 v4 v5 N _ _ _ _ _ _ hX hw (lv_sub hl [1, 2, 3, 4, 0] rfl) (fun H locs ls hw hl => ?_)
      refine lv_aload_n hx hb dX12_stage_44 rfl (lv_at hl 0 rfl) ?_
      obtain ⟨v14, S15, hcall, hf⟩ := bd2_some hf
      refine m_cvi (As := []) (rest := []) hc hw hR (hml.trans hl.1.symm) (cm_allWorth l N S13 v14 S15 hcall) mq_allWorth rfl (by decide) rfl rfl rfl (Nat.le_of_ble_eq_true rfl) dX12_stage_45 (fun H locs hw => ?_) ⟨Nat.zero_le _, Nat.zero_le _⟩
      refine lv_istore (lv' := [(4, .int v14), (0, .ref (mr g 0)), (1, .int v3), (2, .int v4), (3, .int v5)]) hx hb dX12_stage_48 hl (by decide) rfl (fun ls hl => ?_)
      refine lv_iload hx hb dX12_stage_50 (lv_at hl 0 rfl) ?_
      refine lv_iload_n hx hb dX12_stage_52 rfl (lv_at hl 3 rfl) ?_
      refine lv_icmp_le (tgt := 61) hx hb dX12_stage_53 (by decide) (fun cn26 => ?_) (fun cn26 => ?_)
      · have hf := (if_pos cn26).symm.trans hf
        refine lv_iinc (lv' := [(3, .int (v5 + 1)), (4, .int v14), (0, .ref (mr g 0)), (1, .int v3), (2, .int v4)]) hx hb dX12_stage_61 hl (k := 4) rfl rfl (by decide) rfl (fun ls hl => ?_)
        refine lv_goto (tgt := 9) hx hb dX12_stage_64 (by decide) ?_
        exact ih _ _ _ _ X _ _ _ hf hw (lv_sub hl [2, 3, 4, 0] rfl) kx
      · have hf := (if_neg cn26).symm.trans hf
        refine lv_iload_n hx hb dX12_stage_56 rfl (lv_at hl 4 rfl) ?_
        refine lv_istore_n (lv' := [(1, .int v5), (4, .int v14), (0, .ref (mr g 0)), (2, .int v4), (3, .int v5)]) hx hb dX12_stage_57 rfl hl (by decide) rfl (fun ls hl => ?_)
        refine lv_iload hx hb dX12_stage_58 (lv_at hl 1 rfl) ?_
        refine lv_istore_n (lv' := [(2, .int v14), (1, .int v5), (4, .int v14), (0, .ref (mr g 0)), (3, .int v5)]) hx hb dX12_stage_60 rfl hl (by decide) rfl (fun ls hl => ?_)
        refine lv_iinc (lv' := [(3, .int (v5 + 1)), (2, .int v14), (1, .int v5), (4, .int v14), (0, .ref (mr g 0))]) hx hb dX12_stage_61 hl (k := 4) rfl rfl (by decide) rfl (fun ls hl => ?_)
        refine lv_goto (tgt := 9) hx hb dX12_stage_64 (by decide) ?_
        exact ih _ _ _ _ X _ _ _ hf hw (lv_sub hl [4, 2, 1, 0] rfl) kx
def mf_stage_L69 (N : Nat) (c18 : Int32) : Nat → mS → Int32 → Option (mS)
  | 0, _, _ => none
  | n + 1, S20, v19 => (if (S20.1 10 0) ≤ v19 then some S20 else (if ok v19 6 then mf_stage_L69 N c18 n (ms S20 12 v19.toNatClampNeg ((S20.1 12 v19.toNatClampNeg) - 10)) (v19 + 1) else none))
set_option maxRecDepth 100000 in
theorem wm_stage_L69 {p : Program} {l : Launch} {e : Env} {R : Room} {s : State} {m : MethodId} {args : Array Value} {below : List Frame} {meth : Method} {c : Code} {Q : State → Prop} {g : mG} {A : Nat → Prop} {H0 : Heap} (hc : qC RX12 cX12_stage p s m args c) (hR : qRoom R 8) (hml : c.maxLocals = 5) (N : Nat) (c18 : Int32) : ∀ (n : Nat) (S20 : mS) (v19 : Int32) (X : mS) (H : Heap) (locs : List Loc) (ls : Array Slot), mf_stage_L69 N c18 n S20 v19 = some X → mI g A H0 s S20 H locs → lv_has ls 5 [(0, .ref (mr g 0)), (1, .int c18), (3, .int v19)] → (∀ (H : Heap) (locs : List Loc) (ls : Array Slot), mI g A H0 s X H locs → lv_has ls 5 [(1, .int c18)] → W p l e R s m args below meth c H locs 0 0 Q (F0 m 94 ls [])) → W p l e R s m args below meth c H locs 0 0 Q (F0 m 69 ls []) := by
  have hx := hc.1
  have hb := hc.2.1
  intro n
  induction n with
  | zero => intro _ _ X H locs ls hf; exact nomatch (show none = some X from hf)
  | succ n ih =>
    intro S20 v19 X H locs ls hf hw hl kx
    rw [mf_stage_L69] at hf
    refine lv_iload_n hx hb dX12_stage_69 rfl (lv_at hl 2 rfl) ?_
    refine lv_aload_n hx hb dX12_stage_70 rfl (lv_at hl 0 rfl) ?_
    refine m_g10 hc hw dX12_stage_71 ?_
    refine lv_icmp_ge (tgt := 94) hx hb dX12_stage_74 (by decide) (fun cn29 => ?_) (fun cn29 => ?_)
    · have hf := (if_pos cn29).symm.trans hf
      cases hf
      exact kx _ _ _ hw (lv_sub hl [1] rfl)
    · have hf := (if_neg cn29).symm.trans hf
      refine lv_aload_n hx hb dX12_stage_77 rfl (lv_at hl 0 rfl) ?_
      refine m_g12 hc hw dX12_stage_78 ?_
      refine lv_iload_n hx hb dX12_stage_81 rfl (lv_at hl 2 rfl) ?_
      refine lv_dup2_11 hx hb dX12_stage_82 rfl rfl ?_
      obtain ⟨hi21, hf⟩ := gd_some hf
      have hi21 := ok_in hi21
      refine m_l12 hc hw hi21 dX12_stage_83 ?_
      refine lv_bipush (v := 10) hx hb dX12_stage_84 (by decide) ?_
      refine lv_isub hx hb dX12_stage_86 ?_
      refine m_s12 hc hw hi21 dX12_stage_87 (fun H locs hw => ?_)
      refine lv_iinc (lv' := [(3, .int (v19 + 1)), (0, .ref (mr g 0)), (1, .int c18)]) hx hb dX12_stage_88 hl (k := 2) rfl rfl (by decide) rfl (fun ls hl => ?_)
      refine lv_goto (tgt := 69) hx hb dX12_stage_91 (by decide) ?_
      exact ih _ _ X _ _ _ hf hw (lv_sub hl [1, 2, 0] rfl) kx
def mf_stage (N : Nat) (S : mS) : Option (Int32 × mS) := (bd2 (mf_allWorth N S) fun v1 S2 => (bd2 (mf_stage_L9 N N S2 0 v1 1) fun v16 S17 => (bd1 (mf_stage_L69 N v16 N S17 0) fun S22 => some (v16, S22))))
set_option maxRecDepth 100000 in
theorem cm_stage (l : Launch) (N : Nat) (S : mS) (res : Int32) (S1 : mS) (hf : mf_stage N S = some (res, S1)) : mMi l yX12_stage cX12_stage 5 .int 8 (fun g => [.ref (mr g 0)]) S res S1 := by
  refine mMi_of (own := RX12) (by decide) rfl rfl (fun g => Nat.le_of_ble_eq_true rfl) ?_
  intro p e R s m args below meth c Q g A H0 H locs ls hc hR hml hw hl hQ
  have hl : lv_has ls 5 [(0, .ref (mr g 0))] := hl
  have hx := hc.1
  have hb := hc.2.1
  unfold mf_stage at hf
  refine lv_iconst (v := 0) hx hb dX12_stage_0 (by decide) ?_
  refine lv_istore_n (lv' := [(1, .int 0), (0, .ref (mr g 0))]) hx hb dX12_stage_1 rfl hl (by decide) rfl (fun ls hl => ?_)
  refine lv_aload_n hx hb dX12_stage_2 rfl (lv_at hl 1 rfl) ?_
  obtain ⟨v1, S2, hcall, hf⟩ := bd2_some hf
  refine m_cvi (As := []) (rest := []) hc hw hR (hml.trans hl.1.symm) (cm_allWorth l N S v1 S2 hcall) mq_allWorth rfl (by decide) rfl rfl rfl (Nat.le_of_ble_eq_true rfl) dX12_stage_3 (fun H locs hw => ?_) ⟨Nat.zero_le _, Nat.zero_le _⟩
  refine lv_istore_n (lv' := [(2, .int v1), (1, .int 0), (0, .ref (mr g 0))]) hx hb dX12_stage_6 rfl hl (by decide) rfl (fun ls hl => ?_)
  refine lv_iconst (v := 1) hx hb dX12_stage_7 (by decide) ?_
  refine lv_istore_n (lv' := [(3, .int 1), (2, .int v1), (1, .int 0), (0, .ref (mr g 0))]) hx hb dX12_stage_8 rfl hl (by decide) rfl (fun ls hl => ?_)
  obtain ⟨v16, S17, hX, hf⟩ := bd2_some hf
  refine wm_stage_L9 hc hR hml N N _ _ _ _ _ _ _ _ hX hw (lv_sub hl [3, 2, 1, 0] rfl) (fun H locs ls hw hl => ?_)
  refine lv_iconst (v := 0) hx hb dX12_stage_67 (by decide) ?_
  refine lv_istore_n (lv' := [(3, .int 0), (0, .ref (mr g 0)), (1, .int v16)]) hx hb dX12_stage_68 rfl hl (by decide) rfl (fun ls hl => ?_)
  obtain ⟨S22, hX, hf⟩ := bd1_some hf
  refine wm_stage_L69 hc hR hml N v16 N _ _ _ _ _ _ hX hw (lv_sub hl [1, 2, 0] rfl) (fun H locs ls hw hl => ?_)
  refine lv_iload_n hx hb dX12_stage_94 rfl (lv_at hl 0 rfl) ?_
  cases hf
  exact hQ _ _ _ _ dX12_stage_95 hw
def mf_gainBy (N : Nat) (S : mS) (a1 : Int32) (a2 : Int32) : Option (Int32 × mS) := (bd2 (mf_allWorth N S) fun v1 S2 => (bd1 (mf_changes N S2 a1 a2) fun S3 => (bd2 (mf_allWorth N S3) fun v4 S5 => (bd1 (mf_changes N S5 a1 a2) fun S6 => some (v4 - v1, S6)))))
set_option maxRecDepth 100000 in
theorem cm_gainBy (l : Launch) (N : Nat) (S : mS) (a1 : Int32) (a2 : Int32) (res : Int32) (S1 : mS) (hf : mf_gainBy N S a1 a2 = some (res, S1)) : mMi l yX12_gainBy cX12_gainBy 5 .int 8 (fun g => [.ref (mr g 0), .int a1, .int a2]) S res S1 := by
  refine mMi_of (own := RX12) (by decide) rfl rfl (fun g => Nat.le_of_ble_eq_true rfl) ?_
  intro p e R s m args below meth c Q g A H0 H locs ls hc hR hml hw hl hQ
  have hl : lv_has ls 5 [(0, .ref (mr g 0)), (1, .int a1), (2, .int a2)] := hl
  have hx := hc.1
  have hb := hc.2.1
  unfold mf_gainBy at hf
  refine lv_aload_n hx hb dX12_gainBy_0 rfl (lv_at hl 0 rfl) ?_
  obtain ⟨v1, S2, hcall, hf⟩ := bd2_some hf
  refine m_cvi (As := []) (rest := []) hc hw hR (hml.trans hl.1.symm) (cm_allWorth l N S v1 S2 hcall) mq_allWorth rfl (by decide) rfl rfl rfl (Nat.le_of_ble_eq_true rfl) dX12_gainBy_1 (fun H locs hw => ?_) ⟨Nat.zero_le _, Nat.zero_le _⟩
  refine lv_istore_n (lv' := [(3, .int v1), (0, .ref (mr g 0)), (1, .int a1), (2, .int a2)]) hx hb dX12_gainBy_4 rfl hl (by decide) rfl (fun ls hl => ?_)
  refine lv_aload_n hx hb dX12_gainBy_5 rfl (lv_at hl 1 rfl) ?_
  refine lv_iload_n hx hb dX12_gainBy_6 rfl (lv_at hl 2 rfl) ?_
  refine lv_iload_n hx hb dX12_gainBy_7 rfl (lv_at hl 3 rfl) ?_
  obtain ⟨S3, hcall, hf⟩ := bd1_some hf
  refine m_cvv (As := [.int a1, .int a2]) (rest := []) hc hw hR (hml.trans hl.1.symm) (cm_changes l N S2 a1 a2 S3 hcall) mq_changes rfl (by decide) rfl rfl rfl (Nat.le_of_ble_eq_true rfl) dX12_gainBy_8 (fun H locs hw => ?_) ⟨Nat.zero_le _, Nat.zero_le _⟩
  refine lv_aload_n hx hb dX12_gainBy_11 rfl (lv_at hl 1 rfl) ?_
  obtain ⟨v4, S5, hcall, hf⟩ := bd2_some hf
  refine m_cvi (As := []) (rest := []) hc hw hR (hml.trans hl.1.symm) (cm_allWorth l N S3 v4 S5 hcall) mq_allWorth rfl (by decide) rfl rfl rfl (Nat.le_of_ble_eq_true rfl) dX12_gainBy_12 (fun H locs hw => ?_) ⟨Nat.zero_le _, Nat.zero_le _⟩
  refine lv_istore (lv' := [(4, .int v4), (3, .int v1), (0, .ref (mr g 0)), (1, .int a1), (2, .int a2)]) hx hb dX12_gainBy_15 hl (by decide) rfl (fun ls hl => ?_)
  refine lv_aload_n hx hb dX12_gainBy_17 rfl (lv_at hl 2 rfl) ?_
  refine lv_iload_n hx hb dX12_gainBy_18 rfl (lv_at hl 3 rfl) ?_
  refine lv_iload_n hx hb dX12_gainBy_19 rfl (lv_at hl 4 rfl) ?_
  obtain ⟨S6, hcall, hf⟩ := bd1_some hf
  refine m_cvv (As := [.int a1, .int a2]) (rest := []) hc hw hR (hml.trans hl.1.symm) (cm_changes l N S5 a1 a2 S6 hcall) mq_changes rfl (by decide) rfl rfl rfl (Nat.le_of_ble_eq_true rfl) dX12_gainBy_20 (fun H locs hw => ?_) ⟨Nat.zero_le _, Nat.zero_le _⟩
  refine lv_iload hx hb dX12_gainBy_23 (lv_at hl 0 rfl) ?_
  refine lv_iload_n hx hb dX12_gainBy_25 rfl (lv_at hl 1 rfl) ?_
  refine lv_isub hx hb dX12_gainBy_26 ?_
  cases hf
  exact hQ _ _ _ _ dX12_gainBy_27 hw
theorem mq_gainBy : qCv RX12 363 yX12_gainBy cX12_gainBy 5 (some .int) 2 := ⟨⟨(mem_g 1617 (by decide +kernel) rfl), (mem_g 1619 (by decide +kernel) rfl), (mem_g 73 (by decide +kernel) rfl), (mem_g 89 (by decide +kernel) rfl), (mem_g 1620 (by decide +kernel) rfl)⟩, by decide, by decide +kernel, by decide⟩
def mf_hat (N : Nat) (S : mS) (a1 : Int32) (a2 : Int32) (a3 : Int32) : Option (Int32 × mS) := (bd1 (mf_isSeat N S a1 a2) fun v1 => (if v1 = true then (if (mf_in a3 0 40) = true then (bd2 (mf_allWorth N S) fun v2 S3 => (bd2 (mf_allWorth N (ms (ms S3 23 0 ((8 * a1) + a2)) 24 0 a3)) fun v4 S5 => some (v2 - v4, ms S5 23 0 (-1)))) else some ((-7), S)) else some ((-5), S)))
set_option maxRecDepth 100000 in
theorem cm_hat (l : Launch) (N : Nat) (S : mS) (a1 : Int32) (a2 : Int32) (a3 : Int32) (res : Int32) (S1 : mS) (hf : mf_hat N S a1 a2 a3 = some (res, S1)) : mMi l yX12_hat cX12_hat 6 .int 8 (fun g => [.ref (mr g 0), .int a1, .int a2, .int a3]) S res S1 := by
  refine mMi_of (own := RX12) (by decide) rfl rfl (fun g => Nat.le_of_ble_eq_true rfl) ?_
  intro p e R s m args below meth c Q g A H0 H locs ls hc hR hml hw hl hQ
  have hl : lv_has ls 6 [(0, .ref (mr g 0)), (1, .int a1), (2, .int a2), (3, .int a3)] := hl
  have hx := hc.1
  have hb := hc.2.1
  unfold mf_hat at hf
  refine lv_aload_n hx hb dX12_hat_0 rfl (lv_at hl 0 rfl) ?_
  refine lv_iload_n hx hb dX12_hat_1 rfl (lv_at hl 1 rfl) ?_
  refine lv_iload_n hx hb dX12_hat_2 rfl (lv_at hl 2 rfl) ?_
  obtain ⟨v1, hcall, hf⟩ := bd1_some hf
  refine m_cvi (As := [.int a1, .int a2]) (rest := []) hc hw hR (hml.trans hl.1.symm) (cm_isSeat l N S a1 a2 v1 hcall) mq_isSeat rfl (by decide) rfl rfl rfl (Nat.le_of_ble_eq_true rfl) dX12_hat_3 (fun H locs hw => ?_) ⟨Nat.zero_le _, Nat.zero_le _⟩
  refine lv_if_neb (tgt := 12) hx hb dX12_hat_6 (by decide) (fun cn6 => ?_) (fun cn6 => ?_)
  · have hf := (if_pos cn6).symm.trans hf
    refine lv_iload_n hx hb dX12_hat_12 rfl (lv_at hl 3 rfl) ?_
    refine lv_iconst (v := 0) hx hb dX12_hat_13 (by decide) ?_
    refine lv_bipush (v := 40) hx hb dX12_hat_14 (by decide) ?_
    refine m_csi (As := [.int a3, .int 0, .int 40]) (rest := []) hc hw hR (hml.trans hl.1.symm) (cm_in l S a3 0 40 _ rfl) mq_in (by decide) rfl rfl rfl (Nat.le_of_ble_eq_true rfl) dX12_hat_16 (fun H locs hw => ?_) ⟨Nat.zero_le _, Nat.zero_le _⟩
    refine lv_if_neb (tgt := 25) hx hb dX12_hat_19 (by decide) (fun cn7 => ?_) (fun cn7 => ?_)
    · have hf := (if_pos cn7).symm.trans hf
      refine lv_aload_n hx hb dX12_hat_25 rfl (lv_at hl 0 rfl) ?_
      obtain ⟨v2, S3, hcall, hf⟩ := bd2_some hf
      refine m_cvi (As := []) (rest := []) hc hw hR (hml.trans hl.1.symm) (cm_allWorth l N S v2 S3 hcall) mq_allWorth rfl (by decide) rfl rfl rfl (Nat.le_of_ble_eq_true rfl) dX12_hat_26 (fun H locs hw => ?_) ⟨Nat.zero_le _, Nat.zero_le _⟩
      refine lv_istore (lv' := [(4, .int v2), (0, .ref (mr g 0)), (1, .int a1), (2, .int a2), (3, .int a3)]) hx hb dX12_hat_29 hl (by decide) rfl (fun ls hl => ?_)
      refine lv_aload_n hx hb dX12_hat_31 rfl (lv_at hl 1 rfl) ?_
      refine lv_bipush (v := 8) hx hb dX12_hat_32 (by decide) ?_
      refine lv_iload_n hx hb dX12_hat_34 rfl (lv_at hl 2 rfl) ?_
      refine lv_imul hx hb dX12_hat_35 ?_
      refine lv_iload_n hx hb dX12_hat_36 rfl (lv_at hl 3 rfl) ?_
      refine lv_iadd hx hb dX12_hat_37 ?_
      refine m_p23 hc hw dX12_hat_38 (fun H locs hw => ?_)
      refine lv_aload_n hx hb dX12_hat_41 rfl (lv_at hl 1 rfl) ?_
      refine lv_iload_n hx hb dX12_hat_42 rfl (lv_at hl 4 rfl) ?_
      refine m_p24 hc hw dX12_hat_43 (fun H locs hw => ?_)
      refine lv_aload_n hx hb dX12_hat_46 rfl (lv_at hl 1 rfl) ?_
      obtain ⟨v4, S5, hcall, hf⟩ := bd2_some hf
      refine m_cvi (As := []) (rest := []) hc hw hR (hml.trans hl.1.symm) (cm_allWorth l N (ms (ms S3 23 0 ((8 * a1) + a2)) 24 0 a3) v4 S5 hcall) mq_allWorth rfl (by decide) rfl rfl rfl (Nat.le_of_ble_eq_true rfl) dX12_hat_47 (fun H locs hw => ?_) ⟨Nat.zero_le _, Nat.zero_le _⟩
      refine lv_istore (lv' := [(5, .int v4), (4, .int v2), (0, .ref (mr g 0)), (1, .int a1), (2, .int a2), (3, .int a3)]) hx hb dX12_hat_50 hl (by decide) rfl (fun ls hl => ?_)
      refine lv_aload_n hx hb dX12_hat_52 rfl (lv_at hl 2 rfl) ?_
      refine lv_iconst (v := (-1)) hx hb dX12_hat_53 (by decide) ?_
      refine m_p23 hc hw dX12_hat_54 (fun H locs hw => ?_)
      refine lv_iload hx hb dX12_hat_57 (lv_at hl 1 rfl) ?_
      refine lv_iload hx hb dX12_hat_59 (lv_at hl 0 rfl) ?_
      refine lv_isub hx hb dX12_hat_61 ?_
      cases hf
      exact hQ _ _ _ _ dX12_hat_62 hw
    · have hf := (if_neg cn7).symm.trans hf
      refine lv_bipush (v := (-7)) hx hb dX12_hat_22 (by decide) ?_
      cases hf
      exact hQ _ _ _ _ dX12_hat_24 hw
  · have hf := (if_neg cn6).symm.trans hf
    refine lv_bipush (v := (-5)) hx hb dX12_hat_9 (by decide) ?_
    cases hf
    exact hQ _ _ _ _ dX12_hat_11 hw
def mf_least_L32 (N : Nat) (c2 : Int32) (c3 : Int32) : Nat → mS → Int32 → Int32 → Int32 → Option (Int32 × mS)
  | 0, _, _, _, _ => none
  | n + 1, S7, v4, v5, v6 => (if 20 < v6 then some (v4, S7) else (if ok c2 4 then (bd2 (mf_allWorth N (ms S7 15 c2.toNatClampNeg v6)) fun v9 S10 => (if v9 ≤ v5 then mf_least_L32 N c2 c3 n S10 v4 v5 (v6 + 1) else mf_least_L32 N c2 c3 n S10 v6 v9 (v6 + 1))) else none))
set_option maxRecDepth 100000 in
theorem wm_least_L32 {p : Program} {l : Launch} {e : Env} {R : Room} {s : State} {m : MethodId} {args : Array Value} {below : List Frame} {meth : Method} {c : Code} {Q : State → Prop} {g : mG} {A : Nat → Prop} {H0 : Heap} (hc : qC RX12 cX12_least p s m args c) (hR : qRoom R 8) (hml : c.maxLocals = 7) (N : Nat) (c2 : Int32) (c3 : Int32) : ∀ (n : Nat) (S7 : mS) (v4 : Int32) (v5 : Int32) (v6 : Int32) (X : Int32 × mS) (H : Heap) (locs : List Loc) (ls : Array Slot), mf_least_L32 N c2 c3 n S7 v4 v5 v6 = some X → mI g A H0 s S7 H locs → lv_has ls 7 [(0, .ref (mr g 0)), (1, .int c2), (2, .int c3), (3, .int v4), (4, .int v5), (5, .int v6)] → (∀ (H : Heap) (locs : List Loc) (ls : Array Slot), mI g A H0 s X.2 H locs → lv_has ls 7 [(0, .ref (mr g 0)), (1, .int c2), (2, .int c3), (3, .int X.1)] → W p l e R s m args below meth c H locs 0 0 Q (F0 m 73 ls [])) → W p l e R s m args below meth c H locs 0 0 Q (F0 m 32 ls []) := by
  have hx := hc.1
  have hb := hc.2.1
  intro n
  induction n with
  | zero => intro _ _ _ _ X H locs ls hf; exact nomatch (show none = some X from hf)
  | succ n ih =>
    intro S7 v4 v5 v6 X H locs ls hf hw hl kx
    rw [mf_least_L32] at hf
    refine lv_iload hx hb dX12_least_32 (lv_at hl 5 rfl) ?_
    refine lv_bipush (v := 20) hx hb dX12_least_34 (by decide) ?_
    refine lv_icmp_gt (tgt := 73) hx hb dX12_least_36 (by decide) (fun cn14 => ?_) (fun cn14 => ?_)
    · have hf := (if_pos cn14).symm.trans hf
      cases hf
      exact kx _ _ _ hw (lv_sub hl [0, 1, 2, 3] rfl)
    · have hf := (if_neg cn14).symm.trans hf
      refine lv_aload_n hx hb dX12_least_39 rfl (lv_at hl 0 rfl) ?_
      refine m_g15 hc hw dX12_least_40 ?_
      refine lv_iload_n hx hb dX12_least_43 rfl (lv_at hl 1 rfl) ?_
      refine lv_iload hx hb dX12_least_44 (lv_at hl 5 rfl) ?_
      obtain ⟨hi8, hf⟩ := gd_some hf
      have hi8 := ok_in hi8
      refine m_s15 hc hw hi8 dX12_least_46 (fun H locs hw => ?_)
      refine lv_aload_n hx hb dX12_least_47 rfl (lv_at hl 0 rfl) ?_
      obtain ⟨v9, S10, hcall, hf⟩ := bd2_some hf
      refine m_cvi (As := []) (rest := []) hc hw hR (hml.trans hl.1.symm) (cm_allWorth l N (ms S7 15 c2.toNatClampNeg v6) v9 S10 hcall) mq_allWorth rfl (by decide) rfl rfl rfl (Nat.le_of_ble_eq_true rfl) dX12_least_48 (fun H locs hw => ?_) ⟨Nat.zero_le _, Nat.zero_le _⟩
      refine lv_istore (lv' := [(6, .int v9), (0, .ref (mr g 0)), (1, .int c2), (2, .int c3), (3, .int v4), (4, .int v5), (5, .int v6)]) hx hb dX12_least_51 hl (by decide) rfl (fun ls hl => ?_)
      refine lv_iload hx hb dX12_least_53 (lv_at hl 0 rfl) ?_
      refine lv_iload hx hb dX12_least_55 (lv_at hl 5 rfl) ?_
      refine lv_icmp_le (tgt := 67) hx hb dX12_least_57 (by decide) (fun cn15 => ?_) (fun cn15 => ?_)
      · have hf := (if_pos cn15).symm.trans hf
        refine lv_iinc (lv' := [(5, .int (v6 + 1)), (6, .int v9), (0, .ref (mr g 0)), (1, .int c2), (2, .int c3), (3, .int v4), (4, .int v5)]) hx hb dX12_least_67 hl (k := 6) rfl rfl (by decide) rfl (fun ls hl => ?_)
        refine lv_goto (tgt := 32) hx hb dX12_least_70 (by decide) ?_
        exact ih _ _ _ _ X _ _ _ hf hw (lv_sub hl [2, 3, 4, 5, 6, 0] rfl) kx
      · have hf := (if_neg cn15).symm.trans hf
        refine lv_iload hx hb dX12_least_60 (lv_at hl 6 rfl) ?_
        refine lv_istore_n (lv' := [(3, .int v6), (6, .int v9), (0, .ref (mr g 0)), (1, .int c2), (2, .int c3), (4, .int v5), (5, .int v6)]) hx hb dX12_least_62 rfl hl (by decide) rfl (fun ls hl => ?_)
        refine lv_iload hx hb dX12_least_63 (lv_at hl 1 rfl) ?_
        refine lv_istore (lv' := [(4, .int v9), (3, .int v6), (6, .int v9), (0, .ref (mr g 0)), (1, .int c2), (2, .int c3), (5, .int v6)]) hx hb dX12_least_65 hl (by decide) rfl (fun ls hl => ?_)
        refine lv_iinc (lv' := [(5, .int (v6 + 1)), (4, .int v9), (3, .int v6), (6, .int v9), (0, .ref (mr g 0)), (1, .int c2), (2, .int c3)]) hx hb dX12_least_67 hl (k := 6) rfl rfl (by decide) rfl (fun ls hl => ?_)
        refine lv_goto (tgt := 32) hx hb dX12_least_70 (by decide) ?_
        exact ih _ _ _ _ X _ _ _ hf hw (lv_sub hl [4, 5, 6, 2, 1, 0] rfl) kx
def mf_least (N : Nat) (S : mS) (a1 : Int32) : Option (Int32 × mS) := (if (mf_in a1 0 ((S.1 14 0) - 1)) = true then (if ok a1 4 then (bd2 (mf_least_L32 N a1 (S.1 15 a1.toNatClampNeg) N S 0 (-1) 0) fun v11 S12 => some (v11, ms S12 15 a1.toNatClampNeg (S.1 15 a1.toNatClampNeg))) else none) else some ((-5), S))
set_option maxRecDepth 100000 in
theorem cm_least (l : Launch) (N : Nat) (S : mS) (a1 : Int32) (res : Int32) (S1 : mS) (hf : mf_least N S a1 = some (res, S1)) : mMi l yX12_least cX12_least 7 .int 8 (fun g => [.ref (mr g 0), .int a1]) S res S1 := by
  refine mMi_of (own := RX12) (by decide) rfl rfl (fun g => Nat.le_of_ble_eq_true rfl) ?_
  intro p e R s m args below meth c Q g A H0 H locs ls hc hR hml hw hl hQ
  have hl : lv_has ls 7 [(0, .ref (mr g 0)), (1, .int a1)] := hl
  have hx := hc.1
  have hb := hc.2.1
  unfold mf_least at hf
  refine lv_iload_n hx hb dX12_least_0 rfl (lv_at hl 1 rfl) ?_
  refine lv_iconst (v := 0) hx hb dX12_least_1 (by decide) ?_
  refine lv_aload_n hx hb dX12_least_2 rfl (lv_at hl 0 rfl) ?_
  refine m_g14 hc hw dX12_least_3 ?_
  refine lv_iconst (v := 1) hx hb dX12_least_6 (by decide) ?_
  refine lv_isub hx hb dX12_least_7 ?_
  refine m_csi (As := [.int a1, .int 0, .int ((S.1 14 0) - 1)]) (rest := []) hc hw hR (hml.trans hl.1.symm) (cm_in l S a1 0 ((S.1 14 0) - 1) _ rfl) mq_in (by decide) rfl rfl rfl (Nat.le_of_ble_eq_true rfl) dX12_least_8 (fun H locs hw => ?_) ⟨Nat.zero_le _, Nat.zero_le _⟩
  refine lv_if_neb (tgt := 17) hx hb dX12_least_11 (by decide) (fun cn13 => ?_) (fun cn13 => ?_)
  · have hf := (if_pos cn13).symm.trans hf
    refine lv_aload_n hx hb dX12_least_17 rfl (lv_at hl 0 rfl) ?_
    refine m_g15 hc hw dX12_least_18 ?_
    refine lv_iload_n hx hb dX12_least_21 rfl (lv_at hl 1 rfl) ?_
    obtain ⟨hi1, hf⟩ := gd_some hf
    have hi1 := ok_in hi1
    refine m_l15 hc hw hi1 dX12_least_22 ?_
    refine lv_istore_n (lv' := [(2, .int (S.1 15 a1.toNatClampNeg)), (0, .ref (mr g 0)), (1, .int a1)]) hx hb dX12_least_23 rfl hl (by decide) rfl (fun ls hl => ?_)
    refine lv_iconst (v := 0) hx hb dX12_least_24 (by decide) ?_
    refine lv_istore_n (lv' := [(3, .int 0), (2, .int (S.1 15 a1.toNatClampNeg)), (0, .ref (mr g 0)), (1, .int a1)]) hx hb dX12_least_25 rfl hl (by decide) rfl (fun ls hl => ?_)
    refine lv_iconst (v := (-1)) hx hb dX12_least_26 (by decide) ?_
    refine lv_istore (lv' := [(4, .int (-1)), (3, .int 0), (2, .int (S.1 15 a1.toNatClampNeg)), (0, .ref (mr g 0)), (1, .int a1)]) hx hb dX12_least_27 hl (by decide) rfl (fun ls hl => ?_)
    refine lv_iconst (v := 0) hx hb dX12_least_29 (by decide) ?_
    refine lv_istore (lv' := [(5, .int 0), (4, .int (-1)), (3, .int 0), (2, .int (S.1 15 a1.toNatClampNeg)), (0, .ref (mr g 0)), (1, .int a1)]) hx hb dX12_least_30 hl (by decide) rfl (fun ls hl => ?_)
    obtain ⟨v11, S12, hX, hf⟩ := bd2_some hf
    refine wm_least_L32 hc hR hml N a1 (S.1 15 a1.toNatClampNeg) N _ _ _ _ _ _ _ _ hX hw (lv_sub hl [4, 5, 3, 2, 1, 0] rfl) (fun H locs ls hw hl => ?_)
    refine lv_aload_n hx hb dX12_least_73 rfl (lv_at hl 0 rfl) ?_
    refine m_g15 hc hw dX12_least_74 ?_
    refine lv_iload_n hx hb dX12_least_77 rfl (lv_at hl 1 rfl) ?_
    refine lv_iload_n hx hb dX12_least_78 rfl (lv_at hl 2 rfl) ?_
    refine m_s15 hc hw hi1 dX12_least_79 (fun H locs hw => ?_)
    refine lv_iload_n hx hb dX12_least_80 rfl (lv_at hl 3 rfl) ?_
    cases hf
    exact hQ _ _ _ _ dX12_least_81 hw
  · have hf := (if_neg cn13).symm.trans hf
    refine lv_bipush (v := (-5)) hx hb dX12_least_14 (by decide) ?_
    cases hf
    exact hQ _ _ _ _ dX12_least_16 hw
def mf_sell_L14 (N : Nat) (c1 : Int32) : Nat → mS → Int32 → Option (mS)
  | 0, _, _ => none
  | n + 1, S3, v2 => (if 1001 ≤ v2 then some S3 else (if ok v2 1001 then mf_sell_L14 N c1 n (ms S3 58 v2.toNatClampNeg 0) (v2 + 1) else none))
set_option maxRecDepth 100000 in
theorem wm_sell_L14 {p : Program} {l : Launch} {e : Env} {R : Room} {s : State} {m : MethodId} {args : Array Value} {below : List Frame} {meth : Method} {c : Code} {Q : State → Prop} {g : mG} {A : Nat → Prop} {H0 : Heap} (hc : qC RX12 cX12_sell p s m args c) (hR : qRoom R 8) (hml : c.maxLocals = 6) (N : Nat) (c1 : Int32) : ∀ (n : Nat) (S3 : mS) (v2 : Int32) (X : mS) (H : Heap) (locs : List Loc) (ls : Array Slot), mf_sell_L14 N c1 n S3 v2 = some X → mI g A H0 s S3 H locs → lv_has ls 6 [(0, .ref (mr g 0)), (1, .int c1), (2, .int v2)] → (∀ (H : Heap) (locs : List Loc) (ls : Array Slot), mI g A H0 s X H locs → lv_has ls 6 [(0, .ref (mr g 0)), (1, .int c1)] → W p l e R s m args below meth c H locs 0 0 Q (F0 m 34 ls [])) → W p l e R s m args below meth c H locs 0 0 Q (F0 m 14 ls []) := by
  have hx := hc.1
  have hb := hc.2.1
  intro n
  induction n with
  | zero => intro _ _ X H locs ls hf; exact nomatch (show none = some X from hf)
  | succ n ih =>
    intro S3 v2 X H locs ls hf hw hl kx
    rw [mf_sell_L14] at hf
    refine lv_iload_n hx hb dX12_sell_14 rfl (lv_at hl 2 rfl) ?_
    refine lv_sipush (v := 1001) hx hb dX12_sell_15 (by decide) ?_
    refine lv_icmp_ge (tgt := 34) hx hb dX12_sell_18 (by decide) (fun cn29 => ?_) (fun cn29 => ?_)
    · have hf := (if_pos cn29).symm.trans hf
      cases hf
      exact kx _ _ _ hw (lv_sub hl [0, 1] rfl)
    · have hf := (if_neg cn29).symm.trans hf
      refine lv_aload_n hx hb dX12_sell_21 rfl (lv_at hl 0 rfl) ?_
      refine m_g58 hc hw dX12_sell_22 ?_
      refine lv_iload_n hx hb dX12_sell_25 rfl (lv_at hl 2 rfl) ?_
      refine lv_iconst (v := 0) hx hb dX12_sell_26 (by decide) ?_
      obtain ⟨hi4, hf⟩ := gd_some hf
      have hi4 := ok_in hi4
      refine m_s58 hc hw hi4 dX12_sell_27 (fun H locs hw => ?_)
      refine lv_iinc (lv' := [(2, .int (v2 + 1)), (0, .ref (mr g 0)), (1, .int c1)]) hx hb dX12_sell_28 hl (k := 2) rfl rfl (by decide) rfl (fun ls hl => ?_)
      refine lv_goto (tgt := 14) hx hb dX12_sell_31 (by decide) ?_
      exact ih _ _ X _ _ _ hf hw (lv_sub hl [1, 2, 0] rfl) kx
def mf_sell_L46 (N : Nat) (c9 : Int32) (c10 : Int32) : Nat → mS → Int32 → Option (mS)
  | 0, _, _ => none
  | n + 1, S12, v11 => (if ok c10 6 then (if (S12.1 5 c10.toNatClampNeg) ≤ v11 then some S12 else (bd2 (mf_priceOf N S12 c10 v11) fun v14 S15 => (if ok v14 1001 then mf_sell_L46 N c9 c10 n (ms S15 58 v14.toNatClampNeg ((S15.1 58 v14.toNatClampNeg) + 1)) (v11 + 1) else none))) else none)
set_option maxRecDepth 100000 in
theorem wm_sell_L46 {p : Program} {l : Launch} {e : Env} {R : Room} {s : State} {m : MethodId} {args : Array Value} {below : List Frame} {meth : Method} {c : Code} {Q : State → Prop} {g : mG} {A : Nat → Prop} {H0 : Heap} (hc : qC RX12 cX12_sell p s m args c) (hR : qRoom R 8) (hml : c.maxLocals = 6) (N : Nat) (c9 : Int32) (c10 : Int32) : ∀ (n : Nat) (S12 : mS) (v11 : Int32) (X : mS) (H : Heap) (locs : List Loc) (ls : Array Slot), mf_sell_L46 N c9 c10 n S12 v11 = some X → mI g A H0 s S12 H locs → lv_has ls 6 [(0, .ref (mr g 0)), (1, .int c9), (2, .int c10), (3, .int v11)] → (∀ (H : Heap) (locs : List Loc) (ls : Array Slot), mI g A H0 s X H locs → lv_has ls 6 [(0, .ref (mr g 0)), (1, .int c9), (2, .int c10)] → W p l e R s m args below meth c H locs 0 0 Q (F0 m 77 ls [])) → W p l e R s m args below meth c H locs 0 0 Q (F0 m 46 ls []) := by
  have hx := hc.1
  have hb := hc.2.1
  intro n
  induction n with
  | zero => intro _ _ X H locs ls hf; exact nomatch (show none = some X from hf)
  | succ n ih =>
    intro S12 v11 X H locs ls hf hw hl kx
    rw [mf_sell_L46] at hf
    refine lv_iload_n hx hb dX12_sell_46 rfl (lv_at hl 3 rfl) ?_
    refine lv_aload_n hx hb dX12_sell_47 rfl (lv_at hl 0 rfl) ?_
    refine m_g5 hc hw dX12_sell_48 ?_
    refine lv_iload_n hx hb dX12_sell_51 rfl (lv_at hl 2 rfl) ?_
    obtain ⟨hi13, hf⟩ := gd_some hf
    have hi13 := ok_in hi13
    refine m_l5 hc hw hi13 dX12_sell_52 ?_
    refine lv_icmp_ge (tgt := 77) hx hb dX12_sell_53 (by decide) (fun cn32 => ?_) (fun cn32 => ?_)
    · have hf := (if_pos cn32).symm.trans hf
      cases hf
      exact kx _ _ _ hw (lv_sub hl [0, 1, 2] rfl)
    · have hf := (if_neg cn32).symm.trans hf
      refine lv_aload_n hx hb dX12_sell_56 rfl (lv_at hl 0 rfl) ?_
      refine m_g58 hc hw dX12_sell_57 ?_
      refine lv_aload_n hx hb dX12_sell_60 rfl (lv_at hl 0 rfl) ?_
      refine lv_iload_n hx hb dX12_sell_61 rfl (lv_at hl 2 rfl) ?_
      refine lv_iload_n hx hb dX12_sell_62 rfl (lv_at hl 3 rfl) ?_
      obtain ⟨v14, S15, hcall, hf⟩ := bd2_some hf
      refine m_cvi (As := [.int c10, .int v11]) (rest := [.ref (mr g 59)]) hc hw hR (hml.trans hl.1.symm) (cm_priceOf l N S12 c10 v11 v14 S15 hcall) mq_priceOf rfl (by decide) rfl rfl rfl (Nat.le_of_ble_eq_true rfl) dX12_sell_63 (fun H locs hw => ?_) ⟨Nat.zero_le _, Nat.zero_le _⟩
      refine lv_dup2_11 hx hb dX12_sell_66 rfl rfl ?_
      obtain ⟨hi16, hf⟩ := gd_some hf
      have hi16 := ok_in hi16
      refine m_l58 hc hw hi16 dX12_sell_67 ?_
      refine lv_iconst (v := 1) hx hb dX12_sell_68 (by decide) ?_
      refine lv_iadd hx hb dX12_sell_69 ?_
      refine m_s58 hc hw hi16 dX12_sell_70 (fun H locs hw => ?_)
      refine lv_iinc (lv' := [(3, .int (v11 + 1)), (0, .ref (mr g 0)), (1, .int c9), (2, .int c10)]) hx hb dX12_sell_71 hl (k := 3) rfl rfl (by decide) rfl (fun ls hl => ?_)
      refine lv_goto (tgt := 46) hx hb dX12_sell_74 (by decide) ?_
      exact ih _ _ X _ _ _ hf hw (lv_sub hl [1, 2, 3, 0] rfl) kx
def mf_sell_L36 (N : Nat) (c6 : Int32) : Nat → mS → Int32 → Option (mS)
  | 0, _, _ => none
  | n + 1, S8, v7 => (if (S8.1 3 0) ≤ v7 then some S8 else (bd1 (mf_sell_L46 N c6 v7 N S8 0) fun S17 => mf_sell_L36 N c6 n S17 (v7 + 1)))
set_option maxRecDepth 100000 in
theorem wm_sell_L36 {p : Program} {l : Launch} {e : Env} {R : Room} {s : State} {m : MethodId} {args : Array Value} {below : List Frame} {meth : Method} {c : Code} {Q : State → Prop} {g : mG} {A : Nat → Prop} {H0 : Heap} (hc : qC RX12 cX12_sell p s m args c) (hR : qRoom R 8) (hml : c.maxLocals = 6) (N : Nat) (c6 : Int32) : ∀ (n : Nat) (S8 : mS) (v7 : Int32) (X : mS) (H : Heap) (locs : List Loc) (ls : Array Slot), mf_sell_L36 N c6 n S8 v7 = some X → mI g A H0 s S8 H locs → lv_has ls 6 [(0, .ref (mr g 0)), (1, .int c6), (2, .int v7)] → (∀ (H : Heap) (locs : List Loc) (ls : Array Slot), mI g A H0 s X H locs → lv_has ls 6 [(0, .ref (mr g 0)), (1, .int c6)] → W p l e R s m args below meth c H locs 0 0 Q (F0 m 83 ls [])) → W p l e R s m args below meth c H locs 0 0 Q (F0 m 36 ls []) := by
  have hx := hc.1
  have hb := hc.2.1
  intro n
  induction n with
  | zero => intro _ _ X H locs ls hf; exact nomatch (show none = some X from hf)
  | succ n ih =>
    intro S8 v7 X H locs ls hf hw hl kx
    rw [mf_sell_L36] at hf
    refine lv_iload_n hx hb dX12_sell_36 rfl (lv_at hl 2 rfl) ?_
    refine lv_aload_n hx hb dX12_sell_37 rfl (lv_at hl 0 rfl) ?_
    refine m_g3 hc hw dX12_sell_38 ?_
    refine lv_icmp_ge (tgt := 83) hx hb dX12_sell_41 (by decide) (fun cn31 => ?_) (fun cn31 => ?_)
    · have hf := (if_pos cn31).symm.trans hf
      cases hf
      exact kx _ _ _ hw (lv_sub hl [0, 1] rfl)
    · have hf := (if_neg cn31).symm.trans hf
      refine lv_iconst (v := 0) hx hb dX12_sell_44 (by decide) ?_
      refine lv_istore_n (lv' := [(3, .int 0), (0, .ref (mr g 0)), (1, .int c6), (2, .int v7)]) hx hb dX12_sell_45 rfl hl (by decide) rfl (fun ls hl => ?_)
      obtain ⟨S17, hX, hf⟩ := bd1_some hf
      refine wm_sell_L46 hc hR hml N c6 v7 N _ _ _ _ _ _ hX hw (lv_sub hl [1, 2, 3, 0] rfl) (fun H locs ls hw hl => ?_)
      refine lv_iinc (lv' := [(2, .int (v7 + 1)), (0, .ref (mr g 0)), (1, .int c6)]) hx hb dX12_sell_77 hl (k := 2) rfl rfl (by decide) rfl (fun ls hl => ?_)
      refine lv_goto (tgt := 36) hx hb dX12_sell_80 (by decide) ?_
      exact ih _ _ X _ _ _ hf hw (lv_sub hl [1, 2, 0] rfl) kx
def mf_sell_L95 (N : Nat) (c19 : Int32) : Nat → mS → Int32 → Int32 → Int32 → Int32 → Option (Int32 × Int32)
  | 0, _, _, _, _, _ => none
  | n + 1, S24, v20, v21, v22, v23 => (if v23 ≤ 0 then some (v20, v21) else (if ok v23 1001 then (if (v22 + (S24.1 58 v23.toNatClampNeg)) ≤ 0 then mf_sell_L95 N c19 n S24 v20 v21 (v22 + (S24.1 58 v23.toNatClampNeg)) (v23 + (-1)) else (if (v23 * (v22 + (S24.1 58 v23.toNatClampNeg))) < v21 then mf_sell_L95 N c19 n S24 v20 v21 (v22 + (S24.1 58 v23.toNatClampNeg)) (v23 + (-1)) else mf_sell_L95 N c19 n S24 v23 (v23 * (v22 + (S24.1 58 v23.toNatClampNeg))) (v22 + (S24.1 58 v23.toNatClampNeg)) (v23 + (-1)))) else none))
set_option maxRecDepth 100000 in
theorem wm_sell_L95 {p : Program} {l : Launch} {e : Env} {R : Room} {s : State} {m : MethodId} {args : Array Value} {below : List Frame} {meth : Method} {c : Code} {Q : State → Prop} {g : mG} {A : Nat → Prop} {H0 : Heap} (hc : qC RX12 cX12_sell p s m args c) (hR : qRoom R 8) (hml : c.maxLocals = 6) (N : Nat) (c19 : Int32) : ∀ (n : Nat) (S24 : mS) (v20 : Int32) (v21 : Int32) (v22 : Int32) (v23 : Int32) (X : Int32 × Int32) (H : Heap) (locs : List Loc) (ls : Array Slot), mf_sell_L95 N c19 n S24 v20 v21 v22 v23 = some X → mI g A H0 s S24 H locs → lv_has ls 6 [(0, .ref (mr g 0)), (1, .int c19), (2, .int v20), (3, .int v21), (4, .int v22), (5, .int v23)] → (∀ (H : Heap) (locs : List Loc) (ls : Array Slot), mI g A H0 s S24 H locs → lv_has ls 6 [(1, .int c19), (2, .int X.1), (3, .int X.2)] → W p l e R s m args below meth c H locs 0 0 Q (F0 m 141 ls [])) → W p l e R s m args below meth c H locs 0 0 Q (F0 m 95 ls []) := by
  have hx := hc.1
  have hb := hc.2.1
  intro n
  induction n with
  | zero => intro _ _ _ _ _ X H locs ls hf; exact nomatch (show none = some X from hf)
  | succ n ih =>
    intro S24 v20 v21 v22 v23 X H locs ls hf hw hl kx
    rw [mf_sell_L95] at hf
    refine lv_iload hx hb dX12_sell_95 (lv_at hl 5 rfl) ?_
    refine lv_if_le (tgt := 141) hx hb dX12_sell_97 (by decide) (fun cn35 => ?_) (fun cn35 => ?_)
    · have hf := (if_pos cn35).symm.trans hf
      cases hf
      exact kx _ _ _ hw (lv_sub hl [1, 2, 3] rfl)
    · have hf := (if_neg cn35).symm.trans hf
      refine lv_iload hx hb dX12_sell_100 (lv_at hl 4 rfl) ?_
      refine lv_aload_n hx hb dX12_sell_102 rfl (lv_at hl 0 rfl) ?_
      refine m_g58 hc hw dX12_sell_103 ?_
      refine lv_iload hx hb dX12_sell_106 (lv_at hl 5 rfl) ?_
      obtain ⟨hi25, hf⟩ := gd_some hf
      have hi25 := ok_in hi25
      refine m_l58 hc hw hi25 dX12_sell_108 ?_
      refine lv_iadd hx hb dX12_sell_109 ?_
      refine lv_istore (lv' := [(4, .int (v22 + (S24.1 58 v23.toNatClampNeg))), (0, .ref (mr g 0)), (1, .int c19), (2, .int v20), (3, .int v21), (5, .int v23)]) hx hb dX12_sell_110 hl (by decide) rfl (fun ls hl => ?_)
      refine lv_iload hx hb dX12_sell_112 (lv_at hl 0 rfl) ?_
      refine lv_if_le (tgt := 135) hx hb dX12_sell_114 (by decide) (fun cn36 => ?_) (fun cn36 => ?_)
      · have hf := (if_pos cn36).symm.trans hf
        refine lv_iinc (lv' := [(5, .int (v23 + (-1))), (4, .int (v22 + (S24.1 58 v23.toNatClampNeg))), (0, .ref (mr g 0)), (1, .int c19), (2, .int v20), (3, .int v21)]) hx hb dX12_sell_135 hl (k := 5) rfl rfl (by decide) rfl (fun ls hl => ?_)
        refine lv_goto (tgt := 95) hx hb dX12_sell_138 (by decide) ?_
        exact ih _ _ _ _ _ X _ _ _ hf hw (lv_sub hl [2, 3, 4, 5, 1, 0] rfl) kx
      · have hf := (if_neg cn36).symm.trans hf
        refine lv_iload hx hb dX12_sell_117 (lv_at hl 5 rfl) ?_
        refine lv_iload hx hb dX12_sell_119 (lv_at hl 0 rfl) ?_
        refine lv_imul hx hb dX12_sell_121 ?_
        refine lv_iload_n hx hb dX12_sell_122 rfl (lv_at hl 4 rfl) ?_
        refine lv_icmp_lt (tgt := 135) hx hb dX12_sell_123 (by decide) (fun cn37 => ?_) (fun cn37 => ?_)
        · have hf := (if_pos cn37).symm.trans hf
          refine lv_iinc (lv' := [(5, .int (v23 + (-1))), (4, .int (v22 + (S24.1 58 v23.toNatClampNeg))), (0, .ref (mr g 0)), (1, .int c19), (2, .int v20), (3, .int v21)]) hx hb dX12_sell_135 hl (k := 5) rfl rfl (by decide) rfl (fun ls hl => ?_)
          refine lv_goto (tgt := 95) hx hb dX12_sell_138 (by decide) ?_
          exact ih _ _ _ _ _ X _ _ _ hf hw (lv_sub hl [2, 3, 4, 5, 1, 0] rfl) kx
        · have hf := (if_neg cn37).symm.trans hf
          refine lv_iload hx hb dX12_sell_126 (lv_at hl 5 rfl) ?_
          refine lv_istore_n (lv' := [(2, .int v23), (4, .int (v22 + (S24.1 58 v23.toNatClampNeg))), (0, .ref (mr g 0)), (1, .int c19), (3, .int v21), (5, .int v23)]) hx hb dX12_sell_128 rfl hl (by decide) rfl (fun ls hl => ?_)
          refine lv_iload hx hb dX12_sell_129 (lv_at hl 5 rfl) ?_
          refine lv_iload hx hb dX12_sell_131 (lv_at hl 1 rfl) ?_
          refine lv_imul hx hb dX12_sell_133 ?_
          refine lv_istore_n (lv' := [(3, .int (v23 * (v22 + (S24.1 58 v23.toNatClampNeg)))), (2, .int v23), (4, .int (v22 + (S24.1 58 v23.toNatClampNeg))), (0, .ref (mr g 0)), (1, .int c19), (5, .int v23)]) hx hb dX12_sell_134 rfl hl (by decide) rfl (fun ls hl => ?_)
          refine lv_iinc (lv' := [(5, .int (v23 + (-1))), (3, .int (v23 * (v22 + (S24.1 58 v23.toNatClampNeg)))), (2, .int v23), (4, .int (v22 + (S24.1 58 v23.toNatClampNeg))), (0, .ref (mr g 0)), (1, .int c19)]) hx hb dX12_sell_135 hl (k := 5) rfl rfl (by decide) rfl (fun ls hl => ?_)
          refine lv_goto (tgt := 95) hx hb dX12_sell_138 (by decide) ?_
          exact ih _ _ _ _ _ X _ _ _ hf hw (lv_sub hl [4, 5, 2, 1, 3, 0] rfl) kx
def mf_sell (N : Nat) (S : mS) (a1 : Int32) : Option (Int32 × mS) := (if (mf_in a1 0 1) = true then (bd1 (mf_sell_L14 N a1 N S 0) fun S5 => (bd1 (mf_sell_L36 N a1 N S5 0) fun S18 => (bd2 (mf_sell_L95 N a1 N S18 0 0 0 999) fun v26 v27 => (if a1 = 0 then some (v26, S18) else some (v27, S18))))) else some ((-2), S))
set_option maxRecDepth 100000 in
theorem cm_sell (l : Launch) (N : Nat) (S : mS) (a1 : Int32) (res : Int32) (S1 : mS) (hf : mf_sell N S a1 = some (res, S1)) : mMi l yX12_sell cX12_sell 6 .int 8 (fun g => [.ref (mr g 0), .int a1]) S res S1 := by
  refine mMi_of (own := RX12) (by decide) rfl rfl (fun g => Nat.le_of_ble_eq_true rfl) ?_
  intro p e R s m args below meth c Q g A H0 H locs ls hc hR hml hw hl hQ
  have hl : lv_has ls 6 [(0, .ref (mr g 0)), (1, .int a1)] := hl
  have hx := hc.1
  have hb := hc.2.1
  unfold mf_sell at hf
  refine lv_iload_n hx hb dX12_sell_0 rfl (lv_at hl 1 rfl) ?_
  refine lv_iconst (v := 0) hx hb dX12_sell_1 (by decide) ?_
  refine lv_iconst (v := 1) hx hb dX12_sell_2 (by decide) ?_
  refine m_csi (As := [.int a1, .int 0, .int 1]) (rest := []) hc hw hR (hml.trans hl.1.symm) (cm_in l S a1 0 1 _ rfl) mq_in (by decide) rfl rfl rfl (Nat.le_of_ble_eq_true rfl) dX12_sell_3 (fun H locs hw => ?_) ⟨Nat.zero_le _, Nat.zero_le _⟩
  refine lv_if_neb (tgt := 12) hx hb dX12_sell_6 (by decide) (fun cn28 => ?_) (fun cn28 => ?_)
  · have hf := (if_pos cn28).symm.trans hf
    refine lv_iconst (v := 0) hx hb dX12_sell_12 (by decide) ?_
    refine lv_istore_n (lv' := [(2, .int 0), (0, .ref (mr g 0)), (1, .int a1)]) hx hb dX12_sell_13 rfl hl (by decide) rfl (fun ls hl => ?_)
    obtain ⟨S5, hX, hf⟩ := bd1_some hf
    refine wm_sell_L14 hc hR hml N a1 N _ _ _ _ _ _ hX hw (lv_sub hl [1, 2, 0] rfl) (fun H locs ls hw hl => ?_)
    refine lv_iconst (v := 0) hx hb dX12_sell_34 (by decide) ?_
    refine lv_istore_n (lv' := [(2, .int 0), (0, .ref (mr g 0)), (1, .int a1)]) hx hb dX12_sell_35 rfl hl (by decide) rfl (fun ls hl => ?_)
    obtain ⟨S18, hX, hf⟩ := bd1_some hf
    refine wm_sell_L36 hc hR hml N a1 N _ _ _ _ _ _ hX hw (lv_sub hl [1, 2, 0] rfl) (fun H locs ls hw hl => ?_)
    refine lv_iconst (v := 0) hx hb dX12_sell_83 (by decide) ?_
    refine lv_istore_n (lv' := [(2, .int 0), (0, .ref (mr g 0)), (1, .int a1)]) hx hb dX12_sell_84 rfl hl (by decide) rfl (fun ls hl => ?_)
    refine lv_iconst (v := 0) hx hb dX12_sell_85 (by decide) ?_
    refine lv_istore_n (lv' := [(3, .int 0), (2, .int 0), (0, .ref (mr g 0)), (1, .int a1)]) hx hb dX12_sell_86 rfl hl (by decide) rfl (fun ls hl => ?_)
    refine lv_iconst (v := 0) hx hb dX12_sell_87 (by decide) ?_
    refine lv_istore (lv' := [(4, .int 0), (3, .int 0), (2, .int 0), (0, .ref (mr g 0)), (1, .int a1)]) hx hb dX12_sell_88 hl (by decide) rfl (fun ls hl => ?_)
    refine lv_sipush (v := 999) hx hb dX12_sell_90 (by decide) ?_
    refine lv_istore (lv' := [(5, .int 999), (4, .int 0), (3, .int 0), (2, .int 0), (0, .ref (mr g 0)), (1, .int a1)]) hx hb dX12_sell_93 hl (by decide) rfl (fun ls hl => ?_)
    obtain ⟨v26, v27, hX, hf⟩ := bd2_some hf
    refine wm_sell_L95 hc hR hml N a1 N _ _ _ _ _ _ _ _ _ hX hw (lv_sub hl [4, 5, 3, 2, 1, 0] rfl) (fun H locs ls hw hl => ?_)
    refine lv_iload_n hx hb dX12_sell_141 rfl (lv_at hl 0 rfl) ?_
    refine lv_if_ne (tgt := 149) hx hb dX12_sell_142 (by decide) (fun cn40 => ?_) (fun cn40 => ?_)
    · have hf := (if_neg cn40).symm.trans hf
      refine lv_iload_n hx hb dX12_sell_149 rfl (lv_at hl 2 rfl) ?_
      cases hf
      exact hQ _ _ _ _ dX12_sell_150 hw
    · have hf := (if_pos cn40).symm.trans hf
      refine lv_iload_n hx hb dX12_sell_145 rfl (lv_at hl 1 rfl) ?_
      refine lv_goto (tgt := 150) hx hb dX12_sell_146 (by decide) ?_
      cases hf
      exact hQ _ _ _ _ dX12_sell_150 hw
  · have hf := (if_neg cn28).symm.trans hf
    refine lv_bipush (v := (-2)) hx hb dX12_sell_9 (by decide) ?_
    cases hf
    exact hQ _ _ _ _ dX12_sell_11 hw
def mf_needs (N : Nat) (S : mS) (a1 : Int32) : Option (Int32 × mS) := (if (mf_isRow S a1) = true then (bd1 (mf_keepsRises N S) fun S1 => (bd2 (mf_raises N S1 a1 0) fun v2 S3 => (bd1 (mf_laysRises N S3) fun S4 => some (v2, S4)))) else some ((-5), S))
set_option maxRecDepth 100000 in
theorem cm_needs (l : Launch) (N : Nat) (S : mS) (a1 : Int32) (res : Int32) (S1 : mS) (hf : mf_needs N S a1 = some (res, S1)) : mMi l yX12_needs cX12_needs 3 .int 9 (fun g => [.ref (mr g 0), .int a1]) S res S1 := by
  refine mMi_of (own := RX12) (by decide) rfl rfl (fun g => Nat.le_of_ble_eq_true rfl) ?_
  intro p e R s m args below meth c Q g A H0 H locs ls hc hR hml hw hl hQ
  have hl : lv_has ls 3 [(0, .ref (mr g 0)), (1, .int a1)] := hl
  have hx := hc.1
  have hb := hc.2.1
  unfold mf_needs at hf
  refine lv_aload_n hx hb dX12_needs_0 rfl (lv_at hl 0 rfl) ?_
  refine lv_iload_n hx hb dX12_needs_1 rfl (lv_at hl 1 rfl) ?_
  refine m_cvi (As := [.int a1]) (rest := []) hc hw hR (hml.trans hl.1.symm) (cm_isRow l S a1 _ rfl) mq_isRow rfl (by decide) rfl rfl rfl (Nat.le_of_ble_eq_true rfl) dX12_needs_2 (fun H locs hw => ?_) ⟨Nat.zero_le _, Nat.zero_le _⟩
  refine lv_if_neb (tgt := 11) hx hb dX12_needs_5 (by decide) (fun cn5 => ?_) (fun cn5 => ?_)
  · have hf := (if_pos cn5).symm.trans hf
    refine lv_aload_n hx hb dX12_needs_11 rfl (lv_at hl 0 rfl) ?_
    obtain ⟨S1, hcall, hf⟩ := bd1_some hf
    refine m_cvv (As := []) (rest := []) hc hw hR (hml.trans hl.1.symm) (cm_keepsRises l N S S1 hcall) mq_keepsRises rfl (by decide) rfl rfl rfl (Nat.le_of_ble_eq_true rfl) dX12_needs_12 (fun H locs hw => ?_) ⟨Nat.zero_le _, Nat.zero_le _⟩
    refine lv_aload_n hx hb dX12_needs_15 rfl (lv_at hl 0 rfl) ?_
    refine lv_iload_n hx hb dX12_needs_16 rfl (lv_at hl 1 rfl) ?_
    refine lv_iconst (v := 0) hx hb dX12_needs_17 (by decide) ?_
    obtain ⟨v2, S3, hcall, hf⟩ := bd2_some hf
    refine m_cvi (As := [.int a1, .int 0]) (rest := []) hc hw hR (hml.trans hl.1.symm) (cm_raises l N S1 a1 0 v2 S3 hcall) mq_raises rfl (by decide) rfl rfl rfl (Nat.le_of_ble_eq_true rfl) dX12_needs_18 (fun H locs hw => ?_) ⟨Nat.zero_le _, Nat.zero_le _⟩
    refine lv_istore_n (lv' := [(2, .int v2), (0, .ref (mr g 0)), (1, .int a1)]) hx hb dX12_needs_21 rfl hl (by decide) rfl (fun ls hl => ?_)
    refine lv_aload_n hx hb dX12_needs_22 rfl (lv_at hl 1 rfl) ?_
    obtain ⟨S4, hcall, hf⟩ := bd1_some hf
    refine m_cvv (As := []) (rest := []) hc hw hR (hml.trans hl.1.symm) (cm_laysRises l N S3 S4 hcall) mq_laysRises rfl (by decide) rfl rfl rfl (Nat.le_of_ble_eq_true rfl) dX12_needs_23 (fun H locs hw => ?_) ⟨Nat.zero_le _, Nat.zero_le _⟩
    refine lv_iload_n hx hb dX12_needs_26 rfl (lv_at hl 0 rfl) ?_
    cases hf
    exact hQ _ _ _ _ dX12_needs_27 hw
  · have hf := (if_neg cn5).symm.trans hf
    refine lv_bipush (v := (-5)) hx hb dX12_needs_8 (by decide) ?_
    cases hf
    exact hQ _ _ _ _ dX12_needs_10 hw
def mf_proof_L19 (N : Nat) (c2 : Int32) : Nat → mS → Int32 → Int32 → Option (Int32 × mS)
  | 0, _, _, _ => none
  | n + 1, S5, v3, v4 => (if c2 < v4 then some (v3, S5) else (if v3 = (-1) then some (v3, S5) else (bd2 (mf_raises N S5 v4 v3) fun v6 S7 => mf_proof_L19 N c2 n S7 v6 (v4 + 1))))
set_option maxRecDepth 100000 in
theorem wm_proof_L19 {p : Program} {l : Launch} {e : Env} {R : Room} {s : State} {m : MethodId} {args : Array Value} {below : List Frame} {meth : Method} {c : Code} {Q : State → Prop} {g : mG} {A : Nat → Prop} {H0 : Heap} (hc : qC RX12 cX12_proof p s m args c) (hR : qRoom R 9) (hml : c.maxLocals = 4) (N : Nat) (c2 : Int32) : ∀ (n : Nat) (S5 : mS) (v3 : Int32) (v4 : Int32) (X : Int32 × mS) (H : Heap) (locs : List Loc) (ls : Array Slot), mf_proof_L19 N c2 n S5 v3 v4 = some X → mI g A H0 s S5 H locs → lv_has ls 4 [(0, .ref (mr g 0)), (1, .int c2), (2, .int v3), (3, .int v4)] → (∀ (H : Heap) (locs : List Loc) (ls : Array Slot), mI g A H0 s X.2 H locs → lv_has ls 4 [(0, .ref (mr g 0)), (2, .int X.1)] → W p l e R s m args below meth c H locs 0 0 Q (F0 m 42 ls [])) → W p l e R s m args below meth c H locs 0 0 Q (F0 m 19 ls []) := by
  have hx := hc.1
  have hb := hc.2.1
  intro n
  induction n with
  | zero => intro _ _ _ X H locs ls hf; exact nomatch (show none = some X from hf)
  | succ n ih =>
    intro S5 v3 v4 X H locs ls hf hw hl kx
    rw [mf_proof_L19] at hf
    refine lv_iload_n hx hb dX12_proof_19 rfl (lv_at hl 3 rfl) ?_
    refine lv_iload_n hx hb dX12_proof_20 rfl (lv_at hl 1 rfl) ?_
    refine lv_icmp_gt (tgt := 42) hx hb dX12_proof_21 (by decide) (fun cn12 => ?_) (fun cn12 => ?_)
    · have hf := (if_pos cn12).symm.trans hf
      cases hf
      exact kx _ _ _ hw (lv_sub hl [0, 2] rfl)
    · have hf := (if_neg cn12).symm.trans hf
      refine lv_iload_n hx hb dX12_proof_24 rfl (lv_at hl 2 rfl) ?_
      refine lv_iconst (v := (-1)) hx hb dX12_proof_25 (by decide) ?_
      refine lv_icmp_eq (tgt := 42) hx hb dX12_proof_26 (by decide) (fun cn13 => ?_) (fun cn13 => ?_)
      · have hf := (if_pos cn13).symm.trans hf
        cases hf
        exact kx _ _ _ hw (lv_sub hl [0, 2] rfl)
      · have hf := (if_neg cn13).symm.trans hf
        refine lv_aload_n hx hb dX12_proof_29 rfl (lv_at hl 0 rfl) ?_
        refine lv_iload_n hx hb dX12_proof_30 rfl (lv_at hl 3 rfl) ?_
        refine lv_iload_n hx hb dX12_proof_31 rfl (lv_at hl 2 rfl) ?_
        obtain ⟨v6, S7, hcall, hf⟩ := bd2_some hf
        refine m_cvi (As := [.int v4, .int v3]) (rest := []) hc hw hR (hml.trans hl.1.symm) (cm_raises l N S5 v4 v3 v6 S7 hcall) mq_raises rfl (by decide) rfl rfl rfl (Nat.le_of_ble_eq_true rfl) dX12_proof_32 (fun H locs hw => ?_) ⟨Nat.zero_le _, Nat.zero_le _⟩
        refine lv_istore_n (lv' := [(2, .int v6), (0, .ref (mr g 0)), (1, .int c2), (3, .int v4)]) hx hb dX12_proof_35 rfl hl (by decide) rfl (fun ls hl => ?_)
        refine lv_iinc (lv' := [(3, .int (v4 + 1)), (2, .int v6), (0, .ref (mr g 0)), (1, .int c2)]) hx hb dX12_proof_36 hl (k := 3) rfl rfl (by decide) rfl (fun ls hl => ?_)
        refine lv_goto (tgt := 19) hx hb dX12_proof_39 (by decide) ?_
        exact ih _ _ _ X _ _ _ hf hw (lv_sub hl [2, 3, 1, 0] rfl) kx
def mf_proof (N : Nat) (S : mS) (a1 : Int32) : Option (Int32 × mS) := (if (mf_isRow S a1) = true then (bd1 (mf_keepsRises N S) fun S1 => (bd2 (mf_proof_L19 N a1 N S1 0 0) fun v8 S9 => (bd1 (mf_laysRises N S9) fun S10 => some (v8, S10)))) else some ((-5), S))
set_option maxRecDepth 100000 in
theorem cm_proof (l : Launch) (N : Nat) (S : mS) (a1 : Int32) (res : Int32) (S1 : mS) (hf : mf_proof N S a1 = some (res, S1)) : mMi l yX12_proof cX12_proof 4 .int 9 (fun g => [.ref (mr g 0), .int a1]) S res S1 := by
  refine mMi_of (own := RX12) (by decide) rfl rfl (fun g => Nat.le_of_ble_eq_true rfl) ?_
  intro p e R s m args below meth c Q g A H0 H locs ls hc hR hml hw hl hQ
  have hl : lv_has ls 4 [(0, .ref (mr g 0)), (1, .int a1)] := hl
  have hx := hc.1
  have hb := hc.2.1
  unfold mf_proof at hf
  refine lv_aload_n hx hb dX12_proof_0 rfl (lv_at hl 0 rfl) ?_
  refine lv_iload_n hx hb dX12_proof_1 rfl (lv_at hl 1 rfl) ?_
  refine m_cvi (As := [.int a1]) (rest := []) hc hw hR (hml.trans hl.1.symm) (cm_isRow l S a1 _ rfl) mq_isRow rfl (by decide) rfl rfl rfl (Nat.le_of_ble_eq_true rfl) dX12_proof_2 (fun H locs hw => ?_) ⟨Nat.zero_le _, Nat.zero_le _⟩
  refine lv_if_neb (tgt := 11) hx hb dX12_proof_5 (by decide) (fun cn11 => ?_) (fun cn11 => ?_)
  · have hf := (if_pos cn11).symm.trans hf
    refine lv_aload_n hx hb dX12_proof_11 rfl (lv_at hl 0 rfl) ?_
    obtain ⟨S1, hcall, hf⟩ := bd1_some hf
    refine m_cvv (As := []) (rest := []) hc hw hR (hml.trans hl.1.symm) (cm_keepsRises l N S S1 hcall) mq_keepsRises rfl (by decide) rfl rfl rfl (Nat.le_of_ble_eq_true rfl) dX12_proof_12 (fun H locs hw => ?_) ⟨Nat.zero_le _, Nat.zero_le _⟩
    refine lv_iconst (v := 0) hx hb dX12_proof_15 (by decide) ?_
    refine lv_istore_n (lv' := [(2, .int 0), (0, .ref (mr g 0)), (1, .int a1)]) hx hb dX12_proof_16 rfl hl (by decide) rfl (fun ls hl => ?_)
    refine lv_iconst (v := 0) hx hb dX12_proof_17 (by decide) ?_
    refine lv_istore_n (lv' := [(3, .int 0), (2, .int 0), (0, .ref (mr g 0)), (1, .int a1)]) hx hb dX12_proof_18 rfl hl (by decide) rfl (fun ls hl => ?_)
    obtain ⟨v8, S9, hX, hf⟩ := bd2_some hf
    refine wm_proof_L19 hc hR hml N a1 N _ _ _ _ _ _ _ hX hw (lv_sub hl [2, 3, 1, 0] rfl) (fun H locs ls hw hl => ?_)
    refine lv_aload_n hx hb dX12_proof_42 rfl (lv_at hl 0 rfl) ?_
    obtain ⟨S10, hcall, hf⟩ := bd1_some hf
    refine m_cvv (As := []) (rest := []) hc hw hR (hml.trans hl.1.symm) (cm_laysRises l N S9 S10 hcall) mq_laysRises rfl (by decide) rfl rfl rfl (Nat.le_of_ble_eq_true rfl) dX12_proof_43 (fun H locs hw => ?_) ⟨Nat.zero_le _, Nat.zero_le _⟩
    refine lv_iload_n hx hb dX12_proof_46 rfl (lv_at hl 1 rfl) ?_
    cases hf
    exact hQ _ _ _ _ dX12_proof_47 hw
  · have hf := (if_neg cn11).symm.trans hf
    refine lv_bipush (v := (-5)) hx hb dX12_proof_8 (by decide) ?_
    cases hf
    exact hQ _ _ _ _ dX12_proof_10 hw
def mf_swap (N : Nat) (S : mS) (a1 : Int32) (a2 : Int32) (a3 : Int32) (a4 : Int32) : Option (Int32 × mS) := (bd1 (mf_isSeat N S a1 a2) fun v1 => (if v1 = true then (bd1 (mf_isSeat N S a3 a4) fun v2 => (if v2 = true then (bd2 (mf_gainBy N S ((8 * a1) + a2) ((8 * a3) + a4)) fun v3 S4 => some (v3, S4)) else some ((-1000000), S))) else some ((-1000000), S)))
set_option maxRecDepth 100000 in
theorem cm_swap (l : Launch) (N : Nat) (S : mS) (a1 : Int32) (a2 : Int32) (a3 : Int32) (a4 : Int32) (res : Int32) (S1 : mS) (hf : mf_swap N S a1 a2 a3 a4 = some (res, S1)) : mMi l yX12_swap cX12_swap 5 .int 9 (fun g => [.ref (mr g 0), .int a1, .int a2, .int a3, .int a4]) S res S1 := by
  refine mMi_of (own := RX12) (by decide) rfl rfl (fun g => Nat.le_of_ble_eq_true rfl) ?_
  intro p e R s m args below meth c Q g A H0 H locs ls hc hR hml hw hl hQ
  have hl : lv_has ls 5 [(0, .ref (mr g 0)), (1, .int a1), (2, .int a2), (3, .int a3), (4, .int a4)] := hl
  have hx := hc.1
  have hb := hc.2.1
  unfold mf_swap at hf
  refine lv_aload_n hx hb dX12_swap_0 rfl (lv_at hl 0 rfl) ?_
  refine lv_iload_n hx hb dX12_swap_1 rfl (lv_at hl 1 rfl) ?_
  refine lv_iload_n hx hb dX12_swap_2 rfl (lv_at hl 2 rfl) ?_
  obtain ⟨v1, hcall, hf⟩ := bd1_some hf
  refine m_cvi (As := [.int a1, .int a2]) (rest := []) hc hw hR (hml.trans hl.1.symm) (cm_isSeat l N S a1 a2 v1 hcall) mq_isSeat rfl (by decide) rfl rfl rfl (Nat.le_of_ble_eq_true rfl) dX12_swap_3 (fun H locs hw => ?_) ⟨Nat.zero_le _, Nat.zero_le _⟩
  refine lv_if_eqb (tgt := 39) hx hb dX12_swap_6 (by decide) (fun cn5 => ?_) (fun cn5 => ?_)
  · have hf := (if_neg cn5).symm.trans hf
    refine lv_ldcw (v := (-1000000)) hx hb hc.2.2.1 (hc.2.2.2 _ (mem_g 1625 (by decide +kernel) rfl)) dX12_swap_39 ?_
    cases hf
    exact hQ _ _ _ _ dX12_swap_42 hw
  · have hf := (if_pos cn5).symm.trans hf
    refine lv_aload_n hx hb dX12_swap_9 rfl (lv_at hl 0 rfl) ?_
    refine lv_iload_n hx hb dX12_swap_10 rfl (lv_at hl 3 rfl) ?_
    refine lv_iload hx hb dX12_swap_11 (lv_at hl 4 rfl) ?_
    obtain ⟨v2, hcall, hf⟩ := bd1_some hf
    refine m_cvi (As := [.int a3, .int a4]) (rest := []) hc hw hR (hml.trans hl.1.symm) (cm_isSeat l N S a3 a4 v2 hcall) mq_isSeat rfl (by decide) rfl rfl rfl (Nat.le_of_ble_eq_true rfl) dX12_swap_13 (fun H locs hw => ?_) ⟨Nat.zero_le _, Nat.zero_le _⟩
    refine lv_if_eqb (tgt := 39) hx hb dX12_swap_16 (by decide) (fun cn6 => ?_) (fun cn6 => ?_)
    · have hf := (if_neg cn6).symm.trans hf
      refine lv_ldcw (v := (-1000000)) hx hb hc.2.2.1 (hc.2.2.2 _ (mem_g 1625 (by decide +kernel) rfl)) dX12_swap_39 ?_
      cases hf
      exact hQ _ _ _ _ dX12_swap_42 hw
    · have hf := (if_pos cn6).symm.trans hf
      refine lv_aload_n hx hb dX12_swap_19 rfl (lv_at hl 0 rfl) ?_
      refine lv_bipush (v := 8) hx hb dX12_swap_20 (by decide) ?_
      refine lv_iload_n hx hb dX12_swap_22 rfl (lv_at hl 1 rfl) ?_
      refine lv_imul hx hb dX12_swap_23 ?_
      refine lv_iload_n hx hb dX12_swap_24 rfl (lv_at hl 2 rfl) ?_
      refine lv_iadd hx hb dX12_swap_25 ?_
      refine lv_bipush (v := 8) hx hb dX12_swap_26 (by decide) ?_
      refine lv_iload_n hx hb dX12_swap_28 rfl (lv_at hl 3 rfl) ?_
      refine lv_imul hx hb dX12_swap_29 ?_
      refine lv_iload hx hb dX12_swap_30 (lv_at hl 4 rfl) ?_
      refine lv_iadd hx hb dX12_swap_32 ?_
      obtain ⟨v3, S4, hcall, hf⟩ := bd2_some hf
      refine m_cvi (As := [.int ((8 * a1) + a2), .int ((8 * a3) + a4)]) (rest := []) hc hw hR (hml.trans hl.1.symm) (cm_gainBy l N S ((8 * a1) + a2) ((8 * a3) + a4) v3 S4 hcall) mq_gainBy rfl (by decide) rfl rfl rfl (Nat.le_of_ble_eq_true rfl) dX12_swap_33 (fun H locs hw => ?_) ⟨Nat.zero_le _, Nat.zero_le _⟩
      refine lv_goto (tgt := 42) hx hb dX12_swap_36 (by decide) ?_
      cases hf
      exact hQ _ _ _ _ dX12_swap_42 hw
def mf_finds_L26 (N : Nat) (c5 : Int32) (c6 : Int32) : Nat → mS → Int32 → Option (mS)
  | 0, _, _ => none
  | n + 1, S8, v7 => (if ok c5 6 then (if (S8.1 5 c5.toNatClampNeg) ≤ v7 then some S8 else (if ok ((8 * c5) + c6) 48 then (if ok ((8 * c5) + v7) 48 then (bd2 (if (S8.1 9 ((8 * c5) + c6).toNatClampNeg) = (S8.1 9 ((8 * c5) + v7).toNatClampNeg) then some (0, S8) else (bd2 (mf_gainBy N S8 ((8 * c5) + c6) ((8 * c5) + v7)) fun v12 S13 => some (v12, S13))) fun v14 S15 => (if v14 ≤ (S15.1 57 0) then mf_finds_L26 N c5 c6 n S15 (v7 + 1) else mf_finds_L26 N c5 c6 n (ms (ms S15 56 0 ((10 * c6) + v7)) 57 0 v14) (v7 + 1))) else none) else none)) else none)
set_option maxRecDepth 100000 in
theorem wm_finds_L26 {p : Program} {l : Launch} {e : Env} {R : Room} {s : State} {m : MethodId} {args : Array Value} {below : List Frame} {meth : Method} {c : Code} {Q : State → Prop} {g : mG} {A : Nat → Prop} {H0 : Heap} (hc : qC RX12 cX12_finds p s m args c) (hR : qRoom R 9) (hml : c.maxLocals = 5) (N : Nat) (c5 : Int32) (c6 : Int32) : ∀ (n : Nat) (S8 : mS) (v7 : Int32) (X : mS) (H : Heap) (locs : List Loc) (ls : Array Slot), mf_finds_L26 N c5 c6 n S8 v7 = some X → mI g A H0 s S8 H locs → lv_has ls 5 [(0, .ref (mr g 0)), (1, .int c5), (2, .int c6), (3, .int v7)] → (∀ (H : Heap) (locs : List Loc) (ls : Array Slot), mI g A H0 s X H locs → lv_has ls 5 [(0, .ref (mr g 0)), (1, .int c5), (2, .int c6)] → W p l e R s m args below meth c H locs 0 0 Q (F0 m 114 ls [])) → W p l e R s m args below meth c H locs 0 0 Q (F0 m 26 ls []) := by
  have hx := hc.1
  have hb := hc.2.1
  intro n
  induction n with
  | zero => intro _ _ X H locs ls hf; exact nomatch (show none = some X from hf)
  | succ n ih =>
    intro S8 v7 X H locs ls hf hw hl kx
    rw [mf_finds_L26] at hf
    refine lv_iload_n hx hb dX12_finds_26 rfl (lv_at hl 3 rfl) ?_
    refine lv_aload_n hx hb dX12_finds_27 rfl (lv_at hl 0 rfl) ?_
    refine m_g5 hc hw dX12_finds_28 ?_
    refine lv_iload_n hx hb dX12_finds_31 rfl (lv_at hl 1 rfl) ?_
    obtain ⟨hi9, hf⟩ := gd_some hf
    have hi9 := ok_in hi9
    refine m_l5 hc hw hi9 dX12_finds_32 ?_
    refine lv_icmp_ge (tgt := 114) hx hb dX12_finds_33 (by decide) (fun cn19 => ?_) (fun cn19 => ?_)
    · have hf := (if_pos cn19).symm.trans hf
      cases hf
      exact kx _ _ _ hw (lv_sub hl [0, 1, 2] rfl)
    · have hf := (if_neg cn19).symm.trans hf
      refine lv_aload_n hx hb dX12_finds_36 rfl (lv_at hl 0 rfl) ?_
      refine m_g9 hc hw dX12_finds_37 ?_
      refine lv_bipush (v := 8) hx hb dX12_finds_40 (by decide) ?_
      refine lv_iload_n hx hb dX12_finds_42 rfl (lv_at hl 1 rfl) ?_
      refine lv_imul hx hb dX12_finds_43 ?_
      refine lv_iload_n hx hb dX12_finds_44 rfl (lv_at hl 2 rfl) ?_
      refine lv_iadd hx hb dX12_finds_45 ?_
      obtain ⟨hi10, hf⟩ := gd_some hf
      have hi10 := ok_in hi10
      refine m_l9 hc hw hi10 dX12_finds_46 ?_
      refine lv_aload_n hx hb dX12_finds_47 rfl (lv_at hl 0 rfl) ?_
      refine m_g9 hc hw dX12_finds_48 ?_
      refine lv_bipush (v := 8) hx hb dX12_finds_51 (by decide) ?_
      refine lv_iload_n hx hb dX12_finds_53 rfl (lv_at hl 1 rfl) ?_
      refine lv_imul hx hb dX12_finds_54 ?_
      refine lv_iload_n hx hb dX12_finds_55 rfl (lv_at hl 3 rfl) ?_
      refine lv_iadd hx hb dX12_finds_56 ?_
      obtain ⟨hi11, hf⟩ := gd_some hf
      have hi11 := ok_in hi11
      refine m_l9 hc hw hi11 dX12_finds_57 ?_
      obtain ⟨v14, S15, hX, hf⟩ := bd2_some hf
      have kJ : ∀ (H : Heap) (locs : List Loc) (ls : Array Slot), mI g A H0 s S15 H locs → lv_has ls 5 [(0, .ref (mr g 0)), (1, .int c5), (2, .int c6), (3, .int v7)] → W p l e R s m args below meth c H locs 0 0 Q (F0 m 81 ls [.int v14]) := by
        intro H locs ls hw hl
        refine lv_istore (lv' := [(4, .int v14), (0, .ref (mr g 0)), (1, .int c5), (2, .int c6), (3, .int v7)]) hx hb dX12_finds_81 hl (by decide) rfl (fun ls hl => ?_)
        refine lv_iload hx hb dX12_finds_83 (lv_at hl 0 rfl) ?_
        refine lv_aload_n hx hb dX12_finds_85 rfl (lv_at hl 1 rfl) ?_
        refine m_g57 hc hw dX12_finds_86 ?_
        refine lv_icmp_le (tgt := 108) hx hb dX12_finds_89 (by decide) (fun cn20 => ?_) (fun cn20 => ?_)
        · have hf := (if_pos cn20).symm.trans hf
          refine lv_iinc (lv' := [(3, .int (v7 + 1)), (4, .int v14), (0, .ref (mr g 0)), (1, .int c5), (2, .int c6)]) hx hb dX12_finds_108 hl (k := 4) rfl rfl (by decide) rfl (fun ls hl => ?_)
          refine lv_goto (tgt := 26) hx hb dX12_finds_111 (by decide) ?_
          exact ih _ _ X _ _ _ hf hw (lv_sub hl [2, 3, 4, 0] rfl) kx
        · have hf := (if_neg cn20).symm.trans hf
          refine lv_aload_n hx hb dX12_finds_92 rfl (lv_at hl 1 rfl) ?_
          refine lv_bipush (v := 10) hx hb dX12_finds_93 (by decide) ?_
          refine lv_iload_n hx hb dX12_finds_95 rfl (lv_at hl 3 rfl) ?_
          refine lv_imul hx hb dX12_finds_96 ?_
          refine lv_iload_n hx hb dX12_finds_97 rfl (lv_at hl 4 rfl) ?_
          refine lv_iadd hx hb dX12_finds_98 ?_
          refine m_p56 hc hw dX12_finds_99 (fun H locs hw => ?_)
          refine lv_aload_n hx hb dX12_finds_102 rfl (lv_at hl 1 rfl) ?_
          refine lv_iload hx hb dX12_finds_103 (lv_at hl 0 rfl) ?_
          refine m_p57 hc hw dX12_finds_105 (fun H locs hw => ?_)
          refine lv_iinc (lv' := [(3, .int (v7 + 1)), (4, .int v14), (0, .ref (mr g 0)), (1, .int c5), (2, .int c6)]) hx hb dX12_finds_108 hl (k := 4) rfl rfl (by decide) rfl (fun ls hl => ?_)
          refine lv_goto (tgt := 26) hx hb dX12_finds_111 (by decide) ?_
          exact ih _ _ X _ _ _ hf hw (lv_sub hl [2, 3, 4, 0] rfl) kx
      refine lv_icmp_ne (tgt := 65) hx hb dX12_finds_58 (by decide) (fun cn21 => ?_) (fun cn21 => ?_)
      · have hX := (if_neg cn21).symm.trans hX
        refine lv_aload_n hx hb dX12_finds_65 rfl (lv_at hl 0 rfl) ?_
        refine lv_bipush (v := 8) hx hb dX12_finds_66 (by decide) ?_
        refine lv_iload_n hx hb dX12_finds_68 rfl (lv_at hl 1 rfl) ?_
        refine lv_imul hx hb dX12_finds_69 ?_
        refine lv_iload_n hx hb dX12_finds_70 rfl (lv_at hl 2 rfl) ?_
        refine lv_iadd hx hb dX12_finds_71 ?_
        refine lv_bipush (v := 8) hx hb dX12_finds_72 (by decide) ?_
        refine lv_iload_n hx hb dX12_finds_74 rfl (lv_at hl 1 rfl) ?_
        refine lv_imul hx hb dX12_finds_75 ?_
        refine lv_iload_n hx hb dX12_finds_76 rfl (lv_at hl 3 rfl) ?_
        refine lv_iadd hx hb dX12_finds_77 ?_
        obtain ⟨v12, S13, hcall, hX⟩ := bd2_some hX
        refine m_cvi (As := [.int ((8 * c5) + c6), .int ((8 * c5) + v7)]) (rest := []) hc hw hR (hml.trans hl.1.symm) (cm_gainBy l N S8 ((8 * c5) + c6) ((8 * c5) + v7) v12 S13 hcall) mq_gainBy rfl (by decide) rfl rfl rfl (Nat.le_of_ble_eq_true rfl) dX12_finds_78 (fun H locs hw => ?_) ⟨Nat.zero_le _, Nat.zero_le _⟩
        cases hX
        exact kJ _ _ _ hw (lv_sub hl [0, 1, 2, 3] rfl)
      · have hX := (if_pos cn21).symm.trans hX
        refine lv_iconst (v := 0) hx hb dX12_finds_61 (by decide) ?_
        refine lv_goto (tgt := 81) hx hb dX12_finds_62 (by decide) ?_
        cases hX
        exact kJ _ _ _ hw (lv_sub hl [0, 1, 2, 3] rfl)
def mf_finds_L12 (N : Nat) (c1 : Int32) : Nat → mS → Int32 → Option (mS)
  | 0, _, _ => none
  | n + 1, S3, v2 => (if ok c1 6 then (if (S3.1 5 c1.toNatClampNeg) ≤ v2 then some S3 else (bd1 (mf_finds_L26 N c1 v2 N S3 (v2 + 1)) fun S16 => mf_finds_L12 N c1 n S16 (v2 + 1))) else none)
set_option maxRecDepth 100000 in
theorem wm_finds_L12 {p : Program} {l : Launch} {e : Env} {R : Room} {s : State} {m : MethodId} {args : Array Value} {below : List Frame} {meth : Method} {c : Code} {Q : State → Prop} {g : mG} {A : Nat → Prop} {H0 : Heap} (hc : qC RX12 cX12_finds p s m args c) (hR : qRoom R 9) (hml : c.maxLocals = 5) (N : Nat) (c1 : Int32) : ∀ (n : Nat) (S3 : mS) (v2 : Int32) (X : mS) (H : Heap) (locs : List Loc) (ls : Array Slot), mf_finds_L12 N c1 n S3 v2 = some X → mI g A H0 s S3 H locs → lv_has ls 5 [(0, .ref (mr g 0)), (1, .int c1), (2, .int v2)] → (∀ (H : Heap) (locs : List Loc) (ls : Array Slot), mI g A H0 s X H locs → lv_has ls 5 [] → W p l e R s m args below meth c H locs 0 0 Q (F0 m 120 ls [])) → W p l e R s m args below meth c H locs 0 0 Q (F0 m 12 ls []) := by
  have hx := hc.1
  have hb := hc.2.1
  intro n
  induction n with
  | zero => intro _ _ X H locs ls hf; exact nomatch (show none = some X from hf)
  | succ n ih =>
    intro S3 v2 X H locs ls hf hw hl kx
    rw [mf_finds_L12] at hf
    refine lv_iload_n hx hb dX12_finds_12 rfl (lv_at hl 2 rfl) ?_
    refine lv_aload_n hx hb dX12_finds_13 rfl (lv_at hl 0 rfl) ?_
    refine m_g5 hc hw dX12_finds_14 ?_
    refine lv_iload_n hx hb dX12_finds_17 rfl (lv_at hl 1 rfl) ?_
    obtain ⟨hi4, hf⟩ := gd_some hf
    have hi4 := ok_in hi4
    refine m_l5 hc hw hi4 dX12_finds_18 ?_
    refine lv_icmp_ge (tgt := 120) hx hb dX12_finds_19 (by decide) (fun cn18 => ?_) (fun cn18 => ?_)
    · have hf := (if_pos cn18).symm.trans hf
      cases hf
      exact kx _ _ _ hw (lv_sub hl [] rfl)
    · have hf := (if_neg cn18).symm.trans hf
      refine lv_iload_n hx hb dX12_finds_22 rfl (lv_at hl 2 rfl) ?_
      refine lv_iconst (v := 1) hx hb dX12_finds_23 (by decide) ?_
      refine lv_iadd hx hb dX12_finds_24 ?_
      refine lv_istore_n (lv' := [(3, .int (v2 + 1)), (0, .ref (mr g 0)), (1, .int c1), (2, .int v2)]) hx hb dX12_finds_25 rfl hl (by decide) rfl (fun ls hl => ?_)
      obtain ⟨S16, hX, hf⟩ := bd1_some hf
      refine wm_finds_L26 hc hR hml N c1 v2 N _ _ _ _ _ _ hX hw (lv_sub hl [1, 2, 3, 0] rfl) (fun H locs ls hw hl => ?_)
      refine lv_iinc (lv' := [(2, .int (v2 + 1)), (0, .ref (mr g 0)), (1, .int c1)]) hx hb dX12_finds_114 hl (k := 2) rfl rfl (by decide) rfl (fun ls hl => ?_)
      refine lv_goto (tgt := 12) hx hb dX12_finds_117 (by decide) ?_
      exact ih _ _ X _ _ _ hf hw (lv_sub hl [1, 2, 0] rfl) kx
def mf_finds (N : Nat) (S : mS) (a1 : Int32) : Option (mS) := (bd1 (mf_finds_L12 N a1 N (ms (ms S 56 0 (-1)) 57 0 0) 0) fun S17 => some S17)
set_option maxRecDepth 100000 in
theorem cm_finds (l : Launch) (N : Nat) (S : mS) (a1 : Int32) (S1 : mS) (hf : mf_finds N S a1 = some S1) : mMv l yX12_finds cX12_finds 5 9 (fun g => [.ref (mr g 0), .int a1]) S S1 := by
  refine mMv_of (own := RX12) (by decide) rfl (fun g => Nat.le_of_ble_eq_true rfl) ?_
  intro p e R s m args below meth c Q g A H0 H locs ls hc hR hml hw hl hQ
  have hl : lv_has ls 5 [(0, .ref (mr g 0)), (1, .int a1)] := hl
  have hx := hc.1
  have hb := hc.2.1
  unfold mf_finds at hf
  refine lv_aload_n hx hb dX12_finds_0 rfl (lv_at hl 0 rfl) ?_
  refine lv_iconst (v := (-1)) hx hb dX12_finds_1 (by decide) ?_
  refine m_p56 hc hw dX12_finds_2 (fun H locs hw => ?_)
  refine lv_aload_n hx hb dX12_finds_5 rfl (lv_at hl 0 rfl) ?_
  refine lv_iconst (v := 0) hx hb dX12_finds_6 (by decide) ?_
  refine m_p57 hc hw dX12_finds_7 (fun H locs hw => ?_)
  refine lv_iconst (v := 0) hx hb dX12_finds_10 (by decide) ?_
  refine lv_istore_n (lv' := [(2, .int 0), (0, .ref (mr g 0)), (1, .int a1)]) hx hb dX12_finds_11 rfl hl (by decide) rfl (fun ls hl => ?_)
  obtain ⟨S17, hX, hf⟩ := bd1_some hf
  refine wm_finds_L12 hc hR hml N a1 N _ _ _ _ _ _ hX hw (lv_sub hl [1, 2, 0] rfl) (fun H locs ls hw hl => ?_)
  cases hf
  exact hQ _ _ _ _ dX12_finds_120 hw
theorem mq_finds : qCv RX12 373 yX12_finds cX12_finds 5 none 1 := ⟨⟨(mem_g 1630 (by decide +kernel) rfl), (mem_g 1632 (by decide +kernel) rfl), (mem_g 75 (by decide +kernel) rfl), (mem_g 89 (by decide +kernel) rfl), (mem_g 1633 (by decide +kernel) rfl)⟩, by decide, by decide +kernel, by decide⟩
def mf_people (N : Nat) (S : mS) (a1 : Int32) (a2 : Int32) : Option (Int32 × mS) := (if (mf_isRow S a1) = true then (if (mf_in a2 0 1) = true then (bd1 (mf_finds N S a1) fun S1 => (if a2 = 0 then some (S1.1 56 0, S1) else some (S1.1 57 0, S1))) else some ((-7), S)) else some ((-5), S))
set_option maxRecDepth 100000 in
theorem cm_people (l : Launch) (N : Nat) (S : mS) (a1 : Int32) (a2 : Int32) (res : Int32) (S1 : mS) (hf : mf_people N S a1 a2 = some (res, S1)) : mMi l yX12_people cX12_people 3 .int 10 (fun g => [.ref (mr g 0), .int a1, .int a2]) S res S1 := by
  refine mMi_of (own := RX12) (by decide) rfl rfl (fun g => Nat.le_of_ble_eq_true rfl) ?_
  intro p e R s m args below meth c Q g A H0 H locs ls hc hR hml hw hl hQ
  have hl : lv_has ls 3 [(0, .ref (mr g 0)), (1, .int a1), (2, .int a2)] := hl
  have hx := hc.1
  have hb := hc.2.1
  unfold mf_people at hf
  refine lv_aload_n hx hb dX12_people_0 rfl (lv_at hl 0 rfl) ?_
  refine lv_iload_n hx hb dX12_people_1 rfl (lv_at hl 1 rfl) ?_
  refine m_cvi (As := [.int a1]) (rest := []) hc hw hR (hml.trans hl.1.symm) (cm_isRow l S a1 _ rfl) mq_isRow rfl (by decide) rfl rfl rfl (Nat.le_of_ble_eq_true rfl) dX12_people_2 (fun H locs hw => ?_) ⟨Nat.zero_le _, Nat.zero_le _⟩
  refine lv_if_neb (tgt := 11) hx hb dX12_people_5 (by decide) (fun cn2 => ?_) (fun cn2 => ?_)
  · have hf := (if_pos cn2).symm.trans hf
    refine lv_iload_n hx hb dX12_people_11 rfl (lv_at hl 2 rfl) ?_
    refine lv_iconst (v := 0) hx hb dX12_people_12 (by decide) ?_
    refine lv_iconst (v := 1) hx hb dX12_people_13 (by decide) ?_
    refine m_csi (As := [.int a2, .int 0, .int 1]) (rest := []) hc hw hR (hml.trans hl.1.symm) (cm_in l S a2 0 1 _ rfl) mq_in (by decide) rfl rfl rfl (Nat.le_of_ble_eq_true rfl) dX12_people_14 (fun H locs hw => ?_) ⟨Nat.zero_le _, Nat.zero_le _⟩
    refine lv_if_neb (tgt := 23) hx hb dX12_people_17 (by decide) (fun cn3 => ?_) (fun cn3 => ?_)
    · have hf := (if_pos cn3).symm.trans hf
      refine lv_aload_n hx hb dX12_people_23 rfl (lv_at hl 0 rfl) ?_
      refine lv_iload_n hx hb dX12_people_24 rfl (lv_at hl 1 rfl) ?_
      obtain ⟨S1, hcall, hf⟩ := bd1_some hf
      refine m_cvv (As := [.int a1]) (rest := []) hc hw hR (hml.trans hl.1.symm) (cm_finds l N S a1 S1 hcall) mq_finds rfl (by decide) rfl rfl rfl (Nat.le_of_ble_eq_true rfl) dX12_people_25 (fun H locs hw => ?_) ⟨Nat.zero_le _, Nat.zero_le _⟩
      refine lv_iload_n hx hb dX12_people_28 rfl (lv_at hl 2 rfl) ?_
      refine lv_if_ne (tgt := 39) hx hb dX12_people_29 (by decide) (fun cn4 => ?_) (fun cn4 => ?_)
      · have hf := (if_neg cn4).symm.trans hf
        refine lv_aload_n hx hb dX12_people_39 rfl (lv_at hl 0 rfl) ?_
        refine m_g57 hc hw dX12_people_40 ?_
        cases hf
        exact hQ _ _ _ _ dX12_people_43 hw
      · have hf := (if_pos cn4).symm.trans hf
        refine lv_aload_n hx hb dX12_people_32 rfl (lv_at hl 0 rfl) ?_
        refine m_g56 hc hw dX12_people_33 ?_
        refine lv_goto (tgt := 43) hx hb dX12_people_36 (by decide) ?_
        cases hf
        exact hQ _ _ _ _ dX12_people_43 hw
    · have hf := (if_neg cn3).symm.trans hf
      refine lv_bipush (v := (-7)) hx hb dX12_people_20 (by decide) ?_
      cases hf
      exact hQ _ _ _ _ dX12_people_22 hw
  · have hf := (if_neg cn2).symm.trans hf
    refine lv_bipush (v := (-5)) hx hb dX12_people_8 (by decide) ?_
    cases hf
    exact hQ _ _ _ _ dX12_people_10 hw
def mf_settle_L30 (N : Nat) (c2 : Int32) (c3 : Int32) : Nat → mS → Int32 → Option (Int32 × mS)
  | 0, _, _ => none
  | n + 1, S5, v4 => (if c3 ≤ v4 then some (v4, S5) else (if (S5.1 56 0) = (-1) then some (v4, S5) else (bd1 (mf_changes N S5 ((8 * c2) + ((S5.1 56 0) / 10)) ((8 * c2) + ((S5.1 56 0) - (S5.1 56 0) / 10 * 10))) fun S6 => (bd1 (mf_finds N S6 c2) fun S7 => mf_settle_L30 N c2 c3 n S7 (v4 + 1)))))
set_option maxRecDepth 100000 in
theorem wm_settle_L30 {p : Program} {l : Launch} {e : Env} {R : Room} {s : State} {m : MethodId} {args : Array Value} {below : List Frame} {meth : Method} {c : Code} {Q : State → Prop} {g : mG} {A : Nat → Prop} {H0 : Heap} (hc : qC RX12 cX12_settle p s m args c) (hR : qRoom R 10) (hml : c.maxLocals = 4) (N : Nat) (c2 : Int32) (c3 : Int32) : ∀ (n : Nat) (S5 : mS) (v4 : Int32) (X : Int32 × mS) (H : Heap) (locs : List Loc) (ls : Array Slot), mf_settle_L30 N c2 c3 n S5 v4 = some X → mI g A H0 s S5 H locs → lv_has ls 4 [(0, .ref (mr g 0)), (1, .int c2), (2, .int c3), (3, .int v4)] → (∀ (H : Heap) (locs : List Loc) (ls : Array Slot), mI g A H0 s X.2 H locs → lv_has ls 4 [(3, .int X.1)] → W p l e R s m args below meth c H locs 0 0 Q (F0 m 82 ls [])) → W p l e R s m args below meth c H locs 0 0 Q (F0 m 30 ls []) := by
  have hx := hc.1
  have hb := hc.2.1
  intro n
  induction n with
  | zero => intro _ _ X H locs ls hf; exact nomatch (show none = some X from hf)
  | succ n ih =>
    intro S5 v4 X H locs ls hf hw hl kx
    rw [mf_settle_L30] at hf
    refine lv_iload_n hx hb dX12_settle_30 rfl (lv_at hl 3 rfl) ?_
    refine lv_iload_n hx hb dX12_settle_31 rfl (lv_at hl 2 rfl) ?_
    refine lv_icmp_ge (tgt := 82) hx hb dX12_settle_32 (by decide) (fun cn12 => ?_) (fun cn12 => ?_)
    · have hf := (if_pos cn12).symm.trans hf
      cases hf
      exact kx _ _ _ hw (lv_sub hl [3] rfl)
    · have hf := (if_neg cn12).symm.trans hf
      refine lv_aload_n hx hb dX12_settle_35 rfl (lv_at hl 0 rfl) ?_
      refine m_g56 hc hw dX12_settle_36 ?_
      refine lv_iconst (v := (-1)) hx hb dX12_settle_39 (by decide) ?_
      refine lv_icmp_eq (tgt := 82) hx hb dX12_settle_40 (by decide) (fun cn13 => ?_) (fun cn13 => ?_)
      · have hf := (if_pos cn13).symm.trans hf
        cases hf
        exact kx _ _ _ hw (lv_sub hl [3] rfl)
      · have hf := (if_neg cn13).symm.trans hf
        refine lv_aload_n hx hb dX12_settle_43 rfl (lv_at hl 0 rfl) ?_
        refine lv_bipush (v := 8) hx hb dX12_settle_44 (by decide) ?_
        refine lv_iload_n hx hb dX12_settle_46 rfl (lv_at hl 1 rfl) ?_
        refine lv_imul hx hb dX12_settle_47 ?_
        refine lv_aload_n hx hb dX12_settle_48 rfl (lv_at hl 0 rfl) ?_
        refine m_g56 hc hw dX12_settle_49 ?_
        refine lv_bipush (v := 10) hx hb dX12_settle_52 (by decide) ?_
        refine lv_idiv hx hb dX12_settle_54 (by decide) ?_
        refine lv_iadd hx hb dX12_settle_55 ?_
        refine lv_bipush (v := 8) hx hb dX12_settle_56 (by decide) ?_
        refine lv_iload_n hx hb dX12_settle_58 rfl (lv_at hl 1 rfl) ?_
        refine lv_imul hx hb dX12_settle_59 ?_
        refine lv_aload_n hx hb dX12_settle_60 rfl (lv_at hl 0 rfl) ?_
        refine m_g56 hc hw dX12_settle_61 ?_
        refine lv_bipush (v := 10) hx hb dX12_settle_64 (by decide) ?_
        refine lv_irem hx hb dX12_settle_66 (by decide) ?_
        refine lv_iadd hx hb dX12_settle_67 ?_
        obtain ⟨S6, hcall, hf⟩ := bd1_some hf
        refine m_cvv (As := [.int ((8 * c2) + ((S5.1 56 0) / 10)), .int ((8 * c2) + ((S5.1 56 0) - (S5.1 56 0) / 10 * 10))]) (rest := []) hc hw hR (hml.trans hl.1.symm) (cm_changes l N S5 ((8 * c2) + ((S5.1 56 0) / 10)) ((8 * c2) + ((S5.1 56 0) - (S5.1 56 0) / 10 * 10)) S6 hcall) mq_changes rfl (by decide) rfl rfl rfl (Nat.le_of_ble_eq_true rfl) dX12_settle_68 (fun H locs hw => ?_) ⟨Nat.zero_le _, Nat.zero_le _⟩
        refine lv_iinc (lv' := [(3, .int (v4 + 1)), (0, .ref (mr g 0)), (1, .int c2), (2, .int c3)]) hx hb dX12_settle_71 hl (k := 3) rfl rfl (by decide) rfl (fun ls hl => ?_)
        refine lv_aload_n hx hb dX12_settle_74 rfl (lv_at hl 1 rfl) ?_
        refine lv_iload_n hx hb dX12_settle_75 rfl (lv_at hl 2 rfl) ?_
        obtain ⟨S7, hcall, hf⟩ := bd1_some hf
        refine m_cvv (As := [.int c2]) (rest := []) hc hw hR (hml.trans hl.1.symm) (cm_finds l N S6 c2 S7 hcall) mq_finds rfl (by decide) rfl rfl rfl (Nat.le_of_ble_eq_true rfl) dX12_settle_76 (fun H locs hw => ?_) ⟨Nat.zero_le _, Nat.zero_le _⟩
        refine lv_goto (tgt := 30) hx hb dX12_settle_79 (by decide) ?_
        exact ih _ _ X _ _ _ hf hw (lv_sub hl [1, 2, 3, 0] rfl) kx
def mf_settle (N : Nat) (S : mS) (a1 : Int32) (a2 : Int32) : Option (Int32 × mS) := (if (mf_isRow S a1) = true then (if (mf_in a2 0 5) = true then (bd1 (mf_finds N S a1) fun S1 => (bd2 (mf_settle_L30 N a1 a2 N S1 0) fun v8 S9 => some (v8, S9))) else some ((-7), S)) else some ((-5), S))
set_option maxRecDepth 100000 in
theorem cm_settle (l : Launch) (N : Nat) (S : mS) (a1 : Int32) (a2 : Int32) (res : Int32) (S1 : mS) (hf : mf_settle N S a1 a2 = some (res, S1)) : mMi l yX12_settle cX12_settle 4 .int 10 (fun g => [.ref (mr g 0), .int a1, .int a2]) S res S1 := by
  refine mMi_of (own := RX12) (by decide) rfl rfl (fun g => Nat.le_of_ble_eq_true rfl) ?_
  intro p e R s m args below meth c Q g A H0 H locs ls hc hR hml hw hl hQ
  have hl : lv_has ls 4 [(0, .ref (mr g 0)), (1, .int a1), (2, .int a2)] := hl
  have hx := hc.1
  have hb := hc.2.1
  unfold mf_settle at hf
  refine lv_aload_n hx hb dX12_settle_0 rfl (lv_at hl 0 rfl) ?_
  refine lv_iload_n hx hb dX12_settle_1 rfl (lv_at hl 1 rfl) ?_
  refine m_cvi (As := [.int a1]) (rest := []) hc hw hR (hml.trans hl.1.symm) (cm_isRow l S a1 _ rfl) mq_isRow rfl (by decide) rfl rfl rfl (Nat.le_of_ble_eq_true rfl) dX12_settle_2 (fun H locs hw => ?_) ⟨Nat.zero_le _, Nat.zero_le _⟩
  refine lv_if_neb (tgt := 11) hx hb dX12_settle_5 (by decide) (fun cn10 => ?_) (fun cn10 => ?_)
  · have hf := (if_pos cn10).symm.trans hf
    refine lv_iload_n hx hb dX12_settle_11 rfl (lv_at hl 2 rfl) ?_
    refine lv_iconst (v := 0) hx hb dX12_settle_12 (by decide) ?_
    refine lv_iconst (v := 5) hx hb dX12_settle_13 (by decide) ?_
    refine m_csi (As := [.int a2, .int 0, .int 5]) (rest := []) hc hw hR (hml.trans hl.1.symm) (cm_in l S a2 0 5 _ rfl) mq_in (by decide) rfl rfl rfl (Nat.le_of_ble_eq_true rfl) dX12_settle_14 (fun H locs hw => ?_) ⟨Nat.zero_le _, Nat.zero_le _⟩
    refine lv_if_neb (tgt := 23) hx hb dX12_settle_17 (by decide) (fun cn11 => ?_) (fun cn11 => ?_)
    · have hf := (if_pos cn11).symm.trans hf
      refine lv_iconst (v := 0) hx hb dX12_settle_23 (by decide) ?_
      refine lv_istore_n (lv' := [(3, .int 0), (0, .ref (mr g 0)), (1, .int a1), (2, .int a2)]) hx hb dX12_settle_24 rfl hl (by decide) rfl (fun ls hl => ?_)
      refine lv_aload_n hx hb dX12_settle_25 rfl (lv_at hl 1 rfl) ?_
      refine lv_iload_n hx hb dX12_settle_26 rfl (lv_at hl 2 rfl) ?_
      obtain ⟨S1, hcall, hf⟩ := bd1_some hf
      refine m_cvv (As := [.int a1]) (rest := []) hc hw hR (hml.trans hl.1.symm) (cm_finds l N S a1 S1 hcall) mq_finds rfl (by decide) rfl rfl rfl (Nat.le_of_ble_eq_true rfl) dX12_settle_27 (fun H locs hw => ?_) ⟨Nat.zero_le _, Nat.zero_le _⟩
      obtain ⟨v8, S9, hX, hf⟩ := bd2_some hf
      refine wm_settle_L30 hc hR hml N a1 a2 N _ _ _ _ _ _ hX hw (lv_sub hl [1, 2, 3, 0] rfl) (fun H locs ls hw hl => ?_)
      refine lv_iload_n hx hb dX12_settle_82 rfl (lv_at hl 0 rfl) ?_
      cases hf
      exact hQ _ _ _ _ dX12_settle_83 hw
    · have hf := (if_neg cn11).symm.trans hf
      refine lv_bipush (v := (-7)) hx hb dX12_settle_20 (by decide) ?_
      cases hf
      exact hQ _ _ _ _ dX12_settle_22 hw
  · have hf := (if_neg cn10).symm.trans hf
    refine lv_bipush (v := (-5)) hx hb dX12_settle_8 (by decide) ?_
    cases hf
    exact hQ _ _ _ _ dX12_settle_10 hw
