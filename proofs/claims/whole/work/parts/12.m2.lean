def mf_next_L0 (N : Nat) : Nat → mS → Option (mS)
  | 0, _ => none
  | n + 1, S1 => (if (S1.1 18 0) ≤ (S1.1 40 0) then some S1 else (if ok (S1.1 40 0) 160 then (if (S1.1 17 (S1.1 40 0).toNatClampNeg) = 32 then mf_next_L0 N n (ms S1 40 0 ((S1.1 40 0) + 1)) else (if (S1.1 17 (S1.1 40 0).toNatClampNeg) = 10 then mf_next_L0 N n (ms S1 40 0 ((S1.1 40 0) + 1)) else some S1)) else none))
set_option maxRecDepth 100000 in
theorem wm_next_L0 {p : Program} {l : Launch} {e : Env} {R : Room} {s : State} {m : MethodId} {args : Array Value} {below : List Frame} {meth : Method} {c : Code} {Q : State → Prop} {g : mG} {A : Nat → Prop} {H0 : Heap} (hc : qC RX12 cX12_next p s m args c) (hR : qRoom R 3) (hml : c.maxLocals = 5) (N : Nat) : ∀ (n : Nat) (S1 : mS) (X : mS) (H : Heap) (locs : List Loc) (ls : Array Slot), mf_next_L0 N n S1 = some X → mI g A H0 s S1 H locs → lv_has ls 5 [(0, .ref (mr g 0))] → (∀ (H : Heap) (locs : List Loc) (ls : Array Slot), mI g A H0 s X H locs → lv_has ls 5 [(0, .ref (mr g 0))] → W p l e R s m args below meth c H locs 0 0 Q (F0 m 52 ls [])) → W p l e R s m args below meth c H locs 0 0 Q (F0 m 0 ls []) := by
  have hx := hc.1
  have hb := hc.2.1
  intro n
  induction n with
  | zero => intro _ X H locs ls hf; exact nomatch (show none = some X from hf)
  | succ n ih =>
    intro S1 X H locs ls hf hw hl kx
    rw [mf_next_L0] at hf
    refine lv_aload_n hx hb dX12_next_0 rfl (lv_at hl 0 rfl) ?_
    refine m_g40 hc hw dX12_next_1 ?_
    refine lv_aload_n hx hb dX12_next_4 rfl (lv_at hl 0 rfl) ?_
    refine m_g18 hc hw dX12_next_5 ?_
    refine lv_icmp_ge (tgt := 52) hx hb dX12_next_8 (by decide) (fun cn18 => ?_) (fun cn18 => ?_)
    · have hf := (if_pos cn18).symm.trans hf
      cases hf
      exact kx _ _ _ hw (lv_sub hl [0] rfl)
    · have hf := (if_neg cn18).symm.trans hf
      refine lv_aload_n hx hb dX12_next_11 rfl (lv_at hl 0 rfl) ?_
      refine m_g17 hc hw dX12_next_12 ?_
      refine lv_aload_n hx hb dX12_next_15 rfl (lv_at hl 0 rfl) ?_
      refine m_g40 hc hw dX12_next_16 ?_
      obtain ⟨hi2, hf⟩ := gd_some hf
      have hi2 := ok_in hi2
      refine m_l17 hc hw hi2 dX12_next_19 ?_
      refine lv_bipush (v := 32) hx hb dX12_next_20 (by decide) ?_
      refine lv_icmp_eq (tgt := 39) hx hb dX12_next_22 (by decide) (fun cn19 => ?_) (fun cn19 => ?_)
      · have hf := (if_pos cn19).symm.trans hf
        refine lv_aload_n hx hb dX12_next_39 rfl (lv_at hl 0 rfl) ?_
        refine lv_dup hx hb dX12_next_40 rfl ?_
        refine m_g40 hc hw dX12_next_41 ?_
        refine lv_iconst (v := 1) hx hb dX12_next_44 (by decide) ?_
        refine lv_iadd hx hb dX12_next_45 ?_
        refine m_p40 hc hw dX12_next_46 (fun H locs hw => ?_)
        refine lv_goto (tgt := 0) hx hb dX12_next_49 (by decide) ?_
        exact ih _ X _ _ _ hf hw (lv_sub hl [0] rfl) kx
      · have hf := (if_neg cn19).symm.trans hf
        refine lv_aload_n hx hb dX12_next_25 rfl (lv_at hl 0 rfl) ?_
        refine m_g17 hc hw dX12_next_26 ?_
        refine lv_aload_n hx hb dX12_next_29 rfl (lv_at hl 0 rfl) ?_
        refine m_g40 hc hw dX12_next_30 ?_
        refine m_l17 hc hw hi2 dX12_next_33 ?_
        refine lv_bipush (v := 10) hx hb dX12_next_34 (by decide) ?_
        refine lv_icmp_ne (tgt := 52) hx hb dX12_next_36 (by decide) (fun cn20 => ?_) (fun cn20 => ?_)
        · have hf := (if_neg cn20).symm.trans hf
          cases hf
          exact kx _ _ _ hw (lv_sub hl [0] rfl)
        · have hf := (if_pos cn20).symm.trans hf
          refine lv_aload_n hx hb dX12_next_39 rfl (lv_at hl 0 rfl) ?_
          refine lv_dup hx hb dX12_next_40 rfl ?_
          refine m_g40 hc hw dX12_next_41 ?_
          refine lv_iconst (v := 1) hx hb dX12_next_44 (by decide) ?_
          refine lv_iadd hx hb dX12_next_45 ?_
          refine m_p40 hc hw dX12_next_46 (fun H locs hw => ?_)
          refine lv_goto (tgt := 0) hx hb dX12_next_49 (by decide) ?_
          exact ih _ X _ _ _ hf hw (lv_sub hl [0] rfl) kx
def mf_next_L214 (N : Nat) : Nat → mS → Int32 → Option (Int32 × mS)
  | 0, _, _ => none
  | n + 1, S6, v5 => (if (S6.1 18 0) ≤ (S6.1 40 0) then some (v5, S6) else (if ok (S6.1 40 0) 160 then (if (mf_in (S6.1 17 (S6.1 40 0).toNatClampNeg) 48 57) = true then mf_next_L214 N n (ms (ms S6 43 0 (if 4 ≤ v5 then 0 else ((10 * (S6.1 43 0)) + (S6.1 17 (S6.1 40 0).toNatClampNeg)) - 48)) 40 0 (((ms S6 43 0 (if 4 ≤ v5 then 0 else ((10 * (S6.1 43 0)) + (S6.1 17 (S6.1 40 0).toNatClampNeg)) - 48)).1 40 0) + 1)) (v5 + 1) else some (v5, S6)) else none))
set_option maxRecDepth 100000 in
theorem wm_next_L214 {p : Program} {l : Launch} {e : Env} {R : Room} {s : State} {m : MethodId} {args : Array Value} {below : List Frame} {meth : Method} {c : Code} {Q : State → Prop} {g : mG} {A : Nat → Prop} {H0 : Heap} (hc : qC RX12 cX12_next p s m args c) (hR : qRoom R 3) (hml : c.maxLocals = 5) (N : Nat) : ∀ (n : Nat) (S6 : mS) (v5 : Int32) (X : Int32 × mS) (H : Heap) (locs : List Loc) (ls : Array Slot), mf_next_L214 N n S6 v5 = some X → mI g A H0 s S6 H locs → lv_has ls 5 [(0, .ref (mr g 0)), (2, .int v5)] → (∀ (H : Heap) (locs : List Loc) (ls : Array Slot), mI g A H0 s X.2 H locs → lv_has ls 5 [(0, .ref (mr g 0)), (2, .int X.1)] → W p l e R s m args below meth c H locs 0 0 Q (F0 m 293 ls [])) → W p l e R s m args below meth c H locs 0 0 Q (F0 m 214 ls []) := by
  have hx := hc.1
  have hb := hc.2.1
  intro n
  induction n with
  | zero => intro _ _ X H locs ls hf; exact nomatch (show none = some X from hf)
  | succ n ih =>
    intro S6 v5 X H locs ls hf hw hl kx
    rw [mf_next_L214] at hf
    refine lv_aload_n hx hb dX12_next_214 rfl (lv_at hl 0 rfl) ?_
    refine m_g40 hc hw dX12_next_215 ?_
    refine lv_aload_n hx hb dX12_next_218 rfl (lv_at hl 0 rfl) ?_
    refine m_g18 hc hw dX12_next_219 ?_
    refine lv_icmp_ge (tgt := 293) hx hb dX12_next_222 (by decide) (fun cn42 => ?_) (fun cn42 => ?_)
    · have hf := (if_pos cn42).symm.trans hf
      cases hf
      exact kx _ _ _ hw (lv_sub hl [0, 1] rfl)
    · have hf := (if_neg cn42).symm.trans hf
      refine lv_aload_n hx hb dX12_next_225 rfl (lv_at hl 0 rfl) ?_
      refine m_g17 hc hw dX12_next_226 ?_
      refine lv_aload_n hx hb dX12_next_229 rfl (lv_at hl 0 rfl) ?_
      refine m_g40 hc hw dX12_next_230 ?_
      obtain ⟨hi7, hf⟩ := gd_some hf
      have hi7 := ok_in hi7
      refine m_l17 hc hw hi7 dX12_next_233 ?_
      refine lv_bipush (v := 48) hx hb dX12_next_234 (by decide) ?_
      refine lv_bipush (v := 57) hx hb dX12_next_236 (by decide) ?_
      refine m_csi (As := [.int (S6.1 17 (S6.1 40 0).toNatClampNeg), .int 48, .int 57]) (rest := []) hc hw hR (hml.trans hl.1.symm) (cm_in l S6 (S6.1 17 (S6.1 40 0).toNatClampNeg) 48 57 _ rfl) mq_in (by decide) rfl rfl rfl (Nat.le_of_ble_eq_true rfl) dX12_next_238 (fun H locs hw => ?_) ⟨Nat.zero_le _, Nat.zero_le _⟩
      refine lv_if_eqb (tgt := 293) hx hb dX12_next_241 (by decide) (fun cn43 => ?_) (fun cn43 => ?_)
      · have hf := (if_neg cn43).symm.trans hf
        cases hf
        exact kx _ _ _ hw (lv_sub hl [0, 1] rfl)
      · have hf := (if_pos cn43).symm.trans hf
        refine lv_aload_n hx hb dX12_next_244 rfl (lv_at hl 0 rfl) ?_
        refine lv_iload_n hx hb dX12_next_245 rfl (lv_at hl 1 rfl) ?_
        refine lv_iconst (v := 4) hx hb dX12_next_246 (by decide) ?_
        obtain ⟨v8, hv8⟩ : ∃ y : Int32, y = (if 4 ≤ v5 then 0 else ((10 * (S6.1 43 0)) + (S6.1 17 (S6.1 40 0).toNatClampNeg)) - 48) := ⟨_, rfl⟩
        try rw [← hv8] at hf
        have kJ : ∀ ls : Array Slot, lv_has ls 5 [(0, .ref (mr g 0)), (2, .int v5)] → W p l e R s m args below meth c H locs 0 0 Q (F0 m 274 ls [.int v8, .ref (mr g 0)]) := by
          intro ls hl
          refine m_p43 hc hw dX12_next_274 (fun H locs hw => ?_)
          refine lv_iinc (lv' := [(2, .int (v5 + 1)), (0, .ref (mr g 0))]) hx hb dX12_next_277 hl (k := 1) rfl rfl (by decide) rfl (fun ls hl => ?_)
          refine lv_aload_n hx hb dX12_next_280 rfl (lv_at hl 1 rfl) ?_
          refine lv_dup hx hb dX12_next_281 rfl ?_
          refine m_g40 hc hw dX12_next_282 ?_
          refine lv_iconst (v := 1) hx hb dX12_next_285 (by decide) ?_
          refine lv_iadd hx hb dX12_next_286 ?_
          refine m_p40 hc hw dX12_next_287 (fun H locs hw => ?_)
          refine lv_goto (tgt := 214) hx hb dX12_next_290 (by decide) ?_
          exact ih _ _ X _ _ _ hf hw (lv_sub hl [1, 0] rfl) kx
        refine lv_icmp_ge (tgt := 273) hx hb dX12_next_247 (by decide) (fun cn44 => ?_) (fun cn44 => ?_)
        · refine lv_iconst (v := 0) hx hb dX12_next_273 (by decide) ?_
          have ev8 : v8 = 0 := by rw [hv8]; simp only [if_pos cn44]
          exact W.eq (by simp only [ev8]) (kJ ls (by skip; exact lv_sub hl [0, 1] rfl))
        · refine lv_bipush (v := 10) hx hb dX12_next_250 (by decide) ?_
          refine lv_aload_n hx hb dX12_next_252 rfl (lv_at hl 0 rfl) ?_
          refine m_g43 hc hw dX12_next_253 ?_
          refine lv_imul hx hb dX12_next_256 ?_
          refine lv_aload_n hx hb dX12_next_257 rfl (lv_at hl 0 rfl) ?_
          refine m_g17 hc hw dX12_next_258 ?_
          refine lv_aload_n hx hb dX12_next_261 rfl (lv_at hl 0 rfl) ?_
          refine m_g40 hc hw dX12_next_262 ?_
          refine m_l17 hc hw hi7 dX12_next_265 ?_
          refine lv_iadd hx hb dX12_next_266 ?_
          refine lv_bipush (v := 48) hx hb dX12_next_267 (by decide) ?_
          refine lv_isub hx hb dX12_next_269 ?_
          refine lv_goto (tgt := 274) hx hb dX12_next_270 (by decide) ?_
          have ev8 : v8 = ((10 * (S6.1 43 0)) + (S6.1 17 (S6.1 40 0).toNatClampNeg)) - 48 := by rw [hv8]; simp only [if_neg cn44]
          exact W.eq (by simp only [ev8]) (kJ ls (by skip; exact lv_sub hl [0, 1] rfl))
def mf_next_L111 (N : Nat) (c13 : Int64) : Nat → mS → Int32 → Option (Int32)
  | 0, _, _ => none
  | n + 1, S15, v14 => (if 12 ≤ v14 then some v14 else (if ok v14 12 then (if (lg_cmp (S15.2 44 v14.toNatClampNeg) c13) = 0 then some v14 else mf_next_L111 N c13 n S15 (v14 + 1)) else none))
set_option maxRecDepth 100000 in
theorem wm_next_L111 {p : Program} {l : Launch} {e : Env} {R : Room} {s : State} {m : MethodId} {args : Array Value} {below : List Frame} {meth : Method} {c : Code} {Q : State → Prop} {g : mG} {A : Nat → Prop} {H0 : Heap} (hc : qC RX12 cX12_next p s m args c) (hR : qRoom R 3) (hml : c.maxLocals = 5) (N : Nat) (c13 : Int64) : ∀ (n : Nat) (S15 : mS) (v14 : Int32) (X : Int32) (H : Heap) (locs : List Loc) (ls : Array Slot), mf_next_L111 N c13 n S15 v14 = some X → mI g A H0 s S15 H locs → lv_has ls 5 [(0, .ref (mr g 0)), (2, .long c13), (4, .int v14)] → (∀ (H : Heap) (locs : List Loc) (ls : Array Slot), mI g A H0 s S15 H locs → lv_has ls 5 [(0, .ref (mr g 0)), (4, .int X)] → W p l e R s m args below meth c H locs 0 0 Q (F0 m 136 ls [])) → W p l e R s m args below meth c H locs 0 0 Q (F0 m 111 ls []) := by
  have hx := hc.1
  have hb := hc.2.1
  intro n
  induction n with
  | zero => intro _ _ X H locs ls hf; exact nomatch (show none = some X from hf)
  | succ n ih =>
    intro S15 v14 X H locs ls hf hw hl kx
    rw [mf_next_L111] at hf
    refine lv_iload hx hb dX12_next_111 (lv_at hl 2 rfl) ?_
    refine lv_bipush (v := 12) hx hb dX12_next_113 (by decide) ?_
    refine lv_icmp_ge (tgt := 136) hx hb dX12_next_115 (by decide) (fun cn48 => ?_) (fun cn48 => ?_)
    · have hf := (if_pos cn48).symm.trans hf
      cases hf
      exact kx _ _ _ hw (lv_sub hl [0, 2] rfl)
    · have hf := (if_neg cn48).symm.trans hf
      refine lv_aload_n hx hb dX12_next_118 rfl (lv_at hl 0 rfl) ?_
      refine m_g44 hc hw dX12_next_119 ?_
      refine lv_iload hx hb dX12_next_122 (lv_at hl 2 rfl) ?_
      obtain ⟨hi16, hf⟩ := gd_some hf
      have hi16 := ok_in hi16
      refine m_l44 hc hw hi16 dX12_next_124 ?_
      refine lv_lload_n hx hb dX12_next_125 rfl (lv_at hl 1 rfl) ?_
      refine W.lcmp hx hb dX12_next_126 ?_
      refine lv_if_eq (tgt := 136) hx hb dX12_next_127 (by decide) (fun cn49 => ?_) (fun cn49 => ?_)
      · have hf := (if_pos cn49).symm.trans hf
        cases hf
        exact kx _ _ _ hw (lv_sub hl [0, 2] rfl)
      · have hf := (if_neg cn49).symm.trans hf
        refine lv_iinc (lv' := [(4, .int (v14 + 1)), (0, .ref (mr g 0)), (2, .long c13)]) hx hb dX12_next_130 hl (k := 2) rfl rfl (by decide) rfl (fun ls hl => ?_)
        refine lv_goto (tgt := 111) hx hb dX12_next_133 (by decide) ?_
        exact ih _ _ X _ _ _ hf hw (lv_sub hl [1, 2, 0] rfl) kx
def mf_next (N : Nat) (S : mS) : Option (mS) := (bd1 (mf_next_L0 N N S) fun S3 => (if ((ms (ms (ms S3 41 0 (S3.1 40 0)) 42 0 0) 43 0 0).1 40 0) = ((ms (ms (ms S3 41 0 (S3.1 40 0)) 42 0 0) 43 0 0).1 18 0) then some (ms (ms (ms S3 41 0 (S3.1 40 0)) 42 0 0) 43 0 0) else (if ok ((ms (ms (ms S3 41 0 (S3.1 40 0)) 42 0 0) 43 0 0).1 40 0) 160 then (if (mf_in ((ms (ms (ms S3 41 0 (S3.1 40 0)) 42 0 0) 43 0 0).1 17 ((ms (ms (ms S3 41 0 (S3.1 40 0)) 42 0 0) 43 0 0).1 40 0).toNatClampNeg) 97 122) = true then (bd2 (mf_letters N (ms (ms (ms S3 41 0 (S3.1 40 0)) 42 0 0) 43 0 0)) fun v11 S12 => (bd1 (mf_next_L111 N v11 N S12 0) fun v17 => (if 3 ≤ v17 then (if 9 ≤ v17 then (if v17 = 12 then (if 3 ≤ v17 then some (ms (ms S12 42 0 (-1)) 43 0 (v17 - 3)) else some (ms (ms S12 42 0 (-1)) 43 0 v17)) else (if 3 ≤ v17 then some (ms (ms S12 42 0 ((4 + v17) - 9)) 43 0 (v17 - 3)) else some (ms (ms S12 42 0 ((4 + v17) - 9)) 43 0 v17))) else (if 3 ≤ v17 then some (ms (ms S12 42 0 2) 43 0 (v17 - 3)) else some (ms (ms S12 42 0 2) 43 0 v17))) else (if 3 ≤ v17 then some (ms (ms S12 42 0 3) 43 0 (v17 - 3)) else some (ms (ms S12 42 0 3) 43 0 v17))))) else (if (mf_in ((ms (ms (ms S3 41 0 (S3.1 40 0)) 42 0 0) 43 0 0).1 17 ((ms (ms (ms S3 41 0 (S3.1 40 0)) 42 0 0) 43 0 0).1 40 0).toNatClampNeg) 48 57) = true then (bd2 (mf_next_L214 N N (ms (ms (ms S3 41 0 (S3.1 40 0)) 42 0 0) 43 0 0) 0) fun v9 S10 => (if v9 ≤ 4 then some (ms S10 42 0 1) else some (ms S10 42 0 (-1)))) else (if ((ms (ms (ms S3 41 0 (S3.1 40 0)) 42 0 0) 43 0 0).1 17 ((ms (ms (ms S3 41 0 (S3.1 40 0)) 42 0 0) 43 0 0).1 40 0).toNatClampNeg) = 40 then (if 1 = 0 then some (ms (ms (ms (ms (ms S3 41 0 (S3.1 40 0)) 42 0 0) 43 0 0) 42 0 (-1)) 40 0 (((ms (ms (ms (ms S3 41 0 (S3.1 40 0)) 42 0 0) 43 0 0) 42 0 (-1)).1 40 0) + 1)) else some (ms (ms (ms (ms (ms S3 41 0 (S3.1 40 0)) 42 0 0) 43 0 0) 42 0 ((ms (ms (ms S3 41 0 (S3.1 40 0)) 42 0 0) 43 0 0).1 17 ((ms (ms (ms S3 41 0 (S3.1 40 0)) 42 0 0) 43 0 0).1 40 0).toNatClampNeg)) 40 0 (((ms (ms (ms (ms S3 41 0 (S3.1 40 0)) 42 0 0) 43 0 0) 42 0 ((ms (ms (ms S3 41 0 (S3.1 40 0)) 42 0 0) 43 0 0).1 17 ((ms (ms (ms S3 41 0 (S3.1 40 0)) 42 0 0) 43 0 0).1 40 0).toNatClampNeg)).1 40 0) + 1))) else (if ((ms (ms (ms S3 41 0 (S3.1 40 0)) 42 0 0) 43 0 0).1 17 ((ms (ms (ms S3 41 0 (S3.1 40 0)) 42 0 0) 43 0 0).1 40 0).toNatClampNeg) = 41 then (if 1 = 0 then some (ms (ms (ms (ms (ms S3 41 0 (S3.1 40 0)) 42 0 0) 43 0 0) 42 0 (-1)) 40 0 (((ms (ms (ms (ms S3 41 0 (S3.1 40 0)) 42 0 0) 43 0 0) 42 0 (-1)).1 40 0) + 1)) else some (ms (ms (ms (ms (ms S3 41 0 (S3.1 40 0)) 42 0 0) 43 0 0) 42 0 ((ms (ms (ms S3 41 0 (S3.1 40 0)) 42 0 0) 43 0 0).1 17 ((ms (ms (ms S3 41 0 (S3.1 40 0)) 42 0 0) 43 0 0).1 40 0).toNatClampNeg)) 40 0 (((ms (ms (ms (ms S3 41 0 (S3.1 40 0)) 42 0 0) 43 0 0) 42 0 ((ms (ms (ms S3 41 0 (S3.1 40 0)) 42 0 0) 43 0 0).1 17 ((ms (ms (ms S3 41 0 (S3.1 40 0)) 42 0 0) 43 0 0).1 40 0).toNatClampNeg)).1 40 0) + 1))) else (if ((ms (ms (ms S3 41 0 (S3.1 40 0)) 42 0 0) 43 0 0).1 17 ((ms (ms (ms S3 41 0 (S3.1 40 0)) 42 0 0) 43 0 0).1 40 0).toNatClampNeg) = 59 then (if 1 = 0 then some (ms (ms (ms (ms (ms S3 41 0 (S3.1 40 0)) 42 0 0) 43 0 0) 42 0 (-1)) 40 0 (((ms (ms (ms (ms S3 41 0 (S3.1 40 0)) 42 0 0) 43 0 0) 42 0 (-1)).1 40 0) + 1)) else some (ms (ms (ms (ms (ms S3 41 0 (S3.1 40 0)) 42 0 0) 43 0 0) 42 0 ((ms (ms (ms S3 41 0 (S3.1 40 0)) 42 0 0) 43 0 0).1 17 ((ms (ms (ms S3 41 0 (S3.1 40 0)) 42 0 0) 43 0 0).1 40 0).toNatClampNeg)) 40 0 (((ms (ms (ms (ms S3 41 0 (S3.1 40 0)) 42 0 0) 43 0 0) 42 0 ((ms (ms (ms S3 41 0 (S3.1 40 0)) 42 0 0) 43 0 0).1 17 ((ms (ms (ms S3 41 0 (S3.1 40 0)) 42 0 0) 43 0 0).1 40 0).toNatClampNeg)).1 40 0) + 1))) else (if ((ms (ms (ms S3 41 0 (S3.1 40 0)) 42 0 0) 43 0 0).1 17 ((ms (ms (ms S3 41 0 (S3.1 40 0)) 42 0 0) 43 0 0).1 40 0).toNatClampNeg) = 43 then (if 1 = 0 then some (ms (ms (ms (ms (ms S3 41 0 (S3.1 40 0)) 42 0 0) 43 0 0) 42 0 (-1)) 40 0 (((ms (ms (ms (ms S3 41 0 (S3.1 40 0)) 42 0 0) 43 0 0) 42 0 (-1)).1 40 0) + 1)) else some (ms (ms (ms (ms (ms S3 41 0 (S3.1 40 0)) 42 0 0) 43 0 0) 42 0 ((ms (ms (ms S3 41 0 (S3.1 40 0)) 42 0 0) 43 0 0).1 17 ((ms (ms (ms S3 41 0 (S3.1 40 0)) 42 0 0) 43 0 0).1 40 0).toNatClampNeg)) 40 0 (((ms (ms (ms (ms S3 41 0 (S3.1 40 0)) 42 0 0) 43 0 0) 42 0 ((ms (ms (ms S3 41 0 (S3.1 40 0)) 42 0 0) 43 0 0).1 17 ((ms (ms (ms S3 41 0 (S3.1 40 0)) 42 0 0) 43 0 0).1 40 0).toNatClampNeg)).1 40 0) + 1))) else (if ((ms (ms (ms S3 41 0 (S3.1 40 0)) 42 0 0) 43 0 0).1 17 ((ms (ms (ms S3 41 0 (S3.1 40 0)) 42 0 0) 43 0 0).1 40 0).toNatClampNeg) = 45 then (if 1 = 0 then some (ms (ms (ms (ms (ms S3 41 0 (S3.1 40 0)) 42 0 0) 43 0 0) 42 0 (-1)) 40 0 (((ms (ms (ms (ms S3 41 0 (S3.1 40 0)) 42 0 0) 43 0 0) 42 0 (-1)).1 40 0) + 1)) else some (ms (ms (ms (ms (ms S3 41 0 (S3.1 40 0)) 42 0 0) 43 0 0) 42 0 ((ms (ms (ms S3 41 0 (S3.1 40 0)) 42 0 0) 43 0 0).1 17 ((ms (ms (ms S3 41 0 (S3.1 40 0)) 42 0 0) 43 0 0).1 40 0).toNatClampNeg)) 40 0 (((ms (ms (ms (ms S3 41 0 (S3.1 40 0)) 42 0 0) 43 0 0) 42 0 ((ms (ms (ms S3 41 0 (S3.1 40 0)) 42 0 0) 43 0 0).1 17 ((ms (ms (ms S3 41 0 (S3.1 40 0)) 42 0 0) 43 0 0).1 40 0).toNatClampNeg)).1 40 0) + 1))) else (if ((ms (ms (ms S3 41 0 (S3.1 40 0)) 42 0 0) 43 0 0).1 17 ((ms (ms (ms S3 41 0 (S3.1 40 0)) 42 0 0) 43 0 0).1 40 0).toNatClampNeg) = 42 then (if 1 = 0 then some (ms (ms (ms (ms (ms S3 41 0 (S3.1 40 0)) 42 0 0) 43 0 0) 42 0 (-1)) 40 0 (((ms (ms (ms (ms S3 41 0 (S3.1 40 0)) 42 0 0) 43 0 0) 42 0 (-1)).1 40 0) + 1)) else some (ms (ms (ms (ms (ms S3 41 0 (S3.1 40 0)) 42 0 0) 43 0 0) 42 0 ((ms (ms (ms S3 41 0 (S3.1 40 0)) 42 0 0) 43 0 0).1 17 ((ms (ms (ms S3 41 0 (S3.1 40 0)) 42 0 0) 43 0 0).1 40 0).toNatClampNeg)) 40 0 (((ms (ms (ms (ms S3 41 0 (S3.1 40 0)) 42 0 0) 43 0 0) 42 0 ((ms (ms (ms S3 41 0 (S3.1 40 0)) 42 0 0) 43 0 0).1 17 ((ms (ms (ms S3 41 0 (S3.1 40 0)) 42 0 0) 43 0 0).1 40 0).toNatClampNeg)).1 40 0) + 1))) else (if ((ms (ms (ms S3 41 0 (S3.1 40 0)) 42 0 0) 43 0 0).1 17 ((ms (ms (ms S3 41 0 (S3.1 40 0)) 42 0 0) 43 0 0).1 40 0).toNatClampNeg) = 60 then (if 1 = 0 then some (ms (ms (ms (ms (ms S3 41 0 (S3.1 40 0)) 42 0 0) 43 0 0) 42 0 (-1)) 40 0 (((ms (ms (ms (ms S3 41 0 (S3.1 40 0)) 42 0 0) 43 0 0) 42 0 (-1)).1 40 0) + 1)) else some (ms (ms (ms (ms (ms S3 41 0 (S3.1 40 0)) 42 0 0) 43 0 0) 42 0 ((ms (ms (ms S3 41 0 (S3.1 40 0)) 42 0 0) 43 0 0).1 17 ((ms (ms (ms S3 41 0 (S3.1 40 0)) 42 0 0) 43 0 0).1 40 0).toNatClampNeg)) 40 0 (((ms (ms (ms (ms S3 41 0 (S3.1 40 0)) 42 0 0) 43 0 0) 42 0 ((ms (ms (ms S3 41 0 (S3.1 40 0)) 42 0 0) 43 0 0).1 17 ((ms (ms (ms S3 41 0 (S3.1 40 0)) 42 0 0) 43 0 0).1 40 0).toNatClampNeg)).1 40 0) + 1))) else (if ((ms (ms (ms S3 41 0 (S3.1 40 0)) 42 0 0) 43 0 0).1 17 ((ms (ms (ms S3 41 0 (S3.1 40 0)) 42 0 0) 43 0 0).1 40 0).toNatClampNeg) = 61 then (if 1 = 0 then some (ms (ms (ms (ms (ms S3 41 0 (S3.1 40 0)) 42 0 0) 43 0 0) 42 0 (-1)) 40 0 (((ms (ms (ms (ms S3 41 0 (S3.1 40 0)) 42 0 0) 43 0 0) 42 0 (-1)).1 40 0) + 1)) else some (ms (ms (ms (ms (ms S3 41 0 (S3.1 40 0)) 42 0 0) 43 0 0) 42 0 ((ms (ms (ms S3 41 0 (S3.1 40 0)) 42 0 0) 43 0 0).1 17 ((ms (ms (ms S3 41 0 (S3.1 40 0)) 42 0 0) 43 0 0).1 40 0).toNatClampNeg)) 40 0 (((ms (ms (ms (ms S3 41 0 (S3.1 40 0)) 42 0 0) 43 0 0) 42 0 ((ms (ms (ms S3 41 0 (S3.1 40 0)) 42 0 0) 43 0 0).1 17 ((ms (ms (ms S3 41 0 (S3.1 40 0)) 42 0 0) 43 0 0).1 40 0).toNatClampNeg)).1 40 0) + 1))) else (if 0 = 0 then some (ms (ms (ms (ms (ms S3 41 0 (S3.1 40 0)) 42 0 0) 43 0 0) 42 0 (-1)) 40 0 (((ms (ms (ms (ms S3 41 0 (S3.1 40 0)) 42 0 0) 43 0 0) 42 0 (-1)).1 40 0) + 1)) else some (ms (ms (ms (ms (ms S3 41 0 (S3.1 40 0)) 42 0 0) 43 0 0) 42 0 ((ms (ms (ms S3 41 0 (S3.1 40 0)) 42 0 0) 43 0 0).1 17 ((ms (ms (ms S3 41 0 (S3.1 40 0)) 42 0 0) 43 0 0).1 40 0).toNatClampNeg)) 40 0 (((ms (ms (ms (ms S3 41 0 (S3.1 40 0)) 42 0 0) 43 0 0) 42 0 ((ms (ms (ms S3 41 0 (S3.1 40 0)) 42 0 0) 43 0 0).1 17 ((ms (ms (ms S3 41 0 (S3.1 40 0)) 42 0 0) 43 0 0).1 40 0).toNatClampNeg)).1 40 0) + 1))))))))))))) else none)))
set_option maxRecDepth 100000 in
theorem cm_next (l : Launch) (N : Nat) (S : mS) (S1 : mS) (hf : mf_next N S = some S1) : mMv l yX12_next cX12_next 5 3 (fun g => [.ref (mr g 0)]) S S1 := by
  refine mMv_of (own := RX12) (by decide) rfl (fun g => Nat.le_of_ble_eq_true rfl) ?_
  intro p e R s m args below meth c Q g A H0 H locs ls hc hR hml hw hl hQ
  have hl : lv_has ls 5 [(0, .ref (mr g 0))] := hl
  have hx := hc.1
  have hb := hc.2.1
  unfold mf_next at hf
  obtain ⟨S3, hX, hf⟩ := bd1_some hf
  refine wm_next_L0 hc hR hml N N _ _ _ _ _ hX hw (lv_sub hl [0] rfl) (fun H locs ls hw hl => ?_)
  refine lv_aload_n hx hb dX12_next_52 rfl (lv_at hl 0 rfl) ?_
  refine lv_aload_n hx hb dX12_next_53 rfl (lv_at hl 0 rfl) ?_
  refine m_g40 hc hw dX12_next_54 ?_
  refine m_p41 hc hw dX12_next_57 (fun H locs hw => ?_)
  refine lv_aload_n hx hb dX12_next_60 rfl (lv_at hl 0 rfl) ?_
  refine lv_iconst (v := 0) hx hb dX12_next_61 (by decide) ?_
  refine m_p42 hc hw dX12_next_62 (fun H locs hw => ?_)
  refine lv_aload_n hx hb dX12_next_65 rfl (lv_at hl 0 rfl) ?_
  refine lv_iconst (v := 0) hx hb dX12_next_66 (by decide) ?_
  refine m_p43 hc hw dX12_next_67 (fun H locs hw => ?_)
  refine lv_aload_n hx hb dX12_next_70 rfl (lv_at hl 0 rfl) ?_
  refine m_g40 hc hw dX12_next_71 ?_
  refine lv_aload_n hx hb dX12_next_74 rfl (lv_at hl 0 rfl) ?_
  refine m_g18 hc hw dX12_next_75 ?_
  refine lv_icmp_ne (tgt := 82) hx hb dX12_next_78 (by decide) (fun cn22 => ?_) (fun cn22 => ?_)
  · have hf := (if_neg cn22).symm.trans hf
    refine lv_aload_n hx hb dX12_next_82 rfl (lv_at hl 0 rfl) ?_
    refine m_g17 hc hw dX12_next_83 ?_
    refine lv_aload_n hx hb dX12_next_86 rfl (lv_at hl 0 rfl) ?_
    refine m_g40 hc hw dX12_next_87 ?_
    obtain ⟨hi4, hf⟩ := gd_some hf
    have hi4 := ok_in hi4
    refine m_l17 hc hw hi4 dX12_next_90 ?_
    refine lv_istore_n (lv' := [(1, .int ((ms (ms (ms S3 41 0 (S3.1 40 0)) 42 0 0) 43 0 0).1 17 ((ms (ms (ms S3 41 0 (S3.1 40 0)) 42 0 0) 43 0 0).1 40 0).toNatClampNeg)), (0, .ref (mr g 0))]) hx hb dX12_next_91 rfl hl (by decide) rfl (fun ls hl => ?_)
    refine lv_iload_n hx hb dX12_next_92 rfl (lv_at hl 0 rfl) ?_
    refine lv_bipush (v := 97) hx hb dX12_next_93 (by decide) ?_
    refine lv_bipush (v := 122) hx hb dX12_next_95 (by decide) ?_
    refine m_csi (As := [.int ((ms (ms (ms S3 41 0 (S3.1 40 0)) 42 0 0) 43 0 0).1 17 ((ms (ms (ms S3 41 0 (S3.1 40 0)) 42 0 0) 43 0 0).1 40 0).toNatClampNeg), .int 97, .int 122]) (rest := []) hc hw hR (hml.trans hl.1.symm) (cm_in l (ms (ms (ms S3 41 0 (S3.1 40 0)) 42 0 0) 43 0 0) ((ms (ms (ms S3 41 0 (S3.1 40 0)) 42 0 0) 43 0 0).1 17 ((ms (ms (ms S3 41 0 (S3.1 40 0)) 42 0 0) 43 0 0).1 40 0).toNatClampNeg) 97 122 _ rfl) mq_in (by decide) rfl rfl rfl (Nat.le_of_ble_eq_true rfl) dX12_next_97 (fun H locs hw => ?_) ⟨Nat.zero_le _, Nat.zero_le _⟩
    refine lv_if_eqb (tgt := 201) hx hb dX12_next_100 (by decide) (fun cn23 => ?_) (fun cn23 => ?_)
    · have hf := (if_neg cn23).symm.trans hf
      refine lv_iload_n hx hb dX12_next_201 rfl (lv_at hl 0 rfl) ?_
      refine lv_bipush (v := 48) hx hb dX12_next_202 (by decide) ?_
      refine lv_bipush (v := 57) hx hb dX12_next_204 (by decide) ?_
      refine m_csi (As := [.int ((ms (ms (ms S3 41 0 (S3.1 40 0)) 42 0 0) 43 0 0).1 17 ((ms (ms (ms S3 41 0 (S3.1 40 0)) 42 0 0) 43 0 0).1 40 0).toNatClampNeg), .int 48, .int 57]) (rest := []) hc hw hR (hml.trans hl.1.symm) (cm_in l (ms (ms (ms S3 41 0 (S3.1 40 0)) 42 0 0) 43 0 0) ((ms (ms (ms S3 41 0 (S3.1 40 0)) 42 0 0) 43 0 0).1 17 ((ms (ms (ms S3 41 0 (S3.1 40 0)) 42 0 0) 43 0 0).1 40 0).toNatClampNeg) 48 57 _ rfl) mq_in (by decide) rfl rfl rfl (Nat.le_of_ble_eq_true rfl) dX12_next_206 (fun H locs hw => ?_) ⟨Nat.zero_le _, Nat.zero_le _⟩
      refine lv_if_eqb (tgt := 310) hx hb dX12_next_209 (by decide) (fun cn24 => ?_) (fun cn24 => ?_)
      · have hf := (if_neg cn24).symm.trans hf
        refine lv_iload_n hx hb dX12_next_310 rfl (lv_at hl 0 rfl) ?_
        refine lv_bipush (v := 40) hx hb dX12_next_311 (by decide) ?_
        refine lv_icmp_eq (tgt := 358) hx hb dX12_next_313 (by decide) (fun cn25 => ?_) (fun cn25 => ?_)
        · have hf := (if_pos cn25).symm.trans hf
          refine lv_iconst (v := 1) hx hb dX12_next_358 (by decide) ?_
          refine lv_goto (tgt := 363) hx hb dX12_next_359 (by decide) ?_
          refine lv_istore_n (lv' := [(2, .int 1), (1, .int ((ms (ms (ms S3 41 0 (S3.1 40 0)) 42 0 0) 43 0 0).1 17 ((ms (ms (ms S3 41 0 (S3.1 40 0)) 42 0 0) 43 0 0).1 40 0).toNatClampNeg)), (0, .ref (mr g 0))]) hx hb dX12_next_363 rfl hl (by decide) rfl (fun ls hl => ?_)
          refine lv_aload_n hx hb dX12_next_364 rfl (lv_at hl 2 rfl) ?_
          refine lv_iload_n hx hb dX12_next_365 rfl (lv_at hl 0 rfl) ?_
          refine lv_if_eq (tgt := 373) hx hb dX12_next_366 (by decide) (fun cn26 => ?_) (fun cn26 => ?_)
          · have hf := (if_pos cn26).symm.trans hf
            refine lv_iconst (v := (-1)) hx hb dX12_next_373 (by decide) ?_
            refine m_p42 hc hw dX12_next_374 (fun H locs hw => ?_)
            refine lv_aload_n hx hb dX12_next_377 rfl (lv_at hl 2 rfl) ?_
            refine lv_dup hx hb dX12_next_378 rfl ?_
            refine m_g40 hc hw dX12_next_379 ?_
            refine lv_iconst (v := 1) hx hb dX12_next_382 (by decide) ?_
            refine lv_iadd hx hb dX12_next_383 ?_
            refine m_p40 hc hw dX12_next_384 (fun H locs hw => ?_)
            cases hf
            exact hQ _ _ _ _ dX12_next_387 hw
          · have hf := (if_neg cn26).symm.trans hf
            refine lv_iload_n hx hb dX12_next_369 rfl (lv_at hl 1 rfl) ?_
            refine lv_goto (tgt := 374) hx hb dX12_next_370 (by decide) ?_
            refine m_p42 hc hw dX12_next_374 (fun H locs hw => ?_)
            refine lv_aload_n hx hb dX12_next_377 rfl (lv_at hl 2 rfl) ?_
            refine lv_dup hx hb dX12_next_378 rfl ?_
            refine m_g40 hc hw dX12_next_379 ?_
            refine lv_iconst (v := 1) hx hb dX12_next_382 (by decide) ?_
            refine lv_iadd hx hb dX12_next_383 ?_
            refine m_p40 hc hw dX12_next_384 (fun H locs hw => ?_)
            cases hf
            exact hQ _ _ _ _ dX12_next_387 hw
        · have hf := (if_neg cn25).symm.trans hf
          refine lv_iload_n hx hb dX12_next_316 rfl (lv_at hl 0 rfl) ?_
          refine lv_bipush (v := 41) hx hb dX12_next_317 (by decide) ?_
          refine lv_icmp_eq (tgt := 358) hx hb dX12_next_319 (by decide) (fun cn27 => ?_) (fun cn27 => ?_)
          · have hf := (if_pos cn27).symm.trans hf
            refine lv_iconst (v := 1) hx hb dX12_next_358 (by decide) ?_
            refine lv_goto (tgt := 363) hx hb dX12_next_359 (by decide) ?_
            refine lv_istore_n (lv' := [(2, .int 1), (1, .int ((ms (ms (ms S3 41 0 (S3.1 40 0)) 42 0 0) 43 0 0).1 17 ((ms (ms (ms S3 41 0 (S3.1 40 0)) 42 0 0) 43 0 0).1 40 0).toNatClampNeg)), (0, .ref (mr g 0))]) hx hb dX12_next_363 rfl hl (by decide) rfl (fun ls hl => ?_)
            refine lv_aload_n hx hb dX12_next_364 rfl (lv_at hl 2 rfl) ?_
            refine lv_iload_n hx hb dX12_next_365 rfl (lv_at hl 0 rfl) ?_
            refine lv_if_eq (tgt := 373) hx hb dX12_next_366 (by decide) (fun cn28 => ?_) (fun cn28 => ?_)
            · have hf := (if_pos cn28).symm.trans hf
              refine lv_iconst (v := (-1)) hx hb dX12_next_373 (by decide) ?_
              refine m_p42 hc hw dX12_next_374 (fun H locs hw => ?_)
              refine lv_aload_n hx hb dX12_next_377 rfl (lv_at hl 2 rfl) ?_
              refine lv_dup hx hb dX12_next_378 rfl ?_
              refine m_g40 hc hw dX12_next_379 ?_
              refine lv_iconst (v := 1) hx hb dX12_next_382 (by decide) ?_
              refine lv_iadd hx hb dX12_next_383 ?_
              refine m_p40 hc hw dX12_next_384 (fun H locs hw => ?_)
              cases hf
              exact hQ _ _ _ _ dX12_next_387 hw
            · have hf := (if_neg cn28).symm.trans hf
              refine lv_iload_n hx hb dX12_next_369 rfl (lv_at hl 1 rfl) ?_
              refine lv_goto (tgt := 374) hx hb dX12_next_370 (by decide) ?_
              refine m_p42 hc hw dX12_next_374 (fun H locs hw => ?_)
              refine lv_aload_n hx hb dX12_next_377 rfl (lv_at hl 2 rfl) ?_
              refine lv_dup hx hb dX12_next_378 rfl ?_
              refine m_g40 hc hw dX12_next_379 ?_
              refine lv_iconst (v := 1) hx hb dX12_next_382 (by decide) ?_
              refine lv_iadd hx hb dX12_next_383 ?_
              refine m_p40 hc hw dX12_next_384 (fun H locs hw => ?_)
              cases hf
              exact hQ _ _ _ _ dX12_next_387 hw
          · have hf := (if_neg cn27).symm.trans hf
            refine lv_iload_n hx hb dX12_next_322 rfl (lv_at hl 0 rfl) ?_
            refine lv_bipush (v := 59) hx hb dX12_next_323 (by decide) ?_
            refine lv_icmp_eq (tgt := 358) hx hb dX12_next_325 (by decide) (fun cn29 => ?_) (fun cn29 => ?_)
            · have hf := (if_pos cn29).symm.trans hf
              refine lv_iconst (v := 1) hx hb dX12_next_358 (by decide) ?_
              refine lv_goto (tgt := 363) hx hb dX12_next_359 (by decide) ?_
              refine lv_istore_n (lv' := [(2, .int 1), (1, .int ((ms (ms (ms S3 41 0 (S3.1 40 0)) 42 0 0) 43 0 0).1 17 ((ms (ms (ms S3 41 0 (S3.1 40 0)) 42 0 0) 43 0 0).1 40 0).toNatClampNeg)), (0, .ref (mr g 0))]) hx hb dX12_next_363 rfl hl (by decide) rfl (fun ls hl => ?_)
              refine lv_aload_n hx hb dX12_next_364 rfl (lv_at hl 2 rfl) ?_
              refine lv_iload_n hx hb dX12_next_365 rfl (lv_at hl 0 rfl) ?_
              refine lv_if_eq (tgt := 373) hx hb dX12_next_366 (by decide) (fun cn30 => ?_) (fun cn30 => ?_)
              · have hf := (if_pos cn30).symm.trans hf
                refine lv_iconst (v := (-1)) hx hb dX12_next_373 (by decide) ?_
                refine m_p42 hc hw dX12_next_374 (fun H locs hw => ?_)
                refine lv_aload_n hx hb dX12_next_377 rfl (lv_at hl 2 rfl) ?_
                refine lv_dup hx hb dX12_next_378 rfl ?_
                refine m_g40 hc hw dX12_next_379 ?_
                refine lv_iconst (v := 1) hx hb dX12_next_382 (by decide) ?_
                refine lv_iadd hx hb dX12_next_383 ?_
                refine m_p40 hc hw dX12_next_384 (fun H locs hw => ?_)
                cases hf
                exact hQ _ _ _ _ dX12_next_387 hw
              · have hf := (if_neg cn30).symm.trans hf
                refine lv_iload_n hx hb dX12_next_369 rfl (lv_at hl 1 rfl) ?_
                refine lv_goto (tgt := 374) hx hb dX12_next_370 (by decide) ?_
                refine m_p42 hc hw dX12_next_374 (fun H locs hw => ?_)
                refine lv_aload_n hx hb dX12_next_377 rfl (lv_at hl 2 rfl) ?_
                refine lv_dup hx hb dX12_next_378 rfl ?_
                refine m_g40 hc hw dX12_next_379 ?_
                refine lv_iconst (v := 1) hx hb dX12_next_382 (by decide) ?_
                refine lv_iadd hx hb dX12_next_383 ?_
                refine m_p40 hc hw dX12_next_384 (fun H locs hw => ?_)
                cases hf
                exact hQ _ _ _ _ dX12_next_387 hw
            · have hf := (if_neg cn29).symm.trans hf
              refine lv_iload_n hx hb dX12_next_328 rfl (lv_at hl 0 rfl) ?_
              refine lv_bipush (v := 43) hx hb dX12_next_329 (by decide) ?_
              refine lv_icmp_eq (tgt := 358) hx hb dX12_next_331 (by decide) (fun cn31 => ?_) (fun cn31 => ?_)
              · have hf := (if_pos cn31).symm.trans hf
                refine lv_iconst (v := 1) hx hb dX12_next_358 (by decide) ?_
                refine lv_goto (tgt := 363) hx hb dX12_next_359 (by decide) ?_
                refine lv_istore_n (lv' := [(2, .int 1), (1, .int ((ms (ms (ms S3 41 0 (S3.1 40 0)) 42 0 0) 43 0 0).1 17 ((ms (ms (ms S3 41 0 (S3.1 40 0)) 42 0 0) 43 0 0).1 40 0).toNatClampNeg)), (0, .ref (mr g 0))]) hx hb dX12_next_363 rfl hl (by decide) rfl (fun ls hl => ?_)
                refine lv_aload_n hx hb dX12_next_364 rfl (lv_at hl 2 rfl) ?_
                refine lv_iload_n hx hb dX12_next_365 rfl (lv_at hl 0 rfl) ?_
                refine lv_if_eq (tgt := 373) hx hb dX12_next_366 (by decide) (fun cn32 => ?_) (fun cn32 => ?_)
                · have hf := (if_pos cn32).symm.trans hf
                  refine lv_iconst (v := (-1)) hx hb dX12_next_373 (by decide) ?_
                  refine m_p42 hc hw dX12_next_374 (fun H locs hw => ?_)
                  refine lv_aload_n hx hb dX12_next_377 rfl (lv_at hl 2 rfl) ?_
                  refine lv_dup hx hb dX12_next_378 rfl ?_
                  refine m_g40 hc hw dX12_next_379 ?_
                  refine lv_iconst (v := 1) hx hb dX12_next_382 (by decide) ?_
                  refine lv_iadd hx hb dX12_next_383 ?_
                  refine m_p40 hc hw dX12_next_384 (fun H locs hw => ?_)
                  cases hf
                  exact hQ _ _ _ _ dX12_next_387 hw
                · have hf := (if_neg cn32).symm.trans hf
                  refine lv_iload_n hx hb dX12_next_369 rfl (lv_at hl 1 rfl) ?_
                  refine lv_goto (tgt := 374) hx hb dX12_next_370 (by decide) ?_
                  refine m_p42 hc hw dX12_next_374 (fun H locs hw => ?_)
                  refine lv_aload_n hx hb dX12_next_377 rfl (lv_at hl 2 rfl) ?_
                  refine lv_dup hx hb dX12_next_378 rfl ?_
                  refine m_g40 hc hw dX12_next_379 ?_
                  refine lv_iconst (v := 1) hx hb dX12_next_382 (by decide) ?_
                  refine lv_iadd hx hb dX12_next_383 ?_
                  refine m_p40 hc hw dX12_next_384 (fun H locs hw => ?_)
                  cases hf
                  exact hQ _ _ _ _ dX12_next_387 hw
              · have hf := (if_neg cn31).symm.trans hf
                refine lv_iload_n hx hb dX12_next_334 rfl (lv_at hl 0 rfl) ?_
                refine lv_bipush (v := 45) hx hb dX12_next_335 (by decide) ?_
                refine lv_icmp_eq (tgt := 358) hx hb dX12_next_337 (by decide) (fun cn33 => ?_) (fun cn33 => ?_)
                · have hf := (if_pos cn33).symm.trans hf
                  refine lv_iconst (v := 1) hx hb dX12_next_358 (by decide) ?_
                  refine lv_goto (tgt := 363) hx hb dX12_next_359 (by decide) ?_
                  refine lv_istore_n (lv' := [(2, .int 1), (1, .int ((ms (ms (ms S3 41 0 (S3.1 40 0)) 42 0 0) 43 0 0).1 17 ((ms (ms (ms S3 41 0 (S3.1 40 0)) 42 0 0) 43 0 0).1 40 0).toNatClampNeg)), (0, .ref (mr g 0))]) hx hb dX12_next_363 rfl hl (by decide) rfl (fun ls hl => ?_)
                  refine lv_aload_n hx hb dX12_next_364 rfl (lv_at hl 2 rfl) ?_
                  refine lv_iload_n hx hb dX12_next_365 rfl (lv_at hl 0 rfl) ?_
                  refine lv_if_eq (tgt := 373) hx hb dX12_next_366 (by decide) (fun cn34 => ?_) (fun cn34 => ?_)
                  · have hf := (if_pos cn34).symm.trans hf
                    refine lv_iconst (v := (-1)) hx hb dX12_next_373 (by decide) ?_
                    refine m_p42 hc hw dX12_next_374 (fun H locs hw => ?_)
                    refine lv_aload_n hx hb dX12_next_377 rfl (lv_at hl 2 rfl) ?_
                    refine lv_dup hx hb dX12_next_378 rfl ?_
                    refine m_g40 hc hw dX12_next_379 ?_
                    refine lv_iconst (v := 1) hx hb dX12_next_382 (by decide) ?_
                    refine lv_iadd hx hb dX12_next_383 ?_
                    refine m_p40 hc hw dX12_next_384 (fun H locs hw => ?_)
                    cases hf
                    exact hQ _ _ _ _ dX12_next_387 hw
                  · have hf := (if_neg cn34).symm.trans hf
                    refine lv_iload_n hx hb dX12_next_369 rfl (lv_at hl 1 rfl) ?_
                    refine lv_goto (tgt := 374) hx hb dX12_next_370 (by decide) ?_
                    refine m_p42 hc hw dX12_next_374 (fun H locs hw => ?_)
                    refine lv_aload_n hx hb dX12_next_377 rfl (lv_at hl 2 rfl) ?_
                    refine lv_dup hx hb dX12_next_378 rfl ?_
                    refine m_g40 hc hw dX12_next_379 ?_
                    refine lv_iconst (v := 1) hx hb dX12_next_382 (by decide) ?_
                    refine lv_iadd hx hb dX12_next_383 ?_
                    refine m_p40 hc hw dX12_next_384 (fun H locs hw => ?_)
                    cases hf
                    exact hQ _ _ _ _ dX12_next_387 hw
                · have hf := (if_neg cn33).symm.trans hf
                  refine lv_iload_n hx hb dX12_next_340 rfl (lv_at hl 0 rfl) ?_
                  refine lv_bipush (v := 42) hx hb dX12_next_341 (by decide) ?_
                  refine lv_icmp_eq (tgt := 358) hx hb dX12_next_343 (by decide) (fun cn35 => ?_) (fun cn35 => ?_)
                  · have hf := (if_pos cn35).symm.trans hf
                    refine lv_iconst (v := 1) hx hb dX12_next_358 (by decide) ?_
                    refine lv_goto (tgt := 363) hx hb dX12_next_359 (by decide) ?_
                    refine lv_istore_n (lv' := [(2, .int 1), (1, .int ((ms (ms (ms S3 41 0 (S3.1 40 0)) 42 0 0) 43 0 0).1 17 ((ms (ms (ms S3 41 0 (S3.1 40 0)) 42 0 0) 43 0 0).1 40 0).toNatClampNeg)), (0, .ref (mr g 0))]) hx hb dX12_next_363 rfl hl (by decide) rfl (fun ls hl => ?_)
                    refine lv_aload_n hx hb dX12_next_364 rfl (lv_at hl 2 rfl) ?_
                    refine lv_iload_n hx hb dX12_next_365 rfl (lv_at hl 0 rfl) ?_
                    refine lv_if_eq (tgt := 373) hx hb dX12_next_366 (by decide) (fun cn36 => ?_) (fun cn36 => ?_)
                    · have hf := (if_pos cn36).symm.trans hf
                      refine lv_iconst (v := (-1)) hx hb dX12_next_373 (by decide) ?_
                      refine m_p42 hc hw dX12_next_374 (fun H locs hw => ?_)
                      refine lv_aload_n hx hb dX12_next_377 rfl (lv_at hl 2 rfl) ?_
                      refine lv_dup hx hb dX12_next_378 rfl ?_
                      refine m_g40 hc hw dX12_next_379 ?_
                      refine lv_iconst (v := 1) hx hb dX12_next_382 (by decide) ?_
                      refine lv_iadd hx hb dX12_next_383 ?_
                      refine m_p40 hc hw dX12_next_384 (fun H locs hw => ?_)
                      cases hf
                      exact hQ _ _ _ _ dX12_next_387 hw
                    · have hf := (if_neg cn36).symm.trans hf
                      refine lv_iload_n hx hb dX12_next_369 rfl (lv_at hl 1 rfl) ?_
                      refine lv_goto (tgt := 374) hx hb dX12_next_370 (by decide) ?_
                      refine m_p42 hc hw dX12_next_374 (fun H locs hw => ?_)
                      refine lv_aload_n hx hb dX12_next_377 rfl (lv_at hl 2 rfl) ?_
                      refine lv_dup hx hb dX12_next_378 rfl ?_
                      refine m_g40 hc hw dX12_next_379 ?_
                      refine lv_iconst (v := 1) hx hb dX12_next_382 (by decide) ?_
                      refine lv_iadd hx hb dX12_next_383 ?_
                      refine m_p40 hc hw dX12_next_384 (fun H locs hw => ?_)
                      cases hf
                      exact hQ _ _ _ _ dX12_next_387 hw
                  · have hf := (if_neg cn35).symm.trans hf
                    refine lv_iload_n hx hb dX12_next_346 rfl (lv_at hl 0 rfl) ?_
                    refine lv_bipush (v := 60) hx hb dX12_next_347 (by decide) ?_
                    refine lv_icmp_eq (tgt := 358) hx hb dX12_next_349 (by decide) (fun cn37 => ?_) (fun cn37 => ?_)
                    · have hf := (if_pos cn37).symm.trans hf
                      refine lv_iconst (v := 1) hx hb dX12_next_358 (by decide) ?_
                      refine lv_goto (tgt := 363) hx hb dX12_next_359 (by decide) ?_
                      refine lv_istore_n (lv' := [(2, .int 1), (1, .int ((ms (ms (ms S3 41 0 (S3.1 40 0)) 42 0 0) 43 0 0).1 17 ((ms (ms (ms S3 41 0 (S3.1 40 0)) 42 0 0) 43 0 0).1 40 0).toNatClampNeg)), (0, .ref (mr g 0))]) hx hb dX12_next_363 rfl hl (by decide) rfl (fun ls hl => ?_)
                      refine lv_aload_n hx hb dX12_next_364 rfl (lv_at hl 2 rfl) ?_
                      refine lv_iload_n hx hb dX12_next_365 rfl (lv_at hl 0 rfl) ?_
                      refine lv_if_eq (tgt := 373) hx hb dX12_next_366 (by decide) (fun cn38 => ?_) (fun cn38 => ?_)
                      · have hf := (if_pos cn38).symm.trans hf
                        refine lv_iconst (v := (-1)) hx hb dX12_next_373 (by decide) ?_
                        refine m_p42 hc hw dX12_next_374 (fun H locs hw => ?_)
                        refine lv_aload_n hx hb dX12_next_377 rfl (lv_at hl 2 rfl) ?_
                        refine lv_dup hx hb dX12_next_378 rfl ?_
                        refine m_g40 hc hw dX12_next_379 ?_
                        refine lv_iconst (v := 1) hx hb dX12_next_382 (by decide) ?_
                        refine lv_iadd hx hb dX12_next_383 ?_
                        refine m_p40 hc hw dX12_next_384 (fun H locs hw => ?_)
                        cases hf
                        exact hQ _ _ _ _ dX12_next_387 hw
                      · have hf := (if_neg cn38).symm.trans hf
                        refine lv_iload_n hx hb dX12_next_369 rfl (lv_at hl 1 rfl) ?_
                        refine lv_goto (tgt := 374) hx hb dX12_next_370 (by decide) ?_
                        refine m_p42 hc hw dX12_next_374 (fun H locs hw => ?_)
                        refine lv_aload_n hx hb dX12_next_377 rfl (lv_at hl 2 rfl) ?_
                        refine lv_dup hx hb dX12_next_378 rfl ?_
                        refine m_g40 hc hw dX12_next_379 ?_
                        refine lv_iconst (v := 1) hx hb dX12_next_382 (by decide) ?_
                        refine lv_iadd hx hb dX12_next_383 ?_
                        refine m_p40 hc hw dX12_next_384 (fun H locs hw => ?_)
                        cases hf
                        exact hQ _ _ _ _ dX12_next_387 hw
                    · have hf := (if_neg cn37).symm.trans hf
                      refine lv_iload_n hx hb dX12_next_352 rfl (lv_at hl 0 rfl) ?_
                      refine lv_bipush (v := 61) hx hb dX12_next_353 (by decide) ?_
                      refine lv_icmp_ne (tgt := 362) hx hb dX12_next_355 (by decide) (fun cn39 => ?_) (fun cn39 => ?_)
                      · have hf := (if_neg cn39).symm.trans hf
                        refine lv_iconst (v := 0) hx hb dX12_next_362 (by decide) ?_
                        refine lv_istore_n (lv' := [(2, .int 0), (1, .int ((ms (ms (ms S3 41 0 (S3.1 40 0)) 42 0 0) 43 0 0).1 17 ((ms (ms (ms S3 41 0 (S3.1 40 0)) 42 0 0) 43 0 0).1 40 0).toNatClampNeg)), (0, .ref (mr g 0))]) hx hb dX12_next_363 rfl hl (by decide) rfl (fun ls hl => ?_)
                        refine lv_aload_n hx hb dX12_next_364 rfl (lv_at hl 2 rfl) ?_
                        refine lv_iload_n hx hb dX12_next_365 rfl (lv_at hl 0 rfl) ?_
                        refine lv_if_eq (tgt := 373) hx hb dX12_next_366 (by decide) (fun cn40 => ?_) (fun cn40 => ?_)
                        · have hf := (if_pos cn40).symm.trans hf
                          refine lv_iconst (v := (-1)) hx hb dX12_next_373 (by decide) ?_
                          refine m_p42 hc hw dX12_next_374 (fun H locs hw => ?_)
                          refine lv_aload_n hx hb dX12_next_377 rfl (lv_at hl 2 rfl) ?_
                          refine lv_dup hx hb dX12_next_378 rfl ?_
                          refine m_g40 hc hw dX12_next_379 ?_
                          refine lv_iconst (v := 1) hx hb dX12_next_382 (by decide) ?_
                          refine lv_iadd hx hb dX12_next_383 ?_
                          refine m_p40 hc hw dX12_next_384 (fun H locs hw => ?_)
                          cases hf
                          exact hQ _ _ _ _ dX12_next_387 hw
                        · have hf := (if_neg cn40).symm.trans hf
                          refine lv_iload_n hx hb dX12_next_369 rfl (lv_at hl 1 rfl) ?_
                          refine lv_goto (tgt := 374) hx hb dX12_next_370 (by decide) ?_
                          refine m_p42 hc hw dX12_next_374 (fun H locs hw => ?_)
                          refine lv_aload_n hx hb dX12_next_377 rfl (lv_at hl 2 rfl) ?_
                          refine lv_dup hx hb dX12_next_378 rfl ?_
                          refine m_g40 hc hw dX12_next_379 ?_
                          refine lv_iconst (v := 1) hx hb dX12_next_382 (by decide) ?_
                          refine lv_iadd hx hb dX12_next_383 ?_
                          refine m_p40 hc hw dX12_next_384 (fun H locs hw => ?_)
                          cases hf
                          exact hQ _ _ _ _ dX12_next_387 hw
                      · have hf := (if_pos cn39).symm.trans hf
                        refine lv_iconst (v := 1) hx hb dX12_next_358 (by decide) ?_
                        refine lv_goto (tgt := 363) hx hb dX12_next_359 (by decide) ?_
                        refine lv_istore_n (lv' := [(2, .int 1), (1, .int ((ms (ms (ms S3 41 0 (S3.1 40 0)) 42 0 0) 43 0 0).1 17 ((ms (ms (ms S3 41 0 (S3.1 40 0)) 42 0 0) 43 0 0).1 40 0).toNatClampNeg)), (0, .ref (mr g 0))]) hx hb dX12_next_363 rfl hl (by decide) rfl (fun ls hl => ?_)
                        refine lv_aload_n hx hb dX12_next_364 rfl (lv_at hl 2 rfl) ?_
                        refine lv_iload_n hx hb dX12_next_365 rfl (lv_at hl 0 rfl) ?_
                        refine lv_if_eq (tgt := 373) hx hb dX12_next_366 (by decide) (fun cn41 => ?_) (fun cn41 => ?_)
                        · have hf := (if_pos cn41).symm.trans hf
                          refine lv_iconst (v := (-1)) hx hb dX12_next_373 (by decide) ?_
                          refine m_p42 hc hw dX12_next_374 (fun H locs hw => ?_)
                          refine lv_aload_n hx hb dX12_next_377 rfl (lv_at hl 2 rfl) ?_
                          refine lv_dup hx hb dX12_next_378 rfl ?_
                          refine m_g40 hc hw dX12_next_379 ?_
                          refine lv_iconst (v := 1) hx hb dX12_next_382 (by decide) ?_
                          refine lv_iadd hx hb dX12_next_383 ?_
                          refine m_p40 hc hw dX12_next_384 (fun H locs hw => ?_)
                          cases hf
                          exact hQ _ _ _ _ dX12_next_387 hw
                        · have hf := (if_neg cn41).symm.trans hf
                          refine lv_iload_n hx hb dX12_next_369 rfl (lv_at hl 1 rfl) ?_
                          refine lv_goto (tgt := 374) hx hb dX12_next_370 (by decide) ?_
                          refine m_p42 hc hw dX12_next_374 (fun H locs hw => ?_)
                          refine lv_aload_n hx hb dX12_next_377 rfl (lv_at hl 2 rfl) ?_
                          refine lv_dup hx hb dX12_next_378 rfl ?_
                          refine m_g40 hc hw dX12_next_379 ?_
                          refine lv_iconst (v := 1) hx hb dX12_next_382 (by decide) ?_
                          refine lv_iadd hx hb dX12_next_383 ?_
                          refine m_p40 hc hw dX12_next_384 (fun H locs hw => ?_)
                          cases hf
                          exact hQ _ _ _ _ dX12_next_387 hw
      · have hf := (if_pos cn24).symm.trans hf
        refine lv_iconst (v := 0) hx hb dX12_next_212 (by decide) ?_
        refine lv_istore_n (lv' := [(2, .int 0), (1, .int ((ms (ms (ms S3 41 0 (S3.1 40 0)) 42 0 0) 43 0 0).1 17 ((ms (ms (ms S3 41 0 (S3.1 40 0)) 42 0 0) 43 0 0).1 40 0).toNatClampNeg)), (0, .ref (mr g 0))]) hx hb dX12_next_213 rfl hl (by decide) rfl (fun ls hl => ?_)
        obtain ⟨v9, S10, hX, hf⟩ := bd2_some hf
        refine wm_next_L214 hc hR hml N N _ _ _ _ _ _ hX hw (lv_sub hl [2, 0] rfl) (fun H locs ls hw hl => ?_)
        refine lv_aload_n hx hb dX12_next_293 rfl (lv_at hl 0 rfl) ?_
        refine lv_iload_n hx hb dX12_next_294 rfl (lv_at hl 1 rfl) ?_
        refine lv_iconst (v := 4) hx hb dX12_next_295 (by decide) ?_
        refine lv_icmp_le (tgt := 303) hx hb dX12_next_296 (by decide) (fun cn47 => ?_) (fun cn47 => ?_)
        · have hf := (if_pos cn47).symm.trans hf
          refine lv_iconst (v := 1) hx hb dX12_next_303 (by decide) ?_
          refine m_p42 hc hw dX12_next_304 (fun H locs hw => ?_)
          refine lv_goto (tgt := 387) hx hb dX12_next_307 (by decide) ?_
          cases hf
          exact hQ _ _ _ _ dX12_next_387 hw
        · have hf := (if_neg cn47).symm.trans hf
          refine lv_iconst (v := (-1)) hx hb dX12_next_299 (by decide) ?_
          refine lv_goto (tgt := 304) hx hb dX12_next_300 (by decide) ?_
          refine m_p42 hc hw dX12_next_304 (fun H locs hw => ?_)
          refine lv_goto (tgt := 387) hx hb dX12_next_307 (by decide) ?_
          cases hf
          exact hQ _ _ _ _ dX12_next_387 hw
    · have hf := (if_pos cn23).symm.trans hf
      refine lv_aload_n hx hb dX12_next_103 rfl (lv_at hl 1 rfl) ?_
      obtain ⟨v11, S12, hcall, hf⟩ := bd2_some hf
      refine m_cvl (As := []) (rest := []) hc hw hR (hml.trans hl.1.symm) (cm_letters l N (ms (ms (ms S3 41 0 (S3.1 40 0)) 42 0 0) 43 0 0) v11 S12 hcall) mq_letters rfl (by decide) rfl rfl rfl (Nat.le_of_ble_eq_true rfl) dX12_next_104 (fun H locs hw => ?_) ⟨Nat.zero_le _, Nat.zero_le _⟩
      refine lv_lstore_n (lv' := [(2, .long v11), (1, .int ((ms (ms (ms S3 41 0 (S3.1 40 0)) 42 0 0) 43 0 0).1 17 ((ms (ms (ms S3 41 0 (S3.1 40 0)) 42 0 0) 43 0 0).1 40 0).toNatClampNeg)), (0, .ref (mr g 0))]) hx hb dX12_next_107 rfl hl (by decide) rfl (fun ls hl => ?_)
      refine lv_iconst (v := 0) hx hb dX12_next_108 (by decide) ?_
      refine lv_istore (lv' := [(4, .int 0), (2, .long v11), (1, .int ((ms (ms (ms S3 41 0 (S3.1 40 0)) 42 0 0) 43 0 0).1 17 ((ms (ms (ms S3 41 0 (S3.1 40 0)) 42 0 0) 43 0 0).1 40 0).toNatClampNeg)), (0, .ref (mr g 0))]) hx hb dX12_next_109 hl (by decide) rfl (fun ls hl => ?_)
      obtain ⟨v17, hX, hf⟩ := bd1_some hf
      refine wm_next_L111 hc hR hml N v11 N _ _ _ _ _ _ hX hw (lv_sub hl [3, 1, 0] rfl) (fun H locs ls hw hl => ?_)
      refine lv_aload_n hx hb dX12_next_136 rfl (lv_at hl 0 rfl) ?_
      refine lv_iload hx hb dX12_next_137 (lv_at hl 1 rfl) ?_
      refine lv_iconst (v := 3) hx hb dX12_next_139 (by decide) ?_
      refine lv_icmp_ge (tgt := 147) hx hb dX12_next_140 (by decide) (fun cn51 => ?_) (fun cn51 => ?_)
      · have hf := (if_pos cn51).symm.trans hf
        refine lv_iload hx hb dX12_next_147 (lv_at hl 1 rfl) ?_
        refine lv_bipush (v := 9) hx hb dX12_next_149 (by decide) ?_
        refine lv_icmp_ge (tgt := 158) hx hb dX12_next_151 (by decide) (fun cn52 => ?_) (fun cn52 => ?_)
        · have hf := (if_pos cn52).symm.trans hf
          refine lv_iload hx hb dX12_next_158 (lv_at hl 1 rfl) ?_
          refine lv_bipush (v := 12) hx hb dX12_next_160 (by decide) ?_
          refine lv_icmp_ne (tgt := 169) hx hb dX12_next_162 (by decide) (fun cn53 => ?_) (fun cn53 => ?_)
          · have hf := (if_neg cn53).symm.trans hf
            refine lv_iconst (v := 4) hx hb dX12_next_169 (by decide) ?_
            refine lv_iload hx hb dX12_next_170 (lv_at hl 1 rfl) ?_
            refine lv_iadd hx hb dX12_next_172 ?_
            refine lv_bipush (v := 9) hx hb dX12_next_173 (by decide) ?_
            refine lv_isub hx hb dX12_next_175 ?_
            refine m_p42 hc hw dX12_next_176 (fun H locs hw => ?_)
            refine lv_aload_n hx hb dX12_next_179 rfl (lv_at hl 0 rfl) ?_
            refine lv_iload hx hb dX12_next_180 (lv_at hl 1 rfl) ?_
            refine lv_iconst (v := 3) hx hb dX12_next_182 (by decide) ?_
            refine lv_icmp_ge (tgt := 191) hx hb dX12_next_183 (by decide) (fun cn54 => ?_) (fun cn54 => ?_)
            · have hf := (if_pos cn54).symm.trans hf
              refine lv_iload hx hb dX12_next_191 (lv_at hl 1 rfl) ?_
              refine lv_iconst (v := 3) hx hb dX12_next_193 (by decide) ?_
              refine lv_isub hx hb dX12_next_194 ?_
              refine m_p43 hc hw dX12_next_195 (fun H locs hw => ?_)
              refine lv_goto (tgt := 387) hx hb dX12_next_198 (by decide) ?_
              cases hf
              exact hQ _ _ _ _ dX12_next_387 hw
            · have hf := (if_neg cn54).symm.trans hf
              refine lv_iload hx hb dX12_next_186 (lv_at hl 1 rfl) ?_
              refine lv_goto (tgt := 195) hx hb dX12_next_188 (by decide) ?_
              refine m_p43 hc hw dX12_next_195 (fun H locs hw => ?_)
              refine lv_goto (tgt := 387) hx hb dX12_next_198 (by decide) ?_
              cases hf
              exact hQ _ _ _ _ dX12_next_387 hw
          · have hf := (if_pos cn53).symm.trans hf
            refine lv_iconst (v := (-1)) hx hb dX12_next_165 (by decide) ?_
            refine lv_goto (tgt := 176) hx hb dX12_next_166 (by decide) ?_
            refine m_p42 hc hw dX12_next_176 (fun H locs hw => ?_)
            refine lv_aload_n hx hb dX12_next_179 rfl (lv_at hl 0 rfl) ?_
            refine lv_iload hx hb dX12_next_180 (lv_at hl 1 rfl) ?_
            refine lv_iconst (v := 3) hx hb dX12_next_182 (by decide) ?_
            refine lv_icmp_ge (tgt := 191) hx hb dX12_next_183 (by decide) (fun cn55 => ?_) (fun cn55 => ?_)
            · have hf := (if_pos cn55).symm.trans hf
              refine lv_iload hx hb dX12_next_191 (lv_at hl 1 rfl) ?_
              refine lv_iconst (v := 3) hx hb dX12_next_193 (by decide) ?_
              refine lv_isub hx hb dX12_next_194 ?_
              refine m_p43 hc hw dX12_next_195 (fun H locs hw => ?_)
              refine lv_goto (tgt := 387) hx hb dX12_next_198 (by decide) ?_
              cases hf
              exact hQ _ _ _ _ dX12_next_387 hw
            · have hf := (if_neg cn55).symm.trans hf
              refine lv_iload hx hb dX12_next_186 (lv_at hl 1 rfl) ?_
              refine lv_goto (tgt := 195) hx hb dX12_next_188 (by decide) ?_
              refine m_p43 hc hw dX12_next_195 (fun H locs hw => ?_)
              refine lv_goto (tgt := 387) hx hb dX12_next_198 (by decide) ?_
              cases hf
              exact hQ _ _ _ _ dX12_next_387 hw
        · have hf := (if_neg cn52).symm.trans hf
          refine lv_iconst (v := 2) hx hb dX12_next_154 (by decide) ?_
          refine lv_goto (tgt := 176) hx hb dX12_next_155 (by decide) ?_
          refine m_p42 hc hw dX12_next_176 (fun H locs hw => ?_)
          refine lv_aload_n hx hb dX12_next_179 rfl (lv_at hl 0 rfl) ?_
          refine lv_iload hx hb dX12_next_180 (lv_at hl 1 rfl) ?_
          refine lv_iconst (v := 3) hx hb dX12_next_182 (by decide) ?_
          refine lv_icmp_ge (tgt := 191) hx hb dX12_next_183 (by decide) (fun cn56 => ?_) (fun cn56 => ?_)
          · have hf := (if_pos cn56).symm.trans hf
            refine lv_iload hx hb dX12_next_191 (lv_at hl 1 rfl) ?_
            refine lv_iconst (v := 3) hx hb dX12_next_193 (by decide) ?_
            refine lv_isub hx hb dX12_next_194 ?_
            refine m_p43 hc hw dX12_next_195 (fun H locs hw => ?_)
            refine lv_goto (tgt := 387) hx hb dX12_next_198 (by decide) ?_
            cases hf
            exact hQ _ _ _ _ dX12_next_387 hw
          · have hf := (if_neg cn56).symm.trans hf
            refine lv_iload hx hb dX12_next_186 (lv_at hl 1 rfl) ?_
            refine lv_goto (tgt := 195) hx hb dX12_next_188 (by decide) ?_
            refine m_p43 hc hw dX12_next_195 (fun H locs hw => ?_)
            refine lv_goto (tgt := 387) hx hb dX12_next_198 (by decide) ?_
            cases hf
            exact hQ _ _ _ _ dX12_next_387 hw
      · have hf := (if_neg cn51).symm.trans hf
        refine lv_iconst (v := 3) hx hb dX12_next_143 (by decide) ?_
        refine lv_goto (tgt := 176) hx hb dX12_next_144 (by decide) ?_
        refine m_p42 hc hw dX12_next_176 (fun H locs hw => ?_)
        refine lv_aload_n hx hb dX12_next_179 rfl (lv_at hl 0 rfl) ?_
        refine lv_iload hx hb dX12_next_180 (lv_at hl 1 rfl) ?_
        refine lv_iconst (v := 3) hx hb dX12_next_182 (by decide) ?_
        refine lv_icmp_ge (tgt := 191) hx hb dX12_next_183 (by decide) (fun cn57 => ?_) (fun cn57 => ?_)
        · have hf := (if_pos cn57).symm.trans hf
          refine lv_iload hx hb dX12_next_191 (lv_at hl 1 rfl) ?_
          refine lv_iconst (v := 3) hx hb dX12_next_193 (by decide) ?_
          refine lv_isub hx hb dX12_next_194 ?_
          refine m_p43 hc hw dX12_next_195 (fun H locs hw => ?_)
          refine lv_goto (tgt := 387) hx hb dX12_next_198 (by decide) ?_
          cases hf
          exact hQ _ _ _ _ dX12_next_387 hw
        · have hf := (if_neg cn57).symm.trans hf
          refine lv_iload hx hb dX12_next_186 (lv_at hl 1 rfl) ?_
          refine lv_goto (tgt := 195) hx hb dX12_next_188 (by decide) ?_
          refine m_p43 hc hw dX12_next_195 (fun H locs hw => ?_)
          refine lv_goto (tgt := 387) hx hb dX12_next_198 (by decide) ?_
          cases hf
          exact hQ _ _ _ _ dX12_next_387 hw
  · have hf := (if_pos cn22).symm.trans hf
    cases hf
    exact hQ _ _ _ _ dX12_next_81 hw
theorem mq_next : qCv RX12 249 yX12_next cX12_next 5 none 0 := ⟨⟨(mem_g 1409 (by decide +kernel) rfl), (mem_g 1411 (by decide +kernel) rfl), (mem_g 43 (by decide +kernel) rfl), (mem_g 89 (by decide +kernel) rfl), (mem_g 1412 (by decide +kernel) rfl)⟩, by decide, by decide +kernel, by decide⟩
def mf_between (N : Nat) (S : mS) (a1 : Int32) : Option (Bool × mS) := (if (mf_rank a1) = 4 then (bd1 (mf_unwinds N S 5) fun S6 => (if (mf_rank a1) = 4 then (if (S6.1 46 0) ≤ 0 then (bd1 (mf_holds N S6 a1) fun S8 => some (true, S8)) else (if ok ((S6.1 46 0) - 1) 200 then (if (mf_rank (S6.1 45 ((S6.1 46 0) - 1).toNatClampNeg)) = 4 then some (false, S6) else (bd1 (mf_holds N S6 a1) fun S10 => some (true, S10))) else none)) else (bd1 (mf_holds N S6 a1) fun S7 => some (true, S7)))) else (bd1 (mf_unwinds N S (mf_rank a1)) fun S1 => (if (mf_rank a1) = 4 then (if (S1.1 46 0) ≤ 0 then (bd1 (mf_holds N S1 a1) fun S3 => some (true, S3)) else (if ok ((S1.1 46 0) - 1) 200 then (if (mf_rank (S1.1 45 ((S1.1 46 0) - 1).toNatClampNeg)) = 4 then some (false, S1) else (bd1 (mf_holds N S1 a1) fun S5 => some (true, S5))) else none)) else (bd1 (mf_holds N S1 a1) fun S2 => some (true, S2)))))
set_option maxRecDepth 100000 in
theorem cm_between (l : Launch) (N : Nat) (S : mS) (a1 : Int32) (res : Bool) (S1 : mS) (hf : mf_between N S a1 = some (res, S1)) : mMi l yX12_between cX12_between 2 .boolean 3 (fun g => [.ref (mr g 0), .int a1]) S (bi res) S1 := by
  refine mMi_of (own := RX12) (by decide) rfl (narrow_bi _) (fun g => Nat.le_of_ble_eq_true rfl) ?_
  intro p e R s m args below meth c Q g A H0 H locs ls hc hR hml hw hl hQ
  have hl : lv_has ls 2 [(0, .ref (mr g 0)), (1, .int a1)] := hl
  have hx := hc.1
  have hb := hc.2.1
  unfold mf_between at hf
  refine lv_aload_n hx hb dX12_between_0 rfl (lv_at hl 0 rfl) ?_
  refine lv_iload_n hx hb dX12_between_1 rfl (lv_at hl 1 rfl) ?_
  refine m_csi (As := [.int a1]) (rest := [.ref (mr g 0)]) hc hw hR (hml.trans hl.1.symm) (cm_rank l S a1 _ rfl) mq_rank (by decide) rfl rfl rfl (Nat.le_of_ble_eq_true rfl) dX12_between_2 (fun H locs hw => ?_) ⟨Nat.zero_le _, Nat.zero_le _⟩
  refine lv_iconst (v := 4) hx hb dX12_between_5 (by decide) ?_
  refine lv_icmp_ne (tgt := 13) hx hb dX12_between_6 (by decide) (fun cn11 => ?_) (fun cn11 => ?_)
  · have hf := (if_neg cn11).symm.trans hf
    refine lv_iload_n hx hb dX12_between_13 rfl (lv_at hl 1 rfl) ?_
    refine m_csi (As := [.int a1]) (rest := [.ref (mr g 0)]) hc hw hR (hml.trans hl.1.symm) (cm_rank l S a1 _ rfl) mq_rank (by decide) rfl rfl rfl (Nat.le_of_ble_eq_true rfl) dX12_between_14 (fun H locs hw => ?_) ⟨Nat.zero_le _, Nat.zero_le _⟩
    obtain ⟨S1, hcall, hf⟩ := bd1_some hf
    refine m_cvv (As := [.int (mf_rank a1)]) (rest := []) hc hw hR (hml.trans hl.1.symm) (cm_unwinds l N S (mf_rank a1) S1 hcall) mq_unwinds rfl (by decide) rfl rfl rfl (Nat.le_of_ble_eq_true rfl) dX12_between_17 (fun H locs hw => ?_) ⟨Nat.zero_le _, Nat.zero_le _⟩
    refine lv_iload_n hx hb dX12_between_20 rfl (lv_at hl 1 rfl) ?_
    refine m_csi (As := [.int a1]) (rest := []) hc hw hR (hml.trans hl.1.symm) (cm_rank l S1 a1 _ rfl) mq_rank (by decide) rfl rfl rfl (Nat.le_of_ble_eq_true rfl) dX12_between_21 (fun H locs hw => ?_) ⟨Nat.zero_le _, Nat.zero_le _⟩
    refine lv_iconst (v := 4) hx hb dX12_between_24 (by decide) ?_
    refine lv_icmp_ne (tgt := 55) hx hb dX12_between_25 (by decide) (fun cn12 => ?_) (fun cn12 => ?_)
    · have hf := (if_neg cn12).symm.trans hf
      refine lv_aload_n hx hb dX12_between_55 rfl (lv_at hl 0 rfl) ?_
      refine lv_iload_n hx hb dX12_between_56 rfl (lv_at hl 1 rfl) ?_
      obtain ⟨S2, hcall, hf⟩ := bd1_some hf
      refine m_cvv (As := [.int a1]) (rest := []) hc hw hR (hml.trans hl.1.symm) (cm_holds l N S1 a1 S2 hcall) mq_holds rfl (by decide) rfl rfl rfl (Nat.le_of_ble_eq_true rfl) dX12_between_57 (fun H locs hw => ?_) ⟨Nat.zero_le _, Nat.zero_le _⟩
      refine lv_iconst (v := 1) hx hb dX12_between_60 (by decide) ?_
      cases hf
      exact hQ _ _ _ _ dX12_between_61 hw
    · have hf := (if_pos cn12).symm.trans hf
      refine lv_aload_n hx hb dX12_between_28 rfl (lv_at hl 0 rfl) ?_
      refine m_g46 hc hw dX12_between_29 ?_
      refine lv_if_le (tgt := 55) hx hb dX12_between_32 (by decide) (fun cn13 => ?_) (fun cn13 => ?_)
      · have hf := (if_pos cn13).symm.trans hf
        refine lv_aload_n hx hb dX12_between_55 rfl (lv_at hl 0 rfl) ?_
        refine lv_iload_n hx hb dX12_between_56 rfl (lv_at hl 1 rfl) ?_
        obtain ⟨S3, hcall, hf⟩ := bd1_some hf
        refine m_cvv (As := [.int a1]) (rest := []) hc hw hR (hml.trans hl.1.symm) (cm_holds l N S1 a1 S3 hcall) mq_holds rfl (by decide) rfl rfl rfl (Nat.le_of_ble_eq_true rfl) dX12_between_57 (fun H locs hw => ?_) ⟨Nat.zero_le _, Nat.zero_le _⟩
        refine lv_iconst (v := 1) hx hb dX12_between_60 (by decide) ?_
        cases hf
        exact hQ _ _ _ _ dX12_between_61 hw
      · have hf := (if_neg cn13).symm.trans hf
        refine lv_aload_n hx hb dX12_between_35 rfl (lv_at hl 0 rfl) ?_
        refine m_g45 hc hw dX12_between_36 ?_
        refine lv_aload_n hx hb dX12_between_39 rfl (lv_at hl 0 rfl) ?_
        refine m_g46 hc hw dX12_between_40 ?_
        refine lv_iconst (v := 1) hx hb dX12_between_43 (by decide) ?_
        refine lv_isub hx hb dX12_between_44 ?_
        obtain ⟨hi4, hf⟩ := gd_some hf
        have hi4 := ok_in hi4
        refine m_l45 hc hw hi4 dX12_between_45 ?_
        refine m_csi (As := [.int (S1.1 45 ((S1.1 46 0) - 1).toNatClampNeg)]) (rest := []) hc hw hR (hml.trans hl.1.symm) (cm_rank l S1 (S1.1 45 ((S1.1 46 0) - 1).toNatClampNeg) _ rfl) mq_rank (by decide) rfl rfl rfl (Nat.le_of_ble_eq_true rfl) dX12_between_46 (fun H locs hw => ?_) ⟨Nat.zero_le _, Nat.zero_le _⟩
        refine lv_iconst (v := 4) hx hb dX12_between_49 (by decide) ?_
        refine lv_icmp_ne (tgt := 55) hx hb dX12_between_50 (by decide) (fun cn14 => ?_) (fun cn14 => ?_)
        · have hf := (if_neg cn14).symm.trans hf
          refine lv_aload_n hx hb dX12_between_55 rfl (lv_at hl 0 rfl) ?_
          refine lv_iload_n hx hb dX12_between_56 rfl (lv_at hl 1 rfl) ?_
          obtain ⟨S5, hcall, hf⟩ := bd1_some hf
          refine m_cvv (As := [.int a1]) (rest := []) hc hw hR (hml.trans hl.1.symm) (cm_holds l N S1 a1 S5 hcall) mq_holds rfl (by decide) rfl rfl rfl (Nat.le_of_ble_eq_true rfl) dX12_between_57 (fun H locs hw => ?_) ⟨Nat.zero_le _, Nat.zero_le _⟩
          refine lv_iconst (v := 1) hx hb dX12_between_60 (by decide) ?_
          cases hf
          exact hQ _ _ _ _ dX12_between_61 hw
        · have hf := (if_pos cn14).symm.trans hf
          refine lv_iconst (v := 0) hx hb dX12_between_53 (by decide) ?_
          cases hf
          exact hQ _ _ _ _ dX12_between_54 hw
  · have hf := (if_pos cn11).symm.trans hf
    refine lv_iconst (v := 5) hx hb dX12_between_9 (by decide) ?_
    refine lv_goto (tgt := 17) hx hb dX12_between_10 (by decide) ?_
    obtain ⟨S6, hcall, hf⟩ := bd1_some hf
    refine m_cvv (As := [.int 5]) (rest := []) hc hw hR (hml.trans hl.1.symm) (cm_unwinds l N S 5 S6 hcall) mq_unwinds rfl (by decide) rfl rfl rfl (Nat.le_of_ble_eq_true rfl) dX12_between_17 (fun H locs hw => ?_) ⟨Nat.zero_le _, Nat.zero_le _⟩
    refine lv_iload_n hx hb dX12_between_20 rfl (lv_at hl 1 rfl) ?_
    refine m_csi (As := [.int a1]) (rest := []) hc hw hR (hml.trans hl.1.symm) (cm_rank l S6 a1 _ rfl) mq_rank (by decide) rfl rfl rfl (Nat.le_of_ble_eq_true rfl) dX12_between_21 (fun H locs hw => ?_) ⟨Nat.zero_le _, Nat.zero_le _⟩
    refine lv_iconst (v := 4) hx hb dX12_between_24 (by decide) ?_
    refine lv_icmp_ne (tgt := 55) hx hb dX12_between_25 (by decide) (fun cn15 => ?_) (fun cn15 => ?_)
    · have hf := (if_neg cn15).symm.trans hf
      refine lv_aload_n hx hb dX12_between_55 rfl (lv_at hl 0 rfl) ?_
      refine lv_iload_n hx hb dX12_between_56 rfl (lv_at hl 1 rfl) ?_
      obtain ⟨S7, hcall, hf⟩ := bd1_some hf
      refine m_cvv (As := [.int a1]) (rest := []) hc hw hR (hml.trans hl.1.symm) (cm_holds l N S6 a1 S7 hcall) mq_holds rfl (by decide) rfl rfl rfl (Nat.le_of_ble_eq_true rfl) dX12_between_57 (fun H locs hw => ?_) ⟨Nat.zero_le _, Nat.zero_le _⟩
      refine lv_iconst (v := 1) hx hb dX12_between_60 (by decide) ?_
      cases hf
      exact hQ _ _ _ _ dX12_between_61 hw
    · have hf := (if_pos cn15).symm.trans hf
      refine lv_aload_n hx hb dX12_between_28 rfl (lv_at hl 0 rfl) ?_
      refine m_g46 hc hw dX12_between_29 ?_
      refine lv_if_le (tgt := 55) hx hb dX12_between_32 (by decide) (fun cn16 => ?_) (fun cn16 => ?_)
      · have hf := (if_pos cn16).symm.trans hf
        refine lv_aload_n hx hb dX12_between_55 rfl (lv_at hl 0 rfl) ?_
        refine lv_iload_n hx hb dX12_between_56 rfl (lv_at hl 1 rfl) ?_
        obtain ⟨S8, hcall, hf⟩ := bd1_some hf
        refine m_cvv (As := [.int a1]) (rest := []) hc hw hR (hml.trans hl.1.symm) (cm_holds l N S6 a1 S8 hcall) mq_holds rfl (by decide) rfl rfl rfl (Nat.le_of_ble_eq_true rfl) dX12_between_57 (fun H locs hw => ?_) ⟨Nat.zero_le _, Nat.zero_le _⟩
        refine lv_iconst (v := 1) hx hb dX12_between_60 (by decide) ?_
        cases hf
        exact hQ _ _ _ _ dX12_between_61 hw
      · have hf := (if_neg cn16).symm.trans hf
        refine lv_aload_n hx hb dX12_between_35 rfl (lv_at hl 0 rfl) ?_
        refine m_g45 hc hw dX12_between_36 ?_
        refine lv_aload_n hx hb dX12_between_39 rfl (lv_at hl 0 rfl) ?_
        refine m_g46 hc hw dX12_between_40 ?_
        refine lv_iconst (v := 1) hx hb dX12_between_43 (by decide) ?_
        refine lv_isub hx hb dX12_between_44 ?_
        obtain ⟨hi9, hf⟩ := gd_some hf
        have hi9 := ok_in hi9
        refine m_l45 hc hw hi9 dX12_between_45 ?_
        refine m_csi (As := [.int (S6.1 45 ((S6.1 46 0) - 1).toNatClampNeg)]) (rest := []) hc hw hR (hml.trans hl.1.symm) (cm_rank l S6 (S6.1 45 ((S6.1 46 0) - 1).toNatClampNeg) _ rfl) mq_rank (by decide) rfl rfl rfl (Nat.le_of_ble_eq_true rfl) dX12_between_46 (fun H locs hw => ?_) ⟨Nat.zero_le _, Nat.zero_le _⟩
        refine lv_iconst (v := 4) hx hb dX12_between_49 (by decide) ?_
        refine lv_icmp_ne (tgt := 55) hx hb dX12_between_50 (by decide) (fun cn17 => ?_) (fun cn17 => ?_)
        · have hf := (if_neg cn17).symm.trans hf
          refine lv_aload_n hx hb dX12_between_55 rfl (lv_at hl 0 rfl) ?_
          refine lv_iload_n hx hb dX12_between_56 rfl (lv_at hl 1 rfl) ?_
          obtain ⟨S10, hcall, hf⟩ := bd1_some hf
          refine m_cvv (As := [.int a1]) (rest := []) hc hw hR (hml.trans hl.1.symm) (cm_holds l N S6 a1 S10 hcall) mq_holds rfl (by decide) rfl rfl rfl (Nat.le_of_ble_eq_true rfl) dX12_between_57 (fun H locs hw => ?_) ⟨Nat.zero_le _, Nat.zero_le _⟩
          refine lv_iconst (v := 1) hx hb dX12_between_60 (by decide) ?_
          cases hf
          exact hQ _ _ _ _ dX12_between_61 hw
        · have hf := (if_pos cn17).symm.trans hf
          refine lv_iconst (v := 0) hx hb dX12_between_53 (by decide) ?_
          cases hf
          exact hQ _ _ _ _ dX12_between_54 hw
theorem mq_between : qCv RX12 260 yX12_between cX12_between 2 (some .boolean) 1 := ⟨⟨(mem_g 1445 (by decide +kernel) rfl), (mem_g 1447 (by decide +kernel) rfl), (mem_g 51 (by decide +kernel) rfl), (mem_g 89 (by decide +kernel) rfl), (mem_g 1448 (by decide +kernel) rfl)⟩, by decide, by decide +kernel, by decide⟩
def mf_isNear (N : Nat) (S : mS) (a1 : Int32) (a2 : Int32) (a3 : Int32) (a4 : Int32) (a5 : Int32) : Option (Bool) := (bd1 (mf_isAmong N S a1) fun v1 => (if v1 = true then (bd1 (mf_isAmong N S a4) fun v2 => (if v2 = true then (bd1 (mf_placeOf N S a4 a5) fun v3 => (bd1 (mf_farOf N S a4) fun v4 => (bd1 (mf_beside N S a1 a2 a3 v3 v4) fun v5 => (bd1 (mf_farOf N S a1) fun v6 => (if v6 < v5 then some false else some true))))) else some false)) else some false))
set_option maxRecDepth 100000 in
theorem cm_isNear (l : Launch) (N : Nat) (S : mS) (a1 : Int32) (a2 : Int32) (a3 : Int32) (a4 : Int32) (a5 : Int32) (res : Bool) (hf : mf_isNear N S a1 a2 a3 a4 a5 = some res) : mMi l yX12_isNear cX12_isNear 6 .boolean 3 (fun g => [.ref (mr g 0), .int a1, .int a2, .int a3, .int a4, .int a5]) S (bi res) S := by
  refine mMi_of (own := RX12) (by decide) rfl (narrow_bi _) (fun g => Nat.le_of_ble_eq_true rfl) ?_
  intro p e R s m args below meth c Q g A H0 H locs ls hc hR hml hw hl hQ
  have hl : lv_has ls 6 [(0, .ref (mr g 0)), (1, .int a1), (2, .int a2), (3, .int a3), (4, .int a4), (5, .int a5)] := hl
  have hx := hc.1
  have hb := hc.2.1
  unfold mf_isNear at hf
  refine lv_aload_n hx hb dX12_isNear_0 rfl (lv_at hl 0 rfl) ?_
  refine lv_iload_n hx hb dX12_isNear_1 rfl (lv_at hl 1 rfl) ?_
  obtain ⟨v1, hcall, hf⟩ := bd1_some hf
  refine m_cvi (As := [.int a1]) (rest := []) hc hw hR (hml.trans hl.1.symm) (cm_isAmong l N S a1 v1 hcall) mq_isAmong rfl (by decide) rfl rfl rfl (Nat.le_of_ble_eq_true rfl) dX12_isNear_2 (fun H locs hw => ?_) ⟨Nat.zero_le _, Nat.zero_le _⟩
  refine lv_if_eqb (tgt := 50) hx hb dX12_isNear_5 (by decide) (fun cn7 => ?_) (fun cn7 => ?_)
  · have hf := (if_neg cn7).symm.trans hf
    refine lv_iconst (v := 0) hx hb dX12_isNear_50 (by decide) ?_
    cases hf
    exact hQ _ _ _ _ dX12_isNear_51 hw
  · have hf := (if_pos cn7).symm.trans hf
    refine lv_aload_n hx hb dX12_isNear_8 rfl (lv_at hl 0 rfl) ?_
    refine lv_iload hx hb dX12_isNear_9 (lv_at hl 4 rfl) ?_
    obtain ⟨v2, hcall, hf⟩ := bd1_some hf
    refine m_cvi (As := [.int a4]) (rest := []) hc hw hR (hml.trans hl.1.symm) (cm_isAmong l N S a4 v2 hcall) mq_isAmong rfl (by decide) rfl rfl rfl (Nat.le_of_ble_eq_true rfl) dX12_isNear_11 (fun H locs hw => ?_) ⟨Nat.zero_le _, Nat.zero_le _⟩
    refine lv_if_eqb (tgt := 50) hx hb dX12_isNear_14 (by decide) (fun cn8 => ?_) (fun cn8 => ?_)
    · have hf := (if_neg cn8).symm.trans hf
      refine lv_iconst (v := 0) hx hb dX12_isNear_50 (by decide) ?_
      cases hf
      exact hQ _ _ _ _ dX12_isNear_51 hw
    · have hf := (if_pos cn8).symm.trans hf
      refine lv_aload_n hx hb dX12_isNear_17 rfl (lv_at hl 0 rfl) ?_
      refine lv_iload_n hx hb dX12_isNear_18 rfl (lv_at hl 1 rfl) ?_
      refine lv_iload_n hx hb dX12_isNear_19 rfl (lv_at hl 2 rfl) ?_
      refine lv_iload_n hx hb dX12_isNear_20 rfl (lv_at hl 3 rfl) ?_
      refine lv_aload_n hx hb dX12_isNear_21 rfl (lv_at hl 0 rfl) ?_
      refine lv_iload hx hb dX12_isNear_22 (lv_at hl 4 rfl) ?_
      refine lv_iload hx hb dX12_isNear_24 (lv_at hl 5 rfl) ?_
      obtain ⟨v3, hcall, hf⟩ := bd1_some hf
      refine m_cvi (As := [.int a4, .int a5]) (rest := [.int a3, .int a2, .int a1, .ref (mr g 0)]) hc hw hR (hml.trans hl.1.symm) (cm_placeOf l N S a4 a5 v3 hcall) mq_placeOf rfl (by decide) rfl rfl rfl (Nat.le_of_ble_eq_true rfl) dX12_isNear_26 (fun H locs hw => ?_) ⟨Nat.zero_le _, Nat.zero_le _⟩
      refine lv_aload_n hx hb dX12_isNear_29 rfl (lv_at hl 0 rfl) ?_
      refine lv_iload hx hb dX12_isNear_30 (lv_at hl 4 rfl) ?_
      obtain ⟨v4, hcall, hf⟩ := bd1_some hf
      refine m_cvi (As := [.int a4]) (rest := [.int v3, .int a3, .int a2, .int a1, .ref (mr g 0)]) hc hw hR (hml.trans hl.1.symm) (cm_farOf l N S a4 v4 hcall) mq_farOf rfl (by decide) rfl rfl rfl (Nat.le_of_ble_eq_true rfl) dX12_isNear_32 (fun H locs hw => ?_) ⟨Nat.zero_le _, Nat.zero_le _⟩
      obtain ⟨v5, hcall, hf⟩ := bd1_some hf
      refine m_cvi (As := [.int a1, .int a2, .int a3, .int v3, .int v4]) (rest := []) hc hw hR (hml.trans hl.1.symm) (cm_beside l N S a1 a2 a3 v3 v4 v5 hcall) mq_beside rfl (by decide) rfl rfl rfl (Nat.le_of_ble_eq_true rfl) dX12_isNear_35 (fun H locs hw => ?_) ⟨Nat.zero_le _, Nat.zero_le _⟩
      refine lv_aload_n hx hb dX12_isNear_38 rfl (lv_at hl 0 rfl) ?_
      refine lv_iload_n hx hb dX12_isNear_39 rfl (lv_at hl 1 rfl) ?_
      obtain ⟨v6, hcall, hf⟩ := bd1_some hf
      refine m_cvi (As := [.int a1]) (rest := [.int v5]) hc hw hR (hml.trans hl.1.symm) (cm_farOf l N S a1 v6 hcall) mq_farOf rfl (by decide) rfl rfl rfl (Nat.le_of_ble_eq_true rfl) dX12_isNear_40 (fun H locs hw => ?_) ⟨Nat.zero_le _, Nat.zero_le _⟩
      refine lv_icmp_gt (tgt := 50) hx hb dX12_isNear_43 (by decide) (fun cn9 => ?_) (fun cn9 => ?_)
      · have hf := (if_pos cn9).symm.trans hf
        refine lv_iconst (v := 0) hx hb dX12_isNear_50 (by decide) ?_
        cases hf
        exact hQ _ _ _ _ dX12_isNear_51 hw
      · have hf := (if_neg cn9).symm.trans hf
        refine lv_iconst (v := 1) hx hb dX12_isNear_46 (by decide) ?_
        refine lv_goto (tgt := 51) hx hb dX12_isNear_47 (by decide) ?_
        cases hf
        exact hQ _ _ _ _ dX12_isNear_51 hw
theorem mq_isNear : qCv RX12 275 yX12_isNear cX12_isNear 6 (some .boolean) 5 := ⟨⟨(mem_g 1461 (by decide +kernel) rfl), (mem_g 1463 (by decide +kernel) rfl), (mem_g 53 (by decide +kernel) rfl), (mem_g 89 (by decide +kernel) rfl), (mem_g 1464 (by decide +kernel) rfl)⟩, by decide, by decide +kernel, by decide⟩
def mf_postBefore_L3 (N : Nat) (c1 : Int32) (c2 : Int32) (c3 : Int32) : Nat → mS → Int32 → Option ((Int32) ⊕ (Unit))
  | 0, _, _ => none
  | n + 1, S5, v4 => (if (S5.1 14 0) ≤ v4 then some (.inr ()) else (if ok v4 4 then (bd1 (mf_farOf N S5 c1) fun v7 => (if v7 ≤ (S5.1 16 v4.toNatClampNeg) then mf_postBefore_L3 N c1 c2 c3 n S5 (v4 + 1) else (bd1 (mf_beside N S5 c1 c2 c3 (S5.1 15 v4.toNatClampNeg) (S5.1 16 v4.toNatClampNeg)) fun v8 => (bd1 (mf_farOf N S5 c1) fun v9 => (if v9 ≤ v8 then mf_postBefore_L3 N c1 c2 c3 n S5 (v4 + 1) else some (.inl v4)))))) else none))
set_option maxRecDepth 100000 in
theorem wm_postBefore_L3 {p : Program} {l : Launch} {e : Env} {R : Room} {s : State} {m : MethodId} {args : Array Value} {below : List Frame} {meth : Method} {c : Code} {Q : State → Prop} {g : mG} {A : Nat → Prop} {H0 : Heap} (hc : qC RX12 cX12_postBefore p s m args c) (hR : qRoom R 3) (hml : c.maxLocals = 5) (N : Nat) (c1 : Int32) (c2 : Int32) (c3 : Int32) : ∀ (n : Nat) (S5 : mS) (v4 : Int32) (X : (Int32) ⊕ (Unit)) (H : Heap) (locs : List Loc) (ls : Array Slot), mf_postBefore_L3 N c1 c2 c3 n S5 v4 = some X → mI g A H0 s S5 H locs → lv_has ls 5 [(0, .ref (mr g 0)), (1, .int c1), (2, .int c2), (3, .int c3), (4, .int v4)] → (∀ (_ : Unit), X = .inr () → ∀ (H : Heap) (locs : List Loc) (ls : Array Slot), mI g A H0 s S5 H locs → lv_has ls 5 [] → W p l e R s m args below meth c H locs 0 0 Q (F0 m 65 ls [])) → (∀ (r : Int32), X = .inl r → mQi p l e R s m args below meth c cX12_postBefore Q g A H0 r S5) → W p l e R s m args below meth c H locs 0 0 Q (F0 m 3 ls []) := by
  have hx := hc.1
  have hb := hc.2.1
  intro n
  induction n with
  | zero => intro _ _ X H locs ls hf; exact nomatch (show none = some X from hf)
  | succ n ih =>
    intro S5 v4 X H locs ls hf hw hl kx kr
    rw [mf_postBefore_L3] at hf
    refine lv_iload hx hb dX12_postBefore_3 (lv_at hl 4 rfl) ?_
    refine lv_aload_n hx hb dX12_postBefore_5 rfl (lv_at hl 0 rfl) ?_
    refine m_g14 hc hw dX12_postBefore_6 ?_
    refine lv_icmp_ge (tgt := 65) hx hb dX12_postBefore_9 (by decide) (fun cn10 => ?_) (fun cn10 => ?_)
    · have hf := (if_pos cn10).symm.trans hf
      cases hf
      exact kx _ rfl _ _ _ hw (lv_sub hl [] rfl)
    · have hf := (if_neg cn10).symm.trans hf
      refine lv_aload_n hx hb dX12_postBefore_12 rfl (lv_at hl 0 rfl) ?_
      refine m_g16 hc hw dX12_postBefore_13 ?_
      refine lv_iload hx hb dX12_postBefore_16 (lv_at hl 4 rfl) ?_
      obtain ⟨hi6, hf⟩ := gd_some hf
      have hi6 := ok_in hi6
      refine m_l16 hc hw hi6 dX12_postBefore_18 ?_
      refine lv_aload_n hx hb dX12_postBefore_19 rfl (lv_at hl 0 rfl) ?_
      refine lv_iload_n hx hb dX12_postBefore_20 rfl (lv_at hl 1 rfl) ?_
      obtain ⟨v7, hcall, hf⟩ := bd1_some hf
      refine m_cvi (As := [.int c1]) (rest := [.int (S5.1 16 v4.toNatClampNeg)]) hc hw hR (hml.trans hl.1.symm) (cm_farOf l N S5 c1 v7 hcall) mq_farOf rfl (by decide) rfl rfl rfl (Nat.le_of_ble_eq_true rfl) dX12_postBefore_21 (fun H locs hw => ?_) ⟨Nat.zero_le _, Nat.zero_le _⟩
      refine lv_icmp_ge (tgt := 59) hx hb dX12_postBefore_24 (by decide) (fun cn11 => ?_) (fun cn11 => ?_)
      · have hf := (if_pos cn11).symm.trans hf
        refine lv_iinc (lv' := [(4, .int (v4 + 1)), (0, .ref (mr g 0)), (1, .int c1), (2, .int c2), (3, .int c3)]) hx hb dX12_postBefore_59 hl (k := 4) rfl rfl (by decide) rfl (fun ls hl => ?_)
        refine lv_goto (tgt := 3) hx hb dX12_postBefore_62 (by decide) ?_
        exact ih _ _ X _ _ _ hf hw (lv_sub hl [1, 2, 3, 4, 0] rfl) kx kr
      · have hf := (if_neg cn11).symm.trans hf
        refine lv_aload_n hx hb dX12_postBefore_27 rfl (lv_at hl 0 rfl) ?_
        refine lv_iload_n hx hb dX12_postBefore_28 rfl (lv_at hl 1 rfl) ?_
        refine lv_iload_n hx hb dX12_postBefore_29 rfl (lv_at hl 2 rfl) ?_
        refine lv_iload_n hx hb dX12_postBefore_30 rfl (lv_at hl 3 rfl) ?_
        refine lv_aload_n hx hb dX12_postBefore_31 rfl (lv_at hl 0 rfl) ?_
        refine m_g15 hc hw dX12_postBefore_32 ?_
        refine lv_iload hx hb dX12_postBefore_35 (lv_at hl 4 rfl) ?_
        refine m_l15 hc hw hi6 dX12_postBefore_37 ?_
        refine lv_aload_n hx hb dX12_postBefore_38 rfl (lv_at hl 0 rfl) ?_
        refine m_g16 hc hw dX12_postBefore_39 ?_
        refine lv_iload hx hb dX12_postBefore_42 (lv_at hl 4 rfl) ?_
        refine m_l16 hc hw hi6 dX12_postBefore_44 ?_
        obtain ⟨v8, hcall, hf⟩ := bd1_some hf
        refine m_cvi (As := [.int c1, .int c2, .int c3, .int (S5.1 15 v4.toNatClampNeg), .int (S5.1 16 v4.toNatClampNeg)]) (rest := []) hc hw hR (hml.trans hl.1.symm) (cm_beside l N S5 c1 c2 c3 (S5.1 15 v4.toNatClampNeg) (S5.1 16 v4.toNatClampNeg) v8 hcall) mq_beside rfl (by decide) rfl rfl rfl (Nat.le_of_ble_eq_true rfl) dX12_postBefore_45 (fun H locs hw => ?_) ⟨Nat.zero_le _, Nat.zero_le _⟩
        refine lv_aload_n hx hb dX12_postBefore_48 rfl (lv_at hl 0 rfl) ?_
        refine lv_iload_n hx hb dX12_postBefore_49 rfl (lv_at hl 1 rfl) ?_
        obtain ⟨v9, hcall, hf⟩ := bd1_some hf
        refine m_cvi (As := [.int c1]) (rest := [.int v8]) hc hw hR (hml.trans hl.1.symm) (cm_farOf l N S5 c1 v9 hcall) mq_farOf rfl (by decide) rfl rfl rfl (Nat.le_of_ble_eq_true rfl) dX12_postBefore_50 (fun H locs hw => ?_) ⟨Nat.zero_le _, Nat.zero_le _⟩
        refine lv_icmp_ge (tgt := 59) hx hb dX12_postBefore_53 (by decide) (fun cn12 => ?_) (fun cn12 => ?_)
        · have hf := (if_pos cn12).symm.trans hf
          refine lv_iinc (lv' := [(4, .int (v4 + 1)), (0, .ref (mr g 0)), (1, .int c1), (2, .int c2), (3, .int c3)]) hx hb dX12_postBefore_59 hl (k := 4) rfl rfl (by decide) rfl (fun ls hl => ?_)
          refine lv_goto (tgt := 3) hx hb dX12_postBefore_62 (by decide) ?_
          exact ih _ _ X _ _ _ hf hw (lv_sub hl [1, 2, 3, 4, 0] rfl) kx kr
        · have hf := (if_neg cn12).symm.trans hf
          refine lv_iload hx hb dX12_postBefore_56 (lv_at hl 4 rfl) ?_
          cases hf
          exact kr _  rfl _ _ _ _ dX12_postBefore_58 hw
def mf_postBefore (N : Nat) (S : mS) (a1 : Int32) (a2 : Int32) (a3 : Int32) : Option (Int32) := (br0 (mf_postBefore_L3 N a1 a2 a3 N S 0) (Option.some) fun _ => some (-1))
set_option maxRecDepth 100000 in
theorem cm_postBefore (l : Launch) (N : Nat) (S : mS) (a1 : Int32) (a2 : Int32) (a3 : Int32) (res : Int32) (hf : mf_postBefore N S a1 a2 a3 = some res) : mMi l yX12_postBefore cX12_postBefore 5 .int 3 (fun g => [.ref (mr g 0), .int a1, .int a2, .int a3]) S res S := by
  refine mMi_of (own := RX12) (by decide) rfl rfl (fun g => Nat.le_of_ble_eq_true rfl) ?_
  intro p e R s m args below meth c Q g A H0 H locs ls hc hR hml hw hl hQ
  have hl : lv_has ls 5 [(0, .ref (mr g 0)), (1, .int a1), (2, .int a2), (3, .int a3)] := hl
  have hx := hc.1
  have hb := hc.2.1
  unfold mf_postBefore at hf
  refine lv_iconst (v := 0) hx hb dX12_postBefore_0 (by decide) ?_
  refine lv_istore (lv' := [(4, .int 0), (0, .ref (mr g 0)), (1, .int a1), (2, .int a2), (3, .int a3)]) hx hb dX12_postBefore_1 hl (by decide) rfl (fun ls hl => ?_)
  rcases br0_some hf with ⟨q, hX, hf⟩ | ⟨hX, hf⟩
  · refine wm_postBefore_L3 hc hR hml N a1 a2 a3 N _ _ _ _ _ _ hX hw (lv_sub hl [1, 2, 3, 4, 0] rfl) (fun _  h => nomatch h) ?_
    cases hf
    intro z0 h; cases h; exact hQ
  · refine wm_postBefore_L3 hc hR hml N a1 a2 a3 N _ _ _ _ _ _ hX hw (lv_sub hl [1, 2, 3, 4, 0] rfl) (fun y0 hi => ?_) (fun _  h => nomatch h)
    cases hi
    intro H locs ls hw hl
    refine lv_iconst (v := (-1)) hx hb dX12_postBefore_65 (by decide) ?_
    cases hf
    exact hQ _ _ _ _ dX12_postBefore_66 hw
theorem mq_postBefore : qCv RX12 282 yX12_postBefore cX12_postBefore 5 (some .int) 3 := ⟨⟨(mem_g 1473 (by decide +kernel) rfl), (mem_g 1475 (by decide +kernel) rfl), (mem_g 56 (by decide +kernel) rfl), (mem_g 89 (by decide +kernel) rfl), (mem_g 1476 (by decide +kernel) rfl)⟩, by decide, by decide +kernel, by decide⟩
def mf_likeOf (N : Nat) (S : mS) (a1 : Int32) (a2 : Int32) (a3 : Int32) : Option (Int32 × mS) := (if ok a3 6 then (bd1 (mf_placeOf N S a1 a2) fun v2 => (bd1 (mf_floorOf N S a1) fun v3 => (if ok ((8 * a1) + a2) 48 then (bd1 (mf_names N S (S.1 13 a3.toNatClampNeg) (S.1 12 a3.toNatClampNeg) a1 v2 v3 (S.1 9 ((8 * a1) + a2).toNatClampNeg)) fun S5 => (bd2 (mf_says N S5 0 99) fun v6 S7 => some (v6, S7))) else none))) else none)
set_option maxRecDepth 100000 in
theorem cm_likeOf (l : Launch) (N : Nat) (S : mS) (a1 : Int32) (a2 : Int32) (a3 : Int32) (res : Int32) (S1 : mS) (hf : mf_likeOf N S a1 a2 a3 = some (res, S1)) : mMi l yX12_likeOf cX12_likeOf 4 .int 3 (fun g => [.ref (mr g 0), .int a1, .int a2, .int a3]) S res S1 := by
  refine mMi_of (own := RX12) (by decide) rfl rfl (fun g => Nat.le_of_ble_eq_true rfl) ?_
  intro p e R s m args below meth c Q g A H0 H locs ls hc hR hml hw hl hQ
  have hl : lv_has ls 4 [(0, .ref (mr g 0)), (1, .int a1), (2, .int a2), (3, .int a3)] := hl
  have hx := hc.1
  have hb := hc.2.1
  unfold mf_likeOf at hf
  refine lv_aload_n hx hb dX12_likeOf_0 rfl (lv_at hl 0 rfl) ?_
  refine lv_aload_n hx hb dX12_likeOf_1 rfl (lv_at hl 0 rfl) ?_
  refine m_g13 hc hw dX12_likeOf_2 ?_
  refine lv_iload_n hx hb dX12_likeOf_5 rfl (lv_at hl 3 rfl) ?_
  obtain ⟨hi1, hf⟩ := gd_some hf
  have hi1 := ok_in hi1
  refine m_l13 hc hw hi1 dX12_likeOf_6 ?_
  refine lv_aload_n hx hb dX12_likeOf_7 rfl (lv_at hl 0 rfl) ?_
  refine m_g12 hc hw dX12_likeOf_8 ?_
  refine lv_iload_n hx hb dX12_likeOf_11 rfl (lv_at hl 3 rfl) ?_
  refine m_l12 hc hw hi1 dX12_likeOf_12 ?_
  refine lv_iload_n hx hb dX12_likeOf_13 rfl (lv_at hl 1 rfl) ?_
  refine lv_aload_n hx hb dX12_likeOf_14 rfl (lv_at hl 0 rfl) ?_
  refine lv_iload_n hx hb dX12_likeOf_15 rfl (lv_at hl 1 rfl) ?_
  refine lv_iload_n hx hb dX12_likeOf_16 rfl (lv_at hl 2 rfl) ?_
  obtain ⟨v2, hcall, hf⟩ := bd1_some hf
  refine m_cvi (As := [.int a1, .int a2]) (rest := [.int a1, .int (S.1 12 a3.toNatClampNeg), .int (S.1 13 a3.toNatClampNeg), .ref (mr g 0)]) hc hw hR (hml.trans hl.1.symm) (cm_placeOf l N S a1 a2 v2 hcall) mq_placeOf rfl (by decide) rfl rfl rfl (Nat.le_of_ble_eq_true rfl) dX12_likeOf_17 (fun H locs hw => ?_) ⟨Nat.zero_le _, Nat.zero_le _⟩
  refine lv_aload_n hx hb dX12_likeOf_20 rfl (lv_at hl 0 rfl) ?_
  refine lv_iload_n hx hb dX12_likeOf_21 rfl (lv_at hl 1 rfl) ?_
  obtain ⟨v3, hcall, hf⟩ := bd1_some hf
  refine m_cvi (As := [.int a1]) (rest := [.int v2, .int a1, .int (S.1 12 a3.toNatClampNeg), .int (S.1 13 a3.toNatClampNeg), .ref (mr g 0)]) hc hw hR (hml.trans hl.1.symm) (cm_floorOf l N S a1 v3 hcall) mq_floorOf rfl (by decide) rfl rfl rfl (Nat.le_of_ble_eq_true rfl) dX12_likeOf_22 (fun H locs hw => ?_) ⟨Nat.zero_le _, Nat.zero_le _⟩
  refine lv_aload_n hx hb dX12_likeOf_25 rfl (lv_at hl 0 rfl) ?_
  refine m_g9 hc hw dX12_likeOf_26 ?_
  refine lv_bipush (v := 8) hx hb dX12_likeOf_29 (by decide) ?_
  refine lv_iload_n hx hb dX12_likeOf_31 rfl (lv_at hl 1 rfl) ?_
  refine lv_imul hx hb dX12_likeOf_32 ?_
  refine lv_iload_n hx hb dX12_likeOf_33 rfl (lv_at hl 2 rfl) ?_
  refine lv_iadd hx hb dX12_likeOf_34 ?_
  obtain ⟨hi4, hf⟩ := gd_some hf
  have hi4 := ok_in hi4
  refine m_l9 hc hw hi4 dX12_likeOf_35 ?_
  obtain ⟨S5, hcall, hf⟩ := bd1_some hf
  refine m_cvv (As := [.int (S.1 13 a3.toNatClampNeg), .int (S.1 12 a3.toNatClampNeg), .int a1, .int v2, .int v3, .int (S.1 9 ((8 * a1) + a2).toNatClampNeg)]) (rest := []) hc hw hR (hml.trans hl.1.symm) (cm_names l N S (S.1 13 a3.toNatClampNeg) (S.1 12 a3.toNatClampNeg) a1 v2 v3 (S.1 9 ((8 * a1) + a2).toNatClampNeg) S5 hcall) mq_names rfl (by decide) rfl rfl rfl (Nat.le_of_ble_eq_true rfl) dX12_likeOf_36 (fun H locs hw => ?_) ⟨Nat.zero_le _, Nat.zero_le _⟩
  refine lv_aload_n hx hb dX12_likeOf_39 rfl (lv_at hl 0 rfl) ?_
  refine lv_iconst (v := 0) hx hb dX12_likeOf_40 (by decide) ?_
  refine lv_bipush (v := 99) hx hb dX12_likeOf_41 (by decide) ?_
  obtain ⟨v6, S7, hcall, hf⟩ := bd2_some hf
  refine m_cvi (As := [.int 0, .int 99]) (rest := []) hc hw hR (hml.trans hl.1.symm) (cm_says l N S5 0 99 v6 S7 hcall) mq_says rfl (by decide) rfl rfl rfl (Nat.le_of_ble_eq_true rfl) dX12_likeOf_43 (fun H locs hw => ?_) ⟨Nat.zero_le _, Nat.zero_le _⟩
  cases hf
  exact hQ _ _ _ _ dX12_likeOf_46 hw
theorem mq_likeOf : qCv RX12 298 yX12_likeOf cX12_likeOf 4 (some .int) 3 := ⟨⟨(mem_g 1493 (by decide +kernel) rfl), (mem_g 1495 (by decide +kernel) rfl), (mem_g 59 (by decide +kernel) rfl), (mem_g 89 (by decide +kernel) rfl), (mem_g 1496 (by decide +kernel) rfl)⟩, by decide, by decide +kernel, by decide⟩
def mf_cost_L4 (N : Nat) : Nat → mS → Int32 → Int32 → Option (Int32 × mS)
  | 0, _, _, _ => none
  | n + 1, S3, v1, v2 => (if (S3.1 3 0) ≤ v2 then some (v1, S3) else (bd1 (mf_stepOf N S3 v2) fun v4 => (if v4 = 0 then mf_cost_L4 N n S3 v1 (v2 + 1) else (bd1 (mf_stepOf N S3 v2) fun v5 => (if ok v2 6 then (bd1 (mf_names N S3 0 v5 v2 0 (S3.1 7 v2.toNatClampNeg) 0) fun S7 => (bd2 (mf_says N S7 2 999) fun v8 S9 => mf_cost_L4 N n S9 (v1 + v8) (v2 + 1))) else none)))))
set_option maxRecDepth 100000 in
theorem wm_cost_L4 {p : Program} {l : Launch} {e : Env} {R : Room} {s : State} {m : MethodId} {args : Array Value} {below : List Frame} {meth : Method} {c : Code} {Q : State → Prop} {g : mG} {A : Nat → Prop} {H0 : Heap} (hc : qC RX12 cX12_cost p s m args c) (hR : qRoom R 3) (hml : c.maxLocals = 3) (N : Nat) : ∀ (n : Nat) (S3 : mS) (v1 : Int32) (v2 : Int32) (X : Int32 × mS) (H : Heap) (locs : List Loc) (ls : Array Slot), mf_cost_L4 N n S3 v1 v2 = some X → mI g A H0 s S3 H locs → lv_has ls 3 [(0, .ref (mr g 0)), (1, .int v1), (2, .int v2)] → (∀ (H : Heap) (locs : List Loc) (ls : Array Slot), mI g A H0 s X.2 H locs → lv_has ls 3 [(1, .int X.1)] → W p l e R s m args below meth c H locs 0 0 Q (F0 m 56 ls [])) → W p l e R s m args below meth c H locs 0 0 Q (F0 m 4 ls []) := by
  have hx := hc.1
  have hb := hc.2.1
  intro n
  induction n with
  | zero => intro _ _ _ X H locs ls hf; exact nomatch (show none = some X from hf)
  | succ n ih =>
    intro S3 v1 v2 X H locs ls hf hw hl kx
    rw [mf_cost_L4] at hf
    refine lv_iload_n hx hb dX12_cost_4 rfl (lv_at hl 2 rfl) ?_
    refine lv_aload_n hx hb dX12_cost_5 rfl (lv_at hl 0 rfl) ?_
    refine m_g3 hc hw dX12_cost_6 ?_
    refine lv_icmp_ge (tgt := 56) hx hb dX12_cost_9 (by decide) (fun cn12 => ?_) (fun cn12 => ?_)
    · have hf := (if_pos cn12).symm.trans hf
      cases hf
      exact kx _ _ _ hw (lv_sub hl [1] rfl)
    · have hf := (if_neg cn12).symm.trans hf
      refine lv_aload_n hx hb dX12_cost_12 rfl (lv_at hl 0 rfl) ?_
      refine lv_iload_n hx hb dX12_cost_13 rfl (lv_at hl 2 rfl) ?_
      obtain ⟨v4, hcall, hf⟩ := bd1_some hf
      refine m_cvi (As := [.int v2]) (rest := []) hc hw hR (hml.trans hl.1.symm) (cm_stepOf l N S3 v2 v4 hcall) mq_stepOf rfl (by decide) rfl rfl rfl (Nat.le_of_ble_eq_true rfl) dX12_cost_14 (fun H locs hw => ?_) ⟨Nat.zero_le _, Nat.zero_le _⟩
      refine lv_if_eq (tgt := 50) hx hb dX12_cost_17 (by decide) (fun cn13 => ?_) (fun cn13 => ?_)
      · have hf := (if_pos cn13).symm.trans hf
        refine lv_iinc (lv' := [(2, .int (v2 + 1)), (0, .ref (mr g 0)), (1, .int v1)]) hx hb dX12_cost_50 hl (k := 2) rfl rfl (by decide) rfl (fun ls hl => ?_)
        refine lv_goto (tgt := 4) hx hb dX12_cost_53 (by decide) ?_
        exact ih _ _ _ X _ _ _ hf hw (lv_sub hl [1, 2, 0] rfl) kx
      · have hf := (if_neg cn13).symm.trans hf
        refine lv_aload_n hx hb dX12_cost_20 rfl (lv_at hl 0 rfl) ?_
        refine lv_iconst (v := 0) hx hb dX12_cost_21 (by decide) ?_
        refine lv_aload_n hx hb dX12_cost_22 rfl (lv_at hl 0 rfl) ?_
        refine lv_iload_n hx hb dX12_cost_23 rfl (lv_at hl 2 rfl) ?_
        obtain ⟨v5, hcall, hf⟩ := bd1_some hf
        refine m_cvi (As := [.int v2]) (rest := [.int 0, .ref (mr g 0)]) hc hw hR (hml.trans hl.1.symm) (cm_stepOf l N S3 v2 v5 hcall) mq_stepOf rfl (by decide) rfl rfl rfl (Nat.le_of_ble_eq_true rfl) dX12_cost_24 (fun H locs hw => ?_) ⟨Nat.zero_le _, Nat.zero_le _⟩
        refine lv_iload_n hx hb dX12_cost_27 rfl (lv_at hl 2 rfl) ?_
        refine lv_iconst (v := 0) hx hb dX12_cost_28 (by decide) ?_
        refine lv_aload_n hx hb dX12_cost_29 rfl (lv_at hl 0 rfl) ?_
        refine m_g7 hc hw dX12_cost_30 ?_
        refine lv_iload_n hx hb dX12_cost_33 rfl (lv_at hl 2 rfl) ?_
        obtain ⟨hi6, hf⟩ := gd_some hf
        have hi6 := ok_in hi6
        refine m_l7 hc hw hi6 dX12_cost_34 ?_
        refine lv_iconst (v := 0) hx hb dX12_cost_35 (by decide) ?_
        obtain ⟨S7, hcall, hf⟩ := bd1_some hf
        refine m_cvv (As := [.int 0, .int v5, .int v2, .int 0, .int (S3.1 7 v2.toNatClampNeg), .int 0]) (rest := []) hc hw hR (hml.trans hl.1.symm) (cm_names l N S3 0 v5 v2 0 (S3.1 7 v2.toNatClampNeg) 0 S7 hcall) mq_names rfl (by decide) rfl rfl rfl (Nat.le_of_ble_eq_true rfl) dX12_cost_36 (fun H locs hw => ?_) ⟨Nat.zero_le _, Nat.zero_le _⟩
        refine lv_iload_n hx hb dX12_cost_39 rfl (lv_at hl 1 rfl) ?_
        refine lv_aload_n hx hb dX12_cost_40 rfl (lv_at hl 0 rfl) ?_
        refine lv_iconst (v := 2) hx hb dX12_cost_41 (by decide) ?_
        refine lv_sipush (v := 999) hx hb dX12_cost_42 (by decide) ?_
        obtain ⟨v8, S9, hcall, hf⟩ := bd2_some hf
        refine m_cvi (As := [.int 2, .int 999]) (rest := [.int v1]) hc hw hR (hml.trans hl.1.symm) (cm_says l N S7 2 999 v8 S9 hcall) mq_says rfl (by decide) rfl rfl rfl (Nat.le_of_ble_eq_true rfl) dX12_cost_45 (fun H locs hw => ?_) ⟨Nat.zero_le _, Nat.zero_le _⟩
        refine lv_iadd hx hb dX12_cost_48 ?_
        refine lv_istore_n (lv' := [(1, .int (v1 + v8)), (0, .ref (mr g 0)), (2, .int v2)]) hx hb dX12_cost_49 rfl hl (by decide) rfl (fun ls hl => ?_)
        refine lv_iinc (lv' := [(2, .int (v2 + 1)), (1, .int (v1 + v8)), (0, .ref (mr g 0))]) hx hb dX12_cost_50 hl (k := 2) rfl rfl (by decide) rfl (fun ls hl => ?_)
        refine lv_goto (tgt := 4) hx hb dX12_cost_53 (by decide) ?_
        exact ih _ _ _ X _ _ _ hf hw (lv_sub hl [2, 1, 0] rfl) kx
def mf_cost (N : Nat) (S : mS) : Option (Int32 × mS) := (bd2 (mf_cost_L4 N N S 0 0) fun v10 S11 => some (v10, S11))
set_option maxRecDepth 100000 in
theorem cm_cost (l : Launch) (N : Nat) (S : mS) (res : Int32) (S1 : mS) (hf : mf_cost N S = some (res, S1)) : mMi l yX12_cost cX12_cost 3 .int 3 (fun g => [.ref (mr g 0)]) S res S1 := by
  refine mMi_of (own := RX12) (by decide) rfl rfl (fun g => Nat.le_of_ble_eq_true rfl) ?_
  intro p e R s m args below meth c Q g A H0 H locs ls hc hR hml hw hl hQ
  have hl : lv_has ls 3 [(0, .ref (mr g 0))] := hl
  have hx := hc.1
  have hb := hc.2.1
  unfold mf_cost at hf
  refine lv_iconst (v := 0) hx hb dX12_cost_0 (by decide) ?_
  refine lv_istore_n (lv' := [(1, .int 0), (0, .ref (mr g 0))]) hx hb dX12_cost_1 rfl hl (by decide) rfl (fun ls hl => ?_)
  refine lv_iconst (v := 0) hx hb dX12_cost_2 (by decide) ?_
  refine lv_istore_n (lv' := [(2, .int 0), (1, .int 0), (0, .ref (mr g 0))]) hx hb dX12_cost_3 rfl hl (by decide) rfl (fun ls hl => ?_)
  obtain ⟨v10, S11, hX, hf⟩ := bd2_some hf
  refine wm_cost_L4 hc hR hml N N _ _ _ _ _ _ _ hX hw (lv_sub hl [2, 1, 0] rfl) (fun H locs ls hw hl => ?_)
  refine lv_iload_n hx hb dX12_cost_56 rfl (lv_at hl 0 rfl) ?_
  cases hf
  exact hQ _ _ _ _ dX12_cost_57 hw
theorem mq_cost : qCv RX12 356 yX12_cost cX12_cost 3 (some .int) 0 := ⟨⟨(mem_g 1608 (by decide +kernel) rfl), (mem_g 1521 (by decide +kernel) rfl), (mem_g 1522 (by decide +kernel) rfl), (mem_g 89 (by decide +kernel) rfl), (mem_g 1523 (by decide +kernel) rfl)⟩, by decide, by decide +kernel, by decide⟩
def mf_sit (N : Nat) (S : mS) (a1 : Int32) (a2 : Int32) (a3 : Int32) : Option (Int32 × mS) := (bd1 (mf_isSeat N S a1 a2) fun v1 => (if v1 = true then (if (mf_in a3 0 3) = true then (if ok ((8 * a1) + a2) 48 then some (S.1 9 ((8 * a1) + a2).toNatClampNeg, ms S 9 ((8 * a1) + a2).toNatClampNeg a3) else none) else some ((-2), S)) else some ((-1), S)))
set_option maxRecDepth 100000 in
theorem cm_sit (l : Launch) (N : Nat) (S : mS) (a1 : Int32) (a2 : Int32) (a3 : Int32) (res : Int32) (S1 : mS) (hf : mf_sit N S a1 a2 a3 = some (res, S1)) : mMi l yX12_sit cX12_sit 5 .int 4 (fun g => [.ref (mr g 0), .int a1, .int a2, .int a3]) S res S1 := by
  refine mMi_of (own := RX12) (by decide) rfl rfl (fun g => Nat.le_of_ble_eq_true rfl) ?_
  intro p e R s m args below meth c Q g A H0 H locs ls hc hR hml hw hl hQ
  have hl : lv_has ls 5 [(0, .ref (mr g 0)), (1, .int a1), (2, .int a2), (3, .int a3)] := hl
  have hx := hc.1
  have hb := hc.2.1
  unfold mf_sit at hf
  refine lv_aload_n hx hb dX12_sit_0 rfl (lv_at hl 0 rfl) ?_
  refine lv_iload_n hx hb dX12_sit_1 rfl (lv_at hl 1 rfl) ?_
  refine lv_iload_n hx hb dX12_sit_2 rfl (lv_at hl 2 rfl) ?_
  obtain ⟨v1, hcall, hf⟩ := bd1_some hf
  refine m_cvi (As := [.int a1, .int a2]) (rest := []) hc hw hR (hml.trans hl.1.symm) (cm_isSeat l N S a1 a2 v1 hcall) mq_isSeat rfl (by decide) rfl rfl rfl (Nat.le_of_ble_eq_true rfl) dX12_sit_3 (fun H locs hw => ?_) ⟨Nat.zero_le _, Nat.zero_le _⟩
  refine lv_if_neb (tgt := 11) hx hb dX12_sit_6 (by decide) (fun cn3 => ?_) (fun cn3 => ?_)
  · have hf := (if_pos cn3).symm.trans hf
    refine lv_iload_n hx hb dX12_sit_11 rfl (lv_at hl 3 rfl) ?_
    refine lv_iconst (v := 0) hx hb dX12_sit_12 (by decide) ?_
    refine lv_iconst (v := 3) hx hb dX12_sit_13 (by decide) ?_
    refine m_csi (As := [.int a3, .int 0, .int 3]) (rest := []) hc hw hR (hml.trans hl.1.symm) (cm_in l S a3 0 3 _ rfl) mq_in (by decide) rfl rfl rfl (Nat.le_of_ble_eq_true rfl) dX12_sit_14 (fun H locs hw => ?_) ⟨Nat.zero_le _, Nat.zero_le _⟩
    refine lv_if_neb (tgt := 23) hx hb dX12_sit_17 (by decide) (fun cn4 => ?_) (fun cn4 => ?_)
    · have hf := (if_pos cn4).symm.trans hf
      refine lv_aload_n hx hb dX12_sit_23 rfl (lv_at hl 0 rfl) ?_
      refine m_g9 hc hw dX12_sit_24 ?_
      refine lv_bipush (v := 8) hx hb dX12_sit_27 (by decide) ?_
      refine lv_iload_n hx hb dX12_sit_29 rfl (lv_at hl 1 rfl) ?_
      refine lv_imul hx hb dX12_sit_30 ?_
      refine lv_iload_n hx hb dX12_sit_31 rfl (lv_at hl 2 rfl) ?_
      refine lv_iadd hx hb dX12_sit_32 ?_
      obtain ⟨hi2, hf⟩ := gd_some hf
      have hi2 := ok_in hi2
      refine m_l9 hc hw hi2 dX12_sit_33 ?_
      refine lv_istore (lv' := [(4, .int (S.1 9 ((8 * a1) + a2).toNatClampNeg)), (0, .ref (mr g 0)), (1, .int a1), (2, .int a2), (3, .int a3)]) hx hb dX12_sit_34 hl (by decide) rfl (fun ls hl => ?_)
      refine lv_aload_n hx hb dX12_sit_36 rfl (lv_at hl 1 rfl) ?_
      refine m_g9 hc hw dX12_sit_37 ?_
      refine lv_bipush (v := 8) hx hb dX12_sit_40 (by decide) ?_
      refine lv_iload_n hx hb dX12_sit_42 rfl (lv_at hl 2 rfl) ?_
      refine lv_imul hx hb dX12_sit_43 ?_
      refine lv_iload_n hx hb dX12_sit_44 rfl (lv_at hl 3 rfl) ?_
      refine lv_iadd hx hb dX12_sit_45 ?_
      refine lv_iload_n hx hb dX12_sit_46 rfl (lv_at hl 4 rfl) ?_
      refine m_s9 hc hw hi2 dX12_sit_47 (fun H locs hw => ?_)
      refine lv_iload hx hb dX12_sit_48 (lv_at hl 0 rfl) ?_
      cases hf
      exact hQ _ _ _ _ dX12_sit_50 hw
    · have hf := (if_neg cn4).symm.trans hf
      refine lv_bipush (v := (-2)) hx hb dX12_sit_20 (by decide) ?_
      cases hf
      exact hQ _ _ _ _ dX12_sit_22 hw
  · have hf := (if_neg cn3).symm.trans hf
    refine lv_iconst (v := (-1)) hx hb dX12_sit_9 (by decide) ?_
    cases hf
    exact hQ _ _ _ _ dX12_sit_10 hw
theorem mq_sit : qCv RX12 389 yX12_sit cX12_sit 5 (some .int) 3 := ⟨⟨(mem_g 1682 (by decide +kernel) rfl), (mem_g 1345 (by decide +kernel) rfl), (mem_g 1346 (by decide +kernel) rfl), (mem_g 89 (by decide +kernel) rfl), (mem_g 1347 (by decide +kernel) rfl)⟩, by decide, by decide +kernel, by decide⟩
def mf_told (N : Nat) (S : mS) (a1 : Int32) (a2 : Int32) (a3 : Int32) : Option (Int32) := (bd1 (mf_isSeat N S a1 a2) fun v1 => (if v1 = true then (if a3 = 0 then (if ok a1 6 then some (S.1 4 a1.toNatClampNeg) else none) else (if a3 = 1 then (bd1 (mf_placeOf N S a1 a2) fun v3 => some v3) else (if a3 = 2 then (bd1 (mf_floorOf N S a1) fun v4 => some v4) else (if a3 = 3 then (bd1 (mf_farOf N S a1) fun v5 => some v5) else (if a3 = 4 then (if ok ((8 * a1) + a2) 48 then some (S.1 9 ((8 * a1) + a2).toNatClampNeg) else none) else (if a3 = 5 then (bd1 (mf_eyesOf N S a1 a2) fun v7 => some v7) else (if a3 = 6 then (bd1 (mf_topOf N S a1 a2) fun v8 => some v8) else (if a3 = 7 then (bd1 (mf_isAmong N S a1) fun v9 => (if v9 = true then some 1 else some 0)) else some (-7))))))))) else some (-5)))
set_option maxRecDepth 100000 in
theorem cm_told (l : Launch) (N : Nat) (S : mS) (a1 : Int32) (a2 : Int32) (a3 : Int32) (res : Int32) (hf : mf_told N S a1 a2 a3 = some res) : mMi l yX12_told cX12_told 4 .int 4 (fun g => [.ref (mr g 0), .int a1, .int a2, .int a3]) S res S := by
  refine mMi_of (own := RX12) (by decide) rfl rfl (fun g => Nat.le_of_ble_eq_true rfl) ?_
  intro p e R s m args below meth c Q g A H0 H locs ls hc hR hml hw hl hQ
  have hl : lv_has ls 4 [(0, .ref (mr g 0)), (1, .int a1), (2, .int a2), (3, .int a3)] := hl
  have hx := hc.1
  have hb := hc.2.1
  unfold mf_told at hf
  refine lv_aload_n hx hb dX12_told_0 rfl (lv_at hl 0 rfl) ?_
  refine lv_iload_n hx hb dX12_told_1 rfl (lv_at hl 1 rfl) ?_
  refine lv_iload_n hx hb dX12_told_2 rfl (lv_at hl 2 rfl) ?_
  obtain ⟨v1, hcall, hf⟩ := bd1_some hf
  refine m_cvi (As := [.int a1, .int a2]) (rest := []) hc hw hR (hml.trans hl.1.symm) (cm_isSeat l N S a1 a2 v1 hcall) mq_isSeat rfl (by decide) rfl rfl rfl (Nat.le_of_ble_eq_true rfl) dX12_told_3 (fun H locs hw => ?_) ⟨Nat.zero_le _, Nat.zero_le _⟩
  refine lv_if_neb (tgt := 12) hx hb dX12_told_6 (by decide) (fun cn10 => ?_) (fun cn10 => ?_)
  · have hf := (if_pos cn10).symm.trans hf
    refine lv_iload_n hx hb dX12_told_12 rfl (lv_at hl 3 rfl) ?_
    by_cases cn11 : a3 = 0
    · have hf := (if_pos cn11).symm.trans hf
      refine lv_tableIn (tgt := 60) (off := 47) hx hb dX12_told_13 (by rw [cn11]; decide) (by rw [cn11]; decide) (by rw [cn11]; decide) (by decide) ?_
      refine lv_aload_n hx hb dX12_told_60 rfl (lv_at hl 0 rfl) ?_
      refine m_g4 hc hw dX12_told_61 ?_
      refine lv_iload_n hx hb dX12_told_64 rfl (lv_at hl 1 rfl) ?_
      obtain ⟨hi2, hf⟩ := gd_some hf
      have hi2 := ok_in hi2
      refine m_l4 hc hw hi2 dX12_told_65 ?_
      cases hf
      exact hQ _ _ _ _ dX12_told_66 hw
    have hf := (if_neg cn11).symm.trans hf
    by_cases cn12 : a3 = 1
    · have hf := (if_pos cn12).symm.trans hf
      refine lv_tableIn (tgt := 67) (off := 54) hx hb dX12_told_13 (by rw [cn12]; decide) (by rw [cn12]; decide) (by rw [cn12]; decide) (by decide) ?_
      refine lv_aload_n hx hb dX12_told_67 rfl (lv_at hl 0 rfl) ?_
      refine lv_iload_n hx hb dX12_told_68 rfl (lv_at hl 1 rfl) ?_
      refine lv_iload_n hx hb dX12_told_69 rfl (lv_at hl 2 rfl) ?_
      obtain ⟨v3, hcall, hf⟩ := bd1_some hf
      refine m_cvi (As := [.int a1, .int a2]) (rest := []) hc hw hR (hml.trans hl.1.symm) (cm_placeOf l N S a1 a2 v3 hcall) mq_placeOf rfl (by decide) rfl rfl rfl (Nat.le_of_ble_eq_true rfl) dX12_told_70 (fun H locs hw => ?_) ⟨Nat.zero_le _, Nat.zero_le _⟩
      cases hf
      exact hQ _ _ _ _ dX12_told_73 hw
    have hf := (if_neg cn12).symm.trans hf
    by_cases cn13 : a3 = 2
    · have hf := (if_pos cn13).symm.trans hf
      refine lv_tableIn (tgt := 74) (off := 61) hx hb dX12_told_13 (by rw [cn13]; decide) (by rw [cn13]; decide) (by rw [cn13]; decide) (by decide) ?_
      refine lv_aload_n hx hb dX12_told_74 rfl (lv_at hl 0 rfl) ?_
      refine lv_iload_n hx hb dX12_told_75 rfl (lv_at hl 1 rfl) ?_
      obtain ⟨v4, hcall, hf⟩ := bd1_some hf
      refine m_cvi (As := [.int a1]) (rest := []) hc hw hR (hml.trans hl.1.symm) (cm_floorOf l N S a1 v4 hcall) mq_floorOf rfl (by decide) rfl rfl rfl (Nat.le_of_ble_eq_true rfl) dX12_told_76 (fun H locs hw => ?_) ⟨Nat.zero_le _, Nat.zero_le _⟩
      cases hf
      exact hQ _ _ _ _ dX12_told_79 hw
    have hf := (if_neg cn13).symm.trans hf
    by_cases cn14 : a3 = 3
    · have hf := (if_pos cn14).symm.trans hf
      refine lv_tableIn (tgt := 80) (off := 67) hx hb dX12_told_13 (by rw [cn14]; decide) (by rw [cn14]; decide) (by rw [cn14]; decide) (by decide) ?_
      refine lv_aload_n hx hb dX12_told_80 rfl (lv_at hl 0 rfl) ?_
      refine lv_iload_n hx hb dX12_told_81 rfl (lv_at hl 1 rfl) ?_
      obtain ⟨v5, hcall, hf⟩ := bd1_some hf
      refine m_cvi (As := [.int a1]) (rest := []) hc hw hR (hml.trans hl.1.symm) (cm_farOf l N S a1 v5 hcall) mq_farOf rfl (by decide) rfl rfl rfl (Nat.le_of_ble_eq_true rfl) dX12_told_82 (fun H locs hw => ?_) ⟨Nat.zero_le _, Nat.zero_le _⟩
      cases hf
      exact hQ _ _ _ _ dX12_told_85 hw
    have hf := (if_neg cn14).symm.trans hf
    by_cases cn15 : a3 = 4
    · have hf := (if_pos cn15).symm.trans hf
      refine lv_tableIn (tgt := 86) (off := 73) hx hb dX12_told_13 (by rw [cn15]; decide) (by rw [cn15]; decide) (by rw [cn15]; decide) (by decide) ?_
      refine lv_aload_n hx hb dX12_told_86 rfl (lv_at hl 0 rfl) ?_
      refine m_g9 hc hw dX12_told_87 ?_
      refine lv_bipush (v := 8) hx hb dX12_told_90 (by decide) ?_
      refine lv_iload_n hx hb dX12_told_92 rfl (lv_at hl 1 rfl) ?_
      refine lv_imul hx hb dX12_told_93 ?_
      refine lv_iload_n hx hb dX12_told_94 rfl (lv_at hl 2 rfl) ?_
      refine lv_iadd hx hb dX12_told_95 ?_
      obtain ⟨hi6, hf⟩ := gd_some hf
      have hi6 := ok_in hi6
      refine m_l9 hc hw hi6 dX12_told_96 ?_
      cases hf
      exact hQ _ _ _ _ dX12_told_97 hw
    have hf := (if_neg cn15).symm.trans hf
    by_cases cn16 : a3 = 5
    · have hf := (if_pos cn16).symm.trans hf
      refine lv_tableIn (tgt := 98) (off := 85) hx hb dX12_told_13 (by rw [cn16]; decide) (by rw [cn16]; decide) (by rw [cn16]; decide) (by decide) ?_
      refine lv_aload_n hx hb dX12_told_98 rfl (lv_at hl 0 rfl) ?_
      refine lv_iload_n hx hb dX12_told_99 rfl (lv_at hl 1 rfl) ?_
      refine lv_iload_n hx hb dX12_told_100 rfl (lv_at hl 2 rfl) ?_
      obtain ⟨v7, hcall, hf⟩ := bd1_some hf
      refine m_cvi (As := [.int a1, .int a2]) (rest := []) hc hw hR (hml.trans hl.1.symm) (cm_eyesOf l N S a1 a2 v7 hcall) mq_eyesOf rfl (by decide) rfl rfl rfl (Nat.le_of_ble_eq_true rfl) dX12_told_101 (fun H locs hw => ?_) ⟨Nat.zero_le _, Nat.zero_le _⟩
      cases hf
      exact hQ _ _ _ _ dX12_told_104 hw
    have hf := (if_neg cn16).symm.trans hf
    by_cases cn17 : a3 = 6
    · have hf := (if_pos cn17).symm.trans hf
      refine lv_tableIn (tgt := 105) (off := 92) hx hb dX12_told_13 (by rw [cn17]; decide) (by rw [cn17]; decide) (by rw [cn17]; decide) (by decide) ?_
      refine lv_aload_n hx hb dX12_told_105 rfl (lv_at hl 0 rfl) ?_
      refine lv_iload_n hx hb dX12_told_106 rfl (lv_at hl 1 rfl) ?_
      refine lv_iload_n hx hb dX12_told_107 rfl (lv_at hl 2 rfl) ?_
      obtain ⟨v8, hcall, hf⟩ := bd1_some hf
      refine m_cvi (As := [.int a1, .int a2]) (rest := []) hc hw hR (hml.trans hl.1.symm) (cm_topOf l N S a1 a2 v8 hcall) mq_topOf rfl (by decide) rfl rfl rfl (Nat.le_of_ble_eq_true rfl) dX12_told_108 (fun H locs hw => ?_) ⟨Nat.zero_le _, Nat.zero_le _⟩
      cases hf
      exact hQ _ _ _ _ dX12_told_111 hw
    have hf := (if_neg cn17).symm.trans hf
    by_cases cn19 : a3 = 7
    · have hf := (if_pos cn19).symm.trans hf
      refine lv_tableIn (tgt := 112) (off := 99) hx hb dX12_told_13 (by rw [cn19]; decide) (by rw [cn19]; decide) (by rw [cn19]; decide) (by decide) ?_
      refine lv_aload_n hx hb dX12_told_112 rfl (lv_at hl 0 rfl) ?_
      refine lv_iload_n hx hb dX12_told_113 rfl (lv_at hl 1 rfl) ?_
      obtain ⟨v9, hcall, hf⟩ := bd1_some hf
      refine m_cvi (As := [.int a1]) (rest := []) hc hw hR (hml.trans hl.1.symm) (cm_isAmong l N S a1 v9 hcall) mq_isAmong rfl (by decide) rfl rfl rfl (Nat.le_of_ble_eq_true rfl) dX12_told_114 (fun H locs hw => ?_) ⟨Nat.zero_le _, Nat.zero_le _⟩
      refine lv_if_eqb (tgt := 124) hx hb dX12_told_117 (by decide) (fun cn18 => ?_) (fun cn18 => ?_)
      · have hf := (if_neg cn18).symm.trans hf
        refine lv_iconst (v := 0) hx hb dX12_told_124 (by decide) ?_
        cases hf
        exact hQ _ _ _ _ dX12_told_125 hw
      · have hf := (if_pos cn18).symm.trans hf
        refine lv_iconst (v := 1) hx hb dX12_told_120 (by decide) ?_
        refine lv_goto (tgt := 125) hx hb dX12_told_121 (by decide) ?_
        cases hf
        exact hQ _ _ _ _ dX12_told_125 hw
    have hf := (if_neg cn19).symm.trans hf
    refine lv_tableOut (tgt := 126) hx hb dX12_told_13 (by have hcn11 := sw_ne cn11 (k := 0) (by decide); have hcn12 := sw_ne cn12 (k := 1) (by decide); have hcn13 := sw_ne cn13 (k := 2) (by decide); have hcn14 := sw_ne cn14 (k := 3) (by decide); have hcn15 := sw_ne cn15 (k := 4) (by decide); have hcn16 := sw_ne cn16 (k := 5) (by decide); have hcn17 := sw_ne cn17 (k := 6) (by decide); have hcn19 := sw_ne cn19 (k := 7) (by decide); omega) (by decide) ?_
    refine lv_bipush (v := (-7)) hx hb dX12_told_126 (by decide) ?_
    cases hf
    exact hQ _ _ _ _ dX12_told_128 hw
  · have hf := (if_neg cn10).symm.trans hf
    refine lv_bipush (v := (-5)) hx hb dX12_told_9 (by decide) ?_
    cases hf
    exact hQ _ _ _ _ dX12_told_11 hw
def mf_eRead_L14 (N : Nat) : Nat → mS → Int32 → Int32 → Option ((Bool × mS) ⊕ (mS))
  | 0, _, _, _ => none
  | n + 1, S3, v1, v2 => (bd1 (mf_next N S3) fun S4 => (if v1 = 0 then (if (S4.1 42 0) = 59 then (bd1 (mf_unwinds N S4 1) fun S9 => (if (S9.1 46 0) = 0 then some (.inl (true, S9)) else some (.inl (false, S9)))) else (if (S4.1 42 0) = 41 then (bd1 (mf_unwinds N S4 1) fun S7 => (if (S7.1 46 0) = 0 then some (.inl (false, S7)) else (bd1 (mf_unwinds N (ms (ms S7 46 0 ((S7.1 46 0) - 1)) 47 0 (((ms S7 46 0 ((S7.1 46 0) - 1)).1 47 0) - 1)) 7) fun S8 => mf_eRead_L14 N n S8 v1 v2))) else (if (mf_signOf S4) = (-1) then some (.inl (false, S4)) else (bd2 (mf_between N S4 (mf_signOf S4)) fun v5 S6 => (if v5 = true then (if 12 < (mf_signOf S4) then mf_eRead_L14 N n S6 1 0 else mf_eRead_L14 N n S6 1 1) else some (.inl (false, S6))))))) else (if (S4.1 42 0) = 1 then (bd1 (mf_puts N S4 (if (S4.1 42 0) = 1 then 100000 + (S4.1 43 0) else S4.1 43 0)) fun S11 => (bd1 (mf_unwinds N S11 7) fun S12 => mf_eRead_L14 N n S12 0 v2)) else (if (S4.1 42 0) = 2 then (bd1 (mf_puts N S4 (if (S4.1 42 0) = 1 then 100000 + (S4.1 43 0) else S4.1 43 0)) fun S24 => (bd1 (mf_unwinds N S24 7) fun S25 => mf_eRead_L14 N n S25 0 v2)) else (if (S4.1 42 0) = 6 then (if v2 = 0 then (if (S4.1 42 0) = 45 then (bd2 (mf_opensOne N S4 19) fun v19 S20 => (if v19 = true then mf_eRead_L14 N n S20 v1 0 else some (.inl (false, S20)))) else (if (S4.1 42 0) = 40 then (bd2 (mf_opensOne N S4 0) fun v17 S18 => (if v17 = true then mf_eRead_L14 N n S18 v1 1 else some (.inl (false, S18)))) else some (.inl (false, S4)))) else (bd2 (mf_opensOne N S4 13) fun v21 S22 => (if v21 = true then mf_eRead_L14 N n S22 v1 v2 else some (.inl (false, S22))))) else (if (S4.1 42 0) = 45 then (bd2 (mf_opensOne N S4 19) fun v15 S16 => (if v15 = true then mf_eRead_L14 N n S16 v1 0 else some (.inl (false, S16)))) else (if (S4.1 42 0) = 40 then (bd2 (mf_opensOne N S4 0) fun v13 S14 => (if v13 = true then mf_eRead_L14 N n S14 v1 1 else some (.inl (false, S14)))) else some (.inl (false, S4)))))))))
set_option maxRecDepth 100000 in
theorem wm_eRead_L14 {p : Program} {l : Launch} {e : Env} {R : Room} {s : State} {m : MethodId} {args : Array Value} {below : List Frame} {meth : Method} {c : Code} {Q : State → Prop} {g : mG} {A : Nat → Prop} {H0 : Heap} (hc : qC RX12 cX12_eRead p s m args c) (hR : qRoom R 4) (hml : c.maxLocals = 4) (N : Nat) : ∀ (n : Nat) (S3 : mS) (v1 : Int32) (v2 : Int32) (X : (Bool × mS) ⊕ (mS)) (H : Heap) (locs : List Loc) (ls : Array Slot), mf_eRead_L14 N n S3 v1 v2 = some X → mI g A H0 s S3 H locs → lv_has ls 4 [(0, .ref (mr g 0)), (1, .int v1), (2, .int v2)] → (∀ (r : Bool) (S9 : mS), X = .inl (r, S9) → mQi p l e R s m args below meth c cX12_eRead Q g A H0 (bi r) S9) → W p l e R s m args below meth c H locs 0 0 Q (F0 m 14 ls []) := by
  have hx := hc.1
  have hb := hc.2.1
  intro n
  induction n with
  | zero => intro _ _ _ X H locs ls hf; exact nomatch (show none = some X from hf)
  | succ n ih =>
    intro S3 v1 v2 X H locs ls hf hw hl kr
    rw [mf_eRead_L14] at hf
    refine lv_aload_n hx hb dX12_eRead_14 rfl (lv_at hl 0 rfl) ?_
    obtain ⟨S4, hcall, hf⟩ := bd1_some hf
    refine m_cvv (As := []) (rest := []) hc hw hR (hml.trans hl.1.symm) (cm_next l N S3 S4 hcall) mq_next rfl (by decide) rfl rfl rfl (Nat.le_of_ble_eq_true rfl) dX12_eRead_15 (fun H locs hw => ?_) ⟨Nat.zero_le _, Nat.zero_le _⟩
    refine lv_iload_n hx hb dX12_eRead_18 rfl (lv_at hl 1 rfl) ?_
    refine lv_if_eq (tgt := 150) hx hb dX12_eRead_19 (by decide) (fun cn26 => ?_) (fun cn26 => ?_)
    · have hf := (if_pos cn26).symm.trans hf
      refine lv_aload_n hx hb dX12_eRead_150 rfl (lv_at hl 0 rfl) ?_
      refine m_g42 hc hw dX12_eRead_151 ?_
      refine lv_bipush (v := 59) hx hb dX12_eRead_154 (by decide) ?_
      refine lv_icmp_ne (tgt := 177) hx hb dX12_eRead_156 (by decide) (fun cn27 => ?_) (fun cn27 => ?_)
      · have hf := (if_neg cn27).symm.trans hf
        refine lv_aload_n hx hb dX12_eRead_177 rfl (lv_at hl 0 rfl) ?_
        refine m_g42 hc hw dX12_eRead_178 ?_
        refine lv_bipush (v := 41) hx hb dX12_eRead_181 (by decide) ?_
        refine lv_icmp_ne (tgt := 229) hx hb dX12_eRead_183 (by decide) (fun cn28 => ?_) (fun cn28 => ?_)
        · have hf := (if_neg cn28).symm.trans hf
          refine lv_aload_n hx hb dX12_eRead_229 rfl (lv_at hl 0 rfl) ?_
          refine m_cvi (As := []) (rest := []) hc hw hR (hml.trans hl.1.symm) (cm_signOf l S4 _ rfl) mq_signOf rfl (by decide) rfl rfl rfl (Nat.le_of_ble_eq_true rfl) dX12_eRead_230 (fun H locs hw => ?_) ⟨Nat.zero_le _, Nat.zero_le _⟩
          refine lv_istore_n (lv' := [(3, .int (mf_signOf S4)), (0, .ref (mr g 0)), (1, .int v1), (2, .int v2)]) hx hb dX12_eRead_233 rfl hl (by decide) rfl (fun ls hl => ?_)
          refine lv_iload_n hx hb dX12_eRead_234 rfl (lv_at hl 0 rfl) ?_
          refine lv_iconst (v := (-1)) hx hb dX12_eRead_235 (by decide) ?_
          refine lv_icmp_eq (tgt := 247) hx hb dX12_eRead_236 (by decide) (fun cn29 => ?_) (fun cn29 => ?_)
          · have hf := (if_pos cn29).symm.trans hf
            refine lv_iconst (v := 0) hx hb dX12_eRead_247 (by decide) ?_
            cases hf
            exact kr _ _  rfl _ _ _ _ dX12_eRead_248 hw
          · have hf := (if_neg cn29).symm.trans hf
            refine lv_aload_n hx hb dX12_eRead_239 rfl (lv_at hl 1 rfl) ?_
            refine lv_iload_n hx hb dX12_eRead_240 rfl (lv_at hl 0 rfl) ?_
            obtain ⟨v5, S6, hcall, hf⟩ := bd2_some hf
            refine m_cvi (As := [.int (mf_signOf S4)]) (rest := []) hc hw hR (hml.trans hl.1.symm) (cm_between l N S4 (mf_signOf S4) v5 S6 hcall) mq_between rfl (by decide) rfl rfl rfl (Nat.le_of_ble_eq_true rfl) dX12_eRead_241 (fun H locs hw => ?_) ⟨Nat.zero_le _, Nat.zero_le _⟩
            refine lv_if_neb (tgt := 249) hx hb dX12_eRead_244 (by decide) (fun cn30 => ?_) (fun cn30 => ?_)
            · have hf := (if_pos cn30).symm.trans hf
              refine lv_iconst (v := 1) hx hb dX12_eRead_249 (by decide) ?_
              refine lv_istore_n (lv' := [(1, .int 1), (3, .int (mf_signOf S4)), (0, .ref (mr g 0)), (2, .int v2)]) hx hb dX12_eRead_250 rfl hl (by decide) rfl (fun ls hl => ?_)
              refine lv_iload_n hx hb dX12_eRead_251 rfl (lv_at hl 1 rfl) ?_
              refine lv_bipush (v := 12) hx hb dX12_eRead_252 (by decide) ?_
              refine lv_icmp_gt (tgt := 261) hx hb dX12_eRead_254 (by decide) (fun cn31 => ?_) (fun cn31 => ?_)
              · have hf := (if_pos cn31).symm.trans hf
                refine lv_iconst (v := 0) hx hb dX12_eRead_261 (by decide) ?_
                refine lv_istore_n (lv' := [(2, .int 0), (1, .int 1), (3, .int (mf_signOf S4)), (0, .ref (mr g 0))]) hx hb dX12_eRead_262 rfl hl (by decide) rfl (fun ls hl => ?_)
                refine lv_goto (tgt := 14) hx hb dX12_eRead_263 (by decide) ?_
                exact ih _ _ _ X _ _ _ hf hw (lv_sub hl [3, 1, 0] rfl) kr
              · have hf := (if_neg cn31).symm.trans hf
                refine lv_iconst (v := 1) hx hb dX12_eRead_257 (by decide) ?_
                refine lv_goto (tgt := 262) hx hb dX12_eRead_258 (by decide) ?_
                refine lv_istore_n (lv' := [(2, .int 1), (1, .int 1), (3, .int (mf_signOf S4)), (0, .ref (mr g 0))]) hx hb dX12_eRead_262 rfl hl (by decide) rfl (fun ls hl => ?_)
                refine lv_goto (tgt := 14) hx hb dX12_eRead_263 (by decide) ?_
                exact ih _ _ _ X _ _ _ hf hw (lv_sub hl [3, 1, 0] rfl) kr
            · have hf := (if_neg cn30).symm.trans hf
              refine lv_iconst (v := 0) hx hb dX12_eRead_247 (by decide) ?_
              cases hf
              exact kr _ _  rfl _ _ _ _ dX12_eRead_248 hw
        · have hf := (if_pos cn28).symm.trans hf
          refine lv_aload_n hx hb dX12_eRead_186 rfl (lv_at hl 0 rfl) ?_
          refine lv_iconst (v := 1) hx hb dX12_eRead_187 (by decide) ?_
          obtain ⟨S7, hcall, hf⟩ := bd1_some hf
          refine m_cvv (As := [.int 1]) (rest := []) hc hw hR (hml.trans hl.1.symm) (cm_unwinds l N S4 1 S7 hcall) mq_unwinds rfl (by decide) rfl rfl rfl (Nat.le_of_ble_eq_true rfl) dX12_eRead_188 (fun H locs hw => ?_) ⟨Nat.zero_le _, Nat.zero_le _⟩
          refine lv_aload_n hx hb dX12_eRead_191 rfl (lv_at hl 0 rfl) ?_
          refine m_g46 hc hw dX12_eRead_192 ?_
          refine lv_if_ne (tgt := 200) hx hb dX12_eRead_195 (by decide) (fun cn32 => ?_) (fun cn32 => ?_)
          · have hf := (if_neg cn32).symm.trans hf
            refine lv_aload_n hx hb dX12_eRead_200 rfl (lv_at hl 0 rfl) ?_
            refine lv_dup hx hb dX12_eRead_201 rfl ?_
            refine m_g46 hc hw dX12_eRead_202 ?_
            refine lv_iconst (v := 1) hx hb dX12_eRead_205 (by decide) ?_
            refine lv_isub hx hb dX12_eRead_206 ?_
            refine m_p46 hc hw dX12_eRead_207 (fun H locs hw => ?_)
            refine lv_aload_n hx hb dX12_eRead_210 rfl (lv_at hl 0 rfl) ?_
            refine lv_dup hx hb dX12_eRead_211 rfl ?_
            refine m_g47 hc hw dX12_eRead_212 ?_
            refine lv_iconst (v := 1) hx hb dX12_eRead_215 (by decide) ?_
            refine lv_isub hx hb dX12_eRead_216 ?_
            refine m_p47 hc hw dX12_eRead_217 (fun H locs hw => ?_)
            refine lv_aload_n hx hb dX12_eRead_220 rfl (lv_at hl 0 rfl) ?_
            refine lv_bipush (v := 7) hx hb dX12_eRead_221 (by decide) ?_
            obtain ⟨S8, hcall, hf⟩ := bd1_some hf
            refine m_cvv (As := [.int 7]) (rest := []) hc hw hR (hml.trans hl.1.symm) (cm_unwinds l N (ms (ms S7 46 0 ((S7.1 46 0) - 1)) 47 0 (((ms S7 46 0 ((S7.1 46 0) - 1)).1 47 0) - 1)) 7 S8 hcall) mq_unwinds rfl (by decide) rfl rfl rfl (Nat.le_of_ble_eq_true rfl) dX12_eRead_223 (fun H locs hw => ?_) ⟨Nat.zero_le _, Nat.zero_le _⟩
            refine lv_goto (tgt := 14) hx hb dX12_eRead_226 (by decide) ?_
            exact ih _ _ _ X _ _ _ hf hw (lv_sub hl [0, 1, 2] rfl) kr
          · have hf := (if_pos cn32).symm.trans hf
            refine lv_iconst (v := 0) hx hb dX12_eRead_198 (by decide) ?_
            cases hf
            exact kr _ _  rfl _ _ _ _ dX12_eRead_199 hw
      · have hf := (if_pos cn27).symm.trans hf
        refine lv_aload_n hx hb dX12_eRead_159 rfl (lv_at hl 0 rfl) ?_
        refine lv_iconst (v := 1) hx hb dX12_eRead_160 (by decide) ?_
        obtain ⟨S9, hcall, hf⟩ := bd1_some hf
        refine m_cvv (As := [.int 1]) (rest := []) hc hw hR (hml.trans hl.1.symm) (cm_unwinds l N S4 1 S9 hcall) mq_unwinds rfl (by decide) rfl rfl rfl (Nat.le_of_ble_eq_true rfl) dX12_eRead_161 (fun H locs hw => ?_) ⟨Nat.zero_le _, Nat.zero_le _⟩
        refine lv_aload_n hx hb dX12_eRead_164 rfl (lv_at hl 0 rfl) ?_
        refine m_g46 hc hw dX12_eRead_165 ?_
        refine lv_if_ne (tgt := 175) hx hb dX12_eRead_168 (by decide) (fun cn33 => ?_) (fun cn33 => ?_)
        · have hf := (if_neg cn33).symm.trans hf
          refine lv_iconst (v := 0) hx hb dX12_eRead_175 (by decide) ?_
          cases hf
          exact kr _ _  rfl _ _ _ _ dX12_eRead_176 hw
        · have hf := (if_pos cn33).symm.trans hf
          refine lv_iconst (v := 1) hx hb dX12_eRead_171 (by decide) ?_
          refine lv_goto (tgt := 176) hx hb dX12_eRead_172 (by decide) ?_
          cases hf
          exact kr _ _  rfl _ _ _ _ dX12_eRead_176 hw
    · have hf := (if_neg cn26).symm.trans hf
      refine lv_aload_n hx hb dX12_eRead_22 rfl (lv_at hl 0 rfl) ?_
      refine m_g42 hc hw dX12_eRead_23 ?_
      refine lv_iconst (v := 1) hx hb dX12_eRead_26 (by decide) ?_
      refine lv_icmp_eq (tgt := 38) hx hb dX12_eRead_27 (by decide) (fun cn34 => ?_) (fun cn34 => ?_)
      · have hf := (if_pos cn34).symm.trans hf
        refine lv_aload_n hx hb dX12_eRead_38 rfl (lv_at hl 0 rfl) ?_
        refine lv_aload_n hx hb dX12_eRead_39 rfl (lv_at hl 0 rfl) ?_
        refine m_g42 hc hw dX12_eRead_40 ?_
        refine lv_iconst (v := 1) hx hb dX12_eRead_43 (by decide) ?_
        obtain ⟨v10, hv10⟩ : ∃ y : Int32, y = (if (S4.1 42 0) = 1 then 100000 + (S4.1 43 0) else S4.1 43 0) := ⟨_, rfl⟩
        try rw [← hv10] at hf
        have kJ : ∀ ls : Array Slot, lv_has ls 4 [(0, .ref (mr g 0)), (2, .int v2)] → W p l e R s m args below meth c H locs 0 0 Q (F0 m 61 ls [.int v10, .ref (mr g 0)]) := by
          intro ls hl
          obtain ⟨S11, hcall, hf⟩ := bd1_some hf
          refine m_cvv (As := [.int v10]) (rest := []) hc hw hR (hml.trans hl.1.symm) (cm_puts l N S4 v10 S11 hcall) mq_puts rfl (by decide) rfl rfl rfl (Nat.le_of_ble_eq_true rfl) dX12_eRead_61 (fun H locs hw => ?_) ⟨Nat.zero_le _, Nat.zero_le _⟩
          refine lv_aload_n hx hb dX12_eRead_64 rfl (lv_at hl 0 rfl) ?_
          refine lv_bipush (v := 7) hx hb dX12_eRead_65 (by decide) ?_
          obtain ⟨S12, hcall, hf⟩ := bd1_some hf
          refine m_cvv (As := [.int 7]) (rest := []) hc hw hR (hml.trans hl.1.symm) (cm_unwinds l N S11 7 S12 hcall) mq_unwinds rfl (by decide) rfl rfl rfl (Nat.le_of_ble_eq_true rfl) dX12_eRead_67 (fun H locs hw => ?_) ⟨Nat.zero_le _, Nat.zero_le _⟩
          refine lv_iconst (v := 0) hx hb dX12_eRead_70 (by decide) ?_
          refine lv_istore_n (lv' := [(1, .int 0), (0, .ref (mr g 0)), (2, .int v2)]) hx hb dX12_eRead_71 rfl hl (by decide) rfl (fun ls hl => ?_)
          refine lv_goto (tgt := 14) hx hb dX12_eRead_72 (by decide) ?_
          exact ih _ _ _ X _ _ _ hf hw (lv_sub hl [1, 0, 2] rfl) kr
        refine lv_icmp_ne (tgt := 57) hx hb dX12_eRead_44 (by decide) (fun cn35 => ?_) (fun cn35 => ?_)
        · refine lv_aload_n hx hb dX12_eRead_57 rfl (lv_at hl 0 rfl) ?_
          refine m_g43 hc hw dX12_eRead_58 ?_
          have ev10 : v10 = S4.1 43 0 := by rw [hv10]; simp only [if_neg cn35]
          exact W.eq (by simp only [ev10]) (kJ ls (by skip; exact lv_sub hl [0, 2] rfl))
        · refine lv_ldc (v := 100000) hx hb hc.2.2.1 (hc.2.2.2 _ (mem_g 1421 (by decide +kernel) rfl)) dX12_eRead_47 ?_
          refine lv_aload_n hx hb dX12_eRead_49 rfl (lv_at hl 0 rfl) ?_
          refine m_g43 hc hw dX12_eRead_50 ?_
          refine lv_iadd hx hb dX12_eRead_53 ?_
          refine lv_goto (tgt := 61) hx hb dX12_eRead_54 (by decide) ?_
          have ev10 : v10 = 100000 + (S4.1 43 0) := by rw [hv10]; simp only [if_pos cn35]
          exact W.eq (by simp only [ev10]) (kJ ls (by skip; exact lv_sub hl [0, 2] rfl))
      · have hf := (if_neg cn34).symm.trans hf
        refine lv_aload_n hx hb dX12_eRead_30 rfl (lv_at hl 0 rfl) ?_
        refine m_g42 hc hw dX12_eRead_31 ?_
        refine lv_iconst (v := 2) hx hb dX12_eRead_34 (by decide) ?_
        refine lv_icmp_ne (tgt := 75) hx hb dX12_eRead_35 (by decide) (fun cn36 => ?_) (fun cn36 => ?_)
        · have hf := (if_neg cn36).symm.trans hf
          refine lv_aload_n hx hb dX12_eRead_75 rfl (lv_at hl 0 rfl) ?_
          refine m_g42 hc hw dX12_eRead_76 ?_
          refine lv_bipush (v := 6) hx hb dX12_eRead_79 (by decide) ?_
          refine lv_icmp_ne (tgt := 99) hx hb dX12_eRead_81 (by decide) (fun cn37 => ?_) (fun cn37 => ?_)
          · have hf := (if_neg cn37).symm.trans hf
            refine lv_aload_n hx hb dX12_eRead_99 rfl (lv_at hl 0 rfl) ?_
            refine m_g42 hc hw dX12_eRead_100 ?_
            refine lv_bipush (v := 45) hx hb dX12_eRead_103 (by decide) ?_
            refine lv_icmp_ne (tgt := 124) hx hb dX12_eRead_105 (by decide) (fun cn38 => ?_) (fun cn38 => ?_)
            · have hf := (if_neg cn38).symm.trans hf
              refine lv_aload_n hx hb dX12_eRead_124 rfl (lv_at hl 0 rfl) ?_
              refine m_g42 hc hw dX12_eRead_125 ?_
              refine lv_bipush (v := 40) hx hb dX12_eRead_128 (by decide) ?_
              refine lv_icmp_ne (tgt := 148) hx hb dX12_eRead_130 (by decide) (fun cn39 => ?_) (fun cn39 => ?_)
              · have hf := (if_neg cn39).symm.trans hf
                refine lv_iconst (v := 0) hx hb dX12_eRead_148 (by decide) ?_
                cases hf
                exact kr _ _  rfl _ _ _ _ dX12_eRead_149 hw
              · have hf := (if_pos cn39).symm.trans hf
                refine lv_aload_n hx hb dX12_eRead_133 rfl (lv_at hl 0 rfl) ?_
                refine lv_iconst (v := 0) hx hb dX12_eRead_134 (by decide) ?_
                obtain ⟨v13, S14, hcall, hf⟩ := bd2_some hf
                refine m_cvi (As := [.int 0]) (rest := []) hc hw hR (hml.trans hl.1.symm) (cm_opensOne l N S4 0 v13 S14 hcall) mq_opensOne rfl (by decide) rfl rfl rfl (Nat.le_of_ble_eq_true rfl) dX12_eRead_135 (fun H locs hw => ?_) ⟨Nat.zero_le _, Nat.zero_le _⟩
                refine lv_if_neb (tgt := 143) hx hb dX12_eRead_138 (by decide) (fun cn40 => ?_) (fun cn40 => ?_)
                · have hf := (if_pos cn40).symm.trans hf
                  refine lv_iconst (v := 1) hx hb dX12_eRead_143 (by decide) ?_
                  refine lv_istore_n (lv' := [(2, .int 1), (0, .ref (mr g 0)), (1, .int v1)]) hx hb dX12_eRead_144 rfl hl (by decide) rfl (fun ls hl => ?_)
                  refine lv_goto (tgt := 14) hx hb dX12_eRead_145 (by decide) ?_
                  exact ih _ _ _ X _ _ _ hf hw (lv_sub hl [1, 2, 0] rfl) kr
                · have hf := (if_neg cn40).symm.trans hf
                  refine lv_iconst (v := 0) hx hb dX12_eRead_141 (by decide) ?_
                  cases hf
                  exact kr _ _  rfl _ _ _ _ dX12_eRead_142 hw
            · have hf := (if_pos cn38).symm.trans hf
              refine lv_aload_n hx hb dX12_eRead_108 rfl (lv_at hl 0 rfl) ?_
              refine lv_bipush (v := 19) hx hb dX12_eRead_109 (by decide) ?_
              obtain ⟨v15, S16, hcall, hf⟩ := bd2_some hf
              refine m_cvi (As := [.int 19]) (rest := []) hc hw hR (hml.trans hl.1.symm) (cm_opensOne l N S4 19 v15 S16 hcall) mq_opensOne rfl (by decide) rfl rfl rfl (Nat.le_of_ble_eq_true rfl) dX12_eRead_111 (fun H locs hw => ?_) ⟨Nat.zero_le _, Nat.zero_le _⟩
              refine lv_if_neb (tgt := 119) hx hb dX12_eRead_114 (by decide) (fun cn41 => ?_) (fun cn41 => ?_)
              · have hf := (if_pos cn41).symm.trans hf
                refine lv_iconst (v := 0) hx hb dX12_eRead_119 (by decide) ?_
                refine lv_istore_n (lv' := [(2, .int 0), (0, .ref (mr g 0)), (1, .int v1)]) hx hb dX12_eRead_120 rfl hl (by decide) rfl (fun ls hl => ?_)
                refine lv_goto (tgt := 14) hx hb dX12_eRead_121 (by decide) ?_
                exact ih _ _ _ X _ _ _ hf hw (lv_sub hl [1, 2, 0] rfl) kr
              · have hf := (if_neg cn41).symm.trans hf
                refine lv_iconst (v := 0) hx hb dX12_eRead_117 (by decide) ?_
                cases hf
                exact kr _ _  rfl _ _ _ _ dX12_eRead_118 hw
          · have hf := (if_pos cn37).symm.trans hf
            refine lv_iload_n hx hb dX12_eRead_84 rfl (lv_at hl 2 rfl) ?_
            refine lv_if_eq (tgt := 99) hx hb dX12_eRead_85 (by decide) (fun cn42 => ?_) (fun cn42 => ?_)
            · have hf := (if_pos cn42).symm.trans hf
              refine lv_aload_n hx hb dX12_eRead_99 rfl (lv_at hl 0 rfl) ?_
              refine m_g42 hc hw dX12_eRead_100 ?_
              refine lv_bipush (v := 45) hx hb dX12_eRead_103 (by decide) ?_
              refine lv_icmp_ne (tgt := 124) hx hb dX12_eRead_105 (by decide) (fun cn43 => ?_) (fun cn43 => ?_)
              · have hf := (if_neg cn43).symm.trans hf
                refine lv_aload_n hx hb dX12_eRead_124 rfl (lv_at hl 0 rfl) ?_
                refine m_g42 hc hw dX12_eRead_125 ?_
                refine lv_bipush (v := 40) hx hb dX12_eRead_128 (by decide) ?_
                refine lv_icmp_ne (tgt := 148) hx hb dX12_eRead_130 (by decide) (fun cn44 => ?_) (fun cn44 => ?_)
                · have hf := (if_neg cn44).symm.trans hf
                  refine lv_iconst (v := 0) hx hb dX12_eRead_148 (by decide) ?_
                  cases hf
                  exact kr _ _  rfl _ _ _ _ dX12_eRead_149 hw
                · have hf := (if_pos cn44).symm.trans hf
                  refine lv_aload_n hx hb dX12_eRead_133 rfl (lv_at hl 0 rfl) ?_
                  refine lv_iconst (v := 0) hx hb dX12_eRead_134 (by decide) ?_
                  obtain ⟨v17, S18, hcall, hf⟩ := bd2_some hf
                  refine m_cvi (As := [.int 0]) (rest := []) hc hw hR (hml.trans hl.1.symm) (cm_opensOne l N S4 0 v17 S18 hcall) mq_opensOne rfl (by decide) rfl rfl rfl (Nat.le_of_ble_eq_true rfl) dX12_eRead_135 (fun H locs hw => ?_) ⟨Nat.zero_le _, Nat.zero_le _⟩
                  refine lv_if_neb (tgt := 143) hx hb dX12_eRead_138 (by decide) (fun cn45 => ?_) (fun cn45 => ?_)
                  · have hf := (if_pos cn45).symm.trans hf
                    refine lv_iconst (v := 1) hx hb dX12_eRead_143 (by decide) ?_
                    refine lv_istore_n (lv' := [(2, .int 1), (0, .ref (mr g 0)), (1, .int v1)]) hx hb dX12_eRead_144 rfl hl (by decide) rfl (fun ls hl => ?_)
                    refine lv_goto (tgt := 14) hx hb dX12_eRead_145 (by decide) ?_
                    exact ih _ _ _ X _ _ _ hf hw (lv_sub hl [1, 2, 0] rfl) kr
                  · have hf := (if_neg cn45).symm.trans hf
                    refine lv_iconst (v := 0) hx hb dX12_eRead_141 (by decide) ?_
                    cases hf
                    exact kr _ _  rfl _ _ _ _ dX12_eRead_142 hw
              · have hf := (if_pos cn43).symm.trans hf
                refine lv_aload_n hx hb dX12_eRead_108 rfl (lv_at hl 0 rfl) ?_
                refine lv_bipush (v := 19) hx hb dX12_eRead_109 (by decide) ?_
                obtain ⟨v19, S20, hcall, hf⟩ := bd2_some hf
                refine m_cvi (As := [.int 19]) (rest := []) hc hw hR (hml.trans hl.1.symm) (cm_opensOne l N S4 19 v19 S20 hcall) mq_opensOne rfl (by decide) rfl rfl rfl (Nat.le_of_ble_eq_true rfl) dX12_eRead_111 (fun H locs hw => ?_) ⟨Nat.zero_le _, Nat.zero_le _⟩
                refine lv_if_neb (tgt := 119) hx hb dX12_eRead_114 (by decide) (fun cn46 => ?_) (fun cn46 => ?_)
                · have hf := (if_pos cn46).symm.trans hf
                  refine lv_iconst (v := 0) hx hb dX12_eRead_119 (by decide) ?_
                  refine lv_istore_n (lv' := [(2, .int 0), (0, .ref (mr g 0)), (1, .int v1)]) hx hb dX12_eRead_120 rfl hl (by decide) rfl (fun ls hl => ?_)
                  refine lv_goto (tgt := 14) hx hb dX12_eRead_121 (by decide) ?_
                  exact ih _ _ _ X _ _ _ hf hw (lv_sub hl [1, 2, 0] rfl) kr
                · have hf := (if_neg cn46).symm.trans hf
                  refine lv_iconst (v := 0) hx hb dX12_eRead_117 (by decide) ?_
                  cases hf
                  exact kr _ _  rfl _ _ _ _ dX12_eRead_118 hw
            · have hf := (if_neg cn42).symm.trans hf
              refine lv_aload_n hx hb dX12_eRead_88 rfl (lv_at hl 0 rfl) ?_
              refine lv_bipush (v := 13) hx hb dX12_eRead_89 (by decide) ?_
              obtain ⟨v21, S22, hcall, hf⟩ := bd2_some hf
              refine m_cvi (As := [.int 13]) (rest := []) hc hw hR (hml.trans hl.1.symm) (cm_opensOne l N S4 13 v21 S22 hcall) mq_opensOne rfl (by decide) rfl rfl rfl (Nat.le_of_ble_eq_true rfl) dX12_eRead_91 (fun H locs hw => ?_) ⟨Nat.zero_le _, Nat.zero_le _⟩
              refine lv_if_neb (tgt := 14) hx hb dX12_eRead_94 (by decide) (fun cn47 => ?_) (fun cn47 => ?_)
              · have hf := (if_pos cn47).symm.trans hf
                exact ih _ _ _ X _ _ _ hf hw (lv_sub hl [0, 1, 2] rfl) kr
              · have hf := (if_neg cn47).symm.trans hf
                refine lv_iconst (v := 0) hx hb dX12_eRead_97 (by decide) ?_
                cases hf
                exact kr _ _  rfl _ _ _ _ dX12_eRead_98 hw
        · have hf := (if_pos cn36).symm.trans hf
          refine lv_aload_n hx hb dX12_eRead_38 rfl (lv_at hl 0 rfl) ?_
          refine lv_aload_n hx hb dX12_eRead_39 rfl (lv_at hl 0 rfl) ?_
          refine m_g42 hc hw dX12_eRead_40 ?_
          refine lv_iconst (v := 1) hx hb dX12_eRead_43 (by decide) ?_
          obtain ⟨v23, hv23⟩ : ∃ y : Int32, y = (if (S4.1 42 0) = 1 then 100000 + (S4.1 43 0) else S4.1 43 0) := ⟨_, rfl⟩
          try rw [← hv23] at hf
          have kJ : ∀ ls : Array Slot, lv_has ls 4 [(0, .ref (mr g 0)), (2, .int v2)] → W p l e R s m args below meth c H locs 0 0 Q (F0 m 61 ls [.int v23, .ref (mr g 0)]) := by
            intro ls hl
            obtain ⟨S24, hcall, hf⟩ := bd1_some hf
            refine m_cvv (As := [.int v23]) (rest := []) hc hw hR (hml.trans hl.1.symm) (cm_puts l N S4 v23 S24 hcall) mq_puts rfl (by decide) rfl rfl rfl (Nat.le_of_ble_eq_true rfl) dX12_eRead_61 (fun H locs hw => ?_) ⟨Nat.zero_le _, Nat.zero_le _⟩
            refine lv_aload_n hx hb dX12_eRead_64 rfl (lv_at hl 0 rfl) ?_
            refine lv_bipush (v := 7) hx hb dX12_eRead_65 (by decide) ?_
            obtain ⟨S25, hcall, hf⟩ := bd1_some hf
            refine m_cvv (As := [.int 7]) (rest := []) hc hw hR (hml.trans hl.1.symm) (cm_unwinds l N S24 7 S25 hcall) mq_unwinds rfl (by decide) rfl rfl rfl (Nat.le_of_ble_eq_true rfl) dX12_eRead_67 (fun H locs hw => ?_) ⟨Nat.zero_le _, Nat.zero_le _⟩
            refine lv_iconst (v := 0) hx hb dX12_eRead_70 (by decide) ?_
            refine lv_istore_n (lv' := [(1, .int 0), (0, .ref (mr g 0)), (2, .int v2)]) hx hb dX12_eRead_71 rfl hl (by decide) rfl (fun ls hl => ?_)
            refine lv_goto (tgt := 14) hx hb dX12_eRead_72 (by decide) ?_
            exact ih _ _ _ X _ _ _ hf hw (lv_sub hl [1, 0, 2] rfl) kr
          refine lv_icmp_ne (tgt := 57) hx hb dX12_eRead_44 (by decide) (fun cn48 => ?_) (fun cn48 => ?_)
          · refine lv_aload_n hx hb dX12_eRead_57 rfl (lv_at hl 0 rfl) ?_
            refine m_g43 hc hw dX12_eRead_58 ?_
            have ev23 : v23 = S4.1 43 0 := by rw [hv23]; simp only [if_neg cn48]
            exact W.eq (by simp only [ev23]) (kJ ls (by skip; exact lv_sub hl [0, 2] rfl))
          · refine lv_ldc (v := 100000) hx hb hc.2.2.1 (hc.2.2.2 _ (mem_g 1421 (by decide +kernel) rfl)) dX12_eRead_47 ?_
            refine lv_aload_n hx hb dX12_eRead_49 rfl (lv_at hl 0 rfl) ?_
            refine m_g43 hc hw dX12_eRead_50 ?_
            refine lv_iadd hx hb dX12_eRead_53 ?_
            refine lv_goto (tgt := 61) hx hb dX12_eRead_54 (by decide) ?_
            have ev23 : v23 = 100000 + (S4.1 43 0) := by rw [hv23]; simp only [if_pos cn48]
            exact W.eq (by simp only [ev23]) (kJ ls (by skip; exact lv_sub hl [0, 2] rfl))
def mf_eRead (N : Nat) (S : mS) : Option (Bool × mS) := (br0 (mf_eRead_L14 N N (ms (ms S 46 0 0) 47 0 0) 1 1) (Option.some))
set_option maxRecDepth 100000 in
theorem cm_eRead (l : Launch) (N : Nat) (S : mS) (res : Bool) (S1 : mS) (hf : mf_eRead N S = some (res, S1)) : mMi l yX12_eRead cX12_eRead 4 .boolean 4 (fun g => [.ref (mr g 0)]) S (bi res) S1 := by
  refine mMi_of (own := RX12) (by decide) rfl (narrow_bi _) (fun g => Nat.le_of_ble_eq_true rfl) ?_
  intro p e R s m args below meth c Q g A H0 H locs ls hc hR hml hw hl hQ
  have hl : lv_has ls 4 [(0, .ref (mr g 0))] := hl
  have hx := hc.1
  have hb := hc.2.1
  unfold mf_eRead at hf
  refine lv_aload_n hx hb dX12_eRead_0 rfl (lv_at hl 0 rfl) ?_
  refine lv_iconst (v := 0) hx hb dX12_eRead_1 (by decide) ?_
  refine m_p46 hc hw dX12_eRead_2 (fun H locs hw => ?_)
  refine lv_aload_n hx hb dX12_eRead_5 rfl (lv_at hl 0 rfl) ?_
  refine lv_iconst (v := 0) hx hb dX12_eRead_6 (by decide) ?_
  refine m_p47 hc hw dX12_eRead_7 (fun H locs hw => ?_)
  refine lv_iconst (v := 1) hx hb dX12_eRead_10 (by decide) ?_
  refine lv_istore_n (lv' := [(1, .int 1), (0, .ref (mr g 0))]) hx hb dX12_eRead_11 rfl hl (by decide) rfl (fun ls hl => ?_)
  refine lv_iconst (v := 1) hx hb dX12_eRead_12 (by decide) ?_
  refine lv_istore_n (lv' := [(2, .int 1), (1, .int 1), (0, .ref (mr g 0))]) hx hb dX12_eRead_13 rfl hl (by decide) rfl (fun ls hl => ?_)
  obtain ⟨q, hX, hf⟩ := br0_some hf
  refine wm_eRead_L14 hc hR hml N N _ _ _ _ _ _ _ hX hw (lv_sub hl [2, 1, 0] rfl) ?_
  cases hf
  intro z0 z1 h; cases h; exact hQ
theorem mq_eRead : qCv RX12 263 yX12_eRead cX12_eRead 4 (some .boolean) 0 := ⟨⟨(mem_g 1417 (by decide +kernel) rfl), (mem_g 1419 (by decide +kernel) rfl), (mem_g 45 (by decide +kernel) rfl), (mem_g 89 (by decide +kernel) rfl), (mem_g 1420 (by decide +kernel) rfl)⟩, by decide, by decide +kernel, by decide⟩
def mf_isAsHigh (N : Nat) (S : mS) (a1 : Int32) (a2 : Int32) (a3 : Int32) (a4 : Int32) (a5 : Int32) : Option (Bool) := (bd1 (mf_farOf N S a1) fun v1 => (if ok a3 6 then (bd1 (mf_eyesOf N S a1 a2) fun v3 => (if (a4 * v1) < (((S.1 12 a3.toNatClampNeg) * v1) + ((v3 - (S.1 12 a3.toNatClampNeg)) * a5)) then some false else some true)) else none))
set_option maxRecDepth 100000 in
theorem cm_isAsHigh (l : Launch) (N : Nat) (S : mS) (a1 : Int32) (a2 : Int32) (a3 : Int32) (a4 : Int32) (a5 : Int32) (res : Bool) (hf : mf_isAsHigh N S a1 a2 a3 a4 a5 = some res) : mMi l yX12_isAsHigh cX12_isAsHigh 7 .boolean 4 (fun g => [.ref (mr g 0), .int a1, .int a2, .int a3, .int a4, .int a5]) S (bi res) S := by
  refine mMi_of (own := RX12) (by decide) rfl (narrow_bi _) (fun g => Nat.le_of_ble_eq_true rfl) ?_
  intro p e R s m args below meth c Q g A H0 H locs ls hc hR hml hw hl hQ
  have hl : lv_has ls 7 [(0, .ref (mr g 0)), (1, .int a1), (2, .int a2), (3, .int a3), (4, .int a4), (5, .int a5)] := hl
  have hx := hc.1
  have hb := hc.2.1
  unfold mf_isAsHigh at hf
  refine lv_aload_n hx hb dX12_isAsHigh_0 rfl (lv_at hl 0 rfl) ?_
  refine lv_iload_n hx hb dX12_isAsHigh_1 rfl (lv_at hl 1 rfl) ?_
  obtain ⟨v1, hcall, hf⟩ := bd1_some hf
  refine m_cvi (As := [.int a1]) (rest := []) hc hw hR (hml.trans hl.1.symm) (cm_farOf l N S a1 v1 hcall) mq_farOf rfl (by decide) rfl rfl rfl (Nat.le_of_ble_eq_true rfl) dX12_isAsHigh_2 (fun H locs hw => ?_) ⟨Nat.zero_le _, Nat.zero_le _⟩
  refine lv_istore (lv' := [(6, .int v1), (0, .ref (mr g 0)), (1, .int a1), (2, .int a2), (3, .int a3), (4, .int a4), (5, .int a5)]) hx hb dX12_isAsHigh_5 hl (by decide) rfl (fun ls hl => ?_)
  refine lv_iload hx hb dX12_isAsHigh_7 (lv_at hl 5 rfl) ?_
  refine lv_iload hx hb dX12_isAsHigh_9 (lv_at hl 0 rfl) ?_
  refine lv_imul hx hb dX12_isAsHigh_11 ?_
  refine lv_aload_n hx hb dX12_isAsHigh_12 rfl (lv_at hl 1 rfl) ?_
  refine m_g12 hc hw dX12_isAsHigh_13 ?_
  refine lv_iload_n hx hb dX12_isAsHigh_16 rfl (lv_at hl 4 rfl) ?_
  obtain ⟨hi2, hf⟩ := gd_some hf
  have hi2 := ok_in hi2
  refine m_l12 hc hw hi2 dX12_isAsHigh_17 ?_
  refine lv_iload hx hb dX12_isAsHigh_18 (lv_at hl 0 rfl) ?_
  refine lv_imul hx hb dX12_isAsHigh_20 ?_
  refine lv_aload_n hx hb dX12_isAsHigh_21 rfl (lv_at hl 1 rfl) ?_
  refine lv_iload_n hx hb dX12_isAsHigh_22 rfl (lv_at hl 2 rfl) ?_
  refine lv_iload_n hx hb dX12_isAsHigh_23 rfl (lv_at hl 3 rfl) ?_
  obtain ⟨v3, hcall, hf⟩ := bd1_some hf
  refine m_cvi (As := [.int a1, .int a2]) (rest := [.int ((S.1 12 a3.toNatClampNeg) * v1), .int (a4 * v1)]) hc hw hR (hml.trans hl.1.symm) (cm_eyesOf l N S a1 a2 v3 hcall) mq_eyesOf rfl (by decide) rfl rfl rfl (Nat.le_of_ble_eq_true rfl) dX12_isAsHigh_24 (fun H locs hw => ?_) ⟨Nat.zero_le _, Nat.zero_le _⟩
  refine lv_aload_n hx hb dX12_isAsHigh_27 rfl (lv_at hl 1 rfl) ?_
  refine m_g12 hc hw dX12_isAsHigh_28 ?_
  refine lv_iload_n hx hb dX12_isAsHigh_31 rfl (lv_at hl 4 rfl) ?_
  refine m_l12 hc hw hi2 dX12_isAsHigh_32 ?_
  refine lv_isub hx hb dX12_isAsHigh_33 ?_
  refine lv_iload hx hb dX12_isAsHigh_34 (lv_at hl 6 rfl) ?_
  refine lv_imul hx hb dX12_isAsHigh_36 ?_
  refine lv_iadd hx hb dX12_isAsHigh_37 ?_
  refine lv_icmp_lt (tgt := 45) hx hb dX12_isAsHigh_38 (by decide) (fun cn4 => ?_) (fun cn4 => ?_)
  · have hf := (if_pos cn4).symm.trans hf
    refine lv_iconst (v := 0) hx hb dX12_isAsHigh_45 (by decide) ?_
    cases hf
    exact hQ _ _ _ _ dX12_isAsHigh_46 hw
  · have hf := (if_neg cn4).symm.trans hf
    refine lv_iconst (v := 1) hx hb dX12_isAsHigh_41 (by decide) ?_
    refine lv_goto (tgt := 46) hx hb dX12_isAsHigh_42 (by decide) ?_
    cases hf
    exact hQ _ _ _ _ dX12_isAsHigh_46 hw
theorem mq_isAsHigh : qCv RX12 279 yX12_isAsHigh cX12_isAsHigh 7 (some .boolean) 5 := ⟨⟨(mem_g 1469 (by decide +kernel) rfl), (mem_g 1471 (by decide +kernel) rfl), (mem_g 55 (by decide +kernel) rfl), (mem_g 89 (by decide +kernel) rfl), (mem_g 1472 (by decide +kernel) rfl)⟩, by decide, by decide +kernel, by decide⟩
def mf_text_L26 (N : Nat) : Nat → mS → Int32 → Int32 → Option (Int32 × mS)
  | 0, _, _, _ => none
  | n + 1, S3, v1, v2 => (if 3 ≤ v2 then some (v1, S3) else (if v1 = 0 then some (v1, S3) else (bd1 (mf_next N S3) fun S4 => (if ok ((4 * (S4.1 21 0)) + v2) 24 then (if (if (S4.1 42 0) = 3 then (if (S4.1 43 0) = v2 then 1 else 0) else 0) = 0 then mf_text_L26 N n (ms S4 20 ((4 * (S4.1 21 0)) + v2).toNatClampNeg (S4.1 48 0)) 0 (v2 + 1) else (bd2 (mf_eRead N (ms S4 20 ((4 * (S4.1 21 0)) + v2).toNatClampNeg (S4.1 48 0))) fun v7 S8 => (if v7 = true then mf_text_L26 N n S8 1 (v2 + 1) else mf_text_L26 N n S8 0 (v2 + 1)))) else none))))
set_option maxRecDepth 100000 in
theorem wm_text_L26 {p : Program} {l : Launch} {e : Env} {R : Room} {s : State} {m : MethodId} {args : Array Value} {below : List Frame} {meth : Method} {c : Code} {Q : State → Prop} {g : mG} {A : Nat → Prop} {H0 : Heap} (hc : qC RX12 cX12_text p s m args c) (hR : qRoom R 5) (hml : c.maxLocals = 3) (N : Nat) : ∀ (n : Nat) (S3 : mS) (v1 : Int32) (v2 : Int32) (X : Int32 × mS) (H : Heap) (locs : List Loc) (ls : Array Slot), mf_text_L26 N n S3 v1 v2 = some X → mI g A H0 s S3 H locs → lv_has ls 3 [(0, .ref (mr g 0)), (1, .int v1), (2, .int v2)] → (∀ (H : Heap) (locs : List Loc) (ls : Array Slot), mI g A H0 s X.2 H locs → lv_has ls 3 [(0, .ref (mr g 0)), (1, .int X.1)] → W p l e R s m args below meth c H locs 0 0 Q (F0 m 101 ls [])) → W p l e R s m args below meth c H locs 0 0 Q (F0 m 26 ls []) := by
  have hx := hc.1
  have hb := hc.2.1
  intro n
  induction n with
  | zero => intro _ _ _ X H locs ls hf; exact nomatch (show none = some X from hf)
  | succ n ih =>
    intro S3 v1 v2 X H locs ls hf hw hl kx
    rw [mf_text_L26] at hf
    refine lv_iload_n hx hb dX12_text_26 rfl (lv_at hl 2 rfl) ?_
    refine lv_iconst (v := 3) hx hb dX12_text_27 (by decide) ?_
    refine lv_icmp_ge (tgt := 101) hx hb dX12_text_28 (by decide) (fun cn16 => ?_) (fun cn16 => ?_)
    · have hf := (if_pos cn16).symm.trans hf
      cases hf
      exact kx _ _ _ hw (lv_sub hl [0, 1] rfl)
    · have hf := (if_neg cn16).symm.trans hf
      refine lv_iload_n hx hb dX12_text_31 rfl (lv_at hl 1 rfl) ?_
      refine lv_if_eq (tgt := 101) hx hb dX12_text_32 (by decide) (fun cn17 => ?_) (fun cn17 => ?_)
      · have hf := (if_pos cn17).symm.trans hf
        cases hf
        exact kx _ _ _ hw (lv_sub hl [0, 1] rfl)
      · have hf := (if_neg cn17).symm.trans hf
        refine lv_aload_n hx hb dX12_text_35 rfl (lv_at hl 0 rfl) ?_
        obtain ⟨S4, hcall, hf⟩ := bd1_some hf
        refine m_cvv (As := []) (rest := []) hc hw hR (hml.trans hl.1.symm) (cm_next l N S3 S4 hcall) mq_next rfl (by decide) rfl rfl rfl (Nat.le_of_ble_eq_true rfl) dX12_text_36 (fun H locs hw => ?_) ⟨Nat.zero_le _, Nat.zero_le _⟩
        refine lv_aload_n hx hb dX12_text_39 rfl (lv_at hl 0 rfl) ?_
        refine m_g42 hc hw dX12_text_40 ?_
        refine lv_iconst (v := 3) hx hb dX12_text_43 (by decide) ?_
        obtain ⟨v5, hv5⟩ : ∃ y : Int32, y = (if (S4.1 42 0) = 3 then (if (S4.1 43 0) = v2 then 1 else 0) else 0) := ⟨_, rfl⟩
        try rw [← hv5] at hf
        have kJ : ∀ ls : Array Slot, lv_has ls 3 [(0, .ref (mr g 0)), (2, .int v2)] → W p l e R s m args below meth c H locs 0 0 Q (F0 m 60 ls [.int v5]) := by
          intro ls hl
          refine lv_istore_n (lv' := [(1, .int v5), (0, .ref (mr g 0)), (2, .int v2)]) hx hb dX12_text_60 rfl hl (by decide) rfl (fun ls hl => ?_)
          refine lv_aload_n hx hb dX12_text_61 rfl (lv_at hl 1 rfl) ?_
          refine m_g20 hc hw dX12_text_62 ?_
          refine lv_iconst (v := 4) hx hb dX12_text_65 (by decide) ?_
          refine lv_aload_n hx hb dX12_text_66 rfl (lv_at hl 1 rfl) ?_
          refine m_g21 hc hw dX12_text_67 ?_
          refine lv_imul hx hb dX12_text_70 ?_
          refine lv_iload_n hx hb dX12_text_71 rfl (lv_at hl 2 rfl) ?_
          refine lv_iadd hx hb dX12_text_72 ?_
          refine lv_aload_n hx hb dX12_text_73 rfl (lv_at hl 1 rfl) ?_
          refine m_g48 hc hw dX12_text_74 ?_
          obtain ⟨hi6, hf⟩ := gd_some hf
          have hi6 := ok_in hi6
          refine m_s20 hc hw hi6 dX12_text_77 (fun H locs hw => ?_)
          refine lv_iload_n hx hb dX12_text_78 rfl (lv_at hl 0 rfl) ?_
          refine lv_if_eq (tgt := 93) hx hb dX12_text_79 (by decide) (fun cn18 => ?_) (fun cn18 => ?_)
          · have hf := (if_pos cn18).symm.trans hf
            refine lv_iconst (v := 0) hx hb dX12_text_93 (by decide) ?_
            refine lv_istore_n (lv' := [(1, .int 0), (0, .ref (mr g 0)), (2, .int v2)]) hx hb dX12_text_94 rfl hl (by decide) rfl (fun ls hl => ?_)
            refine lv_iinc (lv' := [(2, .int (v2 + 1)), (1, .int 0), (0, .ref (mr g 0))]) hx hb dX12_text_95 hl (k := 2) rfl rfl (by decide) rfl (fun ls hl => ?_)
            refine lv_goto (tgt := 26) hx hb dX12_text_98 (by decide) ?_
            exact ih _ _ _ X _ _ _ hf hw (lv_sub hl [2, 1, 0] rfl) kx
          · have hf := (if_neg cn18).symm.trans hf
            refine lv_aload_n hx hb dX12_text_82 rfl (lv_at hl 1 rfl) ?_
            obtain ⟨v7, S8, hcall, hf⟩ := bd2_some hf
            refine m_cvi (As := []) (rest := []) hc hw hR (hml.trans hl.1.symm) (cm_eRead l N (ms S4 20 ((4 * (S4.1 21 0)) + v2).toNatClampNeg (S4.1 48 0)) v7 S8 hcall) mq_eRead rfl (by decide) rfl rfl rfl (Nat.le_of_ble_eq_true rfl) dX12_text_83 (fun H locs hw => ?_) ⟨Nat.zero_le _, Nat.zero_le _⟩
            refine lv_if_eqb (tgt := 93) hx hb dX12_text_86 (by decide) (fun cn19 => ?_) (fun cn19 => ?_)
            · have hf := (if_neg cn19).symm.trans hf
              refine lv_iconst (v := 0) hx hb dX12_text_93 (by decide) ?_
              refine lv_istore_n (lv' := [(1, .int 0), (0, .ref (mr g 0)), (2, .int v2)]) hx hb dX12_text_94 rfl hl (by decide) rfl (fun ls hl => ?_)
              refine lv_iinc (lv' := [(2, .int (v2 + 1)), (1, .int 0), (0, .ref (mr g 0))]) hx hb dX12_text_95 hl (k := 2) rfl rfl (by decide) rfl (fun ls hl => ?_)
              refine lv_goto (tgt := 26) hx hb dX12_text_98 (by decide) ?_
              exact ih _ _ _ X _ _ _ hf hw (lv_sub hl [2, 1, 0] rfl) kx
            · have hf := (if_pos cn19).symm.trans hf
              refine lv_iconst (v := 1) hx hb dX12_text_89 (by decide) ?_
              refine lv_goto (tgt := 94) hx hb dX12_text_90 (by decide) ?_
              refine lv_istore_n (lv' := [(1, .int 1), (0, .ref (mr g 0)), (2, .int v2)]) hx hb dX12_text_94 rfl hl (by decide) rfl (fun ls hl => ?_)
              refine lv_iinc (lv' := [(2, .int (v2 + 1)), (1, .int 1), (0, .ref (mr g 0))]) hx hb dX12_text_95 hl (k := 2) rfl rfl (by decide) rfl (fun ls hl => ?_)
              refine lv_goto (tgt := 26) hx hb dX12_text_98 (by decide) ?_
              exact ih _ _ _ X _ _ _ hf hw (lv_sub hl [2, 1, 0] rfl) kx
        refine lv_icmp_ne (tgt := 59) hx hb dX12_text_44 (by decide) (fun cn20 => ?_) (fun cn20 => ?_)
        · refine lv_iconst (v := 0) hx hb dX12_text_59 (by decide) ?_
          have ev5 : v5 = 0 := by rw [hv5]; simp only [if_neg cn20]
          exact W.eq (by simp only [ev5]) (kJ ls (by skip; exact lv_sub hl [0, 2] rfl))
        · refine lv_aload_n hx hb dX12_text_47 rfl (lv_at hl 0 rfl) ?_
          refine m_g43 hc hw dX12_text_48 ?_
          refine lv_iload_n hx hb dX12_text_51 rfl (lv_at hl 2 rfl) ?_
          refine lv_icmp_ne (tgt := 59) hx hb dX12_text_52 (by decide) (fun cn21 => ?_) (fun cn21 => ?_)
          · refine lv_iconst (v := 0) hx hb dX12_text_59 (by decide) ?_
            have ev5 : v5 = 0 := by rw [hv5]; simp only [if_pos cn20, if_neg cn21]
            exact W.eq (by simp only [ev5]) (kJ ls (by skip; exact lv_sub hl [0, 2] rfl))
          · refine lv_iconst (v := 1) hx hb dX12_text_55 (by decide) ?_
            refine lv_goto (tgt := 60) hx hb dX12_text_56 (by decide) ?_
            have ev5 : v5 = 1 := by rw [hv5]; simp only [if_pos cn20, if_pos cn21]
            exact W.eq (by simp only [ev5]) (kJ ls (by skip; exact lv_sub hl [0, 2] rfl))
def mf_text (N : Nat) (S : mS) : Option (Int32 × mS) := (if (S.1 21 0) = 6 then some ((-4), S) else (bd2 (mf_text_L26 N N (ms (ms S 40 0 0) 48 0 0) 1 0) fun v9 S10 => (if v9 = 0 then (if ok ((4 * (S10.1 21 0)) + 3) 24 then (if v9 = 0 then some ((-100) - ((ms (ms S10 20 ((4 * (S10.1 21 0)) + 3).toNatClampNeg (S10.1 48 0)) 18 0 0).1 41 0), ms (ms S10 20 ((4 * (S10.1 21 0)) + 3).toNatClampNeg (S10.1 48 0)) 18 0 0) else some (((ms (ms (ms S10 20 ((4 * (S10.1 21 0)) + 3).toNatClampNeg (S10.1 48 0)) 18 0 0) 21 0 (((ms (ms S10 20 ((4 * (S10.1 21 0)) + 3).toNatClampNeg (S10.1 48 0)) 18 0 0).1 21 0) + 1)).1 21 0) - 1, ms (ms (ms S10 20 ((4 * (S10.1 21 0)) + 3).toNatClampNeg (S10.1 48 0)) 18 0 0) 21 0 (((ms (ms S10 20 ((4 * (S10.1 21 0)) + 3).toNatClampNeg (S10.1 48 0)) 18 0 0).1 21 0) + 1))) else none) else (bd1 (mf_next N S10) fun S12 => (if (S12.1 42 0) = 0 then (if ok ((4 * (S12.1 21 0)) + 3) 24 then (if 1 = 0 then some ((-100) - ((ms (ms S12 20 ((4 * (S12.1 21 0)) + 3).toNatClampNeg (S12.1 48 0)) 18 0 0).1 41 0), ms (ms S12 20 ((4 * (S12.1 21 0)) + 3).toNatClampNeg (S12.1 48 0)) 18 0 0) else some (((ms (ms (ms S12 20 ((4 * (S12.1 21 0)) + 3).toNatClampNeg (S12.1 48 0)) 18 0 0) 21 0 (((ms (ms S12 20 ((4 * (S12.1 21 0)) + 3).toNatClampNeg (S12.1 48 0)) 18 0 0).1 21 0) + 1)).1 21 0) - 1, ms (ms (ms S12 20 ((4 * (S12.1 21 0)) + 3).toNatClampNeg (S12.1 48 0)) 18 0 0) 21 0 (((ms (ms S12 20 ((4 * (S12.1 21 0)) + 3).toNatClampNeg (S12.1 48 0)) 18 0 0).1 21 0) + 1))) else none) else (if ok ((4 * (S12.1 21 0)) + 3) 24 then (if 0 = 0 then some ((-100) - ((ms (ms S12 20 ((4 * (S12.1 21 0)) + 3).toNatClampNeg (S12.1 48 0)) 18 0 0).1 41 0), ms (ms S12 20 ((4 * (S12.1 21 0)) + 3).toNatClampNeg (S12.1 48 0)) 18 0 0) else some (((ms (ms (ms S12 20 ((4 * (S12.1 21 0)) + 3).toNatClampNeg (S12.1 48 0)) 18 0 0) 21 0 (((ms (ms S12 20 ((4 * (S12.1 21 0)) + 3).toNatClampNeg (S12.1 48 0)) 18 0 0).1 21 0) + 1)).1 21 0) - 1, ms (ms (ms S12 20 ((4 * (S12.1 21 0)) + 3).toNatClampNeg (S12.1 48 0)) 18 0 0) 21 0 (((ms (ms S12 20 ((4 * (S12.1 21 0)) + 3).toNatClampNeg (S12.1 48 0)) 18 0 0).1 21 0) + 1))) else none))))))
set_option maxRecDepth 100000 in
theorem cm_text (l : Launch) (N : Nat) (S : mS) (res : Int32) (S1 : mS) (hf : mf_text N S = some (res, S1)) : mMi l yX12_text cX12_text 3 .int 5 (fun g => [.ref (mr g 0)]) S res S1 := by
  refine mMi_of (own := RX12) (by decide) rfl rfl (fun g => Nat.le_of_ble_eq_true rfl) ?_
  intro p e R s m args below meth c Q g A H0 H locs ls hc hR hml hw hl hQ
  have hl : lv_has ls 3 [(0, .ref (mr g 0))] := hl
  have hx := hc.1
  have hb := hc.2.1
  unfold mf_text at hf
  refine lv_aload_n hx hb dX12_text_0 rfl (lv_at hl 0 rfl) ?_
  refine m_g21 hc hw dX12_text_1 ?_
  refine lv_bipush (v := 6) hx hb dX12_text_4 (by decide) ?_
  refine lv_icmp_ne (tgt := 12) hx hb dX12_text_6 (by decide) (fun cn15 => ?_) (fun cn15 => ?_)
  · have hf := (if_neg cn15).symm.trans hf
    refine lv_aload_n hx hb dX12_text_12 rfl (lv_at hl 0 rfl) ?_
    refine lv_iconst (v := 0) hx hb dX12_text_13 (by decide) ?_
    refine m_p40 hc hw dX12_text_14 (fun H locs hw => ?_)
    refine lv_aload_n hx hb dX12_text_17 rfl (lv_at hl 0 rfl) ?_
    refine lv_iconst (v := 0) hx hb dX12_text_18 (by decide) ?_
    refine m_p48 hc hw dX12_text_19 (fun H locs hw => ?_)
    refine lv_iconst (v := 1) hx hb dX12_text_22 (by decide) ?_
    refine lv_istore_n (lv' := [(1, .int 1), (0, .ref (mr g 0))]) hx hb dX12_text_23 rfl hl (by decide) rfl (fun ls hl => ?_)
    refine lv_iconst (v := 0) hx hb dX12_text_24 (by decide) ?_
    refine lv_istore_n (lv' := [(2, .int 0), (1, .int 1), (0, .ref (mr g 0))]) hx hb dX12_text_25 rfl hl (by decide) rfl (fun ls hl => ?_)
    obtain ⟨v9, S10, hX, hf⟩ := bd2_some hf
    refine wm_text_L26 hc hR hml N N _ _ _ _ _ _ _ hX hw (lv_sub hl [2, 1, 0] rfl) (fun H locs ls hw hl => ?_)
    refine lv_iload_n hx hb dX12_text_101 rfl (lv_at hl 1 rfl) ?_
    refine lv_if_eq (tgt := 122) hx hb dX12_text_102 (by decide) (fun cn24 => ?_) (fun cn24 => ?_)
    · have hf := (if_pos cn24).symm.trans hf
      refine lv_aload_n hx hb dX12_text_122 rfl (lv_at hl 0 rfl) ?_
      refine m_g20 hc hw dX12_text_123 ?_
      refine lv_iconst (v := 4) hx hb dX12_text_126 (by decide) ?_
      refine lv_aload_n hx hb dX12_text_127 rfl (lv_at hl 0 rfl) ?_
      refine m_g21 hc hw dX12_text_128 ?_
      refine lv_imul hx hb dX12_text_131 ?_
      refine lv_iconst (v := 3) hx hb dX12_text_132 (by decide) ?_
      refine lv_iadd hx hb dX12_text_133 ?_
      refine lv_aload_n hx hb dX12_text_134 rfl (lv_at hl 0 rfl) ?_
      refine m_g48 hc hw dX12_text_135 ?_
      obtain ⟨hi11, hf⟩ := gd_some hf
      have hi11 := ok_in hi11
      refine m_s20 hc hw hi11 dX12_text_138 (fun H locs hw => ?_)
      refine lv_aload_n hx hb dX12_text_139 rfl (lv_at hl 0 rfl) ?_
      refine lv_iconst (v := 0) hx hb dX12_text_140 (by decide) ?_
      refine m_p18 hc hw dX12_text_141 (fun H locs hw => ?_)
      refine lv_iload_n hx hb dX12_text_144 rfl (lv_at hl 1 rfl) ?_
      refine lv_if_ne (tgt := 156) hx hb dX12_text_145 (by decide) (fun cn25 => ?_) (fun cn25 => ?_)
      · have hf := (if_neg cn25).symm.trans hf
        refine lv_aload_n hx hb dX12_text_156 rfl (lv_at hl 0 rfl) ?_
        refine lv_dup hx hb dX12_text_157 rfl ?_
        refine m_g21 hc hw dX12_text_158 ?_
        refine lv_iconst (v := 1) hx hb dX12_text_161 (by decide) ?_
        refine lv_iadd hx hb dX12_text_162 ?_
        refine m_p21 hc hw dX12_text_163 (fun H locs hw => ?_)
        refine lv_aload_n hx hb dX12_text_166 rfl (lv_at hl 0 rfl) ?_
        refine m_g21 hc hw dX12_text_167 ?_
        refine lv_iconst (v := 1) hx hb dX12_text_170 (by decide) ?_
        refine lv_isub hx hb dX12_text_171 ?_
        cases hf
        exact hQ _ _ _ _ dX12_text_172 hw
      · have hf := (if_pos cn25).symm.trans hf
        refine lv_bipush (v := (-100)) hx hb dX12_text_148 (by decide) ?_
        refine lv_aload_n hx hb dX12_text_150 rfl (lv_at hl 0 rfl) ?_
        refine m_g41 hc hw dX12_text_151 ?_
        refine lv_isub hx hb dX12_text_154 ?_
        cases hf
        exact hQ _ _ _ _ dX12_text_155 hw
    · have hf := (if_neg cn24).symm.trans hf
      refine lv_aload_n hx hb dX12_text_105 rfl (lv_at hl 0 rfl) ?_
      obtain ⟨S12, hcall, hf⟩ := bd1_some hf
      refine m_cvv (As := []) (rest := []) hc hw hR (hml.trans hl.1.symm) (cm_next l N S10 S12 hcall) mq_next rfl (by decide) rfl rfl rfl (Nat.le_of_ble_eq_true rfl) dX12_text_106 (fun H locs hw => ?_) ⟨Nat.zero_le _, Nat.zero_le _⟩
      refine lv_aload_n hx hb dX12_text_109 rfl (lv_at hl 0 rfl) ?_
      refine m_g42 hc hw dX12_text_110 ?_
      refine lv_if_ne (tgt := 120) hx hb dX12_text_113 (by decide) (fun cn26 => ?_) (fun cn26 => ?_)
      · have hf := (if_neg cn26).symm.trans hf
        refine lv_iconst (v := 0) hx hb dX12_text_120 (by decide) ?_
        refine lv_istore_n (lv' := [(1, .int 0), (0, .ref (mr g 0))]) hx hb dX12_text_121 rfl hl (by decide) rfl (fun ls hl => ?_)
        refine lv_aload_n hx hb dX12_text_122 rfl (lv_at hl 1 rfl) ?_
        refine m_g20 hc hw dX12_text_123 ?_
        refine lv_iconst (v := 4) hx hb dX12_text_126 (by decide) ?_
        refine lv_aload_n hx hb dX12_text_127 rfl (lv_at hl 1 rfl) ?_
        refine m_g21 hc hw dX12_text_128 ?_
        refine lv_imul hx hb dX12_text_131 ?_
        refine lv_iconst (v := 3) hx hb dX12_text_132 (by decide) ?_
        refine lv_iadd hx hb dX12_text_133 ?_
        refine lv_aload_n hx hb dX12_text_134 rfl (lv_at hl 1 rfl) ?_
        refine m_g48 hc hw dX12_text_135 ?_
        obtain ⟨hi13, hf⟩ := gd_some hf
        have hi13 := ok_in hi13
        refine m_s20 hc hw hi13 dX12_text_138 (fun H locs hw => ?_)
        refine lv_aload_n hx hb dX12_text_139 rfl (lv_at hl 1 rfl) ?_
        refine lv_iconst (v := 0) hx hb dX12_text_140 (by decide) ?_
        refine m_p18 hc hw dX12_text_141 (fun H locs hw => ?_)
        refine lv_iload_n hx hb dX12_text_144 rfl (lv_at hl 0 rfl) ?_
        refine lv_if_ne (tgt := 156) hx hb dX12_text_145 (by decide) (fun cn27 => ?_) (fun cn27 => ?_)
        · have hf := (if_neg cn27).symm.trans hf
          refine lv_aload_n hx hb dX12_text_156 rfl (lv_at hl 1 rfl) ?_
          refine lv_dup hx hb dX12_text_157 rfl ?_
          refine m_g21 hc hw dX12_text_158 ?_
          refine lv_iconst (v := 1) hx hb dX12_text_161 (by decide) ?_
          refine lv_iadd hx hb dX12_text_162 ?_
          refine m_p21 hc hw dX12_text_163 (fun H locs hw => ?_)
          refine lv_aload_n hx hb dX12_text_166 rfl (lv_at hl 1 rfl) ?_
          refine m_g21 hc hw dX12_text_167 ?_
          refine lv_iconst (v := 1) hx hb dX12_text_170 (by decide) ?_
          refine lv_isub hx hb dX12_text_171 ?_
          cases hf
          exact hQ _ _ _ _ dX12_text_172 hw
        · have hf := (if_pos cn27).symm.trans hf
          refine lv_bipush (v := (-100)) hx hb dX12_text_148 (by decide) ?_
          refine lv_aload_n hx hb dX12_text_150 rfl (lv_at hl 1 rfl) ?_
          refine m_g41 hc hw dX12_text_151 ?_
          refine lv_isub hx hb dX12_text_154 ?_
          cases hf
          exact hQ _ _ _ _ dX12_text_155 hw
      · have hf := (if_pos cn26).symm.trans hf
        refine lv_iconst (v := 1) hx hb dX12_text_116 (by decide) ?_
        refine lv_goto (tgt := 121) hx hb dX12_text_117 (by decide) ?_
        refine lv_istore_n (lv' := [(1, .int 1), (0, .ref (mr g 0))]) hx hb dX12_text_121 rfl hl (by decide) rfl (fun ls hl => ?_)
        refine lv_aload_n hx hb dX12_text_122 rfl (lv_at hl 1 rfl) ?_
        refine m_g20 hc hw dX12_text_123 ?_
        refine lv_iconst (v := 4) hx hb dX12_text_126 (by decide) ?_
        refine lv_aload_n hx hb dX12_text_127 rfl (lv_at hl 1 rfl) ?_
        refine m_g21 hc hw dX12_text_128 ?_
        refine lv_imul hx hb dX12_text_131 ?_
        refine lv_iconst (v := 3) hx hb dX12_text_132 (by decide) ?_
        refine lv_iadd hx hb dX12_text_133 ?_
        refine lv_aload_n hx hb dX12_text_134 rfl (lv_at hl 1 rfl) ?_
        refine m_g48 hc hw dX12_text_135 ?_
        obtain ⟨hi14, hf⟩ := gd_some hf
        have hi14 := ok_in hi14
        refine m_s20 hc hw hi14 dX12_text_138 (fun H locs hw => ?_)
        refine lv_aload_n hx hb dX12_text_139 rfl (lv_at hl 1 rfl) ?_
        refine lv_iconst (v := 0) hx hb dX12_text_140 (by decide) ?_
        refine m_p18 hc hw dX12_text_141 (fun H locs hw => ?_)
        refine lv_iload_n hx hb dX12_text_144 rfl (lv_at hl 0 rfl) ?_
        refine lv_if_ne (tgt := 156) hx hb dX12_text_145 (by decide) (fun cn28 => ?_) (fun cn28 => ?_)
        · have hf := (if_neg cn28).symm.trans hf
          refine lv_aload_n hx hb dX12_text_156 rfl (lv_at hl 1 rfl) ?_
          refine lv_dup hx hb dX12_text_157 rfl ?_
          refine m_g21 hc hw dX12_text_158 ?_
          refine lv_iconst (v := 1) hx hb dX12_text_161 (by decide) ?_
          refine lv_iadd hx hb dX12_text_162 ?_
          refine m_p21 hc hw dX12_text_163 (fun H locs hw => ?_)
          refine lv_aload_n hx hb dX12_text_166 rfl (lv_at hl 1 rfl) ?_
          refine m_g21 hc hw dX12_text_167 ?_
          refine lv_iconst (v := 1) hx hb dX12_text_170 (by decide) ?_
          refine lv_isub hx hb dX12_text_171 ?_
          cases hf
          exact hQ _ _ _ _ dX12_text_172 hw
        · have hf := (if_pos cn28).symm.trans hf
          refine lv_bipush (v := (-100)) hx hb dX12_text_148 (by decide) ?_
          refine lv_aload_n hx hb dX12_text_150 rfl (lv_at hl 1 rfl) ?_
          refine m_g41 hc hw dX12_text_151 ?_
          refine lv_isub hx hb dX12_text_154 ?_
          cases hf
          exact hQ _ _ _ _ dX12_text_155 hw
  · have hf := (if_pos cn15).symm.trans hf
    refine lv_bipush (v := (-4)) hx hb dX12_text_9 (by decide) ?_
    cases hf
    exact hQ _ _ _ _ dX12_text_11 hw
def mf_hiderOf_L12 (N : Nat) (c6 : Int32) (c7 : Int32) (c8 : Int32) (c9 : Int32) : Nat → mS → Int32 → Option ((Int32) ⊕ (Unit))
  | 0, _, _ => none
  | n + 1, S11, v10 => (if ok c9 6 then (if (S11.1 5 c9.toNatClampNeg) ≤ v10 then some (.inr ()) else (bd1 (mf_isNear N S11 c6 c7 c8 c9 v10) fun v13 => (if v13 = true then (bd1 (mf_topOf N S11 c9 v10) fun v14 => (bd1 (mf_farOf N S11 c9) fun v15 => (bd1 (mf_isAsHigh N S11 c6 c7 c8 v14 v15) fun v16 => (if v16 = true then some (.inl ((10 * c9) + v10)) else mf_hiderOf_L12 N c6 c7 c8 c9 n S11 (v10 + 1))))) else mf_hiderOf_L12 N c6 c7 c8 c9 n S11 (v10 + 1)))) else none)
set_option maxRecDepth 100000 in
theorem wm_hiderOf_L12 {p : Program} {l : Launch} {e : Env} {R : Room} {s : State} {m : MethodId} {args : Array Value} {below : List Frame} {meth : Method} {c : Code} {Q : State → Prop} {g : mG} {A : Nat → Prop} {H0 : Heap} (hc : qC RX12 cX12_hiderOf p s m args c) (hR : qRoom R 5) (hml : c.maxLocals = 6) (N : Nat) (c6 : Int32) (c7 : Int32) (c8 : Int32) (c9 : Int32) : ∀ (n : Nat) (S11 : mS) (v10 : Int32) (X : (Int32) ⊕ (Unit)) (H : Heap) (locs : List Loc) (ls : Array Slot), mf_hiderOf_L12 N c6 c7 c8 c9 n S11 v10 = some X → mI g A H0 s S11 H locs → lv_has ls 6 [(0, .ref (mr g 0)), (1, .int c6), (2, .int c7), (3, .int c8), (4, .int c9), (5, .int v10)] → (∀ (_ : Unit), X = .inr () → ∀ (H : Heap) (locs : List Loc) (ls : Array Slot), mI g A H0 s S11 H locs → lv_has ls 6 [(0, .ref (mr g 0)), (1, .int c6), (2, .int c7), (3, .int c8), (4, .int c9)] → W p l e R s m args below meth c H locs 0 0 Q (F0 m 77 ls [])) → (∀ (r : Int32), X = .inl r → mQi p l e R s m args below meth c cX12_hiderOf Q g A H0 r S11) → W p l e R s m args below meth c H locs 0 0 Q (F0 m 12 ls []) := by
  have hx := hc.1
  have hb := hc.2.1
  intro n
  induction n with
  | zero => intro _ _ X H locs ls hf; exact nomatch (show none = some X from hf)
  | succ n ih =>
    intro S11 v10 X H locs ls hf hw hl kx kr
    rw [mf_hiderOf_L12] at hf
    refine lv_iload hx hb dX12_hiderOf_12 (lv_at hl 5 rfl) ?_
    refine lv_aload_n hx hb dX12_hiderOf_14 rfl (lv_at hl 0 rfl) ?_
    refine m_g5 hc hw dX12_hiderOf_15 ?_
    refine lv_iload hx hb dX12_hiderOf_18 (lv_at hl 4 rfl) ?_
    obtain ⟨hi12, hf⟩ := gd_some hf
    have hi12 := ok_in hi12
    refine m_l5 hc hw hi12 dX12_hiderOf_20 ?_
    refine lv_icmp_ge (tgt := 77) hx hb dX12_hiderOf_21 (by decide) (fun cn19 => ?_) (fun cn19 => ?_)
    · have hf := (if_pos cn19).symm.trans hf
      cases hf
      exact kx _ rfl _ _ _ hw (lv_sub hl [0, 1, 2, 3, 4] rfl)
    · have hf := (if_neg cn19).symm.trans hf
      refine lv_aload_n hx hb dX12_hiderOf_24 rfl (lv_at hl 0 rfl) ?_
      refine lv_iload_n hx hb dX12_hiderOf_25 rfl (lv_at hl 1 rfl) ?_
      refine lv_iload_n hx hb dX12_hiderOf_26 rfl (lv_at hl 2 rfl) ?_
      refine lv_iload_n hx hb dX12_hiderOf_27 rfl (lv_at hl 3 rfl) ?_
      refine lv_iload hx hb dX12_hiderOf_28 (lv_at hl 4 rfl) ?_
      refine lv_iload hx hb dX12_hiderOf_30 (lv_at hl 5 rfl) ?_
      obtain ⟨v13, hcall, hf⟩ := bd1_some hf
      refine m_cvi (As := [.int c6, .int c7, .int c8, .int c9, .int v10]) (rest := []) hc hw hR (hml.trans hl.1.symm) (cm_isNear l N S11 c6 c7 c8 c9 v10 v13 hcall) mq_isNear rfl (by decide) rfl rfl rfl (Nat.le_of_ble_eq_true rfl) dX12_hiderOf_32 (fun H locs hw => ?_) ⟨Nat.zero_le _, Nat.zero_le _⟩
      refine lv_if_eqb (tgt := 71) hx hb dX12_hiderOf_35 (by decide) (fun cn20 => ?_) (fun cn20 => ?_)
      · have hf := (if_neg cn20).symm.trans hf
        refine lv_iinc (lv' := [(5, .int (v10 + 1)), (0, .ref (mr g 0)), (1, .int c6), (2, .int c7), (3, .int c8), (4, .int c9)]) hx hb dX12_hiderOf_71 hl (k := 5) rfl rfl (by decide) rfl (fun ls hl => ?_)
        refine lv_goto (tgt := 12) hx hb dX12_hiderOf_74 (by decide) ?_
        exact ih _ _ X _ _ _ hf hw (lv_sub hl [1, 2, 3, 4, 5, 0] rfl) kx kr
      · have hf := (if_pos cn20).symm.trans hf
        refine lv_aload_n hx hb dX12_hiderOf_38 rfl (lv_at hl 0 rfl) ?_
        refine lv_iload_n hx hb dX12_hiderOf_39 rfl (lv_at hl 1 rfl) ?_
        refine lv_iload_n hx hb dX12_hiderOf_40 rfl (lv_at hl 2 rfl) ?_
        refine lv_iload_n hx hb dX12_hiderOf_41 rfl (lv_at hl 3 rfl) ?_
        refine lv_aload_n hx hb dX12_hiderOf_42 rfl (lv_at hl 0 rfl) ?_
        refine lv_iload hx hb dX12_hiderOf_43 (lv_at hl 4 rfl) ?_
        refine lv_iload hx hb dX12_hiderOf_45 (lv_at hl 5 rfl) ?_
        obtain ⟨v14, hcall, hf⟩ := bd1_some hf
        refine m_cvi (As := [.int c9, .int v10]) (rest := [.int c8, .int c7, .int c6, .ref (mr g 0)]) hc hw hR (hml.trans hl.1.symm) (cm_topOf l N S11 c9 v10 v14 hcall) mq_topOf rfl (by decide) rfl rfl rfl (Nat.le_of_ble_eq_true rfl) dX12_hiderOf_47 (fun H locs hw => ?_) ⟨Nat.zero_le _, Nat.zero_le _⟩
        refine lv_aload_n hx hb dX12_hiderOf_50 rfl (lv_at hl 0 rfl) ?_
        refine lv_iload hx hb dX12_hiderOf_51 (lv_at hl 4 rfl) ?_
        obtain ⟨v15, hcall, hf⟩ := bd1_some hf
        refine m_cvi (As := [.int c9]) (rest := [.int v14, .int c8, .int c7, .int c6, .ref (mr g 0)]) hc hw hR (hml.trans hl.1.symm) (cm_farOf l N S11 c9 v15 hcall) mq_farOf rfl (by decide) rfl rfl rfl (Nat.le_of_ble_eq_true rfl) dX12_hiderOf_53 (fun H locs hw => ?_) ⟨Nat.zero_le _, Nat.zero_le _⟩
        obtain ⟨v16, hcall, hf⟩ := bd1_some hf
        refine m_cvi (As := [.int c6, .int c7, .int c8, .int v14, .int v15]) (rest := []) hc hw hR (hml.trans hl.1.symm) (cm_isAsHigh l N S11 c6 c7 c8 v14 v15 v16 hcall) mq_isAsHigh rfl (by decide) rfl rfl rfl (Nat.le_of_ble_eq_true rfl) dX12_hiderOf_56 (fun H locs hw => ?_) ⟨Nat.zero_le _, Nat.zero_le _⟩
        refine lv_if_eqb (tgt := 71) hx hb dX12_hiderOf_59 (by decide) (fun cn21 => ?_) (fun cn21 => ?_)
        · have hf := (if_neg cn21).symm.trans hf
          refine lv_iinc (lv' := [(5, .int (v10 + 1)), (0, .ref (mr g 0)), (1, .int c6), (2, .int c7), (3, .int c8), (4, .int c9)]) hx hb dX12_hiderOf_71 hl (k := 5) rfl rfl (by decide) rfl (fun ls hl => ?_)
          refine lv_goto (tgt := 12) hx hb dX12_hiderOf_74 (by decide) ?_
          exact ih _ _ X _ _ _ hf hw (lv_sub hl [1, 2, 3, 4, 5, 0] rfl) kx kr
        · have hf := (if_pos cn21).symm.trans hf
          refine lv_bipush (v := 10) hx hb dX12_hiderOf_62 (by decide) ?_
          refine lv_iload hx hb dX12_hiderOf_64 (lv_at hl 4 rfl) ?_
          refine lv_imul hx hb dX12_hiderOf_66 ?_
          refine lv_iload hx hb dX12_hiderOf_67 (lv_at hl 5 rfl) ?_
          refine lv_iadd hx hb dX12_hiderOf_69 ?_
          cases hf
          exact kr _  rfl _ _ _ _ dX12_hiderOf_70 hw
def mf_hiderOf_L3 (N : Nat) (c1 : Int32) (c2 : Int32) (c3 : Int32) : Nat → mS → Int32 → Option ((Int32) ⊕ (Unit))
  | 0, _, _ => none
  | n + 1, S5, v4 => (if c1 ≤ v4 then some (.inr ()) else (br0 (mf_hiderOf_L12 N c1 c2 c3 v4 N S5 0) (fun q => Option.some (Sum.inl q)) fun _ => mf_hiderOf_L3 N c1 c2 c3 n S5 (v4 + 1)))
set_option maxRecDepth 100000 in
theorem wm_hiderOf_L3 {p : Program} {l : Launch} {e : Env} {R : Room} {s : State} {m : MethodId} {args : Array Value} {below : List Frame} {meth : Method} {c : Code} {Q : State → Prop} {g : mG} {A : Nat → Prop} {H0 : Heap} (hc : qC RX12 cX12_hiderOf p s m args c) (hR : qRoom R 5) (hml : c.maxLocals = 6) (N : Nat) (c1 : Int32) (c2 : Int32) (c3 : Int32) : ∀ (n : Nat) (S5 : mS) (v4 : Int32) (X : (Int32) ⊕ (Unit)) (H : Heap) (locs : List Loc) (ls : Array Slot), mf_hiderOf_L3 N c1 c2 c3 n S5 v4 = some X → mI g A H0 s S5 H locs → lv_has ls 6 [(0, .ref (mr g 0)), (1, .int c1), (2, .int c2), (3, .int c3), (4, .int v4)] → (∀ (_ : Unit), X = .inr () → ∀ (H : Heap) (locs : List Loc) (ls : Array Slot), mI g A H0 s S5 H locs → lv_has ls 6 [(0, .ref (mr g 0)), (1, .int c1), (2, .int c2), (3, .int c3)] → W p l e R s m args below meth c H locs 0 0 Q (F0 m 83 ls [])) → (∀ (r : Int32), X = .inl r → mQi p l e R s m args below meth c cX12_hiderOf Q g A H0 r S5) → W p l e R s m args below meth c H locs 0 0 Q (F0 m 3 ls []) := by
  have hx := hc.1
  have hb := hc.2.1
  intro n
  induction n with
  | zero => intro _ _ X H locs ls hf; exact nomatch (show none = some X from hf)
  | succ n ih =>
    intro S5 v4 X H locs ls hf hw hl kx kr
    rw [mf_hiderOf_L3] at hf
    refine lv_iload hx hb dX12_hiderOf_3 (lv_at hl 4 rfl) ?_
    refine lv_iload_n hx hb dX12_hiderOf_5 rfl (lv_at hl 1 rfl) ?_
    refine lv_icmp_ge (tgt := 83) hx hb dX12_hiderOf_6 (by decide) (fun cn18 => ?_) (fun cn18 => ?_)
    · have hf := (if_pos cn18).symm.trans hf
      cases hf
      exact kx _ rfl _ _ _ hw (lv_sub hl [0, 1, 2, 3] rfl)
    · have hf := (if_neg cn18).symm.trans hf
      refine lv_iconst (v := 0) hx hb dX12_hiderOf_9 (by decide) ?_
      refine lv_istore (lv' := [(5, .int 0), (0, .ref (mr g 0)), (1, .int c1), (2, .int c2), (3, .int c3), (4, .int v4)]) hx hb dX12_hiderOf_10 hl (by decide) rfl (fun ls hl => ?_)
      rcases br0_some hf with ⟨q, hX, hf⟩ | ⟨hX, hf⟩
      · refine wm_hiderOf_L12 hc hR hml N c1 c2 c3 v4 N _ _ _ _ _ _ hX hw (lv_sub hl [1, 2, 3, 4, 5, 0] rfl) (fun _  h => nomatch h) ?_
        cases hf
        intro z0 h; cases h; exact kr _  rfl
      · refine wm_hiderOf_L12 hc hR hml N c1 c2 c3 v4 N _ _ _ _ _ _ hX hw (lv_sub hl [1, 2, 3, 4, 5, 0] rfl) (fun y0 hi => ?_) (fun _  h => nomatch h)
        cases hi
        intro H locs ls hw hl
        refine lv_iinc (lv' := [(4, .int (v4 + 1)), (0, .ref (mr g 0)), (1, .int c1), (2, .int c2), (3, .int c3)]) hx hb dX12_hiderOf_77 hl (k := 4) rfl rfl (by decide) rfl (fun ls hl => ?_)
        refine lv_goto (tgt := 3) hx hb dX12_hiderOf_80 (by decide) ?_
        exact ih _ _ X _ _ _ hf hw (lv_sub hl [1, 2, 3, 4, 0] rfl) kx kr
def mf_hiderOf (N : Nat) (S : mS) (a1 : Int32) (a2 : Int32) (a3 : Int32) : Option (Int32) := (br0 (mf_hiderOf_L3 N a1 a2 a3 N S 0) (Option.some) fun _ => (bd1 (mf_postBefore N S a1 a2 a3) fun v17 => (if v17 = (-1) then some (-1) else some (100 + v17))))
set_option maxRecDepth 100000 in
theorem cm_hiderOf (l : Launch) (N : Nat) (S : mS) (a1 : Int32) (a2 : Int32) (a3 : Int32) (res : Int32) (hf : mf_hiderOf N S a1 a2 a3 = some res) : mMi l yX12_hiderOf cX12_hiderOf 6 .int 5 (fun g => [.ref (mr g 0), .int a1, .int a2, .int a3]) S res S := by
  refine mMi_of (own := RX12) (by decide) rfl rfl (fun g => Nat.le_of_ble_eq_true rfl) ?_
  intro p e R s m args below meth c Q g A H0 H locs ls hc hR hml hw hl hQ
  have hl : lv_has ls 6 [(0, .ref (mr g 0)), (1, .int a1), (2, .int a2), (3, .int a3)] := hl
  have hx := hc.1
  have hb := hc.2.1
  unfold mf_hiderOf at hf
  refine lv_iconst (v := 0) hx hb dX12_hiderOf_0 (by decide) ?_
  refine lv_istore (lv' := [(4, .int 0), (0, .ref (mr g 0)), (1, .int a1), (2, .int a2), (3, .int a3)]) hx hb dX12_hiderOf_1 hl (by decide) rfl (fun ls hl => ?_)
  rcases br0_some hf with ⟨q, hX, hf⟩ | ⟨hX, hf⟩
  · refine wm_hiderOf_L3 hc hR hml N a1 a2 a3 N _ _ _ _ _ _ hX hw (lv_sub hl [1, 2, 3, 4, 0] rfl) (fun _  h => nomatch h) ?_
    cases hf
    intro z0 h; cases h; exact hQ
  · refine wm_hiderOf_L3 hc hR hml N a1 a2 a3 N _ _ _ _ _ _ hX hw (lv_sub hl [1, 2, 3, 4, 0] rfl) (fun y0 hi => ?_) (fun _  h => nomatch h)
    cases hi
    intro H locs ls hw hl
    refine lv_aload_n hx hb dX12_hiderOf_83 rfl (lv_at hl 0 rfl) ?_
    refine lv_iload_n hx hb dX12_hiderOf_84 rfl (lv_at hl 1 rfl) ?_
    refine lv_iload_n hx hb dX12_hiderOf_85 rfl (lv_at hl 2 rfl) ?_
    refine lv_iload_n hx hb dX12_hiderOf_86 rfl (lv_at hl 3 rfl) ?_
    obtain ⟨v17, hcall, hf⟩ := bd1_some hf
    refine m_cvi (As := [.int a1, .int a2, .int a3]) (rest := []) hc hw hR (hml.trans hl.1.symm) (cm_postBefore l N S a1 a2 a3 v17 hcall) mq_postBefore rfl (by decide) rfl rfl rfl (Nat.le_of_ble_eq_true rfl) dX12_hiderOf_87 (fun H locs hw => ?_) ⟨Nat.zero_le _, Nat.zero_le _⟩
    refine lv_istore (lv' := [(4, .int v17), (0, .ref (mr g 0)), (1, .int a1), (2, .int a2), (3, .int a3)]) hx hb dX12_hiderOf_90 hl (by decide) rfl (fun ls hl => ?_)
    refine lv_iload hx hb dX12_hiderOf_92 (lv_at hl 0 rfl) ?_
    refine lv_iconst (v := (-1)) hx hb dX12_hiderOf_94 (by decide) ?_
    refine lv_icmp_ne (tgt := 102) hx hb dX12_hiderOf_95 (by decide) (fun cn22 => ?_) (fun cn22 => ?_)
    · have hf := (if_neg cn22).symm.trans hf
      refine lv_bipush (v := 100) hx hb dX12_hiderOf_102 (by decide) ?_
      refine lv_iload hx hb dX12_hiderOf_104 (lv_at hl 0 rfl) ?_
      refine lv_iadd hx hb dX12_hiderOf_106 ?_
      cases hf
      exact hQ _ _ _ _ dX12_hiderOf_107 hw
    · have hf := (if_pos cn22).symm.trans hf
      refine lv_iconst (v := (-1)) hx hb dX12_hiderOf_98 (by decide) ?_
      refine lv_goto (tgt := 107) hx hb dX12_hiderOf_99 (by decide) ?_
      cases hf
      exact hQ _ _ _ _ dX12_hiderOf_107 hw
theorem mq_hiderOf : qCv RX12 285 yX12_hiderOf cX12_hiderOf 6 (some .int) 3 := ⟨⟨(mem_g 1457 (by decide +kernel) rfl), (mem_g 1459 (by decide +kernel) rfl), (mem_g 52 (by decide +kernel) rfl), (mem_g 89 (by decide +kernel) rfl), (mem_g 1460 (by decide +kernel) rfl)⟩, by decide, by decide +kernel, by decide⟩
