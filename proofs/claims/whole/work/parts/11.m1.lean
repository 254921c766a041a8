def mf_letters_L4 (N : Nat) : Nat → mS → Int64 → Int32 → Option (Int64 × Int32 × mS)
  | 0, _, _, _ => none
  | n + 1, S3, v1, v2 => (if (S3.1 18 0) ≤ (S3.1 40 0) then some (v1, v2, S3) else (if ok (S3.1 40 0) 160 then (if (mf_in (S3.1 17 (S3.1 40 0).toNatClampNeg) 97 122) = true then mf_letters_L4 N n (ms S3 40 0 ((S3.1 40 0) + 1)) ((if 8 ≤ v2 then v1 else (v1 <<< ((8 : Int32).toInt64 &&& 63)) ||| ((S3.1 17 (S3.1 40 0).toNatClampNeg).toInt64)) : Int64) (v2 + 1) else some (v1, v2, S3)) else none))
set_option maxRecDepth 100000 in
theorem wm_letters_L4 {p : Program} {l : Launch} {e : Env} {R : Room} {s : State} {m : MethodId} {args : Array Value} {below : List Frame} {meth : Method} {c : Code} {Q : State → Prop} {g : mG} {A : Nat → Prop} {H0 : Heap} (hc : qC RX12 cX12_letters p s m args c) (hR : qRoom R 2) (hml : c.maxLocals = 4) (N : Nat) : ∀ (n : Nat) (S3 : mS) (v1 : Int64) (v2 : Int32) (X : Int64 × Int32 × mS) (H : Heap) (locs : List Loc) (ls : Array Slot), mf_letters_L4 N n S3 v1 v2 = some X → mI g A H0 s S3 H locs → lv_has ls 4 [(0, .ref (mr g 0)), (1, .long v1), (3, .int v2)] → (∀ (H : Heap) (locs : List Loc) (ls : Array Slot), mI g A H0 s X.2.2 H locs → lv_has ls 4 [(1, .long X.1), (3, .int X.2.1)] → W p l e R s m args below meth c H locs 0 0 Q (F0 m 76 ls [])) → W p l e R s m args below meth c H locs 0 0 Q (F0 m 4 ls []) := by
  have hx := hc.1
  have hb := hc.2.1
  intro n
  induction n with
  | zero => intro _ _ _ X H locs ls hf; exact nomatch (show none = some X from hf)
  | succ n ih =>
    intro S3 v1 v2 X H locs ls hf hw hl kx
    rw [mf_letters_L4] at hf
    refine lv_aload_n hx hb dX12_letters_4 rfl (lv_at hl 0 rfl) ?_
    refine m_g40 hc hw dX12_letters_5 ?_
    refine lv_aload_n hx hb dX12_letters_8 rfl (lv_at hl 0 rfl) ?_
    refine m_g18 hc hw dX12_letters_9 ?_
    refine lv_icmp_ge (tgt := 76) hx hb dX12_letters_12 (by decide) (fun cn9 => ?_) (fun cn9 => ?_)
    · have hf := (if_pos cn9).symm.trans hf
      obtain rfl := Option.some.inj hf
      exact kx _ _ _ hw (lv_sub hl [1, 2] rfl)
    · have hf := (if_neg cn9).symm.trans hf
      refine lv_aload_n hx hb dX12_letters_15 rfl (lv_at hl 0 rfl) ?_
      refine m_g17 hc hw dX12_letters_16 ?_
      refine lv_aload_n hx hb dX12_letters_19 rfl (lv_at hl 0 rfl) ?_
      refine m_g40 hc hw dX12_letters_20 ?_
      obtain ⟨hi4, hf⟩ := gd_some hf
      refine m_l17 hc hw (ok_in hi4) dX12_letters_23 ?_
      refine lv_bipush (v := 97) hx hb dX12_letters_24 (by decide) ?_
      refine lv_bipush (v := 122) hx hb dX12_letters_26 (by decide) ?_
      refine m_csi (As := [.int (S3.1 17 (S3.1 40 0).toNatClampNeg), .int 97, .int 122]) (rest := []) hc hw hR (hml.trans hl.1.symm) (cm_in l S3 (S3.1 17 (S3.1 40 0).toNatClampNeg) 97 122 _ rfl) mq_in (by decide) rfl rfl rfl (Nat.le_of_ble_eq_true rfl) dX12_letters_28 (fun H locs hw => ?_) ⟨Nat.zero_le _, Nat.zero_le _⟩
      refine lv_if_eqb (tgt := 76) hx hb dX12_letters_31 (by decide) (fun cn10 => ?_) (fun cn10 => ?_)
      · have hf := (if_neg cn10).symm.trans hf
        obtain rfl := Option.some.inj hf
        exact kx _ _ _ hw (lv_sub hl [1, 2] rfl)
      · have hf := (if_pos cn10).symm.trans hf
        refine lv_iload_n hx hb dX12_letters_34 rfl (lv_at hl 2 rfl) ?_
        refine lv_bipush (v := 8) hx hb dX12_letters_35 (by decide) ?_
        obtain ⟨v5, hv5⟩ : ∃ y : Int64, y = (if 8 ≤ v2 then v1 else (v1 <<< ((8 : Int32).toInt64 &&& 63)) ||| ((S3.1 17 (S3.1 40 0).toNatClampNeg).toInt64)) := ⟨_, rfl⟩
        try rw [← hv5] at hf
        have kJ11 : ∀ v5x : Int64, v5 = v5x → ∀ (H : Heap) (locs : List Loc) (ls : Array Slot), mI g A H0 s S3 H locs → lv_has ls 4 [(0, .ref (mr g 0)), (3, .int v2)] → W p l e R s m args below meth c H locs 0 0 Q (F0 m 59 ls [.long v5x]) := by
          intro v5x hxv5 H locs ls hw hl
          subst hxv5
          refine lv_lstore_n (lv' := [(1, .long v5), (0, .ref (mr g 0)), (3, .int v2)]) hx hb dX12_letters_59 rfl hl (by decide) rfl (fun ls hl => ?_)
          refine lv_iinc (lv' := [(3, .int (v2 + 1)), (1, .long v5), (0, .ref (mr g 0))]) hx hb dX12_letters_60 hl (k := 2) rfl rfl (by decide) rfl (fun ls hl => ?_)
          refine lv_aload_n hx hb dX12_letters_63 rfl (lv_at hl 2 rfl) ?_
          refine lv_dup hx hb dX12_letters_64 rfl ?_
          refine m_g40 hc hw dX12_letters_65 ?_
          refine lv_iconst (v := 1) hx hb dX12_letters_68 (by decide) ?_
          refine lv_iadd hx hb dX12_letters_69 ?_
          refine m_p40 hc hw dX12_letters_70 (fun H locs hw => ?_)
          refine lv_goto (tgt := 4) hx hb dX12_letters_73 (by decide) ?_
          exact ih _ _ _ X _ _ _ hf hw (lv_sub hl [2, 1, 0] rfl) kx
        refine lv_icmp_ge (tgt := 58) hx hb dX12_letters_37 (by decide) (fun cn12 => ?_) (fun cn12 => ?_)
        · refine lv_lload_n hx hb dX12_letters_58 rfl (lv_at hl 1 rfl) ?_
          have ev5 : v5 = v1 := by rw [hv5]; simp only [if_pos cn12]
          exact kJ11 _ ev5 _ _ _ hw (lv_sub hl [0, 2] rfl)
        · refine lv_lload_n hx hb dX12_letters_40 rfl (lv_at hl 1 rfl) ?_
          refine lv_bipush (v := 8) hx hb dX12_letters_41 (by decide) ?_
          refine lv_lshl hx hb dX12_letters_43 rfl ?_
          refine lv_aload_n hx hb dX12_letters_44 rfl (lv_at hl 0 rfl) ?_
          refine m_g17 hc hw dX12_letters_45 ?_
          refine lv_aload_n hx hb dX12_letters_48 rfl (lv_at hl 0 rfl) ?_
          refine m_g40 hc hw dX12_letters_49 ?_
          refine m_l17 hc hw (ok_in hi4) dX12_letters_52 ?_
          refine lv_i2l hx hb dX12_letters_53 rfl ?_
          refine lv_lor hx hb dX12_letters_54 ?_
          refine lv_goto (tgt := 59) hx hb dX12_letters_55 (by decide) ?_
          have ev5 : v5 = (v1 <<< ((8 : Int32).toInt64 &&& 63)) ||| ((S3.1 17 (S3.1 40 0).toNatClampNeg).toInt64) := by rw [hv5]; simp only [if_neg cn12]
          exact kJ11 _ ev5 _ _ _ hw (lv_sub hl [0, 2] rfl)
def mf_letters (N : Nat) (S : mS) : Option (Int64 × mS) := (bd3 (mf_letters_L4 N N S 0 0) fun v6 v7 S8 => (if v7 ≤ 5 then some (v6, S8) else some (0, S8)))
set_option maxRecDepth 100000 in
theorem cm_letters (l : Launch) (N : Nat) (S : mS) (res : Int64) (S1 : mS) (hf : mf_letters N S = some (res, S1)) : mMl l yX12_letters cX12_letters 4 2 (fun g => [.ref (mr g 0)]) S res S1 := by
  refine mMl_of (own := RX12) (by decide) rfl (fun g => Nat.le_of_ble_eq_true rfl) ?_
  intro p e R s m args below meth c Q g A H0 H locs ls hc hR hml hw hl hQ
  have hl : lv_has ls 4 [(0, .ref (mr g 0))] := hl
  have hx := hc.1
  have hb := hc.2.1
  unfold mf_letters at hf
  refine lv_lconst (v := 0) hx hb dX12_letters_0 rfl ?_
  refine lv_lstore_n (lv' := [(1, .long 0), (0, .ref (mr g 0))]) hx hb dX12_letters_1 rfl hl (by decide) rfl (fun ls hl => ?_)
  refine lv_iconst (v := 0) hx hb dX12_letters_2 (by decide) ?_
  refine lv_istore_n (lv' := [(3, .int 0), (1, .long 0), (0, .ref (mr g 0))]) hx hb dX12_letters_3 rfl hl (by decide) rfl (fun ls hl => ?_)
  obtain ⟨v6, v7, S8, hL, hf⟩ := bd3_some hf
  refine wm_letters_L4 hc hR hml N N _ _ _ _ _ _ _ hL hw (lv_sub hl [2, 1, 0] rfl) (fun H locs ls hw hl => ?_)
  refine lv_iload_n hx hb dX12_letters_76 rfl (lv_at hl 1 rfl) ?_
  refine lv_iconst (v := 5) hx hb dX12_letters_77 (by decide) ?_
  refine lv_icmp_le (tgt := 85) hx hb dX12_letters_78 (by decide) (fun cn16 => ?_) (fun cn16 => ?_)
  · have hf := (if_pos cn16).symm.trans hf
    refine lv_lload_n hx hb dX12_letters_85 rfl (lv_at hl 0 rfl) ?_
    obtain ⟨rfl, rfl⟩ := pr2_some hf
    exact hQ _ _ _ _ dX12_letters_86 hw
  · have hf := (if_neg cn16).symm.trans hf
    refine lv_lconst (v := 0) hx hb dX12_letters_81 rfl ?_
    refine lv_goto (tgt := 86) hx hb dX12_letters_82 (by decide) ?_
    obtain ⟨rfl, rfl⟩ := pr2_some hf
    exact hQ _ _ _ _ dX12_letters_86 hw
theorem mq_letters : qCv RX12 223 yX12_letters cX12_letters 4 (some .long) 0 := ⟨⟨(mem_g 1413 (by decide +kernel) rfl), (mem_g 1415 (by decide +kernel) rfl), (mem_g 44 (by decide +kernel) rfl), (mem_g 89 (by decide +kernel) rfl), (mem_g 1416 (by decide +kernel) rfl)⟩, by decide, by decide +kernel, by decide⟩
def mf_unwinds_L0 (N : Nat) (c1 : Int32) : Nat → mS → Option (mS)
  | 0, _ => none
  | n + 1, S2 => (if (S2.1 46 0) ≤ 0 then some S2 else (if ok ((S2.1 46 0) - 1) 200 then (if (mf_rank (S2.1 45 ((S2.1 46 0) - 1).toNatClampNeg)) < c1 then some S2 else (if ok ((ms S2 46 0 ((S2.1 46 0) - 1)).1 46 0) 200 then (bd1 (mf_puts N (ms (ms S2 46 0 ((S2.1 46 0) - 1)) 47 0 (((ms S2 46 0 ((S2.1 46 0) - 1)).1 47 0) - ((if ((ms S2 46 0 ((S2.1 46 0) - 1)).1 45 ((ms S2 46 0 ((S2.1 46 0) - 1)).1 46 0).toNatClampNeg) = 13 then 1 else (if ((ms S2 46 0 ((S2.1 46 0) - 1)).1 45 ((ms S2 46 0 ((S2.1 46 0) - 1)).1 46 0).toNatClampNeg) = 19 then 1 else 0)) : Int32))) ((ms S2 46 0 ((S2.1 46 0) - 1)).1 45 ((ms S2 46 0 ((S2.1 46 0) - 1)).1 46 0).toNatClampNeg)) fun S6 => mf_unwinds_L0 N c1 n S6) else none)) else none))
set_option maxRecDepth 100000 in
theorem wm_unwinds_L0 {p : Program} {l : Launch} {e : Env} {R : Room} {s : State} {m : MethodId} {args : Array Value} {below : List Frame} {meth : Method} {c : Code} {Q : State → Prop} {g : mG} {A : Nat → Prop} {H0 : Heap} (hc : qC RX12 cX12_unwinds p s m args c) (hR : qRoom R 2) (hml : c.maxLocals = 3) (N : Nat) (c1 : Int32) : ∀ (n : Nat) (S2 : mS) (X : mS) (H : Heap) (locs : List Loc) (ls : Array Slot), mf_unwinds_L0 N c1 n S2 = some X → mI g A H0 s S2 H locs → lv_has ls 3 [(0, .ref (mr g 0)), (1, .int c1)] → (∀ (H : Heap) (locs : List Loc) (ls : Array Slot), mI g A H0 s X H locs → lv_has ls 3 [] → W p l e R s m args below meth c H locs 0 0 Q (F0 m 79 ls [])) → W p l e R s m args below meth c H locs 0 0 Q (F0 m 0 ls []) := by
  have hx := hc.1
  have hb := hc.2.1
  intro n
  induction n with
  | zero => intro _ X H locs ls hf; exact nomatch (show none = some X from hf)
  | succ n ih =>
    intro S2 X H locs ls hf hw hl kx
    rw [mf_unwinds_L0] at hf
    refine lv_aload_n hx hb dX12_unwinds_0 rfl (lv_at hl 0 rfl) ?_
    refine m_g46 hc hw dX12_unwinds_1 ?_
    refine lv_if_le (tgt := 79) hx hb dX12_unwinds_4 (by decide) (fun cn8 => ?_) (fun cn8 => ?_)
    · have hf := (if_pos cn8).symm.trans hf
      obtain rfl := Option.some.inj hf
      exact kx _ _ _ hw (lv_sub hl [] rfl)
    · have hf := (if_neg cn8).symm.trans hf
      refine lv_aload_n hx hb dX12_unwinds_7 rfl (lv_at hl 0 rfl) ?_
      refine m_g45 hc hw dX12_unwinds_8 ?_
      refine lv_aload_n hx hb dX12_unwinds_11 rfl (lv_at hl 0 rfl) ?_
      refine m_g46 hc hw dX12_unwinds_12 ?_
      refine lv_iconst (v := 1) hx hb dX12_unwinds_15 (by decide) ?_
      refine lv_isub hx hb dX12_unwinds_16 ?_
      obtain ⟨hi3, hf⟩ := gd_some hf
      refine m_l45 hc hw (ok_in hi3) dX12_unwinds_17 ?_
      refine m_csi (As := [.int (S2.1 45 ((S2.1 46 0) - 1).toNatClampNeg)]) (rest := []) hc hw hR (hml.trans hl.1.symm) (cm_rank l S2 (S2.1 45 ((S2.1 46 0) - 1).toNatClampNeg) _ rfl) mq_rank (by decide) rfl rfl rfl (Nat.le_of_ble_eq_true rfl) dX12_unwinds_18 (fun H locs hw => ?_) ⟨Nat.zero_le _, Nat.zero_le _⟩
      refine lv_iload_n hx hb dX12_unwinds_21 rfl (lv_at hl 1 rfl) ?_
      refine lv_icmp_lt (tgt := 79) hx hb dX12_unwinds_22 (by decide) (fun cn9 => ?_) (fun cn9 => ?_)
      · have hf := (if_pos cn9).symm.trans hf
        obtain rfl := Option.some.inj hf
        exact kx _ _ _ hw (lv_sub hl [] rfl)
      · have hf := (if_neg cn9).symm.trans hf
        refine lv_aload_n hx hb dX12_unwinds_25 rfl (lv_at hl 0 rfl) ?_
        refine lv_dup hx hb dX12_unwinds_26 rfl ?_
        refine m_g46 hc hw dX12_unwinds_27 ?_
        refine lv_iconst (v := 1) hx hb dX12_unwinds_30 (by decide) ?_
        refine lv_isub hx hb dX12_unwinds_31 ?_
        refine m_p46 hc hw dX12_unwinds_32 (fun H locs hw => ?_)
        refine lv_aload_n hx hb dX12_unwinds_35 rfl (lv_at hl 0 rfl) ?_
        refine m_g45 hc hw dX12_unwinds_36 ?_
        refine lv_aload_n hx hb dX12_unwinds_39 rfl (lv_at hl 0 rfl) ?_
        refine m_g46 hc hw dX12_unwinds_40 ?_
        obtain ⟨hi4, hf⟩ := gd_some hf
        refine m_l45 hc hw (ok_in hi4) dX12_unwinds_43 ?_
        refine lv_istore_n (lv' := [(2, .int ((ms S2 46 0 ((S2.1 46 0) - 1)).1 45 ((ms S2 46 0 ((S2.1 46 0) - 1)).1 46 0).toNatClampNeg)), (0, .ref (mr g 0)), (1, .int c1)]) hx hb dX12_unwinds_44 rfl hl (by decide) rfl (fun ls hl => ?_)
        refine lv_aload_n hx hb dX12_unwinds_45 rfl (lv_at hl 1 rfl) ?_
        refine lv_dup hx hb dX12_unwinds_46 rfl ?_
        refine m_g47 hc hw dX12_unwinds_47 ?_
        refine lv_iload_n hx hb dX12_unwinds_50 rfl (lv_at hl 0 rfl) ?_
        refine lv_bipush (v := 13) hx hb dX12_unwinds_51 (by decide) ?_
        obtain ⟨v5, hv5⟩ : ∃ y : Int32, y = (if ((ms S2 46 0 ((S2.1 46 0) - 1)).1 45 ((ms S2 46 0 ((S2.1 46 0) - 1)).1 46 0).toNatClampNeg) = 13 then 1 else (if ((ms S2 46 0 ((S2.1 46 0) - 1)).1 45 ((ms S2 46 0 ((S2.1 46 0) - 1)).1 46 0).toNatClampNeg) = 19 then 1 else 0)) := ⟨_, rfl⟩
        try rw [← hv5] at hf
        have kJ10 : ∀ v5x : Int32, v5 = v5x → ∀ (H : Heap) (locs : List Loc) (ls : Array Slot), mI g A H0 s (ms S2 46 0 ((S2.1 46 0) - 1)) H locs → lv_has ls 3 [(0, .ref (mr g 0)), (1, .int c1), (2, .int ((ms S2 46 0 ((S2.1 46 0) - 1)).1 45 ((ms S2 46 0 ((S2.1 46 0) - 1)).1 46 0).toNatClampNeg))] → W p l e R s m args below meth c H locs 0 0 Q (F0 m 67 ls [.int v5x, .int ((ms S2 46 0 ((S2.1 46 0) - 1)).1 47 0), .ref (mr g 0)]) := by
          intro v5x hxv5 H locs ls hw hl
          subst hxv5
          refine lv_isub hx hb dX12_unwinds_67 ?_
          refine m_p47 hc hw dX12_unwinds_68 (fun H locs hw => ?_)
          refine lv_aload_n hx hb dX12_unwinds_71 rfl (lv_at hl 0 rfl) ?_
          refine lv_iload_n hx hb dX12_unwinds_72 rfl (lv_at hl 2 rfl) ?_
          obtain ⟨S6, hcall, hf⟩ := bd1_some hf
          refine m_cvv (As := [.int ((ms S2 46 0 ((S2.1 46 0) - 1)).1 45 ((ms S2 46 0 ((S2.1 46 0) - 1)).1 46 0).toNatClampNeg)]) (rest := []) hc hw hR (hml.trans hl.1.symm) (cm_puts l N (ms (ms S2 46 0 ((S2.1 46 0) - 1)) 47 0 (((ms S2 46 0 ((S2.1 46 0) - 1)).1 47 0) - v5)) ((ms S2 46 0 ((S2.1 46 0) - 1)).1 45 ((ms S2 46 0 ((S2.1 46 0) - 1)).1 46 0).toNatClampNeg) S6 hcall) mq_puts rfl (by decide) rfl rfl rfl (Nat.le_of_ble_eq_true rfl) dX12_unwinds_73 (fun H locs hw => ?_) ⟨Nat.zero_le _, Nat.zero_le _⟩
          refine lv_goto (tgt := 0) hx hb dX12_unwinds_76 (by decide) ?_
          exact ih _ X _ _ _ hf hw (lv_sub hl [0, 1] rfl) kx
        refine lv_icmp_eq (tgt := 62) hx hb dX12_unwinds_53 (by decide) (fun cn11 => ?_) (fun cn11 => ?_)
        · refine lv_iconst (v := 1) hx hb dX12_unwinds_62 (by decide) ?_
          refine lv_goto (tgt := 67) hx hb dX12_unwinds_63 (by decide) ?_
          have ev5 : v5 = (1 : Int32) := by rw [hv5]; simp only [if_pos cn11]
          exact kJ10 _ ev5 _ _ _ hw (lv_sub hl [1, 2, 0] rfl)
        · refine lv_iload_n hx hb dX12_unwinds_56 rfl (lv_at hl 0 rfl) ?_
          refine lv_bipush (v := 19) hx hb dX12_unwinds_57 (by decide) ?_
          refine lv_icmp_ne (tgt := 66) hx hb dX12_unwinds_59 (by decide) (fun cn12 => ?_) (fun cn12 => ?_)
          · refine lv_iconst (v := 0) hx hb dX12_unwinds_66 (by decide) ?_
            have ev5 : v5 = (0 : Int32) := by rw [hv5]; simp only [if_neg cn11, if_neg cn12]
            exact kJ10 _ ev5 _ _ _ hw (lv_sub hl [1, 2, 0] rfl)
          · refine lv_iconst (v := 1) hx hb dX12_unwinds_62 (by decide) ?_
            refine lv_goto (tgt := 67) hx hb dX12_unwinds_63 (by decide) ?_
            have ev5 : v5 = (1 : Int32) := by rw [hv5]; simp only [if_neg cn11, if_pos cn12]
            exact kJ10 _ ev5 _ _ _ hw (lv_sub hl [1, 2, 0] rfl)
def mf_unwinds (N : Nat) (S : mS) (a1 : Int32) : Option (mS) := (bd1 (mf_unwinds_L0 N a1 N S) fun S7 => some S7)
set_option maxRecDepth 100000 in
theorem cm_unwinds (l : Launch) (N : Nat) (S : mS) (a1 : Int32) (S1 : mS) (hf : mf_unwinds N S a1 = some S1) : mMv l yX12_unwinds cX12_unwinds 3 2 (fun g => [.ref (mr g 0), .int a1]) S S1 := by
  refine mMv_of (own := RX12) (by decide) rfl (fun g => Nat.le_of_ble_eq_true rfl) ?_
  intro p e R s m args below meth c Q g A H0 H locs ls hc hR hml hw hl hQ
  have hl : lv_has ls 3 [(0, .ref (mr g 0)), (1, .int a1)] := hl
  have hx := hc.1
  have hb := hc.2.1
  unfold mf_unwinds at hf
  obtain ⟨S7, hL, hf⟩ := bd1_some hf
  refine wm_unwinds_L0 hc hR hml N a1 N _ _ _ _ _ hL hw (lv_sub hl [0, 1] rfl) (fun H locs ls hw hl => ?_)
  obtain rfl := Option.some.inj hf
  exact hQ _ _ _ _ dX12_unwinds_79 hw
theorem mq_unwinds : qCv RX12 246 yX12_unwinds cX12_unwinds 3 none 1 := ⟨⟨(mem_g 1426 (by decide +kernel) rfl), (mem_g 1428 (by decide +kernel) rfl), (mem_g 47 (by decide +kernel) rfl), (mem_g 89 (by decide +kernel) rfl), (mem_g 1429 (by decide +kernel) rfl)⟩, by decide, by decide +kernel, by decide⟩
def mf_opensOne (N : Nat) (S : mS) (a1 : Int32) : Option (Bool × mS) := (if (S.1 47 0) = 5 then some (false, S) else (bd1 (mf_holds N (ms S 47 0 ((S.1 47 0) + 1)) a1) fun S1 => some (true, S1)))
set_option maxRecDepth 100000 in
theorem cm_opensOne (l : Launch) (N : Nat) (S : mS) (a1 : Int32) (res : Bool) (S1 : mS) (hf : mf_opensOne N S a1 = some (res, S1)) : mMi l yX12_opensOne cX12_opensOne 2 .boolean 2 (fun g => [.ref (mr g 0), .int a1]) S (bi res) S1 := by
  refine mMi_of (own := RX12) (by decide) rfl (narrow_bi _) (fun g => Nat.le_of_ble_eq_true rfl) ?_
  intro p e R s m args below meth c Q g A H0 H locs ls hc hR hml hw hl hQ
  have hl : lv_has ls 2 [(0, .ref (mr g 0)), (1, .int a1)] := hl
  have hx := hc.1
  have hb := hc.2.1
  unfold mf_opensOne at hf
  refine lv_aload_n hx hb dX12_opensOne_0 rfl (lv_at hl 0 rfl) ?_
  refine m_g47 hc hw dX12_opensOne_1 ?_
  refine lv_iconst (v := 5) hx hb dX12_opensOne_4 (by decide) ?_
  refine lv_icmp_ne (tgt := 10) hx hb dX12_opensOne_5 (by decide) (fun cn2 => ?_) (fun cn2 => ?_)
  · have hf := (if_neg cn2).symm.trans hf
    refine lv_aload_n hx hb dX12_opensOne_10 rfl (lv_at hl 0 rfl) ?_
    refine lv_dup hx hb dX12_opensOne_11 rfl ?_
    refine m_g47 hc hw dX12_opensOne_12 ?_
    refine lv_iconst (v := 1) hx hb dX12_opensOne_15 (by decide) ?_
    refine lv_iadd hx hb dX12_opensOne_16 ?_
    refine m_p47 hc hw dX12_opensOne_17 (fun H locs hw => ?_)
    refine lv_aload_n hx hb dX12_opensOne_20 rfl (lv_at hl 0 rfl) ?_
    refine lv_iload_n hx hb dX12_opensOne_21 rfl (lv_at hl 1 rfl) ?_
    obtain ⟨S1, hcall, hf⟩ := bd1_some hf
    refine m_cvv (As := [.int a1]) (rest := []) hc hw hR (hml.trans hl.1.symm) (cm_holds l N (ms S 47 0 ((S.1 47 0) + 1)) a1 S1 hcall) mq_holds rfl (by decide) rfl rfl rfl (Nat.le_of_ble_eq_true rfl) dX12_opensOne_22 (fun H locs hw => ?_) ⟨Nat.zero_le _, Nat.zero_le _⟩
    refine lv_iconst (v := 1) hx hb dX12_opensOne_25 (by decide) ?_
    obtain ⟨rfl, rfl⟩ := pr2_some hf
    exact hQ _ _ _ _ dX12_opensOne_26 hw
  · have hf := (if_pos cn2).symm.trans hf
    refine lv_iconst (v := 0) hx hb dX12_opensOne_8 (by decide) ?_
    obtain ⟨rfl, rfl⟩ := pr2_some hf
    exact hQ _ _ _ _ dX12_opensOne_9 hw
theorem mq_opensOne : qCv RX12 253 yX12_opensOne cX12_opensOne 2 (some .boolean) 1 := ⟨⟨(mem_g 1433 (by decide +kernel) rfl), (mem_g 1435 (by decide +kernel) rfl), (mem_g 48 (by decide +kernel) rfl), (mem_g 89 (by decide +kernel) rfl), (mem_g 1436 (by decide +kernel) rfl)⟩, by decide, by decide +kernel, by decide⟩
def mf_says_L17 (N : Nat) (c2 : Int32) (c3 : Int32) : Nat → mS → Int32 → Int32 → Option (mS)
  | 0, _, _, _ => none
  | n + 1, S6, v4, v5 => (if ok (((4 * (S6.1 22 0)) + c2) + 1) 24 then (if (S6.1 20 (((4 * (S6.1 22 0)) + c2) + 1).toNatClampNeg) ≤ v5 then some S6 else (if ok ((200 * (S6.1 22 0)) + v5) 1200 then (if 100000 ≤ (S6.1 19 ((200 * (S6.1 22 0)) + v5).toNatClampNeg) then (bd1 (if 11 ≤ (S6.1 19 ((200 * (S6.1 22 0)) + v5).toNatClampNeg) then some ((S6.1 19 ((200 * (S6.1 22 0)) + v5).toNatClampNeg) - 100000) else (if ok (S6.1 19 ((200 * (S6.1 22 0)) + v5).toNatClampNeg) 6 then some (S6.1 50 (S6.1 19 ((200 * (S6.1 22 0)) + v5).toNatClampNeg).toNatClampNeg) else none)) fun v10 => (if ok v4 200 then mf_says_L17 N c2 c3 n (ms S6 49 v4.toNatClampNeg v10) (v4 + 1) (v5 + 1) else none)) else (if 11 ≤ (S6.1 19 ((200 * (S6.1 22 0)) + v5).toNatClampNeg) then (if (S6.1 19 ((200 * (S6.1 22 0)) + v5).toNatClampNeg) = 13 then (if ok (v4 - 1) 200 then mf_says_L17 N c2 c3 n (ms S6 49 (v4 - 1).toNatClampNeg ((if (S6.1 49 (v4 - 1).toNatClampNeg) = 0 then 1 else 0) : Int32)) v4 (v5 + 1) else none) else (if (S6.1 19 ((200 * (S6.1 22 0)) + v5).toNatClampNeg) = 19 then (if ok (v4 - 1) 200 then mf_says_L17 N c2 c3 n (ms S6 49 (v4 - 1).toNatClampNeg (-(S6.1 49 (v4 - 1).toNatClampNeg))) v4 (v5 + 1) else none) else (if ok ((v4 + (-1)) - 1) 200 then (if ok (v4 + (-1)) 200 then mf_says_L17 N c2 c3 n (ms S6 49 ((v4 + (-1)) - 1).toNatClampNeg (mf_two (S6.1 19 ((200 * (S6.1 22 0)) + v5).toNatClampNeg) (S6.1 49 ((v4 + (-1)) - 1).toNatClampNeg) (S6.1 49 (v4 + (-1)).toNatClampNeg))) (v4 + (-1)) (v5 + 1) else none) else none))) else (bd1 (if 11 ≤ (S6.1 19 ((200 * (S6.1 22 0)) + v5).toNatClampNeg) then some ((S6.1 19 ((200 * (S6.1 22 0)) + v5).toNatClampNeg) - 100000) else (if ok (S6.1 19 ((200 * (S6.1 22 0)) + v5).toNatClampNeg) 6 then some (S6.1 50 (S6.1 19 ((200 * (S6.1 22 0)) + v5).toNatClampNeg).toNatClampNeg) else none)) fun v18 => (if ok v4 200 then mf_says_L17 N c2 c3 n (ms S6 49 v4.toNatClampNeg v18) (v4 + 1) (v5 + 1) else none)))) else none)) else none)
set_option maxRecDepth 100000 in
theorem wm_says_L17 {p : Program} {l : Launch} {e : Env} {R : Room} {s : State} {m : MethodId} {args : Array Value} {below : List Frame} {meth : Method} {c : Code} {Q : State → Prop} {g : mG} {A : Nat → Prop} {H0 : Heap} (hc : qC RX12 cX12_says p s m args c) (hR : qRoom R 2) (hml : c.maxLocals = 6) (N : Nat) (c2 : Int32) (c3 : Int32) : ∀ (n : Nat) (S6 : mS) (v4 : Int32) (v5 : Int32) (X : mS) (H : Heap) (locs : List Loc) (ls : Array Slot), mf_says_L17 N c2 c3 n S6 v4 v5 = some X → mI g A H0 s S6 H locs → lv_has ls 6 [(0, .ref (mr g 0)), (1, .int c2), (2, .int c3), (3, .int v4), (4, .int v5)] → (∀ (H : Heap) (locs : List Loc) (ls : Array Slot), mI g A H0 s X H locs → lv_has ls 6 [(0, .ref (mr g 0)), (2, .int c3)] → W p l e R s m args below meth c H locs 0 0 Q (F0 m 200 ls [])) → W p l e R s m args below meth c H locs 0 0 Q (F0 m 17 ls []) := by
  have hx := hc.1
  have hb := hc.2.1
  intro n
  induction n with
  | zero => intro _ _ _ X H locs ls hf; exact nomatch (show none = some X from hf)
  | succ n ih =>
    intro S6 v4 v5 X H locs ls hf hw hl kx
    rw [mf_says_L17] at hf
    refine lv_iload hx hb dX12_says_17 (lv_at hl 4 rfl) ?_
    refine lv_aload_n hx hb dX12_says_19 rfl (lv_at hl 0 rfl) ?_
    refine m_g20 hc hw dX12_says_20 ?_
    refine lv_iconst (v := 4) hx hb dX12_says_23 (by decide) ?_
    refine lv_aload_n hx hb dX12_says_24 rfl (lv_at hl 0 rfl) ?_
    refine m_g22 hc hw dX12_says_25 ?_
    refine lv_imul hx hb dX12_says_28 ?_
    refine lv_iload_n hx hb dX12_says_29 rfl (lv_at hl 1 rfl) ?_
    refine lv_iadd hx hb dX12_says_30 ?_
    refine lv_iconst (v := 1) hx hb dX12_says_31 (by decide) ?_
    refine lv_iadd hx hb dX12_says_32 ?_
    obtain ⟨hi7, hf⟩ := gd_some hf
    refine m_l20 hc hw (ok_in hi7) dX12_says_33 ?_
    refine lv_icmp_ge (tgt := 200) hx hb dX12_says_34 (by decide) (fun cn21 => ?_) (fun cn21 => ?_)
    · have hf := (if_pos cn21).symm.trans hf
      obtain rfl := Option.some.inj hf
      exact kx _ _ _ hw (lv_sub hl [0, 2] rfl)
    · have hf := (if_neg cn21).symm.trans hf
      refine lv_aload_n hx hb dX12_says_37 rfl (lv_at hl 0 rfl) ?_
      refine m_g19 hc hw dX12_says_38 ?_
      refine lv_sipush (v := 200) hx hb dX12_says_41 (by decide) ?_
      refine lv_aload_n hx hb dX12_says_44 rfl (lv_at hl 0 rfl) ?_
      refine m_g22 hc hw dX12_says_45 ?_
      refine lv_imul hx hb dX12_says_48 ?_
      refine lv_iload hx hb dX12_says_49 (lv_at hl 4 rfl) ?_
      refine lv_iadd hx hb dX12_says_51 ?_
      obtain ⟨hi8, hf⟩ := gd_some hf
      refine m_l19 hc hw (ok_in hi8) dX12_says_52 ?_
      refine lv_istore (lv' := [(5, .int (S6.1 19 ((200 * (S6.1 22 0)) + v5).toNatClampNeg)), (0, .ref (mr g 0)), (1, .int c2), (2, .int c3), (3, .int v4), (4, .int v5)]) hx hb dX12_says_53 hl (by decide) rfl (fun ls hl => ?_)
      refine lv_iload hx hb dX12_says_55 (lv_at hl 0 rfl) ?_
      refine lv_ldc (v := 100000) hx hb hc.2.2.1 (hc.2.2.2 _ (mem_g 1421 (by decide +kernel) rfl)) dX12_says_57 ?_
      refine lv_icmp_ge (tgt := 69) hx hb dX12_says_59 (by decide) (fun cn22 => ?_) (fun cn22 => ?_)
      · have hf := (if_pos cn22).symm.trans hf
        refine lv_aload_n hx hb dX12_says_69 rfl (lv_at hl 1 rfl) ?_
        refine m_g49 hc hw dX12_says_70 ?_
        refine lv_iload_n hx hb dX12_says_73 rfl (lv_at hl 4 rfl) ?_
        refine lv_iload hx hb dX12_says_74 (lv_at hl 0 rfl) ?_
        refine lv_bipush (v := 11) hx hb dX12_says_76 (by decide) ?_
        obtain ⟨v10, hX23, hf⟩ := bd1_some hf
        have kJ24 : ∀ (H : Heap) (locs : List Loc) (ls : Array Slot), mI g A H0 s S6 H locs → lv_has ls 6 [(0, .ref (mr g 0)), (1, .int c2), (2, .int c3), (3, .int v4), (4, .int v5)] → W p l e R s m args below meth c H locs 0 0 Q (F0 m 96 ls [.int v10, .int v4, .ref (mr g 50)]) := by
          intro H locs ls hw hl
          obtain ⟨hi11, hf⟩ := gd_some hf
          refine m_s49 hc hw (ok_in hi11) dX12_says_96 (fun H locs hw => ?_)
          refine lv_iinc (lv' := [(3, .int (v4 + 1)), (0, .ref (mr g 0)), (1, .int c2), (2, .int c3), (4, .int v5)]) hx hb dX12_says_97 hl (k := 3) rfl rfl (by decide) rfl (fun ls hl => ?_)
          refine lv_goto (tgt := 194) hx hb dX12_says_100 (by decide) ?_
          refine lv_iinc (lv' := [(4, .int (v5 + 1)), (3, .int (v4 + 1)), (0, .ref (mr g 0)), (1, .int c2), (2, .int c3)]) hx hb dX12_says_194 hl (k := 4) rfl rfl (by decide) rfl (fun ls hl => ?_)
          refine lv_goto (tgt := 17) hx hb dX12_says_197 (by decide) ?_
          exact ih _ _ _ X _ _ _ hf hw (lv_sub hl [2, 3, 4, 1, 0] rfl) kx
        refine lv_icmp_ge (tgt := 91) hx hb dX12_says_78 (by decide) (fun cn25 => ?_) (fun cn25 => ?_)
        · have hX23 := (if_pos cn25).symm.trans hX23
          refine lv_iload hx hb dX12_says_91 (lv_at hl 0 rfl) ?_
          refine lv_ldc (v := 100000) hx hb hc.2.2.1 (hc.2.2.2 _ (mem_g 1421 (by decide +kernel) rfl)) dX12_says_93 ?_
          refine lv_isub hx hb dX12_says_95 ?_
          obtain rfl := Option.some.inj hX23
          exact kJ24 _ _ _ hw (lv_sub hl [1, 2, 3, 4, 5] rfl)
        · have hX23 := (if_neg cn25).symm.trans hX23
          refine lv_aload_n hx hb dX12_says_81 rfl (lv_at hl 1 rfl) ?_
          refine m_g50 hc hw dX12_says_82 ?_
          refine lv_iload hx hb dX12_says_85 (lv_at hl 0 rfl) ?_
          obtain ⟨hi9, hX23⟩ := gd_some hX23
          refine m_l50 hc hw (ok_in hi9) dX12_says_87 ?_
          refine lv_goto (tgt := 96) hx hb dX12_says_88 (by decide) ?_
          obtain rfl := Option.some.inj hX23
          exact kJ24 _ _ _ hw (lv_sub hl [1, 2, 3, 4, 5] rfl)
      · have hf := (if_neg cn22).symm.trans hf
        refine lv_iload hx hb dX12_says_62 (lv_at hl 0 rfl) ?_
        refine lv_bipush (v := 11) hx hb dX12_says_64 (by decide) ?_
        refine lv_icmp_ge (tgt := 103) hx hb dX12_says_66 (by decide) (fun cn26 => ?_) (fun cn26 => ?_)
        · have hf := (if_pos cn26).symm.trans hf
          refine lv_iload hx hb dX12_says_103 (lv_at hl 0 rfl) ?_
          refine lv_bipush (v := 13) hx hb dX12_says_105 (by decide) ?_
          refine lv_icmp_ne (tgt := 137) hx hb dX12_says_107 (by decide) (fun cn27 => ?_) (fun cn27 => ?_)
          · have hf := (if_neg cn27).symm.trans hf
            refine lv_iload hx hb dX12_says_137 (lv_at hl 0 rfl) ?_
            refine lv_bipush (v := 19) hx hb dX12_says_139 (by decide) ?_
            refine lv_icmp_ne (tgt := 164) hx hb dX12_says_141 (by decide) (fun cn28 => ?_) (fun cn28 => ?_)
            · have hf := (if_neg cn28).symm.trans hf
              refine lv_iinc (lv' := [(3, .int (v4 + (-1))), (5, .int (S6.1 19 ((200 * (S6.1 22 0)) + v5).toNatClampNeg)), (0, .ref (mr g 0)), (1, .int c2), (2, .int c3), (4, .int v5)]) hx hb dX12_says_164 hl (k := 4) rfl rfl (by decide) rfl (fun ls hl => ?_)
              refine lv_aload_n hx hb dX12_says_167 rfl (lv_at hl 2 rfl) ?_
              refine m_g49 hc hw dX12_says_168 ?_
              refine lv_iload_n hx hb dX12_says_171 rfl (lv_at hl 0 rfl) ?_
              refine lv_iconst (v := 1) hx hb dX12_says_172 (by decide) ?_
              refine lv_isub hx hb dX12_says_173 ?_
              refine lv_iload hx hb dX12_says_174 (lv_at hl 1 rfl) ?_
              refine lv_aload_n hx hb dX12_says_176 rfl (lv_at hl 2 rfl) ?_
              refine m_g49 hc hw dX12_says_177 ?_
              refine lv_iload_n hx hb dX12_says_180 rfl (lv_at hl 0 rfl) ?_
              refine lv_iconst (v := 1) hx hb dX12_says_181 (by decide) ?_
              refine lv_isub hx hb dX12_says_182 ?_
              obtain ⟨hi12, hf⟩ := gd_some hf
              refine m_l49 hc hw (ok_in hi12) dX12_says_183 ?_
              refine lv_aload_n hx hb dX12_says_184 rfl (lv_at hl 2 rfl) ?_
              refine m_g49 hc hw dX12_says_185 ?_
              refine lv_iload_n hx hb dX12_says_188 rfl (lv_at hl 0 rfl) ?_
              obtain ⟨hi13, hf⟩ := gd_some hf
              refine m_l49 hc hw (ok_in hi13) dX12_says_189 ?_
              refine m_csi (As := [.int (S6.1 19 ((200 * (S6.1 22 0)) + v5).toNatClampNeg), .int (S6.1 49 ((v4 + (-1)) - 1).toNatClampNeg), .int (S6.1 49 (v4 + (-1)).toNatClampNeg)]) (rest := [.int ((v4 + (-1)) - 1), .ref (mr g 50)]) hc hw hR (hml.trans hl.1.symm) (cm_two l S6 (S6.1 19 ((200 * (S6.1 22 0)) + v5).toNatClampNeg) (S6.1 49 ((v4 + (-1)) - 1).toNatClampNeg) (S6.1 49 (v4 + (-1)).toNatClampNeg) _ rfl) mq_two (by decide) rfl rfl rfl (Nat.le_of_ble_eq_true rfl) dX12_says_190 (fun H locs hw => ?_) ⟨Nat.zero_le _, Nat.zero_le _⟩
              refine m_s49 hc hw (ok_in hi12) dX12_says_193 (fun H locs hw => ?_)
              refine lv_iinc (lv' := [(4, .int (v5 + 1)), (3, .int (v4 + (-1))), (5, .int (S6.1 19 ((200 * (S6.1 22 0)) + v5).toNatClampNeg)), (0, .ref (mr g 0)), (1, .int c2), (2, .int c3)]) hx hb dX12_says_194 hl (k := 5) rfl rfl (by decide) rfl (fun ls hl => ?_)
              refine lv_goto (tgt := 17) hx hb dX12_says_197 (by decide) ?_
              exact ih _ _ _ X _ _ _ hf hw (lv_sub hl [3, 4, 5, 1, 0] rfl) kx
            · have hf := (if_pos cn28).symm.trans hf
              refine lv_aload_n hx hb dX12_says_144 rfl (lv_at hl 1 rfl) ?_
              refine m_g49 hc hw dX12_says_145 ?_
              refine lv_iload_n hx hb dX12_says_148 rfl (lv_at hl 4 rfl) ?_
              refine lv_iconst (v := 1) hx hb dX12_says_149 (by decide) ?_
              refine lv_isub hx hb dX12_says_150 ?_
              refine lv_aload_n hx hb dX12_says_151 rfl (lv_at hl 1 rfl) ?_
              refine m_g49 hc hw dX12_says_152 ?_
              refine lv_iload_n hx hb dX12_says_155 rfl (lv_at hl 4 rfl) ?_
              refine lv_iconst (v := 1) hx hb dX12_says_156 (by decide) ?_
              refine lv_isub hx hb dX12_says_157 ?_
              obtain ⟨hi14, hf⟩ := gd_some hf
              refine m_l49 hc hw (ok_in hi14) dX12_says_158 ?_
              refine lv_ineg hx hb dX12_says_159 ?_
              refine m_s49 hc hw (ok_in hi14) dX12_says_160 (fun H locs hw => ?_)
              refine lv_goto (tgt := 194) hx hb dX12_says_161 (by decide) ?_
              refine lv_iinc (lv' := [(4, .int (v5 + 1)), (5, .int (S6.1 19 ((200 * (S6.1 22 0)) + v5).toNatClampNeg)), (0, .ref (mr g 0)), (1, .int c2), (2, .int c3), (3, .int v4)]) hx hb dX12_says_194 hl (k := 5) rfl rfl (by decide) rfl (fun ls hl => ?_)
              refine lv_goto (tgt := 17) hx hb dX12_says_197 (by decide) ?_
              exact ih _ _ _ X _ _ _ hf hw (lv_sub hl [2, 3, 4, 5, 0] rfl) kx
          · have hf := (if_pos cn27).symm.trans hf
            refine lv_aload_n hx hb dX12_says_110 rfl (lv_at hl 1 rfl) ?_
            refine m_g49 hc hw dX12_says_111 ?_
            refine lv_iload_n hx hb dX12_says_114 rfl (lv_at hl 4 rfl) ?_
            refine lv_iconst (v := 1) hx hb dX12_says_115 (by decide) ?_
            refine lv_isub hx hb dX12_says_116 ?_
            refine lv_aload_n hx hb dX12_says_117 rfl (lv_at hl 1 rfl) ?_
            refine m_g49 hc hw dX12_says_118 ?_
            refine lv_iload_n hx hb dX12_says_121 rfl (lv_at hl 4 rfl) ?_
            refine lv_iconst (v := 1) hx hb dX12_says_122 (by decide) ?_
            refine lv_isub hx hb dX12_says_123 ?_
            obtain ⟨hi15, hf⟩ := gd_some hf
            refine m_l49 hc hw (ok_in hi15) dX12_says_124 ?_
            obtain ⟨v16, hv16⟩ : ∃ y : Int32, y = (if (S6.1 49 (v4 - 1).toNatClampNeg) = 0 then 1 else 0) := ⟨_, rfl⟩
            try rw [← hv16] at hf
            have kJ29 : ∀ v16x : Int32, v16 = v16x → ∀ (H : Heap) (locs : List Loc) (ls : Array Slot), mI g A H0 s S6 H locs → lv_has ls 6 [(0, .ref (mr g 0)), (1, .int c2), (2, .int c3), (3, .int v4), (4, .int v5)] → W p l e R s m args below meth c H locs 0 0 Q (F0 m 133 ls [.int v16x, .int (v4 - 1), .ref (mr g 50)]) := by
              intro v16x hxv16 H locs ls hw hl
              subst hxv16
              refine m_s49 hc hw (ok_in hi15) dX12_says_133 (fun H locs hw => ?_)
              refine lv_goto (tgt := 194) hx hb dX12_says_134 (by decide) ?_
              refine lv_iinc (lv' := [(4, .int (v5 + 1)), (0, .ref (mr g 0)), (1, .int c2), (2, .int c3), (3, .int v4)]) hx hb dX12_says_194 hl (k := 4) rfl rfl (by decide) rfl (fun ls hl => ?_)
              refine lv_goto (tgt := 17) hx hb dX12_says_197 (by decide) ?_
              exact ih _ _ _ X _ _ _ hf hw (lv_sub hl [1, 2, 3, 4, 0] rfl) kx
            refine lv_if_ne (tgt := 132) hx hb dX12_says_125 (by decide) (fun cn30 => ?_) (fun cn30 => ?_)
            · refine lv_iconst (v := 0) hx hb dX12_says_132 (by decide) ?_
              have ev16 : v16 = (0 : Int32) := by rw [hv16]; simp only [if_neg cn30]
              exact kJ29 _ ev16 _ _ _ hw (lv_sub hl [1, 2, 3, 4, 5] rfl)
            · refine lv_iconst (v := 1) hx hb dX12_says_128 (by decide) ?_
              refine lv_goto (tgt := 133) hx hb dX12_says_129 (by decide) ?_
              have ev16 : v16 = (1 : Int32) := by rw [hv16]; simp only [if_pos cn30]
              exact kJ29 _ ev16 _ _ _ hw (lv_sub hl [1, 2, 3, 4, 5] rfl)
        · have hf := (if_neg cn26).symm.trans hf
          refine lv_aload_n hx hb dX12_says_69 rfl (lv_at hl 1 rfl) ?_
          refine m_g49 hc hw dX12_says_70 ?_
          refine lv_iload_n hx hb dX12_says_73 rfl (lv_at hl 4 rfl) ?_
          refine lv_iload hx hb dX12_says_74 (lv_at hl 0 rfl) ?_
          refine lv_bipush (v := 11) hx hb dX12_says_76 (by decide) ?_
          obtain ⟨v18, hX31, hf⟩ := bd1_some hf
          have kJ32 : ∀ (H : Heap) (locs : List Loc) (ls : Array Slot), mI g A H0 s S6 H locs → lv_has ls 6 [(0, .ref (mr g 0)), (1, .int c2), (2, .int c3), (3, .int v4), (4, .int v5)] → W p l e R s m args below meth c H locs 0 0 Q (F0 m 96 ls [.int v18, .int v4, .ref (mr g 50)]) := by
            intro H locs ls hw hl
            obtain ⟨hi19, hf⟩ := gd_some hf
            refine m_s49 hc hw (ok_in hi19) dX12_says_96 (fun H locs hw => ?_)
            refine lv_iinc (lv' := [(3, .int (v4 + 1)), (0, .ref (mr g 0)), (1, .int c2), (2, .int c3), (4, .int v5)]) hx hb dX12_says_97 hl (k := 3) rfl rfl (by decide) rfl (fun ls hl => ?_)
            refine lv_goto (tgt := 194) hx hb dX12_says_100 (by decide) ?_
            refine lv_iinc (lv' := [(4, .int (v5 + 1)), (3, .int (v4 + 1)), (0, .ref (mr g 0)), (1, .int c2), (2, .int c3)]) hx hb dX12_says_194 hl (k := 4) rfl rfl (by decide) rfl (fun ls hl => ?_)
            refine lv_goto (tgt := 17) hx hb dX12_says_197 (by decide) ?_
            exact ih _ _ _ X _ _ _ hf hw (lv_sub hl [2, 3, 4, 1, 0] rfl) kx
          refine lv_icmp_ge (tgt := 91) hx hb dX12_says_78 (by decide) (fun cn33 => ?_) (fun cn33 => ?_)
          · have hX31 := (if_pos cn33).symm.trans hX31
            refine lv_iload hx hb dX12_says_91 (lv_at hl 0 rfl) ?_
            refine lv_ldc (v := 100000) hx hb hc.2.2.1 (hc.2.2.2 _ (mem_g 1421 (by decide +kernel) rfl)) dX12_says_93 ?_
            refine lv_isub hx hb dX12_says_95 ?_
            obtain rfl := Option.some.inj hX31
            exact kJ32 _ _ _ hw (lv_sub hl [1, 2, 3, 4, 5] rfl)
          · have hX31 := (if_neg cn33).symm.trans hX31
            refine lv_aload_n hx hb dX12_says_81 rfl (lv_at hl 1 rfl) ?_
            refine m_g50 hc hw dX12_says_82 ?_
            refine lv_iload hx hb dX12_says_85 (lv_at hl 0 rfl) ?_
            obtain ⟨hi17, hX31⟩ := gd_some hX31
            refine m_l50 hc hw (ok_in hi17) dX12_says_87 ?_
            refine lv_goto (tgt := 96) hx hb dX12_says_88 (by decide) ?_
            obtain rfl := Option.some.inj hX31
            exact kJ32 _ _ _ hw (lv_sub hl [1, 2, 3, 4, 5] rfl)
def mf_says (N : Nat) (S : mS) (a1 : Int32) (a2 : Int32) : Option (Int32 × mS) := (if ok ((4 * (S.1 22 0)) + a1) 24 then (bd1 (mf_says_L17 N a1 a2 N S 0 (S.1 20 ((4 * (S.1 22 0)) + a1).toNatClampNeg)) fun S20 => (if 0 ≤ (S20.1 49 (0 : Int32).toNatClampNeg) then (if (S20.1 49 (0 : Int32).toNatClampNeg) ≤ a2 then some (S20.1 49 (0 : Int32).toNatClampNeg, S20) else some (a2, S20)) else some (0, S20))) else none)
set_option maxRecDepth 100000 in
theorem cm_says (l : Launch) (N : Nat) (S : mS) (a1 : Int32) (a2 : Int32) (res : Int32) (S1 : mS) (hf : mf_says N S a1 a2 = some (res, S1)) : mMi l yX12_says cX12_says 6 .int 2 (fun g => [.ref (mr g 0), .int a1, .int a2]) S res S1 := by
  refine mMi_of (own := RX12) (by decide) rfl rfl (fun g => Nat.le_of_ble_eq_true rfl) ?_
  intro p e R s m args below meth c Q g A H0 H locs ls hc hR hml hw hl hQ
  have hl : lv_has ls 6 [(0, .ref (mr g 0)), (1, .int a1), (2, .int a2)] := hl
  have hx := hc.1
  have hb := hc.2.1
  unfold mf_says at hf
  refine lv_iconst (v := 0) hx hb dX12_says_0 (by decide) ?_
  refine lv_istore_n (lv' := [(3, .int 0), (0, .ref (mr g 0)), (1, .int a1), (2, .int a2)]) hx hb dX12_says_1 rfl hl (by decide) rfl (fun ls hl => ?_)
  refine lv_aload_n hx hb dX12_says_2 rfl (lv_at hl 1 rfl) ?_
  refine m_g20 hc hw dX12_says_3 ?_
  refine lv_iconst (v := 4) hx hb dX12_says_6 (by decide) ?_
  refine lv_aload_n hx hb dX12_says_7 rfl (lv_at hl 1 rfl) ?_
  refine m_g22 hc hw dX12_says_8 ?_
  refine lv_imul hx hb dX12_says_11 ?_
  refine lv_iload_n hx hb dX12_says_12 rfl (lv_at hl 2 rfl) ?_
  refine lv_iadd hx hb dX12_says_13 ?_
  obtain ⟨hi1, hf⟩ := gd_some hf
  refine m_l20 hc hw (ok_in hi1) dX12_says_14 ?_
  refine lv_istore (lv' := [(4, .int (S.1 20 ((4 * (S.1 22 0)) + a1).toNatClampNeg)), (3, .int 0), (0, .ref (mr g 0)), (1, .int a1), (2, .int a2)]) hx hb dX12_says_15 hl (by decide) rfl (fun ls hl => ?_)
  obtain ⟨S20, hL, hf⟩ := bd1_some hf
  refine wm_says_L17 hc hR hml N a1 a2 N _ _ _ _ _ _ _ hL hw (lv_sub hl [2, 3, 4, 1, 0] rfl) (fun H locs ls hw hl => ?_)
  refine lv_aload_n hx hb dX12_says_200 rfl (lv_at hl 0 rfl) ?_
  refine m_g49 hc hw dX12_says_201 ?_
  refine lv_iconst (v := 0) hx hb dX12_says_204 (by decide) ?_
  refine m_l49 hc hw (ok_in (by decide)) dX12_says_205 ?_
  refine lv_if_ge (tgt := 213) hx hb dX12_says_206 (by decide) (fun cn35 => ?_) (fun cn35 => ?_)
  · have hf := (if_pos cn35).symm.trans hf
    refine lv_aload_n hx hb dX12_says_213 rfl (lv_at hl 0 rfl) ?_
    refine m_g49 hc hw dX12_says_214 ?_
    refine lv_iconst (v := 0) hx hb dX12_says_217 (by decide) ?_
    refine m_l49 hc hw (ok_in (by decide)) dX12_says_218 ?_
    refine lv_iload_n hx hb dX12_says_219 rfl (lv_at hl 1 rfl) ?_
    refine lv_icmp_le (tgt := 227) hx hb dX12_says_220 (by decide) (fun cn36 => ?_) (fun cn36 => ?_)
    · have hf := (if_pos cn36).symm.trans hf
      refine lv_aload_n hx hb dX12_says_227 rfl (lv_at hl 0 rfl) ?_
      refine m_g49 hc hw dX12_says_228 ?_
      refine lv_iconst (v := 0) hx hb dX12_says_231 (by decide) ?_
      refine m_l49 hc hw (ok_in (by decide)) dX12_says_232 ?_
      obtain ⟨rfl, rfl⟩ := pr2_some hf
      exact hQ _ _ _ _ dX12_says_233 hw
    · have hf := (if_neg cn36).symm.trans hf
      refine lv_iload_n hx hb dX12_says_223 rfl (lv_at hl 1 rfl) ?_
      refine lv_goto (tgt := 233) hx hb dX12_says_224 (by decide) ?_
      obtain ⟨rfl, rfl⟩ := pr2_some hf
      exact hQ _ _ _ _ dX12_says_233 hw
  · have hf := (if_neg cn35).symm.trans hf
    refine lv_iconst (v := 0) hx hb dX12_says_209 (by decide) ?_
    refine lv_goto (tgt := 233) hx hb dX12_says_210 (by decide) ?_
    obtain ⟨rfl, rfl⟩ := pr2_some hf
    exact hQ _ _ _ _ dX12_says_233 hw
theorem mq_says : qCv RX12 295 yX12_says cX12_says 6 (some .int) 2 := ⟨⟨(mem_g 1501 (by decide +kernel) rfl), (mem_g 1503 (by decide +kernel) rfl), (mem_g 61 (by decide +kernel) rfl), (mem_g 89 (by decide +kernel) rfl), (mem_g 1504 (by decide +kernel) rfl)⟩, by decide, by decide +kernel, by decide⟩
def mf_force (S : mS) (a1 : Int32) : Int32 × mS := (if (mf_in a1 0 ((S.1 21 0) - 1)) = true then (S.1 22 0, ms S 22 0 a1) else ((-2), S))
set_option maxRecDepth 100000 in
theorem cm_force (l : Launch) (S : mS) (a1 : Int32) (res : Int32) (S1 : mS) (hf : mf_force S a1 = (res, S1)) : mMi l yX12_force cX12_force 3 .int 2 (fun g => [.ref (mr g 0), .int a1]) S res S1 := by
  refine mMi_of (own := RX12) (by decide) rfl rfl (fun g => Nat.le_of_ble_eq_true rfl) ?_
  intro p e R s m args below meth c Q g A H0 H locs ls hc hR hml hw hl hQ
  have hl : lv_has ls 3 [(0, .ref (mr g 0)), (1, .int a1)] := hl
  have hx := hc.1
  have hb := hc.2.1
  unfold mf_force at hf
  refine lv_iload_n hx hb dX12_force_0 rfl (lv_at hl 1 rfl) ?_
  refine lv_iconst (v := 0) hx hb dX12_force_1 (by decide) ?_
  refine lv_aload_n hx hb dX12_force_2 rfl (lv_at hl 0 rfl) ?_
  refine m_g21 hc hw dX12_force_3 ?_
  refine lv_iconst (v := 1) hx hb dX12_force_6 (by decide) ?_
  refine lv_isub hx hb dX12_force_7 ?_
  refine m_csi (As := [.int a1, .int 0, .int ((S.1 21 0) - 1)]) (rest := []) hc hw hR (hml.trans hl.1.symm) (cm_in l S a1 0 ((S.1 21 0) - 1) _ rfl) mq_in (by decide) rfl rfl rfl (Nat.le_of_ble_eq_true rfl) dX12_force_8 (fun H locs hw => ?_) ⟨Nat.zero_le _, Nat.zero_le _⟩
  refine lv_if_neb (tgt := 17) hx hb dX12_force_11 (by decide) (fun cn1 => ?_) (fun cn1 => ?_)
  · have hf := (if_pos cn1).symm.trans hf
    refine lv_aload_n hx hb dX12_force_17 rfl (lv_at hl 0 rfl) ?_
    refine m_g22 hc hw dX12_force_18 ?_
    refine lv_istore_n (lv' := [(2, .int (S.1 22 0)), (0, .ref (mr g 0)), (1, .int a1)]) hx hb dX12_force_21 rfl hl (by decide) rfl (fun ls hl => ?_)
    refine lv_aload_n hx hb dX12_force_22 rfl (lv_at hl 1 rfl) ?_
    refine lv_iload_n hx hb dX12_force_23 rfl (lv_at hl 2 rfl) ?_
    refine m_p22 hc hw dX12_force_24 (fun H locs hw => ?_)
    refine lv_iload_n hx hb dX12_force_27 rfl (lv_at hl 0 rfl) ?_
    obtain ⟨rfl, rfl⟩ := pr2_some (congrArg some hf)
    exact hQ _ _ _ _ dX12_force_28 hw
  · have hf := (if_neg cn1).symm.trans hf
    refine lv_bipush (v := (-2)) hx hb dX12_force_14 (by decide) ?_
    obtain ⟨rfl, rfl⟩ := pr2_some (congrArg some hf)
    exact hQ _ _ _ _ dX12_force_16 hw
def mf_beside (N : Nat) (S : mS) (a1 : Int32) (a2 : Int32) (a3 : Int32) (a4 : Int32) (a5 : Int32) : Option (Int32) := (bd1 (mf_farOf N S a1) fun v1 => (if ok a3 6 then (bd1 (mf_placeOf N S a1 a2) fun v3 => (if 0 ≤ ((((S.1 11 a3.toNatClampNeg) * v1) + ((v3 - (S.1 11 a3.toNatClampNeg)) * a5)) - (a4 * v1)) then some ((((S.1 11 a3.toNatClampNeg) * v1) + ((v3 - (S.1 11 a3.toNatClampNeg)) * a5)) - (a4 * v1)) else some (-((((S.1 11 a3.toNatClampNeg) * v1) + ((v3 - (S.1 11 a3.toNatClampNeg)) * a5)) - (a4 * v1))))) else none))
set_option maxRecDepth 100000 in
theorem cm_beside (l : Launch) (N : Nat) (S : mS) (a1 : Int32) (a2 : Int32) (a3 : Int32) (a4 : Int32) (a5 : Int32) (res : Int32) (hf : mf_beside N S a1 a2 a3 a4 a5 = some res) : mMi l yX12_beside cX12_beside 8 .int 2 (fun g => [.ref (mr g 0), .int a1, .int a2, .int a3, .int a4, .int a5]) S res S := by
  refine mMi_of (own := RX12) (by decide) rfl rfl (fun g => Nat.le_of_ble_eq_true rfl) ?_
  intro p e R s m args below meth c Q g A H0 H locs ls hc hR hml hw hl hQ
  have hl : lv_has ls 8 [(0, .ref (mr g 0)), (1, .int a1), (2, .int a2), (3, .int a3), (4, .int a4), (5, .int a5)] := hl
  have hx := hc.1
  have hb := hc.2.1
  unfold mf_beside at hf
  refine lv_aload_n hx hb dX12_beside_0 rfl (lv_at hl 0 rfl) ?_
  refine lv_iload_n hx hb dX12_beside_1 rfl (lv_at hl 1 rfl) ?_
  obtain ⟨v1, hcall, hf⟩ := bd1_some hf
  refine m_cvi (As := [.int a1]) (rest := []) hc hw hR (hml.trans hl.1.symm) (cm_farOf l N S a1 v1 hcall) mq_farOf rfl (by decide) rfl rfl rfl (Nat.le_of_ble_eq_true rfl) dX12_beside_2 (fun H locs hw => ?_) ⟨Nat.zero_le _, Nat.zero_le _⟩
  refine lv_istore (lv' := [(6, .int v1), (0, .ref (mr g 0)), (1, .int a1), (2, .int a2), (3, .int a3), (4, .int a4), (5, .int a5)]) hx hb dX12_beside_5 hl (by decide) rfl (fun ls hl => ?_)
  refine lv_aload_n hx hb dX12_beside_7 rfl (lv_at hl 1 rfl) ?_
  refine m_g11 hc hw dX12_beside_8 ?_
  refine lv_iload_n hx hb dX12_beside_11 rfl (lv_at hl 4 rfl) ?_
  obtain ⟨hi2, hf⟩ := gd_some hf
  refine m_l11 hc hw (ok_in hi2) dX12_beside_12 ?_
  refine lv_iload hx hb dX12_beside_13 (lv_at hl 0 rfl) ?_
  refine lv_imul hx hb dX12_beside_15 ?_
  refine lv_aload_n hx hb dX12_beside_16 rfl (lv_at hl 1 rfl) ?_
  refine lv_iload_n hx hb dX12_beside_17 rfl (lv_at hl 2 rfl) ?_
  refine lv_iload_n hx hb dX12_beside_18 rfl (lv_at hl 3 rfl) ?_
  obtain ⟨v3, hcall, hf⟩ := bd1_some hf
  refine m_cvi (As := [.int a1, .int a2]) (rest := [.int ((S.1 11 a3.toNatClampNeg) * v1)]) hc hw hR (hml.trans hl.1.symm) (cm_placeOf l N S a1 a2 v3 hcall) mq_placeOf rfl (by decide) rfl rfl rfl (Nat.le_of_ble_eq_true rfl) dX12_beside_19 (fun H locs hw => ?_) ⟨Nat.zero_le _, Nat.zero_le _⟩
  refine lv_aload_n hx hb dX12_beside_22 rfl (lv_at hl 1 rfl) ?_
  refine m_g11 hc hw dX12_beside_23 ?_
  refine lv_iload_n hx hb dX12_beside_26 rfl (lv_at hl 4 rfl) ?_
  refine m_l11 hc hw (ok_in hi2) dX12_beside_27 ?_
  refine lv_isub hx hb dX12_beside_28 ?_
  refine lv_iload hx hb dX12_beside_29 (lv_at hl 6 rfl) ?_
  refine lv_imul hx hb dX12_beside_31 ?_
  refine lv_iadd hx hb dX12_beside_32 ?_
  refine lv_iload hx hb dX12_beside_33 (lv_at hl 5 rfl) ?_
  refine lv_iload hx hb dX12_beside_35 (lv_at hl 0 rfl) ?_
  refine lv_imul hx hb dX12_beside_37 ?_
  refine lv_isub hx hb dX12_beside_38 ?_
  refine lv_istore (lv' := [(7, .int ((((S.1 11 a3.toNatClampNeg) * v1) + ((v3 - (S.1 11 a3.toNatClampNeg)) * a5)) - (a4 * v1))), (6, .int v1), (0, .ref (mr g 0)), (1, .int a1), (2, .int a2), (3, .int a3), (4, .int a4), (5, .int a5)]) hx hb dX12_beside_39 hl (by decide) rfl (fun ls hl => ?_)
  refine lv_iload hx hb dX12_beside_41 (lv_at hl 0 rfl) ?_
  refine lv_if_ge (tgt := 52) hx hb dX12_beside_43 (by decide) (fun cn4 => ?_) (fun cn4 => ?_)
  · have hf := (if_pos cn4).symm.trans hf
    refine lv_iload hx hb dX12_beside_52 (lv_at hl 0 rfl) ?_
    obtain rfl := Option.some.inj hf
    exact hQ _ _ _ _ dX12_beside_54 hw
  · have hf := (if_neg cn4).symm.trans hf
    refine lv_iload hx hb dX12_beside_46 (lv_at hl 0 rfl) ?_
    refine lv_ineg hx hb dX12_beside_48 ?_
    refine lv_goto (tgt := 54) hx hb dX12_beside_49 (by decide) ?_
    obtain rfl := Option.some.inj hf
    exact hQ _ _ _ _ dX12_beside_54 hw
theorem mq_beside : qCv RX12 271 yX12_beside cX12_beside 8 (some .int) 5 := ⟨⟨(mem_g 1465 (by decide +kernel) rfl), (mem_g 1467 (by decide +kernel) rfl), (mem_g 54 (by decide +kernel) rfl), (mem_g 89 (by decide +kernel) rfl), (mem_g 1468 (by decide +kernel) rfl)⟩, by decide, by decide +kernel, by decide⟩
def mf_lawful_L15 (N : Nat) (c1 : Int32) : Nat → mS → Int32 → Option ((Int32) ⊕ (Unit))
  | 0, _, _ => none
  | n + 1, S3, v2 => (if (S3.1 3 0) ≤ v2 then some (.inr ()) else (bd1 (mf_stepOf N S3 v2) fun v4 => (if c1 < v4 then some (.inl v2) else (bd1 (mf_stepOf N S3 v2) fun v5 => (if (-c1) ≤ v5 then mf_lawful_L15 N c1 n S3 (v2 + 1) else some (.inl v2))))))
set_option maxRecDepth 100000 in
theorem wm_lawful_L15 {p : Program} {l : Launch} {e : Env} {R : Room} {s : State} {m : MethodId} {args : Array Value} {below : List Frame} {meth : Method} {c : Code} {Q : State → Prop} {g : mG} {A : Nat → Prop} {H0 : Heap} (hc : qC RX12 cX12_lawful p s m args c) (hR : qRoom R 2) (hml : c.maxLocals = 3) (N : Nat) (c1 : Int32) : ∀ (n : Nat) (S3 : mS) (v2 : Int32) (X : (Int32) ⊕ (Unit)) (H : Heap) (locs : List Loc) (ls : Array Slot), mf_lawful_L15 N c1 n S3 v2 = some X → mI g A H0 s S3 H locs → lv_has ls 3 [(0, .ref (mr g 0)), (1, .int c1), (2, .int v2)] → (∀ (_ : Unit), X = .inr () → ∀ (H : Heap) (locs : List Loc) (ls : Array Slot), mI g A H0 s S3 H locs → lv_has ls 3 [] → W p l e R s m args below meth c H locs 0 0 Q (F0 m 50 ls [])) → (∀ (r : Int32), X = .inl r → mQi p l e R s m args below meth c cX12_lawful Q g A H0 r S3) → W p l e R s m args below meth c H locs 0 0 Q (F0 m 15 ls []) := by
  have hx := hc.1
  have hb := hc.2.1
  intro n
  induction n with
  | zero => intro _ _ X H locs ls hf; exact nomatch (show none = some X from hf)
  | succ n ih =>
    intro S3 v2 X H locs ls hf hw hl kx kr
    rw [mf_lawful_L15] at hf
    refine lv_iload_n hx hb dX12_lawful_15 rfl (lv_at hl 2 rfl) ?_
    refine lv_aload_n hx hb dX12_lawful_16 rfl (lv_at hl 0 rfl) ?_
    refine m_g3 hc hw dX12_lawful_17 ?_
    refine lv_icmp_ge (tgt := 50) hx hb dX12_lawful_20 (by decide) (fun cn7 => ?_) (fun cn7 => ?_)
    · have hf := (if_pos cn7).symm.trans hf
      obtain rfl := Option.some.inj hf
      exact kx () rfl _ _ _ hw (lv_sub hl [] rfl)
    · have hf := (if_neg cn7).symm.trans hf
      refine lv_aload_n hx hb dX12_lawful_23 rfl (lv_at hl 0 rfl) ?_
      refine lv_iload_n hx hb dX12_lawful_24 rfl (lv_at hl 2 rfl) ?_
      obtain ⟨v4, hcall, hf⟩ := bd1_some hf
      refine m_cvi (As := [.int v2]) (rest := []) hc hw hR (hml.trans hl.1.symm) (cm_stepOf l N S3 v2 v4 hcall) mq_stepOf rfl (by decide) rfl rfl rfl (Nat.le_of_ble_eq_true rfl) dX12_lawful_25 (fun H locs hw => ?_) ⟨Nat.zero_le _, Nat.zero_le _⟩
      refine lv_iload_n hx hb dX12_lawful_28 rfl (lv_at hl 1 rfl) ?_
      refine lv_icmp_gt (tgt := 42) hx hb dX12_lawful_29 (by decide) (fun cn8 => ?_) (fun cn8 => ?_)
      · have hf := (if_pos cn8).symm.trans hf
        refine lv_iload_n hx hb dX12_lawful_42 rfl (lv_at hl 2 rfl) ?_
        obtain rfl := Option.some.inj hf
        exact kr _  rfl _ _ _ _ dX12_lawful_43 hw
      · have hf := (if_neg cn8).symm.trans hf
        refine lv_aload_n hx hb dX12_lawful_32 rfl (lv_at hl 0 rfl) ?_
        refine lv_iload_n hx hb dX12_lawful_33 rfl (lv_at hl 2 rfl) ?_
        obtain ⟨v5, hcall, hf⟩ := bd1_some hf
        refine m_cvi (As := [.int v2]) (rest := []) hc hw hR (hml.trans hl.1.symm) (cm_stepOf l N S3 v2 v5 hcall) mq_stepOf rfl (by decide) rfl rfl rfl (Nat.le_of_ble_eq_true rfl) dX12_lawful_34 (fun H locs hw => ?_) ⟨Nat.zero_le _, Nat.zero_le _⟩
        refine lv_iload_n hx hb dX12_lawful_37 rfl (lv_at hl 1 rfl) ?_
        refine lv_ineg hx hb dX12_lawful_38 ?_
        refine lv_icmp_ge (tgt := 44) hx hb dX12_lawful_39 (by decide) (fun cn9 => ?_) (fun cn9 => ?_)
        · have hf := (if_pos cn9).symm.trans hf
          refine lv_iinc (lv' := [(2, .int (v2 + 1)), (0, .ref (mr g 0)), (1, .int c1)]) hx hb dX12_lawful_44 hl (k := 2) rfl rfl (by decide) rfl (fun ls hl => ?_)
          refine lv_goto (tgt := 15) hx hb dX12_lawful_47 (by decide) ?_
          exact ih _ _ X _ _ _ hf hw (lv_sub hl [1, 2, 0] rfl) kx kr
        · have hf := (if_neg cn9).symm.trans hf
          refine lv_iload_n hx hb dX12_lawful_42 rfl (lv_at hl 2 rfl) ?_
          obtain rfl := Option.some.inj hf
          exact kr _  rfl _ _ _ _ dX12_lawful_43 hw
def mf_lawful (N : Nat) (S : mS) (a1 : Int32) : Option (Int32) := (if (mf_in a1 0 99) = true then (br0 (mf_lawful_L15 N a1 N S 0) (Option.some) fun _ => some (-1)) else some (-2))
set_option maxRecDepth 100000 in
theorem cm_lawful (l : Launch) (N : Nat) (S : mS) (a1 : Int32) (res : Int32) (hf : mf_lawful N S a1 = some res) : mMi l yX12_lawful cX12_lawful 3 .int 2 (fun g => [.ref (mr g 0), .int a1]) S res S := by
  refine mMi_of (own := RX12) (by decide) rfl rfl (fun g => Nat.le_of_ble_eq_true rfl) ?_
  intro p e R s m args below meth c Q g A H0 H locs ls hc hR hml hw hl hQ
  have hl : lv_has ls 3 [(0, .ref (mr g 0)), (1, .int a1)] := hl
  have hx := hc.1
  have hb := hc.2.1
  unfold mf_lawful at hf
  refine lv_iload_n hx hb dX12_lawful_0 rfl (lv_at hl 1 rfl) ?_
  refine lv_iconst (v := 0) hx hb dX12_lawful_1 (by decide) ?_
  refine lv_bipush (v := 99) hx hb dX12_lawful_2 (by decide) ?_
  refine m_csi (As := [.int a1, .int 0, .int 99]) (rest := []) hc hw hR (hml.trans hl.1.symm) (cm_in l S a1 0 99 _ rfl) mq_in (by decide) rfl rfl rfl (Nat.le_of_ble_eq_true rfl) dX12_lawful_4 (fun H locs hw => ?_) ⟨Nat.zero_le _, Nat.zero_le _⟩
  refine lv_if_neb (tgt := 13) hx hb dX12_lawful_7 (by decide) (fun cn6 => ?_) (fun cn6 => ?_)
  · have hf := (if_pos cn6).symm.trans hf
    refine lv_iconst (v := 0) hx hb dX12_lawful_13 (by decide) ?_
    refine lv_istore_n (lv' := [(2, .int 0), (0, .ref (mr g 0)), (1, .int a1)]) hx hb dX12_lawful_14 rfl hl (by decide) rfl (fun ls hl => ?_)
    rcases br0_some hf with ⟨q, hL, hf⟩ | ⟨hL, hf⟩
    · refine wm_lawful_L15 hc hR hml N a1 N _ _ _ _ _ _ hL hw (lv_sub hl [1, 2, 0] rfl) (fun _  h => nomatch h) ?_
      obtain rfl := Option.some.inj hf
      intro z0 h; cases h; exact hQ
    · refine wm_lawful_L15 hc hR hml N a1 N _ _ _ _ _ _ hL hw (lv_sub hl [1, 2, 0] rfl) (fun y0 hi => ?_) (fun _  h => nomatch h)
      cases hi
      intro H locs ls hw hl
      refine lv_iconst (v := (-1)) hx hb dX12_lawful_50 (by decide) ?_
      obtain rfl := Option.some.inj hf
      exact hQ _ _ _ _ dX12_lawful_51 hw
  · have hf := (if_neg cn6).symm.trans hf
    refine lv_bipush (v := (-2)) hx hb dX12_lawful_10 (by decide) ?_
    obtain rfl := Option.some.inj hf
    exact hQ _ _ _ _ dX12_lawful_12 hw
def mf_flat_L4 (N : Nat) : Nat → mS → Int32 → Int32 → Option (Int32)
  | 0, _, _, _ => none
  | n + 1, S3, v1, v2 => (if (S3.1 3 0) ≤ v2 then some v1 else (if ok v2 6 then (bd1 (if (S3.1 7 v2.toNatClampNeg) ≤ 0 then some 0 else (bd1 (mf_stepOf N S3 v2) fun v5 => (if v5 = 0 then some 0 else some 1))) fun v6 => mf_flat_L4 N n S3 (v1 + v6) (v2 + 1)) else none))
set_option maxRecDepth 100000 in
theorem wm_flat_L4 {p : Program} {l : Launch} {e : Env} {R : Room} {s : State} {m : MethodId} {args : Array Value} {below : List Frame} {meth : Method} {c : Code} {Q : State → Prop} {g : mG} {A : Nat → Prop} {H0 : Heap} (hc : qC RX12 cX12_flat p s m args c) (hR : qRoom R 2) (hml : c.maxLocals = 3) (N : Nat) : ∀ (n : Nat) (S3 : mS) (v1 : Int32) (v2 : Int32) (X : Int32) (H : Heap) (locs : List Loc) (ls : Array Slot), mf_flat_L4 N n S3 v1 v2 = some X → mI g A H0 s S3 H locs → lv_has ls 3 [(0, .ref (mr g 0)), (1, .int v1), (2, .int v2)] → (∀ (H : Heap) (locs : List Loc) (ls : Array Slot), mI g A H0 s S3 H locs → lv_has ls 3 [(1, .int X)] → W p l e R s m args below meth c H locs 0 0 Q (F0 m 43 ls [])) → W p l e R s m args below meth c H locs 0 0 Q (F0 m 4 ls []) := by
  have hx := hc.1
  have hb := hc.2.1
  intro n
  induction n with
  | zero => intro _ _ _ X H locs ls hf; exact nomatch (show none = some X from hf)
  | succ n ih =>
    intro S3 v1 v2 X H locs ls hf hw hl kx
    rw [mf_flat_L4] at hf
    refine lv_iload_n hx hb dX12_flat_4 rfl (lv_at hl 2 rfl) ?_
    refine lv_aload_n hx hb dX12_flat_5 rfl (lv_at hl 0 rfl) ?_
    refine m_g3 hc hw dX12_flat_6 ?_
    refine lv_icmp_ge (tgt := 43) hx hb dX12_flat_9 (by decide) (fun cn8 => ?_) (fun cn8 => ?_)
    · have hf := (if_pos cn8).symm.trans hf
      obtain rfl := Option.some.inj hf
      exact kx _ _ _ hw (lv_sub hl [1] rfl)
    · have hf := (if_neg cn8).symm.trans hf
      refine lv_iload_n hx hb dX12_flat_12 rfl (lv_at hl 1 rfl) ?_
      refine lv_aload_n hx hb dX12_flat_13 rfl (lv_at hl 0 rfl) ?_
      refine m_g7 hc hw dX12_flat_14 ?_
      refine lv_iload_n hx hb dX12_flat_17 rfl (lv_at hl 2 rfl) ?_
      obtain ⟨hi4, hf⟩ := gd_some hf
      refine m_l7 hc hw (ok_in hi4) dX12_flat_18 ?_
      obtain ⟨v6, hX9, hf⟩ := bd1_some hf
      have kJ10 : ∀ (H : Heap) (locs : List Loc) (ls : Array Slot), mI g A H0 s S3 H locs → lv_has ls 3 [(0, .ref (mr g 0)), (2, .int v2)] → W p l e R s m args below meth c H locs 0 0 Q (F0 m 35 ls [.int v6, .int v1]) := by
        intro H locs ls hw hl
        refine lv_iadd hx hb dX12_flat_35 ?_
        refine lv_istore_n (lv' := [(1, .int (v1 + v6)), (0, .ref (mr g 0)), (2, .int v2)]) hx hb dX12_flat_36 rfl hl (by decide) rfl (fun ls hl => ?_)
        refine lv_iinc (lv' := [(2, .int (v2 + 1)), (1, .int (v1 + v6)), (0, .ref (mr g 0))]) hx hb dX12_flat_37 hl (k := 2) rfl rfl (by decide) rfl (fun ls hl => ?_)
        refine lv_goto (tgt := 4) hx hb dX12_flat_40 (by decide) ?_
        exact ih _ _ _ X _ _ _ hf hw (lv_sub hl [2, 1, 0] rfl) kx
      refine lv_if_le (tgt := 34) hx hb dX12_flat_19 (by decide) (fun cn11 => ?_) (fun cn11 => ?_)
      · have hX9 := (if_pos cn11).symm.trans hX9
        refine lv_iconst (v := 0) hx hb dX12_flat_34 (by decide) ?_
        obtain rfl := Option.some.inj hX9
        exact kJ10 _ _ _ hw (lv_sub hl [0, 2] rfl)
      · have hX9 := (if_neg cn11).symm.trans hX9
        refine lv_aload_n hx hb dX12_flat_22 rfl (lv_at hl 0 rfl) ?_
        refine lv_iload_n hx hb dX12_flat_23 rfl (lv_at hl 2 rfl) ?_
        obtain ⟨v5, hcall, hX9⟩ := bd1_some hX9
        refine m_cvi (As := [.int v2]) (rest := [.int v1]) hc hw hR (hml.trans hl.1.symm) (cm_stepOf l N S3 v2 v5 hcall) mq_stepOf rfl (by decide) rfl rfl rfl (Nat.le_of_ble_eq_true rfl) dX12_flat_24 (fun H locs hw => ?_) ⟨Nat.zero_le _, Nat.zero_le _⟩
        refine lv_if_eq (tgt := 34) hx hb dX12_flat_27 (by decide) (fun cn12 => ?_) (fun cn12 => ?_)
        · have hX9 := (if_pos cn12).symm.trans hX9
          refine lv_iconst (v := 0) hx hb dX12_flat_34 (by decide) ?_
          obtain rfl := Option.some.inj hX9
          exact kJ10 _ _ _ hw (lv_sub hl [0, 2] rfl)
        · have hX9 := (if_neg cn12).symm.trans hX9
          refine lv_iconst (v := 1) hx hb dX12_flat_30 (by decide) ?_
          refine lv_goto (tgt := 35) hx hb dX12_flat_31 (by decide) ?_
          obtain rfl := Option.some.inj hX9
          exact kJ10 _ _ _ hw (lv_sub hl [0, 2] rfl)
def mf_flat (N : Nat) (S : mS) : Option (Int32) := (bd1 (mf_flat_L4 N N S 0 0) fun v7 => some v7)
set_option maxRecDepth 100000 in
theorem cm_flat (l : Launch) (N : Nat) (S : mS) (res : Int32) (hf : mf_flat N S = some res) : mMi l yX12_flat cX12_flat 3 .int 2 (fun g => [.ref (mr g 0)]) S res S := by
  refine mMi_of (own := RX12) (by decide) rfl rfl (fun g => Nat.le_of_ble_eq_true rfl) ?_
  intro p e R s m args below meth c Q g A H0 H locs ls hc hR hml hw hl hQ
  have hl : lv_has ls 3 [(0, .ref (mr g 0))] := hl
  have hx := hc.1
  have hb := hc.2.1
  unfold mf_flat at hf
  refine lv_iconst (v := 0) hx hb dX12_flat_0 (by decide) ?_
  refine lv_istore_n (lv' := [(1, .int 0), (0, .ref (mr g 0))]) hx hb dX12_flat_1 rfl hl (by decide) rfl (fun ls hl => ?_)
  refine lv_iconst (v := 0) hx hb dX12_flat_2 (by decide) ?_
  refine lv_istore_n (lv' := [(2, .int 0), (1, .int 0), (0, .ref (mr g 0))]) hx hb dX12_flat_3 rfl hl (by decide) rfl (fun ls hl => ?_)
  obtain ⟨v7, hL, hf⟩ := bd1_some hf
  refine wm_flat_L4 hc hR hml N N _ _ _ _ _ _ _ hL hw (lv_sub hl [2, 1, 0] rfl) (fun H locs ls hw hl => ?_)
  refine lv_iload_n hx hb dX12_flat_43 rfl (lv_at hl 0 rfl) ?_
  obtain rfl := Option.some.inj hf
  exact hQ _ _ _ _ dX12_flat_44 hw
def mf_thursday_L45 (N : Nat) (c2 : Int32) : Nat → mS → Int32 → Int32 → Option (Int32)
  | 0, _, _, _ => none
  | n + 1, S5, v3, v4 => (if (S5.1 3 0) ≤ v4 then some v3 else (if ok ((60 * c2) + v4) 240 then (if ok v4 6 then mf_thursday_L45 N c2 n S5 (v3 + ((if (S5.1 39 ((60 * c2) + v4).toNatClampNeg) = (S5.1 7 v4.toNatClampNeg) then 0 else 1) : Int32)) (v4 + 1) else none) else none))
set_option maxRecDepth 100000 in
theorem wm_thursday_L45 {p : Program} {l : Launch} {e : Env} {R : Room} {s : State} {m : MethodId} {args : Array Value} {below : List Frame} {meth : Method} {c : Code} {Q : State → Prop} {g : mG} {A : Nat → Prop} {H0 : Heap} (hc : qC RX12 cX12_thursday p s m args c) (hR : qRoom R 2) (hml : c.maxLocals = 4) (N : Nat) (c2 : Int32) : ∀ (n : Nat) (S5 : mS) (v3 : Int32) (v4 : Int32) (X : Int32) (H : Heap) (locs : List Loc) (ls : Array Slot), mf_thursday_L45 N c2 n S5 v3 v4 = some X → mI g A H0 s S5 H locs → lv_has ls 4 [(0, .ref (mr g 0)), (1, .int c2), (2, .int v3), (3, .int v4)] → (∀ (H : Heap) (locs : List Loc) (ls : Array Slot), mI g A H0 s S5 H locs → lv_has ls 4 [(2, .int X)] → W p l e R s m args below meth c H locs 0 0 Q (F0 m 87 ls [])) → W p l e R s m args below meth c H locs 0 0 Q (F0 m 45 ls []) := by
  have hx := hc.1
  have hb := hc.2.1
  intro n
  induction n with
  | zero => intro _ _ _ X H locs ls hf; exact nomatch (show none = some X from hf)
  | succ n ih =>
    intro S5 v3 v4 X H locs ls hf hw hl kx
    rw [mf_thursday_L45] at hf
    refine lv_iload_n hx hb dX12_thursday_45 rfl (lv_at hl 3 rfl) ?_
    refine lv_aload_n hx hb dX12_thursday_46 rfl (lv_at hl 0 rfl) ?_
    refine m_g3 hc hw dX12_thursday_47 ?_
    refine lv_icmp_ge (tgt := 87) hx hb dX12_thursday_50 (by decide) (fun cn13 => ?_) (fun cn13 => ?_)
    · have hf := (if_pos cn13).symm.trans hf
      obtain rfl := Option.some.inj hf
      exact kx _ _ _ hw (lv_sub hl [2] rfl)
    · have hf := (if_neg cn13).symm.trans hf
      refine lv_iload_n hx hb dX12_thursday_53 rfl (lv_at hl 2 rfl) ?_
      refine lv_aload_n hx hb dX12_thursday_54 rfl (lv_at hl 0 rfl) ?_
      refine m_g39 hc hw dX12_thursday_55 ?_
      refine lv_bipush (v := 60) hx hb dX12_thursday_58 (by decide) ?_
      refine lv_iload_n hx hb dX12_thursday_60 rfl (lv_at hl 1 rfl) ?_
      refine lv_imul hx hb dX12_thursday_61 ?_
      refine lv_iload_n hx hb dX12_thursday_62 rfl (lv_at hl 3 rfl) ?_
      refine lv_iadd hx hb dX12_thursday_63 ?_
      obtain ⟨hi6, hf⟩ := gd_some hf
      refine m_l39 hc hw (ok_in hi6) dX12_thursday_64 ?_
      refine lv_aload_n hx hb dX12_thursday_65 rfl (lv_at hl 0 rfl) ?_
      refine m_g7 hc hw dX12_thursday_66 ?_
      refine lv_iload_n hx hb dX12_thursday_69 rfl (lv_at hl 3 rfl) ?_
      obtain ⟨hi7, hf⟩ := gd_some hf
      refine m_l7 hc hw (ok_in hi7) dX12_thursday_70 ?_
      obtain ⟨v8, hv8⟩ : ∃ y : Int32, y = (if (S5.1 39 ((60 * c2) + v4).toNatClampNeg) = (S5.1 7 v4.toNatClampNeg) then 0 else 1) := ⟨_, rfl⟩
      try rw [← hv8] at hf
      have kJ14 : ∀ v8x : Int32, v8 = v8x → ∀ (H : Heap) (locs : List Loc) (ls : Array Slot), mI g A H0 s S5 H locs → lv_has ls 4 [(0, .ref (mr g 0)), (1, .int c2), (3, .int v4)] → W p l e R s m args below meth c H locs 0 0 Q (F0 m 79 ls [.int v8x, .int v3]) := by
        intro v8x hxv8 H locs ls hw hl
        subst hxv8
        refine lv_iadd hx hb dX12_thursday_79 ?_
        refine lv_istore_n (lv' := [(2, .int (v3 + v8)), (0, .ref (mr g 0)), (1, .int c2), (3, .int v4)]) hx hb dX12_thursday_80 rfl hl (by decide) rfl (fun ls hl => ?_)
        refine lv_iinc (lv' := [(3, .int (v4 + 1)), (2, .int (v3 + v8)), (0, .ref (mr g 0)), (1, .int c2)]) hx hb dX12_thursday_81 hl (k := 3) rfl rfl (by decide) rfl (fun ls hl => ?_)
        refine lv_goto (tgt := 45) hx hb dX12_thursday_84 (by decide) ?_
        exact ih _ _ _ X _ _ _ hf hw (lv_sub hl [2, 3, 1, 0] rfl) kx
      refine lv_icmp_ne (tgt := 78) hx hb dX12_thursday_71 (by decide) (fun cn15 => ?_) (fun cn15 => ?_)
      · refine lv_iconst (v := 1) hx hb dX12_thursday_78 (by decide) ?_
        have ev8 : v8 = (1 : Int32) := by rw [hv8]; simp only [if_neg cn15]
        exact kJ14 _ ev8 _ _ _ hw (lv_sub hl [0, 1, 3] rfl)
      · refine lv_iconst (v := 0) hx hb dX12_thursday_74 (by decide) ?_
        refine lv_goto (tgt := 79) hx hb dX12_thursday_75 (by decide) ?_
        have ev8 : v8 = (0 : Int32) := by rw [hv8]; simp only [if_pos cn15]
        exact kJ14 _ ev8 _ _ _ hw (lv_sub hl [0, 1, 3] rfl)
def mf_thursday (N : Nat) (S : mS) (a1 : Int32) : Option (Int32) := (if (mf_in a1 0 3) = true then (if ok a1 4 then (if (S.1 37 a1.toNatClampNeg) = (-1) then some (-11) else (if (S.1 38 a1.toNatClampNeg) = (S.1 3 0) then (bd1 (mf_thursday_L45 N a1 N S 0 0) fun v9 => some v9) else some (-2))) else none) else some (-2))
set_option maxRecDepth 100000 in
theorem cm_thursday (l : Launch) (N : Nat) (S : mS) (a1 : Int32) (res : Int32) (hf : mf_thursday N S a1 = some res) : mMi l yX12_thursday cX12_thursday 4 .int 2 (fun g => [.ref (mr g 0), .int a1]) S res S := by
  refine mMi_of (own := RX12) (by decide) rfl rfl (fun g => Nat.le_of_ble_eq_true rfl) ?_
  intro p e R s m args below meth c Q g A H0 H locs ls hc hR hml hw hl hQ
  have hl : lv_has ls 4 [(0, .ref (mr g 0)), (1, .int a1)] := hl
  have hx := hc.1
  have hb := hc.2.1
  unfold mf_thursday at hf
  refine lv_iload_n hx hb dX12_thursday_0 rfl (lv_at hl 1 rfl) ?_
  refine lv_iconst (v := 0) hx hb dX12_thursday_1 (by decide) ?_
  refine lv_iconst (v := 3) hx hb dX12_thursday_2 (by decide) ?_
  refine m_csi (As := [.int a1, .int 0, .int 3]) (rest := []) hc hw hR (hml.trans hl.1.symm) (cm_in l S a1 0 3 _ rfl) mq_in (by decide) rfl rfl rfl (Nat.le_of_ble_eq_true rfl) dX12_thursday_3 (fun H locs hw => ?_) ⟨Nat.zero_le _, Nat.zero_le _⟩
  refine lv_if_neb (tgt := 12) hx hb dX12_thursday_6 (by decide) (fun cn10 => ?_) (fun cn10 => ?_)
  · have hf := (if_pos cn10).symm.trans hf
    refine lv_aload_n hx hb dX12_thursday_12 rfl (lv_at hl 0 rfl) ?_
    refine m_g37 hc hw dX12_thursday_13 ?_
    refine lv_iload_n hx hb dX12_thursday_16 rfl (lv_at hl 1 rfl) ?_
    obtain ⟨hi1, hf⟩ := gd_some hf
    refine m_l37 hc hw (ok_in hi1) dX12_thursday_17 ?_
    refine lv_iconst (v := (-1)) hx hb dX12_thursday_18 (by decide) ?_
    refine lv_icmp_ne (tgt := 25) hx hb dX12_thursday_19 (by decide) (fun cn11 => ?_) (fun cn11 => ?_)
    · have hf := (if_neg cn11).symm.trans hf
      refine lv_aload_n hx hb dX12_thursday_25 rfl (lv_at hl 0 rfl) ?_
      refine m_g38 hc hw dX12_thursday_26 ?_
      refine lv_iload_n hx hb dX12_thursday_29 rfl (lv_at hl 1 rfl) ?_
      refine m_l38 hc hw (ok_in hi1) dX12_thursday_30 ?_
      refine lv_aload_n hx hb dX12_thursday_31 rfl (lv_at hl 0 rfl) ?_
      refine m_g3 hc hw dX12_thursday_32 ?_
      refine lv_icmp_eq (tgt := 41) hx hb dX12_thursday_35 (by decide) (fun cn12 => ?_) (fun cn12 => ?_)
      · have hf := (if_pos cn12).symm.trans hf
        refine lv_iconst (v := 0) hx hb dX12_thursday_41 (by decide) ?_
        refine lv_istore_n (lv' := [(2, .int 0), (0, .ref (mr g 0)), (1, .int a1)]) hx hb dX12_thursday_42 rfl hl (by decide) rfl (fun ls hl => ?_)
        refine lv_iconst (v := 0) hx hb dX12_thursday_43 (by decide) ?_
        refine lv_istore_n (lv' := [(3, .int 0), (2, .int 0), (0, .ref (mr g 0)), (1, .int a1)]) hx hb dX12_thursday_44 rfl hl (by decide) rfl (fun ls hl => ?_)
        obtain ⟨v9, hL, hf⟩ := bd1_some hf
        refine wm_thursday_L45 hc hR hml N a1 N _ _ _ _ _ _ _ hL hw (lv_sub hl [2, 3, 1, 0] rfl) (fun H locs ls hw hl => ?_)
        refine lv_iload_n hx hb dX12_thursday_87 rfl (lv_at hl 0 rfl) ?_
        obtain rfl := Option.some.inj hf
        exact hQ _ _ _ _ dX12_thursday_88 hw
      · have hf := (if_neg cn12).symm.trans hf
        refine lv_bipush (v := (-2)) hx hb dX12_thursday_38 (by decide) ?_
        obtain rfl := Option.some.inj hf
        exact hQ _ _ _ _ dX12_thursday_40 hw
    · have hf := (if_pos cn11).symm.trans hf
      refine lv_bipush (v := (-11)) hx hb dX12_thursday_22 (by decide) ?_
      obtain rfl := Option.some.inj hf
      exact hQ _ _ _ _ dX12_thursday_24 hw
  · have hf := (if_neg cn10).symm.trans hf
    refine lv_bipush (v := (-2)) hx hb dX12_thursday_9 (by decide) ?_
    obtain rfl := Option.some.inj hf
    exact hQ _ _ _ _ dX12_thursday_11 hw
def mf_sheet_L70 (N : Nat) (c3 : Int32) : Nat → mS → Int32 → Option (mS)
  | 0, _, _ => none
  | n + 1, S5, v4 => (if 60 ≤ v4 then some S5 else (if ok ((60 * c3) + v4) 240 then mf_sheet_L70 N c3 n (ms S5 39 ((60 * c3) + v4).toNatClampNeg 0) (v4 + 1) else none))
set_option maxRecDepth 100000 in
theorem wm_sheet_L70 {p : Program} {l : Launch} {e : Env} {R : Room} {s : State} {m : MethodId} {args : Array Value} {below : List Frame} {meth : Method} {c : Code} {Q : State → Prop} {g : mG} {A : Nat → Prop} {H0 : Heap} (hc : qC RX12 cX12_sheet p s m args c) (hR : qRoom R 2) (hml : c.maxLocals = 5) (N : Nat) (c3 : Int32) : ∀ (n : Nat) (S5 : mS) (v4 : Int32) (X : mS) (H : Heap) (locs : List Loc) (ls : Array Slot), mf_sheet_L70 N c3 n S5 v4 = some X → mI g A H0 s S5 H locs → lv_has ls 5 [(0, .ref (mr g 0)), (1, .int c3), (4, .int v4)] → (∀ (H : Heap) (locs : List Loc) (ls : Array Slot), mI g A H0 s X H locs → lv_has ls 5 [] → W p l e R s m args below meth c H locs 0 0 Q (F0 m 96 ls [])) → W p l e R s m args below meth c H locs 0 0 Q (F0 m 70 ls []) := by
  have hx := hc.1
  have hb := hc.2.1
  intro n
  induction n with
  | zero => intro _ _ X H locs ls hf; exact nomatch (show none = some X from hf)
  | succ n ih =>
    intro S5 v4 X H locs ls hf hw hl kx
    rw [mf_sheet_L70] at hf
    refine lv_iload hx hb dX12_sheet_70 (lv_at hl 2 rfl) ?_
    refine lv_bipush (v := 60) hx hb dX12_sheet_72 (by decide) ?_
    refine lv_icmp_ge (tgt := 96) hx hb dX12_sheet_74 (by decide) (fun cn10 => ?_) (fun cn10 => ?_)
    · have hf := (if_pos cn10).symm.trans hf
      obtain rfl := Option.some.inj hf
      exact kx _ _ _ hw (lv_sub hl [] rfl)
    · have hf := (if_neg cn10).symm.trans hf
      refine lv_aload_n hx hb dX12_sheet_77 rfl (lv_at hl 0 rfl) ?_
      refine m_g39 hc hw dX12_sheet_78 ?_
      refine lv_bipush (v := 60) hx hb dX12_sheet_81 (by decide) ?_
      refine lv_iload_n hx hb dX12_sheet_83 rfl (lv_at hl 1 rfl) ?_
      refine lv_imul hx hb dX12_sheet_84 ?_
      refine lv_iload hx hb dX12_sheet_85 (lv_at hl 2 rfl) ?_
      refine lv_iadd hx hb dX12_sheet_87 ?_
      refine lv_iconst (v := 0) hx hb dX12_sheet_88 (by decide) ?_
      obtain ⟨hi6, hf⟩ := gd_some hf
      refine m_s39 hc hw (ok_in hi6) dX12_sheet_89 (fun H locs hw => ?_)
      refine lv_iinc (lv' := [(4, .int (v4 + 1)), (0, .ref (mr g 0)), (1, .int c3)]) hx hb dX12_sheet_90 hl (k := 2) rfl rfl (by decide) rfl (fun ls hl => ?_)
      refine lv_goto (tgt := 70) hx hb dX12_sheet_93 (by decide) ?_
      exact ih _ _ X _ _ _ hf hw (lv_sub hl [1, 2, 0] rfl) kx
def mf_sheet (N : Nat) (S : mS) (a1 : Int32) (a2 : Int32) (a3 : Int32) : Option (Int32 × mS) := (if (mf_in a1 0 3) = true then (if (mf_in a2 (-1) 2) = true then (bm0 (if a2 = (-1) then some (.inr ()) else (if a3 ≤ 60 then some (.inr ()) else some (.inl (some ((-2), S))))) fun _ => (bm0 (if a2 = (-1) then some (.inr ()) else (if 0 ≤ a3 then some (.inr ()) else some (.inl (some ((-14), S))))) fun _ => (if ok a1 4 then (bd1 (mf_sheet_L70 N a1 N (ms (ms S 37 a1.toNatClampNeg a2) 38 a1.toNatClampNeg ((if a2 = (-1) then 0 else a3) : Int32)) 0) fun S7 => some (1, S7)) else none))) else some ((-2), S)) else some ((-2), S))
set_option maxRecDepth 100000 in
theorem cm_sheet (l : Launch) (N : Nat) (S : mS) (a1 : Int32) (a2 : Int32) (a3 : Int32) (res : Int32) (S1 : mS) (hf : mf_sheet N S a1 a2 a3 = some (res, S1)) : mMi l yX12_sheet cX12_sheet 5 .int 2 (fun g => [.ref (mr g 0), .int a1, .int a2, .int a3]) S res S1 := by
  refine mMi_of (own := RX12) (by decide) rfl rfl (fun g => Nat.le_of_ble_eq_true rfl) ?_
  intro p e R s m args below meth c Q g A H0 H locs ls hc hR hml hw hl hQ
  have hl : lv_has ls 5 [(0, .ref (mr g 0)), (1, .int a1), (2, .int a2), (3, .int a3)] := hl
  have hx := hc.1
  have hb := hc.2.1
  unfold mf_sheet at hf
  refine lv_iload_n hx hb dX12_sheet_0 rfl (lv_at hl 1 rfl) ?_
  refine lv_iconst (v := 0) hx hb dX12_sheet_1 (by decide) ?_
  refine lv_iconst (v := 3) hx hb dX12_sheet_2 (by decide) ?_
  refine m_csi (As := [.int a1, .int 0, .int 3]) (rest := []) hc hw hR (hml.trans hl.1.symm) (cm_in l S a1 0 3 _ rfl) mq_in (by decide) rfl rfl rfl (Nat.le_of_ble_eq_true rfl) dX12_sheet_3 (fun H locs hw => ?_) ⟨Nat.zero_le _, Nat.zero_le _⟩
  refine lv_if_eqb (tgt := 29) hx hb dX12_sheet_6 (by decide) (fun cn8 => ?_) (fun cn8 => ?_)
  · have hf := (if_neg cn8).symm.trans hf
    refine lv_bipush (v := (-2)) hx hb dX12_sheet_29 (by decide) ?_
    obtain ⟨rfl, rfl⟩ := pr2_some hf
    exact hQ _ _ _ _ dX12_sheet_31 hw
  · have hf := (if_pos cn8).symm.trans hf
    refine lv_iload_n hx hb dX12_sheet_9 rfl (lv_at hl 2 rfl) ?_
    refine lv_iconst (v := (-1)) hx hb dX12_sheet_10 (by decide) ?_
    refine lv_iconst (v := 2) hx hb dX12_sheet_11 (by decide) ?_
    refine m_csi (As := [.int a2, .int (-1), .int 2]) (rest := []) hc hw hR (hml.trans hl.1.symm) (cm_in l S a2 (-1) 2 _ rfl) mq_in (by decide) rfl rfl rfl (Nat.le_of_ble_eq_true rfl) dX12_sheet_12 (fun H locs hw => ?_) ⟨Nat.zero_le _, Nat.zero_le _⟩
    refine lv_if_eqb (tgt := 29) hx hb dX12_sheet_15 (by decide) (fun cn9 => ?_) (fun cn9 => ?_)
    · have hf := (if_neg cn9).symm.trans hf
      refine lv_bipush (v := (-2)) hx hb dX12_sheet_29 (by decide) ?_
      obtain ⟨rfl, rfl⟩ := pr2_some hf
      exact hQ _ _ _ _ dX12_sheet_31 hw
    · have hf := (if_pos cn9).symm.trans hf
      refine lv_iload_n hx hb dX12_sheet_18 rfl (lv_at hl 2 rfl) ?_
      refine lv_iconst (v := (-1)) hx hb dX12_sheet_19 (by decide) ?_
      obtain ⟨Y, hX18, hf⟩ := bm0_some hf
      have kJ19 : Y = .inr () → ∀ (H : Heap) (locs : List Loc) (ls : Array Slot), mI g A H0 s S H locs → lv_has ls 5 [(0, .ref (mr g 0)), (1, .int a1), (2, .int a2), (3, .int a3)] → W p l e R s m args below meth c H locs 0 0 Q (F0 m 32 ls []) := by
        intro  hY H locs ls hw hl
        subst hY
        have hf := bc0_r hf
        refine lv_iload_n hx hb dX12_sheet_32 rfl (lv_at hl 2 rfl) ?_
        refine lv_iconst (v := (-1)) hx hb dX12_sheet_33 (by decide) ?_
        obtain ⟨Y, hX14, hf⟩ := bm0_some hf
        have kJ15 : Y = .inr () → ∀ (H : Heap) (locs : List Loc) (ls : Array Slot), mI g A H0 s S H locs → lv_has ls 5 [(0, .ref (mr g 0)), (1, .int a1), (2, .int a2), (3, .int a3)] → W p l e R s m args below meth c H locs 0 0 Q (F0 m 44 ls []) := by
          intro  hY H locs ls hw hl
          subst hY
          have hf := bc0_r hf
          refine lv_aload_n hx hb dX12_sheet_44 rfl (lv_at hl 0 rfl) ?_
          refine m_g37 hc hw dX12_sheet_45 ?_
          refine lv_iload_n hx hb dX12_sheet_48 rfl (lv_at hl 1 rfl) ?_
          refine lv_iload_n hx hb dX12_sheet_49 rfl (lv_at hl 2 rfl) ?_
          obtain ⟨hi1, hf⟩ := gd_some hf
          refine m_s37 hc hw (ok_in hi1) dX12_sheet_50 (fun H locs hw => ?_)
          refine lv_aload_n hx hb dX12_sheet_51 rfl (lv_at hl 0 rfl) ?_
          refine m_g38 hc hw dX12_sheet_52 ?_
          refine lv_iload_n hx hb dX12_sheet_55 rfl (lv_at hl 1 rfl) ?_
          refine lv_iload_n hx hb dX12_sheet_56 rfl (lv_at hl 2 rfl) ?_
          refine lv_iconst (v := (-1)) hx hb dX12_sheet_57 (by decide) ?_
          obtain ⟨v2, hv2⟩ : ∃ y : Int32, y = (if a2 = (-1) then 0 else a3) := ⟨_, rfl⟩
          try rw [← hv2] at hf
          have kJ12 : ∀ v2x : Int32, v2 = v2x → ∀ (H : Heap) (locs : List Loc) (ls : Array Slot), mI g A H0 s (ms S 37 a1.toNatClampNeg a2) H locs → lv_has ls 5 [(0, .ref (mr g 0)), (1, .int a1)] → W p l e R s m args below meth c H locs 0 0 Q (F0 m 66 ls [.int v2x, .int a1, .ref (mr g 39)]) := by
            intro v2x hxv2 H locs ls hw hl
            subst hxv2
            refine m_s38 hc hw (ok_in hi1) dX12_sheet_66 (fun H locs hw => ?_)
            refine lv_iconst (v := 0) hx hb dX12_sheet_67 (by decide) ?_
            refine lv_istore (lv' := [(4, .int 0), (0, .ref (mr g 0)), (1, .int a1)]) hx hb dX12_sheet_68 hl (by decide) rfl (fun ls hl => ?_)
            obtain ⟨S7, hL, hf⟩ := bd1_some hf
            refine wm_sheet_L70 hc hR hml N a1 N _ _ _ _ _ _ hL hw (lv_sub hl [1, 2, 0] rfl) (fun H locs ls hw hl => ?_)
            refine lv_iconst (v := 1) hx hb dX12_sheet_96 (by decide) ?_
            obtain ⟨rfl, rfl⟩ := pr2_some hf
            exact hQ _ _ _ _ dX12_sheet_97 hw
          refine lv_icmp_ne (tgt := 65) hx hb dX12_sheet_58 (by decide) (fun cn13 => ?_) (fun cn13 => ?_)
          · refine lv_iload_n hx hb dX12_sheet_65 rfl (lv_at hl 3 rfl) ?_
            have ev2 : v2 = a3 := by rw [hv2]; simp only [if_neg cn13]
            exact kJ12 _ ev2 _ _ _ hw (lv_sub hl [0, 1] rfl)
          · refine lv_iconst (v := 0) hx hb dX12_sheet_61 (by decide) ?_
            refine lv_goto (tgt := 66) hx hb dX12_sheet_62 (by decide) ?_
            have ev2 : v2 = (0 : Int32) := by rw [hv2]; simp only [if_pos cn13]
            exact kJ12 _ ev2 _ _ _ hw (lv_sub hl [0, 1] rfl)
        refine lv_icmp_eq (tgt := 44) hx hb dX12_sheet_34 (by decide) (fun cn16 => ?_) (fun cn16 => ?_)
        · have hX14 := (if_pos cn16).symm.trans hX14
          exact kJ15 (Option.some.inj hX14).symm _ _ _ hw (lv_sub hl [0, 1, 2, 3] rfl)
        · have hX14 := (if_neg cn16).symm.trans hX14
          refine lv_iload_n hx hb dX12_sheet_37 rfl (lv_at hl 3 rfl) ?_
          refine lv_if_ge (tgt := 44) hx hb dX12_sheet_38 (by decide) (fun cn17 => ?_) (fun cn17 => ?_)
          · have hX14 := (if_pos cn17).symm.trans hX14
            exact kJ15 (Option.some.inj hX14).symm _ _ _ hw (lv_sub hl [0, 1, 2, 3] rfl)
          · have hX14 := (if_neg cn17).symm.trans hX14
            refine lv_bipush (v := (-14)) hx hb dX12_sheet_41 (by decide) ?_
            obtain rfl := Option.some.inj hX14
            have hf := bc0_l hf
            obtain ⟨rfl, rfl⟩ := pr2_some hf
            exact hQ _ _ _ _ dX12_sheet_43 hw
      refine lv_icmp_eq (tgt := 32) hx hb dX12_sheet_20 (by decide) (fun cn20 => ?_) (fun cn20 => ?_)
      · have hX18 := (if_pos cn20).symm.trans hX18
        exact kJ19 (Option.some.inj hX18).symm _ _ _ hw (lv_sub hl [0, 1, 2, 3] rfl)
      · have hX18 := (if_neg cn20).symm.trans hX18
        refine lv_iload_n hx hb dX12_sheet_23 rfl (lv_at hl 3 rfl) ?_
        refine lv_bipush (v := 60) hx hb dX12_sheet_24 (by decide) ?_
        refine lv_icmp_le (tgt := 32) hx hb dX12_sheet_26 (by decide) (fun cn21 => ?_) (fun cn21 => ?_)
        · have hX18 := (if_pos cn21).symm.trans hX18
          exact kJ19 (Option.some.inj hX18).symm _ _ _ hw (lv_sub hl [0, 1, 2, 3] rfl)
        · have hX18 := (if_neg cn21).symm.trans hX18
          refine lv_bipush (v := (-2)) hx hb dX12_sheet_29 (by decide) ?_
          obtain rfl := Option.some.inj hX18
          have hf := bc0_l hf
          obtain ⟨rfl, rfl⟩ := pr2_some hf
          exact hQ _ _ _ _ dX12_sheet_31 hw
def mf_cell (N : Nat) (S : mS) (a1 : Int32) (a2 : Int32) (a3 : Int32) : Option (Int32 × mS) := (if (mf_in a1 0 3) = true then (if ok a1 4 then (if (S.1 37 a1.toNatClampNeg) = (-1) then some ((-11), S) else (if (mf_in a2 0 ((S.1 38 a1.toNatClampNeg) - 1)) = true then (if (S.1 37 a1.toNatClampNeg) = 0 then (if ok ((60 * a1) + a2) 240 then some (1, ms S 39 ((60 * a1) + a2).toNatClampNeg a3.toInt8.toInt32) else none) else (if (S.1 37 a1.toNatClampNeg) = 1 then (if ok ((60 * a1) + a2) 240 then some (1, ms S 39 ((60 * a1) + a2).toNatClampNeg a3.toInt16.toInt32) else none) else (if ok ((60 * a1) + a2) 240 then some (1, ms S 39 ((60 * a1) + a2).toNatClampNeg a3) else none))) else some ((-12), S))) else none) else some ((-2), S))
set_option maxRecDepth 100000 in
theorem cm_cell (l : Launch) (N : Nat) (S : mS) (a1 : Int32) (a2 : Int32) (a3 : Int32) (res : Int32) (S1 : mS) (hf : mf_cell N S a1 a2 a3 = some (res, S1)) : mMi l yX12_cell cX12_cell 4 .int 2 (fun g => [.ref (mr g 0), .int a1, .int a2, .int a3]) S res S1 := by
  refine mMi_of (own := RX12) (by decide) rfl rfl (fun g => Nat.le_of_ble_eq_true rfl) ?_
  intro p e R s m args below meth c Q g A H0 H locs ls hc hR hml hw hl hQ
  have hl : lv_has ls 4 [(0, .ref (mr g 0)), (1, .int a1), (2, .int a2), (3, .int a3)] := hl
  have hx := hc.1
  have hb := hc.2.1
  unfold mf_cell at hf
  refine lv_iload_n hx hb dX12_cell_0 rfl (lv_at hl 1 rfl) ?_
  refine lv_iconst (v := 0) hx hb dX12_cell_1 (by decide) ?_
  refine lv_iconst (v := 3) hx hb dX12_cell_2 (by decide) ?_
  refine m_csi (As := [.int a1, .int 0, .int 3]) (rest := []) hc hw hR (hml.trans hl.1.symm) (cm_in l S a1 0 3 _ rfl) mq_in (by decide) rfl rfl rfl (Nat.le_of_ble_eq_true rfl) dX12_cell_3 (fun H locs hw => ?_) ⟨Nat.zero_le _, Nat.zero_le _⟩
  refine lv_if_neb (tgt := 12) hx hb dX12_cell_6 (by decide) (fun cn5 => ?_) (fun cn5 => ?_)
  · have hf := (if_pos cn5).symm.trans hf
    refine lv_aload_n hx hb dX12_cell_12 rfl (lv_at hl 0 rfl) ?_
    refine m_g37 hc hw dX12_cell_13 ?_
    refine lv_iload_n hx hb dX12_cell_16 rfl (lv_at hl 1 rfl) ?_
    obtain ⟨hi1, hf⟩ := gd_some hf
    refine m_l37 hc hw (ok_in hi1) dX12_cell_17 ?_
    refine lv_iconst (v := (-1)) hx hb dX12_cell_18 (by decide) ?_
    refine lv_icmp_ne (tgt := 25) hx hb dX12_cell_19 (by decide) (fun cn6 => ?_) (fun cn6 => ?_)
    · have hf := (if_neg cn6).symm.trans hf
      refine lv_iload_n hx hb dX12_cell_25 rfl (lv_at hl 2 rfl) ?_
      refine lv_iconst (v := 0) hx hb dX12_cell_26 (by decide) ?_
      refine lv_aload_n hx hb dX12_cell_27 rfl (lv_at hl 0 rfl) ?_
      refine m_g38 hc hw dX12_cell_28 ?_
      refine lv_iload_n hx hb dX12_cell_31 rfl (lv_at hl 1 rfl) ?_
      refine m_l38 hc hw (ok_in hi1) dX12_cell_32 ?_
      refine lv_iconst (v := 1) hx hb dX12_cell_33 (by decide) ?_
      refine lv_isub hx hb dX12_cell_34 ?_
      refine m_csi (As := [.int a2, .int 0, .int ((S.1 38 a1.toNatClampNeg) - 1)]) (rest := []) hc hw hR (hml.trans hl.1.symm) (cm_in l S a2 0 ((S.1 38 a1.toNatClampNeg) - 1) _ rfl) mq_in (by decide) rfl rfl rfl (Nat.le_of_ble_eq_true rfl) dX12_cell_35 (fun H locs hw => ?_) ⟨Nat.zero_le _, Nat.zero_le _⟩
      refine lv_if_neb (tgt := 44) hx hb dX12_cell_38 (by decide) (fun cn7 => ?_) (fun cn7 => ?_)
      · have hf := (if_pos cn7).symm.trans hf
        refine lv_aload_n hx hb dX12_cell_44 rfl (lv_at hl 0 rfl) ?_
        refine m_g39 hc hw dX12_cell_45 ?_
        refine lv_bipush (v := 60) hx hb dX12_cell_48 (by decide) ?_
        refine lv_iload_n hx hb dX12_cell_50 rfl (lv_at hl 1 rfl) ?_
        refine lv_imul hx hb dX12_cell_51 ?_
        refine lv_iload_n hx hb dX12_cell_52 rfl (lv_at hl 2 rfl) ?_
        refine lv_iadd hx hb dX12_cell_53 ?_
        refine lv_aload_n hx hb dX12_cell_54 rfl (lv_at hl 0 rfl) ?_
        refine m_g37 hc hw dX12_cell_55 ?_
        refine lv_iload_n hx hb dX12_cell_58 rfl (lv_at hl 1 rfl) ?_
        refine m_l37 hc hw (ok_in hi1) dX12_cell_59 ?_
        refine lv_if_ne (tgt := 68) hx hb dX12_cell_60 (by decide) (fun cn8 => ?_) (fun cn8 => ?_)
        · have hf := (if_neg cn8).symm.trans hf
          refine lv_aload_n hx hb dX12_cell_68 rfl (lv_at hl 0 rfl) ?_
          refine m_g37 hc hw dX12_cell_69 ?_
          refine lv_iload_n hx hb dX12_cell_72 rfl (lv_at hl 1 rfl) ?_
          refine m_l37 hc hw (ok_in hi1) dX12_cell_73 ?_
          refine lv_iconst (v := 1) hx hb dX12_cell_74 (by decide) ?_
          refine lv_icmp_ne (tgt := 83) hx hb dX12_cell_75 (by decide) (fun cn9 => ?_) (fun cn9 => ?_)
          · have hf := (if_neg cn9).symm.trans hf
            refine lv_iload_n hx hb dX12_cell_83 rfl (lv_at hl 3 rfl) ?_
            obtain ⟨hi2, hf⟩ := gd_some hf
            refine m_s39 hc hw (ok_in hi2) dX12_cell_84 (fun H locs hw => ?_)
            refine lv_iconst (v := 1) hx hb dX12_cell_85 (by decide) ?_
            obtain ⟨rfl, rfl⟩ := pr2_some hf
            exact hQ _ _ _ _ dX12_cell_86 hw
          · have hf := (if_pos cn9).symm.trans hf
            refine lv_iload_n hx hb dX12_cell_78 rfl (lv_at hl 3 rfl) ?_
            refine lv_i2s hx hb dX12_cell_79 rfl ?_
            refine lv_goto (tgt := 84) hx hb dX12_cell_80 (by decide) ?_
            obtain ⟨hi3, hf⟩ := gd_some hf
            refine m_s39 hc hw (ok_in hi3) dX12_cell_84 (fun H locs hw => ?_)
            refine lv_iconst (v := 1) hx hb dX12_cell_85 (by decide) ?_
            obtain ⟨rfl, rfl⟩ := pr2_some hf
            exact hQ _ _ _ _ dX12_cell_86 hw
        · have hf := (if_pos cn8).symm.trans hf
          refine lv_iload_n hx hb dX12_cell_63 rfl (lv_at hl 3 rfl) ?_
          refine lv_i2b hx hb dX12_cell_64 rfl ?_
          refine lv_goto (tgt := 84) hx hb dX12_cell_65 (by decide) ?_
          obtain ⟨hi4, hf⟩ := gd_some hf
          refine m_s39 hc hw (ok_in hi4) dX12_cell_84 (fun H locs hw => ?_)
          refine lv_iconst (v := 1) hx hb dX12_cell_85 (by decide) ?_
          obtain ⟨rfl, rfl⟩ := pr2_some hf
          exact hQ _ _ _ _ dX12_cell_86 hw
      · have hf := (if_neg cn7).symm.trans hf
        refine lv_bipush (v := (-12)) hx hb dX12_cell_41 (by decide) ?_
        obtain ⟨rfl, rfl⟩ := pr2_some hf
        exact hQ _ _ _ _ dX12_cell_43 hw
    · have hf := (if_pos cn6).symm.trans hf
      refine lv_bipush (v := (-11)) hx hb dX12_cell_22 (by decide) ?_
      obtain ⟨rfl, rfl⟩ := pr2_some hf
      exact hQ _ _ _ _ dX12_cell_24 hw
  · have hf := (if_neg cn5).symm.trans hf
    refine lv_bipush (v := (-2)) hx hb dX12_cell_9 (by decide) ?_
    obtain ⟨rfl, rfl⟩ := pr2_some hf
    exact hQ _ _ _ _ dX12_cell_11 hw
def mf_copy_L147 (N : Nat) (c3 : Int32) (c4 : Int32) (c5 : Int32) : Nat → mS → Int32 → Option (mS)
  | 0, _, _ => none
  | n + 1, S7, v6 => (if c3 ≤ v6 then some S7 else (if ok (c4 + ((if c5 ≤ c4 then v6 else (c3 - 1) - v6) : Int32)) 240 then (if ok (c5 + ((if c5 ≤ c4 then v6 else (c3 - 1) - v6) : Int32)) 240 then mf_copy_L147 N c3 c4 c5 n (ms S7 39 (c5 + ((if c5 ≤ c4 then v6 else (c3 - 1) - v6) : Int32)).toNatClampNeg (S7.1 39 (c4 + ((if c5 ≤ c4 then v6 else (c3 - 1) - v6) : Int32)).toNatClampNeg)) (v6 + 1) else none) else none))
set_option maxRecDepth 100000 in
theorem wm_copy_L147 {p : Program} {l : Launch} {e : Env} {R : Room} {s : State} {m : MethodId} {args : Array Value} {below : List Frame} {meth : Method} {c : Code} {Q : State → Prop} {g : mG} {A : Nat → Prop} {H0 : Heap} (hc : qC RX12 cX12_copy p s m args c) (hR : qRoom R 2) (hml : c.maxLocals = 10) (N : Nat) (c3 : Int32) (c4 : Int32) (c5 : Int32) : ∀ (n : Nat) (S7 : mS) (v6 : Int32) (X : mS) (H : Heap) (locs : List Loc) (ls : Array Slot), mf_copy_L147 N c3 c4 c5 n S7 v6 = some X → mI g A H0 s S7 H locs → lv_has ls 10 [(0, .ref (mr g 0)), (5, .int c3), (6, .int c4), (7, .int c5), (8, .int v6)] → (∀ (H : Heap) (locs : List Loc) (ls : Array Slot), mI g A H0 s X H locs → lv_has ls 10 [(5, .int c3)] → W p l e R s m args below meth c H locs 0 0 Q (F0 m 201 ls [])) → W p l e R s m args below meth c H locs 0 0 Q (F0 m 147 ls []) := by
  have hx := hc.1
  have hb := hc.2.1
  intro n
  induction n with
  | zero => intro _ _ X H locs ls hf; exact nomatch (show none = some X from hf)
  | succ n ih =>
    intro S7 v6 X H locs ls hf hw hl kx
    rw [mf_copy_L147] at hf
    refine lv_iload hx hb dX12_copy_147 (lv_at hl 4 rfl) ?_
    refine lv_iload hx hb dX12_copy_149 (lv_at hl 1 rfl) ?_
    refine lv_icmp_ge (tgt := 201) hx hb dX12_copy_151 (by decide) (fun cn24 => ?_) (fun cn24 => ?_)
    · have hf := (if_pos cn24).symm.trans hf
      obtain rfl := Option.some.inj hf
      exact kx _ _ _ hw (lv_sub hl [1] rfl)
    · have hf := (if_neg cn24).symm.trans hf
      refine lv_iload hx hb dX12_copy_154 (lv_at hl 2 rfl) ?_
      refine lv_iload hx hb dX12_copy_156 (lv_at hl 3 rfl) ?_
      obtain ⟨v8, hv8⟩ : ∃ y : Int32, y = (if c5 ≤ c4 then v6 else (c3 - 1) - v6) := ⟨_, rfl⟩
      try rw [← hv8] at hf
      have kJ25 : ∀ v8x : Int32, v8 = v8x → ∀ (H : Heap) (locs : List Loc) (ls : Array Slot), mI g A H0 s S7 H locs → lv_has ls 10 [(0, .ref (mr g 0)), (5, .int c3), (6, .int c4), (7, .int c5), (8, .int v6)] → W p l e R s m args below meth c H locs 0 0 Q (F0 m 173 ls [.int v8x]) := by
        intro v8x hxv8 H locs ls hw hl
        subst hxv8
        refine lv_istore (lv' := [(9, .int v8), (0, .ref (mr g 0)), (5, .int c3), (6, .int c4), (7, .int c5), (8, .int v6)]) hx hb dX12_copy_173 hl (by decide) rfl (fun ls hl => ?_)
        refine lv_aload_n hx hb dX12_copy_175 rfl (lv_at hl 1 rfl) ?_
        refine m_g39 hc hw dX12_copy_176 ?_
        refine lv_iload hx hb dX12_copy_179 (lv_at hl 4 rfl) ?_
        refine lv_iload hx hb dX12_copy_181 (lv_at hl 0 rfl) ?_
        refine lv_iadd hx hb dX12_copy_183 ?_
        refine lv_aload_n hx hb dX12_copy_184 rfl (lv_at hl 1 rfl) ?_
        refine m_g39 hc hw dX12_copy_185 ?_
        refine lv_iload hx hb dX12_copy_188 (lv_at hl 3 rfl) ?_
        refine lv_iload hx hb dX12_copy_190 (lv_at hl 0 rfl) ?_
        refine lv_iadd hx hb dX12_copy_192 ?_
        obtain ⟨hi9, hf⟩ := gd_some hf
        refine m_l39 hc hw (ok_in hi9) dX12_copy_193 ?_
        obtain ⟨hi10, hf⟩ := gd_some hf
        refine m_s39 hc hw (ok_in hi10) dX12_copy_194 (fun H locs hw => ?_)
        refine lv_iinc (lv' := [(8, .int (v6 + 1)), (9, .int v8), (0, .ref (mr g 0)), (5, .int c3), (6, .int c4), (7, .int c5)]) hx hb dX12_copy_195 hl (k := 5) rfl rfl (by decide) rfl (fun ls hl => ?_)
        refine lv_goto (tgt := 147) hx hb dX12_copy_198 (by decide) ?_
        exact ih _ _ X _ _ _ hf hw (lv_sub hl [2, 3, 4, 5, 0] rfl) kx
      refine lv_icmp_ge (tgt := 171) hx hb dX12_copy_158 (by decide) (fun cn26 => ?_) (fun cn26 => ?_)
      · refine lv_iload hx hb dX12_copy_171 (lv_at hl 4 rfl) ?_
        have ev8 : v8 = v6 := by rw [hv8]; simp only [if_pos cn26]
        exact kJ25 _ ev8 _ _ _ hw (lv_sub hl [0, 1, 2, 3, 4] rfl)
      · refine lv_iload hx hb dX12_copy_161 (lv_at hl 1 rfl) ?_
        refine lv_iconst (v := 1) hx hb dX12_copy_163 (by decide) ?_
        refine lv_isub hx hb dX12_copy_164 ?_
        refine lv_iload hx hb dX12_copy_165 (lv_at hl 4 rfl) ?_
        refine lv_isub hx hb dX12_copy_167 ?_
        refine lv_goto (tgt := 173) hx hb dX12_copy_168 (by decide) ?_
        have ev8 : v8 = ((c3 - 1) - v6) := by rw [hv8]; simp only [if_neg cn26]
        exact kJ25 _ ev8 _ _ _ hw (lv_sub hl [0, 1, 2, 3, 4] rfl)
def mf_copy (N : Nat) (S : mS) (a1 : Int32) (a2 : Int32) (a3 : Int32) (a4 : Int32) (a5 : Int32) : Option (Int32 × mS) := (if (mf_in a1 0 3) = true then (if (mf_in a3 0 3) = true then (if ok a1 4 then (if (S.1 37 a1.toNatClampNeg) = (-1) then some ((-11), S) else (if ok a3 4 then (if (S.1 37 a3.toNatClampNeg) = (-1) then some ((-11), S) else (if (S.1 37 a1.toNatClampNeg) = (S.1 37 a3.toNatClampNeg) then (if a5 < 0 then some ((-12), S) else (if a2 < 0 then some ((-12), S) else (if a4 < 0 then some ((-12), S) else (if (S.1 38 a1.toNatClampNeg) < a2 then some ((-12), S) else (if (S.1 38 a3.toNatClampNeg) < a4 then some ((-12), S) else (if ((S.1 38 a1.toNatClampNeg) - a2) < a5 then some ((-12), S) else (if a5 ≤ ((S.1 38 a3.toNatClampNeg) - a4) then (bd1 (mf_copy_L147 N a5 ((60 * a1) + a2) ((60 * a3) + a4) N S 0) fun S11 => some (a5, S11)) else some ((-12), S)))))))) else some ((-13), S))) else none)) else none) else some ((-2), S)) else some ((-2), S))
set_option maxRecDepth 100000 in
theorem cm_copy (l : Launch) (N : Nat) (S : mS) (a1 : Int32) (a2 : Int32) (a3 : Int32) (a4 : Int32) (a5 : Int32) (res : Int32) (S1 : mS) (hf : mf_copy N S a1 a2 a3 a4 a5 = some (res, S1)) : mMi l yX12_copy cX12_copy 10 .int 2 (fun g => [.ref (mr g 0), .int a1, .int a2, .int a3, .int a4, .int a5]) S res S1 := by
  refine mMi_of (own := RX12) (by decide) rfl rfl (fun g => Nat.le_of_ble_eq_true rfl) ?_
  intro p e R s m args below meth c Q g A H0 H locs ls hc hR hml hw hl hQ
  have hl : lv_has ls 10 [(0, .ref (mr g 0)), (1, .int a1), (2, .int a2), (3, .int a3), (4, .int a4), (5, .int a5)] := hl
  have hx := hc.1
  have hb := hc.2.1
  unfold mf_copy at hf
  refine lv_iload_n hx hb dX12_copy_0 rfl (lv_at hl 1 rfl) ?_
  refine lv_iconst (v := 0) hx hb dX12_copy_1 (by decide) ?_
  refine lv_iconst (v := 3) hx hb dX12_copy_2 (by decide) ?_
  refine m_csi (As := [.int a1, .int 0, .int 3]) (rest := []) hc hw hR (hml.trans hl.1.symm) (cm_in l S a1 0 3 _ rfl) mq_in (by decide) rfl rfl rfl (Nat.le_of_ble_eq_true rfl) dX12_copy_3 (fun H locs hw => ?_) ⟨Nat.zero_le _, Nat.zero_le _⟩
  refine lv_if_eqb (tgt := 18) hx hb dX12_copy_6 (by decide) (fun cn12 => ?_) (fun cn12 => ?_)
  · have hf := (if_neg cn12).symm.trans hf
    refine lv_bipush (v := (-2)) hx hb dX12_copy_18 (by decide) ?_
    obtain ⟨rfl, rfl⟩ := pr2_some hf
    exact hQ _ _ _ _ dX12_copy_20 hw
  · have hf := (if_pos cn12).symm.trans hf
    refine lv_iload_n hx hb dX12_copy_9 rfl (lv_at hl 3 rfl) ?_
    refine lv_iconst (v := 0) hx hb dX12_copy_10 (by decide) ?_
    refine lv_iconst (v := 3) hx hb dX12_copy_11 (by decide) ?_
    refine m_csi (As := [.int a3, .int 0, .int 3]) (rest := []) hc hw hR (hml.trans hl.1.symm) (cm_in l S a3 0 3 _ rfl) mq_in (by decide) rfl rfl rfl (Nat.le_of_ble_eq_true rfl) dX12_copy_12 (fun H locs hw => ?_) ⟨Nat.zero_le _, Nat.zero_le _⟩
    refine lv_if_neb (tgt := 21) hx hb dX12_copy_15 (by decide) (fun cn13 => ?_) (fun cn13 => ?_)
    · have hf := (if_pos cn13).symm.trans hf
      refine lv_aload_n hx hb dX12_copy_21 rfl (lv_at hl 0 rfl) ?_
      refine m_g37 hc hw dX12_copy_22 ?_
      refine lv_iload_n hx hb dX12_copy_25 rfl (lv_at hl 1 rfl) ?_
      obtain ⟨hi1, hf⟩ := gd_some hf
      refine m_l37 hc hw (ok_in hi1) dX12_copy_26 ?_
      refine lv_iconst (v := (-1)) hx hb dX12_copy_27 (by decide) ?_
      refine lv_icmp_eq (tgt := 41) hx hb dX12_copy_28 (by decide) (fun cn14 => ?_) (fun cn14 => ?_)
      · have hf := (if_pos cn14).symm.trans hf
        refine lv_bipush (v := (-11)) hx hb dX12_copy_41 (by decide) ?_
        obtain ⟨rfl, rfl⟩ := pr2_some hf
        exact hQ _ _ _ _ dX12_copy_43 hw
      · have hf := (if_neg cn14).symm.trans hf
        refine lv_aload_n hx hb dX12_copy_31 rfl (lv_at hl 0 rfl) ?_
        refine m_g37 hc hw dX12_copy_32 ?_
        refine lv_iload_n hx hb dX12_copy_35 rfl (lv_at hl 3 rfl) ?_
        obtain ⟨hi2, hf⟩ := gd_some hf
        refine m_l37 hc hw (ok_in hi2) dX12_copy_36 ?_
        refine lv_iconst (v := (-1)) hx hb dX12_copy_37 (by decide) ?_
        refine lv_icmp_ne (tgt := 44) hx hb dX12_copy_38 (by decide) (fun cn15 => ?_) (fun cn15 => ?_)
        · have hf := (if_neg cn15).symm.trans hf
          refine lv_aload_n hx hb dX12_copy_44 rfl (lv_at hl 0 rfl) ?_
          refine m_g37 hc hw dX12_copy_45 ?_
          refine lv_iload_n hx hb dX12_copy_48 rfl (lv_at hl 1 rfl) ?_
          refine m_l37 hc hw (ok_in hi1) dX12_copy_49 ?_
          refine lv_aload_n hx hb dX12_copy_50 rfl (lv_at hl 0 rfl) ?_
          refine m_g37 hc hw dX12_copy_51 ?_
          refine lv_iload_n hx hb dX12_copy_54 rfl (lv_at hl 3 rfl) ?_
          refine m_l37 hc hw (ok_in hi2) dX12_copy_55 ?_
          refine lv_icmp_eq (tgt := 62) hx hb dX12_copy_56 (by decide) (fun cn16 => ?_) (fun cn16 => ?_)
          · have hf := (if_pos cn16).symm.trans hf
            refine lv_iload hx hb dX12_copy_62 (lv_at hl 5 rfl) ?_
            refine lv_if_lt (tgt := 124) hx hb dX12_copy_64 (by decide) (fun cn17 => ?_) (fun cn17 => ?_)
            · have hf := (if_pos cn17).symm.trans hf
              refine lv_bipush (v := (-12)) hx hb dX12_copy_124 (by decide) ?_
              obtain ⟨rfl, rfl⟩ := pr2_some hf
              exact hQ _ _ _ _ dX12_copy_126 hw
            · have hf := (if_neg cn17).symm.trans hf
              refine lv_iload_n hx hb dX12_copy_67 rfl (lv_at hl 2 rfl) ?_
              refine lv_if_lt (tgt := 124) hx hb dX12_copy_68 (by decide) (fun cn18 => ?_) (fun cn18 => ?_)
              · have hf := (if_pos cn18).symm.trans hf
                refine lv_bipush (v := (-12)) hx hb dX12_copy_124 (by decide) ?_
                obtain ⟨rfl, rfl⟩ := pr2_some hf
                exact hQ _ _ _ _ dX12_copy_126 hw
              · have hf := (if_neg cn18).symm.trans hf
                refine lv_iload hx hb dX12_copy_71 (lv_at hl 4 rfl) ?_
                refine lv_if_lt (tgt := 124) hx hb dX12_copy_73 (by decide) (fun cn19 => ?_) (fun cn19 => ?_)
                · have hf := (if_pos cn19).symm.trans hf
                  refine lv_bipush (v := (-12)) hx hb dX12_copy_124 (by decide) ?_
                  obtain ⟨rfl, rfl⟩ := pr2_some hf
                  exact hQ _ _ _ _ dX12_copy_126 hw
                · have hf := (if_neg cn19).symm.trans hf
                  refine lv_iload_n hx hb dX12_copy_76 rfl (lv_at hl 2 rfl) ?_
                  refine lv_aload_n hx hb dX12_copy_77 rfl (lv_at hl 0 rfl) ?_
                  refine m_g38 hc hw dX12_copy_78 ?_
                  refine lv_iload_n hx hb dX12_copy_81 rfl (lv_at hl 1 rfl) ?_
                  refine m_l38 hc hw (ok_in hi1) dX12_copy_82 ?_
                  refine lv_icmp_gt (tgt := 124) hx hb dX12_copy_83 (by decide) (fun cn20 => ?_) (fun cn20 => ?_)
                  · have hf := (if_pos cn20).symm.trans hf
                    refine lv_bipush (v := (-12)) hx hb dX12_copy_124 (by decide) ?_
                    obtain ⟨rfl, rfl⟩ := pr2_some hf
                    exact hQ _ _ _ _ dX12_copy_126 hw
                  · have hf := (if_neg cn20).symm.trans hf
                    refine lv_iload hx hb dX12_copy_86 (lv_at hl 4 rfl) ?_
                    refine lv_aload_n hx hb dX12_copy_88 rfl (lv_at hl 0 rfl) ?_
                    refine m_g38 hc hw dX12_copy_89 ?_
                    refine lv_iload_n hx hb dX12_copy_92 rfl (lv_at hl 3 rfl) ?_
                    refine m_l38 hc hw (ok_in hi2) dX12_copy_93 ?_
                    refine lv_icmp_gt (tgt := 124) hx hb dX12_copy_94 (by decide) (fun cn21 => ?_) (fun cn21 => ?_)
                    · have hf := (if_pos cn21).symm.trans hf
                      refine lv_bipush (v := (-12)) hx hb dX12_copy_124 (by decide) ?_
                      obtain ⟨rfl, rfl⟩ := pr2_some hf
                      exact hQ _ _ _ _ dX12_copy_126 hw
                    · have hf := (if_neg cn21).symm.trans hf
                      refine lv_iload hx hb dX12_copy_97 (lv_at hl 5 rfl) ?_
                      refine lv_aload_n hx hb dX12_copy_99 rfl (lv_at hl 0 rfl) ?_
                      refine m_g38 hc hw dX12_copy_100 ?_
                      refine lv_iload_n hx hb dX12_copy_103 rfl (lv_at hl 1 rfl) ?_
                      refine m_l38 hc hw (ok_in hi1) dX12_copy_104 ?_
                      refine lv_iload_n hx hb dX12_copy_105 rfl (lv_at hl 2 rfl) ?_
                      refine lv_isub hx hb dX12_copy_106 ?_
                      refine lv_icmp_gt (tgt := 124) hx hb dX12_copy_107 (by decide) (fun cn22 => ?_) (fun cn22 => ?_)
                      · have hf := (if_pos cn22).symm.trans hf
                        refine lv_bipush (v := (-12)) hx hb dX12_copy_124 (by decide) ?_
                        obtain ⟨rfl, rfl⟩ := pr2_some hf
                        exact hQ _ _ _ _ dX12_copy_126 hw
                      · have hf := (if_neg cn22).symm.trans hf
                        refine lv_iload hx hb dX12_copy_110 (lv_at hl 5 rfl) ?_
                        refine lv_aload_n hx hb dX12_copy_112 rfl (lv_at hl 0 rfl) ?_
                        refine m_g38 hc hw dX12_copy_113 ?_
                        refine lv_iload_n hx hb dX12_copy_116 rfl (lv_at hl 3 rfl) ?_
                        refine m_l38 hc hw (ok_in hi2) dX12_copy_117 ?_
                        refine lv_iload hx hb dX12_copy_118 (lv_at hl 4 rfl) ?_
                        refine lv_isub hx hb dX12_copy_120 ?_
                        refine lv_icmp_le (tgt := 127) hx hb dX12_copy_121 (by decide) (fun cn23 => ?_) (fun cn23 => ?_)
                        · have hf := (if_pos cn23).symm.trans hf
                          refine lv_bipush (v := 60) hx hb dX12_copy_127 (by decide) ?_
                          refine lv_iload_n hx hb dX12_copy_129 rfl (lv_at hl 1 rfl) ?_
                          refine lv_imul hx hb dX12_copy_130 ?_
                          refine lv_iload_n hx hb dX12_copy_131 rfl (lv_at hl 2 rfl) ?_
                          refine lv_iadd hx hb dX12_copy_132 ?_
                          refine lv_istore (lv' := [(6, .int ((60 * a1) + a2)), (0, .ref (mr g 0)), (1, .int a1), (2, .int a2), (3, .int a3), (4, .int a4), (5, .int a5)]) hx hb dX12_copy_133 hl (by decide) rfl (fun ls hl => ?_)
                          refine lv_bipush (v := 60) hx hb dX12_copy_135 (by decide) ?_
                          refine lv_iload_n hx hb dX12_copy_137 rfl (lv_at hl 4 rfl) ?_
                          refine lv_imul hx hb dX12_copy_138 ?_
                          refine lv_iload hx hb dX12_copy_139 (lv_at hl 5 rfl) ?_
                          refine lv_iadd hx hb dX12_copy_141 ?_
                          refine lv_istore (lv' := [(7, .int ((60 * a3) + a4)), (6, .int ((60 * a1) + a2)), (0, .ref (mr g 0)), (1, .int a1), (2, .int a2), (3, .int a3), (4, .int a4), (5, .int a5)]) hx hb dX12_copy_142 hl (by decide) rfl (fun ls hl => ?_)
                          refine lv_iconst (v := 0) hx hb dX12_copy_144 (by decide) ?_
                          refine lv_istore (lv' := [(8, .int 0), (7, .int ((60 * a3) + a4)), (6, .int ((60 * a1) + a2)), (0, .ref (mr g 0)), (1, .int a1), (2, .int a2), (3, .int a3), (4, .int a4), (5, .int a5)]) hx hb dX12_copy_145 hl (by decide) rfl (fun ls hl => ?_)
                          obtain ⟨S11, hL, hf⟩ := bd1_some hf
                          refine wm_copy_L147 hc hR hml N a5 ((60 * a1) + a2) ((60 * a3) + a4) N _ _ _ _ _ _ hL hw (lv_sub hl [3, 8, 2, 1, 0] rfl) (fun H locs ls hw hl => ?_)
                          refine lv_iload hx hb dX12_copy_201 (lv_at hl 0 rfl) ?_
                          obtain ⟨rfl, rfl⟩ := pr2_some hf
                          exact hQ _ _ _ _ dX12_copy_203 hw
                        · have hf := (if_neg cn23).symm.trans hf
                          refine lv_bipush (v := (-12)) hx hb dX12_copy_124 (by decide) ?_
                          obtain ⟨rfl, rfl⟩ := pr2_some hf
                          exact hQ _ _ _ _ dX12_copy_126 hw
          · have hf := (if_neg cn16).symm.trans hf
            refine lv_bipush (v := (-13)) hx hb dX12_copy_59 (by decide) ?_
            obtain ⟨rfl, rfl⟩ := pr2_some hf
            exact hQ _ _ _ _ dX12_copy_61 hw
        · have hf := (if_pos cn15).symm.trans hf
          refine lv_bipush (v := (-11)) hx hb dX12_copy_41 (by decide) ?_
          obtain ⟨rfl, rfl⟩ := pr2_some hf
          exact hQ _ _ _ _ dX12_copy_43 hw
    · have hf := (if_neg cn13).symm.trans hf
      refine lv_bipush (v := (-2)) hx hb dX12_copy_18 (by decide) ?_
      obtain ⟨rfl, rfl⟩ := pr2_some hf
      exact hQ _ _ _ _ dX12_copy_20 hw
def mf_taken (N : Nat) (S : mS) (a1 : Int32) (a2 : Int32) : Option (Int32) := (if (mf_in a2 0 6) = true then (if (mf_in a1 0 11) = true then (if 6 ≤ a1 then (if (a1 - 6) < (S.1 3 0) then (if 6 ≤ a2 then some (-13) else (if ok (a1 - 6) 6 then (if (mf_isUnder (S.1 4 (a1 - 6).toNatClampNeg) a2) = true then some (a1 - 6) else some (-13)) else none)) else some (-11)) else (if a1 < (S.1 10 0) then (if a2 = 6 then (if ok a1 6 then some (S.1 12 a1.toNatClampNeg) else none) else some (-13)) else some (-11))) else some (-12)) else some (-2))
set_option maxRecDepth 100000 in
theorem cm_taken (l : Launch) (N : Nat) (S : mS) (a1 : Int32) (a2 : Int32) (res : Int32) (hf : mf_taken N S a1 a2 = some res) : mMi l yX12_taken cX12_taken 3 .int 2 (fun g => [.ref (mr g 0), .int a1, .int a2]) S res S := by
  refine mMi_of (own := RX12) (by decide) rfl rfl (fun g => Nat.le_of_ble_eq_true rfl) ?_
  intro p e R s m args below meth c Q g A H0 H locs ls hc hR hml hw hl hQ
  have hl : lv_has ls 3 [(0, .ref (mr g 0)), (1, .int a1), (2, .int a2)] := hl
  have hx := hc.1
  have hb := hc.2.1
  unfold mf_taken at hf
  refine lv_iload_n hx hb dX12_taken_0 rfl (lv_at hl 2 rfl) ?_
  refine lv_iconst (v := 0) hx hb dX12_taken_1 (by decide) ?_
  refine lv_bipush (v := 6) hx hb dX12_taken_2 (by decide) ?_
  refine m_csi (As := [.int a2, .int 0, .int 6]) (rest := []) hc hw hR (hml.trans hl.1.symm) (cm_in l S a2 0 6 _ rfl) mq_in (by decide) rfl rfl rfl (Nat.le_of_ble_eq_true rfl) dX12_taken_4 (fun H locs hw => ?_) ⟨Nat.zero_le _, Nat.zero_le _⟩
  refine lv_if_neb (tgt := 13) hx hb dX12_taken_7 (by decide) (fun cn3 => ?_) (fun cn3 => ?_)
  · have hf := (if_pos cn3).symm.trans hf
    refine lv_iload_n hx hb dX12_taken_13 rfl (lv_at hl 1 rfl) ?_
    refine lv_iconst (v := 0) hx hb dX12_taken_14 (by decide) ?_
    refine lv_bipush (v := 11) hx hb dX12_taken_15 (by decide) ?_
    refine m_csi (As := [.int a1, .int 0, .int 11]) (rest := []) hc hw hR (hml.trans hl.1.symm) (cm_in l S a1 0 11 _ rfl) mq_in (by decide) rfl rfl rfl (Nat.le_of_ble_eq_true rfl) dX12_taken_17 (fun H locs hw => ?_) ⟨Nat.zero_le _, Nat.zero_le _⟩
    refine lv_if_neb (tgt := 26) hx hb dX12_taken_20 (by decide) (fun cn4 => ?_) (fun cn4 => ?_)
    · have hf := (if_pos cn4).symm.trans hf
      refine lv_iload_n hx hb dX12_taken_26 rfl (lv_at hl 1 rfl) ?_
      refine lv_bipush (v := 6) hx hb dX12_taken_27 (by decide) ?_
      refine lv_icmp_ge (tgt := 63) hx hb dX12_taken_29 (by decide) (fun cn5 => ?_) (fun cn5 => ?_)
      · have hf := (if_pos cn5).symm.trans hf
        refine lv_iload_n hx hb dX12_taken_63 rfl (lv_at hl 1 rfl) ?_
        refine lv_bipush (v := 6) hx hb dX12_taken_64 (by decide) ?_
        refine lv_isub hx hb dX12_taken_66 ?_
        refine lv_aload_n hx hb dX12_taken_67 rfl (lv_at hl 0 rfl) ?_
        refine m_g3 hc hw dX12_taken_68 ?_
        refine lv_icmp_lt (tgt := 79) hx hb dX12_taken_71 (by decide) (fun cn6 => ?_) (fun cn6 => ?_)
        · have hf := (if_pos cn6).symm.trans hf
          refine lv_iload_n hx hb dX12_taken_79 rfl (lv_at hl 2 rfl) ?_
          refine lv_bipush (v := 6) hx hb dX12_taken_80 (by decide) ?_
          refine lv_icmp_ge (tgt := 108) hx hb dX12_taken_82 (by decide) (fun cn7 => ?_) (fun cn7 => ?_)
          · have hf := (if_pos cn7).symm.trans hf
            refine lv_bipush (v := (-13)) hx hb dX12_taken_108 (by decide) ?_
            obtain rfl := Option.some.inj hf
            exact hQ _ _ _ _ dX12_taken_110 hw
          · have hf := (if_neg cn7).symm.trans hf
            refine lv_aload_n hx hb dX12_taken_85 rfl (lv_at hl 0 rfl) ?_
            refine m_g4 hc hw dX12_taken_86 ?_
            refine lv_iload_n hx hb dX12_taken_89 rfl (lv_at hl 1 rfl) ?_
            refine lv_bipush (v := 6) hx hb dX12_taken_90 (by decide) ?_
            refine lv_isub hx hb dX12_taken_92 ?_
            obtain ⟨hi1, hf⟩ := gd_some hf
            refine m_l4 hc hw (ok_in hi1) dX12_taken_93 ?_
            refine lv_iload_n hx hb dX12_taken_94 rfl (lv_at hl 2 rfl) ?_
            refine m_csi (As := [.int (S.1 4 (a1 - 6).toNatClampNeg), .int a2]) (rest := []) hc hw hR (hml.trans hl.1.symm) (cm_isUnder l S (S.1 4 (a1 - 6).toNatClampNeg) a2 _ rfl) mq_isUnder (by decide) rfl rfl rfl (Nat.le_of_ble_eq_true rfl) dX12_taken_95 (fun H locs hw => ?_) ⟨Nat.zero_le _, Nat.zero_le _⟩
            refine lv_if_eqb (tgt := 108) hx hb dX12_taken_98 (by decide) (fun cn8 => ?_) (fun cn8 => ?_)
            · have hf := (if_neg cn8).symm.trans hf
              refine lv_bipush (v := (-13)) hx hb dX12_taken_108 (by decide) ?_
              obtain rfl := Option.some.inj hf
              exact hQ _ _ _ _ dX12_taken_110 hw
            · have hf := (if_pos cn8).symm.trans hf
              refine lv_iload_n hx hb dX12_taken_101 rfl (lv_at hl 1 rfl) ?_
              refine lv_bipush (v := 6) hx hb dX12_taken_102 (by decide) ?_
              refine lv_isub hx hb dX12_taken_104 ?_
              refine lv_goto (tgt := 110) hx hb dX12_taken_105 (by decide) ?_
              obtain rfl := Option.some.inj hf
              exact hQ _ _ _ _ dX12_taken_110 hw
        · have hf := (if_neg cn6).symm.trans hf
          refine lv_bipush (v := (-11)) hx hb dX12_taken_74 (by decide) ?_
          refine lv_goto (tgt := 110) hx hb dX12_taken_76 (by decide) ?_
          obtain rfl := Option.some.inj hf
          exact hQ _ _ _ _ dX12_taken_110 hw
      · have hf := (if_neg cn5).symm.trans hf
        refine lv_iload_n hx hb dX12_taken_32 rfl (lv_at hl 1 rfl) ?_
        refine lv_aload_n hx hb dX12_taken_33 rfl (lv_at hl 0 rfl) ?_
        refine m_g10 hc hw dX12_taken_34 ?_
        refine lv_icmp_lt (tgt := 45) hx hb dX12_taken_37 (by decide) (fun cn9 => ?_) (fun cn9 => ?_)
        · have hf := (if_pos cn9).symm.trans hf
          refine lv_iload_n hx hb dX12_taken_45 rfl (lv_at hl 2 rfl) ?_
          refine lv_bipush (v := 6) hx hb dX12_taken_46 (by decide) ?_
          refine lv_icmp_ne (tgt := 60) hx hb dX12_taken_48 (by decide) (fun cn10 => ?_) (fun cn10 => ?_)
          · have hf := (if_neg cn10).symm.trans hf
            refine lv_bipush (v := (-13)) hx hb dX12_taken_60 (by decide) ?_
            obtain rfl := Option.some.inj hf
            exact hQ _ _ _ _ dX12_taken_62 hw
          · have hf := (if_pos cn10).symm.trans hf
            refine lv_aload_n hx hb dX12_taken_51 rfl (lv_at hl 0 rfl) ?_
            refine m_g12 hc hw dX12_taken_52 ?_
            refine lv_iload_n hx hb dX12_taken_55 rfl (lv_at hl 1 rfl) ?_
            obtain ⟨hi2, hf⟩ := gd_some hf
            refine m_l12 hc hw (ok_in hi2) dX12_taken_56 ?_
            refine lv_goto (tgt := 62) hx hb dX12_taken_57 (by decide) ?_
            obtain rfl := Option.some.inj hf
            exact hQ _ _ _ _ dX12_taken_62 hw
        · have hf := (if_neg cn9).symm.trans hf
          refine lv_bipush (v := (-11)) hx hb dX12_taken_40 (by decide) ?_
          refine lv_goto (tgt := 62) hx hb dX12_taken_42 (by decide) ?_
          obtain rfl := Option.some.inj hf
          exact hQ _ _ _ _ dX12_taken_62 hw
    · have hf := (if_neg cn4).symm.trans hf
      refine lv_bipush (v := (-12)) hx hb dX12_taken_23 (by decide) ?_
      obtain rfl := Option.some.inj hf
      exact hQ _ _ _ _ dX12_taken_25 hw
  · have hf := (if_neg cn3).symm.trans hf
    refine lv_bipush (v := (-2)) hx hb dX12_taken_10 (by decide) ?_
    obtain rfl := Option.some.inj hf
    exact hQ _ _ _ _ dX12_taken_12 hw
def mf_isSeat (N : Nat) (S : mS) (a1 : Int32) (a2 : Int32) : Option (Bool) := (if (mf_isRow S a1) = true then (if ok ((if (mf_isRow S a1) = true then a1 else 0) : Int32) 6 then (if (mf_in a2 0 ((S.1 5 ((if (mf_isRow S a1) = true then a1 else 0) : Int32).toNatClampNeg) - 1)) = true then some true else some false) else none) else some false)
set_option maxRecDepth 100000 in
theorem cm_isSeat (l : Launch) (N : Nat) (S : mS) (a1 : Int32) (a2 : Int32) (res : Bool) (hf : mf_isSeat N S a1 a2 = some res) : mMi l yX12_isSeat cX12_isSeat 3 .boolean 3 (fun g => [.ref (mr g 0), .int a1, .int a2]) S (bi res) S := by
  refine mMi_of (own := RX12) (by decide) rfl (narrow_bi _) (fun g => Nat.le_of_ble_eq_true rfl) ?_
  intro p e R s m args below meth c Q g A H0 H locs ls hc hR hml hw hl hQ
  have hl : lv_has ls 3 [(0, .ref (mr g 0)), (1, .int a1), (2, .int a2)] := hl
  have hx := hc.1
  have hb := hc.2.1
  unfold mf_isSeat at hf
  refine lv_aload_n hx hb dX12_isSeat_0 rfl (lv_at hl 0 rfl) ?_
  refine lv_iload_n hx hb dX12_isSeat_1 rfl (lv_at hl 1 rfl) ?_
  refine m_cvi (As := [.int a1]) (rest := []) hc hw hR (hml.trans hl.1.symm) (cm_isRow l S a1 _ rfl) mq_isRow rfl (by decide) rfl rfl rfl (Nat.le_of_ble_eq_true rfl) dX12_isSeat_2 (fun H locs hw => ?_) ⟨Nat.zero_le _, Nat.zero_le _⟩
  refine lv_if_eqb (tgt := 40) hx hb dX12_isSeat_5 (by decide) (fun cn3 => ?_) (fun cn3 => ?_)
  · have hf := (if_neg cn3).symm.trans hf
    refine lv_iconst (v := 0) hx hb dX12_isSeat_40 (by decide) ?_
    obtain rfl := Option.some.inj hf
    exact hQ _ _ _ _ dX12_isSeat_41 hw
  · have hf := (if_pos cn3).symm.trans hf
    refine lv_iload_n hx hb dX12_isSeat_8 rfl (lv_at hl 2 rfl) ?_
    refine lv_iconst (v := 0) hx hb dX12_isSeat_9 (by decide) ?_
    refine lv_aload_n hx hb dX12_isSeat_10 rfl (lv_at hl 0 rfl) ?_
    refine m_g5 hc hw dX12_isSeat_11 ?_
    refine lv_aload_n hx hb dX12_isSeat_14 rfl (lv_at hl 0 rfl) ?_
    refine lv_iload_n hx hb dX12_isSeat_15 rfl (lv_at hl 1 rfl) ?_
    refine m_cvi (As := [.int a1]) (rest := [.ref (mr g 6), .int 0, .int a2]) hc hw hR (hml.trans hl.1.symm) (cm_isRow l S a1 _ rfl) mq_isRow rfl (by decide) rfl rfl rfl (Nat.le_of_ble_eq_true rfl) dX12_isSeat_16 (fun H locs hw => ?_) ⟨Nat.zero_le _, Nat.zero_le _⟩
    obtain ⟨v1, hv1⟩ : ∃ y : Int32, y = (if (mf_isRow S a1) = true then a1 else 0) := ⟨_, rfl⟩
    try rw [← hv1] at hf
    have kJ5 : ∀ v1x : Int32, v1 = v1x → ∀ (H : Heap) (locs : List Loc) (ls : Array Slot), mI g A H0 s S H locs → lv_has ls 3 [] → W p l e R s m args below meth c H locs 0 0 Q (F0 m 27 ls [.int v1x, .ref (mr g 6), .int 0, .int a2]) := by
      intro v1x hxv1 H locs ls hw hl
      subst hxv1
      obtain ⟨hi2, hf⟩ := gd_some hf
      refine m_l5 hc hw (ok_in hi2) dX12_isSeat_27 ?_
      refine lv_iconst (v := 1) hx hb dX12_isSeat_28 (by decide) ?_
      refine lv_isub hx hb dX12_isSeat_29 ?_
      refine m_csi (As := [.int a2, .int 0, .int ((S.1 5 v1.toNatClampNeg) - 1)]) (rest := []) hc hw hR (hml.trans hl.1.symm) (cm_in l S a2 0 ((S.1 5 v1.toNatClampNeg) - 1) _ rfl) mq_in (by decide) rfl rfl rfl (Nat.le_of_ble_eq_true rfl) dX12_isSeat_30 (fun H locs hw => ?_) ⟨Nat.zero_le _, Nat.zero_le _⟩
      refine lv_if_eqb (tgt := 40) hx hb dX12_isSeat_33 (by decide) (fun cn4 => ?_) (fun cn4 => ?_)
      · have hf := (if_neg cn4).symm.trans hf
        refine lv_iconst (v := 0) hx hb dX12_isSeat_40 (by decide) ?_
        obtain rfl := Option.some.inj hf
        exact hQ _ _ _ _ dX12_isSeat_41 hw
      · have hf := (if_pos cn4).symm.trans hf
        refine lv_iconst (v := 1) hx hb dX12_isSeat_36 (by decide) ?_
        refine lv_goto (tgt := 41) hx hb dX12_isSeat_37 (by decide) ?_
        obtain rfl := Option.some.inj hf
        exact hQ _ _ _ _ dX12_isSeat_41 hw
    refine lv_if_eqb (tgt := 26) hx hb dX12_isSeat_19 (by decide) (fun cn6 => ?_) (fun cn6 => ?_)
    · refine lv_iconst (v := 0) hx hb dX12_isSeat_26 (by decide) ?_
      have ev1 : v1 = (0 : Int32) := by rw [hv1]; simp only [if_neg cn6]
      exact kJ5 _ ev1 _ _ _ hw (lv_sub hl [] rfl)
    · refine lv_iload_n hx hb dX12_isSeat_22 rfl (lv_at hl 1 rfl) ?_
      refine lv_goto (tgt := 27) hx hb dX12_isSeat_23 (by decide) ?_
      have ev1 : v1 = a1 := by rw [hv1]; simp only [if_pos cn6]
      exact kJ5 _ ev1 _ _ _ hw (lv_sub hl [] rfl)
theorem mq_isSeat : qCv RX12 167 yX12_isSeat cX12_isSeat 3 (some .boolean) 2 := ⟨⟨(mem_g 1348 (by decide +kernel) rfl), (mem_g 1350 (by decide +kernel) rfl), (mem_g 35 (by decide +kernel) rfl), (mem_g 89 (by decide +kernel) rfl), (mem_g 1351 (by decide +kernel) rfl)⟩, by decide, by decide +kernel, by decide⟩
def mf_set (N : Nat) (S : mS) (a1 : Int32) (a2 : Int32) (a3 : Int32) : Option (Int32 × mS) := (if (mf_isRow S a1) = true then (if a2 = 0 then (if (mf_in a3 0 99) = true then (if ok a1 6 then some (S.1 7 a1.toNatClampNeg, ms S 7 a1.toNatClampNeg a3) else none) else (if a2 = 1 then (if (mf_in a3 0 1) = true then (if ok a1 6 then some (S.1 8 a1.toNatClampNeg, ms S 8 a1.toNatClampNeg a3) else none) else some ((-7), S)) else some ((-7), S))) else (if a2 = 1 then (if (mf_in a3 0 1) = true then (if ok a1 6 then some (S.1 8 a1.toNatClampNeg, ms S 8 a1.toNatClampNeg a3) else none) else some ((-7), S)) else some ((-7), S))) else some ((-5), S))
set_option maxRecDepth 100000 in
theorem cm_set (l : Launch) (N : Nat) (S : mS) (a1 : Int32) (a2 : Int32) (a3 : Int32) (res : Int32) (S1 : mS) (hf : mf_set N S a1 a2 a3 = some (res, S1)) : mMi l yX12_set cX12_set 5 .int 3 (fun g => [.ref (mr g 0), .int a1, .int a2, .int a3]) S res S1 := by
  refine mMi_of (own := RX12) (by decide) rfl rfl (fun g => Nat.le_of_ble_eq_true rfl) ?_
  intro p e R s m args below meth c Q g A H0 H locs ls hc hR hml hw hl hQ
  have hl : lv_has ls 5 [(0, .ref (mr g 0)), (1, .int a1), (2, .int a2), (3, .int a3)] := hl
  have hx := hc.1
  have hb := hc.2.1
  unfold mf_set at hf
  refine lv_aload_n hx hb dX12_set_0 rfl (lv_at hl 0 rfl) ?_
  refine lv_iload_n hx hb dX12_set_1 rfl (lv_at hl 1 rfl) ?_
  refine m_cvi (As := [.int a1]) (rest := []) hc hw hR (hml.trans hl.1.symm) (cm_isRow l S a1 _ rfl) mq_isRow rfl (by decide) rfl rfl rfl (Nat.le_of_ble_eq_true rfl) dX12_set_2 (fun H locs hw => ?_) ⟨Nat.zero_le _, Nat.zero_le _⟩
  refine lv_if_neb (tgt := 11) hx hb dX12_set_5 (by decide) (fun cn4 => ?_) (fun cn4 => ?_)
  · have hf := (if_pos cn4).symm.trans hf
    refine lv_iload_n hx hb dX12_set_11 rfl (lv_at hl 2 rfl) ?_
    refine lv_if_ne (tgt := 43) hx hb dX12_set_12 (by decide) (fun cn5 => ?_) (fun cn5 => ?_)
    · have hf := (if_neg cn5).symm.trans hf
      refine lv_iload_n hx hb dX12_set_43 rfl (lv_at hl 2 rfl) ?_
      refine lv_iconst (v := 1) hx hb dX12_set_44 (by decide) ?_
      refine lv_icmp_ne (tgt := 75) hx hb dX12_set_45 (by decide) (fun cn6 => ?_) (fun cn6 => ?_)
      · have hf := (if_neg cn6).symm.trans hf
        refine lv_bipush (v := (-7)) hx hb dX12_set_75 (by decide) ?_
        obtain ⟨rfl, rfl⟩ := pr2_some hf
        exact hQ _ _ _ _ dX12_set_77 hw
      · have hf := (if_pos cn6).symm.trans hf
        refine lv_iload_n hx hb dX12_set_48 rfl (lv_at hl 3 rfl) ?_
        refine lv_iconst (v := 0) hx hb dX12_set_49 (by decide) ?_
        refine lv_iconst (v := 1) hx hb dX12_set_50 (by decide) ?_
        refine m_csi (As := [.int a3, .int 0, .int 1]) (rest := []) hc hw hR (hml.trans hl.1.symm) (cm_in l S a3 0 1 _ rfl) mq_in (by decide) rfl rfl rfl (Nat.le_of_ble_eq_true rfl) dX12_set_51 (fun H locs hw => ?_) ⟨Nat.zero_le _, Nat.zero_le _⟩
        refine lv_if_eqb (tgt := 75) hx hb dX12_set_54 (by decide) (fun cn7 => ?_) (fun cn7 => ?_)
        · have hf := (if_neg cn7).symm.trans hf
          refine lv_bipush (v := (-7)) hx hb dX12_set_75 (by decide) ?_
          obtain ⟨rfl, rfl⟩ := pr2_some hf
          exact hQ _ _ _ _ dX12_set_77 hw
        · have hf := (if_pos cn7).symm.trans hf
          refine lv_aload_n hx hb dX12_set_57 rfl (lv_at hl 0 rfl) ?_
          refine m_g8 hc hw dX12_set_58 ?_
          refine lv_iload_n hx hb dX12_set_61 rfl (lv_at hl 1 rfl) ?_
          obtain ⟨hi1, hf⟩ := gd_some hf
          refine m_l8 hc hw (ok_in hi1) dX12_set_62 ?_
          refine lv_istore (lv' := [(4, .int (S.1 8 a1.toNatClampNeg)), (0, .ref (mr g 0)), (1, .int a1), (2, .int a2), (3, .int a3)]) hx hb dX12_set_63 hl (by decide) rfl (fun ls hl => ?_)
          refine lv_aload_n hx hb dX12_set_65 rfl (lv_at hl 1 rfl) ?_
          refine m_g8 hc hw dX12_set_66 ?_
          refine lv_iload_n hx hb dX12_set_69 rfl (lv_at hl 2 rfl) ?_
          refine lv_iload_n hx hb dX12_set_70 rfl (lv_at hl 4 rfl) ?_
          refine m_s8 hc hw (ok_in hi1) dX12_set_71 (fun H locs hw => ?_)
          refine lv_goto (tgt := 78) hx hb dX12_set_72 (by decide) ?_
          refine lv_iload hx hb dX12_set_78 (lv_at hl 0 rfl) ?_
          obtain ⟨rfl, rfl⟩ := pr2_some hf
          exact hQ _ _ _ _ dX12_set_80 hw
    · have hf := (if_pos cn5).symm.trans hf
      refine lv_iload_n hx hb dX12_set_15 rfl (lv_at hl 3 rfl) ?_
      refine lv_iconst (v := 0) hx hb dX12_set_16 (by decide) ?_
      refine lv_bipush (v := 99) hx hb dX12_set_17 (by decide) ?_
      refine m_csi (As := [.int a3, .int 0, .int 99]) (rest := []) hc hw hR (hml.trans hl.1.symm) (cm_in l S a3 0 99 _ rfl) mq_in (by decide) rfl rfl rfl (Nat.le_of_ble_eq_true rfl) dX12_set_19 (fun H locs hw => ?_) ⟨Nat.zero_le _, Nat.zero_le _⟩
      refine lv_if_eqb (tgt := 43) hx hb dX12_set_22 (by decide) (fun cn8 => ?_) (fun cn8 => ?_)
      · have hf := (if_neg cn8).symm.trans hf
        refine lv_iload_n hx hb dX12_set_43 rfl (lv_at hl 2 rfl) ?_
        refine lv_iconst (v := 1) hx hb dX12_set_44 (by decide) ?_
        refine lv_icmp_ne (tgt := 75) hx hb dX12_set_45 (by decide) (fun cn9 => ?_) (fun cn9 => ?_)
        · have hf := (if_neg cn9).symm.trans hf
          refine lv_bipush (v := (-7)) hx hb dX12_set_75 (by decide) ?_
          obtain ⟨rfl, rfl⟩ := pr2_some hf
          exact hQ _ _ _ _ dX12_set_77 hw
        · have hf := (if_pos cn9).symm.trans hf
          refine lv_iload_n hx hb dX12_set_48 rfl (lv_at hl 3 rfl) ?_
          refine lv_iconst (v := 0) hx hb dX12_set_49 (by decide) ?_
          refine lv_iconst (v := 1) hx hb dX12_set_50 (by decide) ?_
          refine m_csi (As := [.int a3, .int 0, .int 1]) (rest := []) hc hw hR (hml.trans hl.1.symm) (cm_in l S a3 0 1 _ rfl) mq_in (by decide) rfl rfl rfl (Nat.le_of_ble_eq_true rfl) dX12_set_51 (fun H locs hw => ?_) ⟨Nat.zero_le _, Nat.zero_le _⟩
          refine lv_if_eqb (tgt := 75) hx hb dX12_set_54 (by decide) (fun cn10 => ?_) (fun cn10 => ?_)
          · have hf := (if_neg cn10).symm.trans hf
            refine lv_bipush (v := (-7)) hx hb dX12_set_75 (by decide) ?_
            obtain ⟨rfl, rfl⟩ := pr2_some hf
            exact hQ _ _ _ _ dX12_set_77 hw
          · have hf := (if_pos cn10).symm.trans hf
            refine lv_aload_n hx hb dX12_set_57 rfl (lv_at hl 0 rfl) ?_
            refine m_g8 hc hw dX12_set_58 ?_
            refine lv_iload_n hx hb dX12_set_61 rfl (lv_at hl 1 rfl) ?_
            obtain ⟨hi2, hf⟩ := gd_some hf
            refine m_l8 hc hw (ok_in hi2) dX12_set_62 ?_
            refine lv_istore (lv' := [(4, .int (S.1 8 a1.toNatClampNeg)), (0, .ref (mr g 0)), (1, .int a1), (2, .int a2), (3, .int a3)]) hx hb dX12_set_63 hl (by decide) rfl (fun ls hl => ?_)
            refine lv_aload_n hx hb dX12_set_65 rfl (lv_at hl 1 rfl) ?_
            refine m_g8 hc hw dX12_set_66 ?_
            refine lv_iload_n hx hb dX12_set_69 rfl (lv_at hl 2 rfl) ?_
            refine lv_iload_n hx hb dX12_set_70 rfl (lv_at hl 4 rfl) ?_
            refine m_s8 hc hw (ok_in hi2) dX12_set_71 (fun H locs hw => ?_)
            refine lv_goto (tgt := 78) hx hb dX12_set_72 (by decide) ?_
            refine lv_iload hx hb dX12_set_78 (lv_at hl 0 rfl) ?_
            obtain ⟨rfl, rfl⟩ := pr2_some hf
            exact hQ _ _ _ _ dX12_set_80 hw
      · have hf := (if_pos cn8).symm.trans hf
        refine lv_aload_n hx hb dX12_set_25 rfl (lv_at hl 0 rfl) ?_
        refine m_g7 hc hw dX12_set_26 ?_
        refine lv_iload_n hx hb dX12_set_29 rfl (lv_at hl 1 rfl) ?_
        obtain ⟨hi3, hf⟩ := gd_some hf
        refine m_l7 hc hw (ok_in hi3) dX12_set_30 ?_
        refine lv_istore (lv' := [(4, .int (S.1 7 a1.toNatClampNeg)), (0, .ref (mr g 0)), (1, .int a1), (2, .int a2), (3, .int a3)]) hx hb dX12_set_31 hl (by decide) rfl (fun ls hl => ?_)
        refine lv_aload_n hx hb dX12_set_33 rfl (lv_at hl 1 rfl) ?_
        refine m_g7 hc hw dX12_set_34 ?_
        refine lv_iload_n hx hb dX12_set_37 rfl (lv_at hl 2 rfl) ?_
        refine lv_iload_n hx hb dX12_set_38 rfl (lv_at hl 4 rfl) ?_
        refine m_s7 hc hw (ok_in hi3) dX12_set_39 (fun H locs hw => ?_)
        refine lv_goto (tgt := 78) hx hb dX12_set_40 (by decide) ?_
        refine lv_iload hx hb dX12_set_78 (lv_at hl 0 rfl) ?_
        obtain ⟨rfl, rfl⟩ := pr2_some hf
        exact hQ _ _ _ _ dX12_set_80 hw
  · have hf := (if_neg cn4).symm.trans hf
    refine lv_bipush (v := (-5)) hx hb dX12_set_8 (by decide) ?_
    obtain ⟨rfl, rfl⟩ := pr2_some hf
    exact hQ _ _ _ _ dX12_set_10 hw
def mf_eyesOf (N : Nat) (S : mS) (a1 : Int32) (a2 : Int32) : Option (Int32) := (if ok ((8 * a1) + a2) 48 then (if ok (S.1 9 ((8 * a1) + a2).toNatClampNeg) 4 then (bd1 (mf_above N S a1 (S.1 0 (S.1 9 ((8 * a1) + a2).toNatClampNeg).toNatClampNeg)) fun v3 => some v3) else none) else none)
set_option maxRecDepth 100000 in
theorem cm_eyesOf (l : Launch) (N : Nat) (S : mS) (a1 : Int32) (a2 : Int32) (res : Int32) (hf : mf_eyesOf N S a1 a2 = some res) : mMi l yX12_eyesOf cX12_eyesOf 3 .int 3 (fun g => [.ref (mr g 0), .int a1, .int a2]) S res S := by
  refine mMi_of (own := RX12) (by decide) rfl rfl (fun g => Nat.le_of_ble_eq_true rfl) ?_
  intro p e R s m args below meth c Q g A H0 H locs ls hc hR hml hw hl hQ
  have hl : lv_has ls 3 [(0, .ref (mr g 0)), (1, .int a1), (2, .int a2)] := hl
  have hx := hc.1
  have hb := hc.2.1
  unfold mf_eyesOf at hf
  refine lv_aload_n hx hb dX12_eyesOf_0 rfl (lv_at hl 0 rfl) ?_
  refine lv_iload_n hx hb dX12_eyesOf_1 rfl (lv_at hl 1 rfl) ?_
  refine lv_aload_n hx hb dX12_eyesOf_2 rfl (lv_at hl 0 rfl) ?_
  refine m_g0 hc hw dX12_eyesOf_3 ?_
  refine lv_aload_n hx hb dX12_eyesOf_6 rfl (lv_at hl 0 rfl) ?_
  refine m_g9 hc hw dX12_eyesOf_7 ?_
  refine lv_bipush (v := 8) hx hb dX12_eyesOf_10 (by decide) ?_
  refine lv_iload_n hx hb dX12_eyesOf_12 rfl (lv_at hl 1 rfl) ?_
  refine lv_imul hx hb dX12_eyesOf_13 ?_
  refine lv_iload_n hx hb dX12_eyesOf_14 rfl (lv_at hl 2 rfl) ?_
  refine lv_iadd hx hb dX12_eyesOf_15 ?_
  obtain ⟨hi1, hf⟩ := gd_some hf
  refine m_l9 hc hw (ok_in hi1) dX12_eyesOf_16 ?_
  obtain ⟨hi2, hf⟩ := gd_some hf
  refine m_l0 hc hw (ok_in hi2) dX12_eyesOf_17 ?_
  obtain ⟨v3, hcall, hf⟩ := bd1_some hf
  refine m_cvi (As := [.int a1, .int (S.1 0 (S.1 9 ((8 * a1) + a2).toNatClampNeg).toNatClampNeg)]) (rest := []) hc hw hR (hml.trans hl.1.symm) (cm_above l N S a1 (S.1 0 (S.1 9 ((8 * a1) + a2).toNatClampNeg).toNatClampNeg) v3 hcall) mq_above rfl (by decide) rfl rfl rfl (Nat.le_of_ble_eq_true rfl) dX12_eyesOf_18 (fun H locs hw => ?_) ⟨Nat.zero_le _, Nat.zero_le _⟩
  obtain rfl := Option.some.inj hf
  exact hQ _ _ _ _ dX12_eyesOf_21 hw
theorem mq_eyesOf : qCv RX12 188 yX12_eyesOf cX12_eyesOf 3 (some .int) 2 := ⟨⟨(mem_g 1368 (by decide +kernel) rfl), (mem_g 1370 (by decide +kernel) rfl), (mem_g 39 (by decide +kernel) rfl), (mem_g 89 (by decide +kernel) rfl), (mem_g 1371 (by decide +kernel) rfl)⟩, by decide, by decide +kernel, by decide⟩
def mf_topOf (N : Nat) (S : mS) (a1 : Int32) (a2 : Int32) : Option (Int32) := (if ok ((8 * a1) + a2) 48 then (if ok (S.1 9 ((8 * a1) + a2).toNatClampNeg) 4 then (bd1 (mf_above N S a1 (S.1 1 (S.1 9 ((8 * a1) + a2).toNatClampNeg).toNatClampNeg)) fun v3 => (if ((8 * a1) + a2) = (S.1 23 0) then some (v3 + (S.1 24 0)) else some (v3 + 0))) else none) else none)
set_option maxRecDepth 100000 in
theorem cm_topOf (l : Launch) (N : Nat) (S : mS) (a1 : Int32) (a2 : Int32) (res : Int32) (hf : mf_topOf N S a1 a2 = some res) : mMi l yX12_topOf cX12_topOf 3 .int 3 (fun g => [.ref (mr g 0), .int a1, .int a2]) S res S := by
  refine mMi_of (own := RX12) (by decide) rfl rfl (fun g => Nat.le_of_ble_eq_true rfl) ?_
  intro p e R s m args below meth c Q g A H0 H locs ls hc hR hml hw hl hQ
  have hl : lv_has ls 3 [(0, .ref (mr g 0)), (1, .int a1), (2, .int a2)] := hl
  have hx := hc.1
  have hb := hc.2.1
  unfold mf_topOf at hf
  refine lv_aload_n hx hb dX12_topOf_0 rfl (lv_at hl 0 rfl) ?_
  refine lv_iload_n hx hb dX12_topOf_1 rfl (lv_at hl 1 rfl) ?_
  refine lv_aload_n hx hb dX12_topOf_2 rfl (lv_at hl 0 rfl) ?_
  refine m_g1 hc hw dX12_topOf_3 ?_
  refine lv_aload_n hx hb dX12_topOf_6 rfl (lv_at hl 0 rfl) ?_
  refine m_g9 hc hw dX12_topOf_7 ?_
  refine lv_bipush (v := 8) hx hb dX12_topOf_10 (by decide) ?_
  refine lv_iload_n hx hb dX12_topOf_12 rfl (lv_at hl 1 rfl) ?_
  refine lv_imul hx hb dX12_topOf_13 ?_
  refine lv_iload_n hx hb dX12_topOf_14 rfl (lv_at hl 2 rfl) ?_
  refine lv_iadd hx hb dX12_topOf_15 ?_
  obtain ⟨hi1, hf⟩ := gd_some hf
  refine m_l9 hc hw (ok_in hi1) dX12_topOf_16 ?_
  obtain ⟨hi2, hf⟩ := gd_some hf
  refine m_l1 hc hw (ok_in hi2) dX12_topOf_17 ?_
  obtain ⟨v3, hcall, hf⟩ := bd1_some hf
  refine m_cvi (As := [.int a1, .int (S.1 1 (S.1 9 ((8 * a1) + a2).toNatClampNeg).toNatClampNeg)]) (rest := []) hc hw hR (hml.trans hl.1.symm) (cm_above l N S a1 (S.1 1 (S.1 9 ((8 * a1) + a2).toNatClampNeg).toNatClampNeg) v3 hcall) mq_above rfl (by decide) rfl rfl rfl (Nat.le_of_ble_eq_true rfl) dX12_topOf_18 (fun H locs hw => ?_) ⟨Nat.zero_le _, Nat.zero_le _⟩
  refine lv_bipush (v := 8) hx hb dX12_topOf_21 (by decide) ?_
  refine lv_iload_n hx hb dX12_topOf_23 rfl (lv_at hl 1 rfl) ?_
  refine lv_imul hx hb dX12_topOf_24 ?_
  refine lv_iload_n hx hb dX12_topOf_25 rfl (lv_at hl 2 rfl) ?_
  refine lv_iadd hx hb dX12_topOf_26 ?_
  refine lv_aload_n hx hb dX12_topOf_27 rfl (lv_at hl 0 rfl) ?_
  refine m_g23 hc hw dX12_topOf_28 ?_
  refine lv_icmp_ne (tgt := 41) hx hb dX12_topOf_31 (by decide) (fun cn4 => ?_) (fun cn4 => ?_)
  · have hf := (if_neg cn4).symm.trans hf
    refine lv_iconst (v := 0) hx hb dX12_topOf_41 (by decide) ?_
    refine lv_iadd hx hb dX12_topOf_42 ?_
    obtain rfl := Option.some.inj hf
    exact hQ _ _ _ _ dX12_topOf_43 hw
  · have hf := (if_pos cn4).symm.trans hf
    refine lv_aload_n hx hb dX12_topOf_34 rfl (lv_at hl 0 rfl) ?_
    refine m_g24 hc hw dX12_topOf_35 ?_
    refine lv_goto (tgt := 42) hx hb dX12_topOf_38 (by decide) ?_
    refine lv_iadd hx hb dX12_topOf_42 ?_
    obtain rfl := Option.some.inj hf
    exact hQ _ _ _ _ dX12_topOf_43 hw
theorem mq_topOf : qCv RX12 191 yX12_topOf cX12_topOf 3 (some .int) 2 := ⟨⟨(mem_g 1376 (by decide +kernel) rfl), (mem_g 1378 (by decide +kernel) rfl), (mem_g 41 (by decide +kernel) rfl), (mem_g 89 (by decide +kernel) rfl), (mem_g 1379 (by decide +kernel) rfl)⟩, by decide, by decide +kernel, by decide⟩
def mf_next_L0 (N : Nat) : Nat → mS → Option (mS)
  | 0, _ => none
  | n + 1, S1 => (if (S1.1 18 0) ≤ (S1.1 40 0) then some S1 else (if ok (S1.1 40 0) 160 then (bm0 (if (S1.1 17 (S1.1 40 0).toNatClampNeg) = 32 then some (.inr ()) else (if (S1.1 17 (S1.1 40 0).toNatClampNeg) = 10 then some (.inr ()) else some (.inl (some S1)))) fun _ => mf_next_L0 N n (ms S1 40 0 ((S1.1 40 0) + 1))) else none))
set_option maxRecDepth 100000 in
theorem wm_next_L0 {p : Program} {l : Launch} {e : Env} {R : Room} {s : State} {m : MethodId} {args : Array Value} {below : List Frame} {meth : Method} {c : Code} {Q : State → Prop} {g : mG} {A : Nat → Prop} {H0 : Heap} (hc : qC RX12 cX12_next p s m args c) (hR : qRoom R 3) (hml : c.maxLocals = 5) (N : Nat) : ∀ (n : Nat) (S1 : mS) (X : mS) (H : Heap) (locs : List Loc) (ls : Array Slot), mf_next_L0 N n S1 = some X → mI g A H0 s S1 H locs → lv_has ls 5 [(0, .ref (mr g 0))] → (∀ (H : Heap) (locs : List Loc) (ls : Array Slot), mI g A H0 s X H locs → lv_has ls 5 [(0, .ref (mr g 0))] → W p l e R s m args below meth c H locs 0 0 Q (F0 m 52 ls [])) → W p l e R s m args below meth c H locs 0 0 Q (F0 m 0 ls []) := by
  have hx := hc.1
  have hb := hc.2.1
  intro n
  induction n with
  | zero => intro _ X H locs ls hf; exact nomatch (show none = some X from hf)
  | succ n ih =>
    intro S1 X H locs ls hf hw hl kx
    rw [mf_next_L0] at hf
    refine lv_aload_n hx hb dX12_next_0 rfl (lv_at hl 0 rfl) ?_
    refine m_g40 hc hw dX12_next_1 ?_
    refine lv_aload_n hx hb dX12_next_4 rfl (lv_at hl 0 rfl) ?_
    refine m_g18 hc hw dX12_next_5 ?_
    refine lv_icmp_ge (tgt := 52) hx hb dX12_next_8 (by decide) (fun cn21 => ?_) (fun cn21 => ?_)
    · have hf := (if_pos cn21).symm.trans hf
      obtain rfl := Option.some.inj hf
      exact kx _ _ _ hw (lv_sub hl [0] rfl)
    · have hf := (if_neg cn21).symm.trans hf
      refine lv_aload_n hx hb dX12_next_11 rfl (lv_at hl 0 rfl) ?_
      refine m_g17 hc hw dX12_next_12 ?_
      refine lv_aload_n hx hb dX12_next_15 rfl (lv_at hl 0 rfl) ?_
      refine m_g40 hc hw dX12_next_16 ?_
      obtain ⟨hi2, hf⟩ := gd_some hf
      refine m_l17 hc hw (ok_in hi2) dX12_next_19 ?_
      refine lv_bipush (v := 32) hx hb dX12_next_20 (by decide) ?_
      obtain ⟨Y, hX22, hf⟩ := bm0_some hf
      have kJ23 : Y = .inr () → ∀ (H : Heap) (locs : List Loc) (ls : Array Slot), mI g A H0 s S1 H locs → lv_has ls 5 [(0, .ref (mr g 0))] → W p l e R s m args below meth c H locs 0 0 Q (F0 m 39 ls []) := by
        intro  hY H locs ls hw hl
        subst hY
        have hf := bc0_r hf
        refine lv_aload_n hx hb dX12_next_39 rfl (lv_at hl 0 rfl) ?_
        refine lv_dup hx hb dX12_next_40 rfl ?_
        refine m_g40 hc hw dX12_next_41 ?_
        refine lv_iconst (v := 1) hx hb dX12_next_44 (by decide) ?_
        refine lv_iadd hx hb dX12_next_45 ?_
        refine m_p40 hc hw dX12_next_46 (fun H locs hw => ?_)
        refine lv_goto (tgt := 0) hx hb dX12_next_49 (by decide) ?_
        exact ih _ X _ _ _ hf hw (lv_sub hl [0] rfl) kx
      refine lv_icmp_eq (tgt := 39) hx hb dX12_next_22 (by decide) (fun cn24 => ?_) (fun cn24 => ?_)
      · have hX22 := (if_pos cn24).symm.trans hX22
        exact kJ23 (Option.some.inj hX22).symm _ _ _ hw (lv_sub hl [0] rfl)
      · have hX22 := (if_neg cn24).symm.trans hX22
        refine lv_aload_n hx hb dX12_next_25 rfl (lv_at hl 0 rfl) ?_
        refine m_g17 hc hw dX12_next_26 ?_
        refine lv_aload_n hx hb dX12_next_29 rfl (lv_at hl 0 rfl) ?_
        refine m_g40 hc hw dX12_next_30 ?_
        refine m_l17 hc hw (ok_in hi2) dX12_next_33 ?_
        refine lv_bipush (v := 10) hx hb dX12_next_34 (by decide) ?_
        refine lv_icmp_ne (tgt := 52) hx hb dX12_next_36 (by decide) (fun cn25 => ?_) (fun cn25 => ?_)
        · have hX22 := (if_neg cn25).symm.trans hX22
          obtain rfl := Option.some.inj hX22
          have hf := bc0_l hf
          obtain rfl := Option.some.inj hf
          exact kx _ _ _ hw (lv_sub hl [0] rfl)
        · have hX22 := (if_pos cn25).symm.trans hX22
          exact kJ23 (Option.some.inj hX22).symm _ _ _ hw (lv_sub hl [0] rfl)
def mf_next_L214 (N : Nat) : Nat → mS → Int32 → Option (Int32 × mS)
  | 0, _, _ => none
  | n + 1, S8, v7 => (if (S8.1 18 0) ≤ (S8.1 40 0) then some (v7, S8) else (if ok (S8.1 40 0) 160 then (if (mf_in (S8.1 17 (S8.1 40 0).toNatClampNeg) 48 57) = true then mf_next_L214 N n (ms (ms S8 43 0 ((if 4 ≤ v7 then 0 else ((10 * (S8.1 43 0)) + (S8.1 17 (S8.1 40 0).toNatClampNeg)) - 48) : Int32)) 40 0 (((ms S8 43 0 ((if 4 ≤ v7 then 0 else ((10 * (S8.1 43 0)) + (S8.1 17 (S8.1 40 0).toNatClampNeg)) - 48) : Int32)).1 40 0) + 1)) (v7 + 1) else some (v7, S8)) else none))
set_option maxRecDepth 100000 in
theorem wm_next_L214 {p : Program} {l : Launch} {e : Env} {R : Room} {s : State} {m : MethodId} {args : Array Value} {below : List Frame} {meth : Method} {c : Code} {Q : State → Prop} {g : mG} {A : Nat → Prop} {H0 : Heap} (hc : qC RX12 cX12_next p s m args c) (hR : qRoom R 3) (hml : c.maxLocals = 5) (N : Nat) : ∀ (n : Nat) (S8 : mS) (v7 : Int32) (X : Int32 × mS) (H : Heap) (locs : List Loc) (ls : Array Slot), mf_next_L214 N n S8 v7 = some X → mI g A H0 s S8 H locs → lv_has ls 5 [(0, .ref (mr g 0)), (2, .int v7)] → (∀ (H : Heap) (locs : List Loc) (ls : Array Slot), mI g A H0 s X.2 H locs → lv_has ls 5 [(0, .ref (mr g 0)), (2, .int X.1)] → W p l e R s m args below meth c H locs 0 0 Q (F0 m 293 ls [])) → W p l e R s m args below meth c H locs 0 0 Q (F0 m 214 ls []) := by
  have hx := hc.1
  have hb := hc.2.1
  intro n
  induction n with
  | zero => intro _ _ X H locs ls hf; exact nomatch (show none = some X from hf)
  | succ n ih =>
    intro S8 v7 X H locs ls hf hw hl kx
    rw [mf_next_L214] at hf
    refine lv_aload_n hx hb dX12_next_214 rfl (lv_at hl 0 rfl) ?_
    refine m_g40 hc hw dX12_next_215 ?_
    refine lv_aload_n hx hb dX12_next_218 rfl (lv_at hl 0 rfl) ?_
    refine m_g18 hc hw dX12_next_219 ?_
    refine lv_icmp_ge (tgt := 293) hx hb dX12_next_222 (by decide) (fun cn41 => ?_) (fun cn41 => ?_)
    · have hf := (if_pos cn41).symm.trans hf
      obtain rfl := Option.some.inj hf
      exact kx _ _ _ hw (lv_sub hl [0, 1] rfl)
    · have hf := (if_neg cn41).symm.trans hf
      refine lv_aload_n hx hb dX12_next_225 rfl (lv_at hl 0 rfl) ?_
      refine m_g17 hc hw dX12_next_226 ?_
      refine lv_aload_n hx hb dX12_next_229 rfl (lv_at hl 0 rfl) ?_
      refine m_g40 hc hw dX12_next_230 ?_
      obtain ⟨hi9, hf⟩ := gd_some hf
      refine m_l17 hc hw (ok_in hi9) dX12_next_233 ?_
      refine lv_bipush (v := 48) hx hb dX12_next_234 (by decide) ?_
      refine lv_bipush (v := 57) hx hb dX12_next_236 (by decide) ?_
      refine m_csi (As := [.int (S8.1 17 (S8.1 40 0).toNatClampNeg), .int 48, .int 57]) (rest := []) hc hw hR (hml.trans hl.1.symm) (cm_in l S8 (S8.1 17 (S8.1 40 0).toNatClampNeg) 48 57 _ rfl) mq_in (by decide) rfl rfl rfl (Nat.le_of_ble_eq_true rfl) dX12_next_238 (fun H locs hw => ?_) ⟨Nat.zero_le _, Nat.zero_le _⟩
      refine lv_if_eqb (tgt := 293) hx hb dX12_next_241 (by decide) (fun cn42 => ?_) (fun cn42 => ?_)
      · have hf := (if_neg cn42).symm.trans hf
        obtain rfl := Option.some.inj hf
        exact kx _ _ _ hw (lv_sub hl [0, 1] rfl)
      · have hf := (if_pos cn42).symm.trans hf
        refine lv_aload_n hx hb dX12_next_244 rfl (lv_at hl 0 rfl) ?_
        refine lv_iload_n hx hb dX12_next_245 rfl (lv_at hl 1 rfl) ?_
        refine lv_iconst (v := 4) hx hb dX12_next_246 (by decide) ?_
        obtain ⟨v10, hv10⟩ : ∃ y : Int32, y = (if 4 ≤ v7 then 0 else ((10 * (S8.1 43 0)) + (S8.1 17 (S8.1 40 0).toNatClampNeg)) - 48) := ⟨_, rfl⟩
        try rw [← hv10] at hf
        have kJ43 : ∀ v10x : Int32, v10 = v10x → ∀ (H : Heap) (locs : List Loc) (ls : Array Slot), mI g A H0 s S8 H locs → lv_has ls 5 [(0, .ref (mr g 0)), (2, .int v7)] → W p l e R s m args below meth c H locs 0 0 Q (F0 m 274 ls [.int v10x, .ref (mr g 0)]) := by
          intro v10x hxv10 H locs ls hw hl
          subst hxv10
          refine m_p43 hc hw dX12_next_274 (fun H locs hw => ?_)
          refine lv_iinc (lv' := [(2, .int (v7 + 1)), (0, .ref (mr g 0))]) hx hb dX12_next_277 hl (k := 1) rfl rfl (by decide) rfl (fun ls hl => ?_)
          refine lv_aload_n hx hb dX12_next_280 rfl (lv_at hl 1 rfl) ?_
          refine lv_dup hx hb dX12_next_281 rfl ?_
          refine m_g40 hc hw dX12_next_282 ?_
          refine lv_iconst (v := 1) hx hb dX12_next_285 (by decide) ?_
          refine lv_iadd hx hb dX12_next_286 ?_
          refine m_p40 hc hw dX12_next_287 (fun H locs hw => ?_)
          refine lv_goto (tgt := 214) hx hb dX12_next_290 (by decide) ?_
          exact ih _ _ X _ _ _ hf hw (lv_sub hl [1, 0] rfl) kx
        refine lv_icmp_ge (tgt := 273) hx hb dX12_next_247 (by decide) (fun cn44 => ?_) (fun cn44 => ?_)
        · refine lv_iconst (v := 0) hx hb dX12_next_273 (by decide) ?_
          have ev10 : v10 = (0 : Int32) := by rw [hv10]; simp only [if_pos cn44]
          exact kJ43 _ ev10 _ _ _ hw (lv_sub hl [0, 1] rfl)
        · refine lv_bipush (v := 10) hx hb dX12_next_250 (by decide) ?_
          refine lv_aload_n hx hb dX12_next_252 rfl (lv_at hl 0 rfl) ?_
          refine m_g43 hc hw dX12_next_253 ?_
          refine lv_imul hx hb dX12_next_256 ?_
          refine lv_aload_n hx hb dX12_next_257 rfl (lv_at hl 0 rfl) ?_
          refine m_g17 hc hw dX12_next_258 ?_
          refine lv_aload_n hx hb dX12_next_261 rfl (lv_at hl 0 rfl) ?_
          refine m_g40 hc hw dX12_next_262 ?_
          refine m_l17 hc hw (ok_in hi9) dX12_next_265 ?_
          refine lv_iadd hx hb dX12_next_266 ?_
          refine lv_bipush (v := 48) hx hb dX12_next_267 (by decide) ?_
          refine lv_isub hx hb dX12_next_269 ?_
          refine lv_goto (tgt := 274) hx hb dX12_next_270 (by decide) ?_
          have ev10 : v10 = (((10 * (S8.1 43 0)) + (S8.1 17 (S8.1 40 0).toNatClampNeg)) - 48) := by rw [hv10]; simp only [if_neg cn44]
          exact kJ43 _ ev10 _ _ _ hw (lv_sub hl [0, 1] rfl)
def mf_next_L111 (N : Nat) (c15 : Int64) : Nat → mS → Int32 → Option (Int32)
  | 0, _, _ => none
  | n + 1, S17, v16 => (if 12 ≤ v16 then some v16 else (if ok v16 12 then (if (lg_cmp (S17.2 44 v16.toNatClampNeg) c15) = 0 then some v16 else mf_next_L111 N c15 n S17 (v16 + 1)) else none))
set_option maxRecDepth 100000 in
theorem wm_next_L111 {p : Program} {l : Launch} {e : Env} {R : Room} {s : State} {m : MethodId} {args : Array Value} {below : List Frame} {meth : Method} {c : Code} {Q : State → Prop} {g : mG} {A : Nat → Prop} {H0 : Heap} (hc : qC RX12 cX12_next p s m args c) (hR : qRoom R 3) (hml : c.maxLocals = 5) (N : Nat) (c15 : Int64) : ∀ (n : Nat) (S17 : mS) (v16 : Int32) (X : Int32) (H : Heap) (locs : List Loc) (ls : Array Slot), mf_next_L111 N c15 n S17 v16 = some X → mI g A H0 s S17 H locs → lv_has ls 5 [(0, .ref (mr g 0)), (2, .long c15), (4, .int v16)] → (∀ (H : Heap) (locs : List Loc) (ls : Array Slot), mI g A H0 s S17 H locs → lv_has ls 5 [(0, .ref (mr g 0)), (4, .int X)] → W p l e R s m args below meth c H locs 0 0 Q (F0 m 136 ls [])) → W p l e R s m args below meth c H locs 0 0 Q (F0 m 111 ls []) := by
  have hx := hc.1
  have hb := hc.2.1
  intro n
  induction n with
  | zero => intro _ _ X H locs ls hf; exact nomatch (show none = some X from hf)
  | succ n ih =>
    intro S17 v16 X H locs ls hf hw hl kx
    rw [mf_next_L111] at hf
    refine lv_iload hx hb dX12_next_111 (lv_at hl 2 rfl) ?_
    refine lv_bipush (v := 12) hx hb dX12_next_113 (by decide) ?_
    refine lv_icmp_ge (tgt := 136) hx hb dX12_next_115 (by decide) (fun cn48 => ?_) (fun cn48 => ?_)
    · have hf := (if_pos cn48).symm.trans hf
      obtain rfl := Option.some.inj hf
      exact kx _ _ _ hw (lv_sub hl [0, 2] rfl)
    · have hf := (if_neg cn48).symm.trans hf
      refine lv_aload_n hx hb dX12_next_118 rfl (lv_at hl 0 rfl) ?_
      refine m_g44 hc hw dX12_next_119 ?_
      refine lv_iload hx hb dX12_next_122 (lv_at hl 2 rfl) ?_
      obtain ⟨hi18, hf⟩ := gd_some hf
      refine m_l44 hc hw (ok_in hi18) dX12_next_124 ?_
      refine lv_lload_n hx hb dX12_next_125 rfl (lv_at hl 1 rfl) ?_
      refine W.lcmp hx hb dX12_next_126 ?_
      refine lv_if_eq (tgt := 136) hx hb dX12_next_127 (by decide) (fun cn49 => ?_) (fun cn49 => ?_)
      · have hf := (if_pos cn49).symm.trans hf
        obtain rfl := Option.some.inj hf
        exact kx _ _ _ hw (lv_sub hl [0, 2] rfl)
      · have hf := (if_neg cn49).symm.trans hf
        refine lv_iinc (lv' := [(4, .int (v16 + 1)), (0, .ref (mr g 0)), (2, .long c15)]) hx hb dX12_next_130 hl (k := 2) rfl rfl (by decide) rfl (fun ls hl => ?_)
        refine lv_goto (tgt := 111) hx hb dX12_next_133 (by decide) ?_
        exact ih _ _ X _ _ _ hf hw (lv_sub hl [1, 2, 0] rfl) kx
def mf_next (N : Nat) (S : mS) : Option (mS) := (bd1 (mf_next_L0 N N S) fun S3 => (if ((ms (ms (ms S3 41 0 (S3.1 40 0)) 42 0 0) 43 0 0).1 40 0) = ((ms (ms (ms S3 41 0 (S3.1 40 0)) 42 0 0) 43 0 0).1 18 0) then some (ms (ms (ms S3 41 0 (S3.1 40 0)) 42 0 0) 43 0 0) else (if ok ((ms (ms (ms S3 41 0 (S3.1 40 0)) 42 0 0) 43 0 0).1 40 0) 160 then (if (mf_in ((ms (ms (ms S3 41 0 (S3.1 40 0)) 42 0 0) 43 0 0).1 17 ((ms (ms (ms S3 41 0 (S3.1 40 0)) 42 0 0) 43 0 0).1 40 0).toNatClampNeg) 97 122) = true then (bd2 (mf_letters N (ms (ms (ms S3 41 0 (S3.1 40 0)) 42 0 0) 43 0 0)) fun v13 S14 => (bd1 (mf_next_L111 N v13 N S14 0) fun v19 => (if 3 ≤ v19 then some (ms (ms S14 42 0 ((if 3 ≤ v19 then (if 9 ≤ v19 then (if v19 = 12 then (-1) else (4 + v19) - 9) else 2) else 3) : Int32)) 43 0 (v19 - 3)) else some (ms (ms S14 42 0 ((if 3 ≤ v19 then (if 9 ≤ v19 then (if v19 = 12 then (-1) else (4 + v19) - 9) else 2) else 3) : Int32)) 43 0 v19)))) else (if (mf_in ((ms (ms (ms S3 41 0 (S3.1 40 0)) 42 0 0) 43 0 0).1 17 ((ms (ms (ms S3 41 0 (S3.1 40 0)) 42 0 0) 43 0 0).1 40 0).toNatClampNeg) 48 57) = true then (bd2 (mf_next_L214 N N (ms (ms (ms S3 41 0 (S3.1 40 0)) 42 0 0) 43 0 0) 0) fun v11 S12 => (if v11 ≤ 4 then some (ms S12 42 0 1) else some (ms S12 42 0 (-1)))) else some (ms (ms (ms (ms (ms S3 41 0 (S3.1 40 0)) 42 0 0) 43 0 0) 42 0 ((if ((if ((ms (ms (ms S3 41 0 (S3.1 40 0)) 42 0 0) 43 0 0).1 17 ((ms (ms (ms S3 41 0 (S3.1 40 0)) 42 0 0) 43 0 0).1 40 0).toNatClampNeg) = 40 then 1 else (if ((ms (ms (ms S3 41 0 (S3.1 40 0)) 42 0 0) 43 0 0).1 17 ((ms (ms (ms S3 41 0 (S3.1 40 0)) 42 0 0) 43 0 0).1 40 0).toNatClampNeg) = 41 then 1 else (if ((ms (ms (ms S3 41 0 (S3.1 40 0)) 42 0 0) 43 0 0).1 17 ((ms (ms (ms S3 41 0 (S3.1 40 0)) 42 0 0) 43 0 0).1 40 0).toNatClampNeg) = 59 then 1 else (if ((ms (ms (ms S3 41 0 (S3.1 40 0)) 42 0 0) 43 0 0).1 17 ((ms (ms (ms S3 41 0 (S3.1 40 0)) 42 0 0) 43 0 0).1 40 0).toNatClampNeg) = 43 then 1 else (if ((ms (ms (ms S3 41 0 (S3.1 40 0)) 42 0 0) 43 0 0).1 17 ((ms (ms (ms S3 41 0 (S3.1 40 0)) 42 0 0) 43 0 0).1 40 0).toNatClampNeg) = 45 then 1 else (if ((ms (ms (ms S3 41 0 (S3.1 40 0)) 42 0 0) 43 0 0).1 17 ((ms (ms (ms S3 41 0 (S3.1 40 0)) 42 0 0) 43 0 0).1 40 0).toNatClampNeg) = 42 then 1 else (if ((ms (ms (ms S3 41 0 (S3.1 40 0)) 42 0 0) 43 0 0).1 17 ((ms (ms (ms S3 41 0 (S3.1 40 0)) 42 0 0) 43 0 0).1 40 0).toNatClampNeg) = 60 then 1 else (if ((ms (ms (ms S3 41 0 (S3.1 40 0)) 42 0 0) 43 0 0).1 17 ((ms (ms (ms S3 41 0 (S3.1 40 0)) 42 0 0) 43 0 0).1 40 0).toNatClampNeg) = 61 then 1 else 0)))))))) : Int32) = 0 then (-1) else (ms (ms (ms S3 41 0 (S3.1 40 0)) 42 0 0) 43 0 0).1 17 ((ms (ms (ms S3 41 0 (S3.1 40 0)) 42 0 0) 43 0 0).1 40 0).toNatClampNeg) : Int32)) 40 0 (((ms (ms (ms (ms S3 41 0 (S3.1 40 0)) 42 0 0) 43 0 0) 42 0 ((if ((if ((ms (ms (ms S3 41 0 (S3.1 40 0)) 42 0 0) 43 0 0).1 17 ((ms (ms (ms S3 41 0 (S3.1 40 0)) 42 0 0) 43 0 0).1 40 0).toNatClampNeg) = 40 then 1 else (if ((ms (ms (ms S3 41 0 (S3.1 40 0)) 42 0 0) 43 0 0).1 17 ((ms (ms (ms S3 41 0 (S3.1 40 0)) 42 0 0) 43 0 0).1 40 0).toNatClampNeg) = 41 then 1 else (if ((ms (ms (ms S3 41 0 (S3.1 40 0)) 42 0 0) 43 0 0).1 17 ((ms (ms (ms S3 41 0 (S3.1 40 0)) 42 0 0) 43 0 0).1 40 0).toNatClampNeg) = 59 then 1 else (if ((ms (ms (ms S3 41 0 (S3.1 40 0)) 42 0 0) 43 0 0).1 17 ((ms (ms (ms S3 41 0 (S3.1 40 0)) 42 0 0) 43 0 0).1 40 0).toNatClampNeg) = 43 then 1 else (if ((ms (ms (ms S3 41 0 (S3.1 40 0)) 42 0 0) 43 0 0).1 17 ((ms (ms (ms S3 41 0 (S3.1 40 0)) 42 0 0) 43 0 0).1 40 0).toNatClampNeg) = 45 then 1 else (if ((ms (ms (ms S3 41 0 (S3.1 40 0)) 42 0 0) 43 0 0).1 17 ((ms (ms (ms S3 41 0 (S3.1 40 0)) 42 0 0) 43 0 0).1 40 0).toNatClampNeg) = 42 then 1 else (if ((ms (ms (ms S3 41 0 (S3.1 40 0)) 42 0 0) 43 0 0).1 17 ((ms (ms (ms S3 41 0 (S3.1 40 0)) 42 0 0) 43 0 0).1 40 0).toNatClampNeg) = 60 then 1 else (if ((ms (ms (ms S3 41 0 (S3.1 40 0)) 42 0 0) 43 0 0).1 17 ((ms (ms (ms S3 41 0 (S3.1 40 0)) 42 0 0) 43 0 0).1 40 0).toNatClampNeg) = 61 then 1 else 0)))))))) : Int32) = 0 then (-1) else (ms (ms (ms S3 41 0 (S3.1 40 0)) 42 0 0) 43 0 0).1 17 ((ms (ms (ms S3 41 0 (S3.1 40 0)) 42 0 0) 43 0 0).1 40 0).toNatClampNeg) : Int32)).1 40 0) + 1)))) else none)))
set_option maxRecDepth 100000 in
theorem cm_next (l : Launch) (N : Nat) (S : mS) (S1 : mS) (hf : mf_next N S = some S1) : mMv l yX12_next cX12_next 5 3 (fun g => [.ref (mr g 0)]) S S1 := by
  refine mMv_of (own := RX12) (by decide) rfl (fun g => Nat.le_of_ble_eq_true rfl) ?_
  intro p e R s m args below meth c Q g A H0 H locs ls hc hR hml hw hl hQ
  have hl : lv_has ls 5 [(0, .ref (mr g 0))] := hl
  have hx := hc.1
  have hb := hc.2.1
  unfold mf_next at hf
  obtain ⟨S3, hL, hf⟩ := bd1_some hf
  refine wm_next_L0 hc hR hml N N _ _ _ _ _ hL hw (lv_sub hl [0] rfl) (fun H locs ls hw hl => ?_)
  refine lv_aload_n hx hb dX12_next_52 rfl (lv_at hl 0 rfl) ?_
  refine lv_aload_n hx hb dX12_next_53 rfl (lv_at hl 0 rfl) ?_
  refine m_g40 hc hw dX12_next_54 ?_
  refine m_p41 hc hw dX12_next_57 (fun H locs hw => ?_)
  refine lv_aload_n hx hb dX12_next_60 rfl (lv_at hl 0 rfl) ?_
  refine lv_iconst (v := 0) hx hb dX12_next_61 (by decide) ?_
  refine m_p42 hc hw dX12_next_62 (fun H locs hw => ?_)
  refine lv_aload_n hx hb dX12_next_65 rfl (lv_at hl 0 rfl) ?_
  refine lv_iconst (v := 0) hx hb dX12_next_66 (by decide) ?_
  refine m_p43 hc hw dX12_next_67 (fun H locs hw => ?_)
  refine lv_aload_n hx hb dX12_next_70 rfl (lv_at hl 0 rfl) ?_
  refine m_g40 hc hw dX12_next_71 ?_
  refine lv_aload_n hx hb dX12_next_74 rfl (lv_at hl 0 rfl) ?_
  refine m_g18 hc hw dX12_next_75 ?_
  refine lv_icmp_ne (tgt := 82) hx hb dX12_next_78 (by decide) (fun cn27 => ?_) (fun cn27 => ?_)
  · have hf := (if_neg cn27).symm.trans hf
    refine lv_aload_n hx hb dX12_next_82 rfl (lv_at hl 0 rfl) ?_
    refine m_g17 hc hw dX12_next_83 ?_
    refine lv_aload_n hx hb dX12_next_86 rfl (lv_at hl 0 rfl) ?_
    refine m_g40 hc hw dX12_next_87 ?_
    obtain ⟨hi4, hf⟩ := gd_some hf
    refine m_l17 hc hw (ok_in hi4) dX12_next_90 ?_
    refine lv_istore_n (lv' := [(1, .int ((ms (ms (ms S3 41 0 (S3.1 40 0)) 42 0 0) 43 0 0).1 17 ((ms (ms (ms S3 41 0 (S3.1 40 0)) 42 0 0) 43 0 0).1 40 0).toNatClampNeg)), (0, .ref (mr g 0))]) hx hb dX12_next_91 rfl hl (by decide) rfl (fun ls hl => ?_)
    refine lv_iload_n hx hb dX12_next_92 rfl (lv_at hl 0 rfl) ?_
    refine lv_bipush (v := 97) hx hb dX12_next_93 (by decide) ?_
    refine lv_bipush (v := 122) hx hb dX12_next_95 (by decide) ?_
    refine m_csi (As := [.int ((ms (ms (ms S3 41 0 (S3.1 40 0)) 42 0 0) 43 0 0).1 17 ((ms (ms (ms S3 41 0 (S3.1 40 0)) 42 0 0) 43 0 0).1 40 0).toNatClampNeg), .int 97, .int 122]) (rest := []) hc hw hR (hml.trans hl.1.symm) (cm_in l (ms (ms (ms S3 41 0 (S3.1 40 0)) 42 0 0) 43 0 0) ((ms (ms (ms S3 41 0 (S3.1 40 0)) 42 0 0) 43 0 0).1 17 ((ms (ms (ms S3 41 0 (S3.1 40 0)) 42 0 0) 43 0 0).1 40 0).toNatClampNeg) 97 122 _ rfl) mq_in (by decide) rfl rfl rfl (Nat.le_of_ble_eq_true rfl) dX12_next_97 (fun H locs hw => ?_) ⟨Nat.zero_le _, Nat.zero_le _⟩
    refine lv_if_eqb (tgt := 201) hx hb dX12_next_100 (by decide) (fun cn28 => ?_) (fun cn28 => ?_)
    · have hf := (if_neg cn28).symm.trans hf
      refine lv_iload_n hx hb dX12_next_201 rfl (lv_at hl 0 rfl) ?_
      refine lv_bipush (v := 48) hx hb dX12_next_202 (by decide) ?_
      refine lv_bipush (v := 57) hx hb dX12_next_204 (by decide) ?_
      refine m_csi (As := [.int ((ms (ms (ms S3 41 0 (S3.1 40 0)) 42 0 0) 43 0 0).1 17 ((ms (ms (ms S3 41 0 (S3.1 40 0)) 42 0 0) 43 0 0).1 40 0).toNatClampNeg), .int 48, .int 57]) (rest := []) hc hw hR (hml.trans hl.1.symm) (cm_in l (ms (ms (ms S3 41 0 (S3.1 40 0)) 42 0 0) 43 0 0) ((ms (ms (ms S3 41 0 (S3.1 40 0)) 42 0 0) 43 0 0).1 17 ((ms (ms (ms S3 41 0 (S3.1 40 0)) 42 0 0) 43 0 0).1 40 0).toNatClampNeg) 48 57 _ rfl) mq_in (by decide) rfl rfl rfl (Nat.le_of_ble_eq_true rfl) dX12_next_206 (fun H locs hw => ?_) ⟨Nat.zero_le _, Nat.zero_le _⟩
      refine lv_if_eqb (tgt := 310) hx hb dX12_next_209 (by decide) (fun cn29 => ?_) (fun cn29 => ?_)
      · have hf := (if_neg cn29).symm.trans hf
        refine lv_iload_n hx hb dX12_next_310 rfl (lv_at hl 0 rfl) ?_
        refine lv_bipush (v := 40) hx hb dX12_next_311 (by decide) ?_
        obtain ⟨v5, hv5⟩ : ∃ y : Int32, y = (if ((ms (ms (ms S3 41 0 (S3.1 40 0)) 42 0 0) 43 0 0).1 17 ((ms (ms (ms S3 41 0 (S3.1 40 0)) 42 0 0) 43 0 0).1 40 0).toNatClampNeg) = 40 then 1 else (if ((ms (ms (ms S3 41 0 (S3.1 40 0)) 42 0 0) 43 0 0).1 17 ((ms (ms (ms S3 41 0 (S3.1 40 0)) 42 0 0) 43 0 0).1 40 0).toNatClampNeg) = 41 then 1 else (if ((ms (ms (ms S3 41 0 (S3.1 40 0)) 42 0 0) 43 0 0).1 17 ((ms (ms (ms S3 41 0 (S3.1 40 0)) 42 0 0) 43 0 0).1 40 0).toNatClampNeg) = 59 then 1 else (if ((ms (ms (ms S3 41 0 (S3.1 40 0)) 42 0 0) 43 0 0).1 17 ((ms (ms (ms S3 41 0 (S3.1 40 0)) 42 0 0) 43 0 0).1 40 0).toNatClampNeg) = 43 then 1 else (if ((ms (ms (ms S3 41 0 (S3.1 40 0)) 42 0 0) 43 0 0).1 17 ((ms (ms (ms S3 41 0 (S3.1 40 0)) 42 0 0) 43 0 0).1 40 0).toNatClampNeg) = 45 then 1 else (if ((ms (ms (ms S3 41 0 (S3.1 40 0)) 42 0 0) 43 0 0).1 17 ((ms (ms (ms S3 41 0 (S3.1 40 0)) 42 0 0) 43 0 0).1 40 0).toNatClampNeg) = 42 then 1 else (if ((ms (ms (ms S3 41 0 (S3.1 40 0)) 42 0 0) 43 0 0).1 17 ((ms (ms (ms S3 41 0 (S3.1 40 0)) 42 0 0) 43 0 0).1 40 0).toNatClampNeg) = 60 then 1 else (if ((ms (ms (ms S3 41 0 (S3.1 40 0)) 42 0 0) 43 0 0).1 17 ((ms (ms (ms S3 41 0 (S3.1 40 0)) 42 0 0) 43 0 0).1 40 0).toNatClampNeg) = 61 then 1 else 0)))))))) := ⟨_, rfl⟩
        try rw [← hv5] at hf
        have kJ32 : ∀ v5x : Int32, v5 = v5x → ∀ (H : Heap) (locs : List Loc) (ls : Array Slot), mI g A H0 s (ms (ms (ms S3 41 0 (S3.1 40 0)) 42 0 0) 43 0 0) H locs → lv_has ls 5 [(0, .ref (mr g 0)), (1, .int ((ms (ms (ms S3 41 0 (S3.1 40 0)) 42 0 0) 43 0 0).1 17 ((ms (ms (ms S3 41 0 (S3.1 40 0)) 42 0 0) 43 0 0).1 40 0).toNatClampNeg))] → W p l e R s m args below meth c H locs 0 0 Q (F0 m 363 ls [.int v5x]) := by
          intro v5x hxv5 H locs ls hw hl
          subst hxv5
          refine lv_istore_n (lv' := [(2, .int v5), (0, .ref (mr g 0)), (1, .int ((ms (ms (ms S3 41 0 (S3.1 40 0)) 42 0 0) 43 0 0).1 17 ((ms (ms (ms S3 41 0 (S3.1 40 0)) 42 0 0) 43 0 0).1 40 0).toNatClampNeg))]) hx hb dX12_next_363 rfl hl (by decide) rfl (fun ls hl => ?_)
          refine lv_aload_n hx hb dX12_next_364 rfl (lv_at hl 1 rfl) ?_
          refine lv_iload_n hx hb dX12_next_365 rfl (lv_at hl 0 rfl) ?_
          obtain ⟨v6, hv6⟩ : ∃ y : Int32, y = (if v5 = 0 then (-1) else (ms (ms (ms S3 41 0 (S3.1 40 0)) 42 0 0) 43 0 0).1 17 ((ms (ms (ms S3 41 0 (S3.1 40 0)) 42 0 0) 43 0 0).1 40 0).toNatClampNeg) := ⟨_, rfl⟩
          try rw [← hv6] at hf
          have kJ30 : ∀ v6x : Int32, v6 = v6x → ∀ (H : Heap) (locs : List Loc) (ls : Array Slot), mI g A H0 s (ms (ms (ms S3 41 0 (S3.1 40 0)) 42 0 0) 43 0 0) H locs → lv_has ls 5 [(0, .ref (mr g 0))] → W p l e R s m args below meth c H locs 0 0 Q (F0 m 374 ls [.int v6x, .ref (mr g 0)]) := by
            intro v6x hxv6 H locs ls hw hl
            subst hxv6
            refine m_p42 hc hw dX12_next_374 (fun H locs hw => ?_)
            refine lv_aload_n hx hb dX12_next_377 rfl (lv_at hl 0 rfl) ?_
            refine lv_dup hx hb dX12_next_378 rfl ?_
            refine m_g40 hc hw dX12_next_379 ?_
            refine lv_iconst (v := 1) hx hb dX12_next_382 (by decide) ?_
            refine lv_iadd hx hb dX12_next_383 ?_
            refine m_p40 hc hw dX12_next_384 (fun H locs hw => ?_)
            obtain rfl := Option.some.inj hf
            exact hQ _ _ _ _ dX12_next_387 hw
          refine lv_if_eq (tgt := 373) hx hb dX12_next_366 (by decide) (fun cn31 => ?_) (fun cn31 => ?_)
          · refine lv_iconst (v := (-1)) hx hb dX12_next_373 (by decide) ?_
            have ev6 : v6 = ((-1) : Int32) := by rw [hv6]; simp only [if_pos cn31]
            exact kJ30 _ ev6 _ _ _ hw (lv_sub hl [1] rfl)
          · refine lv_iload_n hx hb dX12_next_369 rfl (lv_at hl 2 rfl) ?_
            refine lv_goto (tgt := 374) hx hb dX12_next_370 (by decide) ?_
            have ev6 : v6 = ((ms (ms (ms S3 41 0 (S3.1 40 0)) 42 0 0) 43 0 0).1 17 ((ms (ms (ms S3 41 0 (S3.1 40 0)) 42 0 0) 43 0 0).1 40 0).toNatClampNeg) := by rw [hv6]; simp only [if_neg cn31]
            exact kJ30 _ ev6 _ _ _ hw (lv_sub hl [1] rfl)
        refine lv_icmp_eq (tgt := 358) hx hb dX12_next_313 (by decide) (fun cn33 => ?_) (fun cn33 => ?_)
        · refine lv_iconst (v := 1) hx hb dX12_next_358 (by decide) ?_
          refine lv_goto (tgt := 363) hx hb dX12_next_359 (by decide) ?_
          have ev5 : v5 = (1 : Int32) := by rw [hv5]; simp only [if_pos cn33]
          exact kJ32 _ ev5 _ _ _ hw (lv_sub hl [1, 0] rfl)
        · refine lv_iload_n hx hb dX12_next_316 rfl (lv_at hl 0 rfl) ?_
          refine lv_bipush (v := 41) hx hb dX12_next_317 (by decide) ?_
          refine lv_icmp_eq (tgt := 358) hx hb dX12_next_319 (by decide) (fun cn34 => ?_) (fun cn34 => ?_)
          · refine lv_iconst (v := 1) hx hb dX12_next_358 (by decide) ?_
            refine lv_goto (tgt := 363) hx hb dX12_next_359 (by decide) ?_
            have ev5 : v5 = (1 : Int32) := by rw [hv5]; simp only [if_neg cn33, if_pos cn34]
            exact kJ32 _ ev5 _ _ _ hw (lv_sub hl [1, 0] rfl)
          · refine lv_iload_n hx hb dX12_next_322 rfl (lv_at hl 0 rfl) ?_
            refine lv_bipush (v := 59) hx hb dX12_next_323 (by decide) ?_
            refine lv_icmp_eq (tgt := 358) hx hb dX12_next_325 (by decide) (fun cn35 => ?_) (fun cn35 => ?_)
            · refine lv_iconst (v := 1) hx hb dX12_next_358 (by decide) ?_
              refine lv_goto (tgt := 363) hx hb dX12_next_359 (by decide) ?_
              have ev5 : v5 = (1 : Int32) := by rw [hv5]; simp only [if_neg cn33, if_neg cn34, if_pos cn35]
              exact kJ32 _ ev5 _ _ _ hw (lv_sub hl [1, 0] rfl)
            · refine lv_iload_n hx hb dX12_next_328 rfl (lv_at hl 0 rfl) ?_
              refine lv_bipush (v := 43) hx hb dX12_next_329 (by decide) ?_
              refine lv_icmp_eq (tgt := 358) hx hb dX12_next_331 (by decide) (fun cn36 => ?_) (fun cn36 => ?_)
              · refine lv_iconst (v := 1) hx hb dX12_next_358 (by decide) ?_
                refine lv_goto (tgt := 363) hx hb dX12_next_359 (by decide) ?_
                have ev5 : v5 = (1 : Int32) := by rw [hv5]; simp only [if_neg cn33, if_neg cn34, if_neg cn35, if_pos cn36]
                exact kJ32 _ ev5 _ _ _ hw (lv_sub hl [1, 0] rfl)
              · refine lv_iload_n hx hb dX12_next_334 rfl (lv_at hl 0 rfl) ?_
                refine lv_bipush (v := 45) hx hb dX12_next_335 (by decide) ?_
                refine lv_icmp_eq (tgt := 358) hx hb dX12_next_337 (by decide) (fun cn37 => ?_) (fun cn37 => ?_)
                · refine lv_iconst (v := 1) hx hb dX12_next_358 (by decide) ?_
                  refine lv_goto (tgt := 363) hx hb dX12_next_359 (by decide) ?_
                  have ev5 : v5 = (1 : Int32) := by rw [hv5]; simp only [if_neg cn33, if_neg cn34, if_neg cn35, if_neg cn36, if_pos cn37]
                  exact kJ32 _ ev5 _ _ _ hw (lv_sub hl [1, 0] rfl)
                · refine lv_iload_n hx hb dX12_next_340 rfl (lv_at hl 0 rfl) ?_
                  refine lv_bipush (v := 42) hx hb dX12_next_341 (by decide) ?_
                  refine lv_icmp_eq (tgt := 358) hx hb dX12_next_343 (by decide) (fun cn38 => ?_) (fun cn38 => ?_)
                  · refine lv_iconst (v := 1) hx hb dX12_next_358 (by decide) ?_
                    refine lv_goto (tgt := 363) hx hb dX12_next_359 (by decide) ?_
                    have ev5 : v5 = (1 : Int32) := by rw [hv5]; simp only [if_neg cn33, if_neg cn34, if_neg cn35, if_neg cn36, if_neg cn37, if_pos cn38]
                    exact kJ32 _ ev5 _ _ _ hw (lv_sub hl [1, 0] rfl)
                  · refine lv_iload_n hx hb dX12_next_346 rfl (lv_at hl 0 rfl) ?_
                    refine lv_bipush (v := 60) hx hb dX12_next_347 (by decide) ?_
                    refine lv_icmp_eq (tgt := 358) hx hb dX12_next_349 (by decide) (fun cn39 => ?_) (fun cn39 => ?_)
                    · refine lv_iconst (v := 1) hx hb dX12_next_358 (by decide) ?_
                      refine lv_goto (tgt := 363) hx hb dX12_next_359 (by decide) ?_
                      have ev5 : v5 = (1 : Int32) := by rw [hv5]; simp only [if_neg cn33, if_neg cn34, if_neg cn35, if_neg cn36, if_neg cn37, if_neg cn38, if_pos cn39]
                      exact kJ32 _ ev5 _ _ _ hw (lv_sub hl [1, 0] rfl)
                    · refine lv_iload_n hx hb dX12_next_352 rfl (lv_at hl 0 rfl) ?_
                      refine lv_bipush (v := 61) hx hb dX12_next_353 (by decide) ?_
                      refine lv_icmp_ne (tgt := 362) hx hb dX12_next_355 (by decide) (fun cn40 => ?_) (fun cn40 => ?_)
                      · refine lv_iconst (v := 0) hx hb dX12_next_362 (by decide) ?_
                        have ev5 : v5 = (0 : Int32) := by rw [hv5]; simp only [if_neg cn33, if_neg cn34, if_neg cn35, if_neg cn36, if_neg cn37, if_neg cn38, if_neg cn39, if_neg cn40]
                        exact kJ32 _ ev5 _ _ _ hw (lv_sub hl [1, 0] rfl)
                      · refine lv_iconst (v := 1) hx hb dX12_next_358 (by decide) ?_
                        refine lv_goto (tgt := 363) hx hb dX12_next_359 (by decide) ?_
                        have ev5 : v5 = (1 : Int32) := by rw [hv5]; simp only [if_neg cn33, if_neg cn34, if_neg cn35, if_neg cn36, if_neg cn37, if_neg cn38, if_neg cn39, if_pos cn40]
                        exact kJ32 _ ev5 _ _ _ hw (lv_sub hl [1, 0] rfl)
      · have hf := (if_pos cn29).symm.trans hf
        refine lv_iconst (v := 0) hx hb dX12_next_212 (by decide) ?_
        refine lv_istore_n (lv' := [(2, .int 0), (1, .int ((ms (ms (ms S3 41 0 (S3.1 40 0)) 42 0 0) 43 0 0).1 17 ((ms (ms (ms S3 41 0 (S3.1 40 0)) 42 0 0) 43 0 0).1 40 0).toNatClampNeg)), (0, .ref (mr g 0))]) hx hb dX12_next_213 rfl hl (by decide) rfl (fun ls hl => ?_)
        obtain ⟨v11, S12, hL, hf⟩ := bd2_some hf
        refine wm_next_L214 hc hR hml N N _ _ _ _ _ _ hL hw (lv_sub hl [2, 0] rfl) (fun H locs ls hw hl => ?_)
        refine lv_aload_n hx hb dX12_next_293 rfl (lv_at hl 0 rfl) ?_
        refine lv_iload_n hx hb dX12_next_294 rfl (lv_at hl 1 rfl) ?_
        refine lv_iconst (v := 4) hx hb dX12_next_295 (by decide) ?_
        refine lv_icmp_le (tgt := 303) hx hb dX12_next_296 (by decide) (fun cn47 => ?_) (fun cn47 => ?_)
        · have hf := (if_pos cn47).symm.trans hf
          refine lv_iconst (v := 1) hx hb dX12_next_303 (by decide) ?_
          refine m_p42 hc hw dX12_next_304 (fun H locs hw => ?_)
          refine lv_goto (tgt := 387) hx hb dX12_next_307 (by decide) ?_
          obtain rfl := Option.some.inj hf
          exact hQ _ _ _ _ dX12_next_387 hw
        · have hf := (if_neg cn47).symm.trans hf
          refine lv_iconst (v := (-1)) hx hb dX12_next_299 (by decide) ?_
          refine lv_goto (tgt := 304) hx hb dX12_next_300 (by decide) ?_
          refine m_p42 hc hw dX12_next_304 (fun H locs hw => ?_)
          refine lv_goto (tgt := 387) hx hb dX12_next_307 (by decide) ?_
          obtain rfl := Option.some.inj hf
          exact hQ _ _ _ _ dX12_next_387 hw
    · have hf := (if_pos cn28).symm.trans hf
      refine lv_aload_n hx hb dX12_next_103 rfl (lv_at hl 1 rfl) ?_
      obtain ⟨v13, S14, hcall, hf⟩ := bd2_some hf
      refine m_cvl (As := []) (rest := []) hc hw hR (hml.trans hl.1.symm) (cm_letters l N (ms (ms (ms S3 41 0 (S3.1 40 0)) 42 0 0) 43 0 0) v13 S14 hcall) mq_letters rfl (by decide) rfl rfl rfl (Nat.le_of_ble_eq_true rfl) dX12_next_104 (fun H locs hw => ?_) ⟨Nat.zero_le _, Nat.zero_le _⟩
      refine lv_lstore_n (lv' := [(2, .long v13), (1, .int ((ms (ms (ms S3 41 0 (S3.1 40 0)) 42 0 0) 43 0 0).1 17 ((ms (ms (ms S3 41 0 (S3.1 40 0)) 42 0 0) 43 0 0).1 40 0).toNatClampNeg)), (0, .ref (mr g 0))]) hx hb dX12_next_107 rfl hl (by decide) rfl (fun ls hl => ?_)
      refine lv_iconst (v := 0) hx hb dX12_next_108 (by decide) ?_
      refine lv_istore (lv' := [(4, .int 0), (2, .long v13), (1, .int ((ms (ms (ms S3 41 0 (S3.1 40 0)) 42 0 0) 43 0 0).1 17 ((ms (ms (ms S3 41 0 (S3.1 40 0)) 42 0 0) 43 0 0).1 40 0).toNatClampNeg)), (0, .ref (mr g 0))]) hx hb dX12_next_109 hl (by decide) rfl (fun ls hl => ?_)
      obtain ⟨v19, hL, hf⟩ := bd1_some hf
      refine wm_next_L111 hc hR hml N v13 N _ _ _ _ _ _ hL hw (lv_sub hl [3, 1, 0] rfl) (fun H locs ls hw hl => ?_)
      refine lv_aload_n hx hb dX12_next_136 rfl (lv_at hl 0 rfl) ?_
      refine lv_iload hx hb dX12_next_137 (lv_at hl 1 rfl) ?_
      refine lv_iconst (v := 3) hx hb dX12_next_139 (by decide) ?_
      obtain ⟨v20, hv20⟩ : ∃ y : Int32, y = (if 3 ≤ v19 then (if 9 ≤ v19 then (if v19 = 12 then (-1) else (4 + v19) - 9) else 2) else 3) := ⟨_, rfl⟩
      try rw [← hv20] at hf
      have kJ52 : ∀ v20x : Int32, v20 = v20x → ∀ (H : Heap) (locs : List Loc) (ls : Array Slot), mI g A H0 s S14 H locs → lv_has ls 5 [(0, .ref (mr g 0)), (4, .int v19)] → W p l e R s m args below meth c H locs 0 0 Q (F0 m 176 ls [.int v20x, .ref (mr g 0)]) := by
        intro v20x hxv20 H locs ls hw hl
        subst hxv20
        refine m_p42 hc hw dX12_next_176 (fun H locs hw => ?_)
        refine lv_aload_n hx hb dX12_next_179 rfl (lv_at hl 0 rfl) ?_
        refine lv_iload hx hb dX12_next_180 (lv_at hl 1 rfl) ?_
        refine lv_iconst (v := 3) hx hb dX12_next_182 (by decide) ?_
        refine lv_icmp_ge (tgt := 191) hx hb dX12_next_183 (by decide) (fun cn51 => ?_) (fun cn51 => ?_)
        · have hf := (if_pos cn51).symm.trans hf
          refine lv_iload hx hb dX12_next_191 (lv_at hl 1 rfl) ?_
          refine lv_iconst (v := 3) hx hb dX12_next_193 (by decide) ?_
          refine lv_isub hx hb dX12_next_194 ?_
          refine m_p43 hc hw dX12_next_195 (fun H locs hw => ?_)
          refine lv_goto (tgt := 387) hx hb dX12_next_198 (by decide) ?_
          obtain rfl := Option.some.inj hf
          exact hQ _ _ _ _ dX12_next_387 hw
        · have hf := (if_neg cn51).symm.trans hf
          refine lv_iload hx hb dX12_next_186 (lv_at hl 1 rfl) ?_
          refine lv_goto (tgt := 195) hx hb dX12_next_188 (by decide) ?_
          refine m_p43 hc hw dX12_next_195 (fun H locs hw => ?_)
          refine lv_goto (tgt := 387) hx hb dX12_next_198 (by decide) ?_
          obtain rfl := Option.some.inj hf
          exact hQ _ _ _ _ dX12_next_387 hw
      refine lv_icmp_ge (tgt := 147) hx hb dX12_next_140 (by decide) (fun cn53 => ?_) (fun cn53 => ?_)
      · refine lv_iload hx hb dX12_next_147 (lv_at hl 1 rfl) ?_
        refine lv_bipush (v := 9) hx hb dX12_next_149 (by decide) ?_
        refine lv_icmp_ge (tgt := 158) hx hb dX12_next_151 (by decide) (fun cn54 => ?_) (fun cn54 => ?_)
        · refine lv_iload hx hb dX12_next_158 (lv_at hl 1 rfl) ?_
          refine lv_bipush (v := 12) hx hb dX12_next_160 (by decide) ?_
          refine lv_icmp_ne (tgt := 169) hx hb dX12_next_162 (by decide) (fun cn55 => ?_) (fun cn55 => ?_)
          · refine lv_iconst (v := 4) hx hb dX12_next_169 (by decide) ?_
            refine lv_iload hx hb dX12_next_170 (lv_at hl 1 rfl) ?_
            refine lv_iadd hx hb dX12_next_172 ?_
            refine lv_bipush (v := 9) hx hb dX12_next_173 (by decide) ?_
            refine lv_isub hx hb dX12_next_175 ?_
            have ev20 : v20 = ((4 + v19) - 9) := by rw [hv20]; simp only [if_pos cn53, if_pos cn54, if_neg cn55]
            exact kJ52 _ ev20 _ _ _ hw (lv_sub hl [0, 1] rfl)
          · refine lv_iconst (v := (-1)) hx hb dX12_next_165 (by decide) ?_
            refine lv_goto (tgt := 176) hx hb dX12_next_166 (by decide) ?_
            have ev20 : v20 = ((-1) : Int32) := by rw [hv20]; simp only [if_pos cn53, if_pos cn54, if_pos cn55]
            exact kJ52 _ ev20 _ _ _ hw (lv_sub hl [0, 1] rfl)
        · refine lv_iconst (v := 2) hx hb dX12_next_154 (by decide) ?_
          refine lv_goto (tgt := 176) hx hb dX12_next_155 (by decide) ?_
          have ev20 : v20 = (2 : Int32) := by rw [hv20]; simp only [if_pos cn53, if_neg cn54]
          exact kJ52 _ ev20 _ _ _ hw (lv_sub hl [0, 1] rfl)
      · refine lv_iconst (v := 3) hx hb dX12_next_143 (by decide) ?_
        refine lv_goto (tgt := 176) hx hb dX12_next_144 (by decide) ?_
        have ev20 : v20 = (3 : Int32) := by rw [hv20]; simp only [if_neg cn53]
        exact kJ52 _ ev20 _ _ _ hw (lv_sub hl [0, 1] rfl)
  · have hf := (if_pos cn27).symm.trans hf
    obtain rfl := Option.some.inj hf
    exact hQ _ _ _ _ dX12_next_81 hw
theorem mq_next : qCv RX12 249 yX12_next cX12_next 5 none 0 := ⟨⟨(mem_g 1409 (by decide +kernel) rfl), (mem_g 1411 (by decide +kernel) rfl), (mem_g 43 (by decide +kernel) rfl), (mem_g 89 (by decide +kernel) rfl), (mem_g 1412 (by decide +kernel) rfl)⟩, by decide, by decide +kernel, by decide⟩
def mf_between (N : Nat) (S : mS) (a1 : Int32) : Option (Bool × mS) := (bd1 (mf_unwinds N S ((if (mf_rank a1) = 4 then 5 else mf_rank a1) : Int32)) fun S2 => (bm0 (if (mf_rank a1) = 4 then (if (S2.1 46 0) ≤ 0 then some (.inr ()) else (if ok ((S2.1 46 0) - 1) 200 then (if (mf_rank (S2.1 45 ((S2.1 46 0) - 1).toNatClampNeg)) = 4 then some (.inl (some (false, S2))) else some (.inr ())) else none)) else some (.inr ())) fun _ => (bd1 (mf_holds N S2 a1) fun S4 => some (true, S4))))
set_option maxRecDepth 100000 in
theorem cm_between (l : Launch) (N : Nat) (S : mS) (a1 : Int32) (res : Bool) (S1 : mS) (hf : mf_between N S a1 = some (res, S1)) : mMi l yX12_between cX12_between 2 .boolean 3 (fun g => [.ref (mr g 0), .int a1]) S (bi res) S1 := by
  refine mMi_of (own := RX12) (by decide) rfl (narrow_bi _) (fun g => Nat.le_of_ble_eq_true rfl) ?_
  intro p e R s m args below meth c Q g A H0 H locs ls hc hR hml hw hl hQ
  have hl : lv_has ls 2 [(0, .ref (mr g 0)), (1, .int a1)] := hl
  have hx := hc.1
  have hb := hc.2.1
  unfold mf_between at hf
  refine lv_aload_n hx hb dX12_between_0 rfl (lv_at hl 0 rfl) ?_
  refine lv_iload_n hx hb dX12_between_1 rfl (lv_at hl 1 rfl) ?_
  refine m_csi (As := [.int a1]) (rest := [.ref (mr g 0)]) hc hw hR (hml.trans hl.1.symm) (cm_rank l S a1 _ rfl) mq_rank (by decide) rfl rfl rfl (Nat.le_of_ble_eq_true rfl) dX12_between_2 (fun H locs hw => ?_) ⟨Nat.zero_le _, Nat.zero_le _⟩
  refine lv_iconst (v := 4) hx hb dX12_between_5 (by decide) ?_
  obtain ⟨v1, hv1⟩ : ∃ y : Int32, y = (if (mf_rank a1) = 4 then 5 else mf_rank a1) := ⟨_, rfl⟩
  try rw [← hv1] at hf
  have kJ10 : ∀ v1x : Int32, v1 = v1x → ∀ (H : Heap) (locs : List Loc) (ls : Array Slot), mI g A H0 s S H locs → lv_has ls 2 [(0, .ref (mr g 0)), (1, .int a1)] → W p l e R s m args below meth c H locs 0 0 Q (F0 m 17 ls [.int v1x, .ref (mr g 0)]) := by
    intro v1x hxv1 H locs ls hw hl
    subst hxv1
    obtain ⟨S2, hcall, hf⟩ := bd1_some hf
    refine m_cvv (As := [.int v1]) (rest := []) hc hw hR (hml.trans hl.1.symm) (cm_unwinds l N S v1 S2 hcall) mq_unwinds rfl (by decide) rfl rfl rfl (Nat.le_of_ble_eq_true rfl) dX12_between_17 (fun H locs hw => ?_) ⟨Nat.zero_le _, Nat.zero_le _⟩
    refine lv_iload_n hx hb dX12_between_20 rfl (lv_at hl 1 rfl) ?_
    refine m_csi (As := [.int a1]) (rest := []) hc hw hR (hml.trans hl.1.symm) (cm_rank l S2 a1 _ rfl) mq_rank (by decide) rfl rfl rfl (Nat.le_of_ble_eq_true rfl) dX12_between_21 (fun H locs hw => ?_) ⟨Nat.zero_le _, Nat.zero_le _⟩
    refine lv_iconst (v := 4) hx hb dX12_between_24 (by decide) ?_
    obtain ⟨Y, hX5, hf⟩ := bm0_some hf
    have kJ6 : Y = .inr () → ∀ (H : Heap) (locs : List Loc) (ls : Array Slot), mI g A H0 s S2 H locs → lv_has ls 2 [(0, .ref (mr g 0)), (1, .int a1)] → W p l e R s m args below meth c H locs 0 0 Q (F0 m 55 ls []) := by
      intro  hY H locs ls hw hl
      subst hY
      have hf := bc0_r hf
      refine lv_aload_n hx hb dX12_between_55 rfl (lv_at hl 0 rfl) ?_
      refine lv_iload_n hx hb dX12_between_56 rfl (lv_at hl 1 rfl) ?_
      obtain ⟨S4, hcall, hf⟩ := bd1_some hf
      refine m_cvv (As := [.int a1]) (rest := []) hc hw hR (hml.trans hl.1.symm) (cm_holds l N S2 a1 S4 hcall) mq_holds rfl (by decide) rfl rfl rfl (Nat.le_of_ble_eq_true rfl) dX12_between_57 (fun H locs hw => ?_) ⟨Nat.zero_le _, Nat.zero_le _⟩
      refine lv_iconst (v := 1) hx hb dX12_between_60 (by decide) ?_
      obtain ⟨rfl, rfl⟩ := pr2_some hf
      exact hQ _ _ _ _ dX12_between_61 hw
    refine lv_icmp_ne (tgt := 55) hx hb dX12_between_25 (by decide) (fun cn7 => ?_) (fun cn7 => ?_)
    · have hX5 := (if_neg cn7).symm.trans hX5
      exact kJ6 (Option.some.inj hX5).symm _ _ _ hw (lv_sub hl [0, 1] rfl)
    · have hX5 := (if_pos cn7).symm.trans hX5
      refine lv_aload_n hx hb dX12_between_28 rfl (lv_at hl 0 rfl) ?_
      refine m_g46 hc hw dX12_between_29 ?_
      refine lv_if_le (tgt := 55) hx hb dX12_between_32 (by decide) (fun cn8 => ?_) (fun cn8 => ?_)
      · have hX5 := (if_pos cn8).symm.trans hX5
        exact kJ6 (Option.some.inj hX5).symm _ _ _ hw (lv_sub hl [0, 1] rfl)
      · have hX5 := (if_neg cn8).symm.trans hX5
        refine lv_aload_n hx hb dX12_between_35 rfl (lv_at hl 0 rfl) ?_
        refine m_g45 hc hw dX12_between_36 ?_
        refine lv_aload_n hx hb dX12_between_39 rfl (lv_at hl 0 rfl) ?_
        refine m_g46 hc hw dX12_between_40 ?_
        refine lv_iconst (v := 1) hx hb dX12_between_43 (by decide) ?_
        refine lv_isub hx hb dX12_between_44 ?_
        obtain ⟨hi3, hX5⟩ := gd_some hX5
        refine m_l45 hc hw (ok_in hi3) dX12_between_45 ?_
        refine m_csi (As := [.int (S2.1 45 ((S2.1 46 0) - 1).toNatClampNeg)]) (rest := []) hc hw hR (hml.trans hl.1.symm) (cm_rank l S2 (S2.1 45 ((S2.1 46 0) - 1).toNatClampNeg) _ rfl) mq_rank (by decide) rfl rfl rfl (Nat.le_of_ble_eq_true rfl) dX12_between_46 (fun H locs hw => ?_) ⟨Nat.zero_le _, Nat.zero_le _⟩
        refine lv_iconst (v := 4) hx hb dX12_between_49 (by decide) ?_
        refine lv_icmp_ne (tgt := 55) hx hb dX12_between_50 (by decide) (fun cn9 => ?_) (fun cn9 => ?_)
        · have hX5 := (if_neg cn9).symm.trans hX5
          exact kJ6 (Option.some.inj hX5).symm _ _ _ hw (lv_sub hl [0, 1] rfl)
        · have hX5 := (if_pos cn9).symm.trans hX5
          refine lv_iconst (v := 0) hx hb dX12_between_53 (by decide) ?_
          obtain rfl := Option.some.inj hX5
          have hf := bc0_l hf
          obtain ⟨rfl, rfl⟩ := pr2_some hf
          exact hQ _ _ _ _ dX12_between_54 hw
  refine lv_icmp_ne (tgt := 13) hx hb dX12_between_6 (by decide) (fun cn11 => ?_) (fun cn11 => ?_)
  · refine lv_iload_n hx hb dX12_between_13 rfl (lv_at hl 1 rfl) ?_
    refine m_csi (As := [.int a1]) (rest := [.ref (mr g 0)]) hc hw hR (hml.trans hl.1.symm) (cm_rank l S a1 _ rfl) mq_rank (by decide) rfl rfl rfl (Nat.le_of_ble_eq_true rfl) dX12_between_14 (fun H locs hw => ?_) ⟨Nat.zero_le _, Nat.zero_le _⟩
    have ev1 : v1 = (mf_rank a1) := by rw [hv1]; simp only [if_neg cn11]
    exact kJ10 _ ev1 _ _ _ hw (lv_sub hl [0, 1] rfl)
  · refine lv_iconst (v := 5) hx hb dX12_between_9 (by decide) ?_
    refine lv_goto (tgt := 17) hx hb dX12_between_10 (by decide) ?_
    have ev1 : v1 = (5 : Int32) := by rw [hv1]; simp only [if_pos cn11]
    exact kJ10 _ ev1 _ _ _ hw (lv_sub hl [0, 1] rfl)
theorem mq_between : qCv RX12 260 yX12_between cX12_between 2 (some .boolean) 1 := ⟨⟨(mem_g 1445 (by decide +kernel) rfl), (mem_g 1447 (by decide +kernel) rfl), (mem_g 51 (by decide +kernel) rfl), (mem_g 89 (by decide +kernel) rfl), (mem_g 1448 (by decide +kernel) rfl)⟩, by decide, by decide +kernel, by decide⟩
def mf_isNear (N : Nat) (S : mS) (a1 : Int32) (a2 : Int32) (a3 : Int32) (a4 : Int32) (a5 : Int32) : Option (Bool) := (bd1 (mf_isAmong N S a1) fun v1 => (if v1 = true then (bd1 (mf_isAmong N S a4) fun v2 => (if v2 = true then (bd1 (mf_placeOf N S a4 a5) fun v3 => (bd1 (mf_farOf N S a4) fun v4 => (bd1 (mf_beside N S a1 a2 a3 v3 v4) fun v5 => (bd1 (mf_farOf N S a1) fun v6 => (if v6 < v5 then some false else some true))))) else some false)) else some false))
set_option maxRecDepth 100000 in
theorem cm_isNear (l : Launch) (N : Nat) (S : mS) (a1 : Int32) (a2 : Int32) (a3 : Int32) (a4 : Int32) (a5 : Int32) (res : Bool) (hf : mf_isNear N S a1 a2 a3 a4 a5 = some res) : mMi l yX12_isNear cX12_isNear 6 .boolean 3 (fun g => [.ref (mr g 0), .int a1, .int a2, .int a3, .int a4, .int a5]) S (bi res) S := by
  refine mMi_of (own := RX12) (by decide) rfl (narrow_bi _) (fun g => Nat.le_of_ble_eq_true rfl) ?_
  intro p e R s m args below meth c Q g A H0 H locs ls hc hR hml hw hl hQ
  have hl : lv_has ls 6 [(0, .ref (mr g 0)), (1, .int a1), (2, .int a2), (3, .int a3), (4, .int a4), (5, .int a5)] := hl
  have hx := hc.1
  have hb := hc.2.1
  unfold mf_isNear at hf
  refine lv_aload_n hx hb dX12_isNear_0 rfl (lv_at hl 0 rfl) ?_
  refine lv_iload_n hx hb dX12_isNear_1 rfl (lv_at hl 1 rfl) ?_
  obtain ⟨v1, hcall, hf⟩ := bd1_some hf
  refine m_cvi (As := [.int a1]) (rest := []) hc hw hR (hml.trans hl.1.symm) (cm_isAmong l N S a1 v1 hcall) mq_isAmong rfl (by decide) rfl rfl rfl (Nat.le_of_ble_eq_true rfl) dX12_isNear_2 (fun H locs hw => ?_) ⟨Nat.zero_le _, Nat.zero_le _⟩
  refine lv_if_eqb (tgt := 50) hx hb dX12_isNear_5 (by decide) (fun cn7 => ?_) (fun cn7 => ?_)
  · have hf := (if_neg cn7).symm.trans hf
    refine lv_iconst (v := 0) hx hb dX12_isNear_50 (by decide) ?_
    obtain rfl := Option.some.inj hf
    exact hQ _ _ _ _ dX12_isNear_51 hw
  · have hf := (if_pos cn7).symm.trans hf
    refine lv_aload_n hx hb dX12_isNear_8 rfl (lv_at hl 0 rfl) ?_
    refine lv_iload hx hb dX12_isNear_9 (lv_at hl 4 rfl) ?_
    obtain ⟨v2, hcall, hf⟩ := bd1_some hf
    refine m_cvi (As := [.int a4]) (rest := []) hc hw hR (hml.trans hl.1.symm) (cm_isAmong l N S a4 v2 hcall) mq_isAmong rfl (by decide) rfl rfl rfl (Nat.le_of_ble_eq_true rfl) dX12_isNear_11 (fun H locs hw => ?_) ⟨Nat.zero_le _, Nat.zero_le _⟩
    refine lv_if_eqb (tgt := 50) hx hb dX12_isNear_14 (by decide) (fun cn8 => ?_) (fun cn8 => ?_)
    · have hf := (if_neg cn8).symm.trans hf
      refine lv_iconst (v := 0) hx hb dX12_isNear_50 (by decide) ?_
      obtain rfl := Option.some.inj hf
      exact hQ _ _ _ _ dX12_isNear_51 hw
    · have hf := (if_pos cn8).symm.trans hf
      refine lv_aload_n hx hb dX12_isNear_17 rfl (lv_at hl 0 rfl) ?_
      refine lv_iload_n hx hb dX12_isNear_18 rfl (lv_at hl 1 rfl) ?_
      refine lv_iload_n hx hb dX12_isNear_19 rfl (lv_at hl 2 rfl) ?_
      refine lv_iload_n hx hb dX12_isNear_20 rfl (lv_at hl 3 rfl) ?_
      refine lv_aload_n hx hb dX12_isNear_21 rfl (lv_at hl 0 rfl) ?_
      refine lv_iload hx hb dX12_isNear_22 (lv_at hl 4 rfl) ?_
      refine lv_iload hx hb dX12_isNear_24 (lv_at hl 5 rfl) ?_
      obtain ⟨v3, hcall, hf⟩ := bd1_some hf
      refine m_cvi (As := [.int a4, .int a5]) (rest := [.int a3, .int a2, .int a1, .ref (mr g 0)]) hc hw hR (hml.trans hl.1.symm) (cm_placeOf l N S a4 a5 v3 hcall) mq_placeOf rfl (by decide) rfl rfl rfl (Nat.le_of_ble_eq_true rfl) dX12_isNear_26 (fun H locs hw => ?_) ⟨Nat.zero_le _, Nat.zero_le _⟩
      refine lv_aload_n hx hb dX12_isNear_29 rfl (lv_at hl 0 rfl) ?_
      refine lv_iload hx hb dX12_isNear_30 (lv_at hl 4 rfl) ?_
      obtain ⟨v4, hcall, hf⟩ := bd1_some hf
      refine m_cvi (As := [.int a4]) (rest := [.int v3, .int a3, .int a2, .int a1, .ref (mr g 0)]) hc hw hR (hml.trans hl.1.symm) (cm_farOf l N S a4 v4 hcall) mq_farOf rfl (by decide) rfl rfl rfl (Nat.le_of_ble_eq_true rfl) dX12_isNear_32 (fun H locs hw => ?_) ⟨Nat.zero_le _, Nat.zero_le _⟩
      obtain ⟨v5, hcall, hf⟩ := bd1_some hf
      refine m_cvi (As := [.int a1, .int a2, .int a3, .int v3, .int v4]) (rest := []) hc hw hR (hml.trans hl.1.symm) (cm_beside l N S a1 a2 a3 v3 v4 v5 hcall) mq_beside rfl (by decide) rfl rfl rfl (Nat.le_of_ble_eq_true rfl) dX12_isNear_35 (fun H locs hw => ?_) ⟨Nat.zero_le _, Nat.zero_le _⟩
      refine lv_aload_n hx hb dX12_isNear_38 rfl (lv_at hl 0 rfl) ?_
      refine lv_iload_n hx hb dX12_isNear_39 rfl (lv_at hl 1 rfl) ?_
      obtain ⟨v6, hcall, hf⟩ := bd1_some hf
      refine m_cvi (As := [.int a1]) (rest := [.int v5]) hc hw hR (hml.trans hl.1.symm) (cm_farOf l N S a1 v6 hcall) mq_farOf rfl (by decide) rfl rfl rfl (Nat.le_of_ble_eq_true rfl) dX12_isNear_40 (fun H locs hw => ?_) ⟨Nat.zero_le _, Nat.zero_le _⟩
      refine lv_icmp_gt (tgt := 50) hx hb dX12_isNear_43 (by decide) (fun cn9 => ?_) (fun cn9 => ?_)
      · have hf := (if_pos cn9).symm.trans hf
        refine lv_iconst (v := 0) hx hb dX12_isNear_50 (by decide) ?_
        obtain rfl := Option.some.inj hf
        exact hQ _ _ _ _ dX12_isNear_51 hw
      · have hf := (if_neg cn9).symm.trans hf
        refine lv_iconst (v := 1) hx hb dX12_isNear_46 (by decide) ?_
        refine lv_goto (tgt := 51) hx hb dX12_isNear_47 (by decide) ?_
        obtain rfl := Option.some.inj hf
        exact hQ _ _ _ _ dX12_isNear_51 hw
theorem mq_isNear : qCv RX12 275 yX12_isNear cX12_isNear 6 (some .boolean) 5 := ⟨⟨(mem_g 1461 (by decide +kernel) rfl), (mem_g 1463 (by decide +kernel) rfl), (mem_g 53 (by decide +kernel) rfl), (mem_g 89 (by decide +kernel) rfl), (mem_g 1464 (by decide +kernel) rfl)⟩, by decide, by decide +kernel, by decide⟩
