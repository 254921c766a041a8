def mf_price (N : Nat) (S : mS) (a1 : Int32) (a2 : Int32) : Option (Int32 × mS) := (bd1 (mf_isSeat N S a1 a2) fun v1 => (if v1 = true then (bd2 (mf_priceOf N S a1 a2) fun v2 S3 => some (v2, S3)) else some ((-5), S)))
set_option maxRecDepth 100000 in
theorem cm_price (l : Launch) (N : Nat) (S : mS) (a1 : Int32) (a2 : Int32) (res : Int32) (S1 : mS) (hf : mf_price N S a1 a2 = some (res, S1)) : mMi l yX12_price cX12_price 3 .int 8 (fun g => [.ref (mr g 0), .int a1, .int a2]) S res S1 := by
  refine mMi_of (own := RX12) (by decide) rfl rfl (fun g => Nat.le_of_ble_eq_true rfl) ?_
  intro p e R s m args below meth c Q g A H0 H locs ls hc hR hml hw hl hQ
  have hl : lv_has ls 3 [(0, .ref (mr g 0)), (1, .int a1), (2, .int a2)] := hl
  have hx := hc.1
  have hb := hc.2.1
  unfold mf_price at hf
  refine lv_aload_n hx hb dX12_price_0 rfl (lv_at hl 0 rfl) ?_
  refine lv_iload_n hx hb dX12_price_1 rfl (lv_at hl 1 rfl) ?_
  refine lv_iload_n hx hb dX12_price_2 rfl (lv_at hl 2 rfl) ?_
  obtain ⟨v1, hcall, hf⟩ := bd1_some hf
  refine m_cvi (As := [.int a1, .int a2]) (rest := []) hc hw hR (hml.trans hl.1.symm) (cm_isSeat l N S a1 a2 v1 hcall) mq_isSeat rfl (by decide) rfl rfl rfl (Nat.le_of_ble_eq_true rfl) dX12_price_3 (fun H locs hw => ?_) ⟨Nat.zero_le _, Nat.zero_le _⟩
  refine lv_if_eqb (tgt := 18) hx hb dX12_price_6 (by decide) (fun cn4 => ?_) (fun cn4 => ?_)
  · have hf := (if_neg cn4).symm.trans hf
    refine lv_bipush (v := (-5)) hx hb dX12_price_18 (by decide) ?_
    obtain ⟨rfl, rfl⟩ := pr2_some hf
    exact hQ _ _ _ _ dX12_price_20 hw
  · have hf := (if_pos cn4).symm.trans hf
    refine lv_aload_n hx hb dX12_price_9 rfl (lv_at hl 0 rfl) ?_
    refine lv_iload_n hx hb dX12_price_10 rfl (lv_at hl 1 rfl) ?_
    refine lv_iload_n hx hb dX12_price_11 rfl (lv_at hl 2 rfl) ?_
    obtain ⟨v2, S3, hcall, hf⟩ := bd2_some hf
    refine m_cvi (As := [.int a1, .int a2]) (rest := []) hc hw hR (hml.trans hl.1.symm) (cm_priceOf l N S a1 a2 v2 S3 hcall) mq_priceOf rfl (by decide) rfl rfl rfl (Nat.le_of_ble_eq_true rfl) dX12_price_12 (fun H locs hw => ?_) ⟨Nat.zero_le _, Nat.zero_le _⟩
    refine lv_goto (tgt := 20) hx hb dX12_price_15 (by decide) ?_
    obtain ⟨rfl, rfl⟩ := pr2_some hf
    exact hQ _ _ _ _ dX12_price_20 hw
def mf_all_L27 (N : Nat) (c5 : Int32) (c7 : Int32) : Nat → mS → Int32 → Int32 → Option (Int32 × mS)
  | 0, _, _, _ => none
  | n + 1, S9, v6, v8 => (if ok c7 6 then (if (S9.1 5 c7.toNatClampNeg) ≤ v8 then some (v6, S9) else (bd1 (mf_seesOf N S9 c7 v8) fun v11 => (bd2 (if c5 = 0 then (bd2 (mf_priceOf N S9 c7 v8) fun v15 S16 => some (v15, S16)) else (if c5 = 1 then (bd2 (mf_worthOf N S9 c7 v8) fun v13 S14 => some (v13, S14)) else (if v11 = ((if c5 = 2 then ((1 : Int32) <<< ((S9.1 10 0) &&& 31)) - 1 else 0) : Int32) then some (1, S9) else some (0, S9)))) fun v17 S18 => mf_all_L27 N c5 c7 n S18 (v6 + v17) (v8 + 1)))) else none)
set_option maxRecDepth 100000 in
theorem wm_all_L27 {p : Program} {l : Launch} {e : Env} {R : Room} {s : State} {m : MethodId} {args : Array Value} {below : List Frame} {meth : Method} {c : Code} {Q : State → Prop} {g : mG} {A : Nat → Prop} {H0 : Heap} (hc : qC RX12 cX12_all p s m args c) (hR : qRoom R 8) (hml : c.maxLocals = 6) (N : Nat) (c5 : Int32) (c7 : Int32) : ∀ (n : Nat) (S9 : mS) (v6 : Int32) (v8 : Int32) (X : Int32 × mS) (H : Heap) (locs : List Loc) (ls : Array Slot), mf_all_L27 N c5 c7 n S9 v6 v8 = some X → mI g A H0 s S9 H locs → lv_has ls 6 [(0, .ref (mr g 0)), (1, .int c5), (2, .int v6), (3, .int c7), (4, .int v8)] → (∀ (H : Heap) (locs : List Loc) (ls : Array Slot), mI g A H0 s X.2 H locs → lv_has ls 6 [(0, .ref (mr g 0)), (1, .int c5), (2, .int X.1), (3, .int c7)] → W p l e R s m args below meth c H locs 0 0 Q (F0 m 112 ls [])) → W p l e R s m args below meth c H locs 0 0 Q (F0 m 27 ls []) := by
  have hx := hc.1
  have hb := hc.2.1
  intro n
  induction n with
  | zero => intro _ _ _ X H locs ls hf; exact nomatch (show none = some X from hf)
  | succ n ih =>
    intro S9 v6 v8 X H locs ls hf hw hl kx
    rw [mf_all_L27] at hf
    refine lv_iload hx hb dX12_all_27 (lv_at hl 4 rfl) ?_
    refine lv_aload_n hx hb dX12_all_29 rfl (lv_at hl 0 rfl) ?_
    refine m_g5 hc hw dX12_all_30 ?_
    refine lv_iload_n hx hb dX12_all_33 rfl (lv_at hl 3 rfl) ?_
    obtain ⟨hi10, hf⟩ := gd_some hf
    refine m_l5 hc hw (ok_in hi10) dX12_all_34 ?_
    refine lv_icmp_ge (tgt := 112) hx hb dX12_all_35 (by decide) (fun cn25 => ?_) (fun cn25 => ?_)
    · have hf := (if_pos cn25).symm.trans hf
      obtain rfl := Option.some.inj hf
      exact kx _ _ _ hw (lv_sub hl [0, 1, 2, 3] rfl)
    · have hf := (if_neg cn25).symm.trans hf
      refine lv_aload_n hx hb dX12_all_38 rfl (lv_at hl 0 rfl) ?_
      refine lv_iload_n hx hb dX12_all_39 rfl (lv_at hl 3 rfl) ?_
      refine lv_iload hx hb dX12_all_40 (lv_at hl 4 rfl) ?_
      obtain ⟨v11, hcall, hf⟩ := bd1_some hf
      refine m_cvi (As := [.int c7, .int v8]) (rest := []) hc hw hR (hml.trans hl.1.symm) (cm_seesOf l N S9 c7 v8 v11 hcall) mq_seesOf rfl (by decide) rfl rfl rfl (Nat.le_of_ble_eq_true rfl) dX12_all_42 (fun H locs hw => ?_) ⟨Nat.zero_le _, Nat.zero_le _⟩
      refine lv_istore (lv' := [(5, .int v11), (0, .ref (mr g 0)), (1, .int c5), (2, .int v6), (3, .int c7), (4, .int v8)]) hx hb dX12_all_45 hl (by decide) rfl (fun ls hl => ?_)
      refine lv_iload_n hx hb dX12_all_47 rfl (lv_at hl 3 rfl) ?_
      refine lv_iload_n hx hb dX12_all_48 rfl (lv_at hl 2 rfl) ?_
      obtain ⟨v17, S18, hX26, hf⟩ := bd2_some hf
      have kJ27 : ∀ (H : Heap) (locs : List Loc) (ls : Array Slot), mI g A H0 s S18 H locs → lv_has ls 6 [(0, .ref (mr g 0)), (1, .int c5), (3, .int c7), (4, .int v8)] → W p l e R s m args below meth c H locs 0 0 Q (F0 m 104 ls [.int v17, .int v6]) := by
        intro H locs ls hw hl
        refine lv_iadd hx hb dX12_all_104 ?_
        refine lv_istore_n (lv' := [(2, .int (v6 + v17)), (0, .ref (mr g 0)), (1, .int c5), (3, .int c7), (4, .int v8)]) hx hb dX12_all_105 rfl hl (by decide) rfl (fun ls hl => ?_)
        refine lv_iinc (lv' := [(4, .int (v8 + 1)), (2, .int (v6 + v17)), (0, .ref (mr g 0)), (1, .int c5), (3, .int c7)]) hx hb dX12_all_106 hl (k := 4) rfl rfl (by decide) rfl (fun ls hl => ?_)
        refine lv_goto (tgt := 27) hx hb dX12_all_109 (by decide) ?_
        exact ih _ _ _ X _ _ _ hf hw (lv_sub hl [2, 3, 1, 4, 0] rfl) kx
      refine lv_if_ne (tgt := 62) hx hb dX12_all_49 (by decide) (fun cn28 => ?_) (fun cn28 => ?_)
      · have hX26 := (if_neg cn28).symm.trans hX26
        refine lv_iload_n hx hb dX12_all_62 rfl (lv_at hl 2 rfl) ?_
        refine lv_iconst (v := 1) hx hb dX12_all_63 (by decide) ?_
        refine lv_icmp_ne (tgt := 77) hx hb dX12_all_64 (by decide) (fun cn29 => ?_) (fun cn29 => ?_)
        · have hX26 := (if_neg cn29).symm.trans hX26
          refine lv_iload hx hb dX12_all_77 (lv_at hl 0 rfl) ?_
          refine lv_iload_n hx hb dX12_all_79 rfl (lv_at hl 2 rfl) ?_
          refine lv_iconst (v := 2) hx hb dX12_all_80 (by decide) ?_
          obtain ⟨v12, hv12⟩ : ∃ y : Int32, y = (if c5 = 2 then ((1 : Int32) <<< ((S9.1 10 0) &&& 31)) - 1 else 0) := ⟨_, rfl⟩
          try rw [← hv12] at hX26
          have kJ31 : ∀ v12x : Int32, v12 = v12x → ∀ (H : Heap) (locs : List Loc) (ls : Array Slot), mI g A H0 s S9 H locs → lv_has ls 6 [(0, .ref (mr g 0)), (1, .int c5), (3, .int c7), (4, .int v8)] → W p l e R s m args below meth c H locs 0 0 Q (F0 m 96 ls [.int v12x, .int v11, .int v6]) := by
            intro v12x hxv12 H locs ls hw hl
            subst hxv12
            refine lv_icmp_ne (tgt := 103) hx hb dX12_all_96 (by decide) (fun cn30 => ?_) (fun cn30 => ?_)
            · have hX26 := (if_neg cn30).symm.trans hX26
              refine lv_iconst (v := 0) hx hb dX12_all_103 (by decide) ?_
              obtain ⟨rfl, rfl⟩ := pr2_some hX26
              exact kJ27 _ _ _ hw (lv_sub hl [0, 1, 2, 3] rfl)
            · have hX26 := (if_pos cn30).symm.trans hX26
              refine lv_iconst (v := 1) hx hb dX12_all_99 (by decide) ?_
              refine lv_goto (tgt := 104) hx hb dX12_all_100 (by decide) ?_
              obtain ⟨rfl, rfl⟩ := pr2_some hX26
              exact kJ27 _ _ _ hw (lv_sub hl [0, 1, 2, 3] rfl)
          refine lv_icmp_ne (tgt := 95) hx hb dX12_all_81 (by decide) (fun cn32 => ?_) (fun cn32 => ?_)
          · refine lv_iconst (v := 0) hx hb dX12_all_95 (by decide) ?_
            have ev12 : v12 = (0 : Int32) := by rw [hv12]; simp only [if_neg cn32]
            exact kJ31 _ ev12 _ _ _ hw (lv_sub hl [1, 2, 4, 5] rfl)
          · refine lv_iconst (v := 1) hx hb dX12_all_84 (by decide) ?_
            refine lv_aload_n hx hb dX12_all_85 rfl (lv_at hl 1 rfl) ?_
            refine m_g10 hc hw dX12_all_86 ?_
            refine lv_ishl hx hb dX12_all_89 ?_
            refine lv_iconst (v := 1) hx hb dX12_all_90 (by decide) ?_
            refine lv_isub hx hb dX12_all_91 ?_
            refine lv_goto (tgt := 96) hx hb dX12_all_92 (by decide) ?_
            have ev12 : v12 = (((1 : Int32) <<< ((S9.1 10 0) &&& 31)) - 1) := by rw [hv12]; simp only [if_pos cn32]
            exact kJ31 _ ev12 _ _ _ hw (lv_sub hl [1, 2, 4, 5] rfl)
        · have hX26 := (if_pos cn29).symm.trans hX26
          refine lv_aload_n hx hb dX12_all_67 rfl (lv_at hl 1 rfl) ?_
          refine lv_iload_n hx hb dX12_all_68 rfl (lv_at hl 4 rfl) ?_
          refine lv_iload hx hb dX12_all_69 (lv_at hl 5 rfl) ?_
          obtain ⟨v13, S14, hcall, hX26⟩ := bd2_some hX26
          refine m_cvi (As := [.int c7, .int v8]) (rest := [.int v6]) hc hw hR (hml.trans hl.1.symm) (cm_worthOf l N S9 c7 v8 v13 S14 hcall) mq_worthOf rfl (by decide) rfl rfl rfl (Nat.le_of_ble_eq_true rfl) dX12_all_71 (fun H locs hw => ?_) ⟨Nat.zero_le _, Nat.zero_le _⟩
          refine lv_goto (tgt := 104) hx hb dX12_all_74 (by decide) ?_
          obtain ⟨rfl, rfl⟩ := pr2_some hX26
          exact kJ27 _ _ _ hw (lv_sub hl [1, 2, 4, 5] rfl)
      · have hX26 := (if_pos cn28).symm.trans hX26
        refine lv_aload_n hx hb dX12_all_52 rfl (lv_at hl 1 rfl) ?_
        refine lv_iload_n hx hb dX12_all_53 rfl (lv_at hl 4 rfl) ?_
        refine lv_iload hx hb dX12_all_54 (lv_at hl 5 rfl) ?_
        obtain ⟨v15, S16, hcall, hX26⟩ := bd2_some hX26
        refine m_cvi (As := [.int c7, .int v8]) (rest := [.int v6]) hc hw hR (hml.trans hl.1.symm) (cm_priceOf l N S9 c7 v8 v15 S16 hcall) mq_priceOf rfl (by decide) rfl rfl rfl (Nat.le_of_ble_eq_true rfl) dX12_all_56 (fun H locs hw => ?_) ⟨Nat.zero_le _, Nat.zero_le _⟩
        refine lv_goto (tgt := 104) hx hb dX12_all_59 (by decide) ?_
        obtain ⟨rfl, rfl⟩ := pr2_some hX26
        exact kJ27 _ _ _ hw (lv_sub hl [1, 2, 4, 5] rfl)
def mf_all_L16 (N : Nat) (c1 : Int32) : Nat → mS → Int32 → Int32 → Option (Int32 × mS)
  | 0, _, _, _ => none
  | n + 1, S4, v2, v3 => (if (S4.1 3 0) ≤ v3 then some (v2, S4) else (bd2 (mf_all_L27 N c1 v3 N S4 v2 0) fun v19 S20 => mf_all_L16 N c1 n S20 v19 (v3 + 1)))
set_option maxRecDepth 100000 in
theorem wm_all_L16 {p : Program} {l : Launch} {e : Env} {R : Room} {s : State} {m : MethodId} {args : Array Value} {below : List Frame} {meth : Method} {c : Code} {Q : State → Prop} {g : mG} {A : Nat → Prop} {H0 : Heap} (hc : qC RX12 cX12_all p s m args c) (hR : qRoom R 8) (hml : c.maxLocals = 6) (N : Nat) (c1 : Int32) : ∀ (n : Nat) (S4 : mS) (v2 : Int32) (v3 : Int32) (X : Int32 × mS) (H : Heap) (locs : List Loc) (ls : Array Slot), mf_all_L16 N c1 n S4 v2 v3 = some X → mI g A H0 s S4 H locs → lv_has ls 6 [(0, .ref (mr g 0)), (1, .int c1), (2, .int v2), (3, .int v3)] → (∀ (H : Heap) (locs : List Loc) (ls : Array Slot), mI g A H0 s X.2 H locs → lv_has ls 6 [(2, .int X.1)] → W p l e R s m args below meth c H locs 0 0 Q (F0 m 118 ls [])) → W p l e R s m args below meth c H locs 0 0 Q (F0 m 16 ls []) := by
  have hx := hc.1
  have hb := hc.2.1
  intro n
  induction n with
  | zero => intro _ _ _ X H locs ls hf; exact nomatch (show none = some X from hf)
  | succ n ih =>
    intro S4 v2 v3 X H locs ls hf hw hl kx
    rw [mf_all_L16] at hf
    refine lv_iload_n hx hb dX12_all_16 rfl (lv_at hl 3 rfl) ?_
    refine lv_aload_n hx hb dX12_all_17 rfl (lv_at hl 0 rfl) ?_
    refine m_g3 hc hw dX12_all_18 ?_
    refine lv_icmp_ge (tgt := 118) hx hb dX12_all_21 (by decide) (fun cn24 => ?_) (fun cn24 => ?_)
    · have hf := (if_pos cn24).symm.trans hf
      obtain rfl := Option.some.inj hf
      exact kx _ _ _ hw (lv_sub hl [2] rfl)
    · have hf := (if_neg cn24).symm.trans hf
      refine lv_iconst (v := 0) hx hb dX12_all_24 (by decide) ?_
      refine lv_istore (lv' := [(4, .int 0), (0, .ref (mr g 0)), (1, .int c1), (2, .int v2), (3, .int v3)]) hx hb dX12_all_25 hl (by decide) rfl (fun ls hl => ?_)
      obtain ⟨v19, S20, hL, hf⟩ := bd2_some hf
      refine wm_all_L27 hc hR hml N c1 v3 N _ _ _ _ _ _ _ hL hw (lv_sub hl [1, 2, 3, 4, 0] rfl) (fun H locs ls hw hl => ?_)
      refine lv_iinc (lv' := [(3, .int (v3 + 1)), (0, .ref (mr g 0)), (1, .int c1), (2, .int v19)]) hx hb dX12_all_112 hl (k := 3) rfl rfl (by decide) rfl (fun ls hl => ?_)
      refine lv_goto (tgt := 16) hx hb dX12_all_115 (by decide) ?_
      exact ih _ _ _ X _ _ _ hf hw (lv_sub hl [1, 2, 3, 0] rfl) kx
def mf_all (N : Nat) (S : mS) (a1 : Int32) : Option (Int32 × mS) := (if (mf_in a1 0 3) = true then (bd2 (mf_all_L16 N a1 N S 0 0) fun v21 S22 => some (v21, S22)) else some ((-2), S))
set_option maxRecDepth 100000 in
theorem cm_all (l : Launch) (N : Nat) (S : mS) (a1 : Int32) (res : Int32) (S1 : mS) (hf : mf_all N S a1 = some (res, S1)) : mMi l yX12_all cX12_all 6 .int 8 (fun g => [.ref (mr g 0), .int a1]) S res S1 := by
  refine mMi_of (own := RX12) (by decide) rfl rfl (fun g => Nat.le_of_ble_eq_true rfl) ?_
  intro p e R s m args below meth c Q g A H0 H locs ls hc hR hml hw hl hQ
  have hl : lv_has ls 6 [(0, .ref (mr g 0)), (1, .int a1)] := hl
  have hx := hc.1
  have hb := hc.2.1
  unfold mf_all at hf
  refine lv_iload_n hx hb dX12_all_0 rfl (lv_at hl 1 rfl) ?_
  refine lv_iconst (v := 0) hx hb dX12_all_1 (by decide) ?_
  refine lv_iconst (v := 3) hx hb dX12_all_2 (by decide) ?_
  refine m_csi (As := [.int a1, .int 0, .int 3]) (rest := []) hc hw hR (hml.trans hl.1.symm) (cm_in l S a1 0 3 _ rfl) mq_in (by decide) rfl rfl rfl (Nat.le_of_ble_eq_true rfl) dX12_all_3 (fun H locs hw => ?_) ⟨Nat.zero_le _, Nat.zero_le _⟩
  refine lv_if_neb (tgt := 12) hx hb dX12_all_6 (by decide) (fun cn23 => ?_) (fun cn23 => ?_)
  · have hf := (if_pos cn23).symm.trans hf
    refine lv_iconst (v := 0) hx hb dX12_all_12 (by decide) ?_
    refine lv_istore_n (lv' := [(2, .int 0), (0, .ref (mr g 0)), (1, .int a1)]) hx hb dX12_all_13 rfl hl (by decide) rfl (fun ls hl => ?_)
    refine lv_iconst (v := 0) hx hb dX12_all_14 (by decide) ?_
    refine lv_istore_n (lv' := [(3, .int 0), (2, .int 0), (0, .ref (mr g 0)), (1, .int a1)]) hx hb dX12_all_15 rfl hl (by decide) rfl (fun ls hl => ?_)
    obtain ⟨v21, S22, hL, hf⟩ := bd2_some hf
    refine wm_all_L16 hc hR hml N a1 N _ _ _ _ _ _ _ hL hw (lv_sub hl [2, 3, 1, 0] rfl) (fun H locs ls hw hl => ?_)
    refine lv_iload_n hx hb dX12_all_118 rfl (lv_at hl 0 rfl) ?_
    obtain ⟨rfl, rfl⟩ := pr2_some hf
    exact hQ _ _ _ _ dX12_all_119 hw
  · have hf := (if_neg cn23).symm.trans hf
    refine lv_bipush (v := (-2)) hx hb dX12_all_9 (by decide) ?_
    obtain ⟨rfl, rfl⟩ := pr2_some hf
    exact hQ _ _ _ _ dX12_all_11 hw
def mf_judge_L46 (N : Nat) (c3 : Int32) : Nat → mS → Int32 → Int32 → Option (Int32)
  | 0, _, _, _ => none
  | n + 1, S6, v4, v5 => (if (S6.1 3 0) ≤ v5 then some v4 else (if v4 = 0 then some v4 else (if ok ((60 * c3) + v5) 240 then mf_judge_L46 N c3 n S6 (bi (mf_in (S6.1 39 ((60 * c3) + v5).toNatClampNeg) 0 99)) (v5 + 1) else none)))
set_option maxRecDepth 100000 in
theorem wm_judge_L46 {p : Program} {l : Launch} {e : Env} {R : Room} {s : State} {m : MethodId} {args : Array Value} {below : List Frame} {meth : Method} {c : Code} {Q : State → Prop} {g : mG} {A : Nat → Prop} {H0 : Heap} (hc : qC RX12 cX12_judge p s m args c) (hR : qRoom R 8) (hml : c.maxLocals = 5) (N : Nat) (c3 : Int32) : ∀ (n : Nat) (S6 : mS) (v4 : Int32) (v5 : Int32) (X : Int32) (H : Heap) (locs : List Loc) (ls : Array Slot), mf_judge_L46 N c3 n S6 v4 v5 = some X → mI g A H0 s S6 H locs → lv_has ls 5 [(0, .ref (mr g 0)), (1, .int c3), (2, .int v4), (3, .int v5)] → (∀ (H : Heap) (locs : List Loc) (ls : Array Slot), mI g A H0 s S6 H locs → lv_has ls 5 [(0, .ref (mr g 0)), (1, .int c3), (2, .int X)] → W p l e R s m args below meth c H locs 0 0 Q (F0 m 82 ls [])) → W p l e R s m args below meth c H locs 0 0 Q (F0 m 46 ls []) := by
  have hx := hc.1
  have hb := hc.2.1
  intro n
  induction n with
  | zero => intro _ _ _ X H locs ls hf; exact nomatch (show none = some X from hf)
  | succ n ih =>
    intro S6 v4 v5 X H locs ls hf hw hl kx
    rw [mf_judge_L46] at hf
    refine lv_iload_n hx hb dX12_judge_46 rfl (lv_at hl 3 rfl) ?_
    refine lv_aload_n hx hb dX12_judge_47 rfl (lv_at hl 0 rfl) ?_
    refine m_g3 hc hw dX12_judge_48 ?_
    refine lv_icmp_ge (tgt := 82) hx hb dX12_judge_51 (by decide) (fun cn24 => ?_) (fun cn24 => ?_)
    · have hf := (if_pos cn24).symm.trans hf
      obtain rfl := Option.some.inj hf
      exact kx _ _ _ hw (lv_sub hl [0, 1, 2] rfl)
    · have hf := (if_neg cn24).symm.trans hf
      refine lv_iload_n hx hb dX12_judge_54 rfl (lv_at hl 2 rfl) ?_
      refine lv_if_eq (tgt := 82) hx hb dX12_judge_55 (by decide) (fun cn25 => ?_) (fun cn25 => ?_)
      · have hf := (if_pos cn25).symm.trans hf
        obtain rfl := Option.some.inj hf
        exact kx _ _ _ hw (lv_sub hl [0, 1, 2] rfl)
      · have hf := (if_neg cn25).symm.trans hf
        refine lv_aload_n hx hb dX12_judge_58 rfl (lv_at hl 0 rfl) ?_
        refine m_g39 hc hw dX12_judge_59 ?_
        refine lv_bipush (v := 60) hx hb dX12_judge_62 (by decide) ?_
        refine lv_iload_n hx hb dX12_judge_64 rfl (lv_at hl 1 rfl) ?_
        refine lv_imul hx hb dX12_judge_65 ?_
        refine lv_iload_n hx hb dX12_judge_66 rfl (lv_at hl 3 rfl) ?_
        refine lv_iadd hx hb dX12_judge_67 ?_
        obtain ⟨hi7, hf⟩ := gd_some hf
        refine m_l39 hc hw (ok_in hi7) dX12_judge_68 ?_
        refine lv_iconst (v := 0) hx hb dX12_judge_69 (by decide) ?_
        refine lv_bipush (v := 99) hx hb dX12_judge_70 (by decide) ?_
        refine m_csi (As := [.int (S6.1 39 ((60 * c3) + v5).toNatClampNeg), .int 0, .int 99]) (rest := []) hc hw hR (hml.trans hl.1.symm) (cm_in l S6 (S6.1 39 ((60 * c3) + v5).toNatClampNeg) 0 99 _ rfl) mq_in (by decide) rfl rfl rfl (Nat.le_of_ble_eq_true rfl) dX12_judge_72 (fun H locs hw => ?_) ⟨Nat.zero_le _, Nat.zero_le _⟩
        refine lv_istore_n (lv' := [(2, .int (bi (mf_in (S6.1 39 ((60 * c3) + v5).toNatClampNeg) 0 99))), (0, .ref (mr g 0)), (1, .int c3), (3, .int v5)]) hx hb dX12_judge_75 rfl hl (by decide) rfl (fun ls hl => ?_)
        refine lv_iinc (lv' := [(3, .int (v5 + 1)), (2, .int (bi (mf_in (S6.1 39 ((60 * c3) + v5).toNatClampNeg) 0 99))), (0, .ref (mr g 0)), (1, .int c3)]) hx hb dX12_judge_76 hl (k := 3) rfl rfl (by decide) rfl (fun ls hl => ?_)
        refine lv_goto (tgt := 46) hx hb dX12_judge_79 (by decide) ?_
        exact ih _ _ _ X _ _ _ hf hw (lv_sub hl [2, 3, 1, 0] rfl) kx
def mf_judge_L95 (N : Nat) (c10 : Int32) : Nat → mS → Int32 → Option (mS)
  | 0, _, _ => none
  | n + 1, S12, v11 => (if (S12.1 3 0) ≤ v11 then some S12 else (if ok ((60 * c10) + v11) 240 then (if ok v11 6 then mf_judge_L95 N c10 n (ms S12 7 v11.toNatClampNeg (S12.1 39 ((60 * c10) + v11).toNatClampNeg)) (v11 + 1) else none) else none))
set_option maxRecDepth 100000 in
theorem wm_judge_L95 {p : Program} {l : Launch} {e : Env} {R : Room} {s : State} {m : MethodId} {args : Array Value} {below : List Frame} {meth : Method} {c : Code} {Q : State → Prop} {g : mG} {A : Nat → Prop} {H0 : Heap} (hc : qC RX12 cX12_judge p s m args c) (hR : qRoom R 8) (hml : c.maxLocals = 5) (N : Nat) (c10 : Int32) : ∀ (n : Nat) (S12 : mS) (v11 : Int32) (X : mS) (H : Heap) (locs : List Loc) (ls : Array Slot), mf_judge_L95 N c10 n S12 v11 = some X → mI g A H0 s S12 H locs → lv_has ls 5 [(0, .ref (mr g 0)), (1, .int c10), (3, .int v11)] → (∀ (H : Heap) (locs : List Loc) (ls : Array Slot), mI g A H0 s X H locs → lv_has ls 5 [(0, .ref (mr g 0))] → W p l e R s m args below meth c H locs 0 0 Q (F0 m 126 ls [])) → W p l e R s m args below meth c H locs 0 0 Q (F0 m 95 ls []) := by
  have hx := hc.1
  have hb := hc.2.1
  intro n
  induction n with
  | zero => intro _ _ X H locs ls hf; exact nomatch (show none = some X from hf)
  | succ n ih =>
    intro S12 v11 X H locs ls hf hw hl kx
    rw [mf_judge_L95] at hf
    refine lv_iload_n hx hb dX12_judge_95 rfl (lv_at hl 2 rfl) ?_
    refine lv_aload_n hx hb dX12_judge_96 rfl (lv_at hl 0 rfl) ?_
    refine m_g3 hc hw dX12_judge_97 ?_
    refine lv_icmp_ge (tgt := 126) hx hb dX12_judge_100 (by decide) (fun cn28 => ?_) (fun cn28 => ?_)
    · have hf := (if_pos cn28).symm.trans hf
      obtain rfl := Option.some.inj hf
      exact kx _ _ _ hw (lv_sub hl [0] rfl)
    · have hf := (if_neg cn28).symm.trans hf
      refine lv_aload_n hx hb dX12_judge_103 rfl (lv_at hl 0 rfl) ?_
      refine m_g7 hc hw dX12_judge_104 ?_
      refine lv_iload_n hx hb dX12_judge_107 rfl (lv_at hl 2 rfl) ?_
      refine lv_aload_n hx hb dX12_judge_108 rfl (lv_at hl 0 rfl) ?_
      refine m_g39 hc hw dX12_judge_109 ?_
      refine lv_bipush (v := 60) hx hb dX12_judge_112 (by decide) ?_
      refine lv_iload_n hx hb dX12_judge_114 rfl (lv_at hl 1 rfl) ?_
      refine lv_imul hx hb dX12_judge_115 ?_
      refine lv_iload_n hx hb dX12_judge_116 rfl (lv_at hl 2 rfl) ?_
      refine lv_iadd hx hb dX12_judge_117 ?_
      obtain ⟨hi13, hf⟩ := gd_some hf
      refine m_l39 hc hw (ok_in hi13) dX12_judge_118 ?_
      obtain ⟨hi14, hf⟩ := gd_some hf
      refine m_s7 hc hw (ok_in hi14) dX12_judge_119 (fun H locs hw => ?_)
      refine lv_iinc (lv' := [(3, .int (v11 + 1)), (0, .ref (mr g 0)), (1, .int c10)]) hx hb dX12_judge_120 hl (k := 2) rfl rfl (by decide) rfl (fun ls hl => ?_)
      refine lv_goto (tgt := 95) hx hb dX12_judge_123 (by decide) ?_
      exact ih _ _ X _ _ _ hf hw (lv_sub hl [1, 2, 0] rfl) kx
def mf_judge_L136 (N : Nat) : Nat → mS → Int32 → Int32 → Option (Int32)
  | 0, _, _, _ => none
  | n + 1, S18, v16, v17 => (if v17 < 0 then some v16 else (bd1 (mf_allSee N S18 v17) fun v19 => (if v19 = true then mf_judge_L136 N n S18 v16 (v17 + (-1)) else mf_judge_L136 N n S18 v17 (v17 + (-1)))))
set_option maxRecDepth 100000 in
theorem wm_judge_L136 {p : Program} {l : Launch} {e : Env} {R : Room} {s : State} {m : MethodId} {args : Array Value} {below : List Frame} {meth : Method} {c : Code} {Q : State → Prop} {g : mG} {A : Nat → Prop} {H0 : Heap} (hc : qC RX12 cX12_judge p s m args c) (hR : qRoom R 8) (hml : c.maxLocals = 5) (N : Nat) : ∀ (n : Nat) (S18 : mS) (v16 : Int32) (v17 : Int32) (X : Int32) (H : Heap) (locs : List Loc) (ls : Array Slot), mf_judge_L136 N n S18 v16 v17 = some X → mI g A H0 s S18 H locs → lv_has ls 5 [(0, .ref (mr g 0)), (3, .int v16), (4, .int v17)] → (∀ (H : Heap) (locs : List Loc) (ls : Array Slot), mI g A H0 s S18 H locs → lv_has ls 5 [(0, .ref (mr g 0)), (3, .int X)] → W p l e R s m args below meth c H locs 0 0 Q (F0 m 163 ls [])) → W p l e R s m args below meth c H locs 0 0 Q (F0 m 136 ls []) := by
  have hx := hc.1
  have hb := hc.2.1
  intro n
  induction n with
  | zero => intro _ _ _ X H locs ls hf; exact nomatch (show none = some X from hf)
  | succ n ih =>
    intro S18 v16 v17 X H locs ls hf hw hl kx
    rw [mf_judge_L136] at hf
    refine lv_iload hx hb dX12_judge_136 (lv_at hl 2 rfl) ?_
    refine lv_if_lt (tgt := 163) hx hb dX12_judge_138 (by decide) (fun cn30 => ?_) (fun cn30 => ?_)
    · have hf := (if_pos cn30).symm.trans hf
      obtain rfl := Option.some.inj hf
      exact kx _ _ _ hw (lv_sub hl [0, 1] rfl)
    · have hf := (if_neg cn30).symm.trans hf
      refine lv_aload_n hx hb dX12_judge_141 rfl (lv_at hl 0 rfl) ?_
      refine lv_iload hx hb dX12_judge_142 (lv_at hl 2 rfl) ?_
      obtain ⟨v19, hcall, hf⟩ := bd1_some hf
      refine m_cvi (As := [.int v17]) (rest := []) hc hw hR (hml.trans hl.1.symm) (cm_allSee l N S18 v17 v19 hcall) mq_allSee rfl (by decide) rfl rfl rfl (Nat.le_of_ble_eq_true rfl) dX12_judge_144 (fun H locs hw => ?_) ⟨Nat.zero_le _, Nat.zero_le _⟩
      refine lv_if_eqb (tgt := 154) hx hb dX12_judge_147 (by decide) (fun cn31 => ?_) (fun cn31 => ?_)
      · have hf := (if_neg cn31).symm.trans hf
        refine lv_iload hx hb dX12_judge_154 (lv_at hl 2 rfl) ?_
        refine lv_istore_n (lv' := [(3, .int v17), (0, .ref (mr g 0)), (4, .int v17)]) hx hb dX12_judge_156 rfl hl (by decide) rfl (fun ls hl => ?_)
        refine lv_iinc (lv' := [(4, .int (v17 + (-1))), (3, .int v17), (0, .ref (mr g 0))]) hx hb dX12_judge_157 hl (k := 2) rfl rfl (by decide) rfl (fun ls hl => ?_)
        refine lv_goto (tgt := 136) hx hb dX12_judge_160 (by decide) ?_
        exact ih _ _ _ X _ _ _ hf hw (lv_sub hl [2, 1, 0] rfl) kx
      · have hf := (if_pos cn31).symm.trans hf
        refine lv_iload_n hx hb dX12_judge_150 rfl (lv_at hl 1 rfl) ?_
        refine lv_goto (tgt := 156) hx hb dX12_judge_151 (by decide) ?_
        refine lv_istore_n (lv' := [(3, .int v16), (0, .ref (mr g 0)), (4, .int v17)]) hx hb dX12_judge_156 rfl hl (by decide) rfl (fun ls hl => ?_)
        refine lv_iinc (lv' := [(4, .int (v17 + (-1))), (3, .int v16), (0, .ref (mr g 0))]) hx hb dX12_judge_157 hl (k := 2) rfl rfl (by decide) rfl (fun ls hl => ?_)
        refine lv_goto (tgt := 136) hx hb dX12_judge_160 (by decide) ?_
        exact ih _ _ _ X _ _ _ hf hw (lv_sub hl [2, 1, 0] rfl) kx
def mf_judge (N : Nat) (S : mS) (a1 : Int32) : Option (Int32 × mS) := (if (mf_in a1 0 3) = true then (if ok a1 4 then (if (S.1 37 a1.toNatClampNeg) = (-1) then some ((-11), S) else (bd1 (mf_judge_L46 N a1 N S ((if (S.1 38 a1.toNatClampNeg) = (S.1 3 0) then 1 else 0) : Int32) 0) fun v8 => (if v8 = 0 then some ((-2), S) else (bd1 (mf_keepsRises N S) fun S9 => (bd1 (mf_judge_L95 N a1 N S9 0) fun S15 => (bd1 (mf_judge_L136 N N S15 (-1) ((S15.1 3 0) - 1)) fun v20 => (bd1 (mf_laysRises N S15) fun S21 => some (v20, S21)))))))) else none) else some ((-2), S))
set_option maxRecDepth 100000 in
theorem cm_judge (l : Launch) (N : Nat) (S : mS) (a1 : Int32) (res : Int32) (S1 : mS) (hf : mf_judge N S a1 = some (res, S1)) : mMi l yX12_judge cX12_judge 5 .int 8 (fun g => [.ref (mr g 0), .int a1]) S res S1 := by
  refine mMi_of (own := RX12) (by decide) rfl rfl (fun g => Nat.le_of_ble_eq_true rfl) ?_
  intro p e R s m args below meth c Q g A H0 H locs ls hc hR hml hw hl hQ
  have hl : lv_has ls 5 [(0, .ref (mr g 0)), (1, .int a1)] := hl
  have hx := hc.1
  have hb := hc.2.1
  unfold mf_judge at hf
  refine lv_iload_n hx hb dX12_judge_0 rfl (lv_at hl 1 rfl) ?_
  refine lv_iconst (v := 0) hx hb dX12_judge_1 (by decide) ?_
  refine lv_iconst (v := 3) hx hb dX12_judge_2 (by decide) ?_
  refine m_csi (As := [.int a1, .int 0, .int 3]) (rest := []) hc hw hR (hml.trans hl.1.symm) (cm_in l S a1 0 3 _ rfl) mq_in (by decide) rfl rfl rfl (Nat.le_of_ble_eq_true rfl) dX12_judge_3 (fun H locs hw => ?_) ⟨Nat.zero_le _, Nat.zero_le _⟩
  refine lv_if_neb (tgt := 12) hx hb dX12_judge_6 (by decide) (fun cn22 => ?_) (fun cn22 => ?_)
  · have hf := (if_pos cn22).symm.trans hf
    refine lv_aload_n hx hb dX12_judge_12 rfl (lv_at hl 0 rfl) ?_
    refine m_g37 hc hw dX12_judge_13 ?_
    refine lv_iload_n hx hb dX12_judge_16 rfl (lv_at hl 1 rfl) ?_
    obtain ⟨hi1, hf⟩ := gd_some hf
    refine m_l37 hc hw (ok_in hi1) dX12_judge_17 ?_
    refine lv_iconst (v := (-1)) hx hb dX12_judge_18 (by decide) ?_
    refine lv_icmp_ne (tgt := 25) hx hb dX12_judge_19 (by decide) (fun cn23 => ?_) (fun cn23 => ?_)
    · have hf := (if_neg cn23).symm.trans hf
      refine lv_aload_n hx hb dX12_judge_25 rfl (lv_at hl 0 rfl) ?_
      refine m_g38 hc hw dX12_judge_26 ?_
      refine lv_iload_n hx hb dX12_judge_29 rfl (lv_at hl 1 rfl) ?_
      refine m_l38 hc hw (ok_in hi1) dX12_judge_30 ?_
      refine lv_aload_n hx hb dX12_judge_31 rfl (lv_at hl 0 rfl) ?_
      refine m_g3 hc hw dX12_judge_32 ?_
      obtain ⟨v2, hv2⟩ : ∃ y : Int32, y = (if (S.1 38 a1.toNatClampNeg) = (S.1 3 0) then 1 else 0) := ⟨_, rfl⟩
      try rw [← hv2] at hf
      have kJ33 : ∀ v2x : Int32, v2 = v2x → ∀ (H : Heap) (locs : List Loc) (ls : Array Slot), mI g A H0 s S H locs → lv_has ls 5 [(0, .ref (mr g 0)), (1, .int a1)] → W p l e R s m args below meth c H locs 0 0 Q (F0 m 43 ls [.int v2x]) := by
        intro v2x hxv2 H locs ls hw hl
        subst hxv2
        refine lv_istore_n (lv' := [(2, .int v2), (0, .ref (mr g 0)), (1, .int a1)]) hx hb dX12_judge_43 rfl hl (by decide) rfl (fun ls hl => ?_)
        refine lv_iconst (v := 0) hx hb dX12_judge_44 (by decide) ?_
        refine lv_istore_n (lv' := [(3, .int 0), (2, .int v2), (0, .ref (mr g 0)), (1, .int a1)]) hx hb dX12_judge_45 rfl hl (by decide) rfl (fun ls hl => ?_)
        obtain ⟨v8, hL, hf⟩ := bd1_some hf
        refine wm_judge_L46 hc hR hml N a1 N _ _ _ _ _ _ _ hL hw (lv_sub hl [2, 3, 1, 0] rfl) (fun H locs ls hw hl => ?_)
        refine lv_iload_n hx hb dX12_judge_82 rfl (lv_at hl 2 rfl) ?_
        refine lv_if_ne (tgt := 89) hx hb dX12_judge_83 (by decide) (fun cn27 => ?_) (fun cn27 => ?_)
        · have hf := (if_neg cn27).symm.trans hf
          refine lv_aload_n hx hb dX12_judge_89 rfl (lv_at hl 0 rfl) ?_
          obtain ⟨S9, hcall, hf⟩ := bd1_some hf
          refine m_cvv (As := []) (rest := []) hc hw hR (hml.trans hl.1.symm) (cm_keepsRises l N S S9 hcall) mq_keepsRises rfl (by decide) rfl rfl rfl (Nat.le_of_ble_eq_true rfl) dX12_judge_90 (fun H locs hw => ?_) ⟨Nat.zero_le _, Nat.zero_le _⟩
          refine lv_iconst (v := 0) hx hb dX12_judge_93 (by decide) ?_
          refine lv_istore_n (lv' := [(3, .int 0), (0, .ref (mr g 0)), (1, .int a1), (2, .int v8)]) hx hb dX12_judge_94 rfl hl (by decide) rfl (fun ls hl => ?_)
          obtain ⟨S15, hL, hf⟩ := bd1_some hf
          refine wm_judge_L95 hc hR hml N a1 N _ _ _ _ _ _ hL hw (lv_sub hl [1, 2, 0] rfl) (fun H locs ls hw hl => ?_)
          refine lv_iconst (v := (-1)) hx hb dX12_judge_126 (by decide) ?_
          refine lv_istore_n (lv' := [(3, .int (-1)), (0, .ref (mr g 0))]) hx hb dX12_judge_127 rfl hl (by decide) rfl (fun ls hl => ?_)
          refine lv_aload_n hx hb dX12_judge_128 rfl (lv_at hl 1 rfl) ?_
          refine m_g3 hc hw dX12_judge_129 ?_
          refine lv_iconst (v := 1) hx hb dX12_judge_132 (by decide) ?_
          refine lv_isub hx hb dX12_judge_133 ?_
          refine lv_istore (lv' := [(4, .int ((S15.1 3 0) - 1)), (3, .int (-1)), (0, .ref (mr g 0))]) hx hb dX12_judge_134 hl (by decide) rfl (fun ls hl => ?_)
          obtain ⟨v20, hL, hf⟩ := bd1_some hf
          refine wm_judge_L136 hc hR hml N N _ _ _ _ _ _ _ hL hw (lv_sub hl [2, 1, 0] rfl) (fun H locs ls hw hl => ?_)
          refine lv_aload_n hx hb dX12_judge_163 rfl (lv_at hl 0 rfl) ?_
          obtain ⟨S21, hcall, hf⟩ := bd1_some hf
          refine m_cvv (As := []) (rest := []) hc hw hR (hml.trans hl.1.symm) (cm_laysRises l N S15 S21 hcall) mq_laysRises rfl (by decide) rfl rfl rfl (Nat.le_of_ble_eq_true rfl) dX12_judge_164 (fun H locs hw => ?_) ⟨Nat.zero_le _, Nat.zero_le _⟩
          refine lv_iload_n hx hb dX12_judge_167 rfl (lv_at hl 1 rfl) ?_
          obtain ⟨rfl, rfl⟩ := pr2_some hf
          exact hQ _ _ _ _ dX12_judge_168 hw
        · have hf := (if_pos cn27).symm.trans hf
          refine lv_bipush (v := (-2)) hx hb dX12_judge_86 (by decide) ?_
          obtain ⟨rfl, rfl⟩ := pr2_some hf
          exact hQ _ _ _ _ dX12_judge_88 hw
      refine lv_icmp_ne (tgt := 42) hx hb dX12_judge_35 (by decide) (fun cn34 => ?_) (fun cn34 => ?_)
      · refine lv_iconst (v := 0) hx hb dX12_judge_42 (by decide) ?_
        have ev2 : v2 = (0 : Int32) := by rw [hv2]; simp only [if_neg cn34]
        exact kJ33 _ ev2 _ _ _ hw (lv_sub hl [0, 1] rfl)
      · refine lv_iconst (v := 1) hx hb dX12_judge_38 (by decide) ?_
        refine lv_goto (tgt := 43) hx hb dX12_judge_39 (by decide) ?_
        have ev2 : v2 = (1 : Int32) := by rw [hv2]; simp only [if_pos cn34]
        exact kJ33 _ ev2 _ _ _ hw (lv_sub hl [0, 1] rfl)
    · have hf := (if_pos cn23).symm.trans hf
      refine lv_bipush (v := (-11)) hx hb dX12_judge_22 (by decide) ?_
      obtain ⟨rfl, rfl⟩ := pr2_some hf
      exact hQ _ _ _ _ dX12_judge_24 hw
  · have hf := (if_neg cn22).symm.trans hf
    refine lv_bipush (v := (-2)) hx hb dX12_judge_9 (by decide) ?_
    obtain ⟨rfl, rfl⟩ := pr2_some hf
    exact hQ _ _ _ _ dX12_judge_11 hw
def mf_tall_L18 (N : Nat) (c2 : Int32) : Nat → mS → Int32 → Option (mS)
  | 0, _, _ => none
  | n + 1, S4, v3 => (if 48 ≤ v3 then some S4 else (if ok v3 48 then mf_tall_L18 N c2 n (ms S4 9 v3.toNatClampNeg c2) (v3 + 1) else none))
set_option maxRecDepth 100000 in
theorem wm_tall_L18 {p : Program} {l : Launch} {e : Env} {R : Room} {s : State} {m : MethodId} {args : Array Value} {below : List Frame} {meth : Method} {c : Code} {Q : State → Prop} {g : mG} {A : Nat → Prop} {H0 : Heap} (hc : qC RX12 cX12_tall p s m args c) (hR : qRoom R 8) (hml : c.maxLocals = 3) (N : Nat) (c2 : Int32) : ∀ (n : Nat) (S4 : mS) (v3 : Int32) (X : mS) (H : Heap) (locs : List Loc) (ls : Array Slot), mf_tall_L18 N c2 n S4 v3 = some X → mI g A H0 s S4 H locs → lv_has ls 3 [(0, .ref (mr g 0)), (1, .int c2), (2, .int v3)] → (∀ (H : Heap) (locs : List Loc) (ls : Array Slot), mI g A H0 s X H locs → lv_has ls 3 [(0, .ref (mr g 0))] → W p l e R s m args below meth c H locs 0 0 Q (F0 m 37 ls [])) → W p l e R s m args below meth c H locs 0 0 Q (F0 m 18 ls []) := by
  have hx := hc.1
  have hb := hc.2.1
  intro n
  induction n with
  | zero => intro _ _ X H locs ls hf; exact nomatch (show none = some X from hf)
  | succ n ih =>
    intro S4 v3 X H locs ls hf hw hl kx
    rw [mf_tall_L18] at hf
    refine lv_iload_n hx hb dX12_tall_18 rfl (lv_at hl 2 rfl) ?_
    refine lv_bipush (v := 48) hx hb dX12_tall_19 (by decide) ?_
    refine lv_icmp_ge (tgt := 37) hx hb dX12_tall_21 (by decide) (fun cn11 => ?_) (fun cn11 => ?_)
    · have hf := (if_pos cn11).symm.trans hf
      obtain rfl := Option.some.inj hf
      exact kx _ _ _ hw (lv_sub hl [0] rfl)
    · have hf := (if_neg cn11).symm.trans hf
      refine lv_aload_n hx hb dX12_tall_24 rfl (lv_at hl 0 rfl) ?_
      refine m_g9 hc hw dX12_tall_25 ?_
      refine lv_iload_n hx hb dX12_tall_28 rfl (lv_at hl 2 rfl) ?_
      refine lv_iload_n hx hb dX12_tall_29 rfl (lv_at hl 1 rfl) ?_
      obtain ⟨hi5, hf⟩ := gd_some hf
      refine m_s9 hc hw (ok_in hi5) dX12_tall_30 (fun H locs hw => ?_)
      refine lv_iinc (lv' := [(2, .int (v3 + 1)), (0, .ref (mr g 0)), (1, .int c2)]) hx hb dX12_tall_31 hl (k := 2) rfl rfl (by decide) rfl (fun ls hl => ?_)
      refine lv_goto (tgt := 18) hx hb dX12_tall_34 (by decide) ?_
      exact ih _ _ X _ _ _ hf hw (lv_sub hl [1, 2, 0] rfl) kx
def mf_tall (N : Nat) (S : mS) (a1 : Int32) : Option (Int32 × mS) := (if (mf_in a1 0 3) = true then (bd1 (mf_keepsSorts N S) fun S1 => (bd1 (mf_tall_L18 N a1 N S1 0) fun S6 => (bd2 (mf_allWorth N S6) fun v7 S8 => (bd1 (mf_laysSorts N S8) fun S9 => some (v7, S9))))) else some ((-2), S))
set_option maxRecDepth 100000 in
theorem cm_tall (l : Launch) (N : Nat) (S : mS) (a1 : Int32) (res : Int32) (S1 : mS) (hf : mf_tall N S a1 = some (res, S1)) : mMi l yX12_tall cX12_tall 3 .int 8 (fun g => [.ref (mr g 0), .int a1]) S res S1 := by
  refine mMi_of (own := RX12) (by decide) rfl rfl (fun g => Nat.le_of_ble_eq_true rfl) ?_
  intro p e R s m args below meth c Q g A H0 H locs ls hc hR hml hw hl hQ
  have hl : lv_has ls 3 [(0, .ref (mr g 0)), (1, .int a1)] := hl
  have hx := hc.1
  have hb := hc.2.1
  unfold mf_tall at hf
  refine lv_iload_n hx hb dX12_tall_0 rfl (lv_at hl 1 rfl) ?_
  refine lv_iconst (v := 0) hx hb dX12_tall_1 (by decide) ?_
  refine lv_iconst (v := 3) hx hb dX12_tall_2 (by decide) ?_
  refine m_csi (As := [.int a1, .int 0, .int 3]) (rest := []) hc hw hR (hml.trans hl.1.symm) (cm_in l S a1 0 3 _ rfl) mq_in (by decide) rfl rfl rfl (Nat.le_of_ble_eq_true rfl) dX12_tall_3 (fun H locs hw => ?_) ⟨Nat.zero_le _, Nat.zero_le _⟩
  refine lv_if_neb (tgt := 12) hx hb dX12_tall_6 (by decide) (fun cn10 => ?_) (fun cn10 => ?_)
  · have hf := (if_pos cn10).symm.trans hf
    refine lv_aload_n hx hb dX12_tall_12 rfl (lv_at hl 0 rfl) ?_
    obtain ⟨S1, hcall, hf⟩ := bd1_some hf
    refine m_cvv (As := []) (rest := []) hc hw hR (hml.trans hl.1.symm) (cm_keepsSorts l N S S1 hcall) mq_keepsSorts rfl (by decide) rfl rfl rfl (Nat.le_of_ble_eq_true rfl) dX12_tall_13 (fun H locs hw => ?_) ⟨Nat.zero_le _, Nat.zero_le _⟩
    refine lv_iconst (v := 0) hx hb dX12_tall_16 (by decide) ?_
    refine lv_istore_n (lv' := [(2, .int 0), (0, .ref (mr g 0)), (1, .int a1)]) hx hb dX12_tall_17 rfl hl (by decide) rfl (fun ls hl => ?_)
    obtain ⟨S6, hL, hf⟩ := bd1_some hf
    refine wm_tall_L18 hc hR hml N a1 N _ _ _ _ _ _ hL hw (lv_sub hl [1, 2, 0] rfl) (fun H locs ls hw hl => ?_)
    refine lv_aload_n hx hb dX12_tall_37 rfl (lv_at hl 0 rfl) ?_
    obtain ⟨v7, S8, hcall, hf⟩ := bd2_some hf
    refine m_cvi (As := []) (rest := []) hc hw hR (hml.trans hl.1.symm) (cm_allWorth l N S6 v7 S8 hcall) mq_allWorth rfl (by decide) rfl rfl rfl (Nat.le_of_ble_eq_true rfl) dX12_tall_38 (fun H locs hw => ?_) ⟨Nat.zero_le _, Nat.zero_le _⟩
    refine lv_istore_n (lv' := [(2, .int v7), (0, .ref (mr g 0))]) hx hb dX12_tall_41 rfl hl (by decide) rfl (fun ls hl => ?_)
    refine lv_aload_n hx hb dX12_tall_42 rfl (lv_at hl 1 rfl) ?_
    obtain ⟨S9, hcall, hf⟩ := bd1_some hf
    refine m_cvv (As := []) (rest := []) hc hw hR (hml.trans hl.1.symm) (cm_laysSorts l N S8 S9 hcall) mq_laysSorts rfl (by decide) rfl rfl rfl (Nat.le_of_ble_eq_true rfl) dX12_tall_43 (fun H locs hw => ?_) ⟨Nat.zero_le _, Nat.zero_le _⟩
    refine lv_iload_n hx hb dX12_tall_46 rfl (lv_at hl 0 rfl) ?_
    obtain ⟨rfl, rfl⟩ := pr2_some hf
    exact hQ _ _ _ _ dX12_tall_47 hw
  · have hf := (if_neg cn10).symm.trans hf
    refine lv_bipush (v := (-2)) hx hb dX12_tall_9 (by decide) ?_
    obtain ⟨rfl, rfl⟩ := pr2_some hf
    exact hQ _ _ _ _ dX12_tall_11 hw
def mf_raises_L2 (N : Nat) (c1 : Int32) : Nat → mS → Int32 → Option ((Int32 × mS) ⊕ (mS))
  | 0, _, _ => none
  | n + 1, S3, v2 => (if 99 < v2 then some (.inr S3) else (if ok c1 6 then (bd1 (mf_allSee N (ms S3 7 c1.toNatClampNeg v2) c1) fun v5 => (if v5 = true then some (.inl (v2, ms S3 7 c1.toNatClampNeg v2)) else mf_raises_L2 N c1 n (ms S3 7 c1.toNatClampNeg v2) (v2 + 1))) else none))
set_option maxRecDepth 100000 in
theorem wm_raises_L2 {p : Program} {l : Launch} {e : Env} {R : Room} {s : State} {m : MethodId} {args : Array Value} {below : List Frame} {meth : Method} {c : Code} {Q : State → Prop} {g : mG} {A : Nat → Prop} {H0 : Heap} (hc : qC RX12 cX12_raises p s m args c) (hR : qRoom R 8) (hml : c.maxLocals = 4) (N : Nat) (c1 : Int32) : ∀ (n : Nat) (S3 : mS) (v2 : Int32) (X : (Int32 × mS) ⊕ (mS)) (H : Heap) (locs : List Loc) (ls : Array Slot), mf_raises_L2 N c1 n S3 v2 = some X → mI g A H0 s S3 H locs → lv_has ls 4 [(0, .ref (mr g 0)), (1, .int c1), (3, .int v2)] → (∀ (S9 : mS), X = .inr S9 → ∀ (H : Heap) (locs : List Loc) (ls : Array Slot), mI g A H0 s S9 H locs → lv_has ls 4 [] → W p l e R s m args below meth c H locs 0 0 Q (F0 m 31 ls [])) → (∀ (r : Int32) (S9 : mS), X = .inl (r, S9) → mQi p l e R s m args below meth c cX12_raises Q g A H0 r S9) → W p l e R s m args below meth c H locs 0 0 Q (F0 m 2 ls []) := by
  have hx := hc.1
  have hb := hc.2.1
  intro n
  induction n with
  | zero => intro _ _ X H locs ls hf; exact nomatch (show none = some X from hf)
  | succ n ih =>
    intro S3 v2 X H locs ls hf hw hl kx kr
    rw [mf_raises_L2] at hf
    refine lv_iload_n hx hb dX12_raises_2 rfl (lv_at hl 2 rfl) ?_
    refine lv_bipush (v := 99) hx hb dX12_raises_3 (by decide) ?_
    refine lv_icmp_gt (tgt := 31) hx hb dX12_raises_5 (by decide) (fun cn7 => ?_) (fun cn7 => ?_)
    · have hf := (if_pos cn7).symm.trans hf
      obtain rfl := Option.some.inj hf
      exact kx _ rfl _ _ _ hw (lv_sub hl [] rfl)
    · have hf := (if_neg cn7).symm.trans hf
      refine lv_aload_n hx hb dX12_raises_8 rfl (lv_at hl 0 rfl) ?_
      refine m_g7 hc hw dX12_raises_9 ?_
      refine lv_iload_n hx hb dX12_raises_12 rfl (lv_at hl 1 rfl) ?_
      refine lv_iload_n hx hb dX12_raises_13 rfl (lv_at hl 2 rfl) ?_
      obtain ⟨hi4, hf⟩ := gd_some hf
      refine m_s7 hc hw (ok_in hi4) dX12_raises_14 (fun H locs hw => ?_)
      refine lv_aload_n hx hb dX12_raises_15 rfl (lv_at hl 0 rfl) ?_
      refine lv_iload_n hx hb dX12_raises_16 rfl (lv_at hl 1 rfl) ?_
      obtain ⟨v5, hcall, hf⟩ := bd1_some hf
      refine m_cvi (As := [.int c1]) (rest := []) hc hw hR (hml.trans hl.1.symm) (cm_allSee l N (ms S3 7 c1.toNatClampNeg v2) c1 v5 hcall) mq_allSee rfl (by decide) rfl rfl rfl (Nat.le_of_ble_eq_true rfl) dX12_raises_17 (fun H locs hw => ?_) ⟨Nat.zero_le _, Nat.zero_le _⟩
      refine lv_if_eqb (tgt := 25) hx hb dX12_raises_20 (by decide) (fun cn8 => ?_) (fun cn8 => ?_)
      · have hf := (if_neg cn8).symm.trans hf
        refine lv_iinc (lv' := [(3, .int (v2 + 1)), (0, .ref (mr g 0)), (1, .int c1)]) hx hb dX12_raises_25 hl (k := 2) rfl rfl (by decide) rfl (fun ls hl => ?_)
        refine lv_goto (tgt := 2) hx hb dX12_raises_28 (by decide) ?_
        exact ih _ _ X _ _ _ hf hw (lv_sub hl [1, 2, 0] rfl) kx kr
      · have hf := (if_pos cn8).symm.trans hf
        refine lv_iload_n hx hb dX12_raises_23 rfl (lv_at hl 2 rfl) ?_
        obtain rfl := Option.some.inj hf
        exact kr _ _  rfl _ _ _ _ dX12_raises_24 hw
def mf_raises (N : Nat) (S : mS) (a1 : Int32) (a2 : Int32) : Option (Int32 × mS) := (br1 (mf_raises_L2 N a1 N S a2) (Option.some) fun S6 => some ((-1), S6))
set_option maxRecDepth 100000 in
theorem cm_raises (l : Launch) (N : Nat) (S : mS) (a1 : Int32) (a2 : Int32) (res : Int32) (S1 : mS) (hf : mf_raises N S a1 a2 = some (res, S1)) : mMi l yX12_raises cX12_raises 4 .int 8 (fun g => [.ref (mr g 0), .int a1, .int a2]) S res S1 := by
  refine mMi_of (own := RX12) (by decide) rfl rfl (fun g => Nat.le_of_ble_eq_true rfl) ?_
  intro p e R s m args below meth c Q g A H0 H locs ls hc hR hml hw hl hQ
  have hl : lv_has ls 4 [(0, .ref (mr g 0)), (1, .int a1), (2, .int a2)] := hl
  have hx := hc.1
  have hb := hc.2.1
  unfold mf_raises at hf
  refine lv_iload_n hx hb dX12_raises_0 rfl (lv_at hl 2 rfl) ?_
  refine lv_istore_n (lv' := [(3, .int a2), (0, .ref (mr g 0)), (1, .int a1), (2, .int a2)]) hx hb dX12_raises_1 rfl hl (by decide) rfl (fun ls hl => ?_)
  rcases br1_some hf with ⟨q, hL, hf⟩ | ⟨S6, hL, hf⟩
  · refine wm_raises_L2 hc hR hml N a1 N _ _ _ _ _ _ hL hw (lv_sub hl [1, 2, 0] rfl) (fun _  h => nomatch h) ?_
    obtain rfl := Option.some.inj hf
    intro z0 z1 h; cases h; exact hQ
  · refine wm_raises_L2 hc hR hml N a1 N _ _ _ _ _ _ hL hw (lv_sub hl [1, 2, 0] rfl) (fun y0 hi => ?_) (fun _ _  h => nomatch h)
    cases hi
    intro H locs ls hw hl
    refine lv_iconst (v := (-1)) hx hb dX12_raises_31 (by decide) ?_
    obtain ⟨rfl, rfl⟩ := pr2_some hf
    exact hQ _ _ _ _ dX12_raises_32 hw
theorem mq_raises : qCv RX12 352 yX12_raises cX12_raises 4 (some .int) 2 := ⟨⟨(mem_g 1591 (by decide +kernel) rfl), (mem_g 1593 (by decide +kernel) rfl), (mem_g 72 (by decide +kernel) rfl), (mem_g 89 (by decide +kernel) rfl), (mem_g 1594 (by decide +kernel) rfl)⟩, by decide, by decide +kernel, by decide⟩
def mf_shifts_L14 (N : Nat) (c1 : Int32) : Nat → mS → Int32 → Option (mS)
  | 0, _, _ => none
  | n + 1, S3, v2 => (if 6 ≤ v2 then some S3 else (if ok v2 6 then mf_shifts_L14 N c1 n (ms S3 55 v2.toNatClampNeg (S3.1 8 v2.toNatClampNeg)) (v2 + 1) else none))
set_option maxRecDepth 100000 in
theorem wm_shifts_L14 {p : Program} {l : Launch} {e : Env} {R : Room} {s : State} {m : MethodId} {args : Array Value} {below : List Frame} {meth : Method} {c : Code} {Q : State → Prop} {g : mG} {A : Nat → Prop} {H0 : Heap} (hc : qC RX12 cX12_shifts p s m args c) (hR : qRoom R 8) (hml : c.maxLocals = 6) (N : Nat) (c1 : Int32) : ∀ (n : Nat) (S3 : mS) (v2 : Int32) (X : mS) (H : Heap) (locs : List Loc) (ls : Array Slot), mf_shifts_L14 N c1 n S3 v2 = some X → mI g A H0 s S3 H locs → lv_has ls 6 [(0, .ref (mr g 0)), (1, .int c1), (2, .int v2)] → (∀ (H : Heap) (locs : List Loc) (ls : Array Slot), mI g A H0 s X H locs → lv_has ls 6 [(0, .ref (mr g 0)), (1, .int c1)] → W p l e R s m args below meth c H locs 0 0 Q (F0 m 38 ls [])) → W p l e R s m args below meth c H locs 0 0 Q (F0 m 14 ls []) := by
  have hx := hc.1
  have hb := hc.2.1
  intro n
  induction n with
  | zero => intro _ _ X H locs ls hf; exact nomatch (show none = some X from hf)
  | succ n ih =>
    intro S3 v2 X H locs ls hf hw hl kx
    rw [mf_shifts_L14] at hf
    refine lv_iload_n hx hb dX12_shifts_14 rfl (lv_at hl 2 rfl) ?_
    refine lv_bipush (v := 6) hx hb dX12_shifts_15 (by decide) ?_
    refine lv_icmp_ge (tgt := 38) hx hb dX12_shifts_17 (by decide) (fun cn32 => ?_) (fun cn32 => ?_)
    · have hf := (if_pos cn32).symm.trans hf
      obtain rfl := Option.some.inj hf
      exact kx _ _ _ hw (lv_sub hl [0, 1] rfl)
    · have hf := (if_neg cn32).symm.trans hf
      refine lv_aload_n hx hb dX12_shifts_20 rfl (lv_at hl 0 rfl) ?_
      refine m_g55 hc hw dX12_shifts_21 ?_
      refine lv_iload_n hx hb dX12_shifts_24 rfl (lv_at hl 2 rfl) ?_
      refine lv_aload_n hx hb dX12_shifts_25 rfl (lv_at hl 0 rfl) ?_
      refine m_g8 hc hw dX12_shifts_26 ?_
      refine lv_iload_n hx hb dX12_shifts_29 rfl (lv_at hl 2 rfl) ?_
      obtain ⟨hi4, hf⟩ := gd_some hf
      refine m_l8 hc hw (ok_in hi4) dX12_shifts_30 ?_
      refine m_s55 hc hw (ok_in hi4) dX12_shifts_31 (fun H locs hw => ?_)
      refine lv_iinc (lv' := [(2, .int (v2 + 1)), (0, .ref (mr g 0)), (1, .int c1)]) hx hb dX12_shifts_32 hl (k := 2) rfl rfl (by decide) rfl (fun ls hl => ?_)
      refine lv_goto (tgt := 14) hx hb dX12_shifts_35 (by decide) ?_
      exact ih _ _ X _ _ _ hf hw (lv_sub hl [1, 2, 0] rfl) kx
def mf_shifts_L59 (N : Nat) (c11 : Int32) (c12 : Int32) (c13 : Int32) (c14 : Int32) : Nat → mS → Int32 → Option (mS)
  | 0, _, _ => none
  | n + 1, S16, v15 => (if (S16.1 3 0) ≤ v15 then some S16 else (if ok v15 6 then mf_shifts_L59 N c11 c12 c13 c14 n (ms S16 8 v15.toNatClampNeg ((c14 >>> (v15 &&& 31)) &&& 1)) (v15 + 1) else none))
set_option maxRecDepth 100000 in
theorem wm_shifts_L59 {p : Program} {l : Launch} {e : Env} {R : Room} {s : State} {m : MethodId} {args : Array Value} {below : List Frame} {meth : Method} {c : Code} {Q : State → Prop} {g : mG} {A : Nat → Prop} {H0 : Heap} (hc : qC RX12 cX12_shifts p s m args c) (hR : qRoom R 8) (hml : c.maxLocals = 6) (N : Nat) (c11 : Int32) (c12 : Int32) (c13 : Int32) (c14 : Int32) : ∀ (n : Nat) (S16 : mS) (v15 : Int32) (X : mS) (H : Heap) (locs : List Loc) (ls : Array Slot), mf_shifts_L59 N c11 c12 c13 c14 n S16 v15 = some X → mI g A H0 s S16 H locs → lv_has ls 6 [(0, .ref (mr g 0)), (1, .int c11), (2, .int c12), (3, .int c13), (4, .int c14), (5, .int v15)] → (∀ (H : Heap) (locs : List Loc) (ls : Array Slot), mI g A H0 s X H locs → lv_has ls 6 [(0, .ref (mr g 0)), (1, .int c11), (2, .int c12), (3, .int c13), (4, .int c14)] → W p l e R s m args below meth c H locs 0 0 Q (F0 m 88 ls [])) → W p l e R s m args below meth c H locs 0 0 Q (F0 m 59 ls []) := by
  have hx := hc.1
  have hb := hc.2.1
  intro n
  induction n with
  | zero => intro _ _ X H locs ls hf; exact nomatch (show none = some X from hf)
  | succ n ih =>
    intro S16 v15 X H locs ls hf hw hl kx
    rw [mf_shifts_L59] at hf
    refine lv_iload hx hb dX12_shifts_59 (lv_at hl 5 rfl) ?_
    refine lv_aload_n hx hb dX12_shifts_61 rfl (lv_at hl 0 rfl) ?_
    refine m_g3 hc hw dX12_shifts_62 ?_
    refine lv_icmp_ge (tgt := 88) hx hb dX12_shifts_65 (by decide) (fun cn35 => ?_) (fun cn35 => ?_)
    · have hf := (if_pos cn35).symm.trans hf
      obtain rfl := Option.some.inj hf
      exact kx _ _ _ hw (lv_sub hl [0, 1, 2, 3, 4] rfl)
    · have hf := (if_neg cn35).symm.trans hf
      refine lv_aload_n hx hb dX12_shifts_68 rfl (lv_at hl 0 rfl) ?_
      refine m_g8 hc hw dX12_shifts_69 ?_
      refine lv_iload hx hb dX12_shifts_72 (lv_at hl 5 rfl) ?_
      refine lv_iload hx hb dX12_shifts_74 (lv_at hl 4 rfl) ?_
      refine lv_iload hx hb dX12_shifts_76 (lv_at hl 5 rfl) ?_
      refine lv_ishr hx hb dX12_shifts_78 ?_
      refine lv_iconst (v := 1) hx hb dX12_shifts_79 (by decide) ?_
      refine lv_iand hx hb dX12_shifts_80 ?_
      obtain ⟨hi17, hf⟩ := gd_some hf
      refine m_s8 hc hw (ok_in hi17) dX12_shifts_81 (fun H locs hw => ?_)
      refine lv_iinc (lv' := [(5, .int (v15 + 1)), (0, .ref (mr g 0)), (1, .int c11), (2, .int c12), (3, .int c13), (4, .int c14)]) hx hb dX12_shifts_82 hl (k := 5) rfl rfl (by decide) rfl (fun ls hl => ?_)
      refine lv_goto (tgt := 59) hx hb dX12_shifts_85 (by decide) ?_
      exact ih _ _ X _ _ _ hf hw (lv_sub hl [1, 2, 3, 4, 5, 0] rfl) kx
def mf_shifts_L45 (N : Nat) (c6 : Int32) : Nat → mS → Int32 → Int32 → Int32 → Option (Int32 × Int32 × mS)
  | 0, _, _, _, _ => none
  | n + 1, S10, v7, v8, v9 => (if ((1 : Int32) <<< ((S10.1 3 0) &&& 31)) ≤ v9 then some (v7, v8, S10) else (bd1 (mf_shifts_L59 N c6 v7 v8 v9 N S10 0) fun S18 => (bd2 (mf_allWorth N S18) fun v19 S20 => (if v19 ≤ v8 then mf_shifts_L45 N c6 n S20 v7 v8 (v9 + 1) else mf_shifts_L45 N c6 n S20 v9 v19 (v9 + 1)))))
set_option maxRecDepth 100000 in
theorem wm_shifts_L45 {p : Program} {l : Launch} {e : Env} {R : Room} {s : State} {m : MethodId} {args : Array Value} {below : List Frame} {meth : Method} {c : Code} {Q : State → Prop} {g : mG} {A : Nat → Prop} {H0 : Heap} (hc : qC RX12 cX12_shifts p s m args c) (hR : qRoom R 8) (hml : c.maxLocals = 6) (N : Nat) (c6 : Int32) : ∀ (n : Nat) (S10 : mS) (v7 : Int32) (v8 : Int32) (v9 : Int32) (X : Int32 × Int32 × mS) (H : Heap) (locs : List Loc) (ls : Array Slot), mf_shifts_L45 N c6 n S10 v7 v8 v9 = some X → mI g A H0 s S10 H locs → lv_has ls 6 [(0, .ref (mr g 0)), (1, .int c6), (2, .int v7), (3, .int v8), (4, .int v9)] → (∀ (H : Heap) (locs : List Loc) (ls : Array Slot), mI g A H0 s X.2.2 H locs → lv_has ls 6 [(0, .ref (mr g 0)), (1, .int c6), (2, .int X.1), (3, .int X.2.1)] → W p l e R s m args below meth c H locs 0 0 Q (F0 m 112 ls [])) → W p l e R s m args below meth c H locs 0 0 Q (F0 m 45 ls []) := by
  have hx := hc.1
  have hb := hc.2.1
  intro n
  induction n with
  | zero => intro _ _ _ _ X H locs ls hf; exact nomatch (show none = some X from hf)
  | succ n ih =>
    intro S10 v7 v8 v9 X H locs ls hf hw hl kx
    rw [mf_shifts_L45] at hf
    refine lv_iload hx hb dX12_shifts_45 (lv_at hl 4 rfl) ?_
    refine lv_iconst (v := 1) hx hb dX12_shifts_47 (by decide) ?_
    refine lv_aload_n hx hb dX12_shifts_48 rfl (lv_at hl 0 rfl) ?_
    refine m_g3 hc hw dX12_shifts_49 ?_
    refine lv_ishl hx hb dX12_shifts_52 ?_
    refine lv_icmp_ge (tgt := 112) hx hb dX12_shifts_53 (by decide) (fun cn34 => ?_) (fun cn34 => ?_)
    · have hf := (if_pos cn34).symm.trans hf
      obtain rfl := Option.some.inj hf
      exact kx _ _ _ hw (lv_sub hl [0, 1, 2, 3] rfl)
    · have hf := (if_neg cn34).symm.trans hf
      refine lv_iconst (v := 0) hx hb dX12_shifts_56 (by decide) ?_
      refine lv_istore (lv' := [(5, .int 0), (0, .ref (mr g 0)), (1, .int c6), (2, .int v7), (3, .int v8), (4, .int v9)]) hx hb dX12_shifts_57 hl (by decide) rfl (fun ls hl => ?_)
      obtain ⟨S18, hL, hf⟩ := bd1_some hf
      refine wm_shifts_L59 hc hR hml N c6 v7 v8 v9 N _ _ _ _ _ _ hL hw (lv_sub hl [1, 2, 3, 4, 5, 0] rfl) (fun H locs ls hw hl => ?_)
      refine lv_aload_n hx hb dX12_shifts_88 rfl (lv_at hl 0 rfl) ?_
      obtain ⟨v19, S20, hcall, hf⟩ := bd2_some hf
      refine m_cvi (As := []) (rest := []) hc hw hR (hml.trans hl.1.symm) (cm_allWorth l N S18 v19 S20 hcall) mq_allWorth rfl (by decide) rfl rfl rfl (Nat.le_of_ble_eq_true rfl) dX12_shifts_89 (fun H locs hw => ?_) ⟨Nat.zero_le _, Nat.zero_le _⟩
      refine lv_istore (lv' := [(5, .int v19), (0, .ref (mr g 0)), (1, .int c6), (2, .int v7), (3, .int v8), (4, .int v9)]) hx hb dX12_shifts_92 hl (by decide) rfl (fun ls hl => ?_)
      refine lv_iload hx hb dX12_shifts_94 (lv_at hl 0 rfl) ?_
      refine lv_iload_n hx hb dX12_shifts_96 rfl (lv_at hl 4 rfl) ?_
      refine lv_icmp_le (tgt := 106) hx hb dX12_shifts_97 (by decide) (fun cn37 => ?_) (fun cn37 => ?_)
      · have hf := (if_pos cn37).symm.trans hf
        refine lv_iinc (lv' := [(4, .int (v9 + 1)), (5, .int v19), (0, .ref (mr g 0)), (1, .int c6), (2, .int v7), (3, .int v8)]) hx hb dX12_shifts_106 hl (k := 5) rfl rfl (by decide) rfl (fun ls hl => ?_)
        refine lv_goto (tgt := 45) hx hb dX12_shifts_109 (by decide) ?_
        exact ih _ _ _ _ X _ _ _ hf hw (lv_sub hl [2, 3, 4, 5, 0] rfl) kx
      · have hf := (if_neg cn37).symm.trans hf
        refine lv_iload hx hb dX12_shifts_100 (lv_at hl 5 rfl) ?_
        refine lv_istore_n (lv' := [(2, .int v9), (5, .int v19), (0, .ref (mr g 0)), (1, .int c6), (3, .int v8), (4, .int v9)]) hx hb dX12_shifts_102 rfl hl (by decide) rfl (fun ls hl => ?_)
        refine lv_iload hx hb dX12_shifts_103 (lv_at hl 1 rfl) ?_
        refine lv_istore_n (lv' := [(3, .int v19), (2, .int v9), (5, .int v19), (0, .ref (mr g 0)), (1, .int c6), (4, .int v9)]) hx hb dX12_shifts_105 rfl hl (by decide) rfl (fun ls hl => ?_)
        refine lv_iinc (lv' := [(4, .int (v9 + 1)), (3, .int v19), (2, .int v9), (5, .int v19), (0, .ref (mr g 0)), (1, .int c6)]) hx hb dX12_shifts_106 hl (k := 5) rfl rfl (by decide) rfl (fun ls hl => ?_)
        refine lv_goto (tgt := 45) hx hb dX12_shifts_109 (by decide) ?_
        exact ih _ _ _ _ X _ _ _ hf hw (lv_sub hl [4, 5, 2, 1, 0] rfl) kx
def mf_shifts_L115 (N : Nat) (c24 : Int32) (c25 : Int32) (c26 : Int32) : Nat → mS → Int32 → Option (mS)
  | 0, _, _ => none
  | n + 1, S28, v27 => (if 6 ≤ v27 then some S28 else (if ok v27 6 then mf_shifts_L115 N c24 c25 c26 n (ms S28 8 v27.toNatClampNeg (S28.1 55 v27.toNatClampNeg)) (v27 + 1) else none))
set_option maxRecDepth 100000 in
theorem wm_shifts_L115 {p : Program} {l : Launch} {e : Env} {R : Room} {s : State} {m : MethodId} {args : Array Value} {below : List Frame} {meth : Method} {c : Code} {Q : State → Prop} {g : mG} {A : Nat → Prop} {H0 : Heap} (hc : qC RX12 cX12_shifts p s m args c) (hR : qRoom R 8) (hml : c.maxLocals = 6) (N : Nat) (c24 : Int32) (c25 : Int32) (c26 : Int32) : ∀ (n : Nat) (S28 : mS) (v27 : Int32) (X : mS) (H : Heap) (locs : List Loc) (ls : Array Slot), mf_shifts_L115 N c24 c25 c26 n S28 v27 = some X → mI g A H0 s S28 H locs → lv_has ls 6 [(0, .ref (mr g 0)), (1, .int c24), (2, .int c25), (3, .int c26), (4, .int v27)] → (∀ (H : Heap) (locs : List Loc) (ls : Array Slot), mI g A H0 s X H locs → lv_has ls 6 [(1, .int c24), (2, .int c25), (3, .int c26)] → W p l e R s m args below meth c H locs 0 0 Q (F0 m 142 ls [])) → W p l e R s m args below meth c H locs 0 0 Q (F0 m 115 ls []) := by
  have hx := hc.1
  have hb := hc.2.1
  intro n
  induction n with
  | zero => intro _ _ X H locs ls hf; exact nomatch (show none = some X from hf)
  | succ n ih =>
    intro S28 v27 X H locs ls hf hw hl kx
    rw [mf_shifts_L115] at hf
    refine lv_iload hx hb dX12_shifts_115 (lv_at hl 4 rfl) ?_
    refine lv_bipush (v := 6) hx hb dX12_shifts_117 (by decide) ?_
    refine lv_icmp_ge (tgt := 142) hx hb dX12_shifts_119 (by decide) (fun cn41 => ?_) (fun cn41 => ?_)
    · have hf := (if_pos cn41).symm.trans hf
      obtain rfl := Option.some.inj hf
      exact kx _ _ _ hw (lv_sub hl [1, 2, 3] rfl)
    · have hf := (if_neg cn41).symm.trans hf
      refine lv_aload_n hx hb dX12_shifts_122 rfl (lv_at hl 0 rfl) ?_
      refine m_g8 hc hw dX12_shifts_123 ?_
      refine lv_iload hx hb dX12_shifts_126 (lv_at hl 4 rfl) ?_
      refine lv_aload_n hx hb dX12_shifts_128 rfl (lv_at hl 0 rfl) ?_
      refine m_g55 hc hw dX12_shifts_129 ?_
      refine lv_iload hx hb dX12_shifts_132 (lv_at hl 4 rfl) ?_
      obtain ⟨hi29, hf⟩ := gd_some hf
      refine m_l55 hc hw (ok_in hi29) dX12_shifts_134 ?_
      refine m_s8 hc hw (ok_in hi29) dX12_shifts_135 (fun H locs hw => ?_)
      refine lv_iinc (lv' := [(4, .int (v27 + 1)), (0, .ref (mr g 0)), (1, .int c24), (2, .int c25), (3, .int c26)]) hx hb dX12_shifts_136 hl (k := 4) rfl rfl (by decide) rfl (fun ls hl => ?_)
      refine lv_goto (tgt := 115) hx hb dX12_shifts_139 (by decide) ?_
      exact ih _ _ X _ _ _ hf hw (lv_sub hl [1, 2, 3, 4, 0] rfl) kx
def mf_shifts (N : Nat) (S : mS) (a1 : Int32) : Option (Int32 × mS) := (if (mf_in a1 0 1) = true then (bd1 (mf_shifts_L14 N a1 N S 0) fun S5 => (bd3 (mf_shifts_L45 N a1 N S5 0 (-1) 0) fun v21 v22 S23 => (bd1 (mf_shifts_L115 N a1 v21 v22 N S23 0) fun S30 => (if a1 = 0 then some (v21, S30) else some (v22, S30))))) else some ((-2), S))
set_option maxRecDepth 100000 in
theorem cm_shifts (l : Launch) (N : Nat) (S : mS) (a1 : Int32) (res : Int32) (S1 : mS) (hf : mf_shifts N S a1 = some (res, S1)) : mMi l yX12_shifts cX12_shifts 6 .int 8 (fun g => [.ref (mr g 0), .int a1]) S res S1 := by
  refine mMi_of (own := RX12) (by decide) rfl rfl (fun g => Nat.le_of_ble_eq_true rfl) ?_
  intro p e R s m args below meth c Q g A H0 H locs ls hc hR hml hw hl hQ
  have hl : lv_has ls 6 [(0, .ref (mr g 0)), (1, .int a1)] := hl
  have hx := hc.1
  have hb := hc.2.1
  unfold mf_shifts at hf
  refine lv_iload_n hx hb dX12_shifts_0 rfl (lv_at hl 1 rfl) ?_
  refine lv_iconst (v := 0) hx hb dX12_shifts_1 (by decide) ?_
  refine lv_iconst (v := 1) hx hb dX12_shifts_2 (by decide) ?_
  refine m_csi (As := [.int a1, .int 0, .int 1]) (rest := []) hc hw hR (hml.trans hl.1.symm) (cm_in l S a1 0 1 _ rfl) mq_in (by decide) rfl rfl rfl (Nat.le_of_ble_eq_true rfl) dX12_shifts_3 (fun H locs hw => ?_) ⟨Nat.zero_le _, Nat.zero_le _⟩
  refine lv_if_neb (tgt := 12) hx hb dX12_shifts_6 (by decide) (fun cn31 => ?_) (fun cn31 => ?_)
  · have hf := (if_pos cn31).symm.trans hf
    refine lv_iconst (v := 0) hx hb dX12_shifts_12 (by decide) ?_
    refine lv_istore_n (lv' := [(2, .int 0), (0, .ref (mr g 0)), (1, .int a1)]) hx hb dX12_shifts_13 rfl hl (by decide) rfl (fun ls hl => ?_)
    obtain ⟨S5, hL, hf⟩ := bd1_some hf
    refine wm_shifts_L14 hc hR hml N a1 N _ _ _ _ _ _ hL hw (lv_sub hl [1, 2, 0] rfl) (fun H locs ls hw hl => ?_)
    refine lv_iconst (v := 0) hx hb dX12_shifts_38 (by decide) ?_
    refine lv_istore_n (lv' := [(2, .int 0), (0, .ref (mr g 0)), (1, .int a1)]) hx hb dX12_shifts_39 rfl hl (by decide) rfl (fun ls hl => ?_)
    refine lv_iconst (v := (-1)) hx hb dX12_shifts_40 (by decide) ?_
    refine lv_istore_n (lv' := [(3, .int (-1)), (2, .int 0), (0, .ref (mr g 0)), (1, .int a1)]) hx hb dX12_shifts_41 rfl hl (by decide) rfl (fun ls hl => ?_)
    refine lv_iconst (v := 0) hx hb dX12_shifts_42 (by decide) ?_
    refine lv_istore (lv' := [(4, .int 0), (3, .int (-1)), (2, .int 0), (0, .ref (mr g 0)), (1, .int a1)]) hx hb dX12_shifts_43 hl (by decide) rfl (fun ls hl => ?_)
    obtain ⟨v21, v22, S23, hL, hf⟩ := bd3_some hf
    refine wm_shifts_L45 hc hR hml N a1 N _ _ _ _ _ _ _ _ hL hw (lv_sub hl [3, 4, 2, 1, 0] rfl) (fun H locs ls hw hl => ?_)
    refine lv_iconst (v := 0) hx hb dX12_shifts_112 (by decide) ?_
    refine lv_istore (lv' := [(4, .int 0), (0, .ref (mr g 0)), (1, .int a1), (2, .int v21), (3, .int v22)]) hx hb dX12_shifts_113 hl (by decide) rfl (fun ls hl => ?_)
    obtain ⟨S30, hL, hf⟩ := bd1_some hf
    refine wm_shifts_L115 hc hR hml N a1 v21 v22 N _ _ _ _ _ _ hL hw (lv_sub hl [1, 2, 3, 4, 0] rfl) (fun H locs ls hw hl => ?_)
    refine lv_iload_n hx hb dX12_shifts_142 rfl (lv_at hl 0 rfl) ?_
    refine lv_if_ne (tgt := 150) hx hb dX12_shifts_143 (by decide) (fun cn43 => ?_) (fun cn43 => ?_)
    · have hf := (if_neg cn43).symm.trans hf
      refine lv_iload_n hx hb dX12_shifts_150 rfl (lv_at hl 2 rfl) ?_
      obtain ⟨rfl, rfl⟩ := pr2_some hf
      exact hQ _ _ _ _ dX12_shifts_151 hw
    · have hf := (if_pos cn43).symm.trans hf
      refine lv_iload_n hx hb dX12_shifts_146 rfl (lv_at hl 1 rfl) ?_
      refine lv_goto (tgt := 151) hx hb dX12_shifts_147 (by decide) ?_
      obtain ⟨rfl, rfl⟩ := pr2_some hf
      exact hQ _ _ _ _ dX12_shifts_151 hw
  · have hf := (if_neg cn31).symm.trans hf
    refine lv_bipush (v := (-2)) hx hb dX12_shifts_9 (by decide) ?_
    obtain ⟨rfl, rfl⟩ := pr2_some hf
    exact hQ _ _ _ _ dX12_shifts_11 hw
def mf_coin_L46 (N : Nat) (c2 : Int32) (c3 : Int32) (c4 : Int32) : Nat → mS → Int32 → Int32 → Option (Int32)
  | 0, _, _, _ => none
  | n + 1, S7, v5, v6 => (if c4 ≤ v6 then some v5 else mf_coin_L46 N c2 c3 c4 n S7 (v5 * 3) (v6 + 1))
set_option maxRecDepth 100000 in
theorem wm_coin_L46 {p : Program} {l : Launch} {e : Env} {R : Room} {s : State} {m : MethodId} {args : Array Value} {below : List Frame} {meth : Method} {c : Code} {Q : State → Prop} {g : mG} {A : Nat → Prop} {H0 : Heap} (hc : qC RX12 cX12_coin p s m args c) (hR : qRoom R 8) (hml : c.maxLocals = 12) (N : Nat) (c2 : Int32) (c3 : Int32) (c4 : Int32) : ∀ (n : Nat) (S7 : mS) (v5 : Int32) (v6 : Int32) (X : Int32) (H : Heap) (locs : List Loc) (ls : Array Slot), mf_coin_L46 N c2 c3 c4 n S7 v5 v6 = some X → mI g A H0 s S7 H locs → lv_has ls 12 [(0, .ref (mr g 0)), (1, .int c2), (2, .int c3), (3, .int c4), (4, .int v5), (5, .int v6)] → (∀ (H : Heap) (locs : List Loc) (ls : Array Slot), mI g A H0 s S7 H locs → lv_has ls 12 [(0, .ref (mr g 0)), (1, .int c2), (2, .int c3), (3, .int c4), (4, .int X)] → W p l e R s m args below meth c H locs 0 0 Q (F0 m 64 ls [])) → W p l e R s m args below meth c H locs 0 0 Q (F0 m 46 ls []) := by
  have hx := hc.1
  have hb := hc.2.1
  intro n
  induction n with
  | zero => intro _ _ _ X H locs ls hf; exact nomatch (show none = some X from hf)
  | succ n ih =>
    intro S7 v5 v6 X H locs ls hf hw hl kx
    rw [mf_coin_L46] at hf
    refine lv_iload hx hb dX12_coin_46 (lv_at hl 5 rfl) ?_
    refine lv_iload_n hx hb dX12_coin_48 rfl (lv_at hl 3 rfl) ?_
    refine lv_icmp_ge (tgt := 64) hx hb dX12_coin_49 (by decide) (fun cn43 => ?_) (fun cn43 => ?_)
    · have hf := (if_pos cn43).symm.trans hf
      obtain rfl := Option.some.inj hf
      exact kx _ _ _ hw (lv_sub hl [0, 1, 2, 3, 4] rfl)
    · have hf := (if_neg cn43).symm.trans hf
      refine lv_iload hx hb dX12_coin_52 (lv_at hl 4 rfl) ?_
      refine lv_iconst (v := 3) hx hb dX12_coin_54 (by decide) ?_
      refine lv_imul hx hb dX12_coin_55 ?_
      refine lv_istore (lv' := [(4, .int (v5 * 3)), (0, .ref (mr g 0)), (1, .int c2), (2, .int c3), (3, .int c4), (5, .int v6)]) hx hb dX12_coin_56 hl (by decide) rfl (fun ls hl => ?_)
      refine lv_iinc (lv' := [(5, .int (v6 + 1)), (4, .int (v5 * 3)), (0, .ref (mr g 0)), (1, .int c2), (2, .int c3), (3, .int c4)]) hx hb dX12_coin_58 hl (k := 5) rfl rfl (by decide) rfl (fun ls hl => ?_)
      refine lv_goto (tgt := 46) hx hb dX12_coin_61 (by decide) ?_
      exact ih _ _ _ X _ _ _ hf hw (lv_sub hl [2, 3, 4, 5, 1, 0] rfl) kx
def mf_coin_L99 (N : Nat) (c18 : Int32) (c19 : Int32) (c20 : Int32) (c21 : Int32) (c22 : Int32) (c23 : Int32) (c24 : Int32) : Nat → mS → Int32 → Int32 → Int32 → Int32 → Option (Int32 × mS)
  | 0, _, _, _, _, _ => none
  | n + 1, S29, v25, v26, v27, v28 => (if v28 < 0 then some (v26, S29) else (if ok v28 6 then mf_coin_L99 N c18 c19 c20 c21 c22 c23 c24 n (ms S29 7 v28.toNatClampNeg (6 * (v25 - v25 / 3 * 3))) (v25 / 3) (v26 + (v27 * (v25 - v25 / 3 * 3))) (v27 * 10) (v28 + (-1)) else none))
set_option maxRecDepth 100000 in
theorem wm_coin_L99 {p : Program} {l : Launch} {e : Env} {R : Room} {s : State} {m : MethodId} {args : Array Value} {below : List Frame} {meth : Method} {c : Code} {Q : State → Prop} {g : mG} {A : Nat → Prop} {H0 : Heap} (hc : qC RX12 cX12_coin p s m args c) (hR : qRoom R 8) (hml : c.maxLocals = 12) (N : Nat) (c18 : Int32) (c19 : Int32) (c20 : Int32) (c21 : Int32) (c22 : Int32) (c23 : Int32) (c24 : Int32) : ∀ (n : Nat) (S29 : mS) (v25 : Int32) (v26 : Int32) (v27 : Int32) (v28 : Int32) (X : Int32 × mS) (H : Heap) (locs : List Loc) (ls : Array Slot), mf_coin_L99 N c18 c19 c20 c21 c22 c23 c24 n S29 v25 v26 v27 v28 = some X → mI g A H0 s S29 H locs → lv_has ls 12 [(0, .ref (mr g 0)), (1, .int c18), (2, .int c19), (3, .int c20), (4, .int c21), (5, .int c22), (6, .int c23), (7, .int c24), (8, .int v25), (9, .int v26), (10, .int v27), (11, .int v28)] → (∀ (H : Heap) (locs : List Loc) (ls : Array Slot), mI g A H0 s X.2 H locs → lv_has ls 12 [(0, .ref (mr g 0)), (1, .int c18), (2, .int c19), (3, .int c20), (4, .int c21), (5, .int c22), (6, .int c23), (7, .int c24), (9, .int X.1)] → W p l e R s m args below meth c H locs 0 0 Q (F0 m 149 ls [])) → W p l e R s m args below meth c H locs 0 0 Q (F0 m 99 ls []) := by
  have hx := hc.1
  have hb := hc.2.1
  intro n
  induction n with
  | zero => intro _ _ _ _ _ X H locs ls hf; exact nomatch (show none = some X from hf)
  | succ n ih =>
    intro S29 v25 v26 v27 v28 X H locs ls hf hw hl kx
    rw [mf_coin_L99] at hf
    refine lv_iload hx hb dX12_coin_99 (lv_at hl 11 rfl) ?_
    refine lv_if_lt (tgt := 149) hx hb dX12_coin_101 (by decide) (fun cn46 => ?_) (fun cn46 => ?_)
    · have hf := (if_pos cn46).symm.trans hf
      obtain rfl := Option.some.inj hf
      exact kx _ _ _ hw (lv_sub hl [0, 1, 2, 3, 4, 5, 6, 7, 9] rfl)
    · have hf := (if_neg cn46).symm.trans hf
      refine lv_aload_n hx hb dX12_coin_104 rfl (lv_at hl 0 rfl) ?_
      refine m_g7 hc hw dX12_coin_105 ?_
      refine lv_iload hx hb dX12_coin_108 (lv_at hl 11 rfl) ?_
      refine lv_bipush (v := 6) hx hb dX12_coin_110 (by decide) ?_
      refine lv_iload hx hb dX12_coin_112 (lv_at hl 8 rfl) ?_
      refine lv_iconst (v := 3) hx hb dX12_coin_114 (by decide) ?_
      refine lv_irem hx hb dX12_coin_115 (by decide) ?_
      refine lv_imul hx hb dX12_coin_116 ?_
      obtain ⟨hi30, hf⟩ := gd_some hf
      refine m_s7 hc hw (ok_in hi30) dX12_coin_117 (fun H locs hw => ?_)
      refine lv_iload hx hb dX12_coin_118 (lv_at hl 9 rfl) ?_
      refine lv_iload hx hb dX12_coin_120 (lv_at hl 10 rfl) ?_
      refine lv_iload hx hb dX12_coin_122 (lv_at hl 8 rfl) ?_
      refine lv_iconst (v := 3) hx hb dX12_coin_124 (by decide) ?_
      refine lv_irem hx hb dX12_coin_125 (by decide) ?_
      refine lv_imul hx hb dX12_coin_126 ?_
      refine lv_iadd hx hb dX12_coin_127 ?_
      refine lv_istore (lv' := [(9, .int (v26 + (v27 * (v25 - v25 / 3 * 3)))), (0, .ref (mr g 0)), (1, .int c18), (2, .int c19), (3, .int c20), (4, .int c21), (5, .int c22), (6, .int c23), (7, .int c24), (8, .int v25), (10, .int v27), (11, .int v28)]) hx hb dX12_coin_128 hl (by decide) rfl (fun ls hl => ?_)
      refine lv_iload hx hb dX12_coin_130 (lv_at hl 10 rfl) ?_
      refine lv_bipush (v := 10) hx hb dX12_coin_132 (by decide) ?_
      refine lv_imul hx hb dX12_coin_134 ?_
      refine lv_istore (lv' := [(10, .int (v27 * 10)), (9, .int (v26 + (v27 * (v25 - v25 / 3 * 3)))), (0, .ref (mr g 0)), (1, .int c18), (2, .int c19), (3, .int c20), (4, .int c21), (5, .int c22), (6, .int c23), (7, .int c24), (8, .int v25), (11, .int v28)]) hx hb dX12_coin_135 hl (by decide) rfl (fun ls hl => ?_)
      refine lv_iload hx hb dX12_coin_137 (lv_at hl 10 rfl) ?_
      refine lv_iconst (v := 3) hx hb dX12_coin_139 (by decide) ?_
      refine lv_idiv hx hb dX12_coin_140 (by decide) ?_
      refine lv_istore (lv' := [(8, .int (v25 / 3)), (10, .int (v27 * 10)), (9, .int (v26 + (v27 * (v25 - v25 / 3 * 3)))), (0, .ref (mr g 0)), (1, .int c18), (2, .int c19), (3, .int c20), (4, .int c21), (5, .int c22), (6, .int c23), (7, .int c24), (11, .int v28)]) hx hb dX12_coin_141 hl (by decide) rfl (fun ls hl => ?_)
      refine lv_iinc (lv' := [(11, .int (v28 + (-1))), (8, .int (v25 / 3)), (10, .int (v27 * 10)), (9, .int (v26 + (v27 * (v25 - v25 / 3 * 3)))), (0, .ref (mr g 0)), (1, .int c18), (2, .int c19), (3, .int c20), (4, .int c21), (5, .int c22), (6, .int c23), (7, .int c24)]) hx hb dX12_coin_143 hl (k := 11) rfl rfl (by decide) rfl (fun ls hl => ?_)
      refine lv_goto (tgt := 99) hx hb dX12_coin_146 (by decide) ?_
      exact ih _ _ _ _ _ X _ _ _ hf hw (lv_sub hl [4, 5, 6, 7, 8, 9, 10, 11, 1, 3, 2, 0] rfl) kx
def mf_coin_L77 (N : Nat) (c10 : Int32) (c11 : Int32) (c12 : Int32) (c13 : Int32) : Nat → mS → Int32 → Int32 → Int32 → Option (Int32 × Int32 × mS)
  | 0, _, _, _, _ => none
  | n + 1, S17, v14, v15, v16 => (if c13 ≤ v16 then some (v14, v15, S17) else (bd2 (mf_coin_L99 N c10 c11 c12 c13 v14 v15 v16 N S17 v16 0 1 (c12 - 1)) fun v31 S32 => (bd2 (mf_cost N S32) fun v33 S34 => (if c10 < v33 then mf_coin_L77 N c10 c11 c12 c13 n S34 v14 v15 (v16 + 1) else (bd2 (mf_allWorth N S34) fun v35 S36 => (if v14 = (-1) then mf_coin_L77 N c10 c11 c12 c13 n S36 v31 v35 (v16 + 1) else (if v35 ≤ v15 then mf_coin_L77 N c10 c11 c12 c13 n S36 v14 v15 (v16 + 1) else mf_coin_L77 N c10 c11 c12 c13 n S36 v31 v35 (v16 + 1))))))))
set_option maxRecDepth 100000 in
theorem wm_coin_L77 {p : Program} {l : Launch} {e : Env} {R : Room} {s : State} {m : MethodId} {args : Array Value} {below : List Frame} {meth : Method} {c : Code} {Q : State → Prop} {g : mG} {A : Nat → Prop} {H0 : Heap} (hc : qC RX12 cX12_coin p s m args c) (hR : qRoom R 8) (hml : c.maxLocals = 12) (N : Nat) (c10 : Int32) (c11 : Int32) (c12 : Int32) (c13 : Int32) : ∀ (n : Nat) (S17 : mS) (v14 : Int32) (v15 : Int32) (v16 : Int32) (X : Int32 × Int32 × mS) (H : Heap) (locs : List Loc) (ls : Array Slot), mf_coin_L77 N c10 c11 c12 c13 n S17 v14 v15 v16 = some X → mI g A H0 s S17 H locs → lv_has ls 12 [(0, .ref (mr g 0)), (1, .int c10), (2, .int c11), (3, .int c12), (4, .int c13), (5, .int v14), (6, .int v15), (7, .int v16)] → (∀ (H : Heap) (locs : List Loc) (ls : Array Slot), mI g A H0 s X.2.2 H locs → lv_has ls 12 [(0, .ref (mr g 0)), (2, .int c11), (5, .int X.1), (6, .int X.2.1)] → W p l e R s m args below meth c H locs 0 0 Q (F0 m 190 ls [])) → W p l e R s m args below meth c H locs 0 0 Q (F0 m 77 ls []) := by
  have hx := hc.1
  have hb := hc.2.1
  intro n
  induction n with
  | zero => intro _ _ _ _ X H locs ls hf; exact nomatch (show none = some X from hf)
  | succ n ih =>
    intro S17 v14 v15 v16 X H locs ls hf hw hl kx
    rw [mf_coin_L77] at hf
    refine lv_iload hx hb dX12_coin_77 (lv_at hl 7 rfl) ?_
    refine lv_iload hx hb dX12_coin_79 (lv_at hl 4 rfl) ?_
    refine lv_icmp_ge (tgt := 190) hx hb dX12_coin_81 (by decide) (fun cn45 => ?_) (fun cn45 => ?_)
    · have hf := (if_pos cn45).symm.trans hf
      obtain rfl := Option.some.inj hf
      exact kx _ _ _ hw (lv_sub hl [0, 2, 5, 6] rfl)
    · have hf := (if_neg cn45).symm.trans hf
      refine lv_iload hx hb dX12_coin_84 (lv_at hl 7 rfl) ?_
      refine lv_istore (lv' := [(8, .int v16), (0, .ref (mr g 0)), (1, .int c10), (2, .int c11), (3, .int c12), (4, .int c13), (5, .int v14), (6, .int v15), (7, .int v16)]) hx hb dX12_coin_86 hl (by decide) rfl (fun ls hl => ?_)
      refine lv_iconst (v := 0) hx hb dX12_coin_88 (by decide) ?_
      refine lv_istore (lv' := [(9, .int 0), (8, .int v16), (0, .ref (mr g 0)), (1, .int c10), (2, .int c11), (3, .int c12), (4, .int c13), (5, .int v14), (6, .int v15), (7, .int v16)]) hx hb dX12_coin_89 hl (by decide) rfl (fun ls hl => ?_)
      refine lv_iconst (v := 1) hx hb dX12_coin_91 (by decide) ?_
      refine lv_istore (lv' := [(10, .int 1), (9, .int 0), (8, .int v16), (0, .ref (mr g 0)), (1, .int c10), (2, .int c11), (3, .int c12), (4, .int c13), (5, .int v14), (6, .int v15), (7, .int v16)]) hx hb dX12_coin_92 hl (by decide) rfl (fun ls hl => ?_)
      refine lv_iload_n hx hb dX12_coin_94 rfl (lv_at hl 6 rfl) ?_
      refine lv_iconst (v := 1) hx hb dX12_coin_95 (by decide) ?_
      refine lv_isub hx hb dX12_coin_96 ?_
      refine lv_istore (lv' := [(11, .int (c12 - 1)), (10, .int 1), (9, .int 0), (8, .int v16), (0, .ref (mr g 0)), (1, .int c10), (2, .int c11), (3, .int c12), (4, .int c13), (5, .int v14), (6, .int v15), (7, .int v16)]) hx hb dX12_coin_97 hl (by decide) rfl (fun ls hl => ?_)
      obtain ⟨v31, S32, hL, hf⟩ := bd2_some hf
      refine wm_coin_L99 hc hR hml N c10 c11 c12 c13 v14 v15 v16 N _ _ _ _ _ _ _ _ _ hL hw (lv_sub hl [4, 5, 6, 7, 8, 9, 10, 11, 3, 2, 1, 0] rfl) (fun H locs ls hw hl => ?_)
      refine lv_aload_n hx hb dX12_coin_149 rfl (lv_at hl 0 rfl) ?_
      obtain ⟨v33, S34, hcall, hf⟩ := bd2_some hf
      refine m_cvi (As := []) (rest := []) hc hw hR (hml.trans hl.1.symm) (cm_cost l N S32 v33 S34 hcall) mq_cost rfl (by decide) rfl rfl rfl (Nat.le_of_ble_eq_true rfl) dX12_coin_150 (fun H locs hw => ?_) ⟨Nat.zero_le _, Nat.zero_le _⟩
      refine lv_iload_n hx hb dX12_coin_153 rfl (lv_at hl 1 rfl) ?_
      refine lv_icmp_gt (tgt := 184) hx hb dX12_coin_154 (by decide) (fun cn49 => ?_) (fun cn49 => ?_)
      · have hf := (if_pos cn49).symm.trans hf
        refine lv_iinc (lv' := [(7, .int (v16 + 1)), (0, .ref (mr g 0)), (1, .int c10), (2, .int c11), (3, .int c12), (4, .int c13), (5, .int v14), (6, .int v15), (9, .int v31)]) hx hb dX12_coin_184 hl (k := 7) rfl rfl (by decide) rfl (fun ls hl => ?_)
        refine lv_goto (tgt := 77) hx hb dX12_coin_187 (by decide) ?_
        exact ih _ _ _ _ X _ _ _ hf hw (lv_sub hl [1, 2, 3, 4, 5, 6, 7, 0] rfl) kx
      · have hf := (if_neg cn49).symm.trans hf
        refine lv_aload_n hx hb dX12_coin_157 rfl (lv_at hl 0 rfl) ?_
        obtain ⟨v35, S36, hcall, hf⟩ := bd2_some hf
        refine m_cvi (As := []) (rest := []) hc hw hR (hml.trans hl.1.symm) (cm_allWorth l N S34 v35 S36 hcall) mq_allWorth rfl (by decide) rfl rfl rfl (Nat.le_of_ble_eq_true rfl) dX12_coin_158 (fun H locs hw => ?_) ⟨Nat.zero_le _, Nat.zero_le _⟩
        refine lv_istore (lv' := [(11, .int v35), (0, .ref (mr g 0)), (1, .int c10), (2, .int c11), (3, .int c12), (4, .int c13), (5, .int v14), (6, .int v15), (7, .int v16), (9, .int v31)]) hx hb dX12_coin_161 hl (by decide) rfl (fun ls hl => ?_)
        refine lv_iload hx hb dX12_coin_163 (lv_at hl 6 rfl) ?_
        refine lv_iconst (v := (-1)) hx hb dX12_coin_165 (by decide) ?_
        refine lv_icmp_eq (tgt := 176) hx hb dX12_coin_166 (by decide) (fun cn50 => ?_) (fun cn50 => ?_)
        · have hf := (if_pos cn50).symm.trans hf
          refine lv_iload hx hb dX12_coin_176 (lv_at hl 9 rfl) ?_
          refine lv_istore (lv' := [(5, .int v31), (11, .int v35), (0, .ref (mr g 0)), (1, .int c10), (2, .int c11), (3, .int c12), (4, .int c13), (6, .int v15), (7, .int v16), (9, .int v31)]) hx hb dX12_coin_178 hl (by decide) rfl (fun ls hl => ?_)
          refine lv_iload hx hb dX12_coin_180 (lv_at hl 1 rfl) ?_
          refine lv_istore (lv' := [(6, .int v35), (5, .int v31), (11, .int v35), (0, .ref (mr g 0)), (1, .int c10), (2, .int c11), (3, .int c12), (4, .int c13), (7, .int v16), (9, .int v31)]) hx hb dX12_coin_182 hl (by decide) rfl (fun ls hl => ?_)
          refine lv_iinc (lv' := [(7, .int (v16 + 1)), (6, .int v35), (5, .int v31), (11, .int v35), (0, .ref (mr g 0)), (1, .int c10), (2, .int c11), (3, .int c12), (4, .int c13), (9, .int v31)]) hx hb dX12_coin_184 hl (k := 8) rfl rfl (by decide) rfl (fun ls hl => ?_)
          refine lv_goto (tgt := 77) hx hb dX12_coin_187 (by decide) ?_
          exact ih _ _ _ _ X _ _ _ hf hw (lv_sub hl [4, 5, 6, 7, 8, 2, 1, 0] rfl) kx
        · have hf := (if_neg cn50).symm.trans hf
          refine lv_iload hx hb dX12_coin_169 (lv_at hl 0 rfl) ?_
          refine lv_iload hx hb dX12_coin_171 (lv_at hl 7 rfl) ?_
          refine lv_icmp_le (tgt := 184) hx hb dX12_coin_173 (by decide) (fun cn51 => ?_) (fun cn51 => ?_)
          · have hf := (if_pos cn51).symm.trans hf
            refine lv_iinc (lv' := [(7, .int (v16 + 1)), (11, .int v35), (0, .ref (mr g 0)), (1, .int c10), (2, .int c11), (3, .int c12), (4, .int c13), (5, .int v14), (6, .int v15), (9, .int v31)]) hx hb dX12_coin_184 hl (k := 8) rfl rfl (by decide) rfl (fun ls hl => ?_)
            refine lv_goto (tgt := 77) hx hb dX12_coin_187 (by decide) ?_
            exact ih _ _ _ _ X _ _ _ hf hw (lv_sub hl [2, 3, 4, 5, 6, 7, 8, 0] rfl) kx
          · have hf := (if_neg cn51).symm.trans hf
            refine lv_iload hx hb dX12_coin_176 (lv_at hl 9 rfl) ?_
            refine lv_istore (lv' := [(5, .int v31), (11, .int v35), (0, .ref (mr g 0)), (1, .int c10), (2, .int c11), (3, .int c12), (4, .int c13), (6, .int v15), (7, .int v16), (9, .int v31)]) hx hb dX12_coin_178 hl (by decide) rfl (fun ls hl => ?_)
            refine lv_iload hx hb dX12_coin_180 (lv_at hl 1 rfl) ?_
            refine lv_istore (lv' := [(6, .int v35), (5, .int v31), (11, .int v35), (0, .ref (mr g 0)), (1, .int c10), (2, .int c11), (3, .int c12), (4, .int c13), (7, .int v16), (9, .int v31)]) hx hb dX12_coin_182 hl (by decide) rfl (fun ls hl => ?_)
            refine lv_iinc (lv' := [(7, .int (v16 + 1)), (6, .int v35), (5, .int v31), (11, .int v35), (0, .ref (mr g 0)), (1, .int c10), (2, .int c11), (3, .int c12), (4, .int c13), (9, .int v31)]) hx hb dX12_coin_184 hl (k := 8) rfl rfl (by decide) rfl (fun ls hl => ?_)
            refine lv_goto (tgt := 77) hx hb dX12_coin_187 (by decide) ?_
            exact ih _ _ _ _ X _ _ _ hf hw (lv_sub hl [4, 5, 6, 7, 8, 2, 1, 0] rfl) kx
def mf_coin (N : Nat) (S : mS) (a1 : Int32) (a2 : Int32) : Option (Int32 × mS) := (if (mf_in a1 0 99999) = true then (if (mf_in a2 0 1) = true then (bd1 (mf_coin_L46 N a1 a2 ((if 4 ≤ (S.1 3 0) then 4 else S.1 3 0) : Int32) N S 1 0) fun v8 => (bd1 (mf_keepsRises N S) fun S9 => (bd3 (mf_coin_L77 N a1 a2 ((if 4 ≤ (S.1 3 0) then 4 else S.1 3 0) : Int32) v8 N S9 (-1) 0 0) fun v37 v38 S39 => (bd1 (mf_laysRises N S39) fun S40 => (if v37 = (-1) then some (v37, S40) else (if a2 = 0 then some (v37, S40) else some (v38, S40))))))) else some ((-2), S)) else some ((-2), S))
set_option maxRecDepth 100000 in
theorem cm_coin (l : Launch) (N : Nat) (S : mS) (a1 : Int32) (a2 : Int32) (res : Int32) (S1 : mS) (hf : mf_coin N S a1 a2 = some (res, S1)) : mMi l yX12_coin cX12_coin 12 .int 8 (fun g => [.ref (mr g 0), .int a1, .int a2]) S res S1 := by
  refine mMi_of (own := RX12) (by decide) rfl rfl (fun g => Nat.le_of_ble_eq_true rfl) ?_
  intro p e R s m args below meth c Q g A H0 H locs ls hc hR hml hw hl hQ
  have hl : lv_has ls 12 [(0, .ref (mr g 0)), (1, .int a1), (2, .int a2)] := hl
  have hx := hc.1
  have hb := hc.2.1
  unfold mf_coin at hf
  refine lv_iload_n hx hb dX12_coin_0 rfl (lv_at hl 1 rfl) ?_
  refine lv_iconst (v := 0) hx hb dX12_coin_1 (by decide) ?_
  refine lv_ldcw (v := 99999) hx hb hc.2.2.1 (hc.2.2.2 _ (mem_g 1607 (by decide +kernel) rfl)) dX12_coin_2 ?_
  refine m_csi (As := [.int a1, .int 0, .int 99999]) (rest := []) hc hw hR (hml.trans hl.1.symm) (cm_in l S a1 0 99999 _ rfl) mq_in (by decide) rfl rfl rfl (Nat.le_of_ble_eq_true rfl) dX12_coin_5 (fun H locs hw => ?_) ⟨Nat.zero_le _, Nat.zero_le _⟩
  refine lv_if_eqb (tgt := 20) hx hb dX12_coin_8 (by decide) (fun cn41 => ?_) (fun cn41 => ?_)
  · have hf := (if_neg cn41).symm.trans hf
    refine lv_bipush (v := (-2)) hx hb dX12_coin_20 (by decide) ?_
    obtain ⟨rfl, rfl⟩ := pr2_some hf
    exact hQ _ _ _ _ dX12_coin_22 hw
  · have hf := (if_pos cn41).symm.trans hf
    refine lv_iload_n hx hb dX12_coin_11 rfl (lv_at hl 2 rfl) ?_
    refine lv_iconst (v := 0) hx hb dX12_coin_12 (by decide) ?_
    refine lv_iconst (v := 1) hx hb dX12_coin_13 (by decide) ?_
    refine m_csi (As := [.int a2, .int 0, .int 1]) (rest := []) hc hw hR (hml.trans hl.1.symm) (cm_in l S a2 0 1 _ rfl) mq_in (by decide) rfl rfl rfl (Nat.le_of_ble_eq_true rfl) dX12_coin_14 (fun H locs hw => ?_) ⟨Nat.zero_le _, Nat.zero_le _⟩
    refine lv_if_neb (tgt := 23) hx hb dX12_coin_17 (by decide) (fun cn42 => ?_) (fun cn42 => ?_)
    · have hf := (if_pos cn42).symm.trans hf
      refine lv_aload_n hx hb dX12_coin_23 rfl (lv_at hl 0 rfl) ?_
      refine m_g3 hc hw dX12_coin_24 ?_
      refine lv_iconst (v := 4) hx hb dX12_coin_27 (by decide) ?_
      obtain ⟨v1, hv1⟩ : ∃ y : Int32, y = (if 4 ≤ (S.1 3 0) then 4 else S.1 3 0) := ⟨_, rfl⟩
      try rw [← hv1] at hf
      have kJ57 : ∀ v1x : Int32, v1 = v1x → ∀ (H : Heap) (locs : List Loc) (ls : Array Slot), mI g A H0 s S H locs → lv_has ls 12 [(0, .ref (mr g 0)), (1, .int a1), (2, .int a2)] → W p l e R s m args below meth c H locs 0 0 Q (F0 m 39 ls [.int v1x]) := by
        intro v1x hxv1 H locs ls hw hl
        subst hxv1
        refine lv_istore_n (lv' := [(3, .int v1), (0, .ref (mr g 0)), (1, .int a1), (2, .int a2)]) hx hb dX12_coin_39 rfl hl (by decide) rfl (fun ls hl => ?_)
        refine lv_iconst (v := 1) hx hb dX12_coin_40 (by decide) ?_
        refine lv_istore (lv' := [(4, .int 1), (3, .int v1), (0, .ref (mr g 0)), (1, .int a1), (2, .int a2)]) hx hb dX12_coin_41 hl (by decide) rfl (fun ls hl => ?_)
        refine lv_iconst (v := 0) hx hb dX12_coin_43 (by decide) ?_
        refine lv_istore (lv' := [(5, .int 0), (4, .int 1), (3, .int v1), (0, .ref (mr g 0)), (1, .int a1), (2, .int a2)]) hx hb dX12_coin_44 hl (by decide) rfl (fun ls hl => ?_)
        obtain ⟨v8, hL, hf⟩ := bd1_some hf
        refine wm_coin_L46 hc hR hml N a1 a2 v1 N _ _ _ _ _ _ _ hL hw (lv_sub hl [3, 4, 5, 2, 1, 0] rfl) (fun H locs ls hw hl => ?_)
        refine lv_aload_n hx hb dX12_coin_64 rfl (lv_at hl 0 rfl) ?_
        obtain ⟨S9, hcall, hf⟩ := bd1_some hf
        refine m_cvv (As := []) (rest := []) hc hw hR (hml.trans hl.1.symm) (cm_keepsRises l N S S9 hcall) mq_keepsRises rfl (by decide) rfl rfl rfl (Nat.le_of_ble_eq_true rfl) dX12_coin_65 (fun H locs hw => ?_) ⟨Nat.zero_le _, Nat.zero_le _⟩
        refine lv_iconst (v := (-1)) hx hb dX12_coin_68 (by decide) ?_
        refine lv_istore (lv' := [(5, .int (-1)), (0, .ref (mr g 0)), (1, .int a1), (2, .int a2), (3, .int v1), (4, .int v8)]) hx hb dX12_coin_69 hl (by decide) rfl (fun ls hl => ?_)
        refine lv_iconst (v := 0) hx hb dX12_coin_71 (by decide) ?_
        refine lv_istore (lv' := [(6, .int 0), (5, .int (-1)), (0, .ref (mr g 0)), (1, .int a1), (2, .int a2), (3, .int v1), (4, .int v8)]) hx hb dX12_coin_72 hl (by decide) rfl (fun ls hl => ?_)
        refine lv_iconst (v := 0) hx hb dX12_coin_74 (by decide) ?_
        refine lv_istore (lv' := [(7, .int 0), (6, .int 0), (5, .int (-1)), (0, .ref (mr g 0)), (1, .int a1), (2, .int a2), (3, .int v1), (4, .int v8)]) hx hb dX12_coin_75 hl (by decide) rfl (fun ls hl => ?_)
        obtain ⟨v37, v38, S39, hL, hf⟩ := bd3_some hf
        refine wm_coin_L77 hc hR hml N a1 a2 v1 v8 N _ _ _ _ _ _ _ _ hL hw (lv_sub hl [3, 4, 5, 6, 7, 2, 1, 0] rfl) (fun H locs ls hw hl => ?_)
        refine lv_aload_n hx hb dX12_coin_190 rfl (lv_at hl 0 rfl) ?_
        obtain ⟨S40, hcall, hf⟩ := bd1_some hf
        refine m_cvv (As := []) (rest := []) hc hw hR (hml.trans hl.1.symm) (cm_laysRises l N S39 S40 hcall) mq_laysRises rfl (by decide) rfl rfl rfl (Nat.le_of_ble_eq_true rfl) dX12_coin_191 (fun H locs hw => ?_) ⟨Nat.zero_le _, Nat.zero_le _⟩
        refine lv_iload hx hb dX12_coin_194 (lv_at hl 2 rfl) ?_
        refine lv_iconst (v := (-1)) hx hb dX12_coin_196 (by decide) ?_
        refine lv_icmp_eq (tgt := 204) hx hb dX12_coin_197 (by decide) (fun cn55 => ?_) (fun cn55 => ?_)
        · have hf := (if_pos cn55).symm.trans hf
          refine lv_iload hx hb dX12_coin_204 (lv_at hl 2 rfl) ?_
          refine lv_goto (tgt := 211) hx hb dX12_coin_206 (by decide) ?_
          obtain ⟨rfl, rfl⟩ := pr2_some hf
          exact hQ _ _ _ _ dX12_coin_211 hw
        · have hf := (if_neg cn55).symm.trans hf
          refine lv_iload_n hx hb dX12_coin_200 rfl (lv_at hl 1 rfl) ?_
          refine lv_if_ne (tgt := 209) hx hb dX12_coin_201 (by decide) (fun cn56 => ?_) (fun cn56 => ?_)
          · have hf := (if_neg cn56).symm.trans hf
            refine lv_iload hx hb dX12_coin_209 (lv_at hl 3 rfl) ?_
            obtain ⟨rfl, rfl⟩ := pr2_some hf
            exact hQ _ _ _ _ dX12_coin_211 hw
          · have hf := (if_pos cn56).symm.trans hf
            refine lv_iload hx hb dX12_coin_204 (lv_at hl 2 rfl) ?_
            refine lv_goto (tgt := 211) hx hb dX12_coin_206 (by decide) ?_
            obtain ⟨rfl, rfl⟩ := pr2_some hf
            exact hQ _ _ _ _ dX12_coin_211 hw
      refine lv_icmp_ge (tgt := 38) hx hb dX12_coin_28 (by decide) (fun cn58 => ?_) (fun cn58 => ?_)
      · refine lv_iconst (v := 4) hx hb dX12_coin_38 (by decide) ?_
        have ev1 : v1 = (4 : Int32) := by rw [hv1]; simp only [if_pos cn58]
        exact kJ57 _ ev1 _ _ _ hw (lv_sub hl [0, 1, 2] rfl)
      · refine lv_aload_n hx hb dX12_coin_31 rfl (lv_at hl 0 rfl) ?_
        refine m_g3 hc hw dX12_coin_32 ?_
        refine lv_goto (tgt := 39) hx hb dX12_coin_35 (by decide) ?_
        have ev1 : v1 = (S.1 3 0) := by rw [hv1]; simp only [if_neg cn58]
        exact kJ57 _ ev1 _ _ _ hw (lv_sub hl [0, 1, 2] rfl)
    · have hf := (if_neg cn42).symm.trans hf
      refine lv_bipush (v := (-2)) hx hb dX12_coin_20 (by decide) ?_
      obtain ⟨rfl, rfl⟩ := pr2_some hf
      exact hQ _ _ _ _ dX12_coin_22 hw
def mf_stage_L18 (N : Nat) (c7 : Int32) (c8 : Int32) (c9 : Int32) : Nat → mS → Int32 → Option (mS)
  | 0, _, _ => none
  | n + 1, S11, v10 => (if (S11.1 10 0) ≤ v10 then some S11 else (if ok v10 6 then mf_stage_L18 N c7 c8 c9 n (ms S11 12 v10.toNatClampNeg ((S11.1 12 v10.toNatClampNeg) + 1)) (v10 + 1) else none))
set_option maxRecDepth 100000 in
theorem wm_stage_L18 {p : Program} {l : Launch} {e : Env} {R : Room} {s : State} {m : MethodId} {args : Array Value} {below : List Frame} {meth : Method} {c : Code} {Q : State → Prop} {g : mG} {A : Nat → Prop} {H0 : Heap} (hc : qC RX12 cX12_stage p s m args c) (hR : qRoom R 8) (hml : c.maxLocals = 5) (N : Nat) (c7 : Int32) (c8 : Int32) (c9 : Int32) : ∀ (n : Nat) (S11 : mS) (v10 : Int32) (X : mS) (H : Heap) (locs : List Loc) (ls : Array Slot), mf_stage_L18 N c7 c8 c9 n S11 v10 = some X → mI g A H0 s S11 H locs → lv_has ls 5 [(0, .ref (mr g 0)), (1, .int c7), (2, .int c8), (3, .int c9), (4, .int v10)] → (∀ (H : Heap) (locs : List Loc) (ls : Array Slot), mI g A H0 s X H locs → lv_has ls 5 [(0, .ref (mr g 0)), (1, .int c7), (2, .int c8), (3, .int c9)] → W p l e R s m args below meth c H locs 0 0 Q (F0 m 44 ls [])) → W p l e R s m args below meth c H locs 0 0 Q (F0 m 18 ls []) := by
  have hx := hc.1
  have hb := hc.2.1
  intro n
  induction n with
  | zero => intro _ _ X H locs ls hf; exact nomatch (show none = some X from hf)
  | succ n ih =>
    intro S11 v10 X H locs ls hf hw hl kx
    rw [mf_stage_L18] at hf
    refine lv_iload hx hb dX12_stage_18 (lv_at hl 4 rfl) ?_
    refine lv_aload_n hx hb dX12_stage_20 rfl (lv_at hl 0 rfl) ?_
    refine m_g10 hc hw dX12_stage_21 ?_
    refine lv_icmp_ge (tgt := 44) hx hb dX12_stage_24 (by decide) (fun cn24 => ?_) (fun cn24 => ?_)
    · have hf := (if_pos cn24).symm.trans hf
      obtain rfl := Option.some.inj hf
      exact kx _ _ _ hw (lv_sub hl [0, 1, 2, 3] rfl)
    · have hf := (if_neg cn24).symm.trans hf
      refine lv_aload_n hx hb dX12_stage_27 rfl (lv_at hl 0 rfl) ?_
      refine m_g12 hc hw dX12_stage_28 ?_
      refine lv_iload hx hb dX12_stage_31 (lv_at hl 4 rfl) ?_
      refine lv_dup2_11 hx hb dX12_stage_33 rfl rfl ?_
      obtain ⟨hi12, hf⟩ := gd_some hf
      refine m_l12 hc hw (ok_in hi12) dX12_stage_34 ?_
      refine lv_iconst (v := 1) hx hb dX12_stage_35 (by decide) ?_
      refine lv_iadd hx hb dX12_stage_36 ?_
      refine m_s12 hc hw (ok_in hi12) dX12_stage_37 (fun H locs hw => ?_)
      refine lv_iinc (lv' := [(4, .int (v10 + 1)), (0, .ref (mr g 0)), (1, .int c7), (2, .int c8), (3, .int c9)]) hx hb dX12_stage_38 hl (k := 4) rfl rfl (by decide) rfl (fun ls hl => ?_)
      refine lv_goto (tgt := 18) hx hb dX12_stage_41 (by decide) ?_
      exact ih _ _ X _ _ _ hf hw (lv_sub hl [1, 2, 3, 4, 0] rfl) kx
def mf_stage_L9 (N : Nat) : Nat → mS → Int32 → Int32 → Int32 → Option (Int32 × mS)
  | 0, _, _, _, _ => none
  | n + 1, S6, v3, v4, v5 => (if 10 < v5 then some (v3, S6) else (bd1 (mf_stage_L18 N v3 v4 v5 N S6 0) fun S13 => (bd2 (mf_allWorth N S13) fun v14 S15 => (if v14 ≤ v4 then mf_stage_L9 N n S15 v3 v4 (v5 + 1) else mf_stage_L9 N n S15 v5 v14 (v5 + 1)))))
set_option maxRecDepth 100000 in
theorem wm_stage_L9 {p : Program} {l : Launch} {e : Env} {R : Room} {s : State} {m : MethodId} {args : Array Value} {below : List Frame} {meth : Method} {c : Code} {Q : State → Prop} {g : mG} {A : Nat → Prop} {H0 : Heap} (hc : qC RX12 cX12_stage p s m args c) (hR : qRoom R 8) (hml : c.maxLocals = 5) (N : Nat) : ∀ (n : Nat) (S6 : mS) (v3 : Int32) (v4 : Int32) (v5 : Int32) (X : Int32 × mS) (H : Heap) (locs : List Loc) (ls : Array Slot), mf_stage_L9 N n S6 v3 v4 v5 = some X → mI g A H0 s S6 H locs → lv_has ls 5 [(0, .ref (mr g 0)), (1, .int v3), (2, .int v4), (3, .int v5)] → (∀ (H : Heap) (locs : List Loc) (ls : Array Slot), mI g A H0 s X.2 H locs → lv_has ls 5 [(0, .ref (mr g 0)), (1, .int X.1)] → W p l e R s m args below meth c H locs 0 0 Q (F0 m 67 ls [])) → W p l e R s m args below meth c H locs 0 0 Q (F0 m 9 ls []) := by
  have hx := hc.1
  have hb := hc.2.1
  intro n
  induction n with
  | zero => intro _ _ _ _ X H locs ls hf; exact nomatch (show none = some X from hf)
  | succ n ih =>
    intro S6 v3 v4 v5 X H locs ls hf hw hl kx
    rw [mf_stage_L9] at hf
    refine lv_iload_n hx hb dX12_stage_9 rfl (lv_at hl 3 rfl) ?_
    refine lv_bipush (v := 10) hx hb dX12_stage_10 (by decide) ?_
    refine lv_icmp_gt (tgt := 67) hx hb dX12_stage_12 (by decide) (fun cn23 => ?_) (fun cn23 => ?_)
    · have hf := (if_pos cn23).symm.trans hf
      obtain rfl := Option.some.inj hf
      exact kx _ _ _ hw (lv_sub hl [0, 1] rfl)
    · have hf := (if_neg cn23).symm.trans hf
      refine lv_iconst (v := 0) hx hb dX12_stage_15 (by decide) ?_
      refine lv_istore (lv' := [(4, .int 0), (0, .ref (mr g 0)), (1, .int v3), (2, .int v4), (3, .int v5)]) hx hb dX12_stage_16 hl (by decide) rfl (fun ls hl => ?_)
      obtain ⟨S13, hL, hf⟩ := bd1_some hf
      refine wm_stage_L18 hc hR hml N v3 v4 v5 N _ _ _ _ _ _ hL hw (lv_sub hl [1, 2, 3, 4, 0] rfl) (fun H locs ls hw hl => ?_)
      refine lv_aload_n hx hb dX12_stage_44 rfl (lv_at hl 0 rfl) ?_
      obtain ⟨v14, S15, hcall, hf⟩ := bd2_some hf
      refine m_cvi (As := []) (rest := []) hc hw hR (hml.trans hl.1.symm) (cm_allWorth l N S13 v14 S15 hcall) mq_allWorth rfl (by decide) rfl rfl rfl (Nat.le_of_ble_eq_true rfl) dX12_stage_45 (fun H locs hw => ?_) ⟨Nat.zero_le _, Nat.zero_le _⟩
      refine lv_istore (lv' := [(4, .int v14), (0, .ref (mr g 0)), (1, .int v3), (2, .int v4), (3, .int v5)]) hx hb dX12_stage_48 hl (by decide) rfl (fun ls hl => ?_)
      refine lv_iload hx hb dX12_stage_50 (lv_at hl 0 rfl) ?_
      refine lv_iload_n hx hb dX12_stage_52 rfl (lv_at hl 3 rfl) ?_
      refine lv_icmp_le (tgt := 61) hx hb dX12_stage_53 (by decide) (fun cn26 => ?_) (fun cn26 => ?_)
      · have hf := (if_pos cn26).symm.trans hf
        refine lv_iinc (lv' := [(3, .int (v5 + 1)), (4, .int v14), (0, .ref (mr g 0)), (1, .int v3), (2, .int v4)]) hx hb dX12_stage_61 hl (k := 4) rfl rfl (by decide) rfl (fun ls hl => ?_)
        refine lv_goto (tgt := 9) hx hb dX12_stage_64 (by decide) ?_
        exact ih _ _ _ _ X _ _ _ hf hw (lv_sub hl [2, 3, 4, 0] rfl) kx
      · have hf := (if_neg cn26).symm.trans hf
        refine lv_iload_n hx hb dX12_stage_56 rfl (lv_at hl 4 rfl) ?_
        refine lv_istore_n (lv' := [(1, .int v5), (4, .int v14), (0, .ref (mr g 0)), (2, .int v4), (3, .int v5)]) hx hb dX12_stage_57 rfl hl (by decide) rfl (fun ls hl => ?_)
        refine lv_iload hx hb dX12_stage_58 (lv_at hl 1 rfl) ?_
        refine lv_istore_n (lv' := [(2, .int v14), (1, .int v5), (4, .int v14), (0, .ref (mr g 0)), (3, .int v5)]) hx hb dX12_stage_60 rfl hl (by decide) rfl (fun ls hl => ?_)
        refine lv_iinc (lv' := [(3, .int (v5 + 1)), (2, .int v14), (1, .int v5), (4, .int v14), (0, .ref (mr g 0))]) hx hb dX12_stage_61 hl (k := 4) rfl rfl (by decide) rfl (fun ls hl => ?_)
        refine lv_goto (tgt := 9) hx hb dX12_stage_64 (by decide) ?_
        exact ih _ _ _ _ X _ _ _ hf hw (lv_sub hl [4, 2, 1, 0] rfl) kx
def mf_stage_L69 (N : Nat) (c18 : Int32) : Nat → mS → Int32 → Option (mS)
  | 0, _, _ => none
  | n + 1, S20, v19 => (if (S20.1 10 0) ≤ v19 then some S20 else (if ok v19 6 then mf_stage_L69 N c18 n (ms S20 12 v19.toNatClampNeg ((S20.1 12 v19.toNatClampNeg) - 10)) (v19 + 1) else none))
set_option maxRecDepth 100000 in
theorem wm_stage_L69 {p : Program} {l : Launch} {e : Env} {R : Room} {s : State} {m : MethodId} {args : Array Value} {below : List Frame} {meth : Method} {c : Code} {Q : State → Prop} {g : mG} {A : Nat → Prop} {H0 : Heap} (hc : qC RX12 cX12_stage p s m args c) (hR : qRoom R 8) (hml : c.maxLocals = 5) (N : Nat) (c18 : Int32) : ∀ (n : Nat) (S20 : mS) (v19 : Int32) (X : mS) (H : Heap) (locs : List Loc) (ls : Array Slot), mf_stage_L69 N c18 n S20 v19 = some X → mI g A H0 s S20 H locs → lv_has ls 5 [(0, .ref (mr g 0)), (1, .int c18), (3, .int v19)] → (∀ (H : Heap) (locs : List Loc) (ls : Array Slot), mI g A H0 s X H locs → lv_has ls 5 [(1, .int c18)] → W p l e R s m args below meth c H locs 0 0 Q (F0 m 94 ls [])) → W p l e R s m args below meth c H locs 0 0 Q (F0 m 69 ls []) := by
  have hx := hc.1
  have hb := hc.2.1
  intro n
  induction n with
  | zero => intro _ _ X H locs ls hf; exact nomatch (show none = some X from hf)
  | succ n ih =>
    intro S20 v19 X H locs ls hf hw hl kx
    rw [mf_stage_L69] at hf
    refine lv_iload_n hx hb dX12_stage_69 rfl (lv_at hl 2 rfl) ?_
    refine lv_aload_n hx hb dX12_stage_70 rfl (lv_at hl 0 rfl) ?_
    refine m_g10 hc hw dX12_stage_71 ?_
    refine lv_icmp_ge (tgt := 94) hx hb dX12_stage_74 (by decide) (fun cn29 => ?_) (fun cn29 => ?_)
    · have hf := (if_pos cn29).symm.trans hf
      obtain rfl := Option.some.inj hf
      exact kx _ _ _ hw (lv_sub hl [1] rfl)
    · have hf := (if_neg cn29).symm.trans hf
      refine lv_aload_n hx hb dX12_stage_77 rfl (lv_at hl 0 rfl) ?_
      refine m_g12 hc hw dX12_stage_78 ?_
      refine lv_iload_n hx hb dX12_stage_81 rfl (lv_at hl 2 rfl) ?_
      refine lv_dup2_11 hx hb dX12_stage_82 rfl rfl ?_
      obtain ⟨hi21, hf⟩ := gd_some hf
      refine m_l12 hc hw (ok_in hi21) dX12_stage_83 ?_
      refine lv_bipush (v := 10) hx hb dX12_stage_84 (by decide) ?_
      refine lv_isub hx hb dX12_stage_86 ?_
      refine m_s12 hc hw (ok_in hi21) dX12_stage_87 (fun H locs hw => ?_)
      refine lv_iinc (lv' := [(3, .int (v19 + 1)), (0, .ref (mr g 0)), (1, .int c18)]) hx hb dX12_stage_88 hl (k := 2) rfl rfl (by decide) rfl (fun ls hl => ?_)
      refine lv_goto (tgt := 69) hx hb dX12_stage_91 (by decide) ?_
      exact ih _ _ X _ _ _ hf hw (lv_sub hl [1, 2, 0] rfl) kx
def mf_stage (N : Nat) (S : mS) : Option (Int32 × mS) := (bd2 (mf_allWorth N S) fun v1 S2 => (bd2 (mf_stage_L9 N N S2 0 v1 1) fun v16 S17 => (bd1 (mf_stage_L69 N v16 N S17 0) fun S22 => some (v16, S22))))
set_option maxRecDepth 100000 in
theorem cm_stage (l : Launch) (N : Nat) (S : mS) (res : Int32) (S1 : mS) (hf : mf_stage N S = some (res, S1)) : mMi l yX12_stage cX12_stage 5 .int 8 (fun g => [.ref (mr g 0)]) S res S1 := by
  refine mMi_of (own := RX12) (by decide) rfl rfl (fun g => Nat.le_of_ble_eq_true rfl) ?_
  intro p e R s m args below meth c Q g A H0 H locs ls hc hR hml hw hl hQ
  have hl : lv_has ls 5 [(0, .ref (mr g 0))] := hl
  have hx := hc.1
  have hb := hc.2.1
  unfold mf_stage at hf
  refine lv_iconst (v := 0) hx hb dX12_stage_0 (by decide) ?_
  refine lv_istore_n (lv' := [(1, .int 0), (0, .ref (mr g 0))]) hx hb dX12_stage_1 rfl hl (by decide) rfl (fun ls hl => ?_)
  refine lv_aload_n hx hb dX12_stage_2 rfl (lv_at hl 1 rfl) ?_
  obtain ⟨v1, S2, hcall, hf⟩ := bd2_some hf
  refine m_cvi (As := []) (rest := []) hc hw hR (hml.trans hl.1.symm) (cm_allWorth l N S v1 S2 hcall) mq_allWorth rfl (by decide) rfl rfl rfl (Nat.le_of_ble_eq_true rfl) dX12_stage_3 (fun H locs hw => ?_) ⟨Nat.zero_le _, Nat.zero_le _⟩
  refine lv_istore_n (lv' := [(2, .int v1), (1, .int 0), (0, .ref (mr g 0))]) hx hb dX12_stage_6 rfl hl (by decide) rfl (fun ls hl => ?_)
  refine lv_iconst (v := 1) hx hb dX12_stage_7 (by decide) ?_
  refine lv_istore_n (lv' := [(3, .int 1), (2, .int v1), (1, .int 0), (0, .ref (mr g 0))]) hx hb dX12_stage_8 rfl hl (by decide) rfl (fun ls hl => ?_)
  obtain ⟨v16, S17, hL, hf⟩ := bd2_some hf
  refine wm_stage_L9 hc hR hml N N _ _ _ _ _ _ _ _ hL hw (lv_sub hl [3, 2, 1, 0] rfl) (fun H locs ls hw hl => ?_)
  refine lv_iconst (v := 0) hx hb dX12_stage_67 (by decide) ?_
  refine lv_istore_n (lv' := [(3, .int 0), (0, .ref (mr g 0)), (1, .int v16)]) hx hb dX12_stage_68 rfl hl (by decide) rfl (fun ls hl => ?_)
  obtain ⟨S22, hL, hf⟩ := bd1_some hf
  refine wm_stage_L69 hc hR hml N v16 N _ _ _ _ _ _ hL hw (lv_sub hl [1, 2, 0] rfl) (fun H locs ls hw hl => ?_)
  refine lv_iload_n hx hb dX12_stage_94 rfl (lv_at hl 0 rfl) ?_
  obtain ⟨rfl, rfl⟩ := pr2_some hf
  exact hQ _ _ _ _ dX12_stage_95 hw
def mf_gainBy (N : Nat) (S : mS) (a1 : Int32) (a2 : Int32) : Option (Int32 × mS) := (bd2 (mf_allWorth N S) fun v1 S2 => (bd1 (mf_changes N S2 a1 a2) fun S3 => (bd2 (mf_allWorth N S3) fun v4 S5 => (bd1 (mf_changes N S5 a1 a2) fun S6 => some (v4 - v1, S6)))))
set_option maxRecDepth 100000 in
theorem cm_gainBy (l : Launch) (N : Nat) (S : mS) (a1 : Int32) (a2 : Int32) (res : Int32) (S1 : mS) (hf : mf_gainBy N S a1 a2 = some (res, S1)) : mMi l yX12_gainBy cX12_gainBy 5 .int 8 (fun g => [.ref (mr g 0), .int a1, .int a2]) S res S1 := by
  refine mMi_of (own := RX12) (by decide) rfl rfl (fun g => Nat.le_of_ble_eq_true rfl) ?_
  intro p e R s m args below meth c Q g A H0 H locs ls hc hR hml hw hl hQ
  have hl : lv_has ls 5 [(0, .ref (mr g 0)), (1, .int a1), (2, .int a2)] := hl
  have hx := hc.1
  have hb := hc.2.1
  unfold mf_gainBy at hf
  refine lv_aload_n hx hb dX12_gainBy_0 rfl (lv_at hl 0 rfl) ?_
  obtain ⟨v1, S2, hcall, hf⟩ := bd2_some hf
  refine m_cvi (As := []) (rest := []) hc hw hR (hml.trans hl.1.symm) (cm_allWorth l N S v1 S2 hcall) mq_allWorth rfl (by decide) rfl rfl rfl (Nat.le_of_ble_eq_true rfl) dX12_gainBy_1 (fun H locs hw => ?_) ⟨Nat.zero_le _, Nat.zero_le _⟩
  refine lv_istore_n (lv' := [(3, .int v1), (0, .ref (mr g 0)), (1, .int a1), (2, .int a2)]) hx hb dX12_gainBy_4 rfl hl (by decide) rfl (fun ls hl => ?_)
  refine lv_aload_n hx hb dX12_gainBy_5 rfl (lv_at hl 1 rfl) ?_
  refine lv_iload_n hx hb dX12_gainBy_6 rfl (lv_at hl 2 rfl) ?_
  refine lv_iload_n hx hb dX12_gainBy_7 rfl (lv_at hl 3 rfl) ?_
  obtain ⟨S3, hcall, hf⟩ := bd1_some hf
  refine m_cvv (As := [.int a1, .int a2]) (rest := []) hc hw hR (hml.trans hl.1.symm) (cm_changes l N S2 a1 a2 S3 hcall) mq_changes rfl (by decide) rfl rfl rfl (Nat.le_of_ble_eq_true rfl) dX12_gainBy_8 (fun H locs hw => ?_) ⟨Nat.zero_le _, Nat.zero_le _⟩
  refine lv_aload_n hx hb dX12_gainBy_11 rfl (lv_at hl 1 rfl) ?_
  obtain ⟨v4, S5, hcall, hf⟩ := bd2_some hf
  refine m_cvi (As := []) (rest := []) hc hw hR (hml.trans hl.1.symm) (cm_allWorth l N S3 v4 S5 hcall) mq_allWorth rfl (by decide) rfl rfl rfl (Nat.le_of_ble_eq_true rfl) dX12_gainBy_12 (fun H locs hw => ?_) ⟨Nat.zero_le _, Nat.zero_le _⟩
  refine lv_istore (lv' := [(4, .int v4), (3, .int v1), (0, .ref (mr g 0)), (1, .int a1), (2, .int a2)]) hx hb dX12_gainBy_15 hl (by decide) rfl (fun ls hl => ?_)
  refine lv_aload_n hx hb dX12_gainBy_17 rfl (lv_at hl 2 rfl) ?_
  refine lv_iload_n hx hb dX12_gainBy_18 rfl (lv_at hl 3 rfl) ?_
  refine lv_iload_n hx hb dX12_gainBy_19 rfl (lv_at hl 4 rfl) ?_
  obtain ⟨S6, hcall, hf⟩ := bd1_some hf
  refine m_cvv (As := [.int a1, .int a2]) (rest := []) hc hw hR (hml.trans hl.1.symm) (cm_changes l N S5 a1 a2 S6 hcall) mq_changes rfl (by decide) rfl rfl rfl (Nat.le_of_ble_eq_true rfl) dX12_gainBy_20 (fun H locs hw => ?_) ⟨Nat.zero_le _, Nat.zero_le _⟩
  refine lv_iload hx hb dX12_gainBy_23 (lv_at hl 0 rfl) ?_
  refine lv_iload_n hx hb dX12_gainBy_25 rfl (lv_at hl 1 rfl) ?_
  refine lv_isub hx hb dX12_gainBy_26 ?_
  obtain ⟨rfl, rfl⟩ := pr2_some hf
  exact hQ _ _ _ _ dX12_gainBy_27 hw
theorem mq_gainBy : qCv RX12 363 yX12_gainBy cX12_gainBy 5 (some .int) 2 := ⟨⟨(mem_g 1617 (by decide +kernel) rfl), (mem_g 1619 (by decide +kernel) rfl), (mem_g 73 (by decide +kernel) rfl), (mem_g 89 (by decide +kernel) rfl), (mem_g 1620 (by decide +kernel) rfl)⟩, by decide, by decide +kernel, by decide⟩
def mf_hat (N : Nat) (S : mS) (a1 : Int32) (a2 : Int32) (a3 : Int32) : Option (Int32 × mS) := (bd1 (mf_isSeat N S a1 a2) fun v1 => (if v1 = true then (if (mf_in a3 0 40) = true then (bd2 (mf_allWorth N S) fun v2 S3 => (bd2 (mf_allWorth N (ms (ms S3 23 0 ((8 * a1) + a2)) 24 0 a3)) fun v4 S5 => some (v2 - v4, ms S5 23 0 (-1)))) else some ((-7), S)) else some ((-5), S)))
set_option maxRecDepth 100000 in
theorem cm_hat (l : Launch) (N : Nat) (S : mS) (a1 : Int32) (a2 : Int32) (a3 : Int32) (res : Int32) (S1 : mS) (hf : mf_hat N S a1 a2 a3 = some (res, S1)) : mMi l yX12_hat cX12_hat 6 .int 8 (fun g => [.ref (mr g 0), .int a1, .int a2, .int a3]) S res S1 := by
  refine mMi_of (own := RX12) (by decide) rfl rfl (fun g => Nat.le_of_ble_eq_true rfl) ?_
  intro p e R s m args below meth c Q g A H0 H locs ls hc hR hml hw hl hQ
  have hl : lv_has ls 6 [(0, .ref (mr g 0)), (1, .int a1), (2, .int a2), (3, .int a3)] := hl
  have hx := hc.1
  have hb := hc.2.1
  unfold mf_hat at hf
  refine lv_aload_n hx hb dX12_hat_0 rfl (lv_at hl 0 rfl) ?_
  refine lv_iload_n hx hb dX12_hat_1 rfl (lv_at hl 1 rfl) ?_
  refine lv_iload_n hx hb dX12_hat_2 rfl (lv_at hl 2 rfl) ?_
  obtain ⟨v1, hcall, hf⟩ := bd1_some hf
  refine m_cvi (As := [.int a1, .int a2]) (rest := []) hc hw hR (hml.trans hl.1.symm) (cm_isSeat l N S a1 a2 v1 hcall) mq_isSeat rfl (by decide) rfl rfl rfl (Nat.le_of_ble_eq_true rfl) dX12_hat_3 (fun H locs hw => ?_) ⟨Nat.zero_le _, Nat.zero_le _⟩
  refine lv_if_neb (tgt := 12) hx hb dX12_hat_6 (by decide) (fun cn6 => ?_) (fun cn6 => ?_)
  · have hf := (if_pos cn6).symm.trans hf
    refine lv_iload_n hx hb dX12_hat_12 rfl (lv_at hl 3 rfl) ?_
    refine lv_iconst (v := 0) hx hb dX12_hat_13 (by decide) ?_
    refine lv_bipush (v := 40) hx hb dX12_hat_14 (by decide) ?_
    refine m_csi (As := [.int a3, .int 0, .int 40]) (rest := []) hc hw hR (hml.trans hl.1.symm) (cm_in l S a3 0 40 _ rfl) mq_in (by decide) rfl rfl rfl (Nat.le_of_ble_eq_true rfl) dX12_hat_16 (fun H locs hw => ?_) ⟨Nat.zero_le _, Nat.zero_le _⟩
    refine lv_if_neb (tgt := 25) hx hb dX12_hat_19 (by decide) (fun cn7 => ?_) (fun cn7 => ?_)
    · have hf := (if_pos cn7).symm.trans hf
      refine lv_aload_n hx hb dX12_hat_25 rfl (lv_at hl 0 rfl) ?_
      obtain ⟨v2, S3, hcall, hf⟩ := bd2_some hf
      refine m_cvi (As := []) (rest := []) hc hw hR (hml.trans hl.1.symm) (cm_allWorth l N S v2 S3 hcall) mq_allWorth rfl (by decide) rfl rfl rfl (Nat.le_of_ble_eq_true rfl) dX12_hat_26 (fun H locs hw => ?_) ⟨Nat.zero_le _, Nat.zero_le _⟩
      refine lv_istore (lv' := [(4, .int v2), (0, .ref (mr g 0)), (1, .int a1), (2, .int a2), (3, .int a3)]) hx hb dX12_hat_29 hl (by decide) rfl (fun ls hl => ?_)
      refine lv_aload_n hx hb dX12_hat_31 rfl (lv_at hl 1 rfl) ?_
      refine lv_bipush (v := 8) hx hb dX12_hat_32 (by decide) ?_
      refine lv_iload_n hx hb dX12_hat_34 rfl (lv_at hl 2 rfl) ?_
      refine lv_imul hx hb dX12_hat_35 ?_
      refine lv_iload_n hx hb dX12_hat_36 rfl (lv_at hl 3 rfl) ?_
      refine lv_iadd hx hb dX12_hat_37 ?_
      refine m_p23 hc hw dX12_hat_38 (fun H locs hw => ?_)
      refine lv_aload_n hx hb dX12_hat_41 rfl (lv_at hl 1 rfl) ?_
      refine lv_iload_n hx hb dX12_hat_42 rfl (lv_at hl 4 rfl) ?_
      refine m_p24 hc hw dX12_hat_43 (fun H locs hw => ?_)
      refine lv_aload_n hx hb dX12_hat_46 rfl (lv_at hl 1 rfl) ?_
      obtain ⟨v4, S5, hcall, hf⟩ := bd2_some hf
      refine m_cvi (As := []) (rest := []) hc hw hR (hml.trans hl.1.symm) (cm_allWorth l N (ms (ms S3 23 0 ((8 * a1) + a2)) 24 0 a3) v4 S5 hcall) mq_allWorth rfl (by decide) rfl rfl rfl (Nat.le_of_ble_eq_true rfl) dX12_hat_47 (fun H locs hw => ?_) ⟨Nat.zero_le _, Nat.zero_le _⟩
      refine lv_istore (lv' := [(5, .int v4), (4, .int v2), (0, .ref (mr g 0)), (1, .int a1), (2, .int a2), (3, .int a3)]) hx hb dX12_hat_50 hl (by decide) rfl (fun ls hl => ?_)
      refine lv_aload_n hx hb dX12_hat_52 rfl (lv_at hl 2 rfl) ?_
      refine lv_iconst (v := (-1)) hx hb dX12_hat_53 (by decide) ?_
      refine m_p23 hc hw dX12_hat_54 (fun H locs hw => ?_)
      refine lv_iload hx hb dX12_hat_57 (lv_at hl 1 rfl) ?_
      refine lv_iload hx hb dX12_hat_59 (lv_at hl 0 rfl) ?_
      refine lv_isub hx hb dX12_hat_61 ?_
      obtain ⟨rfl, rfl⟩ := pr2_some hf
      exact hQ _ _ _ _ dX12_hat_62 hw
    · have hf := (if_neg cn7).symm.trans hf
      refine lv_bipush (v := (-7)) hx hb dX12_hat_22 (by decide) ?_
      obtain ⟨rfl, rfl⟩ := pr2_some hf
      exact hQ _ _ _ _ dX12_hat_24 hw
  · have hf := (if_neg cn6).symm.trans hf
    refine lv_bipush (v := (-5)) hx hb dX12_hat_9 (by decide) ?_
    obtain ⟨rfl, rfl⟩ := pr2_some hf
    exact hQ _ _ _ _ dX12_hat_11 hw
def mf_least_L32 (N : Nat) (c2 : Int32) (c3 : Int32) : Nat → mS → Int32 → Int32 → Int32 → Option (Int32 × mS)
  | 0, _, _, _, _ => none
  | n + 1, S7, v4, v5, v6 => (if 20 < v6 then some (v4, S7) else (if ok c2 4 then (bd2 (mf_allWorth N (ms S7 15 c2.toNatClampNeg v6)) fun v9 S10 => (if v9 ≤ v5 then mf_least_L32 N c2 c3 n S10 v4 v5 (v6 + 1) else mf_least_L32 N c2 c3 n S10 v6 v9 (v6 + 1))) else none))
set_option maxRecDepth 100000 in
theorem wm_least_L32 {p : Program} {l : Launch} {e : Env} {R : Room} {s : State} {m : MethodId} {args : Array Value} {below : List Frame} {meth : Method} {c : Code} {Q : State → Prop} {g : mG} {A : Nat → Prop} {H0 : Heap} (hc : qC RX12 cX12_least p s m args c) (hR : qRoom R 8) (hml : c.maxLocals = 7) (N : Nat) (c2 : Int32) (c3 : Int32) : ∀ (n : Nat) (S7 : mS) (v4 : Int32) (v5 : Int32) (v6 : Int32) (X : Int32 × mS) (H : Heap) (locs : List Loc) (ls : Array Slot), mf_least_L32 N c2 c3 n S7 v4 v5 v6 = some X → mI g A H0 s S7 H locs → lv_has ls 7 [(0, .ref (mr g 0)), (1, .int c2), (2, .int c3), (3, .int v4), (4, .int v5), (5, .int v6)] → (∀ (H : Heap) (locs : List Loc) (ls : Array Slot), mI g A H0 s X.2 H locs → lv_has ls 7 [(0, .ref (mr g 0)), (1, .int c2), (2, .int c3), (3, .int X.1)] → W p l e R s m args below meth c H locs 0 0 Q (F0 m 73 ls [])) → W p l e R s m args below meth c H locs 0 0 Q (F0 m 32 ls []) := by
  have hx := hc.1
  have hb := hc.2.1
  intro n
  induction n with
  | zero => intro _ _ _ _ X H locs ls hf; exact nomatch (show none = some X from hf)
  | succ n ih =>
    intro S7 v4 v5 v6 X H locs ls hf hw hl kx
    rw [mf_least_L32] at hf
    refine lv_iload hx hb dX12_least_32 (lv_at hl 5 rfl) ?_
    refine lv_bipush (v := 20) hx hb dX12_least_34 (by decide) ?_
    refine lv_icmp_gt (tgt := 73) hx hb dX12_least_36 (by decide) (fun cn14 => ?_) (fun cn14 => ?_)
    · have hf := (if_pos cn14).symm.trans hf
      obtain rfl := Option.some.inj hf
      exact kx _ _ _ hw (lv_sub hl [0, 1, 2, 3] rfl)
    · have hf := (if_neg cn14).symm.trans hf
      refine lv_aload_n hx hb dX12_least_39 rfl (lv_at hl 0 rfl) ?_
      refine m_g15 hc hw dX12_least_40 ?_
      refine lv_iload_n hx hb dX12_least_43 rfl (lv_at hl 1 rfl) ?_
      refine lv_iload hx hb dX12_least_44 (lv_at hl 5 rfl) ?_
      obtain ⟨hi8, hf⟩ := gd_some hf
      refine m_s15 hc hw (ok_in hi8) dX12_least_46 (fun H locs hw => ?_)
      refine lv_aload_n hx hb dX12_least_47 rfl (lv_at hl 0 rfl) ?_
      obtain ⟨v9, S10, hcall, hf⟩ := bd2_some hf
      refine m_cvi (As := []) (rest := []) hc hw hR (hml.trans hl.1.symm) (cm_allWorth l N (ms S7 15 c2.toNatClampNeg v6) v9 S10 hcall) mq_allWorth rfl (by decide) rfl rfl rfl (Nat.le_of_ble_eq_true rfl) dX12_least_48 (fun H locs hw => ?_) ⟨Nat.zero_le _, Nat.zero_le _⟩
      refine lv_istore (lv' := [(6, .int v9), (0, .ref (mr g 0)), (1, .int c2), (2, .int c3), (3, .int v4), (4, .int v5), (5, .int v6)]) hx hb dX12_least_51 hl (by decide) rfl (fun ls hl => ?_)
      refine lv_iload hx hb dX12_least_53 (lv_at hl 0 rfl) ?_
      refine lv_iload hx hb dX12_least_55 (lv_at hl 5 rfl) ?_
      refine lv_icmp_le (tgt := 67) hx hb dX12_least_57 (by decide) (fun cn15 => ?_) (fun cn15 => ?_)
      · have hf := (if_pos cn15).symm.trans hf
        refine lv_iinc (lv' := [(5, .int (v6 + 1)), (6, .int v9), (0, .ref (mr g 0)), (1, .int c2), (2, .int c3), (3, .int v4), (4, .int v5)]) hx hb dX12_least_67 hl (k := 6) rfl rfl (by decide) rfl (fun ls hl => ?_)
        refine lv_goto (tgt := 32) hx hb dX12_least_70 (by decide) ?_
        exact ih _ _ _ _ X _ _ _ hf hw (lv_sub hl [2, 3, 4, 5, 6, 0] rfl) kx
      · have hf := (if_neg cn15).symm.trans hf
        refine lv_iload hx hb dX12_least_60 (lv_at hl 6 rfl) ?_
        refine lv_istore_n (lv' := [(3, .int v6), (6, .int v9), (0, .ref (mr g 0)), (1, .int c2), (2, .int c3), (4, .int v5), (5, .int v6)]) hx hb dX12_least_62 rfl hl (by decide) rfl (fun ls hl => ?_)
        refine lv_iload hx hb dX12_least_63 (lv_at hl 1 rfl) ?_
        refine lv_istore (lv' := [(4, .int v9), (3, .int v6), (6, .int v9), (0, .ref (mr g 0)), (1, .int c2), (2, .int c3), (5, .int v6)]) hx hb dX12_least_65 hl (by decide) rfl (fun ls hl => ?_)
        refine lv_iinc (lv' := [(5, .int (v6 + 1)), (4, .int v9), (3, .int v6), (6, .int v9), (0, .ref (mr g 0)), (1, .int c2), (2, .int c3)]) hx hb dX12_least_67 hl (k := 6) rfl rfl (by decide) rfl (fun ls hl => ?_)
        refine lv_goto (tgt := 32) hx hb dX12_least_70 (by decide) ?_
        exact ih _ _ _ _ X _ _ _ hf hw (lv_sub hl [4, 5, 6, 2, 1, 0] rfl) kx
def mf_least (N : Nat) (S : mS) (a1 : Int32) : Option (Int32 × mS) := (if (mf_in a1 0 ((S.1 14 0) - 1)) = true then (if ok a1 4 then (bd2 (mf_least_L32 N a1 (S.1 15 a1.toNatClampNeg) N S 0 (-1) 0) fun v11 S12 => some (v11, ms S12 15 a1.toNatClampNeg (S.1 15 a1.toNatClampNeg))) else none) else some ((-5), S))
set_option maxRecDepth 100000 in
theorem cm_least (l : Launch) (N : Nat) (S : mS) (a1 : Int32) (res : Int32) (S1 : mS) (hf : mf_least N S a1 = some (res, S1)) : mMi l yX12_least cX12_least 7 .int 8 (fun g => [.ref (mr g 0), .int a1]) S res S1 := by
  refine mMi_of (own := RX12) (by decide) rfl rfl (fun g => Nat.le_of_ble_eq_true rfl) ?_
  intro p e R s m args below meth c Q g A H0 H locs ls hc hR hml hw hl hQ
  have hl : lv_has ls 7 [(0, .ref (mr g 0)), (1, .int a1)] := hl
  have hx := hc.1
  have hb := hc.2.1
  unfold mf_least at hf
  refine lv_iload_n hx hb dX12_least_0 rfl (lv_at hl 1 rfl) ?_
  refine lv_iconst (v := 0) hx hb dX12_least_1 (by decide) ?_
  refine lv_aload_n hx hb dX12_least_2 rfl (lv_at hl 0 rfl) ?_
  refine m_g14 hc hw dX12_least_3 ?_
  refine lv_iconst (v := 1) hx hb dX12_least_6 (by decide) ?_
  refine lv_isub hx hb dX12_least_7 ?_
  refine m_csi (As := [.int a1, .int 0, .int ((S.1 14 0) - 1)]) (rest := []) hc hw hR (hml.trans hl.1.symm) (cm_in l S a1 0 ((S.1 14 0) - 1) _ rfl) mq_in (by decide) rfl rfl rfl (Nat.le_of_ble_eq_true rfl) dX12_least_8 (fun H locs hw => ?_) ⟨Nat.zero_le _, Nat.zero_le _⟩
  refine lv_if_neb (tgt := 17) hx hb dX12_least_11 (by decide) (fun cn13 => ?_) (fun cn13 => ?_)
  · have hf := (if_pos cn13).symm.trans hf
    refine lv_aload_n hx hb dX12_least_17 rfl (lv_at hl 0 rfl) ?_
    refine m_g15 hc hw dX12_least_18 ?_
    refine lv_iload_n hx hb dX12_least_21 rfl (lv_at hl 1 rfl) ?_
    obtain ⟨hi1, hf⟩ := gd_some hf
    refine m_l15 hc hw (ok_in hi1) dX12_least_22 ?_
    refine lv_istore_n (lv' := [(2, .int (S.1 15 a1.toNatClampNeg)), (0, .ref (mr g 0)), (1, .int a1)]) hx hb dX12_least_23 rfl hl (by decide) rfl (fun ls hl => ?_)
    refine lv_iconst (v := 0) hx hb dX12_least_24 (by decide) ?_
    refine lv_istore_n (lv' := [(3, .int 0), (2, .int (S.1 15 a1.toNatClampNeg)), (0, .ref (mr g 0)), (1, .int a1)]) hx hb dX12_least_25 rfl hl (by decide) rfl (fun ls hl => ?_)
    refine lv_iconst (v := (-1)) hx hb dX12_least_26 (by decide) ?_
    refine lv_istore (lv' := [(4, .int (-1)), (3, .int 0), (2, .int (S.1 15 a1.toNatClampNeg)), (0, .ref (mr g 0)), (1, .int a1)]) hx hb dX12_least_27 hl (by decide) rfl (fun ls hl => ?_)
    refine lv_iconst (v := 0) hx hb dX12_least_29 (by decide) ?_
    refine lv_istore (lv' := [(5, .int 0), (4, .int (-1)), (3, .int 0), (2, .int (S.1 15 a1.toNatClampNeg)), (0, .ref (mr g 0)), (1, .int a1)]) hx hb dX12_least_30 hl (by decide) rfl (fun ls hl => ?_)
    obtain ⟨v11, S12, hL, hf⟩ := bd2_some hf
    refine wm_least_L32 hc hR hml N a1 (S.1 15 a1.toNatClampNeg) N _ _ _ _ _ _ _ _ hL hw (lv_sub hl [4, 5, 3, 2, 1, 0] rfl) (fun H locs ls hw hl => ?_)
    refine lv_aload_n hx hb dX12_least_73 rfl (lv_at hl 0 rfl) ?_
    refine m_g15 hc hw dX12_least_74 ?_
    refine lv_iload_n hx hb dX12_least_77 rfl (lv_at hl 1 rfl) ?_
    refine lv_iload_n hx hb dX12_least_78 rfl (lv_at hl 2 rfl) ?_
    refine m_s15 hc hw (ok_in hi1) dX12_least_79 (fun H locs hw => ?_)
    refine lv_iload_n hx hb dX12_least_80 rfl (lv_at hl 3 rfl) ?_
    obtain ⟨rfl, rfl⟩ := pr2_some hf
    exact hQ _ _ _ _ dX12_least_81 hw
  · have hf := (if_neg cn13).symm.trans hf
    refine lv_bipush (v := (-5)) hx hb dX12_least_14 (by decide) ?_
    obtain ⟨rfl, rfl⟩ := pr2_some hf
    exact hQ _ _ _ _ dX12_least_16 hw
def mf_sell_L14 (N : Nat) (c1 : Int32) : Nat → mS → Int32 → Option (mS)
  | 0, _, _ => none
  | n + 1, S3, v2 => (if 1001 ≤ v2 then some S3 else (if ok v2 1001 then mf_sell_L14 N c1 n (ms S3 58 v2.toNatClampNeg 0) (v2 + 1) else none))
set_option maxRecDepth 100000 in
theorem wm_sell_L14 {p : Program} {l : Launch} {e : Env} {R : Room} {s : State} {m : MethodId} {args : Array Value} {below : List Frame} {meth : Method} {c : Code} {Q : State → Prop} {g : mG} {A : Nat → Prop} {H0 : Heap} (hc : qC RX12 cX12_sell p s m args c) (hR : qRoom R 8) (hml : c.maxLocals = 6) (N : Nat) (c1 : Int32) : ∀ (n : Nat) (S3 : mS) (v2 : Int32) (X : mS) (H : Heap) (locs : List Loc) (ls : Array Slot), mf_sell_L14 N c1 n S3 v2 = some X → mI g A H0 s S3 H locs → lv_has ls 6 [(0, .ref (mr g 0)), (1, .int c1), (2, .int v2)] → (∀ (H : Heap) (locs : List Loc) (ls : Array Slot), mI g A H0 s X H locs → lv_has ls 6 [(0, .ref (mr g 0)), (1, .int c1)] → W p l e R s m args below meth c H locs 0 0 Q (F0 m 34 ls [])) → W p l e R s m args below meth c H locs 0 0 Q (F0 m 14 ls []) := by
  have hx := hc.1
  have hb := hc.2.1
  intro n
  induction n with
  | zero => intro _ _ X H locs ls hf; exact nomatch (show none = some X from hf)
  | succ n ih =>
    intro S3 v2 X H locs ls hf hw hl kx
    rw [mf_sell_L14] at hf
    refine lv_iload_n hx hb dX12_sell_14 rfl (lv_at hl 2 rfl) ?_
    refine lv_sipush (v := 1001) hx hb dX12_sell_15 (by decide) ?_
    refine lv_icmp_ge (tgt := 34) hx hb dX12_sell_18 (by decide) (fun cn29 => ?_) (fun cn29 => ?_)
    · have hf := (if_pos cn29).symm.trans hf
      obtain rfl := Option.some.inj hf
      exact kx _ _ _ hw (lv_sub hl [0, 1] rfl)
    · have hf := (if_neg cn29).symm.trans hf
      refine lv_aload_n hx hb dX12_sell_21 rfl (lv_at hl 0 rfl) ?_
      refine m_g58 hc hw dX12_sell_22 ?_
      refine lv_iload_n hx hb dX12_sell_25 rfl (lv_at hl 2 rfl) ?_
      refine lv_iconst (v := 0) hx hb dX12_sell_26 (by decide) ?_
      obtain ⟨hi4, hf⟩ := gd_some hf
      refine m_s58 hc hw (ok_in hi4) dX12_sell_27 (fun H locs hw => ?_)
      refine lv_iinc (lv' := [(2, .int (v2 + 1)), (0, .ref (mr g 0)), (1, .int c1)]) hx hb dX12_sell_28 hl (k := 2) rfl rfl (by decide) rfl (fun ls hl => ?_)
      refine lv_goto (tgt := 14) hx hb dX12_sell_31 (by decide) ?_
      exact ih _ _ X _ _ _ hf hw (lv_sub hl [1, 2, 0] rfl) kx
def mf_sell_L46 (N : Nat) (c9 : Int32) (c10 : Int32) : Nat → mS → Int32 → Option (mS)
  | 0, _, _ => none
  | n + 1, S12, v11 => (if ok c10 6 then (if (S12.1 5 c10.toNatClampNeg) ≤ v11 then some S12 else (bd2 (mf_priceOf N S12 c10 v11) fun v14 S15 => (if ok v14 1001 then mf_sell_L46 N c9 c10 n (ms S15 58 v14.toNatClampNeg ((S15.1 58 v14.toNatClampNeg) + 1)) (v11 + 1) else none))) else none)
set_option maxRecDepth 100000 in
theorem wm_sell_L46 {p : Program} {l : Launch} {e : Env} {R : Room} {s : State} {m : MethodId} {args : Array Value} {below : List Frame} {meth : Method} {c : Code} {Q : State → Prop} {g : mG} {A : Nat → Prop} {H0 : Heap} (hc : qC RX12 cX12_sell p s m args c) (hR : qRoom R 8) (hml : c.maxLocals = 6) (N : Nat) (c9 : Int32) (c10 : Int32) : ∀ (n : Nat) (S12 : mS) (v11 : Int32) (X : mS) (H : Heap) (locs : List Loc) (ls : Array Slot), mf_sell_L46 N c9 c10 n S12 v11 = some X → mI g A H0 s S12 H locs → lv_has ls 6 [(0, .ref (mr g 0)), (1, .int c9), (2, .int c10), (3, .int v11)] → (∀ (H : Heap) (locs : List Loc) (ls : Array Slot), mI g A H0 s X H locs → lv_has ls 6 [(0, .ref (mr g 0)), (1, .int c9), (2, .int c10)] → W p l e R s m args below meth c H locs 0 0 Q (F0 m 77 ls [])) → W p l e R s m args below meth c H locs 0 0 Q (F0 m 46 ls []) := by
  have hx := hc.1
  have hb := hc.2.1
  intro n
  induction n with
  | zero => intro _ _ X H locs ls hf; exact nomatch (show none = some X from hf)
  | succ n ih =>
    intro S12 v11 X H locs ls hf hw hl kx
    rw [mf_sell_L46] at hf
    refine lv_iload_n hx hb dX12_sell_46 rfl (lv_at hl 3 rfl) ?_
    refine lv_aload_n hx hb dX12_sell_47 rfl (lv_at hl 0 rfl) ?_
    refine m_g5 hc hw dX12_sell_48 ?_
    refine lv_iload_n hx hb dX12_sell_51 rfl (lv_at hl 2 rfl) ?_
    obtain ⟨hi13, hf⟩ := gd_some hf
    refine m_l5 hc hw (ok_in hi13) dX12_sell_52 ?_
    refine lv_icmp_ge (tgt := 77) hx hb dX12_sell_53 (by decide) (fun cn32 => ?_) (fun cn32 => ?_)
    · have hf := (if_pos cn32).symm.trans hf
      obtain rfl := Option.some.inj hf
      exact kx _ _ _ hw (lv_sub hl [0, 1, 2] rfl)
    · have hf := (if_neg cn32).symm.trans hf
      refine lv_aload_n hx hb dX12_sell_56 rfl (lv_at hl 0 rfl) ?_
      refine m_g58 hc hw dX12_sell_57 ?_
      refine lv_aload_n hx hb dX12_sell_60 rfl (lv_at hl 0 rfl) ?_
      refine lv_iload_n hx hb dX12_sell_61 rfl (lv_at hl 2 rfl) ?_
      refine lv_iload_n hx hb dX12_sell_62 rfl (lv_at hl 3 rfl) ?_
      obtain ⟨v14, S15, hcall, hf⟩ := bd2_some hf
      refine m_cvi (As := [.int c10, .int v11]) (rest := [.ref (mr g 59)]) hc hw hR (hml.trans hl.1.symm) (cm_priceOf l N S12 c10 v11 v14 S15 hcall) mq_priceOf rfl (by decide) rfl rfl rfl (Nat.le_of_ble_eq_true rfl) dX12_sell_63 (fun H locs hw => ?_) ⟨Nat.zero_le _, Nat.zero_le _⟩
      refine lv_dup2_11 hx hb dX12_sell_66 rfl rfl ?_
      obtain ⟨hi16, hf⟩ := gd_some hf
      refine m_l58 hc hw (ok_in hi16) dX12_sell_67 ?_
      refine lv_iconst (v := 1) hx hb dX12_sell_68 (by decide) ?_
      refine lv_iadd hx hb dX12_sell_69 ?_
      refine m_s58 hc hw (ok_in hi16) dX12_sell_70 (fun H locs hw => ?_)
      refine lv_iinc (lv' := [(3, .int (v11 + 1)), (0, .ref (mr g 0)), (1, .int c9), (2, .int c10)]) hx hb dX12_sell_71 hl (k := 3) rfl rfl (by decide) rfl (fun ls hl => ?_)
      refine lv_goto (tgt := 46) hx hb dX12_sell_74 (by decide) ?_
      exact ih _ _ X _ _ _ hf hw (lv_sub hl [1, 2, 3, 0] rfl) kx
def mf_sell_L36 (N : Nat) (c6 : Int32) : Nat → mS → Int32 → Option (mS)
  | 0, _, _ => none
  | n + 1, S8, v7 => (if (S8.1 3 0) ≤ v7 then some S8 else (bd1 (mf_sell_L46 N c6 v7 N S8 0) fun S17 => mf_sell_L36 N c6 n S17 (v7 + 1)))
set_option maxRecDepth 100000 in
theorem wm_sell_L36 {p : Program} {l : Launch} {e : Env} {R : Room} {s : State} {m : MethodId} {args : Array Value} {below : List Frame} {meth : Method} {c : Code} {Q : State → Prop} {g : mG} {A : Nat → Prop} {H0 : Heap} (hc : qC RX12 cX12_sell p s m args c) (hR : qRoom R 8) (hml : c.maxLocals = 6) (N : Nat) (c6 : Int32) : ∀ (n : Nat) (S8 : mS) (v7 : Int32) (X : mS) (H : Heap) (locs : List Loc) (ls : Array Slot), mf_sell_L36 N c6 n S8 v7 = some X → mI g A H0 s S8 H locs → lv_has ls 6 [(0, .ref (mr g 0)), (1, .int c6), (2, .int v7)] → (∀ (H : Heap) (locs : List Loc) (ls : Array Slot), mI g A H0 s X H locs → lv_has ls 6 [(0, .ref (mr g 0)), (1, .int c6)] → W p l e R s m args below meth c H locs 0 0 Q (F0 m 83 ls [])) → W p l e R s m args below meth c H locs 0 0 Q (F0 m 36 ls []) := by
  have hx := hc.1
  have hb := hc.2.1
  intro n
  induction n with
  | zero => intro _ _ X H locs ls hf; exact nomatch (show none = some X from hf)
  | succ n ih =>
    intro S8 v7 X H locs ls hf hw hl kx
    rw [mf_sell_L36] at hf
    refine lv_iload_n hx hb dX12_sell_36 rfl (lv_at hl 2 rfl) ?_
    refine lv_aload_n hx hb dX12_sell_37 rfl (lv_at hl 0 rfl) ?_
    refine m_g3 hc hw dX12_sell_38 ?_
    refine lv_icmp_ge (tgt := 83) hx hb dX12_sell_41 (by decide) (fun cn31 => ?_) (fun cn31 => ?_)
    · have hf := (if_pos cn31).symm.trans hf
      obtain rfl := Option.some.inj hf
      exact kx _ _ _ hw (lv_sub hl [0, 1] rfl)
    · have hf := (if_neg cn31).symm.trans hf
      refine lv_iconst (v := 0) hx hb dX12_sell_44 (by decide) ?_
      refine lv_istore_n (lv' := [(3, .int 0), (0, .ref (mr g 0)), (1, .int c6), (2, .int v7)]) hx hb dX12_sell_45 rfl hl (by decide) rfl (fun ls hl => ?_)
      obtain ⟨S17, hL, hf⟩ := bd1_some hf
      refine wm_sell_L46 hc hR hml N c6 v7 N _ _ _ _ _ _ hL hw (lv_sub hl [1, 2, 3, 0] rfl) (fun H locs ls hw hl => ?_)
      refine lv_iinc (lv' := [(2, .int (v7 + 1)), (0, .ref (mr g 0)), (1, .int c6)]) hx hb dX12_sell_77 hl (k := 2) rfl rfl (by decide) rfl (fun ls hl => ?_)
      refine lv_goto (tgt := 36) hx hb dX12_sell_80 (by decide) ?_
      exact ih _ _ X _ _ _ hf hw (lv_sub hl [1, 2, 0] rfl) kx
def mf_sell_L95 (N : Nat) (c19 : Int32) : Nat → mS → Int32 → Int32 → Int32 → Int32 → Option (Int32 × Int32)
  | 0, _, _, _, _, _ => none
  | n + 1, S24, v20, v21, v22, v23 => (if v23 ≤ 0 then some (v20, v21) else (if ok v23 1001 then (if (v22 + (S24.1 58 v23.toNatClampNeg)) ≤ 0 then mf_sell_L95 N c19 n S24 v20 v21 (v22 + (S24.1 58 v23.toNatClampNeg)) (v23 + (-1)) else (if (v23 * (v22 + (S24.1 58 v23.toNatClampNeg))) < v21 then mf_sell_L95 N c19 n S24 v20 v21 (v22 + (S24.1 58 v23.toNatClampNeg)) (v23 + (-1)) else mf_sell_L95 N c19 n S24 v23 (v23 * (v22 + (S24.1 58 v23.toNatClampNeg))) (v22 + (S24.1 58 v23.toNatClampNeg)) (v23 + (-1)))) else none))
set_option maxRecDepth 100000 in
theorem wm_sell_L95 {p : Program} {l : Launch} {e : Env} {R : Room} {s : State} {m : MethodId} {args : Array Value} {below : List Frame} {meth : Method} {c : Code} {Q : State → Prop} {g : mG} {A : Nat → Prop} {H0 : Heap} (hc : qC RX12 cX12_sell p s m args c) (hR : qRoom R 8) (hml : c.maxLocals = 6) (N : Nat) (c19 : Int32) : ∀ (n : Nat) (S24 : mS) (v20 : Int32) (v21 : Int32) (v22 : Int32) (v23 : Int32) (X : Int32 × Int32) (H : Heap) (locs : List Loc) (ls : Array Slot), mf_sell_L95 N c19 n S24 v20 v21 v22 v23 = some X → mI g A H0 s S24 H locs → lv_has ls 6 [(0, .ref (mr g 0)), (1, .int c19), (2, .int v20), (3, .int v21), (4, .int v22), (5, .int v23)] → (∀ (H : Heap) (locs : List Loc) (ls : Array Slot), mI g A H0 s S24 H locs → lv_has ls 6 [(1, .int c19), (2, .int X.1), (3, .int X.2)] → W p l e R s m args below meth c H locs 0 0 Q (F0 m 141 ls [])) → W p l e R s m args below meth c H locs 0 0 Q (F0 m 95 ls []) := by
  have hx := hc.1
  have hb := hc.2.1
  intro n
  induction n with
  | zero => intro _ _ _ _ _ X H locs ls hf; exact nomatch (show none = some X from hf)
  | succ n ih =>
    intro S24 v20 v21 v22 v23 X H locs ls hf hw hl kx
    rw [mf_sell_L95] at hf
    refine lv_iload hx hb dX12_sell_95 (lv_at hl 5 rfl) ?_
    refine lv_if_le (tgt := 141) hx hb dX12_sell_97 (by decide) (fun cn35 => ?_) (fun cn35 => ?_)
    · have hf := (if_pos cn35).symm.trans hf
      obtain rfl := Option.some.inj hf
      exact kx _ _ _ hw (lv_sub hl [1, 2, 3] rfl)
    · have hf := (if_neg cn35).symm.trans hf
      refine lv_iload hx hb dX12_sell_100 (lv_at hl 4 rfl) ?_
      refine lv_aload_n hx hb dX12_sell_102 rfl (lv_at hl 0 rfl) ?_
      refine m_g58 hc hw dX12_sell_103 ?_
      refine lv_iload hx hb dX12_sell_106 (lv_at hl 5 rfl) ?_
      obtain ⟨hi25, hf⟩ := gd_some hf
      refine m_l58 hc hw (ok_in hi25) dX12_sell_108 ?_
      refine lv_iadd hx hb dX12_sell_109 ?_
      refine lv_istore (lv' := [(4, .int (v22 + (S24.1 58 v23.toNatClampNeg))), (0, .ref (mr g 0)), (1, .int c19), (2, .int v20), (3, .int v21), (5, .int v23)]) hx hb dX12_sell_110 hl (by decide) rfl (fun ls hl => ?_)
      refine lv_iload hx hb dX12_sell_112 (lv_at hl 0 rfl) ?_
      refine lv_if_le (tgt := 135) hx hb dX12_sell_114 (by decide) (fun cn36 => ?_) (fun cn36 => ?_)
      · have hf := (if_pos cn36).symm.trans hf
        refine lv_iinc (lv' := [(5, .int (v23 + (-1))), (4, .int (v22 + (S24.1 58 v23.toNatClampNeg))), (0, .ref (mr g 0)), (1, .int c19), (2, .int v20), (3, .int v21)]) hx hb dX12_sell_135 hl (k := 5) rfl rfl (by decide) rfl (fun ls hl => ?_)
        refine lv_goto (tgt := 95) hx hb dX12_sell_138 (by decide) ?_
        exact ih _ _ _ _ _ X _ _ _ hf hw (lv_sub hl [2, 3, 4, 5, 1, 0] rfl) kx
      · have hf := (if_neg cn36).symm.trans hf
        refine lv_iload hx hb dX12_sell_117 (lv_at hl 5 rfl) ?_
        refine lv_iload hx hb dX12_sell_119 (lv_at hl 0 rfl) ?_
        refine lv_imul hx hb dX12_sell_121 ?_
        refine lv_iload_n hx hb dX12_sell_122 rfl (lv_at hl 4 rfl) ?_
        refine lv_icmp_lt (tgt := 135) hx hb dX12_sell_123 (by decide) (fun cn37 => ?_) (fun cn37 => ?_)
        · have hf := (if_pos cn37).symm.trans hf
          refine lv_iinc (lv' := [(5, .int (v23 + (-1))), (4, .int (v22 + (S24.1 58 v23.toNatClampNeg))), (0, .ref (mr g 0)), (1, .int c19), (2, .int v20), (3, .int v21)]) hx hb dX12_sell_135 hl (k := 5) rfl rfl (by decide) rfl (fun ls hl => ?_)
          refine lv_goto (tgt := 95) hx hb dX12_sell_138 (by decide) ?_
          exact ih _ _ _ _ _ X _ _ _ hf hw (lv_sub hl [2, 3, 4, 5, 1, 0] rfl) kx
        · have hf := (if_neg cn37).symm.trans hf
          refine lv_iload hx hb dX12_sell_126 (lv_at hl 5 rfl) ?_
          refine lv_istore_n (lv' := [(2, .int v23), (4, .int (v22 + (S24.1 58 v23.toNatClampNeg))), (0, .ref (mr g 0)), (1, .int c19), (3, .int v21), (5, .int v23)]) hx hb dX12_sell_128 rfl hl (by decide) rfl (fun ls hl => ?_)
          refine lv_iload hx hb dX12_sell_129 (lv_at hl 5 rfl) ?_
          refine lv_iload hx hb dX12_sell_131 (lv_at hl 1 rfl) ?_
          refine lv_imul hx hb dX12_sell_133 ?_
          refine lv_istore_n (lv' := [(3, .int (v23 * (v22 + (S24.1 58 v23.toNatClampNeg)))), (2, .int v23), (4, .int (v22 + (S24.1 58 v23.toNatClampNeg))), (0, .ref (mr g 0)), (1, .int c19), (5, .int v23)]) hx hb dX12_sell_134 rfl hl (by decide) rfl (fun ls hl => ?_)
          refine lv_iinc (lv' := [(5, .int (v23 + (-1))), (3, .int (v23 * (v22 + (S24.1 58 v23.toNatClampNeg)))), (2, .int v23), (4, .int (v22 + (S24.1 58 v23.toNatClampNeg))), (0, .ref (mr g 0)), (1, .int c19)]) hx hb dX12_sell_135 hl (k := 5) rfl rfl (by decide) rfl (fun ls hl => ?_)
          refine lv_goto (tgt := 95) hx hb dX12_sell_138 (by decide) ?_
          exact ih _ _ _ _ _ X _ _ _ hf hw (lv_sub hl [4, 5, 2, 1, 3, 0] rfl) kx
def mf_sell (N : Nat) (S : mS) (a1 : Int32) : Option (Int32 × mS) := (if (mf_in a1 0 1) = true then (bd1 (mf_sell_L14 N a1 N S 0) fun S5 => (bd1 (mf_sell_L36 N a1 N S5 0) fun S18 => (bd2 (mf_sell_L95 N a1 N S18 0 0 0 999) fun v26 v27 => (if a1 = 0 then some (v26, S18) else some (v27, S18))))) else some ((-2), S))
set_option maxRecDepth 100000 in
theorem cm_sell (l : Launch) (N : Nat) (S : mS) (a1 : Int32) (res : Int32) (S1 : mS) (hf : mf_sell N S a1 = some (res, S1)) : mMi l yX12_sell cX12_sell 6 .int 8 (fun g => [.ref (mr g 0), .int a1]) S res S1 := by
  refine mMi_of (own := RX12) (by decide) rfl rfl (fun g => Nat.le_of_ble_eq_true rfl) ?_
  intro p e R s m args below meth c Q g A H0 H locs ls hc hR hml hw hl hQ
  have hl : lv_has ls 6 [(0, .ref (mr g 0)), (1, .int a1)] := hl
  have hx := hc.1
  have hb := hc.2.1
  unfold mf_sell at hf
  refine lv_iload_n hx hb dX12_sell_0 rfl (lv_at hl 1 rfl) ?_
  refine lv_iconst (v := 0) hx hb dX12_sell_1 (by decide) ?_
  refine lv_iconst (v := 1) hx hb dX12_sell_2 (by decide) ?_
  refine m_csi (As := [.int a1, .int 0, .int 1]) (rest := []) hc hw hR (hml.trans hl.1.symm) (cm_in l S a1 0 1 _ rfl) mq_in (by decide) rfl rfl rfl (Nat.le_of_ble_eq_true rfl) dX12_sell_3 (fun H locs hw => ?_) ⟨Nat.zero_le _, Nat.zero_le _⟩
  refine lv_if_neb (tgt := 12) hx hb dX12_sell_6 (by decide) (fun cn28 => ?_) (fun cn28 => ?_)
  · have hf := (if_pos cn28).symm.trans hf
    refine lv_iconst (v := 0) hx hb dX12_sell_12 (by decide) ?_
    refine lv_istore_n (lv' := [(2, .int 0), (0, .ref (mr g 0)), (1, .int a1)]) hx hb dX12_sell_13 rfl hl (by decide) rfl (fun ls hl => ?_)
    obtain ⟨S5, hL, hf⟩ := bd1_some hf
    refine wm_sell_L14 hc hR hml N a1 N _ _ _ _ _ _ hL hw (lv_sub hl [1, 2, 0] rfl) (fun H locs ls hw hl => ?_)
    refine lv_iconst (v := 0) hx hb dX12_sell_34 (by decide) ?_
    refine lv_istore_n (lv' := [(2, .int 0), (0, .ref (mr g 0)), (1, .int a1)]) hx hb dX12_sell_35 rfl hl (by decide) rfl (fun ls hl => ?_)
    obtain ⟨S18, hL, hf⟩ := bd1_some hf
    refine wm_sell_L36 hc hR hml N a1 N _ _ _ _ _ _ hL hw (lv_sub hl [1, 2, 0] rfl) (fun H locs ls hw hl => ?_)
    refine lv_iconst (v := 0) hx hb dX12_sell_83 (by decide) ?_
    refine lv_istore_n (lv' := [(2, .int 0), (0, .ref (mr g 0)), (1, .int a1)]) hx hb dX12_sell_84 rfl hl (by decide) rfl (fun ls hl => ?_)
    refine lv_iconst (v := 0) hx hb dX12_sell_85 (by decide) ?_
    refine lv_istore_n (lv' := [(3, .int 0), (2, .int 0), (0, .ref (mr g 0)), (1, .int a1)]) hx hb dX12_sell_86 rfl hl (by decide) rfl (fun ls hl => ?_)
    refine lv_iconst (v := 0) hx hb dX12_sell_87 (by decide) ?_
    refine lv_istore (lv' := [(4, .int 0), (3, .int 0), (2, .int 0), (0, .ref (mr g 0)), (1, .int a1)]) hx hb dX12_sell_88 hl (by decide) rfl (fun ls hl => ?_)
    refine lv_sipush (v := 999) hx hb dX12_sell_90 (by decide) ?_
    refine lv_istore (lv' := [(5, .int 999), (4, .int 0), (3, .int 0), (2, .int 0), (0, .ref (mr g 0)), (1, .int a1)]) hx hb dX12_sell_93 hl (by decide) rfl (fun ls hl => ?_)
    obtain ⟨v26, v27, hL, hf⟩ := bd2_some hf
    refine wm_sell_L95 hc hR hml N a1 N _ _ _ _ _ _ _ _ _ hL hw (lv_sub hl [4, 5, 3, 2, 1, 0] rfl) (fun H locs ls hw hl => ?_)
    refine lv_iload_n hx hb dX12_sell_141 rfl (lv_at hl 0 rfl) ?_
    refine lv_if_ne (tgt := 149) hx hb dX12_sell_142 (by decide) (fun cn40 => ?_) (fun cn40 => ?_)
    · have hf := (if_neg cn40).symm.trans hf
      refine lv_iload_n hx hb dX12_sell_149 rfl (lv_at hl 2 rfl) ?_
      obtain ⟨rfl, rfl⟩ := pr2_some hf
      exact hQ _ _ _ _ dX12_sell_150 hw
    · have hf := (if_pos cn40).symm.trans hf
      refine lv_iload_n hx hb dX12_sell_145 rfl (lv_at hl 1 rfl) ?_
      refine lv_goto (tgt := 150) hx hb dX12_sell_146 (by decide) ?_
      obtain ⟨rfl, rfl⟩ := pr2_some hf
      exact hQ _ _ _ _ dX12_sell_150 hw
  · have hf := (if_neg cn28).symm.trans hf
    refine lv_bipush (v := (-2)) hx hb dX12_sell_9 (by decide) ?_
    obtain ⟨rfl, rfl⟩ := pr2_some hf
    exact hQ _ _ _ _ dX12_sell_11 hw
def mf_needs (N : Nat) (S : mS) (a1 : Int32) : Option (Int32 × mS) := (if (mf_isRow S a1) = true then (bd1 (mf_keepsRises N S) fun S1 => (bd2 (mf_raises N S1 a1 0) fun v2 S3 => (bd1 (mf_laysRises N S3) fun S4 => some (v2, S4)))) else some ((-5), S))
set_option maxRecDepth 100000 in
theorem cm_needs (l : Launch) (N : Nat) (S : mS) (a1 : Int32) (res : Int32) (S1 : mS) (hf : mf_needs N S a1 = some (res, S1)) : mMi l yX12_needs cX12_needs 3 .int 9 (fun g => [.ref (mr g 0), .int a1]) S res S1 := by
  refine mMi_of (own := RX12) (by decide) rfl rfl (fun g => Nat.le_of_ble_eq_true rfl) ?_
  intro p e R s m args below meth c Q g A H0 H locs ls hc hR hml hw hl hQ
  have hl : lv_has ls 3 [(0, .ref (mr g 0)), (1, .int a1)] := hl
  have hx := hc.1
  have hb := hc.2.1
  unfold mf_needs at hf
  refine lv_aload_n hx hb dX12_needs_0 rfl (lv_at hl 0 rfl) ?_
  refine lv_iload_n hx hb dX12_needs_1 rfl (lv_at hl 1 rfl) ?_
  refine m_cvi (As := [.int a1]) (rest := []) hc hw hR (hml.trans hl.1.symm) (cm_isRow l S a1 _ rfl) mq_isRow rfl (by decide) rfl rfl rfl (Nat.le_of_ble_eq_true rfl) dX12_needs_2 (fun H locs hw => ?_) ⟨Nat.zero_le _, Nat.zero_le _⟩
  refine lv_if_neb (tgt := 11) hx hb dX12_needs_5 (by decide) (fun cn5 => ?_) (fun cn5 => ?_)
  · have hf := (if_pos cn5).symm.trans hf
    refine lv_aload_n hx hb dX12_needs_11 rfl (lv_at hl 0 rfl) ?_
    obtain ⟨S1, hcall, hf⟩ := bd1_some hf
    refine m_cvv (As := []) (rest := []) hc hw hR (hml.trans hl.1.symm) (cm_keepsRises l N S S1 hcall) mq_keepsRises rfl (by decide) rfl rfl rfl (Nat.le_of_ble_eq_true rfl) dX12_needs_12 (fun H locs hw => ?_) ⟨Nat.zero_le _, Nat.zero_le _⟩
    refine lv_aload_n hx hb dX12_needs_15 rfl (lv_at hl 0 rfl) ?_
    refine lv_iload_n hx hb dX12_needs_16 rfl (lv_at hl 1 rfl) ?_
    refine lv_iconst (v := 0) hx hb dX12_needs_17 (by decide) ?_
    obtain ⟨v2, S3, hcall, hf⟩ := bd2_some hf
    refine m_cvi (As := [.int a1, .int 0]) (rest := []) hc hw hR (hml.trans hl.1.symm) (cm_raises l N S1 a1 0 v2 S3 hcall) mq_raises rfl (by decide) rfl rfl rfl (Nat.le_of_ble_eq_true rfl) dX12_needs_18 (fun H locs hw => ?_) ⟨Nat.zero_le _, Nat.zero_le _⟩
    refine lv_istore_n (lv' := [(2, .int v2), (0, .ref (mr g 0)), (1, .int a1)]) hx hb dX12_needs_21 rfl hl (by decide) rfl (fun ls hl => ?_)
    refine lv_aload_n hx hb dX12_needs_22 rfl (lv_at hl 1 rfl) ?_
    obtain ⟨S4, hcall, hf⟩ := bd1_some hf
    refine m_cvv (As := []) (rest := []) hc hw hR (hml.trans hl.1.symm) (cm_laysRises l N S3 S4 hcall) mq_laysRises rfl (by decide) rfl rfl rfl (Nat.le_of_ble_eq_true rfl) dX12_needs_23 (fun H locs hw => ?_) ⟨Nat.zero_le _, Nat.zero_le _⟩
    refine lv_iload_n hx hb dX12_needs_26 rfl (lv_at hl 0 rfl) ?_
    obtain ⟨rfl, rfl⟩ := pr2_some hf
    exact hQ _ _ _ _ dX12_needs_27 hw
  · have hf := (if_neg cn5).symm.trans hf
    refine lv_bipush (v := (-5)) hx hb dX12_needs_8 (by decide) ?_
    obtain ⟨rfl, rfl⟩ := pr2_some hf
    exact hQ _ _ _ _ dX12_needs_10 hw
def mf_proof_L19 (N : Nat) (c2 : Int32) : Nat → mS → Int32 → Int32 → Option (Int32 × mS)
  | 0, _, _, _ => none
  | n + 1, S5, v3, v4 => (if c2 < v4 then some (v3, S5) else (if v3 = (-1) then some (v3, S5) else (bd2 (mf_raises N S5 v4 v3) fun v6 S7 => mf_proof_L19 N c2 n S7 v6 (v4 + 1))))
set_option maxRecDepth 100000 in
theorem wm_proof_L19 {p : Program} {l : Launch} {e : Env} {R : Room} {s : State} {m : MethodId} {args : Array Value} {below : List Frame} {meth : Method} {c : Code} {Q : State → Prop} {g : mG} {A : Nat → Prop} {H0 : Heap} (hc : qC RX12 cX12_proof p s m args c) (hR : qRoom R 9) (hml : c.maxLocals = 4) (N : Nat) (c2 : Int32) : ∀ (n : Nat) (S5 : mS) (v3 : Int32) (v4 : Int32) (X : Int32 × mS) (H : Heap) (locs : List Loc) (ls : Array Slot), mf_proof_L19 N c2 n S5 v3 v4 = some X → mI g A H0 s S5 H locs → lv_has ls 4 [(0, .ref (mr g 0)), (1, .int c2), (2, .int v3), (3, .int v4)] → (∀ (H : Heap) (locs : List Loc) (ls : Array Slot), mI g A H0 s X.2 H locs → lv_has ls 4 [(0, .ref (mr g 0)), (2, .int X.1)] → W p l e R s m args below meth c H locs 0 0 Q (F0 m 42 ls [])) → W p l e R s m args below meth c H locs 0 0 Q (F0 m 19 ls []) := by
  have hx := hc.1
  have hb := hc.2.1
  intro n
  induction n with
  | zero => intro _ _ _ X H locs ls hf; exact nomatch (show none = some X from hf)
  | succ n ih =>
    intro S5 v3 v4 X H locs ls hf hw hl kx
    rw [mf_proof_L19] at hf
    refine lv_iload_n hx hb dX12_proof_19 rfl (lv_at hl 3 rfl) ?_
    refine lv_iload_n hx hb dX12_proof_20 rfl (lv_at hl 1 rfl) ?_
    refine lv_icmp_gt (tgt := 42) hx hb dX12_proof_21 (by decide) (fun cn12 => ?_) (fun cn12 => ?_)
    · have hf := (if_pos cn12).symm.trans hf
      obtain rfl := Option.some.inj hf
      exact kx _ _ _ hw (lv_sub hl [0, 2] rfl)
    · have hf := (if_neg cn12).symm.trans hf
      refine lv_iload_n hx hb dX12_proof_24 rfl (lv_at hl 2 rfl) ?_
      refine lv_iconst (v := (-1)) hx hb dX12_proof_25 (by decide) ?_
      refine lv_icmp_eq (tgt := 42) hx hb dX12_proof_26 (by decide) (fun cn13 => ?_) (fun cn13 => ?_)
      · have hf := (if_pos cn13).symm.trans hf
        obtain rfl := Option.some.inj hf
        exact kx _ _ _ hw (lv_sub hl [0, 2] rfl)
      · have hf := (if_neg cn13).symm.trans hf
        refine lv_aload_n hx hb dX12_proof_29 rfl (lv_at hl 0 rfl) ?_
        refine lv_iload_n hx hb dX12_proof_30 rfl (lv_at hl 3 rfl) ?_
        refine lv_iload_n hx hb dX12_proof_31 rfl (lv_at hl 2 rfl) ?_
        obtain ⟨v6, S7, hcall, hf⟩ := bd2_some hf
        refine m_cvi (As := [.int v4, .int v3]) (rest := []) hc hw hR (hml.trans hl.1.symm) (cm_raises l N S5 v4 v3 v6 S7 hcall) mq_raises rfl (by decide) rfl rfl rfl (Nat.le_of_ble_eq_true rfl) dX12_proof_32 (fun H locs hw => ?_) ⟨Nat.zero_le _, Nat.zero_le _⟩
        refine lv_istore_n (lv' := [(2, .int v6), (0, .ref (mr g 0)), (1, .int c2), (3, .int v4)]) hx hb dX12_proof_35 rfl hl (by decide) rfl (fun ls hl => ?_)
        refine lv_iinc (lv' := [(3, .int (v4 + 1)), (2, .int v6), (0, .ref (mr g 0)), (1, .int c2)]) hx hb dX12_proof_36 hl (k := 3) rfl rfl (by decide) rfl (fun ls hl => ?_)
        refine lv_goto (tgt := 19) hx hb dX12_proof_39 (by decide) ?_
        exact ih _ _ _ X _ _ _ hf hw (lv_sub hl [2, 3, 1, 0] rfl) kx
def mf_proof (N : Nat) (S : mS) (a1 : Int32) : Option (Int32 × mS) := (if (mf_isRow S a1) = true then (bd1 (mf_keepsRises N S) fun S1 => (bd2 (mf_proof_L19 N a1 N S1 0 0) fun v8 S9 => (bd1 (mf_laysRises N S9) fun S10 => some (v8, S10)))) else some ((-5), S))
set_option maxRecDepth 100000 in
theorem cm_proof (l : Launch) (N : Nat) (S : mS) (a1 : Int32) (res : Int32) (S1 : mS) (hf : mf_proof N S a1 = some (res, S1)) : mMi l yX12_proof cX12_proof 4 .int 9 (fun g => [.ref (mr g 0), .int a1]) S res S1 := by
  refine mMi_of (own := RX12) (by decide) rfl rfl (fun g => Nat.le_of_ble_eq_true rfl) ?_
  intro p e R s m args below meth c Q g A H0 H locs ls hc hR hml hw hl hQ
  have hl : lv_has ls 4 [(0, .ref (mr g 0)), (1, .int a1)] := hl
  have hx := hc.1
  have hb := hc.2.1
  unfold mf_proof at hf
  refine lv_aload_n hx hb dX12_proof_0 rfl (lv_at hl 0 rfl) ?_
  refine lv_iload_n hx hb dX12_proof_1 rfl (lv_at hl 1 rfl) ?_
  refine m_cvi (As := [.int a1]) (rest := []) hc hw hR (hml.trans hl.1.symm) (cm_isRow l S a1 _ rfl) mq_isRow rfl (by decide) rfl rfl rfl (Nat.le_of_ble_eq_true rfl) dX12_proof_2 (fun H locs hw => ?_) ⟨Nat.zero_le _, Nat.zero_le _⟩
  refine lv_if_neb (tgt := 11) hx hb dX12_proof_5 (by decide) (fun cn11 => ?_) (fun cn11 => ?_)
  · have hf := (if_pos cn11).symm.trans hf
    refine lv_aload_n hx hb dX12_proof_11 rfl (lv_at hl 0 rfl) ?_
    obtain ⟨S1, hcall, hf⟩ := bd1_some hf
    refine m_cvv (As := []) (rest := []) hc hw hR (hml.trans hl.1.symm) (cm_keepsRises l N S S1 hcall) mq_keepsRises rfl (by decide) rfl rfl rfl (Nat.le_of_ble_eq_true rfl) dX12_proof_12 (fun H locs hw => ?_) ⟨Nat.zero_le _, Nat.zero_le _⟩
    refine lv_iconst (v := 0) hx hb dX12_proof_15 (by decide) ?_
    refine lv_istore_n (lv' := [(2, .int 0), (0, .ref (mr g 0)), (1, .int a1)]) hx hb dX12_proof_16 rfl hl (by decide) rfl (fun ls hl => ?_)
    refine lv_iconst (v := 0) hx hb dX12_proof_17 (by decide) ?_
    refine lv_istore_n (lv' := [(3, .int 0), (2, .int 0), (0, .ref (mr g 0)), (1, .int a1)]) hx hb dX12_proof_18 rfl hl (by decide) rfl (fun ls hl => ?_)
    obtain ⟨v8, S9, hL, hf⟩ := bd2_some hf
    refine wm_proof_L19 hc hR hml N a1 N _ _ _ _ _ _ _ hL hw (lv_sub hl [2, 3, 1, 0] rfl) (fun H locs ls hw hl => ?_)
    refine lv_aload_n hx hb dX12_proof_42 rfl (lv_at hl 0 rfl) ?_
    obtain ⟨S10, hcall, hf⟩ := bd1_some hf
    refine m_cvv (As := []) (rest := []) hc hw hR (hml.trans hl.1.symm) (cm_laysRises l N S9 S10 hcall) mq_laysRises rfl (by decide) rfl rfl rfl (Nat.le_of_ble_eq_true rfl) dX12_proof_43 (fun H locs hw => ?_) ⟨Nat.zero_le _, Nat.zero_le _⟩
    refine lv_iload_n hx hb dX12_proof_46 rfl (lv_at hl 1 rfl) ?_
    obtain ⟨rfl, rfl⟩ := pr2_some hf
    exact hQ _ _ _ _ dX12_proof_47 hw
  · have hf := (if_neg cn11).symm.trans hf
    refine lv_bipush (v := (-5)) hx hb dX12_proof_8 (by decide) ?_
    obtain ⟨rfl, rfl⟩ := pr2_some hf
    exact hQ _ _ _ _ dX12_proof_10 hw
def mf_swap (N : Nat) (S : mS) (a1 : Int32) (a2 : Int32) (a3 : Int32) (a4 : Int32) : Option (Int32 × mS) := (bd1 (mf_isSeat N S a1 a2) fun v1 => (if v1 = true then (bd1 (mf_isSeat N S a3 a4) fun v2 => (if v2 = true then (bd2 (mf_gainBy N S ((8 * a1) + a2) ((8 * a3) + a4)) fun v3 S4 => some (v3, S4)) else some ((-1000000), S))) else some ((-1000000), S)))
set_option maxRecDepth 100000 in
theorem cm_swap (l : Launch) (N : Nat) (S : mS) (a1 : Int32) (a2 : Int32) (a3 : Int32) (a4 : Int32) (res : Int32) (S1 : mS) (hf : mf_swap N S a1 a2 a3 a4 = some (res, S1)) : mMi l yX12_swap cX12_swap 5 .int 9 (fun g => [.ref (mr g 0), .int a1, .int a2, .int a3, .int a4]) S res S1 := by
  refine mMi_of (own := RX12) (by decide) rfl rfl (fun g => Nat.le_of_ble_eq_true rfl) ?_
  intro p e R s m args below meth c Q g A H0 H locs ls hc hR hml hw hl hQ
  have hl : lv_has ls 5 [(0, .ref (mr g 0)), (1, .int a1), (2, .int a2), (3, .int a3), (4, .int a4)] := hl
  have hx := hc.1
  have hb := hc.2.1
  unfold mf_swap at hf
  refine lv_aload_n hx hb dX12_swap_0 rfl (lv_at hl 0 rfl) ?_
  refine lv_iload_n hx hb dX12_swap_1 rfl (lv_at hl 1 rfl) ?_
  refine lv_iload_n hx hb dX12_swap_2 rfl (lv_at hl 2 rfl) ?_
  obtain ⟨v1, hcall, hf⟩ := bd1_some hf
  refine m_cvi (As := [.int a1, .int a2]) (rest := []) hc hw hR (hml.trans hl.1.symm) (cm_isSeat l N S a1 a2 v1 hcall) mq_isSeat rfl (by decide) rfl rfl rfl (Nat.le_of_ble_eq_true rfl) dX12_swap_3 (fun H locs hw => ?_) ⟨Nat.zero_le _, Nat.zero_le _⟩
  refine lv_if_eqb (tgt := 39) hx hb dX12_swap_6 (by decide) (fun cn5 => ?_) (fun cn5 => ?_)
  · have hf := (if_neg cn5).symm.trans hf
    refine lv_ldcw (v := (-1000000)) hx hb hc.2.2.1 (hc.2.2.2 _ (mem_g 1625 (by decide +kernel) rfl)) dX12_swap_39 ?_
    obtain ⟨rfl, rfl⟩ := pr2_some hf
    exact hQ _ _ _ _ dX12_swap_42 hw
  · have hf := (if_pos cn5).symm.trans hf
    refine lv_aload_n hx hb dX12_swap_9 rfl (lv_at hl 0 rfl) ?_
    refine lv_iload_n hx hb dX12_swap_10 rfl (lv_at hl 3 rfl) ?_
    refine lv_iload hx hb dX12_swap_11 (lv_at hl 4 rfl) ?_
    obtain ⟨v2, hcall, hf⟩ := bd1_some hf
    refine m_cvi (As := [.int a3, .int a4]) (rest := []) hc hw hR (hml.trans hl.1.symm) (cm_isSeat l N S a3 a4 v2 hcall) mq_isSeat rfl (by decide) rfl rfl rfl (Nat.le_of_ble_eq_true rfl) dX12_swap_13 (fun H locs hw => ?_) ⟨Nat.zero_le _, Nat.zero_le _⟩
    refine lv_if_eqb (tgt := 39) hx hb dX12_swap_16 (by decide) (fun cn6 => ?_) (fun cn6 => ?_)
    · have hf := (if_neg cn6).symm.trans hf
      refine lv_ldcw (v := (-1000000)) hx hb hc.2.2.1 (hc.2.2.2 _ (mem_g 1625 (by decide +kernel) rfl)) dX12_swap_39 ?_
      obtain ⟨rfl, rfl⟩ := pr2_some hf
      exact hQ _ _ _ _ dX12_swap_42 hw
    · have hf := (if_pos cn6).symm.trans hf
      refine lv_aload_n hx hb dX12_swap_19 rfl (lv_at hl 0 rfl) ?_
      refine lv_bipush (v := 8) hx hb dX12_swap_20 (by decide) ?_
      refine lv_iload_n hx hb dX12_swap_22 rfl (lv_at hl 1 rfl) ?_
      refine lv_imul hx hb dX12_swap_23 ?_
      refine lv_iload_n hx hb dX12_swap_24 rfl (lv_at hl 2 rfl) ?_
      refine lv_iadd hx hb dX12_swap_25 ?_
      refine lv_bipush (v := 8) hx hb dX12_swap_26 (by decide) ?_
      refine lv_iload_n hx hb dX12_swap_28 rfl (lv_at hl 3 rfl) ?_
      refine lv_imul hx hb dX12_swap_29 ?_
      refine lv_iload hx hb dX12_swap_30 (lv_at hl 4 rfl) ?_
      refine lv_iadd hx hb dX12_swap_32 ?_
      obtain ⟨v3, S4, hcall, hf⟩ := bd2_some hf
      refine m_cvi (As := [.int ((8 * a1) + a2), .int ((8 * a3) + a4)]) (rest := []) hc hw hR (hml.trans hl.1.symm) (cm_gainBy l N S ((8 * a1) + a2) ((8 * a3) + a4) v3 S4 hcall) mq_gainBy rfl (by decide) rfl rfl rfl (Nat.le_of_ble_eq_true rfl) dX12_swap_33 (fun H locs hw => ?_) ⟨Nat.zero_le _, Nat.zero_le _⟩
      refine lv_goto (tgt := 42) hx hb dX12_swap_36 (by decide) ?_
      obtain ⟨rfl, rfl⟩ := pr2_some hf
      exact hQ _ _ _ _ dX12_swap_42 hw
def mf_finds_L26 (N : Nat) (c5 : Int32) (c6 : Int32) : Nat → mS → Int32 → Option (mS)
  | 0, _, _ => none
  | n + 1, S8, v7 => (if ok c5 6 then (if (S8.1 5 c5.toNatClampNeg) ≤ v7 then some S8 else (if ok ((8 * c5) + c6) 48 then (if ok ((8 * c5) + v7) 48 then (bd2 (if (S8.1 9 ((8 * c5) + c6).toNatClampNeg) = (S8.1 9 ((8 * c5) + v7).toNatClampNeg) then some (0, S8) else (bd2 (mf_gainBy N S8 ((8 * c5) + c6) ((8 * c5) + v7)) fun v12 S13 => some (v12, S13))) fun v14 S15 => (if v14 ≤ (S15.1 57 0) then mf_finds_L26 N c5 c6 n S15 (v7 + 1) else mf_finds_L26 N c5 c6 n (ms (ms S15 56 0 ((10 * c6) + v7)) 57 0 v14) (v7 + 1))) else none) else none)) else none)
set_option maxRecDepth 100000 in
theorem wm_finds_L26 {p : Program} {l : Launch} {e : Env} {R : Room} {s : State} {m : MethodId} {args : Array Value} {below : List Frame} {meth : Method} {c : Code} {Q : State → Prop} {g : mG} {A : Nat → Prop} {H0 : Heap} (hc : qC RX12 cX12_finds p s m args c) (hR : qRoom R 9) (hml : c.maxLocals = 5) (N : Nat) (c5 : Int32) (c6 : Int32) : ∀ (n : Nat) (S8 : mS) (v7 : Int32) (X : mS) (H : Heap) (locs : List Loc) (ls : Array Slot), mf_finds_L26 N c5 c6 n S8 v7 = some X → mI g A H0 s S8 H locs → lv_has ls 5 [(0, .ref (mr g 0)), (1, .int c5), (2, .int c6), (3, .int v7)] → (∀ (H : Heap) (locs : List Loc) (ls : Array Slot), mI g A H0 s X H locs → lv_has ls 5 [(0, .ref (mr g 0)), (1, .int c5), (2, .int c6)] → W p l e R s m args below meth c H locs 0 0 Q (F0 m 114 ls [])) → W p l e R s m args below meth c H locs 0 0 Q (F0 m 26 ls []) := by
  have hx := hc.1
  have hb := hc.2.1
  intro n
  induction n with
  | zero => intro _ _ X H locs ls hf; exact nomatch (show none = some X from hf)
  | succ n ih =>
    intro S8 v7 X H locs ls hf hw hl kx
    rw [mf_finds_L26] at hf
    refine lv_iload_n hx hb dX12_finds_26 rfl (lv_at hl 3 rfl) ?_
    refine lv_aload_n hx hb dX12_finds_27 rfl (lv_at hl 0 rfl) ?_
    refine m_g5 hc hw dX12_finds_28 ?_
    refine lv_iload_n hx hb dX12_finds_31 rfl (lv_at hl 1 rfl) ?_
    obtain ⟨hi9, hf⟩ := gd_some hf
    refine m_l5 hc hw (ok_in hi9) dX12_finds_32 ?_
    refine lv_icmp_ge (tgt := 114) hx hb dX12_finds_33 (by decide) (fun cn19 => ?_) (fun cn19 => ?_)
    · have hf := (if_pos cn19).symm.trans hf
      obtain rfl := Option.some.inj hf
      exact kx _ _ _ hw (lv_sub hl [0, 1, 2] rfl)
    · have hf := (if_neg cn19).symm.trans hf
      refine lv_aload_n hx hb dX12_finds_36 rfl (lv_at hl 0 rfl) ?_
      refine m_g9 hc hw dX12_finds_37 ?_
      refine lv_bipush (v := 8) hx hb dX12_finds_40 (by decide) ?_
      refine lv_iload_n hx hb dX12_finds_42 rfl (lv_at hl 1 rfl) ?_
      refine lv_imul hx hb dX12_finds_43 ?_
      refine lv_iload_n hx hb dX12_finds_44 rfl (lv_at hl 2 rfl) ?_
      refine lv_iadd hx hb dX12_finds_45 ?_
      obtain ⟨hi10, hf⟩ := gd_some hf
      refine m_l9 hc hw (ok_in hi10) dX12_finds_46 ?_
      refine lv_aload_n hx hb dX12_finds_47 rfl (lv_at hl 0 rfl) ?_
      refine m_g9 hc hw dX12_finds_48 ?_
      refine lv_bipush (v := 8) hx hb dX12_finds_51 (by decide) ?_
      refine lv_iload_n hx hb dX12_finds_53 rfl (lv_at hl 1 rfl) ?_
      refine lv_imul hx hb dX12_finds_54 ?_
      refine lv_iload_n hx hb dX12_finds_55 rfl (lv_at hl 3 rfl) ?_
      refine lv_iadd hx hb dX12_finds_56 ?_
      obtain ⟨hi11, hf⟩ := gd_some hf
      refine m_l9 hc hw (ok_in hi11) dX12_finds_57 ?_
      obtain ⟨v14, S15, hX21, hf⟩ := bd2_some hf
      have kJ22 : ∀ (H : Heap) (locs : List Loc) (ls : Array Slot), mI g A H0 s S15 H locs → lv_has ls 5 [(0, .ref (mr g 0)), (1, .int c5), (2, .int c6), (3, .int v7)] → W p l e R s m args below meth c H locs 0 0 Q (F0 m 81 ls [.int v14]) := by
        intro H locs ls hw hl
        refine lv_istore (lv' := [(4, .int v14), (0, .ref (mr g 0)), (1, .int c5), (2, .int c6), (3, .int v7)]) hx hb dX12_finds_81 hl (by decide) rfl (fun ls hl => ?_)
        refine lv_iload hx hb dX12_finds_83 (lv_at hl 0 rfl) ?_
        refine lv_aload_n hx hb dX12_finds_85 rfl (lv_at hl 1 rfl) ?_
        refine m_g57 hc hw dX12_finds_86 ?_
        refine lv_icmp_le (tgt := 108) hx hb dX12_finds_89 (by decide) (fun cn20 => ?_) (fun cn20 => ?_)
        · have hf := (if_pos cn20).symm.trans hf
          refine lv_iinc (lv' := [(3, .int (v7 + 1)), (4, .int v14), (0, .ref (mr g 0)), (1, .int c5), (2, .int c6)]) hx hb dX12_finds_108 hl (k := 4) rfl rfl (by decide) rfl (fun ls hl => ?_)
          refine lv_goto (tgt := 26) hx hb dX12_finds_111 (by decide) ?_
          exact ih _ _ X _ _ _ hf hw (lv_sub hl [2, 3, 4, 0] rfl) kx
        · have hf := (if_neg cn20).symm.trans hf
          refine lv_aload_n hx hb dX12_finds_92 rfl (lv_at hl 1 rfl) ?_
          refine lv_bipush (v := 10) hx hb dX12_finds_93 (by decide) ?_
          refine lv_iload_n hx hb dX12_finds_95 rfl (lv_at hl 3 rfl) ?_
          refine lv_imul hx hb dX12_finds_96 ?_
          refine lv_iload_n hx hb dX12_finds_97 rfl (lv_at hl 4 rfl) ?_
          refine lv_iadd hx hb dX12_finds_98 ?_
          refine m_p56 hc hw dX12_finds_99 (fun H locs hw => ?_)
          refine lv_aload_n hx hb dX12_finds_102 rfl (lv_at hl 1 rfl) ?_
          refine lv_iload hx hb dX12_finds_103 (lv_at hl 0 rfl) ?_
          refine m_p57 hc hw dX12_finds_105 (fun H locs hw => ?_)
          refine lv_iinc (lv' := [(3, .int (v7 + 1)), (4, .int v14), (0, .ref (mr g 0)), (1, .int c5), (2, .int c6)]) hx hb dX12_finds_108 hl (k := 4) rfl rfl (by decide) rfl (fun ls hl => ?_)
          refine lv_goto (tgt := 26) hx hb dX12_finds_111 (by decide) ?_
          exact ih _ _ X _ _ _ hf hw (lv_sub hl [2, 3, 4, 0] rfl) kx
      refine lv_icmp_ne (tgt := 65) hx hb dX12_finds_58 (by decide) (fun cn23 => ?_) (fun cn23 => ?_)
      · have hX21 := (if_neg cn23).symm.trans hX21
        refine lv_aload_n hx hb dX12_finds_65 rfl (lv_at hl 0 rfl) ?_
        refine lv_bipush (v := 8) hx hb dX12_finds_66 (by decide) ?_
        refine lv_iload_n hx hb dX12_finds_68 rfl (lv_at hl 1 rfl) ?_
        refine lv_imul hx hb dX12_finds_69 ?_
        refine lv_iload_n hx hb dX12_finds_70 rfl (lv_at hl 2 rfl) ?_
        refine lv_iadd hx hb dX12_finds_71 ?_
        refine lv_bipush (v := 8) hx hb dX12_finds_72 (by decide) ?_
        refine lv_iload_n hx hb dX12_finds_74 rfl (lv_at hl 1 rfl) ?_
        refine lv_imul hx hb dX12_finds_75 ?_
        refine lv_iload_n hx hb dX12_finds_76 rfl (lv_at hl 3 rfl) ?_
        refine lv_iadd hx hb dX12_finds_77 ?_
        obtain ⟨v12, S13, hcall, hX21⟩ := bd2_some hX21
        refine m_cvi (As := [.int ((8 * c5) + c6), .int ((8 * c5) + v7)]) (rest := []) hc hw hR (hml.trans hl.1.symm) (cm_gainBy l N S8 ((8 * c5) + c6) ((8 * c5) + v7) v12 S13 hcall) mq_gainBy rfl (by decide) rfl rfl rfl (Nat.le_of_ble_eq_true rfl) dX12_finds_78 (fun H locs hw => ?_) ⟨Nat.zero_le _, Nat.zero_le _⟩
        obtain ⟨rfl, rfl⟩ := pr2_some hX21
        exact kJ22 _ _ _ hw (lv_sub hl [0, 1, 2, 3] rfl)
      · have hX21 := (if_pos cn23).symm.trans hX21
        refine lv_iconst (v := 0) hx hb dX12_finds_61 (by decide) ?_
        refine lv_goto (tgt := 81) hx hb dX12_finds_62 (by decide) ?_
        obtain ⟨rfl, rfl⟩ := pr2_some hX21
        exact kJ22 _ _ _ hw (lv_sub hl [0, 1, 2, 3] rfl)
def mf_finds_L12 (N : Nat) (c1 : Int32) : Nat → mS → Int32 → Option (mS)
  | 0, _, _ => none
  | n + 1, S3, v2 => (if ok c1 6 then (if (S3.1 5 c1.toNatClampNeg) ≤ v2 then some S3 else (bd1 (mf_finds_L26 N c1 v2 N S3 (v2 + 1)) fun S16 => mf_finds_L12 N c1 n S16 (v2 + 1))) else none)
set_option maxRecDepth 100000 in
theorem wm_finds_L12 {p : Program} {l : Launch} {e : Env} {R : Room} {s : State} {m : MethodId} {args : Array Value} {below : List Frame} {meth : Method} {c : Code} {Q : State → Prop} {g : mG} {A : Nat → Prop} {H0 : Heap} (hc : qC RX12 cX12_finds p s m args c) (hR : qRoom R 9) (hml : c.maxLocals = 5) (N : Nat) (c1 : Int32) : ∀ (n : Nat) (S3 : mS) (v2 : Int32) (X : mS) (H : Heap) (locs : List Loc) (ls : Array Slot), mf_finds_L12 N c1 n S3 v2 = some X → mI g A H0 s S3 H locs → lv_has ls 5 [(0, .ref (mr g 0)), (1, .int c1), (2, .int v2)] → (∀ (H : Heap) (locs : List Loc) (ls : Array Slot), mI g A H0 s X H locs → lv_has ls 5 [] → W p l e R s m args below meth c H locs 0 0 Q (F0 m 120 ls [])) → W p l e R s m args below meth c H locs 0 0 Q (F0 m 12 ls []) := by
  have hx := hc.1
  have hb := hc.2.1
  intro n
  induction n with
  | zero => intro _ _ X H locs ls hf; exact nomatch (show none = some X from hf)
  | succ n ih =>
    intro S3 v2 X H locs ls hf hw hl kx
    rw [mf_finds_L12] at hf
    refine lv_iload_n hx hb dX12_finds_12 rfl (lv_at hl 2 rfl) ?_
    refine lv_aload_n hx hb dX12_finds_13 rfl (lv_at hl 0 rfl) ?_
    refine m_g5 hc hw dX12_finds_14 ?_
    refine lv_iload_n hx hb dX12_finds_17 rfl (lv_at hl 1 rfl) ?_
    obtain ⟨hi4, hf⟩ := gd_some hf
    refine m_l5 hc hw (ok_in hi4) dX12_finds_18 ?_
    refine lv_icmp_ge (tgt := 120) hx hb dX12_finds_19 (by decide) (fun cn18 => ?_) (fun cn18 => ?_)
    · have hf := (if_pos cn18).symm.trans hf
      obtain rfl := Option.some.inj hf
      exact kx _ _ _ hw (lv_sub hl [] rfl)
    · have hf := (if_neg cn18).symm.trans hf
      refine lv_iload_n hx hb dX12_finds_22 rfl (lv_at hl 2 rfl) ?_
      refine lv_iconst (v := 1) hx hb dX12_finds_23 (by decide) ?_
      refine lv_iadd hx hb dX12_finds_24 ?_
      refine lv_istore_n (lv' := [(3, .int (v2 + 1)), (0, .ref (mr g 0)), (1, .int c1), (2, .int v2)]) hx hb dX12_finds_25 rfl hl (by decide) rfl (fun ls hl => ?_)
      obtain ⟨S16, hL, hf⟩ := bd1_some hf
      refine wm_finds_L26 hc hR hml N c1 v2 N _ _ _ _ _ _ hL hw (lv_sub hl [1, 2, 3, 0] rfl) (fun H locs ls hw hl => ?_)
      refine lv_iinc (lv' := [(2, .int (v2 + 1)), (0, .ref (mr g 0)), (1, .int c1)]) hx hb dX12_finds_114 hl (k := 2) rfl rfl (by decide) rfl (fun ls hl => ?_)
      refine lv_goto (tgt := 12) hx hb dX12_finds_117 (by decide) ?_
      exact ih _ _ X _ _ _ hf hw (lv_sub hl [1, 2, 0] rfl) kx
def mf_finds (N : Nat) (S : mS) (a1 : Int32) : Option (mS) := (bd1 (mf_finds_L12 N a1 N (ms (ms S 56 0 (-1)) 57 0 0) 0) fun S17 => some S17)
set_option maxRecDepth 100000 in
theorem cm_finds (l : Launch) (N : Nat) (S : mS) (a1 : Int32) (S1 : mS) (hf : mf_finds N S a1 = some S1) : mMv l yX12_finds cX12_finds 5 9 (fun g => [.ref (mr g 0), .int a1]) S S1 := by
  refine mMv_of (own := RX12) (by decide) rfl (fun g => Nat.le_of_ble_eq_true rfl) ?_
  intro p e R s m args below meth c Q g A H0 H locs ls hc hR hml hw hl hQ
  have hl : lv_has ls 5 [(0, .ref (mr g 0)), (1, .int a1)] := hl
  have hx := hc.1
  have hb := hc.2.1
  unfold mf_finds at hf
  refine lv_aload_n hx hb dX12_finds_0 rfl (lv_at hl 0 rfl) ?_
  refine lv_iconst (v := (-1)) hx hb dX12_finds_1 (by decide) ?_
  refine m_p56 hc hw dX12_finds_2 (fun H locs hw => ?_)
  refine lv_aload_n hx hb dX12_finds_5 rfl (lv_at hl 0 rfl) ?_
  refine lv_iconst (v := 0) hx hb dX12_finds_6 (by decide) ?_
  refine m_p57 hc hw dX12_finds_7 (fun H locs hw => ?_)
  refine lv_iconst (v := 0) hx hb dX12_finds_10 (by decide) ?_
  refine lv_istore_n (lv' := [(2, .int 0), (0, .ref (mr g 0)), (1, .int a1)]) hx hb dX12_finds_11 rfl hl (by decide) rfl (fun ls hl => ?_)
  obtain ⟨S17, hL, hf⟩ := bd1_some hf
  refine wm_finds_L12 hc hR hml N a1 N _ _ _ _ _ _ hL hw (lv_sub hl [1, 2, 0] rfl) (fun H locs ls hw hl => ?_)
  obtain rfl := Option.some.inj hf
  exact hQ _ _ _ _ dX12_finds_120 hw
theorem mq_finds : qCv RX12 373 yX12_finds cX12_finds 5 none 1 := ⟨⟨(mem_g 1630 (by decide +kernel) rfl), (mem_g 1632 (by decide +kernel) rfl), (mem_g 75 (by decide +kernel) rfl), (mem_g 89 (by decide +kernel) rfl), (mem_g 1633 (by decide +kernel) rfl)⟩, by decide, by decide +kernel, by decide⟩
def mf_people (N : Nat) (S : mS) (a1 : Int32) (a2 : Int32) : Option (Int32 × mS) := (if (mf_isRow S a1) = true then (if (mf_in a2 0 1) = true then (bd1 (mf_finds N S a1) fun S1 => (if a2 = 0 then some (S1.1 56 0, S1) else some (S1.1 57 0, S1))) else some ((-7), S)) else some ((-5), S))
set_option maxRecDepth 100000 in
theorem cm_people (l : Launch) (N : Nat) (S : mS) (a1 : Int32) (a2 : Int32) (res : Int32) (S1 : mS) (hf : mf_people N S a1 a2 = some (res, S1)) : mMi l yX12_people cX12_people 3 .int 10 (fun g => [.ref (mr g 0), .int a1, .int a2]) S res S1 := by
  refine mMi_of (own := RX12) (by decide) rfl rfl (fun g => Nat.le_of_ble_eq_true rfl) ?_
  intro p e R s m args below meth c Q g A H0 H locs ls hc hR hml hw hl hQ
  have hl : lv_has ls 3 [(0, .ref (mr g 0)), (1, .int a1), (2, .int a2)] := hl
  have hx := hc.1
  have hb := hc.2.1
  unfold mf_people at hf
  refine lv_aload_n hx hb dX12_people_0 rfl (lv_at hl 0 rfl) ?_
  refine lv_iload_n hx hb dX12_people_1 rfl (lv_at hl 1 rfl) ?_
  refine m_cvi (As := [.int a1]) (rest := []) hc hw hR (hml.trans hl.1.symm) (cm_isRow l S a1 _ rfl) mq_isRow rfl (by decide) rfl rfl rfl (Nat.le_of_ble_eq_true rfl) dX12_people_2 (fun H locs hw => ?_) ⟨Nat.zero_le _, Nat.zero_le _⟩
  refine lv_if_neb (tgt := 11) hx hb dX12_people_5 (by decide) (fun cn2 => ?_) (fun cn2 => ?_)
  · have hf := (if_pos cn2).symm.trans hf
    refine lv_iload_n hx hb dX12_people_11 rfl (lv_at hl 2 rfl) ?_
    refine lv_iconst (v := 0) hx hb dX12_people_12 (by decide) ?_
    refine lv_iconst (v := 1) hx hb dX12_people_13 (by decide) ?_
    refine m_csi (As := [.int a2, .int 0, .int 1]) (rest := []) hc hw hR (hml.trans hl.1.symm) (cm_in l S a2 0 1 _ rfl) mq_in (by decide) rfl rfl rfl (Nat.le_of_ble_eq_true rfl) dX12_people_14 (fun H locs hw => ?_) ⟨Nat.zero_le _, Nat.zero_le _⟩
    refine lv_if_neb (tgt := 23) hx hb dX12_people_17 (by decide) (fun cn3 => ?_) (fun cn3 => ?_)
    · have hf := (if_pos cn3).symm.trans hf
      refine lv_aload_n hx hb dX12_people_23 rfl (lv_at hl 0 rfl) ?_
      refine lv_iload_n hx hb dX12_people_24 rfl (lv_at hl 1 rfl) ?_
      obtain ⟨S1, hcall, hf⟩ := bd1_some hf
      refine m_cvv (As := [.int a1]) (rest := []) hc hw hR (hml.trans hl.1.symm) (cm_finds l N S a1 S1 hcall) mq_finds rfl (by decide) rfl rfl rfl (Nat.le_of_ble_eq_true rfl) dX12_people_25 (fun H locs hw => ?_) ⟨Nat.zero_le _, Nat.zero_le _⟩
      refine lv_iload_n hx hb dX12_people_28 rfl (lv_at hl 2 rfl) ?_
      refine lv_if_ne (tgt := 39) hx hb dX12_people_29 (by decide) (fun cn4 => ?_) (fun cn4 => ?_)
      · have hf := (if_neg cn4).symm.trans hf
        refine lv_aload_n hx hb dX12_people_39 rfl (lv_at hl 0 rfl) ?_
        refine m_g57 hc hw dX12_people_40 ?_
        obtain ⟨rfl, rfl⟩ := pr2_some hf
        exact hQ _ _ _ _ dX12_people_43 hw
      · have hf := (if_pos cn4).symm.trans hf
        refine lv_aload_n hx hb dX12_people_32 rfl (lv_at hl 0 rfl) ?_
        refine m_g56 hc hw dX12_people_33 ?_
        refine lv_goto (tgt := 43) hx hb dX12_people_36 (by decide) ?_
        obtain ⟨rfl, rfl⟩ := pr2_some hf
        exact hQ _ _ _ _ dX12_people_43 hw
    · have hf := (if_neg cn3).symm.trans hf
      refine lv_bipush (v := (-7)) hx hb dX12_people_20 (by decide) ?_
      obtain ⟨rfl, rfl⟩ := pr2_some hf
      exact hQ _ _ _ _ dX12_people_22 hw
  · have hf := (if_neg cn2).symm.trans hf
    refine lv_bipush (v := (-5)) hx hb dX12_people_8 (by decide) ?_
    obtain ⟨rfl, rfl⟩ := pr2_some hf
    exact hQ _ _ _ _ dX12_people_10 hw
def mf_settle_L30 (N : Nat) (c2 : Int32) (c3 : Int32) : Nat → mS → Int32 → Option (Int32 × mS)
  | 0, _, _ => none
  | n + 1, S5, v4 => (if c3 ≤ v4 then some (v4, S5) else (if (S5.1 56 0) = (-1) then some (v4, S5) else (bd1 (mf_changes N S5 ((8 * c2) + ((S5.1 56 0) / 10)) ((8 * c2) + ((S5.1 56 0) - (S5.1 56 0) / 10 * 10))) fun S6 => (bd1 (mf_finds N S6 c2) fun S7 => mf_settle_L30 N c2 c3 n S7 (v4 + 1)))))
set_option maxRecDepth 100000 in
theorem wm_settle_L30 {p : Program} {l : Launch} {e : Env} {R : Room} {s : State} {m : MethodId} {args : Array Value} {below : List Frame} {meth : Method} {c : Code} {Q : State → Prop} {g : mG} {A : Nat → Prop} {H0 : Heap} (hc : qC RX12 cX12_settle p s m args c) (hR : qRoom R 10) (hml : c.maxLocals = 4) (N : Nat) (c2 : Int32) (c3 : Int32) : ∀ (n : Nat) (S5 : mS) (v4 : Int32) (X : Int32 × mS) (H : Heap) (locs : List Loc) (ls : Array Slot), mf_settle_L30 N c2 c3 n S5 v4 = some X → mI g A H0 s S5 H locs → lv_has ls 4 [(0, .ref (mr g 0)), (1, .int c2), (2, .int c3), (3, .int v4)] → (∀ (H : Heap) (locs : List Loc) (ls : Array Slot), mI g A H0 s X.2 H locs → lv_has ls 4 [(3, .int X.1)] → W p l e R s m args below meth c H locs 0 0 Q (F0 m 82 ls [])) → W p l e R s m args below meth c H locs 0 0 Q (F0 m 30 ls []) := by
  have hx := hc.1
  have hb := hc.2.1
  intro n
  induction n with
  | zero => intro _ _ X H locs ls hf; exact nomatch (show none = some X from hf)
  | succ n ih =>
    intro S5 v4 X H locs ls hf hw hl kx
    rw [mf_settle_L30] at hf
    refine lv_iload_n hx hb dX12_settle_30 rfl (lv_at hl 3 rfl) ?_
    refine lv_iload_n hx hb dX12_settle_31 rfl (lv_at hl 2 rfl) ?_
    refine lv_icmp_ge (tgt := 82) hx hb dX12_settle_32 (by decide) (fun cn12 => ?_) (fun cn12 => ?_)
    · have hf := (if_pos cn12).symm.trans hf
      obtain rfl := Option.some.inj hf
      exact kx _ _ _ hw (lv_sub hl [3] rfl)
    · have hf := (if_neg cn12).symm.trans hf
      refine lv_aload_n hx hb dX12_settle_35 rfl (lv_at hl 0 rfl) ?_
      refine m_g56 hc hw dX12_settle_36 ?_
      refine lv_iconst (v := (-1)) hx hb dX12_settle_39 (by decide) ?_
      refine lv_icmp_eq (tgt := 82) hx hb dX12_settle_40 (by decide) (fun cn13 => ?_) (fun cn13 => ?_)
      · have hf := (if_pos cn13).symm.trans hf
        obtain rfl := Option.some.inj hf
        exact kx _ _ _ hw (lv_sub hl [3] rfl)
      · have hf := (if_neg cn13).symm.trans hf
        refine lv_aload_n hx hb dX12_settle_43 rfl (lv_at hl 0 rfl) ?_
        refine lv_bipush (v := 8) hx hb dX12_settle_44 (by decide) ?_
        refine lv_iload_n hx hb dX12_settle_46 rfl (lv_at hl 1 rfl) ?_
        refine lv_imul hx hb dX12_settle_47 ?_
        refine lv_aload_n hx hb dX12_settle_48 rfl (lv_at hl 0 rfl) ?_
        refine m_g56 hc hw dX12_settle_49 ?_
        refine lv_bipush (v := 10) hx hb dX12_settle_52 (by decide) ?_
        refine lv_idiv hx hb dX12_settle_54 (by decide) ?_
        refine lv_iadd hx hb dX12_settle_55 ?_
        refine lv_bipush (v := 8) hx hb dX12_settle_56 (by decide) ?_
        refine lv_iload_n hx hb dX12_settle_58 rfl (lv_at hl 1 rfl) ?_
        refine lv_imul hx hb dX12_settle_59 ?_
        refine lv_aload_n hx hb dX12_settle_60 rfl (lv_at hl 0 rfl) ?_
        refine m_g56 hc hw dX12_settle_61 ?_
        refine lv_bipush (v := 10) hx hb dX12_settle_64 (by decide) ?_
        refine lv_irem hx hb dX12_settle_66 (by decide) ?_
        refine lv_iadd hx hb dX12_settle_67 ?_
        obtain ⟨S6, hcall, hf⟩ := bd1_some hf
        refine m_cvv (As := [.int ((8 * c2) + ((S5.1 56 0) / 10)), .int ((8 * c2) + ((S5.1 56 0) - (S5.1 56 0) / 10 * 10))]) (rest := []) hc hw hR (hml.trans hl.1.symm) (cm_changes l N S5 ((8 * c2) + ((S5.1 56 0) / 10)) ((8 * c2) + ((S5.1 56 0) - (S5.1 56 0) / 10 * 10)) S6 hcall) mq_changes rfl (by decide) rfl rfl rfl (Nat.le_of_ble_eq_true rfl) dX12_settle_68 (fun H locs hw => ?_) ⟨Nat.zero_le _, Nat.zero_le _⟩
        refine lv_iinc (lv' := [(3, .int (v4 + 1)), (0, .ref (mr g 0)), (1, .int c2), (2, .int c3)]) hx hb dX12_settle_71 hl (k := 3) rfl rfl (by decide) rfl (fun ls hl => ?_)
        refine lv_aload_n hx hb dX12_settle_74 rfl (lv_at hl 1 rfl) ?_
        refine lv_iload_n hx hb dX12_settle_75 rfl (lv_at hl 2 rfl) ?_
        obtain ⟨S7, hcall, hf⟩ := bd1_some hf
        refine m_cvv (As := [.int c2]) (rest := []) hc hw hR (hml.trans hl.1.symm) (cm_finds l N S6 c2 S7 hcall) mq_finds rfl (by decide) rfl rfl rfl (Nat.le_of_ble_eq_true rfl) dX12_settle_76 (fun H locs hw => ?_) ⟨Nat.zero_le _, Nat.zero_le _⟩
        refine lv_goto (tgt := 30) hx hb dX12_settle_79 (by decide) ?_
        exact ih _ _ X _ _ _ hf hw (lv_sub hl [1, 2, 3, 0] rfl) kx
def mf_settle (N : Nat) (S : mS) (a1 : Int32) (a2 : Int32) : Option (Int32 × mS) := (if (mf_isRow S a1) = true then (if (mf_in a2 0 5) = true then (bd1 (mf_finds N S a1) fun S1 => (bd2 (mf_settle_L30 N a1 a2 N S1 0) fun v8 S9 => some (v8, S9))) else some ((-7), S)) else some ((-5), S))
set_option maxRecDepth 100000 in
theorem cm_settle (l : Launch) (N : Nat) (S : mS) (a1 : Int32) (a2 : Int32) (res : Int32) (S1 : mS) (hf : mf_settle N S a1 a2 = some (res, S1)) : mMi l yX12_settle cX12_settle 4 .int 10 (fun g => [.ref (mr g 0), .int a1, .int a2]) S res S1 := by
  refine mMi_of (own := RX12) (by decide) rfl rfl (fun g => Nat.le_of_ble_eq_true rfl) ?_
  intro p e R s m args below meth c Q g A H0 H locs ls hc hR hml hw hl hQ
  have hl : lv_has ls 4 [(0, .ref (mr g 0)), (1, .int a1), (2, .int a2)] := hl
  have hx := hc.1
  have hb := hc.2.1
  unfold mf_settle at hf
  refine lv_aload_n hx hb dX12_settle_0 rfl (lv_at hl 0 rfl) ?_
  refine lv_iload_n hx hb dX12_settle_1 rfl (lv_at hl 1 rfl) ?_
  refine m_cvi (As := [.int a1]) (rest := []) hc hw hR (hml.trans hl.1.symm) (cm_isRow l S a1 _ rfl) mq_isRow rfl (by decide) rfl rfl rfl (Nat.le_of_ble_eq_true rfl) dX12_settle_2 (fun H locs hw => ?_) ⟨Nat.zero_le _, Nat.zero_le _⟩
  refine lv_if_neb (tgt := 11) hx hb dX12_settle_5 (by decide) (fun cn10 => ?_) (fun cn10 => ?_)
  · have hf := (if_pos cn10).symm.trans hf
    refine lv_iload_n hx hb dX12_settle_11 rfl (lv_at hl 2 rfl) ?_
    refine lv_iconst (v := 0) hx hb dX12_settle_12 (by decide) ?_
    refine lv_iconst (v := 5) hx hb dX12_settle_13 (by decide) ?_
    refine m_csi (As := [.int a2, .int 0, .int 5]) (rest := []) hc hw hR (hml.trans hl.1.symm) (cm_in l S a2 0 5 _ rfl) mq_in (by decide) rfl rfl rfl (Nat.le_of_ble_eq_true rfl) dX12_settle_14 (fun H locs hw => ?_) ⟨Nat.zero_le _, Nat.zero_le _⟩
    refine lv_if_neb (tgt := 23) hx hb dX12_settle_17 (by decide) (fun cn11 => ?_) (fun cn11 => ?_)
    · have hf := (if_pos cn11).symm.trans hf
      refine lv_iconst (v := 0) hx hb dX12_settle_23 (by decide) ?_
      refine lv_istore_n (lv' := [(3, .int 0), (0, .ref (mr g 0)), (1, .int a1), (2, .int a2)]) hx hb dX12_settle_24 rfl hl (by decide) rfl (fun ls hl => ?_)
      refine lv_aload_n hx hb dX12_settle_25 rfl (lv_at hl 1 rfl) ?_
      refine lv_iload_n hx hb dX12_settle_26 rfl (lv_at hl 2 rfl) ?_
      obtain ⟨S1, hcall, hf⟩ := bd1_some hf
      refine m_cvv (As := [.int a1]) (rest := []) hc hw hR (hml.trans hl.1.symm) (cm_finds l N S a1 S1 hcall) mq_finds rfl (by decide) rfl rfl rfl (Nat.le_of_ble_eq_true rfl) dX12_settle_27 (fun H locs hw => ?_) ⟨Nat.zero_le _, Nat.zero_le _⟩
      obtain ⟨v8, S9, hL, hf⟩ := bd2_some hf
      refine wm_settle_L30 hc hR hml N a1 a2 N _ _ _ _ _ _ hL hw (lv_sub hl [1, 2, 3, 0] rfl) (fun H locs ls hw hl => ?_)
      refine lv_iload_n hx hb dX12_settle_82 rfl (lv_at hl 0 rfl) ?_
      obtain ⟨rfl, rfl⟩ := pr2_some hf
      exact hQ _ _ _ _ dX12_settle_83 hw
    · have hf := (if_neg cn11).symm.trans hf
      refine lv_bipush (v := (-7)) hx hb dX12_settle_20 (by decide) ?_
      obtain ⟨rfl, rfl⟩ := pr2_some hf
      exact hQ _ _ _ _ dX12_settle_22 hw
  · have hf := (if_neg cn10).symm.trans hf
    refine lv_bipush (v := (-5)) hx hb dX12_settle_8 (by decide) ?_
    obtain ⟨rfl, rfl⟩ := pr2_some hf
    exact hQ _ _ _ _ dX12_settle_10 hw
