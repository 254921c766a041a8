def mf_postBefore_L3 (N : Nat) (c1 : Int32) (c2 : Int32) (c3 : Int32) : Nat → mS → Int32 → Option ((Int32) ⊕ (Unit))
  | 0, _, _ => none
  | n + 1, S5, v4 => (if (S5.1 14 0) ≤ v4 then some (.inr ()) else (if ok v4 4 then (bd1 (mf_farOf N S5 c1) fun v7 => (if v7 ≤ (S5.1 16 v4.toNatClampNeg) then mf_postBefore_L3 N c1 c2 c3 n S5 (v4 + 1) else (bd1 (mf_beside N S5 c1 c2 c3 (S5.1 15 v4.toNatClampNeg) (S5.1 16 v4.toNatClampNeg)) fun v8 => (bd1 (mf_farOf N S5 c1) fun v9 => (if v9 ≤ v8 then mf_postBefore_L3 N c1 c2 c3 n S5 (v4 + 1) else some (.inl v4)))))) else none))
set_option maxRecDepth 100000 in
theorem wm_postBefore_L3 {p : Program} {l : Launch} {e : Env} {R : Room} {s : State} {m : MethodId} {args : Array Value} {below : List Frame} {meth : Method} {c : Code} {Q : State → Prop} {g : mG} {A : Nat → Prop} {H0 : Heap} (hc : qC RX12 cX12_postBefore p s m args c) (hR : qRoom R 3) (hml : c.maxLocals = 5) (N : Nat) (c1 : Int32) (c2 : Int32) (c3 : Int32) : ∀ (n : Nat) (S5 : mS) (v4 : Int32) (X : (Int32) ⊕ (Unit)) (H : Heap) (locs : List Loc) (ls : Array Slot), mf_postBefore_L3 N c1 c2 c3 n S5 v4 = some X → mI g A H0 s S5 H locs → lv_has ls 5 [(0, .ref (mr g 0)), (1, .int c1), (2, .int c2), (3, .int c3), (4, .int v4)] → (∀ (_ : Unit), X = .inr () → ∀ (H : Heap) (locs : List Loc) (ls : Array Slot), mI g A H0 s S5 H locs → lv_has ls 5 [] → W p l e R s m args below meth c H locs 0 0 Q (F0 m 65 ls [])) → (∀ (r : Int32), X = .inl r → mQi p l e R s m args below meth c cX12_postBefore Q g A H0 r S5) → W p l e R s m args below meth c H locs 0 0 Q (F0 m 3 ls []) := by
  have hx := hc.1
  have hb := hc.2.1
  intro n
  induction n with
  | zero => intro _ _ X H locs ls hf; exact nomatch (show none = some X from hf)
  | succ n ih =>
    intro S5 v4 X H locs ls hf hw hl kx kr
    rw [mf_postBefore_L3] at hf
    refine lv_iload hx hb dX12_postBefore_3 (lv_at hl 4 rfl) ?_
    refine lv_aload_n hx hb dX12_postBefore_5 rfl (lv_at hl 0 rfl) ?_
    refine m_g14 hc hw dX12_postBefore_6 ?_
    refine lv_icmp_ge (tgt := 65) hx hb dX12_postBefore_9 (by decide) (fun cn10 => ?_) (fun cn10 => ?_)
    · have hf := (if_pos cn10).symm.trans hf
      obtain rfl := Option.some.inj hf
      exact kx () rfl _ _ _ hw (lv_sub hl [] rfl)
    · have hf := (if_neg cn10).symm.trans hf
      refine lv_aload_n hx hb dX12_postBefore_12 rfl (lv_at hl 0 rfl) ?_
      refine m_g16 hc hw dX12_postBefore_13 ?_
      refine lv_iload hx hb dX12_postBefore_16 (lv_at hl 4 rfl) ?_
      obtain ⟨hi6, hf⟩ := gd_some hf
      refine m_l16 hc hw (ok_in hi6) dX12_postBefore_18 ?_
      refine lv_aload_n hx hb dX12_postBefore_19 rfl (lv_at hl 0 rfl) ?_
      refine lv_iload_n hx hb dX12_postBefore_20 rfl (lv_at hl 1 rfl) ?_
      obtain ⟨v7, hcall, hf⟩ := bd1_some hf
      refine m_cvi (As := [.int c1]) (rest := [.int (S5.1 16 v4.toNatClampNeg)]) hc hw hR (hml.trans hl.1.symm) (cm_farOf l N S5 c1 v7 hcall) mq_farOf rfl (by decide) rfl rfl rfl (Nat.le_of_ble_eq_true rfl) dX12_postBefore_21 (fun H locs hw => ?_) ⟨Nat.zero_le _, Nat.zero_le _⟩
      refine lv_icmp_ge (tgt := 59) hx hb dX12_postBefore_24 (by decide) (fun cn11 => ?_) (fun cn11 => ?_)
      · have hf := (if_pos cn11).symm.trans hf
        refine lv_iinc (lv' := [(4, .int (v4 + 1)), (0, .ref (mr g 0)), (1, .int c1), (2, .int c2), (3, .int c3)]) hx hb dX12_postBefore_59 hl (k := 4) rfl rfl (by decide) rfl (fun ls hl => ?_)
        refine lv_goto (tgt := 3) hx hb dX12_postBefore_62 (by decide) ?_
        exact ih _ _ X _ _ _ hf hw (lv_sub hl [1, 2, 3, 4, 0] rfl) kx kr
      · have hf := (if_neg cn11).symm.trans hf
        refine lv_aload_n hx hb dX12_postBefore_27 rfl (lv_at hl 0 rfl) ?_
        refine lv_iload_n hx hb dX12_postBefore_28 rfl (lv_at hl 1 rfl) ?_
        refine lv_iload_n hx hb dX12_postBefore_29 rfl (lv_at hl 2 rfl) ?_
        refine lv_iload_n hx hb dX12_postBefore_30 rfl (lv_at hl 3 rfl) ?_
        refine lv_aload_n hx hb dX12_postBefore_31 rfl (lv_at hl 0 rfl) ?_
        refine m_g15 hc hw dX12_postBefore_32 ?_
        refine lv_iload hx hb dX12_postBefore_35 (lv_at hl 4 rfl) ?_
        refine m_l15 hc hw (ok_in hi6) dX12_postBefore_37 ?_
        refine lv_aload_n hx hb dX12_postBefore_38 rfl (lv_at hl 0 rfl) ?_
        refine m_g16 hc hw dX12_postBefore_39 ?_
        refine lv_iload hx hb dX12_postBefore_42 (lv_at hl 4 rfl) ?_
        refine m_l16 hc hw (ok_in hi6) dX12_postBefore_44 ?_
        obtain ⟨v8, hcall, hf⟩ := bd1_some hf
        refine m_cvi (As := [.int c1, .int c2, .int c3, .int (S5.1 15 v4.toNatClampNeg), .int (S5.1 16 v4.toNatClampNeg)]) (rest := []) hc hw hR (hml.trans hl.1.symm) (cm_beside l N S5 c1 c2 c3 (S5.1 15 v4.toNatClampNeg) (S5.1 16 v4.toNatClampNeg) v8 hcall) mq_beside rfl (by decide) rfl rfl rfl (Nat.le_of_ble_eq_true rfl) dX12_postBefore_45 (fun H locs hw => ?_) ⟨Nat.zero_le _, Nat.zero_le _⟩
        refine lv_aload_n hx hb dX12_postBefore_48 rfl (lv_at hl 0 rfl) ?_
        refine lv_iload_n hx hb dX12_postBefore_49 rfl (lv_at hl 1 rfl) ?_
        obtain ⟨v9, hcall, hf⟩ := bd1_some hf
        refine m_cvi (As := [.int c1]) (rest := [.int v8]) hc hw hR (hml.trans hl.1.symm) (cm_farOf l N S5 c1 v9 hcall) mq_farOf rfl (by decide) rfl rfl rfl (Nat.le_of_ble_eq_true rfl) dX12_postBefore_50 (fun H locs hw => ?_) ⟨Nat.zero_le _, Nat.zero_le _⟩
        refine lv_icmp_ge (tgt := 59) hx hb dX12_postBefore_53 (by decide) (fun cn12 => ?_) (fun cn12 => ?_)
        · have hf := (if_pos cn12).symm.trans hf
          refine lv_iinc (lv' := [(4, .int (v4 + 1)), (0, .ref (mr g 0)), (1, .int c1), (2, .int c2), (3, .int c3)]) hx hb dX12_postBefore_59 hl (k := 4) rfl rfl (by decide) rfl (fun ls hl => ?_)
          refine lv_goto (tgt := 3) hx hb dX12_postBefore_62 (by decide) ?_
          exact ih _ _ X _ _ _ hf hw (lv_sub hl [1, 2, 3, 4, 0] rfl) kx kr
        · have hf := (if_neg cn12).symm.trans hf
          refine lv_iload hx hb dX12_postBefore_56 (lv_at hl 4 rfl) ?_
          obtain rfl := Option.some.inj hf
          exact kr _  rfl _ _ _ _ dX12_postBefore_58 hw
def mf_postBefore (N : Nat) (S : mS) (a1 : Int32) (a2 : Int32) (a3 : Int32) : Option (Int32) := (br0 (mf_postBefore_L3 N a1 a2 a3 N S 0) (Option.some) fun _ => some (-1))
set_option maxRecDepth 100000 in
theorem cm_postBefore (l : Launch) (N : Nat) (S : mS) (a1 : Int32) (a2 : Int32) (a3 : Int32) (res : Int32) (hf : mf_postBefore N S a1 a2 a3 = some res) : mMi l yX12_postBefore cX12_postBefore 5 .int 3 (fun g => [.ref (mr g 0), .int a1, .int a2, .int a3]) S res S := by
  refine mMi_of (own := RX12) (by decide) rfl rfl (fun g => Nat.le_of_ble_eq_true rfl) ?_
  intro p e R s m args below meth c Q g A H0 H locs ls hc hR hml hw hl hQ
  have hl : lv_has ls 5 [(0, .ref (mr g 0)), (1, .int a1), (2, .int a2), (3, .int a3)] := hl
  have hx := hc.1
  have hb := hc.2.1
  unfold mf_postBefore at hf
  refine lv_iconst (v := 0) hx hb dX12_postBefore_0 (by decide) ?_
  refine lv_istore (lv' := [(4, .int 0), (0, .ref (mr g 0)), (1, .int a1), (2, .int a2), (3, .int a3)]) hx hb dX12_postBefore_1 hl (by decide) rfl (fun ls hl => ?_)
  rcases br0_some hf with ⟨q, hL, hf⟩ | ⟨hL, hf⟩
  · refine wm_postBefore_L3 hc hR hml N a1 a2 a3 N _ _ _ _ _ _ hL hw (lv_sub hl [1, 2, 3, 4, 0] rfl) (fun _  h => nomatch h) ?_
    obtain rfl := Option.some.inj hf
    intro z0 h; cases h; exact hQ
  · refine wm_postBefore_L3 hc hR hml N a1 a2 a3 N _ _ _ _ _ _ hL hw (lv_sub hl [1, 2, 3, 4, 0] rfl) (fun y0 hi => ?_) (fun _  h => nomatch h)
    cases hi
    intro H locs ls hw hl
    refine lv_iconst (v := (-1)) hx hb dX12_postBefore_65 (by decide) ?_
    obtain rfl := Option.some.inj hf
    exact hQ _ _ _ _ dX12_postBefore_66 hw
theorem mq_postBefore : qCv RX12 282 yX12_postBefore cX12_postBefore 5 (some .int) 3 := ⟨⟨(mem_g 1473 (by decide +kernel) rfl), (mem_g 1475 (by decide +kernel) rfl), (mem_g 56 (by decide +kernel) rfl), (mem_g 89 (by decide +kernel) rfl), (mem_g 1476 (by decide +kernel) rfl)⟩, by decide, by decide +kernel, by decide⟩
def mf_likeOf (N : Nat) (S : mS) (a1 : Int32) (a2 : Int32) (a3 : Int32) : Option (Int32 × mS) := (if ok a3 6 then (bd1 (mf_placeOf N S a1 a2) fun v2 => (bd1 (mf_floorOf N S a1) fun v3 => (if ok ((8 * a1) + a2) 48 then (bd1 (mf_names N S (S.1 13 a3.toNatClampNeg) (S.1 12 a3.toNatClampNeg) a1 v2 v3 (S.1 9 ((8 * a1) + a2).toNatClampNeg)) fun S5 => (bd2 (mf_says N S5 0 99) fun v6 S7 => some (v6, S7))) else none))) else none)
set_option maxRecDepth 100000 in
theorem cm_likeOf (l : Launch) (N : Nat) (S : mS) (a1 : Int32) (a2 : Int32) (a3 : Int32) (res : Int32) (S1 : mS) (hf : mf_likeOf N S a1 a2 a3 = some (res, S1)) : mMi l yX12_likeOf cX12_likeOf 4 .int 3 (fun g => [.ref (mr g 0), .int a1, .int a2, .int a3]) S res S1 := by
  refine mMi_of (own := RX12) (by decide) rfl rfl (fun g => Nat.le_of_ble_eq_true rfl) ?_
  intro p e R s m args below meth c Q g A H0 H locs ls hc hR hml hw hl hQ
  have hl : lv_has ls 4 [(0, .ref (mr g 0)), (1, .int a1), (2, .int a2), (3, .int a3)] := hl
  have hx := hc.1
  have hb := hc.2.1
  unfold mf_likeOf at hf
  refine lv_aload_n hx hb dX12_likeOf_0 rfl (lv_at hl 0 rfl) ?_
  refine lv_aload_n hx hb dX12_likeOf_1 rfl (lv_at hl 0 rfl) ?_
  refine m_g13 hc hw dX12_likeOf_2 ?_
  refine lv_iload_n hx hb dX12_likeOf_5 rfl (lv_at hl 3 rfl) ?_
  obtain ⟨hi1, hf⟩ := gd_some hf
  refine m_l13 hc hw (ok_in hi1) dX12_likeOf_6 ?_
  refine lv_aload_n hx hb dX12_likeOf_7 rfl (lv_at hl 0 rfl) ?_
  refine m_g12 hc hw dX12_likeOf_8 ?_
  refine lv_iload_n hx hb dX12_likeOf_11 rfl (lv_at hl 3 rfl) ?_
  refine m_l12 hc hw (ok_in hi1) dX12_likeOf_12 ?_
  refine lv_iload_n hx hb dX12_likeOf_13 rfl (lv_at hl 1 rfl) ?_
  refine lv_aload_n hx hb dX12_likeOf_14 rfl (lv_at hl 0 rfl) ?_
  refine lv_iload_n hx hb dX12_likeOf_15 rfl (lv_at hl 1 rfl) ?_
  refine lv_iload_n hx hb dX12_likeOf_16 rfl (lv_at hl 2 rfl) ?_
  obtain ⟨v2, hcall, hf⟩ := bd1_some hf
  refine m_cvi (As := [.int a1, .int a2]) (rest := [.int a1, .int (S.1 12 a3.toNatClampNeg), .int (S.1 13 a3.toNatClampNeg), .ref (mr g 0)]) hc hw hR (hml.trans hl.1.symm) (cm_placeOf l N S a1 a2 v2 hcall) mq_placeOf rfl (by decide) rfl rfl rfl (Nat.le_of_ble_eq_true rfl) dX12_likeOf_17 (fun H locs hw => ?_) ⟨Nat.zero_le _, Nat.zero_le _⟩
  refine lv_aload_n hx hb dX12_likeOf_20 rfl (lv_at hl 0 rfl) ?_
  refine lv_iload_n hx hb dX12_likeOf_21 rfl (lv_at hl 1 rfl) ?_
  obtain ⟨v3, hcall, hf⟩ := bd1_some hf
  refine m_cvi (As := [.int a1]) (rest := [.int v2, .int a1, .int (S.1 12 a3.toNatClampNeg), .int (S.1 13 a3.toNatClampNeg), .ref (mr g 0)]) hc hw hR (hml.trans hl.1.symm) (cm_floorOf l N S a1 v3 hcall) mq_floorOf rfl (by decide) rfl rfl rfl (Nat.le_of_ble_eq_true rfl) dX12_likeOf_22 (fun H locs hw => ?_) ⟨Nat.zero_le _, Nat.zero_le _⟩
  refine lv_aload_n hx hb dX12_likeOf_25 rfl (lv_at hl 0 rfl) ?_
  refine m_g9 hc hw dX12_likeOf_26 ?_
  refine lv_bipush (v := 8) hx hb dX12_likeOf_29 (by decide) ?_
  refine lv_iload_n hx hb dX12_likeOf_31 rfl (lv_at hl 1 rfl) ?_
  refine lv_imul hx hb dX12_likeOf_32 ?_
  refine lv_iload_n hx hb dX12_likeOf_33 rfl (lv_at hl 2 rfl) ?_
  refine lv_iadd hx hb dX12_likeOf_34 ?_
  obtain ⟨hi4, hf⟩ := gd_some hf
  refine m_l9 hc hw (ok_in hi4) dX12_likeOf_35 ?_
  obtain ⟨S5, hcall, hf⟩ := bd1_some hf
  refine m_cvv (As := [.int (S.1 13 a3.toNatClampNeg), .int (S.1 12 a3.toNatClampNeg), .int a1, .int v2, .int v3, .int (S.1 9 ((8 * a1) + a2).toNatClampNeg)]) (rest := []) hc hw hR (hml.trans hl.1.symm) (cm_names l N S (S.1 13 a3.toNatClampNeg) (S.1 12 a3.toNatClampNeg) a1 v2 v3 (S.1 9 ((8 * a1) + a2).toNatClampNeg) S5 hcall) mq_names rfl (by decide) rfl rfl rfl (Nat.le_of_ble_eq_true rfl) dX12_likeOf_36 (fun H locs hw => ?_) ⟨Nat.zero_le _, Nat.zero_le _⟩
  refine lv_aload_n hx hb dX12_likeOf_39 rfl (lv_at hl 0 rfl) ?_
  refine lv_iconst (v := 0) hx hb dX12_likeOf_40 (by decide) ?_
  refine lv_bipush (v := 99) hx hb dX12_likeOf_41 (by decide) ?_
  obtain ⟨v6, S7, hcall, hf⟩ := bd2_some hf
  refine m_cvi (As := [.int 0, .int 99]) (rest := []) hc hw hR (hml.trans hl.1.symm) (cm_says l N S5 0 99 v6 S7 hcall) mq_says rfl (by decide) rfl rfl rfl (Nat.le_of_ble_eq_true rfl) dX12_likeOf_43 (fun H locs hw => ?_) ⟨Nat.zero_le _, Nat.zero_le _⟩
  obtain ⟨rfl, rfl⟩ := pr2_some hf
  exact hQ _ _ _ _ dX12_likeOf_46 hw
theorem mq_likeOf : qCv RX12 298 yX12_likeOf cX12_likeOf 4 (some .int) 3 := ⟨⟨(mem_g 1493 (by decide +kernel) rfl), (mem_g 1495 (by decide +kernel) rfl), (mem_g 59 (by decide +kernel) rfl), (mem_g 89 (by decide +kernel) rfl), (mem_g 1496 (by decide +kernel) rfl)⟩, by decide, by decide +kernel, by decide⟩
def mf_cost_L4 (N : Nat) : Nat → mS → Int32 → Int32 → Option (Int32 × mS)
  | 0, _, _, _ => none
  | n + 1, S3, v1, v2 => (if (S3.1 3 0) ≤ v2 then some (v1, S3) else (bd1 (mf_stepOf N S3 v2) fun v4 => (if v4 = 0 then mf_cost_L4 N n S3 v1 (v2 + 1) else (bd1 (mf_stepOf N S3 v2) fun v5 => (if ok v2 6 then (bd1 (mf_names N S3 0 v5 v2 0 (S3.1 7 v2.toNatClampNeg) 0) fun S7 => (bd2 (mf_says N S7 2 999) fun v8 S9 => mf_cost_L4 N n S9 (v1 + v8) (v2 + 1))) else none)))))
set_option maxRecDepth 100000 in
theorem wm_cost_L4 {p : Program} {l : Launch} {e : Env} {R : Room} {s : State} {m : MethodId} {args : Array Value} {below : List Frame} {meth : Method} {c : Code} {Q : State → Prop} {g : mG} {A : Nat → Prop} {H0 : Heap} (hc : qC RX12 cX12_cost p s m args c) (hR : qRoom R 3) (hml : c.maxLocals = 3) (N : Nat) : ∀ (n : Nat) (S3 : mS) (v1 : Int32) (v2 : Int32) (X : Int32 × mS) (H : Heap) (locs : List Loc) (ls : Array Slot), mf_cost_L4 N n S3 v1 v2 = some X → mI g A H0 s S3 H locs → lv_has ls 3 [(0, .ref (mr g 0)), (1, .int v1), (2, .int v2)] → (∀ (H : Heap) (locs : List Loc) (ls : Array Slot), mI g A H0 s X.2 H locs → lv_has ls 3 [(1, .int X.1)] → W p l e R s m args below meth c H locs 0 0 Q (F0 m 56 ls [])) → W p l e R s m args below meth c H locs 0 0 Q (F0 m 4 ls []) := by
  have hx := hc.1
  have hb := hc.2.1
  intro n
  induction n with
  | zero => intro _ _ _ X H locs ls hf; exact nomatch (show none = some X from hf)
  | succ n ih =>
    intro S3 v1 v2 X H locs ls hf hw hl kx
    rw [mf_cost_L4] at hf
    refine lv_iload_n hx hb dX12_cost_4 rfl (lv_at hl 2 rfl) ?_
    refine lv_aload_n hx hb dX12_cost_5 rfl (lv_at hl 0 rfl) ?_
    refine m_g3 hc hw dX12_cost_6 ?_
    refine lv_icmp_ge (tgt := 56) hx hb dX12_cost_9 (by decide) (fun cn12 => ?_) (fun cn12 => ?_)
    · have hf := (if_pos cn12).symm.trans hf
      obtain rfl := Option.some.inj hf
      exact kx _ _ _ hw (lv_sub hl [1] rfl)
    · have hf := (if_neg cn12).symm.trans hf
      refine lv_aload_n hx hb dX12_cost_12 rfl (lv_at hl 0 rfl) ?_
      refine lv_iload_n hx hb dX12_cost_13 rfl (lv_at hl 2 rfl) ?_
      obtain ⟨v4, hcall, hf⟩ := bd1_some hf
      refine m_cvi (As := [.int v2]) (rest := []) hc hw hR (hml.trans hl.1.symm) (cm_stepOf l N S3 v2 v4 hcall) mq_stepOf rfl (by decide) rfl rfl rfl (Nat.le_of_ble_eq_true rfl) dX12_cost_14 (fun H locs hw => ?_) ⟨Nat.zero_le _, Nat.zero_le _⟩
      refine lv_if_eq (tgt := 50) hx hb dX12_cost_17 (by decide) (fun cn13 => ?_) (fun cn13 => ?_)
      · have hf := (if_pos cn13).symm.trans hf
        refine lv_iinc (lv' := [(2, .int (v2 + 1)), (0, .ref (mr g 0)), (1, .int v1)]) hx hb dX12_cost_50 hl (k := 2) rfl rfl (by decide) rfl (fun ls hl => ?_)
        refine lv_goto (tgt := 4) hx hb dX12_cost_53 (by decide) ?_
        exact ih _ _ _ X _ _ _ hf hw (lv_sub hl [1, 2, 0] rfl) kx
      · have hf := (if_neg cn13).symm.trans hf
        refine lv_aload_n hx hb dX12_cost_20 rfl (lv_at hl 0 rfl) ?_
        refine lv_iconst (v := 0) hx hb dX12_cost_21 (by decide) ?_
        refine lv_aload_n hx hb dX12_cost_22 rfl (lv_at hl 0 rfl) ?_
        refine lv_iload_n hx hb dX12_cost_23 rfl (lv_at hl 2 rfl) ?_
        obtain ⟨v5, hcall, hf⟩ := bd1_some hf
        refine m_cvi (As := [.int v2]) (rest := [.int 0, .ref (mr g 0)]) hc hw hR (hml.trans hl.1.symm) (cm_stepOf l N S3 v2 v5 hcall) mq_stepOf rfl (by decide) rfl rfl rfl (Nat.le_of_ble_eq_true rfl) dX12_cost_24 (fun H locs hw => ?_) ⟨Nat.zero_le _, Nat.zero_le _⟩
        refine lv_iload_n hx hb dX12_cost_27 rfl (lv_at hl 2 rfl) ?_
        refine lv_iconst (v := 0) hx hb dX12_cost_28 (by decide) ?_
        refine lv_aload_n hx hb dX12_cost_29 rfl (lv_at hl 0 rfl) ?_
        refine m_g7 hc hw dX12_cost_30 ?_
        refine lv_iload_n hx hb dX12_cost_33 rfl (lv_at hl 2 rfl) ?_
        obtain ⟨hi6, hf⟩ := gd_some hf
        refine m_l7 hc hw (ok_in hi6) dX12_cost_34 ?_
        refine lv_iconst (v := 0) hx hb dX12_cost_35 (by decide) ?_
        obtain ⟨S7, hcall, hf⟩ := bd1_some hf
        refine m_cvv (As := [.int 0, .int v5, .int v2, .int 0, .int (S3.1 7 v2.toNatClampNeg), .int 0]) (rest := []) hc hw hR (hml.trans hl.1.symm) (cm_names l N S3 0 v5 v2 0 (S3.1 7 v2.toNatClampNeg) 0 S7 hcall) mq_names rfl (by decide) rfl rfl rfl (Nat.le_of_ble_eq_true rfl) dX12_cost_36 (fun H locs hw => ?_) ⟨Nat.zero_le _, Nat.zero_le _⟩
        refine lv_iload_n hx hb dX12_cost_39 rfl (lv_at hl 1 rfl) ?_
        refine lv_aload_n hx hb dX12_cost_40 rfl (lv_at hl 0 rfl) ?_
        refine lv_iconst (v := 2) hx hb dX12_cost_41 (by decide) ?_
        refine lv_sipush (v := 999) hx hb dX12_cost_42 (by decide) ?_
        obtain ⟨v8, S9, hcall, hf⟩ := bd2_some hf
        refine m_cvi (As := [.int 2, .int 999]) (rest := [.int v1]) hc hw hR (hml.trans hl.1.symm) (cm_says l N S7 2 999 v8 S9 hcall) mq_says rfl (by decide) rfl rfl rfl (Nat.le_of_ble_eq_true rfl) dX12_cost_45 (fun H locs hw => ?_) ⟨Nat.zero_le _, Nat.zero_le _⟩
        refine lv_iadd hx hb dX12_cost_48 ?_
        refine lv_istore_n (lv' := [(1, .int (v1 + v8)), (0, .ref (mr g 0)), (2, .int v2)]) hx hb dX12_cost_49 rfl hl (by decide) rfl (fun ls hl => ?_)
        refine lv_iinc (lv' := [(2, .int (v2 + 1)), (1, .int (v1 + v8)), (0, .ref (mr g 0))]) hx hb dX12_cost_50 hl (k := 2) rfl rfl (by decide) rfl (fun ls hl => ?_)
        refine lv_goto (tgt := 4) hx hb dX12_cost_53 (by decide) ?_
        exact ih _ _ _ X _ _ _ hf hw (lv_sub hl [2, 1, 0] rfl) kx
def mf_cost (N : Nat) (S : mS) : Option (Int32 × mS) := (bd2 (mf_cost_L4 N N S 0 0) fun v10 S11 => some (v10, S11))
set_option maxRecDepth 100000 in
theorem cm_cost (l : Launch) (N : Nat) (S : mS) (res : Int32) (S1 : mS) (hf : mf_cost N S = some (res, S1)) : mMi l yX12_cost cX12_cost 3 .int 3 (fun g => [.ref (mr g 0)]) S res S1 := by
  refine mMi_of (own := RX12) (by decide) rfl rfl (fun g => Nat.le_of_ble_eq_true rfl) ?_
  intro p e R s m args below meth c Q g A H0 H locs ls hc hR hml hw hl hQ
  have hl : lv_has ls 3 [(0, .ref (mr g 0))] := hl
  have hx := hc.1
  have hb := hc.2.1
  unfold mf_cost at hf
  refine lv_iconst (v := 0) hx hb dX12_cost_0 (by decide) ?_
  refine lv_istore_n (lv' := [(1, .int 0), (0, .ref (mr g 0))]) hx hb dX12_cost_1 rfl hl (by decide) rfl (fun ls hl => ?_)
  refine lv_iconst (v := 0) hx hb dX12_cost_2 (by decide) ?_
  refine lv_istore_n (lv' := [(2, .int 0), (1, .int 0), (0, .ref (mr g 0))]) hx hb dX12_cost_3 rfl hl (by decide) rfl (fun ls hl => ?_)
  obtain ⟨v10, S11, hL, hf⟩ := bd2_some hf
  refine wm_cost_L4 hc hR hml N N _ _ _ _ _ _ _ hL hw (lv_sub hl [2, 1, 0] rfl) (fun H locs ls hw hl => ?_)
  refine lv_iload_n hx hb dX12_cost_56 rfl (lv_at hl 0 rfl) ?_
  obtain ⟨rfl, rfl⟩ := pr2_some hf
  exact hQ _ _ _ _ dX12_cost_57 hw
theorem mq_cost : qCv RX12 356 yX12_cost cX12_cost 3 (some .int) 0 := ⟨⟨(mem_g 1608 (by decide +kernel) rfl), (mem_g 1521 (by decide +kernel) rfl), (mem_g 1522 (by decide +kernel) rfl), (mem_g 89 (by decide +kernel) rfl), (mem_g 1523 (by decide +kernel) rfl)⟩, by decide, by decide +kernel, by decide⟩
def mf_sit (N : Nat) (S : mS) (a1 : Int32) (a2 : Int32) (a3 : Int32) : Option (Int32 × mS) := (bd1 (mf_isSeat N S a1 a2) fun v1 => (if v1 = true then (if (mf_in a3 0 3) = true then (if ok ((8 * a1) + a2) 48 then some (S.1 9 ((8 * a1) + a2).toNatClampNeg, ms S 9 ((8 * a1) + a2).toNatClampNeg a3) else none) else some ((-2), S)) else some ((-1), S)))
set_option maxRecDepth 100000 in
theorem cm_sit (l : Launch) (N : Nat) (S : mS) (a1 : Int32) (a2 : Int32) (a3 : Int32) (res : Int32) (S1 : mS) (hf : mf_sit N S a1 a2 a3 = some (res, S1)) : mMi l yX12_sit cX12_sit 5 .int 4 (fun g => [.ref (mr g 0), .int a1, .int a2, .int a3]) S res S1 := by
  refine mMi_of (own := RX12) (by decide) rfl rfl (fun g => Nat.le_of_ble_eq_true rfl) ?_
  intro p e R s m args below meth c Q g A H0 H locs ls hc hR hml hw hl hQ
  have hl : lv_has ls 5 [(0, .ref (mr g 0)), (1, .int a1), (2, .int a2), (3, .int a3)] := hl
  have hx := hc.1
  have hb := hc.2.1
  unfold mf_sit at hf
  refine lv_aload_n hx hb dX12_sit_0 rfl (lv_at hl 0 rfl) ?_
  refine lv_iload_n hx hb dX12_sit_1 rfl (lv_at hl 1 rfl) ?_
  refine lv_iload_n hx hb dX12_sit_2 rfl (lv_at hl 2 rfl) ?_
  obtain ⟨v1, hcall, hf⟩ := bd1_some hf
  refine m_cvi (As := [.int a1, .int a2]) (rest := []) hc hw hR (hml.trans hl.1.symm) (cm_isSeat l N S a1 a2 v1 hcall) mq_isSeat rfl (by decide) rfl rfl rfl (Nat.le_of_ble_eq_true rfl) dX12_sit_3 (fun H locs hw => ?_) ⟨Nat.zero_le _, Nat.zero_le _⟩
  refine lv_if_neb (tgt := 11) hx hb dX12_sit_6 (by decide) (fun cn3 => ?_) (fun cn3 => ?_)
  · have hf := (if_pos cn3).symm.trans hf
    refine lv_iload_n hx hb dX12_sit_11 rfl (lv_at hl 3 rfl) ?_
    refine lv_iconst (v := 0) hx hb dX12_sit_12 (by decide) ?_
    refine lv_iconst (v := 3) hx hb dX12_sit_13 (by decide) ?_
    refine m_csi (As := [.int a3, .int 0, .int 3]) (rest := []) hc hw hR (hml.trans hl.1.symm) (cm_in l S a3 0 3 _ rfl) mq_in (by decide) rfl rfl rfl (Nat.le_of_ble_eq_true rfl) dX12_sit_14 (fun H locs hw => ?_) ⟨Nat.zero_le _, Nat.zero_le _⟩
    refine lv_if_neb (tgt := 23) hx hb dX12_sit_17 (by decide) (fun cn4 => ?_) (fun cn4 => ?_)
    · have hf := (if_pos cn4).symm.trans hf
      refine lv_aload_n hx hb dX12_sit_23 rfl (lv_at hl 0 rfl) ?_
      refine m_g9 hc hw dX12_sit_24 ?_
      refine lv_bipush (v := 8) hx hb dX12_sit_27 (by decide) ?_
      refine lv_iload_n hx hb dX12_sit_29 rfl (lv_at hl 1 rfl) ?_
      refine lv_imul hx hb dX12_sit_30 ?_
      refine lv_iload_n hx hb dX12_sit_31 rfl (lv_at hl 2 rfl) ?_
      refine lv_iadd hx hb dX12_sit_32 ?_
      obtain ⟨hi2, hf⟩ := gd_some hf
      refine m_l9 hc hw (ok_in hi2) dX12_sit_33 ?_
      refine lv_istore (lv' := [(4, .int (S.1 9 ((8 * a1) + a2).toNatClampNeg)), (0, .ref (mr g 0)), (1, .int a1), (2, .int a2), (3, .int a3)]) hx hb dX12_sit_34 hl (by decide) rfl (fun ls hl => ?_)
      refine lv_aload_n hx hb dX12_sit_36 rfl (lv_at hl 1 rfl) ?_
      refine m_g9 hc hw dX12_sit_37 ?_
      refine lv_bipush (v := 8) hx hb dX12_sit_40 (by decide) ?_
      refine lv_iload_n hx hb dX12_sit_42 rfl (lv_at hl 2 rfl) ?_
      refine lv_imul hx hb dX12_sit_43 ?_
      refine lv_iload_n hx hb dX12_sit_44 rfl (lv_at hl 3 rfl) ?_
      refine lv_iadd hx hb dX12_sit_45 ?_
      refine lv_iload_n hx hb dX12_sit_46 rfl (lv_at hl 4 rfl) ?_
      refine m_s9 hc hw (ok_in hi2) dX12_sit_47 (fun H locs hw => ?_)
      refine lv_iload hx hb dX12_sit_48 (lv_at hl 0 rfl) ?_
      obtain ⟨rfl, rfl⟩ := pr2_some hf
      exact hQ _ _ _ _ dX12_sit_50 hw
    · have hf := (if_neg cn4).symm.trans hf
      refine lv_bipush (v := (-2)) hx hb dX12_sit_20 (by decide) ?_
      obtain ⟨rfl, rfl⟩ := pr2_some hf
      exact hQ _ _ _ _ dX12_sit_22 hw
  · have hf := (if_neg cn3).symm.trans hf
    refine lv_iconst (v := (-1)) hx hb dX12_sit_9 (by decide) ?_
    obtain ⟨rfl, rfl⟩ := pr2_some hf
    exact hQ _ _ _ _ dX12_sit_10 hw
theorem mq_sit : qCv RX12 389 yX12_sit cX12_sit 5 (some .int) 3 := ⟨⟨(mem_g 1682 (by decide +kernel) rfl), (mem_g 1345 (by decide +kernel) rfl), (mem_g 1346 (by decide +kernel) rfl), (mem_g 89 (by decide +kernel) rfl), (mem_g 1347 (by decide +kernel) rfl)⟩, by decide, by decide +kernel, by decide⟩
def mf_told (N : Nat) (S : mS) (a1 : Int32) (a2 : Int32) (a3 : Int32) : Option (Int32) := (bd1 (mf_isSeat N S a1 a2) fun v1 => (if v1 = true then (if a3 = 0 then (if ok a1 6 then some (S.1 4 a1.toNatClampNeg) else none) else (if a3 = 1 then (bd1 (mf_placeOf N S a1 a2) fun v3 => some v3) else (if a3 = 2 then (bd1 (mf_floorOf N S a1) fun v4 => some v4) else (if a3 = 3 then (bd1 (mf_farOf N S a1) fun v5 => some v5) else (if a3 = 4 then (if ok ((8 * a1) + a2) 48 then some (S.1 9 ((8 * a1) + a2).toNatClampNeg) else none) else (if a3 = 5 then (bd1 (mf_eyesOf N S a1 a2) fun v7 => some v7) else (if a3 = 6 then (bd1 (mf_topOf N S a1 a2) fun v8 => some v8) else (if a3 = 7 then (bd1 (mf_isAmong N S a1) fun v9 => (if v9 = true then some 1 else some 0)) else some (-7))))))))) else some (-5)))
set_option maxRecDepth 100000 in
theorem cm_told (l : Launch) (N : Nat) (S : mS) (a1 : Int32) (a2 : Int32) (a3 : Int32) (res : Int32) (hf : mf_told N S a1 a2 a3 = some res) : mMi l yX12_told cX12_told 4 .int 4 (fun g => [.ref (mr g 0), .int a1, .int a2, .int a3]) S res S := by
  refine mMi_of (own := RX12) (by decide) rfl rfl (fun g => Nat.le_of_ble_eq_true rfl) ?_
  intro p e R s m args below meth c Q g A H0 H locs ls hc hR hml hw hl hQ
  have hl : lv_has ls 4 [(0, .ref (mr g 0)), (1, .int a1), (2, .int a2), (3, .int a3)] := hl
  have hx := hc.1
  have hb := hc.2.1
  unfold mf_told at hf
  refine lv_aload_n hx hb dX12_told_0 rfl (lv_at hl 0 rfl) ?_
  refine lv_iload_n hx hb dX12_told_1 rfl (lv_at hl 1 rfl) ?_
  refine lv_iload_n hx hb dX12_told_2 rfl (lv_at hl 2 rfl) ?_
  obtain ⟨v1, hcall, hf⟩ := bd1_some hf
  refine m_cvi (As := [.int a1, .int a2]) (rest := []) hc hw hR (hml.trans hl.1.symm) (cm_isSeat l N S a1 a2 v1 hcall) mq_isSeat rfl (by decide) rfl rfl rfl (Nat.le_of_ble_eq_true rfl) dX12_told_3 (fun H locs hw => ?_) ⟨Nat.zero_le _, Nat.zero_le _⟩
  refine lv_if_neb (tgt := 12) hx hb dX12_told_6 (by decide) (fun cn10 => ?_) (fun cn10 => ?_)
  · have hf := (if_pos cn10).symm.trans hf
    refine lv_iload_n hx hb dX12_told_12 rfl (lv_at hl 3 rfl) ?_
    by_cases cn11 : a3 = 0
    · have hf := (if_pos cn11).symm.trans hf
      refine lv_tableIn (tgt := 60) (off := 47) hx hb dX12_told_13 (by rw [cn11]; decide) (by rw [cn11]; decide) (by rw [cn11]; decide) (by decide) ?_
      refine lv_aload_n hx hb dX12_told_60 rfl (lv_at hl 0 rfl) ?_
      refine m_g4 hc hw dX12_told_61 ?_
      refine lv_iload_n hx hb dX12_told_64 rfl (lv_at hl 1 rfl) ?_
      obtain ⟨hi2, hf⟩ := gd_some hf
      refine m_l4 hc hw (ok_in hi2) dX12_told_65 ?_
      obtain rfl := Option.some.inj hf
      exact hQ _ _ _ _ dX12_told_66 hw
    have hf := (if_neg cn11).symm.trans hf
    by_cases cn12 : a3 = 1
    · have hf := (if_pos cn12).symm.trans hf
      refine lv_tableIn (tgt := 67) (off := 54) hx hb dX12_told_13 (by rw [cn12]; decide) (by rw [cn12]; decide) (by rw [cn12]; decide) (by decide) ?_
      refine lv_aload_n hx hb dX12_told_67 rfl (lv_at hl 0 rfl) ?_
      refine lv_iload_n hx hb dX12_told_68 rfl (lv_at hl 1 rfl) ?_
      refine lv_iload_n hx hb dX12_told_69 rfl (lv_at hl 2 rfl) ?_
      obtain ⟨v3, hcall, hf⟩ := bd1_some hf
      refine m_cvi (As := [.int a1, .int a2]) (rest := []) hc hw hR (hml.trans hl.1.symm) (cm_placeOf l N S a1 a2 v3 hcall) mq_placeOf rfl (by decide) rfl rfl rfl (Nat.le_of_ble_eq_true rfl) dX12_told_70 (fun H locs hw => ?_) ⟨Nat.zero_le _, Nat.zero_le _⟩
      obtain rfl := Option.some.inj hf
      exact hQ _ _ _ _ dX12_told_73 hw
    have hf := (if_neg cn12).symm.trans hf
    by_cases cn13 : a3 = 2
    · have hf := (if_pos cn13).symm.trans hf
      refine lv_tableIn (tgt := 74) (off := 61) hx hb dX12_told_13 (by rw [cn13]; decide) (by rw [cn13]; decide) (by rw [cn13]; decide) (by decide) ?_
      refine lv_aload_n hx hb dX12_told_74 rfl (lv_at hl 0 rfl) ?_
      refine lv_iload_n hx hb dX12_told_75 rfl (lv_at hl 1 rfl) ?_
      obtain ⟨v4, hcall, hf⟩ := bd1_some hf
      refine m_cvi (As := [.int a1]) (rest := []) hc hw hR (hml.trans hl.1.symm) (cm_floorOf l N S a1 v4 hcall) mq_floorOf rfl (by decide) rfl rfl rfl (Nat.le_of_ble_eq_true rfl) dX12_told_76 (fun H locs hw => ?_) ⟨Nat.zero_le _, Nat.zero_le _⟩
      obtain rfl := Option.some.inj hf
      exact hQ _ _ _ _ dX12_told_79 hw
    have hf := (if_neg cn13).symm.trans hf
    by_cases cn14 : a3 = 3
    · have hf := (if_pos cn14).symm.trans hf
      refine lv_tableIn (tgt := 80) (off := 67) hx hb dX12_told_13 (by rw [cn14]; decide) (by rw [cn14]; decide) (by rw [cn14]; decide) (by decide) ?_
      refine lv_aload_n hx hb dX12_told_80 rfl (lv_at hl 0 rfl) ?_
      refine lv_iload_n hx hb dX12_told_81 rfl (lv_at hl 1 rfl) ?_
      obtain ⟨v5, hcall, hf⟩ := bd1_some hf
      refine m_cvi (As := [.int a1]) (rest := []) hc hw hR (hml.trans hl.1.symm) (cm_farOf l N S a1 v5 hcall) mq_farOf rfl (by decide) rfl rfl rfl (Nat.le_of_ble_eq_true rfl) dX12_told_82 (fun H locs hw => ?_) ⟨Nat.zero_le _, Nat.zero_le _⟩
      obtain rfl := Option.some.inj hf
      exact hQ _ _ _ _ dX12_told_85 hw
    have hf := (if_neg cn14).symm.trans hf
    by_cases cn15 : a3 = 4
    · have hf := (if_pos cn15).symm.trans hf
      refine lv_tableIn (tgt := 86) (off := 73) hx hb dX12_told_13 (by rw [cn15]; decide) (by rw [cn15]; decide) (by rw [cn15]; decide) (by decide) ?_
      refine lv_aload_n hx hb dX12_told_86 rfl (lv_at hl 0 rfl) ?_
      refine m_g9 hc hw dX12_told_87 ?_
      refine lv_bipush (v := 8) hx hb dX12_told_90 (by decide) ?_
      refine lv_iload_n hx hb dX12_told_92 rfl (lv_at hl 1 rfl) ?_
      refine lv_imul hx hb dX12_told_93 ?_
      refine lv_iload_n hx hb dX12_told_94 rfl (lv_at hl 2 rfl) ?_
      refine lv_iadd hx hb dX12_told_95 ?_
      obtain ⟨hi6, hf⟩ := gd_some hf
      refine m_l9 hc hw (ok_in hi6) dX12_told_96 ?_
      obtain rfl := Option.some.inj hf
      exact hQ _ _ _ _ dX12_told_97 hw
    have hf := (if_neg cn15).symm.trans hf
    by_cases cn16 : a3 = 5
    · have hf := (if_pos cn16).symm.trans hf
      refine lv_tableIn (tgt := 98) (off := 85) hx hb dX12_told_13 (by rw [cn16]; decide) (by rw [cn16]; decide) (by rw [cn16]; decide) (by decide) ?_
      refine lv_aload_n hx hb dX12_told_98 rfl (lv_at hl 0 rfl) ?_
      refine lv_iload_n hx hb dX12_told_99 rfl (lv_at hl 1 rfl) ?_
      refine lv_iload_n hx hb dX12_told_100 rfl (lv_at hl 2 rfl) ?_
      obtain ⟨v7, hcall, hf⟩ := bd1_some hf
      refine m_cvi (As := [.int a1, .int a2]) (rest := []) hc hw hR (hml.trans hl.1.symm) (cm_eyesOf l N S a1 a2 v7 hcall) mq_eyesOf rfl (by decide) rfl rfl rfl (Nat.le_of_ble_eq_true rfl) dX12_told_101 (fun H locs hw => ?_) ⟨Nat.zero_le _, Nat.zero_le _⟩
      obtain rfl := Option.some.inj hf
      exact hQ _ _ _ _ dX12_told_104 hw
    have hf := (if_neg cn16).symm.trans hf
    by_cases cn17 : a3 = 6
    · have hf := (if_pos cn17).symm.trans hf
      refine lv_tableIn (tgt := 105) (off := 92) hx hb dX12_told_13 (by rw [cn17]; decide) (by rw [cn17]; decide) (by rw [cn17]; decide) (by decide) ?_
      refine lv_aload_n hx hb dX12_told_105 rfl (lv_at hl 0 rfl) ?_
      refine lv_iload_n hx hb dX12_told_106 rfl (lv_at hl 1 rfl) ?_
      refine lv_iload_n hx hb dX12_told_107 rfl (lv_at hl 2 rfl) ?_
      obtain ⟨v8, hcall, hf⟩ := bd1_some hf
      refine m_cvi (As := [.int a1, .int a2]) (rest := []) hc hw hR (hml.trans hl.1.symm) (cm_topOf l N S a1 a2 v8 hcall) mq_topOf rfl (by decide) rfl rfl rfl (Nat.le_of_ble_eq_true rfl) dX12_told_108 (fun H locs hw => ?_) ⟨Nat.zero_le _, Nat.zero_le _⟩
      obtain rfl := Option.some.inj hf
      exact hQ _ _ _ _ dX12_told_111 hw
    have hf := (if_neg cn17).symm.trans hf
    by_cases cn19 : a3 = 7
    · have hf := (if_pos cn19).symm.trans hf
      refine lv_tableIn (tgt := 112) (off := 99) hx hb dX12_told_13 (by rw [cn19]; decide) (by rw [cn19]; decide) (by rw [cn19]; decide) (by decide) ?_
      refine lv_aload_n hx hb dX12_told_112 rfl (lv_at hl 0 rfl) ?_
      refine lv_iload_n hx hb dX12_told_113 rfl (lv_at hl 1 rfl) ?_
      obtain ⟨v9, hcall, hf⟩ := bd1_some hf
      refine m_cvi (As := [.int a1]) (rest := []) hc hw hR (hml.trans hl.1.symm) (cm_isAmong l N S a1 v9 hcall) mq_isAmong rfl (by decide) rfl rfl rfl (Nat.le_of_ble_eq_true rfl) dX12_told_114 (fun H locs hw => ?_) ⟨Nat.zero_le _, Nat.zero_le _⟩
      refine lv_if_eqb (tgt := 124) hx hb dX12_told_117 (by decide) (fun cn18 => ?_) (fun cn18 => ?_)
      · have hf := (if_neg cn18).symm.trans hf
        refine lv_iconst (v := 0) hx hb dX12_told_124 (by decide) ?_
        obtain rfl := Option.some.inj hf
        exact hQ _ _ _ _ dX12_told_125 hw
      · have hf := (if_pos cn18).symm.trans hf
        refine lv_iconst (v := 1) hx hb dX12_told_120 (by decide) ?_
        refine lv_goto (tgt := 125) hx hb dX12_told_121 (by decide) ?_
        obtain rfl := Option.some.inj hf
        exact hQ _ _ _ _ dX12_told_125 hw
    have hf := (if_neg cn19).symm.trans hf
    refine lv_tableOut (tgt := 126) hx hb dX12_told_13 (by have hcn11 := sw_ne cn11 (k := 0) (by decide); have hcn12 := sw_ne cn12 (k := 1) (by decide); have hcn13 := sw_ne cn13 (k := 2) (by decide); have hcn14 := sw_ne cn14 (k := 3) (by decide); have hcn15 := sw_ne cn15 (k := 4) (by decide); have hcn16 := sw_ne cn16 (k := 5) (by decide); have hcn17 := sw_ne cn17 (k := 6) (by decide); have hcn19 := sw_ne cn19 (k := 7) (by decide); omega) (by decide) ?_
    refine lv_bipush (v := (-7)) hx hb dX12_told_126 (by decide) ?_
    obtain rfl := Option.some.inj hf
    exact hQ _ _ _ _ dX12_told_128 hw
  · have hf := (if_neg cn10).symm.trans hf
    refine lv_bipush (v := (-5)) hx hb dX12_told_9 (by decide) ?_
    obtain rfl := Option.some.inj hf
    exact hQ _ _ _ _ dX12_told_11 hw
def mf_eRead_L14 (N : Nat) : Nat → mS → Int32 → Int32 → Option ((Bool × mS) ⊕ (Unit))
  | 0, _, _, _ => none
  | n + 1, S3, v1, v2 => (bd1 (mf_next N S3) fun S4 => (if v1 = 0 then (if (S4.1 42 0) = 59 then (bd1 (mf_unwinds N S4 1) fun S9 => (if (S9.1 46 0) = 0 then some (.inl (true, S9)) else some (.inl (false, S9)))) else (if (S4.1 42 0) = 41 then (bd1 (mf_unwinds N S4 1) fun S7 => (if (S7.1 46 0) = 0 then some (.inl (false, S7)) else (bd1 (mf_unwinds N (ms (ms S7 46 0 ((S7.1 46 0) - 1)) 47 0 (((ms S7 46 0 ((S7.1 46 0) - 1)).1 47 0) - 1)) 7) fun S8 => mf_eRead_L14 N n S8 v1 v2))) else (if (mf_signOf S4) = (-1) then some (.inl (false, S4)) else (bd2 (mf_between N S4 (mf_signOf S4)) fun v5 S6 => (if v5 = true then (if 12 < (mf_signOf S4) then mf_eRead_L14 N n S6 1 0 else mf_eRead_L14 N n S6 1 1) else some (.inl (false, S6))))))) else (bm0 (if (S4.1 42 0) = 1 then some (.inr ()) else (if (S4.1 42 0) = 2 then some (.inr ()) else (bm0 (if (S4.1 42 0) = 6 then (if v2 = 0 then some (.inr ()) else (bd2 (mf_opensOne N S4 13) fun v10 S11 => (if v10 = true then some (.inl (some (.inl (mf_eRead_L14 N n S11 v1 v2)))) else some (.inl (some (.inl (some (.inl (false, S11))))))))) else some (.inr ())) fun _ => (if (S4.1 42 0) = 45 then (bd2 (mf_opensOne N S4 19) fun v14 S15 => (if v14 = true then some (.inl (mf_eRead_L14 N n S15 v1 0)) else some (.inl (some (.inl (false, S15)))))) else (if (S4.1 42 0) = 40 then (bd2 (mf_opensOne N S4 0) fun v12 S13 => (if v12 = true then some (.inl (mf_eRead_L14 N n S13 v1 1)) else some (.inl (some (.inl (false, S13)))))) else some (.inl (some (.inl (false, S4))))))))) fun _ => (bd1 (mf_puts N S4 ((if (S4.1 42 0) = 1 then 100000 + (S4.1 43 0) else S4.1 43 0) : Int32)) fun S17 => (bd1 (mf_unwinds N S17 7) fun S18 => mf_eRead_L14 N n S18 0 v2)))))
set_option maxRecDepth 100000 in
theorem wm_eRead_L14 {p : Program} {l : Launch} {e : Env} {R : Room} {s : State} {m : MethodId} {args : Array Value} {below : List Frame} {meth : Method} {c : Code} {Q : State → Prop} {g : mG} {A : Nat → Prop} {H0 : Heap} (hc : qC RX12 cX12_eRead p s m args c) (hR : qRoom R 4) (hml : c.maxLocals = 4) (N : Nat) : ∀ (n : Nat) (S3 : mS) (v1 : Int32) (v2 : Int32) (X : (Bool × mS) ⊕ (Unit)) (H : Heap) (locs : List Loc) (ls : Array Slot), mf_eRead_L14 N n S3 v1 v2 = some X → mI g A H0 s S3 H locs → lv_has ls 4 [(0, .ref (mr g 0)), (1, .int v1), (2, .int v2)] → (∀ (r : Bool) (S9 : mS), X = .inl (r, S9) → mQi p l e R s m args below meth c cX12_eRead Q g A H0 (bi r) S9) → W p l e R s m args below meth c H locs 0 0 Q (F0 m 14 ls []) := by
  have hx := hc.1
  have hb := hc.2.1
  intro n
  induction n with
  | zero => intro _ _ _ X H locs ls hf; exact nomatch (show none = some X from hf)
  | succ n ih =>
    intro S3 v1 v2 X H locs ls hf hw hl kr
    rw [mf_eRead_L14] at hf
    refine lv_aload_n hx hb dX12_eRead_14 rfl (lv_at hl 0 rfl) ?_
    obtain ⟨S4, hcall, hf⟩ := bd1_some hf
    refine m_cvv (As := []) (rest := []) hc hw hR (hml.trans hl.1.symm) (cm_next l N S3 S4 hcall) mq_next rfl (by decide) rfl rfl rfl (Nat.le_of_ble_eq_true rfl) dX12_eRead_15 (fun H locs hw => ?_) ⟨Nat.zero_le _, Nat.zero_le _⟩
    refine lv_iload_n hx hb dX12_eRead_18 rfl (lv_at hl 1 rfl) ?_
    refine lv_if_eq (tgt := 150) hx hb dX12_eRead_19 (by decide) (fun cn19 => ?_) (fun cn19 => ?_)
    · have hf := (if_pos cn19).symm.trans hf
      refine lv_aload_n hx hb dX12_eRead_150 rfl (lv_at hl 0 rfl) ?_
      refine m_g42 hc hw dX12_eRead_151 ?_
      refine lv_bipush (v := 59) hx hb dX12_eRead_154 (by decide) ?_
      refine lv_icmp_ne (tgt := 177) hx hb dX12_eRead_156 (by decide) (fun cn20 => ?_) (fun cn20 => ?_)
      · have hf := (if_neg cn20).symm.trans hf
        refine lv_aload_n hx hb dX12_eRead_177 rfl (lv_at hl 0 rfl) ?_
        refine m_g42 hc hw dX12_eRead_178 ?_
        refine lv_bipush (v := 41) hx hb dX12_eRead_181 (by decide) ?_
        refine lv_icmp_ne (tgt := 229) hx hb dX12_eRead_183 (by decide) (fun cn21 => ?_) (fun cn21 => ?_)
        · have hf := (if_neg cn21).symm.trans hf
          refine lv_aload_n hx hb dX12_eRead_229 rfl (lv_at hl 0 rfl) ?_
          refine m_cvi (As := []) (rest := []) hc hw hR (hml.trans hl.1.symm) (cm_signOf l S4 _ rfl) mq_signOf rfl (by decide) rfl rfl rfl (Nat.le_of_ble_eq_true rfl) dX12_eRead_230 (fun H locs hw => ?_) ⟨Nat.zero_le _, Nat.zero_le _⟩
          refine lv_istore_n (lv' := [(3, .int (mf_signOf S4)), (0, .ref (mr g 0)), (1, .int v1), (2, .int v2)]) hx hb dX12_eRead_233 rfl hl (by decide) rfl (fun ls hl => ?_)
          refine lv_iload_n hx hb dX12_eRead_234 rfl (lv_at hl 0 rfl) ?_
          refine lv_iconst (v := (-1)) hx hb dX12_eRead_235 (by decide) ?_
          refine lv_icmp_eq (tgt := 247) hx hb dX12_eRead_236 (by decide) (fun cn22 => ?_) (fun cn22 => ?_)
          · have hf := (if_pos cn22).symm.trans hf
            refine lv_iconst (v := 0) hx hb dX12_eRead_247 (by decide) ?_
            obtain rfl := Option.some.inj hf
            exact kr _ _  rfl _ _ _ _ dX12_eRead_248 hw
          · have hf := (if_neg cn22).symm.trans hf
            refine lv_aload_n hx hb dX12_eRead_239 rfl (lv_at hl 1 rfl) ?_
            refine lv_iload_n hx hb dX12_eRead_240 rfl (lv_at hl 0 rfl) ?_
            obtain ⟨v5, S6, hcall, hf⟩ := bd2_some hf
            refine m_cvi (As := [.int (mf_signOf S4)]) (rest := []) hc hw hR (hml.trans hl.1.symm) (cm_between l N S4 (mf_signOf S4) v5 S6 hcall) mq_between rfl (by decide) rfl rfl rfl (Nat.le_of_ble_eq_true rfl) dX12_eRead_241 (fun H locs hw => ?_) ⟨Nat.zero_le _, Nat.zero_le _⟩
            refine lv_if_neb (tgt := 249) hx hb dX12_eRead_244 (by decide) (fun cn23 => ?_) (fun cn23 => ?_)
            · have hf := (if_pos cn23).symm.trans hf
              refine lv_iconst (v := 1) hx hb dX12_eRead_249 (by decide) ?_
              refine lv_istore_n (lv' := [(1, .int 1), (3, .int (mf_signOf S4)), (0, .ref (mr g 0)), (2, .int v2)]) hx hb dX12_eRead_250 rfl hl (by decide) rfl (fun ls hl => ?_)
              refine lv_iload_n hx hb dX12_eRead_251 rfl (lv_at hl 1 rfl) ?_
              refine lv_bipush (v := 12) hx hb dX12_eRead_252 (by decide) ?_
              refine lv_icmp_gt (tgt := 261) hx hb dX12_eRead_254 (by decide) (fun cn24 => ?_) (fun cn24 => ?_)
              · have hf := (if_pos cn24).symm.trans hf
                refine lv_iconst (v := 0) hx hb dX12_eRead_261 (by decide) ?_
                refine lv_istore_n (lv' := [(2, .int 0), (1, .int 1), (3, .int (mf_signOf S4)), (0, .ref (mr g 0))]) hx hb dX12_eRead_262 rfl hl (by decide) rfl (fun ls hl => ?_)
                refine lv_goto (tgt := 14) hx hb dX12_eRead_263 (by decide) ?_
                exact ih _ _ _ X _ _ _ hf hw (lv_sub hl [3, 1, 0] rfl) kr
              · have hf := (if_neg cn24).symm.trans hf
                refine lv_iconst (v := 1) hx hb dX12_eRead_257 (by decide) ?_
                refine lv_goto (tgt := 262) hx hb dX12_eRead_258 (by decide) ?_
                refine lv_istore_n (lv' := [(2, .int 1), (1, .int 1), (3, .int (mf_signOf S4)), (0, .ref (mr g 0))]) hx hb dX12_eRead_262 rfl hl (by decide) rfl (fun ls hl => ?_)
                refine lv_goto (tgt := 14) hx hb dX12_eRead_263 (by decide) ?_
                exact ih _ _ _ X _ _ _ hf hw (lv_sub hl [3, 1, 0] rfl) kr
            · have hf := (if_neg cn23).symm.trans hf
              refine lv_iconst (v := 0) hx hb dX12_eRead_247 (by decide) ?_
              obtain rfl := Option.some.inj hf
              exact kr _ _  rfl _ _ _ _ dX12_eRead_248 hw
        · have hf := (if_pos cn21).symm.trans hf
          refine lv_aload_n hx hb dX12_eRead_186 rfl (lv_at hl 0 rfl) ?_
          refine lv_iconst (v := 1) hx hb dX12_eRead_187 (by decide) ?_
          obtain ⟨S7, hcall, hf⟩ := bd1_some hf
          refine m_cvv (As := [.int 1]) (rest := []) hc hw hR (hml.trans hl.1.symm) (cm_unwinds l N S4 1 S7 hcall) mq_unwinds rfl (by decide) rfl rfl rfl (Nat.le_of_ble_eq_true rfl) dX12_eRead_188 (fun H locs hw => ?_) ⟨Nat.zero_le _, Nat.zero_le _⟩
          refine lv_aload_n hx hb dX12_eRead_191 rfl (lv_at hl 0 rfl) ?_
          refine m_g46 hc hw dX12_eRead_192 ?_
          refine lv_if_ne (tgt := 200) hx hb dX12_eRead_195 (by decide) (fun cn25 => ?_) (fun cn25 => ?_)
          · have hf := (if_neg cn25).symm.trans hf
            refine lv_aload_n hx hb dX12_eRead_200 rfl (lv_at hl 0 rfl) ?_
            refine lv_dup hx hb dX12_eRead_201 rfl ?_
            refine m_g46 hc hw dX12_eRead_202 ?_
            refine lv_iconst (v := 1) hx hb dX12_eRead_205 (by decide) ?_
            refine lv_isub hx hb dX12_eRead_206 ?_
            refine m_p46 hc hw dX12_eRead_207 (fun H locs hw => ?_)
            refine lv_aload_n hx hb dX12_eRead_210 rfl (lv_at hl 0 rfl) ?_
            refine lv_dup hx hb dX12_eRead_211 rfl ?_
            refine m_g47 hc hw dX12_eRead_212 ?_
            refine lv_iconst (v := 1) hx hb dX12_eRead_215 (by decide) ?_
            refine lv_isub hx hb dX12_eRead_216 ?_
            refine m_p47 hc hw dX12_eRead_217 (fun H locs hw => ?_)
            refine lv_aload_n hx hb dX12_eRead_220 rfl (lv_at hl 0 rfl) ?_
            refine lv_bipush (v := 7) hx hb dX12_eRead_221 (by decide) ?_
            obtain ⟨S8, hcall, hf⟩ := bd1_some hf
            refine m_cvv (As := [.int 7]) (rest := []) hc hw hR (hml.trans hl.1.symm) (cm_unwinds l N (ms (ms S7 46 0 ((S7.1 46 0) - 1)) 47 0 (((ms S7 46 0 ((S7.1 46 0) - 1)).1 47 0) - 1)) 7 S8 hcall) mq_unwinds rfl (by decide) rfl rfl rfl (Nat.le_of_ble_eq_true rfl) dX12_eRead_223 (fun H locs hw => ?_) ⟨Nat.zero_le _, Nat.zero_le _⟩
            refine lv_goto (tgt := 14) hx hb dX12_eRead_226 (by decide) ?_
            exact ih _ _ _ X _ _ _ hf hw (lv_sub hl [0, 1, 2] rfl) kr
          · have hf := (if_pos cn25).symm.trans hf
            refine lv_iconst (v := 0) hx hb dX12_eRead_198 (by decide) ?_
            obtain rfl := Option.some.inj hf
            exact kr _ _  rfl _ _ _ _ dX12_eRead_199 hw
      · have hf := (if_pos cn20).symm.trans hf
        refine lv_aload_n hx hb dX12_eRead_159 rfl (lv_at hl 0 rfl) ?_
        refine lv_iconst (v := 1) hx hb dX12_eRead_160 (by decide) ?_
        obtain ⟨S9, hcall, hf⟩ := bd1_some hf
        refine m_cvv (As := [.int 1]) (rest := []) hc hw hR (hml.trans hl.1.symm) (cm_unwinds l N S4 1 S9 hcall) mq_unwinds rfl (by decide) rfl rfl rfl (Nat.le_of_ble_eq_true rfl) dX12_eRead_161 (fun H locs hw => ?_) ⟨Nat.zero_le _, Nat.zero_le _⟩
        refine lv_aload_n hx hb dX12_eRead_164 rfl (lv_at hl 0 rfl) ?_
        refine m_g46 hc hw dX12_eRead_165 ?_
        refine lv_if_ne (tgt := 175) hx hb dX12_eRead_168 (by decide) (fun cn26 => ?_) (fun cn26 => ?_)
        · have hf := (if_neg cn26).symm.trans hf
          refine lv_iconst (v := 0) hx hb dX12_eRead_175 (by decide) ?_
          obtain rfl := Option.some.inj hf
          exact kr _ _  rfl _ _ _ _ dX12_eRead_176 hw
        · have hf := (if_pos cn26).symm.trans hf
          refine lv_iconst (v := 1) hx hb dX12_eRead_171 (by decide) ?_
          refine lv_goto (tgt := 176) hx hb dX12_eRead_172 (by decide) ?_
          obtain rfl := Option.some.inj hf
          exact kr _ _  rfl _ _ _ _ dX12_eRead_176 hw
    · have hf := (if_neg cn19).symm.trans hf
      refine lv_aload_n hx hb dX12_eRead_22 rfl (lv_at hl 0 rfl) ?_
      refine m_g42 hc hw dX12_eRead_23 ?_
      refine lv_iconst (v := 1) hx hb dX12_eRead_26 (by decide) ?_
      obtain ⟨Y, hX29, hf⟩ := bm0_some hf
      have kJ30 : Y = .inr () → ∀ (H : Heap) (locs : List Loc) (ls : Array Slot), mI g A H0 s S4 H locs → lv_has ls 4 [(0, .ref (mr g 0)), (2, .int v2)] → W p l e R s m args below meth c H locs 0 0 Q (F0 m 38 ls []) := by
        intro  hY H locs ls hw hl
        subst hY
        have hf := bc0_r hf
        refine lv_aload_n hx hb dX12_eRead_38 rfl (lv_at hl 0 rfl) ?_
        refine lv_aload_n hx hb dX12_eRead_39 rfl (lv_at hl 0 rfl) ?_
        refine m_g42 hc hw dX12_eRead_40 ?_
        refine lv_iconst (v := 1) hx hb dX12_eRead_43 (by decide) ?_
        obtain ⟨v16, hv16⟩ : ∃ y : Int32, y = (if (S4.1 42 0) = 1 then 100000 + (S4.1 43 0) else S4.1 43 0) := ⟨_, rfl⟩
        try rw [← hv16] at hf
        have kJ27 : ∀ v16x : Int32, v16 = v16x → ∀ (H : Heap) (locs : List Loc) (ls : Array Slot), mI g A H0 s S4 H locs → lv_has ls 4 [(0, .ref (mr g 0)), (2, .int v2)] → W p l e R s m args below meth c H locs 0 0 Q (F0 m 61 ls [.int v16x, .ref (mr g 0)]) := by
          intro v16x hxv16 H locs ls hw hl
          subst hxv16
          obtain ⟨S17, hcall, hf⟩ := bd1_some hf
          refine m_cvv (As := [.int v16]) (rest := []) hc hw hR (hml.trans hl.1.symm) (cm_puts l N S4 v16 S17 hcall) mq_puts rfl (by decide) rfl rfl rfl (Nat.le_of_ble_eq_true rfl) dX12_eRead_61 (fun H locs hw => ?_) ⟨Nat.zero_le _, Nat.zero_le _⟩
          refine lv_aload_n hx hb dX12_eRead_64 rfl (lv_at hl 0 rfl) ?_
          refine lv_bipush (v := 7) hx hb dX12_eRead_65 (by decide) ?_
          obtain ⟨S18, hcall, hf⟩ := bd1_some hf
          refine m_cvv (As := [.int 7]) (rest := []) hc hw hR (hml.trans hl.1.symm) (cm_unwinds l N S17 7 S18 hcall) mq_unwinds rfl (by decide) rfl rfl rfl (Nat.le_of_ble_eq_true rfl) dX12_eRead_67 (fun H locs hw => ?_) ⟨Nat.zero_le _, Nat.zero_le _⟩
          refine lv_iconst (v := 0) hx hb dX12_eRead_70 (by decide) ?_
          refine lv_istore_n (lv' := [(1, .int 0), (0, .ref (mr g 0)), (2, .int v2)]) hx hb dX12_eRead_71 rfl hl (by decide) rfl (fun ls hl => ?_)
          refine lv_goto (tgt := 14) hx hb dX12_eRead_72 (by decide) ?_
          exact ih _ _ _ X _ _ _ hf hw (lv_sub hl [1, 0, 2] rfl) kr
        refine lv_icmp_ne (tgt := 57) hx hb dX12_eRead_44 (by decide) (fun cn28 => ?_) (fun cn28 => ?_)
        · refine lv_aload_n hx hb dX12_eRead_57 rfl (lv_at hl 0 rfl) ?_
          refine m_g43 hc hw dX12_eRead_58 ?_
          have ev16 : v16 = (S4.1 43 0) := by rw [hv16]; simp only [if_neg cn28]
          exact kJ27 _ ev16 _ _ _ hw (lv_sub hl [0, 1] rfl)
        · refine lv_ldc (v := 100000) hx hb hc.2.2.1 (hc.2.2.2 _ (mem_g 1421 (by decide +kernel) rfl)) dX12_eRead_47 ?_
          refine lv_aload_n hx hb dX12_eRead_49 rfl (lv_at hl 0 rfl) ?_
          refine m_g43 hc hw dX12_eRead_50 ?_
          refine lv_iadd hx hb dX12_eRead_53 ?_
          refine lv_goto (tgt := 61) hx hb dX12_eRead_54 (by decide) ?_
          have ev16 : v16 = (100000 + (S4.1 43 0)) := by rw [hv16]; simp only [if_pos cn28]
          exact kJ27 _ ev16 _ _ _ hw (lv_sub hl [0, 1] rfl)
      refine lv_icmp_eq (tgt := 38) hx hb dX12_eRead_27 (by decide) (fun cn31 => ?_) (fun cn31 => ?_)
      · have hX29 := (if_pos cn31).symm.trans hX29
        exact kJ30 (Option.some.inj hX29).symm _ _ _ hw (lv_sub hl [0, 2] rfl)
      · have hX29 := (if_neg cn31).symm.trans hX29
        refine lv_aload_n hx hb dX12_eRead_30 rfl (lv_at hl 0 rfl) ?_
        refine m_g42 hc hw dX12_eRead_31 ?_
        refine lv_iconst (v := 2) hx hb dX12_eRead_34 (by decide) ?_
        refine lv_icmp_ne (tgt := 75) hx hb dX12_eRead_35 (by decide) (fun cn32 => ?_) (fun cn32 => ?_)
        · have hX29 := (if_neg cn32).symm.trans hX29
          refine lv_aload_n hx hb dX12_eRead_75 rfl (lv_at hl 0 rfl) ?_
          refine m_g42 hc hw dX12_eRead_76 ?_
          refine lv_bipush (v := 6) hx hb dX12_eRead_79 (by decide) ?_
          obtain ⟨Y, hX37, hX29⟩ := bm0_some hX29
          have kJ38 : Y = .inr () → ∀ (H : Heap) (locs : List Loc) (ls : Array Slot), mI g A H0 s S4 H locs → lv_has ls 4 [(0, .ref (mr g 0)), (1, .int v1)] → W p l e R s m args below meth c H locs 0 0 Q (F0 m 99 ls []) := by
            intro  hY H locs ls hw hl
            subst hY
            have hX29 := bc0_r hX29
            refine lv_aload_n hx hb dX12_eRead_99 rfl (lv_at hl 0 rfl) ?_
            refine m_g42 hc hw dX12_eRead_100 ?_
            refine lv_bipush (v := 45) hx hb dX12_eRead_103 (by decide) ?_
            refine lv_icmp_ne (tgt := 124) hx hb dX12_eRead_105 (by decide) (fun cn33 => ?_) (fun cn33 => ?_)
            · have hX29 := (if_neg cn33).symm.trans hX29
              refine lv_aload_n hx hb dX12_eRead_124 rfl (lv_at hl 0 rfl) ?_
              refine m_g42 hc hw dX12_eRead_125 ?_
              refine lv_bipush (v := 40) hx hb dX12_eRead_128 (by decide) ?_
              refine lv_icmp_ne (tgt := 148) hx hb dX12_eRead_130 (by decide) (fun cn34 => ?_) (fun cn34 => ?_)
              · have hX29 := (if_neg cn34).symm.trans hX29
                refine lv_iconst (v := 0) hx hb dX12_eRead_148 (by decide) ?_
                obtain rfl := Option.some.inj hX29
                have hf := bc0_l hf
                obtain rfl := Option.some.inj hf
                exact kr _ _  rfl _ _ _ _ dX12_eRead_149 hw
              · have hX29 := (if_pos cn34).symm.trans hX29
                refine lv_aload_n hx hb dX12_eRead_133 rfl (lv_at hl 0 rfl) ?_
                refine lv_iconst (v := 0) hx hb dX12_eRead_134 (by decide) ?_
                obtain ⟨v12, S13, hcall, hX29⟩ := bd2_some hX29
                refine m_cvi (As := [.int 0]) (rest := []) hc hw hR (hml.trans hl.1.symm) (cm_opensOne l N S4 0 v12 S13 hcall) mq_opensOne rfl (by decide) rfl rfl rfl (Nat.le_of_ble_eq_true rfl) dX12_eRead_135 (fun H locs hw => ?_) ⟨Nat.zero_le _, Nat.zero_le _⟩
                refine lv_if_neb (tgt := 143) hx hb dX12_eRead_138 (by decide) (fun cn35 => ?_) (fun cn35 => ?_)
                · have hX29 := (if_pos cn35).symm.trans hX29
                  refine lv_iconst (v := 1) hx hb dX12_eRead_143 (by decide) ?_
                  refine lv_istore_n (lv' := [(2, .int 1), (0, .ref (mr g 0)), (1, .int v1)]) hx hb dX12_eRead_144 rfl hl (by decide) rfl (fun ls hl => ?_)
                  refine lv_goto (tgt := 14) hx hb dX12_eRead_145 (by decide) ?_
                  obtain rfl := Option.some.inj hX29
                  have hf := bc0_l hf
                  exact ih _ _ _ X _ _ _ hf hw (lv_sub hl [1, 2, 0] rfl) kr
                · have hX29 := (if_neg cn35).symm.trans hX29
                  refine lv_iconst (v := 0) hx hb dX12_eRead_141 (by decide) ?_
                  obtain rfl := Option.some.inj hX29
                  have hf := bc0_l hf
                  obtain rfl := Option.some.inj hf
                  exact kr _ _  rfl _ _ _ _ dX12_eRead_142 hw
            · have hX29 := (if_pos cn33).symm.trans hX29
              refine lv_aload_n hx hb dX12_eRead_108 rfl (lv_at hl 0 rfl) ?_
              refine lv_bipush (v := 19) hx hb dX12_eRead_109 (by decide) ?_
              obtain ⟨v14, S15, hcall, hX29⟩ := bd2_some hX29
              refine m_cvi (As := [.int 19]) (rest := []) hc hw hR (hml.trans hl.1.symm) (cm_opensOne l N S4 19 v14 S15 hcall) mq_opensOne rfl (by decide) rfl rfl rfl (Nat.le_of_ble_eq_true rfl) dX12_eRead_111 (fun H locs hw => ?_) ⟨Nat.zero_le _, Nat.zero_le _⟩
              refine lv_if_neb (tgt := 119) hx hb dX12_eRead_114 (by decide) (fun cn36 => ?_) (fun cn36 => ?_)
              · have hX29 := (if_pos cn36).symm.trans hX29
                refine lv_iconst (v := 0) hx hb dX12_eRead_119 (by decide) ?_
                refine lv_istore_n (lv' := [(2, .int 0), (0, .ref (mr g 0)), (1, .int v1)]) hx hb dX12_eRead_120 rfl hl (by decide) rfl (fun ls hl => ?_)
                refine lv_goto (tgt := 14) hx hb dX12_eRead_121 (by decide) ?_
                obtain rfl := Option.some.inj hX29
                have hf := bc0_l hf
                exact ih _ _ _ X _ _ _ hf hw (lv_sub hl [1, 2, 0] rfl) kr
              · have hX29 := (if_neg cn36).symm.trans hX29
                refine lv_iconst (v := 0) hx hb dX12_eRead_117 (by decide) ?_
                obtain rfl := Option.some.inj hX29
                have hf := bc0_l hf
                obtain rfl := Option.some.inj hf
                exact kr _ _  rfl _ _ _ _ dX12_eRead_118 hw
          refine lv_icmp_ne (tgt := 99) hx hb dX12_eRead_81 (by decide) (fun cn39 => ?_) (fun cn39 => ?_)
          · have hX37 := (if_neg cn39).symm.trans hX37
            exact kJ38 (Option.some.inj hX37).symm _ _ _ hw (lv_sub hl [0, 1] rfl)
          · have hX37 := (if_pos cn39).symm.trans hX37
            refine lv_iload_n hx hb dX12_eRead_84 rfl (lv_at hl 2 rfl) ?_
            refine lv_if_eq (tgt := 99) hx hb dX12_eRead_85 (by decide) (fun cn40 => ?_) (fun cn40 => ?_)
            · have hX37 := (if_pos cn40).symm.trans hX37
              exact kJ38 (Option.some.inj hX37).symm _ _ _ hw (lv_sub hl [0, 1] rfl)
            · have hX37 := (if_neg cn40).symm.trans hX37
              refine lv_aload_n hx hb dX12_eRead_88 rfl (lv_at hl 0 rfl) ?_
              refine lv_bipush (v := 13) hx hb dX12_eRead_89 (by decide) ?_
              obtain ⟨v10, S11, hcall, hX37⟩ := bd2_some hX37
              refine m_cvi (As := [.int 13]) (rest := []) hc hw hR (hml.trans hl.1.symm) (cm_opensOne l N S4 13 v10 S11 hcall) mq_opensOne rfl (by decide) rfl rfl rfl (Nat.le_of_ble_eq_true rfl) dX12_eRead_91 (fun H locs hw => ?_) ⟨Nat.zero_le _, Nat.zero_le _⟩
              refine lv_if_neb (tgt := 14) hx hb dX12_eRead_94 (by decide) (fun cn41 => ?_) (fun cn41 => ?_)
              · have hX37 := (if_pos cn41).symm.trans hX37
                obtain rfl := Option.some.inj hX37
                have hX29 := bc0_l hX29
                obtain rfl := Option.some.inj hX29
                have hf := bc0_l hf
                exact ih _ _ _ X _ _ _ hf hw (lv_sub hl [0, 1, 2] rfl) kr
              · have hX37 := (if_neg cn41).symm.trans hX37
                refine lv_iconst (v := 0) hx hb dX12_eRead_97 (by decide) ?_
                obtain rfl := Option.some.inj hX37
                have hX29 := bc0_l hX29
                obtain rfl := Option.some.inj hX29
                have hf := bc0_l hf
                obtain rfl := Option.some.inj hf
                exact kr _ _  rfl _ _ _ _ dX12_eRead_98 hw
        · have hX29 := (if_pos cn32).symm.trans hX29
          exact kJ30 (Option.some.inj hX29).symm _ _ _ hw (lv_sub hl [0, 2] rfl)
def mf_eRead (N : Nat) (S : mS) : Option (Bool × mS) := (br0 (mf_eRead_L14 N N (ms (ms S 46 0 0) 47 0 0) 1 1) (Option.some) fun _ => none)
set_option maxRecDepth 100000 in
theorem cm_eRead (l : Launch) (N : Nat) (S : mS) (res : Bool) (S1 : mS) (hf : mf_eRead N S = some (res, S1)) : mMi l yX12_eRead cX12_eRead 4 .boolean 4 (fun g => [.ref (mr g 0)]) S (bi res) S1 := by
  refine mMi_of (own := RX12) (by decide) rfl (narrow_bi _) (fun g => Nat.le_of_ble_eq_true rfl) ?_
  intro p e R s m args below meth c Q g A H0 H locs ls hc hR hml hw hl hQ
  have hl : lv_has ls 4 [(0, .ref (mr g 0))] := hl
  have hx := hc.1
  have hb := hc.2.1
  unfold mf_eRead at hf
  refine lv_aload_n hx hb dX12_eRead_0 rfl (lv_at hl 0 rfl) ?_
  refine lv_iconst (v := 0) hx hb dX12_eRead_1 (by decide) ?_
  refine m_p46 hc hw dX12_eRead_2 (fun H locs hw => ?_)
  refine lv_aload_n hx hb dX12_eRead_5 rfl (lv_at hl 0 rfl) ?_
  refine lv_iconst (v := 0) hx hb dX12_eRead_6 (by decide) ?_
  refine m_p47 hc hw dX12_eRead_7 (fun H locs hw => ?_)
  refine lv_iconst (v := 1) hx hb dX12_eRead_10 (by decide) ?_
  refine lv_istore_n (lv' := [(1, .int 1), (0, .ref (mr g 0))]) hx hb dX12_eRead_11 rfl hl (by decide) rfl (fun ls hl => ?_)
  refine lv_iconst (v := 1) hx hb dX12_eRead_12 (by decide) ?_
  refine lv_istore_n (lv' := [(2, .int 1), (1, .int 1), (0, .ref (mr g 0))]) hx hb dX12_eRead_13 rfl hl (by decide) rfl (fun ls hl => ?_)
  rcases br0_some hf with ⟨q, hL, hf⟩ | ⟨hL, hf⟩
  · refine wm_eRead_L14 hc hR hml N N _ _ _ _ _ _ _ hL hw (lv_sub hl [2, 1, 0] rfl) ?_
    obtain rfl := Option.some.inj hf
    intro z0 z1 h; cases h; exact hQ
  · cases hf
theorem mq_eRead : qCv RX12 263 yX12_eRead cX12_eRead 4 (some .boolean) 0 := ⟨⟨(mem_g 1417 (by decide +kernel) rfl), (mem_g 1419 (by decide +kernel) rfl), (mem_g 45 (by decide +kernel) rfl), (mem_g 89 (by decide +kernel) rfl), (mem_g 1420 (by decide +kernel) rfl)⟩, by decide, by decide +kernel, by decide⟩
def mf_isAsHigh (N : Nat) (S : mS) (a1 : Int32) (a2 : Int32) (a3 : Int32) (a4 : Int32) (a5 : Int32) : Option (Bool) := (bd1 (mf_farOf N S a1) fun v1 => (if ok a3 6 then (bd1 (mf_eyesOf N S a1 a2) fun v3 => (if (a4 * v1) < (((S.1 12 a3.toNatClampNeg) * v1) + ((v3 - (S.1 12 a3.toNatClampNeg)) * a5)) then some false else some true)) else none))
set_option maxRecDepth 100000 in
theorem cm_isAsHigh (l : Launch) (N : Nat) (S : mS) (a1 : Int32) (a2 : Int32) (a3 : Int32) (a4 : Int32) (a5 : Int32) (res : Bool) (hf : mf_isAsHigh N S a1 a2 a3 a4 a5 = some res) : mMi l yX12_isAsHigh cX12_isAsHigh 7 .boolean 4 (fun g => [.ref (mr g 0), .int a1, .int a2, .int a3, .int a4, .int a5]) S (bi res) S := by
  refine mMi_of (own := RX12) (by decide) rfl (narrow_bi _) (fun g => Nat.le_of_ble_eq_true rfl) ?_
  intro p e R s m args below meth c Q g A H0 H locs ls hc hR hml hw hl hQ
  have hl : lv_has ls 7 [(0, .ref (mr g 0)), (1, .int a1), (2, .int a2), (3, .int a3), (4, .int a4), (5, .int a5)] := hl
  have hx := hc.1
  have hb := hc.2.1
  unfold mf_isAsHigh at hf
  refine lv_aload_n hx hb dX12_isAsHigh_0 rfl (lv_at hl 0 rfl) ?_
  refine lv_iload_n hx hb dX12_isAsHigh_1 rfl (lv_at hl 1 rfl) ?_
  obtain ⟨v1, hcall, hf⟩ := bd1_some hf
  refine m_cvi (As := [.int a1]) (rest := []) hc hw hR (hml.trans hl.1.symm) (cm_farOf l N S a1 v1 hcall) mq_farOf rfl (by decide) rfl rfl rfl (Nat.le_of_ble_eq_true rfl) dX12_isAsHigh_2 (fun H locs hw => ?_) ⟨Nat.zero_le _, Nat.zero_le _⟩
  refine lv_istore (lv' := [(6, .int v1), (0, .ref (mr g 0)), (1, .int a1), (2, .int a2), (3, .int a3), (4, .int a4), (5, .int a5)]) hx hb dX12_isAsHigh_5 hl (by decide) rfl (fun ls hl => ?_)
  refine lv_iload hx hb dX12_isAsHigh_7 (lv_at hl 5 rfl) ?_
  refine lv_iload hx hb dX12_isAsHigh_9 (lv_at hl 0 rfl) ?_
  refine lv_imul hx hb dX12_isAsHigh_11 ?_
  refine lv_aload_n hx hb dX12_isAsHigh_12 rfl (lv_at hl 1 rfl) ?_
  refine m_g12 hc hw dX12_isAsHigh_13 ?_
  refine lv_iload_n hx hb dX12_isAsHigh_16 rfl (lv_at hl 4 rfl) ?_
  obtain ⟨hi2, hf⟩ := gd_some hf
  refine m_l12 hc hw (ok_in hi2) dX12_isAsHigh_17 ?_
  refine lv_iload hx hb dX12_isAsHigh_18 (lv_at hl 0 rfl) ?_
  refine lv_imul hx hb dX12_isAsHigh_20 ?_
  refine lv_aload_n hx hb dX12_isAsHigh_21 rfl (lv_at hl 1 rfl) ?_
  refine lv_iload_n hx hb dX12_isAsHigh_22 rfl (lv_at hl 2 rfl) ?_
  refine lv_iload_n hx hb dX12_isAsHigh_23 rfl (lv_at hl 3 rfl) ?_
  obtain ⟨v3, hcall, hf⟩ := bd1_some hf
  refine m_cvi (As := [.int a1, .int a2]) (rest := [.int ((S.1 12 a3.toNatClampNeg) * v1), .int (a4 * v1)]) hc hw hR (hml.trans hl.1.symm) (cm_eyesOf l N S a1 a2 v3 hcall) mq_eyesOf rfl (by decide) rfl rfl rfl (Nat.le_of_ble_eq_true rfl) dX12_isAsHigh_24 (fun H locs hw => ?_) ⟨Nat.zero_le _, Nat.zero_le _⟩
  refine lv_aload_n hx hb dX12_isAsHigh_27 rfl (lv_at hl 1 rfl) ?_
  refine m_g12 hc hw dX12_isAsHigh_28 ?_
  refine lv_iload_n hx hb dX12_isAsHigh_31 rfl (lv_at hl 4 rfl) ?_
  refine m_l12 hc hw (ok_in hi2) dX12_isAsHigh_32 ?_
  refine lv_isub hx hb dX12_isAsHigh_33 ?_
  refine lv_iload hx hb dX12_isAsHigh_34 (lv_at hl 6 rfl) ?_
  refine lv_imul hx hb dX12_isAsHigh_36 ?_
  refine lv_iadd hx hb dX12_isAsHigh_37 ?_
  refine lv_icmp_lt (tgt := 45) hx hb dX12_isAsHigh_38 (by decide) (fun cn4 => ?_) (fun cn4 => ?_)
  · have hf := (if_pos cn4).symm.trans hf
    refine lv_iconst (v := 0) hx hb dX12_isAsHigh_45 (by decide) ?_
    obtain rfl := Option.some.inj hf
    exact hQ _ _ _ _ dX12_isAsHigh_46 hw
  · have hf := (if_neg cn4).symm.trans hf
    refine lv_iconst (v := 1) hx hb dX12_isAsHigh_41 (by decide) ?_
    refine lv_goto (tgt := 46) hx hb dX12_isAsHigh_42 (by decide) ?_
    obtain rfl := Option.some.inj hf
    exact hQ _ _ _ _ dX12_isAsHigh_46 hw
theorem mq_isAsHigh : qCv RX12 279 yX12_isAsHigh cX12_isAsHigh 7 (some .boolean) 5 := ⟨⟨(mem_g 1469 (by decide +kernel) rfl), (mem_g 1471 (by decide +kernel) rfl), (mem_g 55 (by decide +kernel) rfl), (mem_g 89 (by decide +kernel) rfl), (mem_g 1472 (by decide +kernel) rfl)⟩, by decide, by decide +kernel, by decide⟩
def mf_text_L26 (N : Nat) : Nat → mS → Int32 → Int32 → Option (Int32 × mS)
  | 0, _, _, _ => none
  | n + 1, S3, v1, v2 => (if 3 ≤ v2 then some (v1, S3) else (if v1 = 0 then some (v1, S3) else (bd1 (mf_next N S3) fun S4 => (if ok ((4 * (S4.1 21 0)) + v2) 24 then (if ((if (S4.1 42 0) = 3 then (if (S4.1 43 0) = v2 then 1 else 0) else 0) : Int32) = 0 then mf_text_L26 N n (ms S4 20 ((4 * (S4.1 21 0)) + v2).toNatClampNeg (S4.1 48 0)) 0 (v2 + 1) else (bd2 (mf_eRead N (ms S4 20 ((4 * (S4.1 21 0)) + v2).toNatClampNeg (S4.1 48 0))) fun v7 S8 => (if v7 = true then mf_text_L26 N n S8 1 (v2 + 1) else mf_text_L26 N n S8 0 (v2 + 1)))) else none))))
set_option maxRecDepth 100000 in
theorem wm_text_L26 {p : Program} {l : Launch} {e : Env} {R : Room} {s : State} {m : MethodId} {args : Array Value} {below : List Frame} {meth : Method} {c : Code} {Q : State → Prop} {g : mG} {A : Nat → Prop} {H0 : Heap} (hc : qC RX12 cX12_text p s m args c) (hR : qRoom R 5) (hml : c.maxLocals = 3) (N : Nat) : ∀ (n : Nat) (S3 : mS) (v1 : Int32) (v2 : Int32) (X : Int32 × mS) (H : Heap) (locs : List Loc) (ls : Array Slot), mf_text_L26 N n S3 v1 v2 = some X → mI g A H0 s S3 H locs → lv_has ls 3 [(0, .ref (mr g 0)), (1, .int v1), (2, .int v2)] → (∀ (H : Heap) (locs : List Loc) (ls : Array Slot), mI g A H0 s X.2 H locs → lv_has ls 3 [(0, .ref (mr g 0)), (1, .int X.1)] → W p l e R s m args below meth c H locs 0 0 Q (F0 m 101 ls [])) → W p l e R s m args below meth c H locs 0 0 Q (F0 m 26 ls []) := by
  have hx := hc.1
  have hb := hc.2.1
  intro n
  induction n with
  | zero => intro _ _ _ X H locs ls hf; exact nomatch (show none = some X from hf)
  | succ n ih =>
    intro S3 v1 v2 X H locs ls hf hw hl kx
    rw [mf_text_L26] at hf
    refine lv_iload_n hx hb dX12_text_26 rfl (lv_at hl 2 rfl) ?_
    refine lv_iconst (v := 3) hx hb dX12_text_27 (by decide) ?_
    refine lv_icmp_ge (tgt := 101) hx hb dX12_text_28 (by decide) (fun cn16 => ?_) (fun cn16 => ?_)
    · have hf := (if_pos cn16).symm.trans hf
      obtain rfl := Option.some.inj hf
      exact kx _ _ _ hw (lv_sub hl [0, 1] rfl)
    · have hf := (if_neg cn16).symm.trans hf
      refine lv_iload_n hx hb dX12_text_31 rfl (lv_at hl 1 rfl) ?_
      refine lv_if_eq (tgt := 101) hx hb dX12_text_32 (by decide) (fun cn17 => ?_) (fun cn17 => ?_)
      · have hf := (if_pos cn17).symm.trans hf
        obtain rfl := Option.some.inj hf
        exact kx _ _ _ hw (lv_sub hl [0, 1] rfl)
      · have hf := (if_neg cn17).symm.trans hf
        refine lv_aload_n hx hb dX12_text_35 rfl (lv_at hl 0 rfl) ?_
        obtain ⟨S4, hcall, hf⟩ := bd1_some hf
        refine m_cvv (As := []) (rest := []) hc hw hR (hml.trans hl.1.symm) (cm_next l N S3 S4 hcall) mq_next rfl (by decide) rfl rfl rfl (Nat.le_of_ble_eq_true rfl) dX12_text_36 (fun H locs hw => ?_) ⟨Nat.zero_le _, Nat.zero_le _⟩
        refine lv_aload_n hx hb dX12_text_39 rfl (lv_at hl 0 rfl) ?_
        refine m_g42 hc hw dX12_text_40 ?_
        refine lv_iconst (v := 3) hx hb dX12_text_43 (by decide) ?_
        obtain ⟨v5, hv5⟩ : ∃ y : Int32, y = (if (S4.1 42 0) = 3 then (if (S4.1 43 0) = v2 then 1 else 0) else 0) := ⟨_, rfl⟩
        try rw [← hv5] at hf
        have kJ20 : ∀ v5x : Int32, v5 = v5x → ∀ (H : Heap) (locs : List Loc) (ls : Array Slot), mI g A H0 s S4 H locs → lv_has ls 3 [(0, .ref (mr g 0)), (2, .int v2)] → W p l e R s m args below meth c H locs 0 0 Q (F0 m 60 ls [.int v5x]) := by
          intro v5x hxv5 H locs ls hw hl
          subst hxv5
          refine lv_istore_n (lv' := [(1, .int v5), (0, .ref (mr g 0)), (2, .int v2)]) hx hb dX12_text_60 rfl hl (by decide) rfl (fun ls hl => ?_)
          refine lv_aload_n hx hb dX12_text_61 rfl (lv_at hl 1 rfl) ?_
          refine m_g20 hc hw dX12_text_62 ?_
          refine lv_iconst (v := 4) hx hb dX12_text_65 (by decide) ?_
          refine lv_aload_n hx hb dX12_text_66 rfl (lv_at hl 1 rfl) ?_
          refine m_g21 hc hw dX12_text_67 ?_
          refine lv_imul hx hb dX12_text_70 ?_
          refine lv_iload_n hx hb dX12_text_71 rfl (lv_at hl 2 rfl) ?_
          refine lv_iadd hx hb dX12_text_72 ?_
          refine lv_aload_n hx hb dX12_text_73 rfl (lv_at hl 1 rfl) ?_
          refine m_g48 hc hw dX12_text_74 ?_
          obtain ⟨hi6, hf⟩ := gd_some hf
          refine m_s20 hc hw (ok_in hi6) dX12_text_77 (fun H locs hw => ?_)
          refine lv_iload_n hx hb dX12_text_78 rfl (lv_at hl 0 rfl) ?_
          refine lv_if_eq (tgt := 93) hx hb dX12_text_79 (by decide) (fun cn18 => ?_) (fun cn18 => ?_)
          · have hf := (if_pos cn18).symm.trans hf
            refine lv_iconst (v := 0) hx hb dX12_text_93 (by decide) ?_
            refine lv_istore_n (lv' := [(1, .int 0), (0, .ref (mr g 0)), (2, .int v2)]) hx hb dX12_text_94 rfl hl (by decide) rfl (fun ls hl => ?_)
            refine lv_iinc (lv' := [(2, .int (v2 + 1)), (1, .int 0), (0, .ref (mr g 0))]) hx hb dX12_text_95 hl (k := 2) rfl rfl (by decide) rfl (fun ls hl => ?_)
            refine lv_goto (tgt := 26) hx hb dX12_text_98 (by decide) ?_
            exact ih _ _ _ X _ _ _ hf hw (lv_sub hl [2, 1, 0] rfl) kx
          · have hf := (if_neg cn18).symm.trans hf
            refine lv_aload_n hx hb dX12_text_82 rfl (lv_at hl 1 rfl) ?_
            obtain ⟨v7, S8, hcall, hf⟩ := bd2_some hf
            refine m_cvi (As := []) (rest := []) hc hw hR (hml.trans hl.1.symm) (cm_eRead l N (ms S4 20 ((4 * (S4.1 21 0)) + v2).toNatClampNeg (S4.1 48 0)) v7 S8 hcall) mq_eRead rfl (by decide) rfl rfl rfl (Nat.le_of_ble_eq_true rfl) dX12_text_83 (fun H locs hw => ?_) ⟨Nat.zero_le _, Nat.zero_le _⟩
            refine lv_if_eqb (tgt := 93) hx hb dX12_text_86 (by decide) (fun cn19 => ?_) (fun cn19 => ?_)
            · have hf := (if_neg cn19).symm.trans hf
              refine lv_iconst (v := 0) hx hb dX12_text_93 (by decide) ?_
              refine lv_istore_n (lv' := [(1, .int 0), (0, .ref (mr g 0)), (2, .int v2)]) hx hb dX12_text_94 rfl hl (by decide) rfl (fun ls hl => ?_)
              refine lv_iinc (lv' := [(2, .int (v2 + 1)), (1, .int 0), (0, .ref (mr g 0))]) hx hb dX12_text_95 hl (k := 2) rfl rfl (by decide) rfl (fun ls hl => ?_)
              refine lv_goto (tgt := 26) hx hb dX12_text_98 (by decide) ?_
              exact ih _ _ _ X _ _ _ hf hw (lv_sub hl [2, 1, 0] rfl) kx
            · have hf := (if_pos cn19).symm.trans hf
              refine lv_iconst (v := 1) hx hb dX12_text_89 (by decide) ?_
              refine lv_goto (tgt := 94) hx hb dX12_text_90 (by decide) ?_
              refine lv_istore_n (lv' := [(1, .int 1), (0, .ref (mr g 0)), (2, .int v2)]) hx hb dX12_text_94 rfl hl (by decide) rfl (fun ls hl => ?_)
              refine lv_iinc (lv' := [(2, .int (v2 + 1)), (1, .int 1), (0, .ref (mr g 0))]) hx hb dX12_text_95 hl (k := 2) rfl rfl (by decide) rfl (fun ls hl => ?_)
              refine lv_goto (tgt := 26) hx hb dX12_text_98 (by decide) ?_
              exact ih _ _ _ X _ _ _ hf hw (lv_sub hl [2, 1, 0] rfl) kx
        refine lv_icmp_ne (tgt := 59) hx hb dX12_text_44 (by decide) (fun cn21 => ?_) (fun cn21 => ?_)
        · refine lv_iconst (v := 0) hx hb dX12_text_59 (by decide) ?_
          have ev5 : v5 = (0 : Int32) := by rw [hv5]; simp only [if_neg cn21]
          exact kJ20 _ ev5 _ _ _ hw (lv_sub hl [0, 2] rfl)
        · refine lv_aload_n hx hb dX12_text_47 rfl (lv_at hl 0 rfl) ?_
          refine m_g43 hc hw dX12_text_48 ?_
          refine lv_iload_n hx hb dX12_text_51 rfl (lv_at hl 2 rfl) ?_
          refine lv_icmp_ne (tgt := 59) hx hb dX12_text_52 (by decide) (fun cn22 => ?_) (fun cn22 => ?_)
          · refine lv_iconst (v := 0) hx hb dX12_text_59 (by decide) ?_
            have ev5 : v5 = (0 : Int32) := by rw [hv5]; simp only [if_pos cn21, if_neg cn22]
            exact kJ20 _ ev5 _ _ _ hw (lv_sub hl [0, 2] rfl)
          · refine lv_iconst (v := 1) hx hb dX12_text_55 (by decide) ?_
            refine lv_goto (tgt := 60) hx hb dX12_text_56 (by decide) ?_
            have ev5 : v5 = (1 : Int32) := by rw [hv5]; simp only [if_pos cn21, if_pos cn22]
            exact kJ20 _ ev5 _ _ _ hw (lv_sub hl [0, 2] rfl)
def mf_text (N : Nat) (S : mS) : Option (Int32 × mS) := (if (S.1 21 0) = 6 then some ((-4), S) else (bd2 (mf_text_L26 N N (ms (ms S 40 0 0) 48 0 0) 1 0) fun v9 S10 => (bd2 (if v9 = 0 then some (v9, S10) else (bd1 (mf_next N S10) fun S11 => (if (S11.1 42 0) = 0 then some (1, S11) else some (0, S11)))) fun v12 S13 => (if ok ((4 * (S13.1 21 0)) + 3) 24 then (if v12 = 0 then some ((-100) - ((ms (ms S13 20 ((4 * (S13.1 21 0)) + 3).toNatClampNeg (S13.1 48 0)) 18 0 0).1 41 0), ms (ms S13 20 ((4 * (S13.1 21 0)) + 3).toNatClampNeg (S13.1 48 0)) 18 0 0) else some (((ms (ms (ms S13 20 ((4 * (S13.1 21 0)) + 3).toNatClampNeg (S13.1 48 0)) 18 0 0) 21 0 (((ms (ms S13 20 ((4 * (S13.1 21 0)) + 3).toNatClampNeg (S13.1 48 0)) 18 0 0).1 21 0) + 1)).1 21 0) - 1, ms (ms (ms S13 20 ((4 * (S13.1 21 0)) + 3).toNatClampNeg (S13.1 48 0)) 18 0 0) 21 0 (((ms (ms S13 20 ((4 * (S13.1 21 0)) + 3).toNatClampNeg (S13.1 48 0)) 18 0 0).1 21 0) + 1))) else none))))
set_option maxRecDepth 100000 in
theorem cm_text (l : Launch) (N : Nat) (S : mS) (res : Int32) (S1 : mS) (hf : mf_text N S = some (res, S1)) : mMi l yX12_text cX12_text 3 .int 5 (fun g => [.ref (mr g 0)]) S res S1 := by
  refine mMi_of (own := RX12) (by decide) rfl rfl (fun g => Nat.le_of_ble_eq_true rfl) ?_
  intro p e R s m args below meth c Q g A H0 H locs ls hc hR hml hw hl hQ
  have hl : lv_has ls 3 [(0, .ref (mr g 0))] := hl
  have hx := hc.1
  have hb := hc.2.1
  unfold mf_text at hf
  refine lv_aload_n hx hb dX12_text_0 rfl (lv_at hl 0 rfl) ?_
  refine m_g21 hc hw dX12_text_1 ?_
  refine lv_bipush (v := 6) hx hb dX12_text_4 (by decide) ?_
  refine lv_icmp_ne (tgt := 12) hx hb dX12_text_6 (by decide) (fun cn15 => ?_) (fun cn15 => ?_)
  · have hf := (if_neg cn15).symm.trans hf
    refine lv_aload_n hx hb dX12_text_12 rfl (lv_at hl 0 rfl) ?_
    refine lv_iconst (v := 0) hx hb dX12_text_13 (by decide) ?_
    refine m_p40 hc hw dX12_text_14 (fun H locs hw => ?_)
    refine lv_aload_n hx hb dX12_text_17 rfl (lv_at hl 0 rfl) ?_
    refine lv_iconst (v := 0) hx hb dX12_text_18 (by decide) ?_
    refine m_p48 hc hw dX12_text_19 (fun H locs hw => ?_)
    refine lv_iconst (v := 1) hx hb dX12_text_22 (by decide) ?_
    refine lv_istore_n (lv' := [(1, .int 1), (0, .ref (mr g 0))]) hx hb dX12_text_23 rfl hl (by decide) rfl (fun ls hl => ?_)
    refine lv_iconst (v := 0) hx hb dX12_text_24 (by decide) ?_
    refine lv_istore_n (lv' := [(2, .int 0), (1, .int 1), (0, .ref (mr g 0))]) hx hb dX12_text_25 rfl hl (by decide) rfl (fun ls hl => ?_)
    obtain ⟨v9, S10, hL, hf⟩ := bd2_some hf
    refine wm_text_L26 hc hR hml N N _ _ _ _ _ _ _ hL hw (lv_sub hl [2, 1, 0] rfl) (fun H locs ls hw hl => ?_)
    refine lv_iload_n hx hb dX12_text_101 rfl (lv_at hl 1 rfl) ?_
    obtain ⟨v12, S13, hX26, hf⟩ := bd2_some hf
    have kJ27 : ∀ (H : Heap) (locs : List Loc) (ls : Array Slot), mI g A H0 s S13 H locs → lv_has ls 3 [(0, .ref (mr g 0)), (1, .int v12)] → W p l e R s m args below meth c H locs 0 0 Q (F0 m 122 ls []) := by
      intro H locs ls hw hl
      refine lv_aload_n hx hb dX12_text_122 rfl (lv_at hl 0 rfl) ?_
      refine m_g20 hc hw dX12_text_123 ?_
      refine lv_iconst (v := 4) hx hb dX12_text_126 (by decide) ?_
      refine lv_aload_n hx hb dX12_text_127 rfl (lv_at hl 0 rfl) ?_
      refine m_g21 hc hw dX12_text_128 ?_
      refine lv_imul hx hb dX12_text_131 ?_
      refine lv_iconst (v := 3) hx hb dX12_text_132 (by decide) ?_
      refine lv_iadd hx hb dX12_text_133 ?_
      refine lv_aload_n hx hb dX12_text_134 rfl (lv_at hl 0 rfl) ?_
      refine m_g48 hc hw dX12_text_135 ?_
      obtain ⟨hi14, hf⟩ := gd_some hf
      refine m_s20 hc hw (ok_in hi14) dX12_text_138 (fun H locs hw => ?_)
      refine lv_aload_n hx hb dX12_text_139 rfl (lv_at hl 0 rfl) ?_
      refine lv_iconst (v := 0) hx hb dX12_text_140 (by decide) ?_
      refine m_p18 hc hw dX12_text_141 (fun H locs hw => ?_)
      refine lv_iload_n hx hb dX12_text_144 rfl (lv_at hl 1 rfl) ?_
      refine lv_if_ne (tgt := 156) hx hb dX12_text_145 (by decide) (fun cn25 => ?_) (fun cn25 => ?_)
      · have hf := (if_neg cn25).symm.trans hf
        refine lv_aload_n hx hb dX12_text_156 rfl (lv_at hl 0 rfl) ?_
        refine lv_dup hx hb dX12_text_157 rfl ?_
        refine m_g21 hc hw dX12_text_158 ?_
        refine lv_iconst (v := 1) hx hb dX12_text_161 (by decide) ?_
        refine lv_iadd hx hb dX12_text_162 ?_
        refine m_p21 hc hw dX12_text_163 (fun H locs hw => ?_)
        refine lv_aload_n hx hb dX12_text_166 rfl (lv_at hl 0 rfl) ?_
        refine m_g21 hc hw dX12_text_167 ?_
        refine lv_iconst (v := 1) hx hb dX12_text_170 (by decide) ?_
        refine lv_isub hx hb dX12_text_171 ?_
        obtain ⟨rfl, rfl⟩ := pr2_some hf
        exact hQ _ _ _ _ dX12_text_172 hw
      · have hf := (if_pos cn25).symm.trans hf
        refine lv_bipush (v := (-100)) hx hb dX12_text_148 (by decide) ?_
        refine lv_aload_n hx hb dX12_text_150 rfl (lv_at hl 0 rfl) ?_
        refine m_g41 hc hw dX12_text_151 ?_
        refine lv_isub hx hb dX12_text_154 ?_
        obtain ⟨rfl, rfl⟩ := pr2_some hf
        exact hQ _ _ _ _ dX12_text_155 hw
    refine lv_if_eq (tgt := 122) hx hb dX12_text_102 (by decide) (fun cn28 => ?_) (fun cn28 => ?_)
    · have hX26 := (if_pos cn28).symm.trans hX26
      obtain ⟨rfl, rfl⟩ := pr2_some hX26
      exact kJ27 _ _ _ hw (lv_sub hl [0, 1] rfl)
    · have hX26 := (if_neg cn28).symm.trans hX26
      refine lv_aload_n hx hb dX12_text_105 rfl (lv_at hl 0 rfl) ?_
      obtain ⟨S11, hcall, hX26⟩ := bd1_some hX26
      refine m_cvv (As := []) (rest := []) hc hw hR (hml.trans hl.1.symm) (cm_next l N S10 S11 hcall) mq_next rfl (by decide) rfl rfl rfl (Nat.le_of_ble_eq_true rfl) dX12_text_106 (fun H locs hw => ?_) ⟨Nat.zero_le _, Nat.zero_le _⟩
      refine lv_aload_n hx hb dX12_text_109 rfl (lv_at hl 0 rfl) ?_
      refine m_g42 hc hw dX12_text_110 ?_
      refine lv_if_ne (tgt := 120) hx hb dX12_text_113 (by decide) (fun cn29 => ?_) (fun cn29 => ?_)
      · have hX26 := (if_neg cn29).symm.trans hX26
        refine lv_iconst (v := 0) hx hb dX12_text_120 (by decide) ?_
        refine lv_istore_n (lv' := [(1, .int 0), (0, .ref (mr g 0))]) hx hb dX12_text_121 rfl hl (by decide) rfl (fun ls hl => ?_)
        obtain ⟨rfl, rfl⟩ := pr2_some hX26
        exact kJ27 _ _ _ hw (lv_sub hl [1, 0] rfl)
      · have hX26 := (if_pos cn29).symm.trans hX26
        refine lv_iconst (v := 1) hx hb dX12_text_116 (by decide) ?_
        refine lv_goto (tgt := 121) hx hb dX12_text_117 (by decide) ?_
        refine lv_istore_n (lv' := [(1, .int 1), (0, .ref (mr g 0))]) hx hb dX12_text_121 rfl hl (by decide) rfl (fun ls hl => ?_)
        obtain ⟨rfl, rfl⟩ := pr2_some hX26
        exact kJ27 _ _ _ hw (lv_sub hl [1, 0] rfl)
  · have hf := (if_pos cn15).symm.trans hf
    refine lv_bipush (v := (-4)) hx hb dX12_text_9 (by decide) ?_
    obtain ⟨rfl, rfl⟩ := pr2_some hf
    exact hQ _ _ _ _ dX12_text_11 hw
def mf_hiderOf_L12 (N : Nat) (c6 : Int32) (c7 : Int32) (c8 : Int32) (c9 : Int32) : Nat → mS → Int32 → Option ((Int32) ⊕ (Unit))
  | 0, _, _ => none
  | n + 1, S11, v10 => (if ok c9 6 then (if (S11.1 5 c9.toNatClampNeg) ≤ v10 then some (.inr ()) else (bd1 (mf_isNear N S11 c6 c7 c8 c9 v10) fun v13 => (if v13 = true then (bd1 (mf_topOf N S11 c9 v10) fun v14 => (bd1 (mf_farOf N S11 c9) fun v15 => (bd1 (mf_isAsHigh N S11 c6 c7 c8 v14 v15) fun v16 => (if v16 = true then some (.inl ((10 * c9) + v10)) else mf_hiderOf_L12 N c6 c7 c8 c9 n S11 (v10 + 1))))) else mf_hiderOf_L12 N c6 c7 c8 c9 n S11 (v10 + 1)))) else none)
set_option maxRecDepth 100000 in
theorem wm_hiderOf_L12 {p : Program} {l : Launch} {e : Env} {R : Room} {s : State} {m : MethodId} {args : Array Value} {below : List Frame} {meth : Method} {c : Code} {Q : State → Prop} {g : mG} {A : Nat → Prop} {H0 : Heap} (hc : qC RX12 cX12_hiderOf p s m args c) (hR : qRoom R 5) (hml : c.maxLocals = 6) (N : Nat) (c6 : Int32) (c7 : Int32) (c8 : Int32) (c9 : Int32) : ∀ (n : Nat) (S11 : mS) (v10 : Int32) (X : (Int32) ⊕ (Unit)) (H : Heap) (locs : List Loc) (ls : Array Slot), mf_hiderOf_L12 N c6 c7 c8 c9 n S11 v10 = some X → mI g A H0 s S11 H locs → lv_has ls 6 [(0, .ref (mr g 0)), (1, .int c6), (2, .int c7), (3, .int c8), (4, .int c9), (5, .int v10)] → (∀ (_ : Unit), X = .inr () → ∀ (H : Heap) (locs : List Loc) (ls : Array Slot), mI g A H0 s S11 H locs → lv_has ls 6 [(0, .ref (mr g 0)), (1, .int c6), (2, .int c7), (3, .int c8), (4, .int c9)] → W p l e R s m args below meth c H locs 0 0 Q (F0 m 77 ls [])) → (∀ (r : Int32), X = .inl r → mQi p l e R s m args below meth c cX12_hiderOf Q g A H0 r S11) → W p l e R s m args below meth c H locs 0 0 Q (F0 m 12 ls []) := by
  have hx := hc.1
  have hb := hc.2.1
  intro n
  induction n with
  | zero => intro _ _ X H locs ls hf; exact nomatch (show none = some X from hf)
  | succ n ih =>
    intro S11 v10 X H locs ls hf hw hl kx kr
    rw [mf_hiderOf_L12] at hf
    refine lv_iload hx hb dX12_hiderOf_12 (lv_at hl 5 rfl) ?_
    refine lv_aload_n hx hb dX12_hiderOf_14 rfl (lv_at hl 0 rfl) ?_
    refine m_g5 hc hw dX12_hiderOf_15 ?_
    refine lv_iload hx hb dX12_hiderOf_18 (lv_at hl 4 rfl) ?_
    obtain ⟨hi12, hf⟩ := gd_some hf
    refine m_l5 hc hw (ok_in hi12) dX12_hiderOf_20 ?_
    refine lv_icmp_ge (tgt := 77) hx hb dX12_hiderOf_21 (by decide) (fun cn19 => ?_) (fun cn19 => ?_)
    · have hf := (if_pos cn19).symm.trans hf
      obtain rfl := Option.some.inj hf
      exact kx () rfl _ _ _ hw (lv_sub hl [0, 1, 2, 3, 4] rfl)
    · have hf := (if_neg cn19).symm.trans hf
      refine lv_aload_n hx hb dX12_hiderOf_24 rfl (lv_at hl 0 rfl) ?_
      refine lv_iload_n hx hb dX12_hiderOf_25 rfl (lv_at hl 1 rfl) ?_
      refine lv_iload_n hx hb dX12_hiderOf_26 rfl (lv_at hl 2 rfl) ?_
      refine lv_iload_n hx hb dX12_hiderOf_27 rfl (lv_at hl 3 rfl) ?_
      refine lv_iload hx hb dX12_hiderOf_28 (lv_at hl 4 rfl) ?_
      refine lv_iload hx hb dX12_hiderOf_30 (lv_at hl 5 rfl) ?_
      obtain ⟨v13, hcall, hf⟩ := bd1_some hf
      refine m_cvi (As := [.int c6, .int c7, .int c8, .int c9, .int v10]) (rest := []) hc hw hR (hml.trans hl.1.symm) (cm_isNear l N S11 c6 c7 c8 c9 v10 v13 hcall) mq_isNear rfl (by decide) rfl rfl rfl (Nat.le_of_ble_eq_true rfl) dX12_hiderOf_32 (fun H locs hw => ?_) ⟨Nat.zero_le _, Nat.zero_le _⟩
      refine lv_if_eqb (tgt := 71) hx hb dX12_hiderOf_35 (by decide) (fun cn20 => ?_) (fun cn20 => ?_)
      · have hf := (if_neg cn20).symm.trans hf
        refine lv_iinc (lv' := [(5, .int (v10 + 1)), (0, .ref (mr g 0)), (1, .int c6), (2, .int c7), (3, .int c8), (4, .int c9)]) hx hb dX12_hiderOf_71 hl (k := 5) rfl rfl (by decide) rfl (fun ls hl => ?_)
        refine lv_goto (tgt := 12) hx hb dX12_hiderOf_74 (by decide) ?_
        exact ih _ _ X _ _ _ hf hw (lv_sub hl [1, 2, 3, 4, 5, 0] rfl) kx kr
      · have hf := (if_pos cn20).symm.trans hf
        refine lv_aload_n hx hb dX12_hiderOf_38 rfl (lv_at hl 0 rfl) ?_
        refine lv_iload_n hx hb dX12_hiderOf_39 rfl (lv_at hl 1 rfl) ?_
        refine lv_iload_n hx hb dX12_hiderOf_40 rfl (lv_at hl 2 rfl) ?_
        refine lv_iload_n hx hb dX12_hiderOf_41 rfl (lv_at hl 3 rfl) ?_
        refine lv_aload_n hx hb dX12_hiderOf_42 rfl (lv_at hl 0 rfl) ?_
        refine lv_iload hx hb dX12_hiderOf_43 (lv_at hl 4 rfl) ?_
        refine lv_iload hx hb dX12_hiderOf_45 (lv_at hl 5 rfl) ?_
        obtain ⟨v14, hcall, hf⟩ := bd1_some hf
        refine m_cvi (As := [.int c9, .int v10]) (rest := [.int c8, .int c7, .int c6, .ref (mr g 0)]) hc hw hR (hml.trans hl.1.symm) (cm_topOf l N S11 c9 v10 v14 hcall) mq_topOf rfl (by decide) rfl rfl rfl (Nat.le_of_ble_eq_true rfl) dX12_hiderOf_47 (fun H locs hw => ?_) ⟨Nat.zero_le _, Nat.zero_le _⟩
        refine lv_aload_n hx hb dX12_hiderOf_50 rfl (lv_at hl 0 rfl) ?_
        refine lv_iload hx hb dX12_hiderOf_51 (lv_at hl 4 rfl) ?_
        obtain ⟨v15, hcall, hf⟩ := bd1_some hf
        refine m_cvi (As := [.int c9]) (rest := [.int v14, .int c8, .int c7, .int c6, .ref (mr g 0)]) hc hw hR (hml.trans hl.1.symm) (cm_farOf l N S11 c9 v15 hcall) mq_farOf rfl (by decide) rfl rfl rfl (Nat.le_of_ble_eq_true rfl) dX12_hiderOf_53 (fun H locs hw => ?_) ⟨Nat.zero_le _, Nat.zero_le _⟩
        obtain ⟨v16, hcall, hf⟩ := bd1_some hf
        refine m_cvi (As := [.int c6, .int c7, .int c8, .int v14, .int v15]) (rest := []) hc hw hR (hml.trans hl.1.symm) (cm_isAsHigh l N S11 c6 c7 c8 v14 v15 v16 hcall) mq_isAsHigh rfl (by decide) rfl rfl rfl (Nat.le_of_ble_eq_true rfl) dX12_hiderOf_56 (fun H locs hw => ?_) ⟨Nat.zero_le _, Nat.zero_le _⟩
        refine lv_if_eqb (tgt := 71) hx hb dX12_hiderOf_59 (by decide) (fun cn21 => ?_) (fun cn21 => ?_)
        · have hf := (if_neg cn21).symm.trans hf
          refine lv_iinc (lv' := [(5, .int (v10 + 1)), (0, .ref (mr g 0)), (1, .int c6), (2, .int c7), (3, .int c8), (4, .int c9)]) hx hb dX12_hiderOf_71 hl (k := 5) rfl rfl (by decide) rfl (fun ls hl => ?_)
          refine lv_goto (tgt := 12) hx hb dX12_hiderOf_74 (by decide) ?_
          exact ih _ _ X _ _ _ hf hw (lv_sub hl [1, 2, 3, 4, 5, 0] rfl) kx kr
        · have hf := (if_pos cn21).symm.trans hf
          refine lv_bipush (v := 10) hx hb dX12_hiderOf_62 (by decide) ?_
          refine lv_iload hx hb dX12_hiderOf_64 (lv_at hl 4 rfl) ?_
          refine lv_imul hx hb dX12_hiderOf_66 ?_
          refine lv_iload hx hb dX12_hiderOf_67 (lv_at hl 5 rfl) ?_
          refine lv_iadd hx hb dX12_hiderOf_69 ?_
          obtain rfl := Option.some.inj hf
          exact kr _  rfl _ _ _ _ dX12_hiderOf_70 hw
def mf_hiderOf_L3 (N : Nat) (c1 : Int32) (c2 : Int32) (c3 : Int32) : Nat → mS → Int32 → Option ((Int32) ⊕ (Unit))
  | 0, _, _ => none
  | n + 1, S5, v4 => (if c1 ≤ v4 then some (.inr ()) else (br0 (mf_hiderOf_L12 N c1 c2 c3 v4 N S5 0) (fun q => Option.some (Sum.inl q)) fun _ => mf_hiderOf_L3 N c1 c2 c3 n S5 (v4 + 1)))
set_option maxRecDepth 100000 in
theorem wm_hiderOf_L3 {p : Program} {l : Launch} {e : Env} {R : Room} {s : State} {m : MethodId} {args : Array Value} {below : List Frame} {meth : Method} {c : Code} {Q : State → Prop} {g : mG} {A : Nat → Prop} {H0 : Heap} (hc : qC RX12 cX12_hiderOf p s m args c) (hR : qRoom R 5) (hml : c.maxLocals = 6) (N : Nat) (c1 : Int32) (c2 : Int32) (c3 : Int32) : ∀ (n : Nat) (S5 : mS) (v4 : Int32) (X : (Int32) ⊕ (Unit)) (H : Heap) (locs : List Loc) (ls : Array Slot), mf_hiderOf_L3 N c1 c2 c3 n S5 v4 = some X → mI g A H0 s S5 H locs → lv_has ls 6 [(0, .ref (mr g 0)), (1, .int c1), (2, .int c2), (3, .int c3), (4, .int v4)] → (∀ (_ : Unit), X = .inr () → ∀ (H : Heap) (locs : List Loc) (ls : Array Slot), mI g A H0 s S5 H locs → lv_has ls 6 [(0, .ref (mr g 0)), (1, .int c1), (2, .int c2), (3, .int c3)] → W p l e R s m args below meth c H locs 0 0 Q (F0 m 83 ls [])) → (∀ (r : Int32), X = .inl r → mQi p l e R s m args below meth c cX12_hiderOf Q g A H0 r S5) → W p l e R s m args below meth c H locs 0 0 Q (F0 m 3 ls []) := by
  have hx := hc.1
  have hb := hc.2.1
  intro n
  induction n with
  | zero => intro _ _ X H locs ls hf; exact nomatch (show none = some X from hf)
  | succ n ih =>
    intro S5 v4 X H locs ls hf hw hl kx kr
    rw [mf_hiderOf_L3] at hf
    refine lv_iload hx hb dX12_hiderOf_3 (lv_at hl 4 rfl) ?_
    refine lv_iload_n hx hb dX12_hiderOf_5 rfl (lv_at hl 1 rfl) ?_
    refine lv_icmp_ge (tgt := 83) hx hb dX12_hiderOf_6 (by decide) (fun cn18 => ?_) (fun cn18 => ?_)
    · have hf := (if_pos cn18).symm.trans hf
      obtain rfl := Option.some.inj hf
      exact kx () rfl _ _ _ hw (lv_sub hl [0, 1, 2, 3] rfl)
    · have hf := (if_neg cn18).symm.trans hf
      refine lv_iconst (v := 0) hx hb dX12_hiderOf_9 (by decide) ?_
      refine lv_istore (lv' := [(5, .int 0), (0, .ref (mr g 0)), (1, .int c1), (2, .int c2), (3, .int c3), (4, .int v4)]) hx hb dX12_hiderOf_10 hl (by decide) rfl (fun ls hl => ?_)
      rcases br0_some hf with ⟨q, hL, hf⟩ | ⟨hL, hf⟩
      · refine wm_hiderOf_L12 hc hR hml N c1 c2 c3 v4 N _ _ _ _ _ _ hL hw (lv_sub hl [1, 2, 3, 4, 5, 0] rfl) (fun _  h => nomatch h) ?_
        obtain rfl := Option.some.inj hf
        intro z0 h; cases h; exact kr _  rfl
      · refine wm_hiderOf_L12 hc hR hml N c1 c2 c3 v4 N _ _ _ _ _ _ hL hw (lv_sub hl [1, 2, 3, 4, 5, 0] rfl) (fun y0 hi => ?_) (fun _  h => nomatch h)
        cases hi
        intro H locs ls hw hl
        refine lv_iinc (lv' := [(4, .int (v4 + 1)), (0, .ref (mr g 0)), (1, .int c1), (2, .int c2), (3, .int c3)]) hx hb dX12_hiderOf_77 hl (k := 4) rfl rfl (by decide) rfl (fun ls hl => ?_)
        refine lv_goto (tgt := 3) hx hb dX12_hiderOf_80 (by decide) ?_
        exact ih _ _ X _ _ _ hf hw (lv_sub hl [1, 2, 3, 4, 0] rfl) kx kr
def mf_hiderOf (N : Nat) (S : mS) (a1 : Int32) (a2 : Int32) (a3 : Int32) : Option (Int32) := (br0 (mf_hiderOf_L3 N a1 a2 a3 N S 0) (Option.some) fun _ => (bd1 (mf_postBefore N S a1 a2 a3) fun v17 => (if v17 = (-1) then some (-1) else some (100 + v17))))
set_option maxRecDepth 100000 in
theorem cm_hiderOf (l : Launch) (N : Nat) (S : mS) (a1 : Int32) (a2 : Int32) (a3 : Int32) (res : Int32) (hf : mf_hiderOf N S a1 a2 a3 = some res) : mMi l yX12_hiderOf cX12_hiderOf 6 .int 5 (fun g => [.ref (mr g 0), .int a1, .int a2, .int a3]) S res S := by
  refine mMi_of (own := RX12) (by decide) rfl rfl (fun g => Nat.le_of_ble_eq_true rfl) ?_
  intro p e R s m args below meth c Q g A H0 H locs ls hc hR hml hw hl hQ
  have hl : lv_has ls 6 [(0, .ref (mr g 0)), (1, .int a1), (2, .int a2), (3, .int a3)] := hl
  have hx := hc.1
  have hb := hc.2.1
  unfold mf_hiderOf at hf
  refine lv_iconst (v := 0) hx hb dX12_hiderOf_0 (by decide) ?_
  refine lv_istore (lv' := [(4, .int 0), (0, .ref (mr g 0)), (1, .int a1), (2, .int a2), (3, .int a3)]) hx hb dX12_hiderOf_1 hl (by decide) rfl (fun ls hl => ?_)
  rcases br0_some hf with ⟨q, hL, hf⟩ | ⟨hL, hf⟩
  · refine wm_hiderOf_L3 hc hR hml N a1 a2 a3 N _ _ _ _ _ _ hL hw (lv_sub hl [1, 2, 3, 4, 0] rfl) (fun _  h => nomatch h) ?_
    obtain rfl := Option.some.inj hf
    intro z0 h; cases h; exact hQ
  · refine wm_hiderOf_L3 hc hR hml N a1 a2 a3 N _ _ _ _ _ _ hL hw (lv_sub hl [1, 2, 3, 4, 0] rfl) (fun y0 hi => ?_) (fun _  h => nomatch h)
    cases hi
    intro H locs ls hw hl
    refine lv_aload_n hx hb dX12_hiderOf_83 rfl (lv_at hl 0 rfl) ?_
    refine lv_iload_n hx hb dX12_hiderOf_84 rfl (lv_at hl 1 rfl) ?_
    refine lv_iload_n hx hb dX12_hiderOf_85 rfl (lv_at hl 2 rfl) ?_
    refine lv_iload_n hx hb dX12_hiderOf_86 rfl (lv_at hl 3 rfl) ?_
    obtain ⟨v17, hcall, hf⟩ := bd1_some hf
    refine m_cvi (As := [.int a1, .int a2, .int a3]) (rest := []) hc hw hR (hml.trans hl.1.symm) (cm_postBefore l N S a1 a2 a3 v17 hcall) mq_postBefore rfl (by decide) rfl rfl rfl (Nat.le_of_ble_eq_true rfl) dX12_hiderOf_87 (fun H locs hw => ?_) ⟨Nat.zero_le _, Nat.zero_le _⟩
    refine lv_istore (lv' := [(4, .int v17), (0, .ref (mr g 0)), (1, .int a1), (2, .int a2), (3, .int a3)]) hx hb dX12_hiderOf_90 hl (by decide) rfl (fun ls hl => ?_)
    refine lv_iload hx hb dX12_hiderOf_92 (lv_at hl 0 rfl) ?_
    refine lv_iconst (v := (-1)) hx hb dX12_hiderOf_94 (by decide) ?_
    refine lv_icmp_ne (tgt := 102) hx hb dX12_hiderOf_95 (by decide) (fun cn22 => ?_) (fun cn22 => ?_)
    · have hf := (if_neg cn22).symm.trans hf
      refine lv_bipush (v := 100) hx hb dX12_hiderOf_102 (by decide) ?_
      refine lv_iload hx hb dX12_hiderOf_104 (lv_at hl 0 rfl) ?_
      refine lv_iadd hx hb dX12_hiderOf_106 ?_
      obtain rfl := Option.some.inj hf
      exact hQ _ _ _ _ dX12_hiderOf_107 hw
    · have hf := (if_pos cn22).symm.trans hf
      refine lv_iconst (v := (-1)) hx hb dX12_hiderOf_98 (by decide) ?_
      refine lv_goto (tgt := 107) hx hb dX12_hiderOf_99 (by decide) ?_
      obtain rfl := Option.some.inj hf
      exact hQ _ _ _ _ dX12_hiderOf_107 hw
theorem mq_hiderOf : qCv RX12 285 yX12_hiderOf cX12_hiderOf 6 (some .int) 3 := ⟨⟨(mem_g 1457 (by decide +kernel) rfl), (mem_g 1459 (by decide +kernel) rfl), (mem_g 52 (by decide +kernel) rfl), (mem_g 89 (by decide +kernel) rfl), (mem_g 1460 (by decide +kernel) rfl)⟩, by decide, by decide +kernel, by decide⟩
def mf_cases_L54 (N : Nat) (c14 : Int32) (c15 : Int32) (c16 : Int32) (c17 : Int32) (c18 : Int32) : Nat → mS → Int32 → Int32 → Option (Int32)
  | 0, _, _, _ => none
  | n + 1, S21, v19, v20 => (if 4 ≤ v20 then some v19 else (if ok v20 4 then (bd1 (mf_above N S21 c17 (S21.1 1 v20.toNatClampNeg)) fun v23 => (bd1 (mf_farOf N S21 c17) fun v24 => (bd1 (mf_isAsHigh N S21 c14 c15 c16 v23 v24) fun v25 => mf_cases_L54 N c14 c15 c16 c17 c18 n S21 (v19 + ((if v25 = true then 0 else S21.1 2 v20.toNatClampNeg) : Int32)) (v20 + 1)))) else none))
set_option maxRecDepth 100000 in
theorem wm_cases_L54 {p : Program} {l : Launch} {e : Env} {R : Room} {s : State} {m : MethodId} {args : Array Value} {below : List Frame} {meth : Method} {c : Code} {Q : State → Prop} {g : mG} {A : Nat → Prop} {H0 : Heap} (hc : qC RX12 cX12_cases p s m args c) (hR : qRoom R 5) (hml : c.maxLocals = 8) (N : Nat) (c14 : Int32) (c15 : Int32) (c16 : Int32) (c17 : Int32) (c18 : Int32) : ∀ (n : Nat) (S21 : mS) (v19 : Int32) (v20 : Int32) (X : Int32) (H : Heap) (locs : List Loc) (ls : Array Slot), mf_cases_L54 N c14 c15 c16 c17 c18 n S21 v19 v20 = some X → mI g A H0 s S21 H locs → lv_has ls 8 [(0, .ref (mr g 0)), (1, .int c14), (2, .int c15), (3, .int c16), (4, .int c17), (5, .int c18), (6, .int v19), (7, .int v20)] → (∀ (H : Heap) (locs : List Loc) (ls : Array Slot), mI g A H0 s S21 H locs → lv_has ls 8 [(0, .ref (mr g 0)), (1, .int c14), (2, .int c15), (3, .int c16), (4, .int c17), (5, .int c18), (6, .int X)] → W p l e R s m args below meth c H locs 0 0 Q (F0 m 111 ls [])) → W p l e R s m args below meth c H locs 0 0 Q (F0 m 54 ls []) := by
  have hx := hc.1
  have hb := hc.2.1
  intro n
  induction n with
  | zero => intro _ _ _ X H locs ls hf; exact nomatch (show none = some X from hf)
  | succ n ih =>
    intro S21 v19 v20 X H locs ls hf hw hl kx
    rw [mf_cases_L54] at hf
    refine lv_iload hx hb dX12_cases_54 (lv_at hl 7 rfl) ?_
    refine lv_iconst (v := 4) hx hb dX12_cases_56 (by decide) ?_
    refine lv_icmp_ge (tgt := 111) hx hb dX12_cases_57 (by decide) (fun cn34 => ?_) (fun cn34 => ?_)
    · have hf := (if_pos cn34).symm.trans hf
      obtain rfl := Option.some.inj hf
      exact kx _ _ _ hw (lv_sub hl [0, 1, 2, 3, 4, 5, 6] rfl)
    · have hf := (if_neg cn34).symm.trans hf
      refine lv_iload hx hb dX12_cases_60 (lv_at hl 6 rfl) ?_
      refine lv_aload_n hx hb dX12_cases_62 rfl (lv_at hl 0 rfl) ?_
      refine lv_iload_n hx hb dX12_cases_63 rfl (lv_at hl 1 rfl) ?_
      refine lv_iload_n hx hb dX12_cases_64 rfl (lv_at hl 2 rfl) ?_
      refine lv_iload_n hx hb dX12_cases_65 rfl (lv_at hl 3 rfl) ?_
      refine lv_aload_n hx hb dX12_cases_66 rfl (lv_at hl 0 rfl) ?_
      refine lv_iload hx hb dX12_cases_67 (lv_at hl 4 rfl) ?_
      refine lv_aload_n hx hb dX12_cases_69 rfl (lv_at hl 0 rfl) ?_
      refine m_g1 hc hw dX12_cases_70 ?_
      refine lv_iload hx hb dX12_cases_73 (lv_at hl 7 rfl) ?_
      obtain ⟨hi22, hf⟩ := gd_some hf
      refine m_l1 hc hw (ok_in hi22) dX12_cases_75 ?_
      obtain ⟨v23, hcall, hf⟩ := bd1_some hf
      refine m_cvi (As := [.int c17, .int (S21.1 1 v20.toNatClampNeg)]) (rest := [.int c16, .int c15, .int c14, .ref (mr g 0), .int v19]) hc hw hR (hml.trans hl.1.symm) (cm_above l N S21 c17 (S21.1 1 v20.toNatClampNeg) v23 hcall) mq_above rfl (by decide) rfl rfl rfl (Nat.le_of_ble_eq_true rfl) dX12_cases_76 (fun H locs hw => ?_) ⟨Nat.zero_le _, Nat.zero_le _⟩
      refine lv_aload_n hx hb dX12_cases_79 rfl (lv_at hl 0 rfl) ?_
      refine lv_iload hx hb dX12_cases_80 (lv_at hl 4 rfl) ?_
      obtain ⟨v24, hcall, hf⟩ := bd1_some hf
      refine m_cvi (As := [.int c17]) (rest := [.int v23, .int c16, .int c15, .int c14, .ref (mr g 0), .int v19]) hc hw hR (hml.trans hl.1.symm) (cm_farOf l N S21 c17 v24 hcall) mq_farOf rfl (by decide) rfl rfl rfl (Nat.le_of_ble_eq_true rfl) dX12_cases_82 (fun H locs hw => ?_) ⟨Nat.zero_le _, Nat.zero_le _⟩
      obtain ⟨v25, hcall, hf⟩ := bd1_some hf
      refine m_cvi (As := [.int c14, .int c15, .int c16, .int v23, .int v24]) (rest := [.int v19]) hc hw hR (hml.trans hl.1.symm) (cm_isAsHigh l N S21 c14 c15 c16 v23 v24 v25 hcall) mq_isAsHigh rfl (by decide) rfl rfl rfl (Nat.le_of_ble_eq_true rfl) dX12_cases_85 (fun H locs hw => ?_) ⟨Nat.zero_le _, Nat.zero_le _⟩
      obtain ⟨v26, hv26⟩ : ∃ y : Int32, y = (if v25 = true then 0 else S21.1 2 v20.toNatClampNeg) := ⟨_, rfl⟩
      try rw [← hv26] at hf
      have kJ35 : ∀ v26x : Int32, v26 = v26x → ∀ (H : Heap) (locs : List Loc) (ls : Array Slot), mI g A H0 s S21 H locs → lv_has ls 8 [(0, .ref (mr g 0)), (1, .int c14), (2, .int c15), (3, .int c16), (4, .int c17), (5, .int c18), (7, .int v20)] → W p l e R s m args below meth c H locs 0 0 Q (F0 m 102 ls [.int v26x, .int v19]) := by
        intro v26x hxv26 H locs ls hw hl
        subst hxv26
        refine lv_iadd hx hb dX12_cases_102 ?_
        refine lv_istore (lv' := [(6, .int (v19 + v26)), (0, .ref (mr g 0)), (1, .int c14), (2, .int c15), (3, .int c16), (4, .int c17), (5, .int c18), (7, .int v20)]) hx hb dX12_cases_103 hl (by decide) rfl (fun ls hl => ?_)
        refine lv_iinc (lv' := [(7, .int (v20 + 1)), (6, .int (v19 + v26)), (0, .ref (mr g 0)), (1, .int c14), (2, .int c15), (3, .int c16), (4, .int c17), (5, .int c18)]) hx hb dX12_cases_105 hl (k := 7) rfl rfl (by decide) rfl (fun ls hl => ?_)
        refine lv_goto (tgt := 54) hx hb dX12_cases_108 (by decide) ?_
        exact ih _ _ _ X _ _ _ hf hw (lv_sub hl [2, 3, 4, 5, 6, 7, 1, 0] rfl) kx
      refine lv_if_eqb (tgt := 95) hx hb dX12_cases_88 (by decide) (fun cn36 => ?_) (fun cn36 => ?_)
      · refine lv_aload_n hx hb dX12_cases_95 rfl (lv_at hl 0 rfl) ?_
        refine m_g2 hc hw dX12_cases_96 ?_
        refine lv_iload hx hb dX12_cases_99 (lv_at hl 7 rfl) ?_
        refine m_l2 hc hw (ok_in hi22) dX12_cases_101 ?_
        have ev26 : v26 = (S21.1 2 v20.toNatClampNeg) := by rw [hv26]; simp only [if_neg cn36]
        exact kJ35 _ ev26 _ _ _ hw (lv_sub hl [0, 1, 2, 3, 4, 5, 7] rfl)
      · refine lv_iconst (v := 0) hx hb dX12_cases_91 (by decide) ?_
        refine lv_goto (tgt := 102) hx hb dX12_cases_92 (by decide) ?_
        have ev26 : v26 = (0 : Int32) := by rw [hv26]; simp only [if_pos cn36]
        exact kJ35 _ ev26 _ _ _ hw (lv_sub hl [0, 1, 2, 3, 4, 5, 7] rfl)
def mf_cases_L22 (N : Nat) (c6 : Int32) (c7 : Int32) (c8 : Int32) (c9 : Int32) : Nat → mS → Int32 → Option (mS)
  | 0, _, _ => none
  | n + 1, S11, v10 => (if ok c9 6 then (if (S11.1 5 c9.toNatClampNeg) ≤ v10 then some S11 else (bd1 (mf_isNear N S11 c6 c7 c8 c9 v10) fun v13 => (if v13 = true then (bd1 (mf_cases_L54 N c6 c7 c8 c9 v10 N S11 0 0) fun v27 => mf_cases_L22 N c6 c7 c8 c9 n (mt (ms S11 52 0 ((S11.1 52 0) + 1)) 53 0 (((ms S11 52 0 ((S11.1 52 0) + 1)).2 53 0) * v27.toInt64)) (v10 + 1)) else mf_cases_L22 N c6 c7 c8 c9 n S11 (v10 + 1)))) else none)
set_option maxRecDepth 100000 in
theorem wm_cases_L22 {p : Program} {l : Launch} {e : Env} {R : Room} {s : State} {m : MethodId} {args : Array Value} {below : List Frame} {meth : Method} {c : Code} {Q : State → Prop} {g : mG} {A : Nat → Prop} {H0 : Heap} (hc : qC RX12 cX12_cases p s m args c) (hR : qRoom R 5) (hml : c.maxLocals = 8) (N : Nat) (c6 : Int32) (c7 : Int32) (c8 : Int32) (c9 : Int32) : ∀ (n : Nat) (S11 : mS) (v10 : Int32) (X : mS) (H : Heap) (locs : List Loc) (ls : Array Slot), mf_cases_L22 N c6 c7 c8 c9 n S11 v10 = some X → mI g A H0 s S11 H locs → lv_has ls 8 [(0, .ref (mr g 0)), (1, .int c6), (2, .int c7), (3, .int c8), (4, .int c9), (5, .int v10)] → (∀ (H : Heap) (locs : List Loc) (ls : Array Slot), mI g A H0 s X H locs → lv_has ls 8 [(0, .ref (mr g 0)), (1, .int c6), (2, .int c7), (3, .int c8), (4, .int c9)] → W p l e R s m args below meth c H locs 0 0 Q (F0 m 139 ls [])) → W p l e R s m args below meth c H locs 0 0 Q (F0 m 22 ls []) := by
  have hx := hc.1
  have hb := hc.2.1
  intro n
  induction n with
  | zero => intro _ _ X H locs ls hf; exact nomatch (show none = some X from hf)
  | succ n ih =>
    intro S11 v10 X H locs ls hf hw hl kx
    rw [mf_cases_L22] at hf
    refine lv_iload hx hb dX12_cases_22 (lv_at hl 5 rfl) ?_
    refine lv_aload_n hx hb dX12_cases_24 rfl (lv_at hl 0 rfl) ?_
    refine m_g5 hc hw dX12_cases_25 ?_
    refine lv_iload hx hb dX12_cases_28 (lv_at hl 4 rfl) ?_
    obtain ⟨hi12, hf⟩ := gd_some hf
    refine m_l5 hc hw (ok_in hi12) dX12_cases_30 ?_
    refine lv_icmp_ge (tgt := 139) hx hb dX12_cases_31 (by decide) (fun cn32 => ?_) (fun cn32 => ?_)
    · have hf := (if_pos cn32).symm.trans hf
      obtain rfl := Option.some.inj hf
      exact kx _ _ _ hw (lv_sub hl [0, 1, 2, 3, 4] rfl)
    · have hf := (if_neg cn32).symm.trans hf
      refine lv_aload_n hx hb dX12_cases_34 rfl (lv_at hl 0 rfl) ?_
      refine lv_iload_n hx hb dX12_cases_35 rfl (lv_at hl 1 rfl) ?_
      refine lv_iload_n hx hb dX12_cases_36 rfl (lv_at hl 2 rfl) ?_
      refine lv_iload_n hx hb dX12_cases_37 rfl (lv_at hl 3 rfl) ?_
      refine lv_iload hx hb dX12_cases_38 (lv_at hl 4 rfl) ?_
      refine lv_iload hx hb dX12_cases_40 (lv_at hl 5 rfl) ?_
      obtain ⟨v13, hcall, hf⟩ := bd1_some hf
      refine m_cvi (As := [.int c6, .int c7, .int c8, .int c9, .int v10]) (rest := []) hc hw hR (hml.trans hl.1.symm) (cm_isNear l N S11 c6 c7 c8 c9 v10 v13 hcall) mq_isNear rfl (by decide) rfl rfl rfl (Nat.le_of_ble_eq_true rfl) dX12_cases_42 (fun H locs hw => ?_) ⟨Nat.zero_le _, Nat.zero_le _⟩
      refine lv_if_eqb (tgt := 133) hx hb dX12_cases_45 (by decide) (fun cn33 => ?_) (fun cn33 => ?_)
      · have hf := (if_neg cn33).symm.trans hf
        refine lv_iinc (lv' := [(5, .int (v10 + 1)), (0, .ref (mr g 0)), (1, .int c6), (2, .int c7), (3, .int c8), (4, .int c9)]) hx hb dX12_cases_133 hl (k := 5) rfl rfl (by decide) rfl (fun ls hl => ?_)
        refine lv_goto (tgt := 22) hx hb dX12_cases_136 (by decide) ?_
        exact ih _ _ X _ _ _ hf hw (lv_sub hl [1, 2, 3, 4, 5, 0] rfl) kx
      · have hf := (if_pos cn33).symm.trans hf
        refine lv_iconst (v := 0) hx hb dX12_cases_48 (by decide) ?_
        refine lv_istore (lv' := [(6, .int 0), (0, .ref (mr g 0)), (1, .int c6), (2, .int c7), (3, .int c8), (4, .int c9), (5, .int v10)]) hx hb dX12_cases_49 hl (by decide) rfl (fun ls hl => ?_)
        refine lv_iconst (v := 0) hx hb dX12_cases_51 (by decide) ?_
        refine lv_istore (lv' := [(7, .int 0), (6, .int 0), (0, .ref (mr g 0)), (1, .int c6), (2, .int c7), (3, .int c8), (4, .int c9), (5, .int v10)]) hx hb dX12_cases_52 hl (by decide) rfl (fun ls hl => ?_)
        obtain ⟨v27, hL, hf⟩ := bd1_some hf
        refine wm_cases_L54 hc hR hml N c6 c7 c8 c9 v10 N _ _ _ _ _ _ _ hL hw (lv_sub hl [2, 3, 4, 5, 6, 7, 1, 0] rfl) (fun H locs ls hw hl => ?_)
        refine lv_aload_n hx hb dX12_cases_111 rfl (lv_at hl 0 rfl) ?_
        refine lv_dup hx hb dX12_cases_112 rfl ?_
        refine m_g52 hc hw dX12_cases_113 ?_
        refine lv_iconst (v := 1) hx hb dX12_cases_116 (by decide) ?_
        refine lv_iadd hx hb dX12_cases_117 ?_
        refine m_p52 hc hw dX12_cases_118 (fun H locs hw => ?_)
        refine lv_aload_n hx hb dX12_cases_121 rfl (lv_at hl 0 rfl) ?_
        refine lv_dup hx hb dX12_cases_122 rfl ?_
        refine m_g53 hc hw dX12_cases_123 ?_
        refine lv_iload hx hb dX12_cases_126 (lv_at hl 6 rfl) ?_
        refine lv_i2l hx hb dX12_cases_128 rfl ?_
        refine lv_lmul hx hb dX12_cases_129 ?_
        refine m_p53 hc hw dX12_cases_130 (fun H locs hw => ?_)
        refine lv_iinc (lv' := [(5, .int (v10 + 1)), (0, .ref (mr g 0)), (1, .int c6), (2, .int c7), (3, .int c8), (4, .int c9), (6, .int v27)]) hx hb dX12_cases_133 hl (k := 5) rfl rfl (by decide) rfl (fun ls hl => ?_)
        refine lv_goto (tgt := 22) hx hb dX12_cases_136 (by decide) ?_
        exact ih _ _ X _ _ _ hf hw (lv_sub hl [1, 2, 3, 4, 5, 0] rfl) kx
def mf_cases_L13 (N : Nat) (c1 : Int32) (c2 : Int32) (c3 : Int32) : Nat → mS → Int32 → Option (mS)
  | 0, _, _ => none
  | n + 1, S5, v4 => (if c1 ≤ v4 then some S5 else (bd1 (mf_cases_L22 N c1 c2 c3 v4 N S5 0) fun S28 => mf_cases_L13 N c1 c2 c3 n S28 (v4 + 1)))
set_option maxRecDepth 100000 in
theorem wm_cases_L13 {p : Program} {l : Launch} {e : Env} {R : Room} {s : State} {m : MethodId} {args : Array Value} {below : List Frame} {meth : Method} {c : Code} {Q : State → Prop} {g : mG} {A : Nat → Prop} {H0 : Heap} (hc : qC RX12 cX12_cases p s m args c) (hR : qRoom R 5) (hml : c.maxLocals = 8) (N : Nat) (c1 : Int32) (c2 : Int32) (c3 : Int32) : ∀ (n : Nat) (S5 : mS) (v4 : Int32) (X : mS) (H : Heap) (locs : List Loc) (ls : Array Slot), mf_cases_L13 N c1 c2 c3 n S5 v4 = some X → mI g A H0 s S5 H locs → lv_has ls 8 [(0, .ref (mr g 0)), (1, .int c1), (2, .int c2), (3, .int c3), (4, .int v4)] → (∀ (H : Heap) (locs : List Loc) (ls : Array Slot), mI g A H0 s X H locs → lv_has ls 8 [(0, .ref (mr g 0)), (1, .int c1), (2, .int c2), (3, .int c3)] → W p l e R s m args below meth c H locs 0 0 Q (F0 m 145 ls [])) → W p l e R s m args below meth c H locs 0 0 Q (F0 m 13 ls []) := by
  have hx := hc.1
  have hb := hc.2.1
  intro n
  induction n with
  | zero => intro _ _ X H locs ls hf; exact nomatch (show none = some X from hf)
  | succ n ih =>
    intro S5 v4 X H locs ls hf hw hl kx
    rw [mf_cases_L13] at hf
    refine lv_iload hx hb dX12_cases_13 (lv_at hl 4 rfl) ?_
    refine lv_iload_n hx hb dX12_cases_15 rfl (lv_at hl 1 rfl) ?_
    refine lv_icmp_ge (tgt := 145) hx hb dX12_cases_16 (by decide) (fun cn31 => ?_) (fun cn31 => ?_)
    · have hf := (if_pos cn31).symm.trans hf
      obtain rfl := Option.some.inj hf
      exact kx _ _ _ hw (lv_sub hl [0, 1, 2, 3] rfl)
    · have hf := (if_neg cn31).symm.trans hf
      refine lv_iconst (v := 0) hx hb dX12_cases_19 (by decide) ?_
      refine lv_istore (lv' := [(5, .int 0), (0, .ref (mr g 0)), (1, .int c1), (2, .int c2), (3, .int c3), (4, .int v4)]) hx hb dX12_cases_20 hl (by decide) rfl (fun ls hl => ?_)
      obtain ⟨S28, hL, hf⟩ := bd1_some hf
      refine wm_cases_L22 hc hR hml N c1 c2 c3 v4 N _ _ _ _ _ _ hL hw (lv_sub hl [1, 2, 3, 4, 5, 0] rfl) (fun H locs ls hw hl => ?_)
      refine lv_iinc (lv' := [(4, .int (v4 + 1)), (0, .ref (mr g 0)), (1, .int c1), (2, .int c2), (3, .int c3)]) hx hb dX12_cases_139 hl (k := 4) rfl rfl (by decide) rfl (fun ls hl => ?_)
      refine lv_goto (tgt := 13) hx hb dX12_cases_142 (by decide) ?_
      exact ih _ _ X _ _ _ hf hw (lv_sub hl [1, 2, 3, 4, 0] rfl) kx
def mf_cases (N : Nat) (S : mS) (a1 : Int32) (a2 : Int32) (a3 : Int32) : Option (mS) := (bd1 (mf_cases_L13 N a1 a2 a3 N (mt (ms S 52 0 0) 53 0 1) 0) fun S29 => (bd1 (mf_postBefore N S29 a1 a2 a3) fun v30 => (if v30 = (-1) then some (mt S29 53 0 (S29.2 53 0)) else some (mt S29 53 0 0))))
set_option maxRecDepth 100000 in
theorem cm_cases (l : Launch) (N : Nat) (S : mS) (a1 : Int32) (a2 : Int32) (a3 : Int32) (S1 : mS) (hf : mf_cases N S a1 a2 a3 = some S1) : mMv l yX12_cases cX12_cases 8 5 (fun g => [.ref (mr g 0), .int a1, .int a2, .int a3]) S S1 := by
  refine mMv_of (own := RX12) (by decide) rfl (fun g => Nat.le_of_ble_eq_true rfl) ?_
  intro p e R s m args below meth c Q g A H0 H locs ls hc hR hml hw hl hQ
  have hl : lv_has ls 8 [(0, .ref (mr g 0)), (1, .int a1), (2, .int a2), (3, .int a3)] := hl
  have hx := hc.1
  have hb := hc.2.1
  unfold mf_cases at hf
  refine lv_aload_n hx hb dX12_cases_0 rfl (lv_at hl 0 rfl) ?_
  refine lv_iconst (v := 0) hx hb dX12_cases_1 (by decide) ?_
  refine m_p52 hc hw dX12_cases_2 (fun H locs hw => ?_)
  refine lv_aload_n hx hb dX12_cases_5 rfl (lv_at hl 0 rfl) ?_
  refine lv_lconst (v := 1) hx hb dX12_cases_6 rfl ?_
  refine m_p53 hc hw dX12_cases_7 (fun H locs hw => ?_)
  refine lv_iconst (v := 0) hx hb dX12_cases_10 (by decide) ?_
  refine lv_istore (lv' := [(4, .int 0), (0, .ref (mr g 0)), (1, .int a1), (2, .int a2), (3, .int a3)]) hx hb dX12_cases_11 hl (by decide) rfl (fun ls hl => ?_)
  obtain ⟨S29, hL, hf⟩ := bd1_some hf
  refine wm_cases_L13 hc hR hml N a1 a2 a3 N _ _ _ _ _ _ hL hw (lv_sub hl [1, 2, 3, 4, 0] rfl) (fun H locs ls hw hl => ?_)
  refine lv_aload_n hx hb dX12_cases_145 rfl (lv_at hl 0 rfl) ?_
  refine lv_aload_n hx hb dX12_cases_146 rfl (lv_at hl 0 rfl) ?_
  refine lv_iload_n hx hb dX12_cases_147 rfl (lv_at hl 1 rfl) ?_
  refine lv_iload_n hx hb dX12_cases_148 rfl (lv_at hl 2 rfl) ?_
  refine lv_iload_n hx hb dX12_cases_149 rfl (lv_at hl 3 rfl) ?_
  obtain ⟨v30, hcall, hf⟩ := bd1_some hf
  refine m_cvi (As := [.int a1, .int a2, .int a3]) (rest := [.ref (mr g 0)]) hc hw hR (hml.trans hl.1.symm) (cm_postBefore l N S29 a1 a2 a3 v30 hcall) mq_postBefore rfl (by decide) rfl rfl rfl (Nat.le_of_ble_eq_true rfl) dX12_cases_150 (fun H locs hw => ?_) ⟨Nat.zero_le _, Nat.zero_le _⟩
  refine lv_iconst (v := (-1)) hx hb dX12_cases_153 (by decide) ?_
  refine lv_icmp_ne (tgt := 164) hx hb dX12_cases_154 (by decide) (fun cn40 => ?_) (fun cn40 => ?_)
  · have hf := (if_neg cn40).symm.trans hf
    refine lv_lconst (v := 0) hx hb dX12_cases_164 rfl ?_
    refine m_p53 hc hw dX12_cases_165 (fun H locs hw => ?_)
    obtain rfl := Option.some.inj hf
    exact hQ _ _ _ _ dX12_cases_168 hw
  · have hf := (if_pos cn40).symm.trans hf
    refine lv_aload_n hx hb dX12_cases_157 rfl (lv_at hl 0 rfl) ?_
    refine m_g53 hc hw dX12_cases_158 ?_
    refine lv_goto (tgt := 165) hx hb dX12_cases_161 (by decide) ?_
    refine m_p53 hc hw dX12_cases_165 (fun H locs hw => ?_)
    obtain rfl := Option.some.inj hf
    exact hQ _ _ _ _ dX12_cases_168 hw
theorem mq_cases : qCv RX12 331 yX12_cases cX12_cases 8 none 3 := ⟨⟨(mem_g 1557 (by decide +kernel) rfl), (mem_g 1559 (by decide +kernel) rfl), (mem_g 68 (by decide +kernel) rfl), (mem_g 89 (by decide +kernel) rfl), (mem_g 1560 (by decide +kernel) rfl)⟩, by decide, by decide +kernel, by decide⟩
def mf_sitters_L64 (N : Nat) (c2 : Int32) (c3 : Int32) (c4 : Int32) : Nat → mS → Int32 → Int32 → Option ((Int32 × mS) ⊕ (Int32 × mS))
  | 0, _, _, _ => none
  | n + 1, S7, v5, v6 => (if c4 ≤ v6 then some (.inr (v5, S7)) else (if ok c2 4 then (if v6 < (S7.1 38 c2.toNatClampNeg) then (if ok ((60 * c2) + v6) 240 then (bd2 (mf_sit N S7 c3 v6 (S7.1 39 ((60 * c2) + v6).toNatClampNeg)) fun v10 S11 => mf_sitters_L64 N c2 c3 c4 n S11 (v5 + ((if v10 < 0 then 0 else 1) : Int32)) (v6 + 1)) else none) else some (.inl ((-12), S7))) else none))
set_option maxRecDepth 100000 in
theorem wm_sitters_L64 {p : Program} {l : Launch} {e : Env} {R : Room} {s : State} {m : MethodId} {args : Array Value} {below : List Frame} {meth : Method} {c : Code} {Q : State → Prop} {g : mG} {A : Nat → Prop} {H0 : Heap} (hc : qC RX12 cX12_sitters p s m args c) (hR : qRoom R 5) (hml : c.maxLocals = 7) (N : Nat) (c2 : Int32) (c3 : Int32) (c4 : Int32) : ∀ (n : Nat) (S7 : mS) (v5 : Int32) (v6 : Int32) (X : (Int32 × mS) ⊕ (Int32 × mS)) (H : Heap) (locs : List Loc) (ls : Array Slot), mf_sitters_L64 N c2 c3 c4 n S7 v5 v6 = some X → mI g A H0 s S7 H locs → lv_has ls 7 [(0, .ref (mr g 0)), (1, .int c2), (3, .int c3), (4, .int c4), (5, .int v5), (6, .int v6)] → (∀ (x25 : Int32) (S24 : mS), X = .inr (x25, S24) → ∀ (H : Heap) (locs : List Loc) (ls : Array Slot), mI g A H0 s S24 H locs → lv_has ls 7 [(5, .int x25)] → W p l e R s m args below meth c H locs 0 0 Q (F0 m 123 ls [])) → (∀ (r : Int32) (S9 : mS), X = .inl (r, S9) → mQi p l e R s m args below meth c cX12_sitters Q g A H0 r S9) → W p l e R s m args below meth c H locs 0 0 Q (F0 m 64 ls []) := by
  have hx := hc.1
  have hb := hc.2.1
  intro n
  induction n with
  | zero => intro _ _ _ X H locs ls hf; exact nomatch (show none = some X from hf)
  | succ n ih =>
    intro S7 v5 v6 X H locs ls hf hw hl kx kr
    rw [mf_sitters_L64] at hf
    refine lv_iload hx hb dX12_sitters_64 (lv_at hl 5 rfl) ?_
    refine lv_iload hx hb dX12_sitters_66 (lv_at hl 3 rfl) ?_
    refine lv_icmp_ge (tgt := 123) hx hb dX12_sitters_68 (by decide) (fun cn20 => ?_) (fun cn20 => ?_)
    · have hf := (if_pos cn20).symm.trans hf
      obtain rfl := Option.some.inj hf
      exact kx _ _ rfl _ _ _ hw (lv_sub hl [4] rfl)
    · have hf := (if_neg cn20).symm.trans hf
      refine lv_iload hx hb dX12_sitters_71 (lv_at hl 5 rfl) ?_
      refine lv_aload_n hx hb dX12_sitters_73 rfl (lv_at hl 0 rfl) ?_
      refine m_g38 hc hw dX12_sitters_74 ?_
      refine lv_iload_n hx hb dX12_sitters_77 rfl (lv_at hl 1 rfl) ?_
      obtain ⟨hi8, hf⟩ := gd_some hf
      refine m_l38 hc hw (ok_in hi8) dX12_sitters_78 ?_
      refine lv_icmp_lt (tgt := 85) hx hb dX12_sitters_79 (by decide) (fun cn21 => ?_) (fun cn21 => ?_)
      · have hf := (if_pos cn21).symm.trans hf
        refine lv_iload hx hb dX12_sitters_85 (lv_at hl 4 rfl) ?_
        refine lv_aload_n hx hb dX12_sitters_87 rfl (lv_at hl 0 rfl) ?_
        refine lv_iload_n hx hb dX12_sitters_88 rfl (lv_at hl 2 rfl) ?_
        refine lv_iload hx hb dX12_sitters_89 (lv_at hl 5 rfl) ?_
        refine lv_aload_n hx hb dX12_sitters_91 rfl (lv_at hl 0 rfl) ?_
        refine m_g39 hc hw dX12_sitters_92 ?_
        refine lv_bipush (v := 60) hx hb dX12_sitters_95 (by decide) ?_
        refine lv_iload_n hx hb dX12_sitters_97 rfl (lv_at hl 1 rfl) ?_
        refine lv_imul hx hb dX12_sitters_98 ?_
        refine lv_iload hx hb dX12_sitters_99 (lv_at hl 5 rfl) ?_
        refine lv_iadd hx hb dX12_sitters_101 ?_
        obtain ⟨hi9, hf⟩ := gd_some hf
        refine m_l39 hc hw (ok_in hi9) dX12_sitters_102 ?_
        obtain ⟨v10, S11, hcall, hf⟩ := bd2_some hf
        refine m_cvi (As := [.int c3, .int v6, .int (S7.1 39 ((60 * c2) + v6).toNatClampNeg)]) (rest := [.int v5]) hc hw hR (hml.trans hl.1.symm) (cm_sit l N S7 c3 v6 (S7.1 39 ((60 * c2) + v6).toNatClampNeg) v10 S11 hcall) mq_sit rfl (by decide) rfl rfl rfl (Nat.le_of_ble_eq_true rfl) dX12_sitters_103 (fun H locs hw => ?_) ⟨Nat.zero_le _, Nat.zero_le _⟩
        obtain ⟨v12, hv12⟩ : ∃ y : Int32, y = (if v10 < 0 then 0 else 1) := ⟨_, rfl⟩
        try rw [← hv12] at hf
        have kJ22 : ∀ v12x : Int32, v12 = v12x → ∀ (H : Heap) (locs : List Loc) (ls : Array Slot), mI g A H0 s S11 H locs → lv_has ls 7 [(0, .ref (mr g 0)), (1, .int c2), (3, .int c3), (4, .int c4), (6, .int v6)] → W p l e R s m args below meth c H locs 0 0 Q (F0 m 114 ls [.int v12x, .int v5]) := by
          intro v12x hxv12 H locs ls hw hl
          subst hxv12
          refine lv_iadd hx hb dX12_sitters_114 ?_
          refine lv_istore (lv' := [(5, .int (v5 + v12)), (0, .ref (mr g 0)), (1, .int c2), (3, .int c3), (4, .int c4), (6, .int v6)]) hx hb dX12_sitters_115 hl (by decide) rfl (fun ls hl => ?_)
          refine lv_iinc (lv' := [(6, .int (v6 + 1)), (5, .int (v5 + v12)), (0, .ref (mr g 0)), (1, .int c2), (3, .int c3), (4, .int c4)]) hx hb dX12_sitters_117 hl (k := 5) rfl rfl (by decide) rfl (fun ls hl => ?_)
          refine lv_goto (tgt := 64) hx hb dX12_sitters_120 (by decide) ?_
          exact ih _ _ _ X _ _ _ hf hw (lv_sub hl [2, 3, 4, 5, 1, 0] rfl) kx kr
        refine lv_if_lt (tgt := 113) hx hb dX12_sitters_106 (by decide) (fun cn23 => ?_) (fun cn23 => ?_)
        · refine lv_iconst (v := 0) hx hb dX12_sitters_113 (by decide) ?_
          have ev12 : v12 = (0 : Int32) := by rw [hv12]; simp only [if_pos cn23]
          exact kJ22 _ ev12 _ _ _ hw (lv_sub hl [0, 1, 2, 3, 5] rfl)
        · refine lv_iconst (v := 1) hx hb dX12_sitters_109 (by decide) ?_
          refine lv_goto (tgt := 114) hx hb dX12_sitters_110 (by decide) ?_
          have ev12 : v12 = (1 : Int32) := by rw [hv12]; simp only [if_neg cn23]
          exact kJ22 _ ev12 _ _ _ hw (lv_sub hl [0, 1, 2, 3, 5] rfl)
      · have hf := (if_neg cn21).symm.trans hf
        refine lv_bipush (v := (-12)) hx hb dX12_sitters_82 (by decide) ?_
        obtain rfl := Option.some.inj hf
        exact kr _ _  rfl _ _ _ _ dX12_sitters_84 hw
def mf_sitters (N : Nat) (S : mS) (a1 : Int32) (a2 : Int32) (a3 : Int32) (a4 : Int32) : Option (Int32 × mS) := (if (mf_in a1 0 3) = true then (if (mf_in a2 0 2) = true then (if (mf_in a4 0 8) = true then (if ok a1 4 then (if (S.1 37 a1.toNatClampNeg) = (-1) then some ((-11), S) else (if (S.1 37 a1.toNatClampNeg) = a2 then (br2 (mf_sitters_L64 N a1 a3 a4 N S 0 0) (Option.some) fun v13 S14 => some (v13, S14)) else some ((-13), S))) else none) else some ((-2), S)) else some ((-2), S)) else some ((-2), S))
set_option maxRecDepth 100000 in
theorem cm_sitters (l : Launch) (N : Nat) (S : mS) (a1 : Int32) (a2 : Int32) (a3 : Int32) (a4 : Int32) (res : Int32) (S1 : mS) (hf : mf_sitters N S a1 a2 a3 a4 = some (res, S1)) : mMi l yX12_sitters cX12_sitters 7 .int 5 (fun g => [.ref (mr g 0), .int a1, .int a2, .int a3, .int a4]) S res S1 := by
  refine mMi_of (own := RX12) (by decide) rfl rfl (fun g => Nat.le_of_ble_eq_true rfl) ?_
  intro p e R s m args below meth c Q g A H0 H locs ls hc hR hml hw hl hQ
  have hl : lv_has ls 7 [(0, .ref (mr g 0)), (1, .int a1), (2, .int a2), (3, .int a3), (4, .int a4)] := hl
  have hx := hc.1
  have hb := hc.2.1
  unfold mf_sitters at hf
  refine lv_iload_n hx hb dX12_sitters_0 rfl (lv_at hl 1 rfl) ?_
  refine lv_iconst (v := 0) hx hb dX12_sitters_1 (by decide) ?_
  refine lv_iconst (v := 3) hx hb dX12_sitters_2 (by decide) ?_
  refine m_csi (As := [.int a1, .int 0, .int 3]) (rest := []) hc hw hR (hml.trans hl.1.symm) (cm_in l S a1 0 3 _ rfl) mq_in (by decide) rfl rfl rfl (Nat.le_of_ble_eq_true rfl) dX12_sitters_3 (fun H locs hw => ?_) ⟨Nat.zero_le _, Nat.zero_le _⟩
  refine lv_if_eqb (tgt := 29) hx hb dX12_sitters_6 (by decide) (fun cn15 => ?_) (fun cn15 => ?_)
  · have hf := (if_neg cn15).symm.trans hf
    refine lv_bipush (v := (-2)) hx hb dX12_sitters_29 (by decide) ?_
    obtain ⟨rfl, rfl⟩ := pr2_some hf
    exact hQ _ _ _ _ dX12_sitters_31 hw
  · have hf := (if_pos cn15).symm.trans hf
    refine lv_iload_n hx hb dX12_sitters_9 rfl (lv_at hl 2 rfl) ?_
    refine lv_iconst (v := 0) hx hb dX12_sitters_10 (by decide) ?_
    refine lv_iconst (v := 2) hx hb dX12_sitters_11 (by decide) ?_
    refine m_csi (As := [.int a2, .int 0, .int 2]) (rest := []) hc hw hR (hml.trans hl.1.symm) (cm_in l S a2 0 2 _ rfl) mq_in (by decide) rfl rfl rfl (Nat.le_of_ble_eq_true rfl) dX12_sitters_12 (fun H locs hw => ?_) ⟨Nat.zero_le _, Nat.zero_le _⟩
    refine lv_if_eqb (tgt := 29) hx hb dX12_sitters_15 (by decide) (fun cn16 => ?_) (fun cn16 => ?_)
    · have hf := (if_neg cn16).symm.trans hf
      refine lv_bipush (v := (-2)) hx hb dX12_sitters_29 (by decide) ?_
      obtain ⟨rfl, rfl⟩ := pr2_some hf
      exact hQ _ _ _ _ dX12_sitters_31 hw
    · have hf := (if_pos cn16).symm.trans hf
      refine lv_iload hx hb dX12_sitters_18 (lv_at hl 4 rfl) ?_
      refine lv_iconst (v := 0) hx hb dX12_sitters_20 (by decide) ?_
      refine lv_bipush (v := 8) hx hb dX12_sitters_21 (by decide) ?_
      refine m_csi (As := [.int a4, .int 0, .int 8]) (rest := []) hc hw hR (hml.trans hl.1.symm) (cm_in l S a4 0 8 _ rfl) mq_in (by decide) rfl rfl rfl (Nat.le_of_ble_eq_true rfl) dX12_sitters_23 (fun H locs hw => ?_) ⟨Nat.zero_le _, Nat.zero_le _⟩
      refine lv_if_neb (tgt := 32) hx hb dX12_sitters_26 (by decide) (fun cn17 => ?_) (fun cn17 => ?_)
      · have hf := (if_pos cn17).symm.trans hf
        refine lv_aload_n hx hb dX12_sitters_32 rfl (lv_at hl 0 rfl) ?_
        refine m_g37 hc hw dX12_sitters_33 ?_
        refine lv_iload_n hx hb dX12_sitters_36 rfl (lv_at hl 1 rfl) ?_
        obtain ⟨hi1, hf⟩ := gd_some hf
        refine m_l37 hc hw (ok_in hi1) dX12_sitters_37 ?_
        refine lv_iconst (v := (-1)) hx hb dX12_sitters_38 (by decide) ?_
        refine lv_icmp_ne (tgt := 45) hx hb dX12_sitters_39 (by decide) (fun cn18 => ?_) (fun cn18 => ?_)
        · have hf := (if_neg cn18).symm.trans hf
          refine lv_aload_n hx hb dX12_sitters_45 rfl (lv_at hl 0 rfl) ?_
          refine m_g37 hc hw dX12_sitters_46 ?_
          refine lv_iload_n hx hb dX12_sitters_49 rfl (lv_at hl 1 rfl) ?_
          refine m_l37 hc hw (ok_in hi1) dX12_sitters_50 ?_
          refine lv_iload_n hx hb dX12_sitters_51 rfl (lv_at hl 2 rfl) ?_
          refine lv_icmp_eq (tgt := 58) hx hb dX12_sitters_52 (by decide) (fun cn19 => ?_) (fun cn19 => ?_)
          · have hf := (if_pos cn19).symm.trans hf
            refine lv_iconst (v := 0) hx hb dX12_sitters_58 (by decide) ?_
            refine lv_istore (lv' := [(5, .int 0), (0, .ref (mr g 0)), (1, .int a1), (2, .int a2), (3, .int a3), (4, .int a4)]) hx hb dX12_sitters_59 hl (by decide) rfl (fun ls hl => ?_)
            refine lv_iconst (v := 0) hx hb dX12_sitters_61 (by decide) ?_
            refine lv_istore (lv' := [(6, .int 0), (5, .int 0), (0, .ref (mr g 0)), (1, .int a1), (2, .int a2), (3, .int a3), (4, .int a4)]) hx hb dX12_sitters_62 hl (by decide) rfl (fun ls hl => ?_)
            rcases br2_some hf with ⟨q, hL, hf⟩ | ⟨v13, S14, hL, hf⟩
            · refine wm_sitters_L64 hc hR hml N a1 a3 a4 N _ _ _ _ _ _ _ hL hw (lv_sub hl [2, 3, 5, 6, 1, 0] rfl) (fun _ _  h => nomatch h) ?_
              obtain rfl := Option.some.inj hf
              intro z0 z1 h; cases h; exact hQ
            · refine wm_sitters_L64 hc hR hml N a1 a3 a4 N _ _ _ _ _ _ _ hL hw (lv_sub hl [2, 3, 5, 6, 1, 0] rfl) (fun y0 y1 hi => ?_) (fun _ _  h => nomatch h)
              cases hi
              intro H locs ls hw hl
              refine lv_iload hx hb dX12_sitters_123 (lv_at hl 0 rfl) ?_
              obtain ⟨rfl, rfl⟩ := pr2_some hf
              exact hQ _ _ _ _ dX12_sitters_125 hw
          · have hf := (if_neg cn19).symm.trans hf
            refine lv_bipush (v := (-13)) hx hb dX12_sitters_55 (by decide) ?_
            obtain ⟨rfl, rfl⟩ := pr2_some hf
            exact hQ _ _ _ _ dX12_sitters_57 hw
        · have hf := (if_pos cn18).symm.trans hf
          refine lv_bipush (v := (-11)) hx hb dX12_sitters_42 (by decide) ?_
          obtain ⟨rfl, rfl⟩ := pr2_some hf
          exact hQ _ _ _ _ dX12_sitters_44 hw
      · have hf := (if_neg cn17).symm.trans hf
        refine lv_bipush (v := (-2)) hx hb dX12_sitters_29 (by decide) ?_
        obtain ⟨rfl, rfl⟩ := pr2_some hf
        exact hQ _ _ _ _ dX12_sitters_31 hw
def mf_hidden (N : Nat) (S : mS) (a1 : Int32) (a2 : Int32) (a3 : Int32) : Option (Int32) := (bd1 (mf_isSeat N S a1 a2) fun v1 => (if v1 = true then (if (mf_in a3 0 ((S.1 10 0) - 1)) = true then (bd1 (mf_hiderOf N S a1 a2 a3) fun v2 => some v2) else some (-7)) else some (-5)))
set_option maxRecDepth 100000 in
theorem cm_hidden (l : Launch) (N : Nat) (S : mS) (a1 : Int32) (a2 : Int32) (a3 : Int32) (res : Int32) (hf : mf_hidden N S a1 a2 a3 = some res) : mMi l yX12_hidden cX12_hidden 4 .int 6 (fun g => [.ref (mr g 0), .int a1, .int a2, .int a3]) S res S := by
  refine mMi_of (own := RX12) (by decide) rfl rfl (fun g => Nat.le_of_ble_eq_true rfl) ?_
  intro p e R s m args below meth c Q g A H0 H locs ls hc hR hml hw hl hQ
  have hl : lv_has ls 4 [(0, .ref (mr g 0)), (1, .int a1), (2, .int a2), (3, .int a3)] := hl
  have hx := hc.1
  have hb := hc.2.1
  unfold mf_hidden at hf
  refine lv_aload_n hx hb dX12_hidden_0 rfl (lv_at hl 0 rfl) ?_
  refine lv_iload_n hx hb dX12_hidden_1 rfl (lv_at hl 1 rfl) ?_
  refine lv_iload_n hx hb dX12_hidden_2 rfl (lv_at hl 2 rfl) ?_
  obtain ⟨v1, hcall, hf⟩ := bd1_some hf
  refine m_cvi (As := [.int a1, .int a2]) (rest := []) hc hw hR (hml.trans hl.1.symm) (cm_isSeat l N S a1 a2 v1 hcall) mq_isSeat rfl (by decide) rfl rfl rfl (Nat.le_of_ble_eq_true rfl) dX12_hidden_3 (fun H locs hw => ?_) ⟨Nat.zero_le _, Nat.zero_le _⟩
  refine lv_if_neb (tgt := 14) hx hb dX12_hidden_6 (by decide) (fun cn3 => ?_) (fun cn3 => ?_)
  · have hf := (if_pos cn3).symm.trans hf
    refine lv_iload_n hx hb dX12_hidden_14 rfl (lv_at hl 3 rfl) ?_
    refine lv_iconst (v := 0) hx hb dX12_hidden_15 (by decide) ?_
    refine lv_aload_n hx hb dX12_hidden_16 rfl (lv_at hl 0 rfl) ?_
    refine m_g10 hc hw dX12_hidden_17 ?_
    refine lv_iconst (v := 1) hx hb dX12_hidden_20 (by decide) ?_
    refine lv_isub hx hb dX12_hidden_21 ?_
    refine m_csi (As := [.int a3, .int 0, .int ((S.1 10 0) - 1)]) (rest := []) hc hw hR (hml.trans hl.1.symm) (cm_in l S a3 0 ((S.1 10 0) - 1) _ rfl) mq_in (by decide) rfl rfl rfl (Nat.le_of_ble_eq_true rfl) dX12_hidden_22 (fun H locs hw => ?_) ⟨Nat.zero_le _, Nat.zero_le _⟩
    refine lv_if_eqb (tgt := 38) hx hb dX12_hidden_25 (by decide) (fun cn4 => ?_) (fun cn4 => ?_)
    · have hf := (if_neg cn4).symm.trans hf
      refine lv_bipush (v := (-7)) hx hb dX12_hidden_38 (by decide) ?_
      obtain rfl := Option.some.inj hf
      exact hQ _ _ _ _ dX12_hidden_40 hw
    · have hf := (if_pos cn4).symm.trans hf
      refine lv_aload_n hx hb dX12_hidden_28 rfl (lv_at hl 0 rfl) ?_
      refine lv_iload_n hx hb dX12_hidden_29 rfl (lv_at hl 1 rfl) ?_
      refine lv_iload_n hx hb dX12_hidden_30 rfl (lv_at hl 2 rfl) ?_
      refine lv_iload_n hx hb dX12_hidden_31 rfl (lv_at hl 3 rfl) ?_
      obtain ⟨v2, hcall, hf⟩ := bd1_some hf
      refine m_cvi (As := [.int a1, .int a2, .int a3]) (rest := []) hc hw hR (hml.trans hl.1.symm) (cm_hiderOf l N S a1 a2 a3 v2 hcall) mq_hiderOf rfl (by decide) rfl rfl rfl (Nat.le_of_ble_eq_true rfl) dX12_hidden_32 (fun H locs hw => ?_) ⟨Nat.zero_le _, Nat.zero_le _⟩
      refine lv_goto (tgt := 40) hx hb dX12_hidden_35 (by decide) ?_
      obtain rfl := Option.some.inj hf
      exact hQ _ _ _ _ dX12_hidden_40 hw
  · have hf := (if_neg cn3).symm.trans hf
    refine lv_bipush (v := (-5)) hx hb dX12_hidden_9 (by decide) ?_
    refine lv_goto (tgt := 40) hx hb dX12_hidden_11 (by decide) ?_
    obtain rfl := Option.some.inj hf
    exact hQ _ _ _ _ dX12_hidden_40 hw
def mf_seesOf_L5 (N : Nat) (c1 : Int32) (c2 : Int32) : Nat → mS → Int32 → Int32 → Option (Int32)
  | 0, _, _, _ => none
  | n + 1, S5, v3, v4 => (if (S5.1 10 0) ≤ v4 then some v3 else (bd1 (mf_hiderOf N S5 c1 c2 v4) fun v6 => mf_seesOf_L5 N c1 c2 n S5 (v3 ||| ((if v6 = (-1) then (1 : Int32) <<< (v4 &&& 31) else 0) : Int32)) (v4 + 1)))
set_option maxRecDepth 100000 in
theorem wm_seesOf_L5 {p : Program} {l : Launch} {e : Env} {R : Room} {s : State} {m : MethodId} {args : Array Value} {below : List Frame} {meth : Method} {c : Code} {Q : State → Prop} {g : mG} {A : Nat → Prop} {H0 : Heap} (hc : qC RX12 cX12_seesOf p s m args c) (hR : qRoom R 6) (hml : c.maxLocals = 5) (N : Nat) (c1 : Int32) (c2 : Int32) : ∀ (n : Nat) (S5 : mS) (v3 : Int32) (v4 : Int32) (X : Int32) (H : Heap) (locs : List Loc) (ls : Array Slot), mf_seesOf_L5 N c1 c2 n S5 v3 v4 = some X → mI g A H0 s S5 H locs → lv_has ls 5 [(0, .ref (mr g 0)), (1, .int c1), (2, .int c2), (3, .int v3), (4, .int v4)] → (∀ (H : Heap) (locs : List Loc) (ls : Array Slot), mI g A H0 s S5 H locs → lv_has ls 5 [(3, .int X)] → W p l e R s m args below meth c H locs 0 0 Q (F0 m 43 ls [])) → W p l e R s m args below meth c H locs 0 0 Q (F0 m 5 ls []) := by
  have hx := hc.1
  have hb := hc.2.1
  intro n
  induction n with
  | zero => intro _ _ _ X H locs ls hf; exact nomatch (show none = some X from hf)
  | succ n ih =>
    intro S5 v3 v4 X H locs ls hf hw hl kx
    rw [mf_seesOf_L5] at hf
    refine lv_iload hx hb dX12_seesOf_5 (lv_at hl 4 rfl) ?_
    refine lv_aload_n hx hb dX12_seesOf_7 rfl (lv_at hl 0 rfl) ?_
    refine m_g10 hc hw dX12_seesOf_8 ?_
    refine lv_icmp_ge (tgt := 43) hx hb dX12_seesOf_11 (by decide) (fun cn9 => ?_) (fun cn9 => ?_)
    · have hf := (if_pos cn9).symm.trans hf
      obtain rfl := Option.some.inj hf
      exact kx _ _ _ hw (lv_sub hl [3] rfl)
    · have hf := (if_neg cn9).symm.trans hf
      refine lv_iload_n hx hb dX12_seesOf_14 rfl (lv_at hl 3 rfl) ?_
      refine lv_aload_n hx hb dX12_seesOf_15 rfl (lv_at hl 0 rfl) ?_
      refine lv_iload_n hx hb dX12_seesOf_16 rfl (lv_at hl 1 rfl) ?_
      refine lv_iload_n hx hb dX12_seesOf_17 rfl (lv_at hl 2 rfl) ?_
      refine lv_iload hx hb dX12_seesOf_18 (lv_at hl 4 rfl) ?_
      obtain ⟨v6, hcall, hf⟩ := bd1_some hf
      refine m_cvi (As := [.int c1, .int c2, .int v4]) (rest := [.int v3]) hc hw hR (hml.trans hl.1.symm) (cm_hiderOf l N S5 c1 c2 v4 v6 hcall) mq_hiderOf rfl (by decide) rfl rfl rfl (Nat.le_of_ble_eq_true rfl) dX12_seesOf_20 (fun H locs hw => ?_) ⟨Nat.zero_le _, Nat.zero_le _⟩
      refine lv_iconst (v := (-1)) hx hb dX12_seesOf_23 (by decide) ?_
      obtain ⟨v7, hv7⟩ : ∃ y : Int32, y = (if v6 = (-1) then (1 : Int32) <<< (v4 &&& 31) else 0) := ⟨_, rfl⟩
      try rw [← hv7] at hf
      have kJ10 : ∀ v7x : Int32, v7 = v7x → ∀ (H : Heap) (locs : List Loc) (ls : Array Slot), mI g A H0 s S5 H locs → lv_has ls 5 [(0, .ref (mr g 0)), (1, .int c1), (2, .int c2), (4, .int v4)] → W p l e R s m args below meth c H locs 0 0 Q (F0 m 35 ls [.int v7x, .int v3]) := by
        intro v7x hxv7 H locs ls hw hl
        subst hxv7
        refine lv_ior hx hb dX12_seesOf_35 ?_
        refine lv_istore_n (lv' := [(3, .int (v3 ||| v7)), (0, .ref (mr g 0)), (1, .int c1), (2, .int c2), (4, .int v4)]) hx hb dX12_seesOf_36 rfl hl (by decide) rfl (fun ls hl => ?_)
        refine lv_iinc (lv' := [(4, .int (v4 + 1)), (3, .int (v3 ||| v7)), (0, .ref (mr g 0)), (1, .int c1), (2, .int c2)]) hx hb dX12_seesOf_37 hl (k := 4) rfl rfl (by decide) rfl (fun ls hl => ?_)
        refine lv_goto (tgt := 5) hx hb dX12_seesOf_40 (by decide) ?_
        exact ih _ _ _ X _ _ _ hf hw (lv_sub hl [2, 3, 4, 1, 0] rfl) kx
      refine lv_icmp_ne (tgt := 34) hx hb dX12_seesOf_24 (by decide) (fun cn11 => ?_) (fun cn11 => ?_)
      · refine lv_iconst (v := 0) hx hb dX12_seesOf_34 (by decide) ?_
        have ev7 : v7 = (0 : Int32) := by rw [hv7]; simp only [if_neg cn11]
        exact kJ10 _ ev7 _ _ _ hw (lv_sub hl [0, 1, 2, 4] rfl)
      · refine lv_iconst (v := 1) hx hb dX12_seesOf_27 (by decide) ?_
        refine lv_iload hx hb dX12_seesOf_28 (lv_at hl 4 rfl) ?_
        refine lv_ishl hx hb dX12_seesOf_30 ?_
        refine lv_goto (tgt := 35) hx hb dX12_seesOf_31 (by decide) ?_
        have ev7 : v7 = ((1 : Int32) <<< (v4 &&& 31)) := by rw [hv7]; simp only [if_pos cn11]
        exact kJ10 _ ev7 _ _ _ hw (lv_sub hl [0, 1, 2, 4] rfl)
def mf_seesOf (N : Nat) (S : mS) (a1 : Int32) (a2 : Int32) : Option (Int32) := (bd1 (mf_seesOf_L5 N a1 a2 N S 0 0) fun v8 => some v8)
set_option maxRecDepth 100000 in
theorem cm_seesOf (l : Launch) (N : Nat) (S : mS) (a1 : Int32) (a2 : Int32) (res : Int32) (hf : mf_seesOf N S a1 a2 = some res) : mMi l yX12_seesOf cX12_seesOf 5 .int 6 (fun g => [.ref (mr g 0), .int a1, .int a2]) S res S := by
  refine mMi_of (own := RX12) (by decide) rfl rfl (fun g => Nat.le_of_ble_eq_true rfl) ?_
  intro p e R s m args below meth c Q g A H0 H locs ls hc hR hml hw hl hQ
  have hl : lv_has ls 5 [(0, .ref (mr g 0)), (1, .int a1), (2, .int a2)] := hl
  have hx := hc.1
  have hb := hc.2.1
  unfold mf_seesOf at hf
  refine lv_iconst (v := 0) hx hb dX12_seesOf_0 (by decide) ?_
  refine lv_istore_n (lv' := [(3, .int 0), (0, .ref (mr g 0)), (1, .int a1), (2, .int a2)]) hx hb dX12_seesOf_1 rfl hl (by decide) rfl (fun ls hl => ?_)
  refine lv_iconst (v := 0) hx hb dX12_seesOf_2 (by decide) ?_
  refine lv_istore (lv' := [(4, .int 0), (3, .int 0), (0, .ref (mr g 0)), (1, .int a1), (2, .int a2)]) hx hb dX12_seesOf_3 hl (by decide) rfl (fun ls hl => ?_)
  obtain ⟨v8, hL, hf⟩ := bd1_some hf
  refine wm_seesOf_L5 hc hR hml N a1 a2 N _ _ _ _ _ _ _ hL hw (lv_sub hl [2, 3, 4, 1, 0] rfl) (fun H locs ls hw hl => ?_)
  refine lv_iload_n hx hb dX12_seesOf_43 rfl (lv_at hl 0 rfl) ?_
  obtain rfl := Option.some.inj hf
  exact hQ _ _ _ _ dX12_seesOf_44 hw
theorem mq_seesOf : qCv RX12 288 yX12_seesOf cX12_seesOf 5 (some .int) 2 := ⟨⟨(mem_g 1481 (by decide +kernel) rfl), (mem_g 1483 (by decide +kernel) rfl), (mem_g 57 (by decide +kernel) rfl), (mem_g 89 (by decide +kernel) rfl), (mem_g 1484 (by decide +kernel) rfl)⟩, by decide, by decide +kernel, by decide⟩
def mf_worthOf_L5 (N : Nat) (c1 : Int32) (c2 : Int32) : Nat → mS → Int32 → Int32 → Option (Int32 × mS)
  | 0, _, _, _ => none
  | n + 1, S5, v3, v4 => (if (S5.1 10 0) ≤ v4 then some (v3, S5) else (bd1 (mf_hiderOf N S5 c1 c2 v4) fun v6 => (bd2 (if v6 = (-1) then (bd2 (mf_likeOf N S5 c1 c2 v4) fun v7 S8 => some (v7, S8)) else some (0, S5)) fun v9 S10 => mf_worthOf_L5 N c1 c2 n S10 (v3 + v9) (v4 + 1))))
set_option maxRecDepth 100000 in
theorem wm_worthOf_L5 {p : Program} {l : Launch} {e : Env} {R : Room} {s : State} {m : MethodId} {args : Array Value} {below : List Frame} {meth : Method} {c : Code} {Q : State → Prop} {g : mG} {A : Nat → Prop} {H0 : Heap} (hc : qC RX12 cX12_worthOf p s m args c) (hR : qRoom R 6) (hml : c.maxLocals = 5) (N : Nat) (c1 : Int32) (c2 : Int32) : ∀ (n : Nat) (S5 : mS) (v3 : Int32) (v4 : Int32) (X : Int32 × mS) (H : Heap) (locs : List Loc) (ls : Array Slot), mf_worthOf_L5 N c1 c2 n S5 v3 v4 = some X → mI g A H0 s S5 H locs → lv_has ls 5 [(0, .ref (mr g 0)), (1, .int c1), (2, .int c2), (3, .int v3), (4, .int v4)] → (∀ (H : Heap) (locs : List Loc) (ls : Array Slot), mI g A H0 s X.2 H locs → lv_has ls 5 [(3, .int X.1)] → W p l e R s m args below meth c H locs 0 0 Q (F0 m 47 ls [])) → W p l e R s m args below meth c H locs 0 0 Q (F0 m 5 ls []) := by
  have hx := hc.1
  have hb := hc.2.1
  intro n
  induction n with
  | zero => intro _ _ _ X H locs ls hf; exact nomatch (show none = some X from hf)
  | succ n ih =>
    intro S5 v3 v4 X H locs ls hf hw hl kx
    rw [mf_worthOf_L5] at hf
    refine lv_iload hx hb dX12_worthOf_5 (lv_at hl 4 rfl) ?_
    refine lv_aload_n hx hb dX12_worthOf_7 rfl (lv_at hl 0 rfl) ?_
    refine m_g10 hc hw dX12_worthOf_8 ?_
    refine lv_icmp_ge (tgt := 47) hx hb dX12_worthOf_11 (by decide) (fun cn13 => ?_) (fun cn13 => ?_)
    · have hf := (if_pos cn13).symm.trans hf
      obtain rfl := Option.some.inj hf
      exact kx _ _ _ hw (lv_sub hl [3] rfl)
    · have hf := (if_neg cn13).symm.trans hf
      refine lv_iload_n hx hb dX12_worthOf_14 rfl (lv_at hl 3 rfl) ?_
      refine lv_aload_n hx hb dX12_worthOf_15 rfl (lv_at hl 0 rfl) ?_
      refine lv_iload_n hx hb dX12_worthOf_16 rfl (lv_at hl 1 rfl) ?_
      refine lv_iload_n hx hb dX12_worthOf_17 rfl (lv_at hl 2 rfl) ?_
      refine lv_iload hx hb dX12_worthOf_18 (lv_at hl 4 rfl) ?_
      obtain ⟨v6, hcall, hf⟩ := bd1_some hf
      refine m_cvi (As := [.int c1, .int c2, .int v4]) (rest := [.int v3]) hc hw hR (hml.trans hl.1.symm) (cm_hiderOf l N S5 c1 c2 v4 v6 hcall) mq_hiderOf rfl (by decide) rfl rfl rfl (Nat.le_of_ble_eq_true rfl) dX12_worthOf_20 (fun H locs hw => ?_) ⟨Nat.zero_le _, Nat.zero_le _⟩
      refine lv_iconst (v := (-1)) hx hb dX12_worthOf_23 (by decide) ?_
      obtain ⟨v9, S10, hX14, hf⟩ := bd2_some hf
      have kJ15 : ∀ (H : Heap) (locs : List Loc) (ls : Array Slot), mI g A H0 s S10 H locs → lv_has ls 5 [(0, .ref (mr g 0)), (1, .int c1), (2, .int c2), (4, .int v4)] → W p l e R s m args below meth c H locs 0 0 Q (F0 m 39 ls [.int v9, .int v3]) := by
        intro H locs ls hw hl
        refine lv_iadd hx hb dX12_worthOf_39 ?_
        refine lv_istore_n (lv' := [(3, .int (v3 + v9)), (0, .ref (mr g 0)), (1, .int c1), (2, .int c2), (4, .int v4)]) hx hb dX12_worthOf_40 rfl hl (by decide) rfl (fun ls hl => ?_)
        refine lv_iinc (lv' := [(4, .int (v4 + 1)), (3, .int (v3 + v9)), (0, .ref (mr g 0)), (1, .int c1), (2, .int c2)]) hx hb dX12_worthOf_41 hl (k := 4) rfl rfl (by decide) rfl (fun ls hl => ?_)
        refine lv_goto (tgt := 5) hx hb dX12_worthOf_44 (by decide) ?_
        exact ih _ _ _ X _ _ _ hf hw (lv_sub hl [2, 3, 4, 1, 0] rfl) kx
      refine lv_icmp_ne (tgt := 38) hx hb dX12_worthOf_24 (by decide) (fun cn16 => ?_) (fun cn16 => ?_)
      · have hX14 := (if_neg cn16).symm.trans hX14
        refine lv_iconst (v := 0) hx hb dX12_worthOf_38 (by decide) ?_
        obtain ⟨rfl, rfl⟩ := pr2_some hX14
        exact kJ15 _ _ _ hw (lv_sub hl [0, 1, 2, 4] rfl)
      · have hX14 := (if_pos cn16).symm.trans hX14
        refine lv_aload_n hx hb dX12_worthOf_27 rfl (lv_at hl 0 rfl) ?_
        refine lv_iload_n hx hb dX12_worthOf_28 rfl (lv_at hl 1 rfl) ?_
        refine lv_iload_n hx hb dX12_worthOf_29 rfl (lv_at hl 2 rfl) ?_
        refine lv_iload hx hb dX12_worthOf_30 (lv_at hl 4 rfl) ?_
        obtain ⟨v7, S8, hcall, hX14⟩ := bd2_some hX14
        refine m_cvi (As := [.int c1, .int c2, .int v4]) (rest := [.int v3]) hc hw hR (hml.trans hl.1.symm) (cm_likeOf l N S5 c1 c2 v4 v7 S8 hcall) mq_likeOf rfl (by decide) rfl rfl rfl (Nat.le_of_ble_eq_true rfl) dX12_worthOf_32 (fun H locs hw => ?_) ⟨Nat.zero_le _, Nat.zero_le _⟩
        refine lv_goto (tgt := 39) hx hb dX12_worthOf_35 (by decide) ?_
        obtain ⟨rfl, rfl⟩ := pr2_some hX14
        exact kJ15 _ _ _ hw (lv_sub hl [0, 1, 2, 4] rfl)
def mf_worthOf (N : Nat) (S : mS) (a1 : Int32) (a2 : Int32) : Option (Int32 × mS) := (bd2 (mf_worthOf_L5 N a1 a2 N S 0 0) fun v11 S12 => some (v11, S12))
set_option maxRecDepth 100000 in
theorem cm_worthOf (l : Launch) (N : Nat) (S : mS) (a1 : Int32) (a2 : Int32) (res : Int32) (S1 : mS) (hf : mf_worthOf N S a1 a2 = some (res, S1)) : mMi l yX12_worthOf cX12_worthOf 5 .int 6 (fun g => [.ref (mr g 0), .int a1, .int a2]) S res S1 := by
  refine mMi_of (own := RX12) (by decide) rfl rfl (fun g => Nat.le_of_ble_eq_true rfl) ?_
  intro p e R s m args below meth c Q g A H0 H locs ls hc hR hml hw hl hQ
  have hl : lv_has ls 5 [(0, .ref (mr g 0)), (1, .int a1), (2, .int a2)] := hl
  have hx := hc.1
  have hb := hc.2.1
  unfold mf_worthOf at hf
  refine lv_iconst (v := 0) hx hb dX12_worthOf_0 (by decide) ?_
  refine lv_istore_n (lv' := [(3, .int 0), (0, .ref (mr g 0)), (1, .int a1), (2, .int a2)]) hx hb dX12_worthOf_1 rfl hl (by decide) rfl (fun ls hl => ?_)
  refine lv_iconst (v := 0) hx hb dX12_worthOf_2 (by decide) ?_
  refine lv_istore (lv' := [(4, .int 0), (3, .int 0), (0, .ref (mr g 0)), (1, .int a1), (2, .int a2)]) hx hb dX12_worthOf_3 hl (by decide) rfl (fun ls hl => ?_)
  obtain ⟨v11, S12, hL, hf⟩ := bd2_some hf
  refine wm_worthOf_L5 hc hR hml N a1 a2 N _ _ _ _ _ _ _ hL hw (lv_sub hl [2, 3, 4, 1, 0] rfl) (fun H locs ls hw hl => ?_)
  refine lv_iload_n hx hb dX12_worthOf_47 rfl (lv_at hl 0 rfl) ?_
  obtain ⟨rfl, rfl⟩ := pr2_some hf
  exact hQ _ _ _ _ dX12_worthOf_48 hw
theorem mq_worthOf : qCv RX12 301 yX12_worthOf cX12_worthOf 5 (some .int) 2 := ⟨⟨(mem_g 1489 (by decide +kernel) rfl), (mem_g 1491 (by decide +kernel) rfl), (mem_g 58 (by decide +kernel) rfl), (mem_g 89 (by decide +kernel) rfl), (mem_g 1492 (by decide +kernel) rfl)⟩, by decide, by decide +kernel, by decide⟩
def mf_chance (N : Nat) (S : mS) (a1 : Int32) (a2 : Int32) (a3 : Int32) (a4 : Int32) : Option (Int64 × mS) := (bd1 (mf_isSeat N S a1 a2) fun v1 => (if v1 = true then (if (mf_in a3 0 ((S.1 10 0) - 1)) = true then (if (mf_in a4 0 1) = true then (bd1 (mf_allCounts N S) fun v2 => (if v2 = 0 then some ((-4611686018427387904), S) else (bd1 (mf_cases N S a1 a2 a3) fun S3 => (bd1 (mf_allCounts N S3) fun v4 => (bd1 (mf_power N v4.toInt64 (S3.1 52 0)) fun v5 => (bd1 (mf_lowest N (S3.2 53 0) v5 a4) fun v6 => some (v6, S3))))))) else some ((-4611686018427387904), S)) else some ((-4611686018427387904), S)) else some ((-4611686018427387904), S)))
set_option maxRecDepth 100000 in
theorem cm_chance (l : Launch) (N : Nat) (S : mS) (a1 : Int32) (a2 : Int32) (a3 : Int32) (a4 : Int32) (res : Int64) (S1 : mS) (hf : mf_chance N S a1 a2 a3 a4 = some (res, S1)) : mMl l yX12_chance cX12_chance 5 6 (fun g => [.ref (mr g 0), .int a1, .int a2, .int a3, .int a4]) S res S1 := by
  refine mMl_of (own := RX12) (by decide) rfl (fun g => Nat.le_of_ble_eq_true rfl) ?_
  intro p e R s m args below meth c Q g A H0 H locs ls hc hR hml hw hl hQ
  have hl : lv_has ls 5 [(0, .ref (mr g 0)), (1, .int a1), (2, .int a2), (3, .int a3), (4, .int a4)] := hl
  have hx := hc.1
  have hb := hc.2.1
  unfold mf_chance at hf
  refine lv_aload_n hx hb dX12_chance_0 rfl (lv_at hl 0 rfl) ?_
  refine lv_iload_n hx hb dX12_chance_1 rfl (lv_at hl 1 rfl) ?_
  refine lv_iload_n hx hb dX12_chance_2 rfl (lv_at hl 2 rfl) ?_
  obtain ⟨v1, hcall, hf⟩ := bd1_some hf
  refine m_cvi (As := [.int a1, .int a2]) (rest := []) hc hw hR (hml.trans hl.1.symm) (cm_isSeat l N S a1 a2 v1 hcall) mq_isSeat rfl (by decide) rfl rfl rfl (Nat.le_of_ble_eq_true rfl) dX12_chance_3 (fun H locs hw => ?_) ⟨Nat.zero_le _, Nat.zero_le _⟩
  refine lv_if_eqb (tgt := 40) hx hb dX12_chance_6 (by decide) (fun cn7 => ?_) (fun cn7 => ?_)
  · have hf := (if_neg cn7).symm.trans hf
    refine lv_ldc2 (v := (-4611686018427387904)) hx hb hc.2.2.1 (hc.2.2.2 _ (mem_g 1556 (by decide +kernel) rfl)) dX12_chance_40 ?_
    obtain ⟨rfl, rfl⟩ := pr2_some hf
    exact hQ _ _ _ _ dX12_chance_43 hw
  · have hf := (if_pos cn7).symm.trans hf
    refine lv_iload_n hx hb dX12_chance_9 rfl (lv_at hl 3 rfl) ?_
    refine lv_iconst (v := 0) hx hb dX12_chance_10 (by decide) ?_
    refine lv_aload_n hx hb dX12_chance_11 rfl (lv_at hl 0 rfl) ?_
    refine m_g10 hc hw dX12_chance_12 ?_
    refine lv_iconst (v := 1) hx hb dX12_chance_15 (by decide) ?_
    refine lv_isub hx hb dX12_chance_16 ?_
    refine m_csi (As := [.int a3, .int 0, .int ((S.1 10 0) - 1)]) (rest := []) hc hw hR (hml.trans hl.1.symm) (cm_in l S a3 0 ((S.1 10 0) - 1) _ rfl) mq_in (by decide) rfl rfl rfl (Nat.le_of_ble_eq_true rfl) dX12_chance_17 (fun H locs hw => ?_) ⟨Nat.zero_le _, Nat.zero_le _⟩
    refine lv_if_eqb (tgt := 40) hx hb dX12_chance_20 (by decide) (fun cn8 => ?_) (fun cn8 => ?_)
    · have hf := (if_neg cn8).symm.trans hf
      refine lv_ldc2 (v := (-4611686018427387904)) hx hb hc.2.2.1 (hc.2.2.2 _ (mem_g 1556 (by decide +kernel) rfl)) dX12_chance_40 ?_
      obtain ⟨rfl, rfl⟩ := pr2_some hf
      exact hQ _ _ _ _ dX12_chance_43 hw
    · have hf := (if_pos cn8).symm.trans hf
      refine lv_iload hx hb dX12_chance_23 (lv_at hl 4 rfl) ?_
      refine lv_iconst (v := 0) hx hb dX12_chance_25 (by decide) ?_
      refine lv_iconst (v := 1) hx hb dX12_chance_26 (by decide) ?_
      refine m_csi (As := [.int a4, .int 0, .int 1]) (rest := []) hc hw hR (hml.trans hl.1.symm) (cm_in l S a4 0 1 _ rfl) mq_in (by decide) rfl rfl rfl (Nat.le_of_ble_eq_true rfl) dX12_chance_27 (fun H locs hw => ?_) ⟨Nat.zero_le _, Nat.zero_le _⟩
      refine lv_if_eqb (tgt := 40) hx hb dX12_chance_30 (by decide) (fun cn9 => ?_) (fun cn9 => ?_)
      · have hf := (if_neg cn9).symm.trans hf
        refine lv_ldc2 (v := (-4611686018427387904)) hx hb hc.2.2.1 (hc.2.2.2 _ (mem_g 1556 (by decide +kernel) rfl)) dX12_chance_40 ?_
        obtain ⟨rfl, rfl⟩ := pr2_some hf
        exact hQ _ _ _ _ dX12_chance_43 hw
      · have hf := (if_pos cn9).symm.trans hf
        refine lv_aload_n hx hb dX12_chance_33 rfl (lv_at hl 0 rfl) ?_
        obtain ⟨v2, hcall, hf⟩ := bd1_some hf
        refine m_cvi (As := []) (rest := []) hc hw hR (hml.trans hl.1.symm) (cm_allCounts l N S v2 hcall) mq_allCounts rfl (by decide) rfl rfl rfl (Nat.le_of_ble_eq_true rfl) dX12_chance_34 (fun H locs hw => ?_) ⟨Nat.zero_le _, Nat.zero_le _⟩
        refine lv_if_ne (tgt := 44) hx hb dX12_chance_37 (by decide) (fun cn10 => ?_) (fun cn10 => ?_)
        · have hf := (if_neg cn10).symm.trans hf
          refine lv_aload_n hx hb dX12_chance_44 rfl (lv_at hl 0 rfl) ?_
          refine lv_iload_n hx hb dX12_chance_45 rfl (lv_at hl 1 rfl) ?_
          refine lv_iload_n hx hb dX12_chance_46 rfl (lv_at hl 2 rfl) ?_
          refine lv_iload_n hx hb dX12_chance_47 rfl (lv_at hl 3 rfl) ?_
          obtain ⟨S3, hcall, hf⟩ := bd1_some hf
          refine m_cvv (As := [.int a1, .int a2, .int a3]) (rest := []) hc hw hR (hml.trans hl.1.symm) (cm_cases l N S a1 a2 a3 S3 hcall) mq_cases rfl (by decide) rfl rfl rfl (Nat.le_of_ble_eq_true rfl) dX12_chance_48 (fun H locs hw => ?_) ⟨Nat.zero_le _, Nat.zero_le _⟩
          refine lv_aload_n hx hb dX12_chance_51 rfl (lv_at hl 0 rfl) ?_
          refine m_g53 hc hw dX12_chance_52 ?_
          refine lv_aload_n hx hb dX12_chance_55 rfl (lv_at hl 0 rfl) ?_
          obtain ⟨v4, hcall, hf⟩ := bd1_some hf
          refine m_cvi (As := []) (rest := [.long (S3.2 53 0)]) hc hw hR (hml.trans hl.1.symm) (cm_allCounts l N S3 v4 hcall) mq_allCounts rfl (by decide) rfl rfl rfl (Nat.le_of_ble_eq_true rfl) dX12_chance_56 (fun H locs hw => ?_) ⟨Nat.zero_le _, Nat.zero_le _⟩
          refine lv_i2l hx hb dX12_chance_59 rfl ?_
          refine lv_aload_n hx hb dX12_chance_60 rfl (lv_at hl 0 rfl) ?_
          refine m_g52 hc hw dX12_chance_61 ?_
          obtain ⟨v5, hcall, hf⟩ := bd1_some hf
          refine m_csl (As := [.long v4.toInt64, .int (S3.1 52 0)]) (rest := [.long (S3.2 53 0)]) hc hw hR (hml.trans hl.1.symm) (cm_power l N S3 v4.toInt64 (S3.1 52 0) v5 hcall) mq_power (by decide) rfl rfl rfl (Nat.le_of_ble_eq_true rfl) dX12_chance_64 (fun H locs hw => ?_) ⟨Nat.zero_le _, Nat.zero_le _⟩
          refine lv_iload hx hb dX12_chance_67 (lv_at hl 4 rfl) ?_
          obtain ⟨v6, hcall, hf⟩ := bd1_some hf
          refine m_csl (As := [.long (S3.2 53 0), .long v5, .int a4]) (rest := []) hc hw hR (hml.trans hl.1.symm) (cm_lowest l N S3 (S3.2 53 0) v5 a4 v6 hcall) mq_lowest (by decide) rfl rfl rfl (Nat.le_of_ble_eq_true rfl) dX12_chance_69 (fun H locs hw => ?_) ⟨Nat.zero_le _, Nat.zero_le _⟩
          obtain ⟨rfl, rfl⟩ := pr2_some hf
          exact hQ _ _ _ _ dX12_chance_72 hw
        · have hf := (if_pos cn10).symm.trans hf
          refine lv_ldc2 (v := (-4611686018427387904)) hx hb hc.2.2.1 (hc.2.2.2 _ (mem_g 1556 (by decide +kernel) rfl)) dX12_chance_40 ?_
          obtain ⟨rfl, rfl⟩ := pr2_some hf
          exact hQ _ _ _ _ dX12_chance_43 hw
def mf_mean_L35 (N : Nat) (c3 : Int32) (c4 : Int32) (c5 : Int32) : Nat → mS → Int32 → Int32 → Option (Int32 × mS)
  | 0, _, _, _ => none
  | n + 1, S8, v6, v7 => (if (S8.1 10 0) ≤ v7 then some (v6, S8) else (bd1 (mf_cases N S8 c3 c4 v7) fun S9 => (if (S9.1 52 0) ≤ v6 then mf_mean_L35 N c3 c4 c5 n S9 v6 (v7 + 1) else mf_mean_L35 N c3 c4 c5 n S9 (S9.1 52 0) (v7 + 1))))
set_option maxRecDepth 100000 in
theorem wm_mean_L35 {p : Program} {l : Launch} {e : Env} {R : Room} {s : State} {m : MethodId} {args : Array Value} {below : List Frame} {meth : Method} {c : Code} {Q : State → Prop} {g : mG} {A : Nat → Prop} {H0 : Heap} (hc : qC RX12 cX12_mean p s m args c) (hR : qRoom R 6) (hml : c.maxLocals = 8) (N : Nat) (c3 : Int32) (c4 : Int32) (c5 : Int32) : ∀ (n : Nat) (S8 : mS) (v6 : Int32) (v7 : Int32) (X : Int32 × mS) (H : Heap) (locs : List Loc) (ls : Array Slot), mf_mean_L35 N c3 c4 c5 n S8 v6 v7 = some X → mI g A H0 s S8 H locs → lv_has ls 8 [(0, .ref (mr g 0)), (1, .int c3), (2, .int c4), (3, .int c5), (4, .int v6), (5, .int v7)] → (∀ (H : Heap) (locs : List Loc) (ls : Array Slot), mI g A H0 s X.2 H locs → lv_has ls 8 [(0, .ref (mr g 0)), (1, .int c3), (2, .int c4), (3, .int c5), (4, .int X.1)] → W p l e R s m args below meth c H locs 0 0 Q (F0 m 78 ls [])) → W p l e R s m args below meth c H locs 0 0 Q (F0 m 35 ls []) := by
  have hx := hc.1
  have hb := hc.2.1
  intro n
  induction n with
  | zero => intro _ _ _ X H locs ls hf; exact nomatch (show none = some X from hf)
  | succ n ih =>
    intro S8 v6 v7 X H locs ls hf hw hl kx
    rw [mf_mean_L35] at hf
    refine lv_iload hx hb dX12_mean_35 (lv_at hl 5 rfl) ?_
    refine lv_aload_n hx hb dX12_mean_37 rfl (lv_at hl 0 rfl) ?_
    refine m_g10 hc hw dX12_mean_38 ?_
    refine lv_icmp_ge (tgt := 78) hx hb dX12_mean_41 (by decide) (fun cn32 => ?_) (fun cn32 => ?_)
    · have hf := (if_pos cn32).symm.trans hf
      obtain rfl := Option.some.inj hf
      exact kx _ _ _ hw (lv_sub hl [0, 1, 2, 3, 4] rfl)
    · have hf := (if_neg cn32).symm.trans hf
      refine lv_aload_n hx hb dX12_mean_44 rfl (lv_at hl 0 rfl) ?_
      refine lv_iload_n hx hb dX12_mean_45 rfl (lv_at hl 1 rfl) ?_
      refine lv_iload_n hx hb dX12_mean_46 rfl (lv_at hl 2 rfl) ?_
      refine lv_iload hx hb dX12_mean_47 (lv_at hl 5 rfl) ?_
      obtain ⟨S9, hcall, hf⟩ := bd1_some hf
      refine m_cvv (As := [.int c3, .int c4, .int v7]) (rest := []) hc hw hR (hml.trans hl.1.symm) (cm_cases l N S8 c3 c4 v7 S9 hcall) mq_cases rfl (by decide) rfl rfl rfl (Nat.le_of_ble_eq_true rfl) dX12_mean_49 (fun H locs hw => ?_) ⟨Nat.zero_le _, Nat.zero_le _⟩
      refine lv_aload_n hx hb dX12_mean_52 rfl (lv_at hl 0 rfl) ?_
      refine m_g52 hc hw dX12_mean_53 ?_
      refine lv_iload hx hb dX12_mean_56 (lv_at hl 4 rfl) ?_
      refine lv_icmp_le (tgt := 68) hx hb dX12_mean_58 (by decide) (fun cn33 => ?_) (fun cn33 => ?_)
      · have hf := (if_pos cn33).symm.trans hf
        refine lv_iload hx hb dX12_mean_68 (lv_at hl 4 rfl) ?_
        refine lv_istore (lv' := [(4, .int v6), (0, .ref (mr g 0)), (1, .int c3), (2, .int c4), (3, .int c5), (5, .int v7)]) hx hb dX12_mean_70 hl (by decide) rfl (fun ls hl => ?_)
        refine lv_iinc (lv' := [(5, .int (v7 + 1)), (4, .int v6), (0, .ref (mr g 0)), (1, .int c3), (2, .int c4), (3, .int c5)]) hx hb dX12_mean_72 hl (k := 5) rfl rfl (by decide) rfl (fun ls hl => ?_)
        refine lv_goto (tgt := 35) hx hb dX12_mean_75 (by decide) ?_
        exact ih _ _ _ X _ _ _ hf hw (lv_sub hl [2, 3, 4, 5, 1, 0] rfl) kx
      · have hf := (if_neg cn33).symm.trans hf
        refine lv_aload_n hx hb dX12_mean_61 rfl (lv_at hl 0 rfl) ?_
        refine m_g52 hc hw dX12_mean_62 ?_
        refine lv_goto (tgt := 70) hx hb dX12_mean_65 (by decide) ?_
        refine lv_istore (lv' := [(4, .int (S9.1 52 0)), (0, .ref (mr g 0)), (1, .int c3), (2, .int c4), (3, .int c5), (5, .int v7)]) hx hb dX12_mean_70 hl (by decide) rfl (fun ls hl => ?_)
        refine lv_iinc (lv' := [(5, .int (v7 + 1)), (4, .int (S9.1 52 0)), (0, .ref (mr g 0)), (1, .int c3), (2, .int c4), (3, .int c5)]) hx hb dX12_mean_72 hl (k := 5) rfl rfl (by decide) rfl (fun ls hl => ?_)
        refine lv_goto (tgt := 35) hx hb dX12_mean_75 (by decide) ?_
        exact ih _ _ _ X _ _ _ hf hw (lv_sub hl [2, 3, 4, 5, 1, 0] rfl) kx
def mf_mean_L84 (N : Nat) (c12 : Int32) (c13 : Int32) (c14 : Int32) (c15 : Int32) : Nat → mS → Int64 → Int32 → Option (Int64 × mS)
  | 0, _, _, _ => none
  | n + 1, S18, v16, v17 => (if (S18.1 10 0) ≤ v17 then some (v16, S18) else (bd1 (mf_cases N S18 c12 c13 v17) fun S19 => (bd2 (mf_likeOf N S19 c12 c13 v17) fun v20 S21 => (bd1 (mf_allCounts N S21) fun v22 => (bd1 (mf_power N v22.toInt64 (c15 - (S21.1 52 0))) fun v23 => mf_mean_L84 N c12 c13 c14 c15 n S21 (v16 + ((v20.toInt64 * (S21.2 53 0)) * v23)) (v17 + 1))))))
set_option maxRecDepth 100000 in
theorem wm_mean_L84 {p : Program} {l : Launch} {e : Env} {R : Room} {s : State} {m : MethodId} {args : Array Value} {below : List Frame} {meth : Method} {c : Code} {Q : State → Prop} {g : mG} {A : Nat → Prop} {H0 : Heap} (hc : qC RX12 cX12_mean p s m args c) (hR : qRoom R 6) (hml : c.maxLocals = 8) (N : Nat) (c12 : Int32) (c13 : Int32) (c14 : Int32) (c15 : Int32) : ∀ (n : Nat) (S18 : mS) (v16 : Int64) (v17 : Int32) (X : Int64 × mS) (H : Heap) (locs : List Loc) (ls : Array Slot), mf_mean_L84 N c12 c13 c14 c15 n S18 v16 v17 = some X → mI g A H0 s S18 H locs → lv_has ls 8 [(0, .ref (mr g 0)), (1, .int c12), (2, .int c13), (3, .int c14), (4, .int c15), (5, .long v16), (7, .int v17)] → (∀ (H : Heap) (locs : List Loc) (ls : Array Slot), mI g A H0 s X.2 H locs → lv_has ls 8 [(0, .ref (mr g 0)), (3, .int c14), (4, .int c15), (5, .long X.1)] → W p l e R s m args below meth c H locs 0 0 Q (F0 m 142 ls [])) → W p l e R s m args below meth c H locs 0 0 Q (F0 m 84 ls []) := by
  have hx := hc.1
  have hb := hc.2.1
  intro n
  induction n with
  | zero => intro _ _ _ X H locs ls hf; exact nomatch (show none = some X from hf)
  | succ n ih =>
    intro S18 v16 v17 X H locs ls hf hw hl kx
    rw [mf_mean_L84] at hf
    refine lv_iload hx hb dX12_mean_84 (lv_at hl 6 rfl) ?_
    refine lv_aload_n hx hb dX12_mean_86 rfl (lv_at hl 0 rfl) ?_
    refine m_g10 hc hw dX12_mean_87 ?_
    refine lv_icmp_ge (tgt := 142) hx hb dX12_mean_90 (by decide) (fun cn36 => ?_) (fun cn36 => ?_)
    · have hf := (if_pos cn36).symm.trans hf
      obtain rfl := Option.some.inj hf
      exact kx _ _ _ hw (lv_sub hl [0, 3, 4, 5] rfl)
    · have hf := (if_neg cn36).symm.trans hf
      refine lv_aload_n hx hb dX12_mean_93 rfl (lv_at hl 0 rfl) ?_
      refine lv_iload_n hx hb dX12_mean_94 rfl (lv_at hl 1 rfl) ?_
      refine lv_iload_n hx hb dX12_mean_95 rfl (lv_at hl 2 rfl) ?_
      refine lv_iload hx hb dX12_mean_96 (lv_at hl 6 rfl) ?_
      obtain ⟨S19, hcall, hf⟩ := bd1_some hf
      refine m_cvv (As := [.int c12, .int c13, .int v17]) (rest := []) hc hw hR (hml.trans hl.1.symm) (cm_cases l N S18 c12 c13 v17 S19 hcall) mq_cases rfl (by decide) rfl rfl rfl (Nat.le_of_ble_eq_true rfl) dX12_mean_98 (fun H locs hw => ?_) ⟨Nat.zero_le _, Nat.zero_le _⟩
      refine lv_lload hx hb dX12_mean_101 (lv_at hl 5 rfl) ?_
      refine lv_aload_n hx hb dX12_mean_103 rfl (lv_at hl 0 rfl) ?_
      refine lv_iload_n hx hb dX12_mean_104 rfl (lv_at hl 1 rfl) ?_
      refine lv_iload_n hx hb dX12_mean_105 rfl (lv_at hl 2 rfl) ?_
      refine lv_iload hx hb dX12_mean_106 (lv_at hl 6 rfl) ?_
      obtain ⟨v20, S21, hcall, hf⟩ := bd2_some hf
      refine m_cvi (As := [.int c12, .int c13, .int v17]) (rest := [.long v16]) hc hw hR (hml.trans hl.1.symm) (cm_likeOf l N S19 c12 c13 v17 v20 S21 hcall) mq_likeOf rfl (by decide) rfl rfl rfl (Nat.le_of_ble_eq_true rfl) dX12_mean_108 (fun H locs hw => ?_) ⟨Nat.zero_le _, Nat.zero_le _⟩
      refine lv_i2l hx hb dX12_mean_111 rfl ?_
      refine lv_aload_n hx hb dX12_mean_112 rfl (lv_at hl 0 rfl) ?_
      refine m_g53 hc hw dX12_mean_113 ?_
      refine lv_lmul hx hb dX12_mean_116 ?_
      refine lv_aload_n hx hb dX12_mean_117 rfl (lv_at hl 0 rfl) ?_
      obtain ⟨v22, hcall, hf⟩ := bd1_some hf
      refine m_cvi (As := []) (rest := [.long (v20.toInt64 * (S21.2 53 0)), .long v16]) hc hw hR (hml.trans hl.1.symm) (cm_allCounts l N S21 v22 hcall) mq_allCounts rfl (by decide) rfl rfl rfl (Nat.le_of_ble_eq_true rfl) dX12_mean_118 (fun H locs hw => ?_) ⟨Nat.zero_le _, Nat.zero_le _⟩
      refine lv_i2l hx hb dX12_mean_121 rfl ?_
      refine lv_iload hx hb dX12_mean_122 (lv_at hl 4 rfl) ?_
      refine lv_aload_n hx hb dX12_mean_124 rfl (lv_at hl 0 rfl) ?_
      refine m_g52 hc hw dX12_mean_125 ?_
      refine lv_isub hx hb dX12_mean_128 ?_
      obtain ⟨v23, hcall, hf⟩ := bd1_some hf
      refine m_csl (As := [.long v22.toInt64, .int (c15 - (S21.1 52 0))]) (rest := [.long (v20.toInt64 * (S21.2 53 0)), .long v16]) hc hw hR (hml.trans hl.1.symm) (cm_power l N S21 v22.toInt64 (c15 - (S21.1 52 0)) v23 hcall) mq_power (by decide) rfl rfl rfl (Nat.le_of_ble_eq_true rfl) dX12_mean_129 (fun H locs hw => ?_) ⟨Nat.zero_le _, Nat.zero_le _⟩
      refine lv_lmul hx hb dX12_mean_132 ?_
      refine lv_ladd hx hb dX12_mean_133 ?_
      refine lv_lstore (lv' := [(5, .long (v16 + ((v20.toInt64 * (S21.2 53 0)) * v23))), (0, .ref (mr g 0)), (1, .int c12), (2, .int c13), (3, .int c14), (4, .int c15), (7, .int v17)]) hx hb dX12_mean_134 hl (by decide) rfl (fun ls hl => ?_)
      refine lv_iinc (lv' := [(7, .int (v17 + 1)), (5, .long (v16 + ((v20.toInt64 * (S21.2 53 0)) * v23))), (0, .ref (mr g 0)), (1, .int c12), (2, .int c13), (3, .int c14), (4, .int c15)]) hx hb dX12_mean_136 hl (k := 6) rfl rfl (by decide) rfl (fun ls hl => ?_)
      refine lv_goto (tgt := 84) hx hb dX12_mean_139 (by decide) ?_
      exact ih _ _ _ X _ _ _ hf hw (lv_sub hl [2, 3, 4, 5, 6, 1, 0] rfl) kx
def mf_mean (N : Nat) (S : mS) (a1 : Int32) (a2 : Int32) (a3 : Int32) : Option (Int64 × mS) := (bd1 (mf_isSeat N S a1 a2) fun v1 => (if v1 = true then (if (mf_in a3 0 1) = true then (bd1 (mf_allCounts N S) fun v2 => (if v2 = 0 then some ((-4611686018427387904), S) else (bd2 (mf_mean_L35 N a1 a2 a3 N S 0 0) fun v10 S11 => (bd2 (mf_mean_L84 N a1 a2 a3 v10 N S11 0 0) fun v24 S25 => (bd1 (mf_allCounts N S25) fun v26 => (bd1 (mf_power N v26.toInt64 v10) fun v27 => (bd1 (mf_lowest N v24 v27 a3) fun v28 => some (v28, S25)))))))) else some ((-4611686018427387904), S)) else some ((-4611686018427387904), S)))
set_option maxRecDepth 100000 in
theorem cm_mean (l : Launch) (N : Nat) (S : mS) (a1 : Int32) (a2 : Int32) (a3 : Int32) (res : Int64) (S1 : mS) (hf : mf_mean N S a1 a2 a3 = some (res, S1)) : mMl l yX12_mean cX12_mean 8 6 (fun g => [.ref (mr g 0), .int a1, .int a2, .int a3]) S res S1 := by
  refine mMl_of (own := RX12) (by decide) rfl (fun g => Nat.le_of_ble_eq_true rfl) ?_
  intro p e R s m args below meth c Q g A H0 H locs ls hc hR hml hw hl hQ
  have hl : lv_has ls 8 [(0, .ref (mr g 0)), (1, .int a1), (2, .int a2), (3, .int a3)] := hl
  have hx := hc.1
  have hb := hc.2.1
  unfold mf_mean at hf
  refine lv_aload_n hx hb dX12_mean_0 rfl (lv_at hl 0 rfl) ?_
  refine lv_iload_n hx hb dX12_mean_1 rfl (lv_at hl 1 rfl) ?_
  refine lv_iload_n hx hb dX12_mean_2 rfl (lv_at hl 2 rfl) ?_
  obtain ⟨v1, hcall, hf⟩ := bd1_some hf
  refine m_cvi (As := [.int a1, .int a2]) (rest := []) hc hw hR (hml.trans hl.1.symm) (cm_isSeat l N S a1 a2 v1 hcall) mq_isSeat rfl (by decide) rfl rfl rfl (Nat.le_of_ble_eq_true rfl) dX12_mean_3 (fun H locs hw => ?_) ⟨Nat.zero_le _, Nat.zero_le _⟩
  refine lv_if_eqb (tgt := 25) hx hb dX12_mean_6 (by decide) (fun cn29 => ?_) (fun cn29 => ?_)
  · have hf := (if_neg cn29).symm.trans hf
    refine lv_ldc2 (v := (-4611686018427387904)) hx hb hc.2.2.1 (hc.2.2.2 _ (mem_g 1556 (by decide +kernel) rfl)) dX12_mean_25 ?_
    obtain ⟨rfl, rfl⟩ := pr2_some hf
    exact hQ _ _ _ _ dX12_mean_28 hw
  · have hf := (if_pos cn29).symm.trans hf
    refine lv_iload_n hx hb dX12_mean_9 rfl (lv_at hl 3 rfl) ?_
    refine lv_iconst (v := 0) hx hb dX12_mean_10 (by decide) ?_
    refine lv_iconst (v := 1) hx hb dX12_mean_11 (by decide) ?_
    refine m_csi (As := [.int a3, .int 0, .int 1]) (rest := []) hc hw hR (hml.trans hl.1.symm) (cm_in l S a3 0 1 _ rfl) mq_in (by decide) rfl rfl rfl (Nat.le_of_ble_eq_true rfl) dX12_mean_12 (fun H locs hw => ?_) ⟨Nat.zero_le _, Nat.zero_le _⟩
    refine lv_if_eqb (tgt := 25) hx hb dX12_mean_15 (by decide) (fun cn30 => ?_) (fun cn30 => ?_)
    · have hf := (if_neg cn30).symm.trans hf
      refine lv_ldc2 (v := (-4611686018427387904)) hx hb hc.2.2.1 (hc.2.2.2 _ (mem_g 1556 (by decide +kernel) rfl)) dX12_mean_25 ?_
      obtain ⟨rfl, rfl⟩ := pr2_some hf
      exact hQ _ _ _ _ dX12_mean_28 hw
    · have hf := (if_pos cn30).symm.trans hf
      refine lv_aload_n hx hb dX12_mean_18 rfl (lv_at hl 0 rfl) ?_
      obtain ⟨v2, hcall, hf⟩ := bd1_some hf
      refine m_cvi (As := []) (rest := []) hc hw hR (hml.trans hl.1.symm) (cm_allCounts l N S v2 hcall) mq_allCounts rfl (by decide) rfl rfl rfl (Nat.le_of_ble_eq_true rfl) dX12_mean_19 (fun H locs hw => ?_) ⟨Nat.zero_le _, Nat.zero_le _⟩
      refine lv_if_ne (tgt := 29) hx hb dX12_mean_22 (by decide) (fun cn31 => ?_) (fun cn31 => ?_)
      · have hf := (if_neg cn31).symm.trans hf
        refine lv_iconst (v := 0) hx hb dX12_mean_29 (by decide) ?_
        refine lv_istore (lv' := [(4, .int 0), (0, .ref (mr g 0)), (1, .int a1), (2, .int a2), (3, .int a3)]) hx hb dX12_mean_30 hl (by decide) rfl (fun ls hl => ?_)
        refine lv_iconst (v := 0) hx hb dX12_mean_32 (by decide) ?_
        refine lv_istore (lv' := [(5, .int 0), (4, .int 0), (0, .ref (mr g 0)), (1, .int a1), (2, .int a2), (3, .int a3)]) hx hb dX12_mean_33 hl (by decide) rfl (fun ls hl => ?_)
        obtain ⟨v10, S11, hL, hf⟩ := bd2_some hf
        refine wm_mean_L35 hc hR hml N a1 a2 a3 N _ _ _ _ _ _ _ hL hw (lv_sub hl [2, 3, 4, 5, 1, 0] rfl) (fun H locs ls hw hl => ?_)
        refine lv_lconst (v := 0) hx hb dX12_mean_78 rfl ?_
        refine lv_lstore (lv' := [(5, .long 0), (0, .ref (mr g 0)), (1, .int a1), (2, .int a2), (3, .int a3), (4, .int v10)]) hx hb dX12_mean_79 hl (by decide) rfl (fun ls hl => ?_)
        refine lv_iconst (v := 0) hx hb dX12_mean_81 (by decide) ?_
        refine lv_istore (lv' := [(7, .int 0), (5, .long 0), (0, .ref (mr g 0)), (1, .int a1), (2, .int a2), (3, .int a3), (4, .int v10)]) hx hb dX12_mean_82 hl (by decide) rfl (fun ls hl => ?_)
        obtain ⟨v24, S25, hL, hf⟩ := bd2_some hf
        refine wm_mean_L84 hc hR hml N a1 a2 a3 v10 N _ _ _ _ _ _ _ hL hw (lv_sub hl [2, 3, 4, 5, 6, 1, 0] rfl) (fun H locs ls hw hl => ?_)
        refine lv_lload hx hb dX12_mean_142 (lv_at hl 3 rfl) ?_
        refine lv_aload_n hx hb dX12_mean_144 rfl (lv_at hl 0 rfl) ?_
        obtain ⟨v26, hcall, hf⟩ := bd1_some hf
        refine m_cvi (As := []) (rest := [.long v24]) hc hw hR (hml.trans hl.1.symm) (cm_allCounts l N S25 v26 hcall) mq_allCounts rfl (by decide) rfl rfl rfl (Nat.le_of_ble_eq_true rfl) dX12_mean_145 (fun H locs hw => ?_) ⟨Nat.zero_le _, Nat.zero_le _⟩
        refine lv_i2l hx hb dX12_mean_148 rfl ?_
        refine lv_iload hx hb dX12_mean_149 (lv_at hl 2 rfl) ?_
        obtain ⟨v27, hcall, hf⟩ := bd1_some hf
        refine m_csl (As := [.long v26.toInt64, .int v10]) (rest := [.long v24]) hc hw hR (hml.trans hl.1.symm) (cm_power l N S25 v26.toInt64 v10 v27 hcall) mq_power (by decide) rfl rfl rfl (Nat.le_of_ble_eq_true rfl) dX12_mean_151 (fun H locs hw => ?_) ⟨Nat.zero_le _, Nat.zero_le _⟩
        refine lv_iload_n hx hb dX12_mean_154 rfl (lv_at hl 1 rfl) ?_
        obtain ⟨v28, hcall, hf⟩ := bd1_some hf
        refine m_csl (As := [.long v24, .long v27, .int a3]) (rest := []) hc hw hR (hml.trans hl.1.symm) (cm_lowest l N S25 v24 v27 a3 v28 hcall) mq_lowest (by decide) rfl rfl rfl (Nat.le_of_ble_eq_true rfl) dX12_mean_155 (fun H locs hw => ?_) ⟨Nat.zero_le _, Nat.zero_le _⟩
        obtain ⟨rfl, rfl⟩ := pr2_some hf
        exact hQ _ _ _ _ dX12_mean_158 hw
      · have hf := (if_pos cn31).symm.trans hf
        refine lv_ldc2 (v := (-4611686018427387904)) hx hb hc.2.2.1 (hc.2.2.2 _ (mem_g 1556 (by decide +kernel) rfl)) dX12_mean_25 ?_
        obtain ⟨rfl, rfl⟩ := pr2_some hf
        exact hQ _ _ _ _ dX12_mean_28 hw
def mf_sees (N : Nat) (S : mS) (a1 : Int32) (a2 : Int32) : Option (Int32) := (bd1 (mf_isSeat N S a1 a2) fun v1 => (if v1 = true then (bd1 (mf_seesOf N S a1 a2) fun v2 => some v2) else some (-5)))
set_option maxRecDepth 100000 in
theorem cm_sees (l : Launch) (N : Nat) (S : mS) (a1 : Int32) (a2 : Int32) (res : Int32) (hf : mf_sees N S a1 a2 = some res) : mMi l yX12_sees cX12_sees 3 .int 7 (fun g => [.ref (mr g 0), .int a1, .int a2]) S res S := by
  refine mMi_of (own := RX12) (by decide) rfl rfl (fun g => Nat.le_of_ble_eq_true rfl) ?_
  intro p e R s m args below meth c Q g A H0 H locs ls hc hR hml hw hl hQ
  have hl : lv_has ls 3 [(0, .ref (mr g 0)), (1, .int a1), (2, .int a2)] := hl
  have hx := hc.1
  have hb := hc.2.1
  unfold mf_sees at hf
  refine lv_aload_n hx hb dX12_sees_0 rfl (lv_at hl 0 rfl) ?_
  refine lv_iload_n hx hb dX12_sees_1 rfl (lv_at hl 1 rfl) ?_
  refine lv_iload_n hx hb dX12_sees_2 rfl (lv_at hl 2 rfl) ?_
  obtain ⟨v1, hcall, hf⟩ := bd1_some hf
  refine m_cvi (As := [.int a1, .int a2]) (rest := []) hc hw hR (hml.trans hl.1.symm) (cm_isSeat l N S a1 a2 v1 hcall) mq_isSeat rfl (by decide) rfl rfl rfl (Nat.le_of_ble_eq_true rfl) dX12_sees_3 (fun H locs hw => ?_) ⟨Nat.zero_le _, Nat.zero_le _⟩
  refine lv_if_eqb (tgt := 18) hx hb dX12_sees_6 (by decide) (fun cn3 => ?_) (fun cn3 => ?_)
  · have hf := (if_neg cn3).symm.trans hf
    refine lv_bipush (v := (-5)) hx hb dX12_sees_18 (by decide) ?_
    obtain rfl := Option.some.inj hf
    exact hQ _ _ _ _ dX12_sees_20 hw
  · have hf := (if_pos cn3).symm.trans hf
    refine lv_aload_n hx hb dX12_sees_9 rfl (lv_at hl 0 rfl) ?_
    refine lv_iload_n hx hb dX12_sees_10 rfl (lv_at hl 1 rfl) ?_
    refine lv_iload_n hx hb dX12_sees_11 rfl (lv_at hl 2 rfl) ?_
    obtain ⟨v2, hcall, hf⟩ := bd1_some hf
    refine m_cvi (As := [.int a1, .int a2]) (rest := []) hc hw hR (hml.trans hl.1.symm) (cm_seesOf l N S a1 a2 v2 hcall) mq_seesOf rfl (by decide) rfl rfl rfl (Nat.le_of_ble_eq_true rfl) dX12_sees_12 (fun H locs hw => ?_) ⟨Nat.zero_le _, Nat.zero_le _⟩
    refine lv_goto (tgt := 20) hx hb dX12_sees_15 (by decide) ?_
    obtain rfl := Option.some.inj hf
    exact hQ _ _ _ _ dX12_sees_20 hw
def mf_worth (N : Nat) (S : mS) (a1 : Int32) (a2 : Int32) : Option (Int32 × mS) := (bd1 (mf_isSeat N S a1 a2) fun v1 => (if v1 = true then (bd2 (mf_worthOf N S a1 a2) fun v2 S3 => some (v2, S3)) else some ((-5), S)))
set_option maxRecDepth 100000 in
theorem cm_worth (l : Launch) (N : Nat) (S : mS) (a1 : Int32) (a2 : Int32) (res : Int32) (S1 : mS) (hf : mf_worth N S a1 a2 = some (res, S1)) : mMi l yX12_worth cX12_worth 3 .int 7 (fun g => [.ref (mr g 0), .int a1, .int a2]) S res S1 := by
  refine mMi_of (own := RX12) (by decide) rfl rfl (fun g => Nat.le_of_ble_eq_true rfl) ?_
  intro p e R s m args below meth c Q g A H0 H locs ls hc hR hml hw hl hQ
  have hl : lv_has ls 3 [(0, .ref (mr g 0)), (1, .int a1), (2, .int a2)] := hl
  have hx := hc.1
  have hb := hc.2.1
  unfold mf_worth at hf
  refine lv_aload_n hx hb dX12_worth_0 rfl (lv_at hl 0 rfl) ?_
  refine lv_iload_n hx hb dX12_worth_1 rfl (lv_at hl 1 rfl) ?_
  refine lv_iload_n hx hb dX12_worth_2 rfl (lv_at hl 2 rfl) ?_
  obtain ⟨v1, hcall, hf⟩ := bd1_some hf
  refine m_cvi (As := [.int a1, .int a2]) (rest := []) hc hw hR (hml.trans hl.1.symm) (cm_isSeat l N S a1 a2 v1 hcall) mq_isSeat rfl (by decide) rfl rfl rfl (Nat.le_of_ble_eq_true rfl) dX12_worth_3 (fun H locs hw => ?_) ⟨Nat.zero_le _, Nat.zero_le _⟩
  refine lv_if_eqb (tgt := 18) hx hb dX12_worth_6 (by decide) (fun cn4 => ?_) (fun cn4 => ?_)
  · have hf := (if_neg cn4).symm.trans hf
    refine lv_bipush (v := (-5)) hx hb dX12_worth_18 (by decide) ?_
    obtain ⟨rfl, rfl⟩ := pr2_some hf
    exact hQ _ _ _ _ dX12_worth_20 hw
  · have hf := (if_pos cn4).symm.trans hf
    refine lv_aload_n hx hb dX12_worth_9 rfl (lv_at hl 0 rfl) ?_
    refine lv_iload_n hx hb dX12_worth_10 rfl (lv_at hl 1 rfl) ?_
    refine lv_iload_n hx hb dX12_worth_11 rfl (lv_at hl 2 rfl) ?_
    obtain ⟨v2, S3, hcall, hf⟩ := bd2_some hf
    refine m_cvi (As := [.int a1, .int a2]) (rest := []) hc hw hR (hml.trans hl.1.symm) (cm_worthOf l N S a1 a2 v2 S3 hcall) mq_worthOf rfl (by decide) rfl rfl rfl (Nat.le_of_ble_eq_true rfl) dX12_worth_12 (fun H locs hw => ?_) ⟨Nat.zero_le _, Nat.zero_le _⟩
    refine lv_goto (tgt := 20) hx hb dX12_worth_15 (by decide) ?_
    obtain ⟨rfl, rfl⟩ := pr2_some hf
    exact hQ _ _ _ _ dX12_worth_20 hw
def mf_priceOf (N : Nat) (S : mS) (a1 : Int32) (a2 : Int32) : Option (Int32 × mS) := (bd2 (mf_worthOf N S a1 a2) fun v1 S2 => (bd1 (mf_placeOf N S2 a1 a2) fun v3 => (bd1 (mf_floorOf N S2 a1) fun v4 => (if ok ((8 * a1) + a2) 48 then (bd1 (mf_names N S2 v1 0 a1 v3 v4 (S2.1 9 ((8 * a1) + a2).toNatClampNeg)) fun S6 => (bd2 (mf_says N S6 1 999) fun v7 S8 => some (v7, S8))) else none))))
set_option maxRecDepth 100000 in
theorem cm_priceOf (l : Launch) (N : Nat) (S : mS) (a1 : Int32) (a2 : Int32) (res : Int32) (S1 : mS) (hf : mf_priceOf N S a1 a2 = some (res, S1)) : mMi l yX12_priceOf cX12_priceOf 4 .int 7 (fun g => [.ref (mr g 0), .int a1, .int a2]) S res S1 := by
  refine mMi_of (own := RX12) (by decide) rfl rfl (fun g => Nat.le_of_ble_eq_true rfl) ?_
  intro p e R s m args below meth c Q g A H0 H locs ls hc hR hml hw hl hQ
  have hl : lv_has ls 4 [(0, .ref (mr g 0)), (1, .int a1), (2, .int a2)] := hl
  have hx := hc.1
  have hb := hc.2.1
  unfold mf_priceOf at hf
  refine lv_aload_n hx hb dX12_priceOf_0 rfl (lv_at hl 0 rfl) ?_
  refine lv_iload_n hx hb dX12_priceOf_1 rfl (lv_at hl 1 rfl) ?_
  refine lv_iload_n hx hb dX12_priceOf_2 rfl (lv_at hl 2 rfl) ?_
  obtain ⟨v1, S2, hcall, hf⟩ := bd2_some hf
  refine m_cvi (As := [.int a1, .int a2]) (rest := []) hc hw hR (hml.trans hl.1.symm) (cm_worthOf l N S a1 a2 v1 S2 hcall) mq_worthOf rfl (by decide) rfl rfl rfl (Nat.le_of_ble_eq_true rfl) dX12_priceOf_3 (fun H locs hw => ?_) ⟨Nat.zero_le _, Nat.zero_le _⟩
  refine lv_istore_n (lv' := [(3, .int v1), (0, .ref (mr g 0)), (1, .int a1), (2, .int a2)]) hx hb dX12_priceOf_6 rfl hl (by decide) rfl (fun ls hl => ?_)
  refine lv_aload_n hx hb dX12_priceOf_7 rfl (lv_at hl 1 rfl) ?_
  refine lv_iload_n hx hb dX12_priceOf_8 rfl (lv_at hl 0 rfl) ?_
  refine lv_iconst (v := 0) hx hb dX12_priceOf_9 (by decide) ?_
  refine lv_iload_n hx hb dX12_priceOf_10 rfl (lv_at hl 2 rfl) ?_
  refine lv_aload_n hx hb dX12_priceOf_11 rfl (lv_at hl 1 rfl) ?_
  refine lv_iload_n hx hb dX12_priceOf_12 rfl (lv_at hl 2 rfl) ?_
  refine lv_iload_n hx hb dX12_priceOf_13 rfl (lv_at hl 3 rfl) ?_
  obtain ⟨v3, hcall, hf⟩ := bd1_some hf
  refine m_cvi (As := [.int a1, .int a2]) (rest := [.int a1, .int 0, .int v1, .ref (mr g 0)]) hc hw hR (hml.trans hl.1.symm) (cm_placeOf l N S2 a1 a2 v3 hcall) mq_placeOf rfl (by decide) rfl rfl rfl (Nat.le_of_ble_eq_true rfl) dX12_priceOf_14 (fun H locs hw => ?_) ⟨Nat.zero_le _, Nat.zero_le _⟩
  refine lv_aload_n hx hb dX12_priceOf_17 rfl (lv_at hl 1 rfl) ?_
  refine lv_iload_n hx hb dX12_priceOf_18 rfl (lv_at hl 2 rfl) ?_
  obtain ⟨v4, hcall, hf⟩ := bd1_some hf
  refine m_cvi (As := [.int a1]) (rest := [.int v3, .int a1, .int 0, .int v1, .ref (mr g 0)]) hc hw hR (hml.trans hl.1.symm) (cm_floorOf l N S2 a1 v4 hcall) mq_floorOf rfl (by decide) rfl rfl rfl (Nat.le_of_ble_eq_true rfl) dX12_priceOf_19 (fun H locs hw => ?_) ⟨Nat.zero_le _, Nat.zero_le _⟩
  refine lv_aload_n hx hb dX12_priceOf_22 rfl (lv_at hl 1 rfl) ?_
  refine m_g9 hc hw dX12_priceOf_23 ?_
  refine lv_bipush (v := 8) hx hb dX12_priceOf_26 (by decide) ?_
  refine lv_iload_n hx hb dX12_priceOf_28 rfl (lv_at hl 2 rfl) ?_
  refine lv_imul hx hb dX12_priceOf_29 ?_
  refine lv_iload_n hx hb dX12_priceOf_30 rfl (lv_at hl 3 rfl) ?_
  refine lv_iadd hx hb dX12_priceOf_31 ?_
  obtain ⟨hi5, hf⟩ := gd_some hf
  refine m_l9 hc hw (ok_in hi5) dX12_priceOf_32 ?_
  obtain ⟨S6, hcall, hf⟩ := bd1_some hf
  refine m_cvv (As := [.int v1, .int 0, .int a1, .int v3, .int v4, .int (S2.1 9 ((8 * a1) + a2).toNatClampNeg)]) (rest := []) hc hw hR (hml.trans hl.1.symm) (cm_names l N S2 v1 0 a1 v3 v4 (S2.1 9 ((8 * a1) + a2).toNatClampNeg) S6 hcall) mq_names rfl (by decide) rfl rfl rfl (Nat.le_of_ble_eq_true rfl) dX12_priceOf_33 (fun H locs hw => ?_) ⟨Nat.zero_le _, Nat.zero_le _⟩
  refine lv_aload_n hx hb dX12_priceOf_36 rfl (lv_at hl 1 rfl) ?_
  refine lv_iconst (v := 1) hx hb dX12_priceOf_37 (by decide) ?_
  refine lv_sipush (v := 999) hx hb dX12_priceOf_38 (by decide) ?_
  obtain ⟨v7, S8, hcall, hf⟩ := bd2_some hf
  refine m_cvi (As := [.int 1, .int 999]) (rest := []) hc hw hR (hml.trans hl.1.symm) (cm_says l N S6 1 999 v7 S8 hcall) mq_says rfl (by decide) rfl rfl rfl (Nat.le_of_ble_eq_true rfl) dX12_priceOf_41 (fun H locs hw => ?_) ⟨Nat.zero_le _, Nat.zero_le _⟩
  obtain ⟨rfl, rfl⟩ := pr2_some hf
  exact hQ _ _ _ _ dX12_priceOf_44 hw
theorem mq_priceOf : qCv RX12 304 yX12_priceOf cX12_priceOf 4 (some .int) 2 := ⟨⟨(mem_g 1512 (by decide +kernel) rfl), (mem_g 1514 (by decide +kernel) rfl), (mem_g 62 (by decide +kernel) rfl), (mem_g 89 (by decide +kernel) rfl), (mem_g 1515 (by decide +kernel) rfl)⟩, by decide, by decide +kernel, by decide⟩
def mf_allWorth_L14 (N : Nat) (c5 : Int32) : Nat → mS → Int32 → Int32 → Option (Int32 × mS)
  | 0, _, _, _ => none
  | n + 1, S7, v4, v6 => (if ok c5 6 then (if (S7.1 5 c5.toNatClampNeg) ≤ v6 then some (v4, S7) else (bd2 (mf_worthOf N S7 c5 v6) fun v9 S10 => mf_allWorth_L14 N c5 n S10 (v4 + v9) (v6 + 1))) else none)
set_option maxRecDepth 100000 in
theorem wm_allWorth_L14 {p : Program} {l : Launch} {e : Env} {R : Room} {s : State} {m : MethodId} {args : Array Value} {below : List Frame} {meth : Method} {c : Code} {Q : State → Prop} {g : mG} {A : Nat → Prop} {H0 : Heap} (hc : qC RX12 cX12_allWorth p s m args c) (hR : qRoom R 7) (hml : c.maxLocals = 4) (N : Nat) (c5 : Int32) : ∀ (n : Nat) (S7 : mS) (v4 : Int32) (v6 : Int32) (X : Int32 × mS) (H : Heap) (locs : List Loc) (ls : Array Slot), mf_allWorth_L14 N c5 n S7 v4 v6 = some X → mI g A H0 s S7 H locs → lv_has ls 4 [(0, .ref (mr g 0)), (1, .int v4), (2, .int c5), (3, .int v6)] → (∀ (H : Heap) (locs : List Loc) (ls : Array Slot), mI g A H0 s X.2 H locs → lv_has ls 4 [(0, .ref (mr g 0)), (1, .int X.1), (2, .int c5)] → W p l e R s m args below meth c H locs 0 0 Q (F0 m 39 ls [])) → W p l e R s m args below meth c H locs 0 0 Q (F0 m 14 ls []) := by
  have hx := hc.1
  have hb := hc.2.1
  intro n
  induction n with
  | zero => intro _ _ _ X H locs ls hf; exact nomatch (show none = some X from hf)
  | succ n ih =>
    intro S7 v4 v6 X H locs ls hf hw hl kx
    rw [mf_allWorth_L14] at hf
    refine lv_iload_n hx hb dX12_allWorth_14 rfl (lv_at hl 3 rfl) ?_
    refine lv_aload_n hx hb dX12_allWorth_15 rfl (lv_at hl 0 rfl) ?_
    refine m_g5 hc hw dX12_allWorth_16 ?_
    refine lv_iload_n hx hb dX12_allWorth_19 rfl (lv_at hl 2 rfl) ?_
    obtain ⟨hi8, hf⟩ := gd_some hf
    refine m_l5 hc hw (ok_in hi8) dX12_allWorth_20 ?_
    refine lv_icmp_ge (tgt := 39) hx hb dX12_allWorth_21 (by decide) (fun cn16 => ?_) (fun cn16 => ?_)
    · have hf := (if_pos cn16).symm.trans hf
      obtain rfl := Option.some.inj hf
      exact kx _ _ _ hw (lv_sub hl [0, 1, 2] rfl)
    · have hf := (if_neg cn16).symm.trans hf
      refine lv_iload_n hx hb dX12_allWorth_24 rfl (lv_at hl 1 rfl) ?_
      refine lv_aload_n hx hb dX12_allWorth_25 rfl (lv_at hl 0 rfl) ?_
      refine lv_iload_n hx hb dX12_allWorth_26 rfl (lv_at hl 2 rfl) ?_
      refine lv_iload_n hx hb dX12_allWorth_27 rfl (lv_at hl 3 rfl) ?_
      obtain ⟨v9, S10, hcall, hf⟩ := bd2_some hf
      refine m_cvi (As := [.int c5, .int v6]) (rest := [.int v4]) hc hw hR (hml.trans hl.1.symm) (cm_worthOf l N S7 c5 v6 v9 S10 hcall) mq_worthOf rfl (by decide) rfl rfl rfl (Nat.le_of_ble_eq_true rfl) dX12_allWorth_28 (fun H locs hw => ?_) ⟨Nat.zero_le _, Nat.zero_le _⟩
      refine lv_iadd hx hb dX12_allWorth_31 ?_
      refine lv_istore_n (lv' := [(1, .int (v4 + v9)), (0, .ref (mr g 0)), (2, .int c5), (3, .int v6)]) hx hb dX12_allWorth_32 rfl hl (by decide) rfl (fun ls hl => ?_)
      refine lv_iinc (lv' := [(3, .int (v6 + 1)), (1, .int (v4 + v9)), (0, .ref (mr g 0)), (2, .int c5)]) hx hb dX12_allWorth_33 hl (k := 3) rfl rfl (by decide) rfl (fun ls hl => ?_)
      refine lv_goto (tgt := 14) hx hb dX12_allWorth_36 (by decide) ?_
      exact ih _ _ _ X _ _ _ hf hw (lv_sub hl [2, 1, 3, 0] rfl) kx
def mf_allWorth_L4 (N : Nat) : Nat → mS → Int32 → Int32 → Option (Int32 × mS)
  | 0, _, _, _ => none
  | n + 1, S3, v1, v2 => (if (S3.1 3 0) ≤ v2 then some (v1, S3) else (bd2 (mf_allWorth_L14 N v2 N S3 v1 0) fun v11 S12 => mf_allWorth_L4 N n S12 v11 (v2 + 1)))
set_option maxRecDepth 100000 in
theorem wm_allWorth_L4 {p : Program} {l : Launch} {e : Env} {R : Room} {s : State} {m : MethodId} {args : Array Value} {below : List Frame} {meth : Method} {c : Code} {Q : State → Prop} {g : mG} {A : Nat → Prop} {H0 : Heap} (hc : qC RX12 cX12_allWorth p s m args c) (hR : qRoom R 7) (hml : c.maxLocals = 4) (N : Nat) : ∀ (n : Nat) (S3 : mS) (v1 : Int32) (v2 : Int32) (X : Int32 × mS) (H : Heap) (locs : List Loc) (ls : Array Slot), mf_allWorth_L4 N n S3 v1 v2 = some X → mI g A H0 s S3 H locs → lv_has ls 4 [(0, .ref (mr g 0)), (1, .int v1), (2, .int v2)] → (∀ (H : Heap) (locs : List Loc) (ls : Array Slot), mI g A H0 s X.2 H locs → lv_has ls 4 [(1, .int X.1)] → W p l e R s m args below meth c H locs 0 0 Q (F0 m 45 ls [])) → W p l e R s m args below meth c H locs 0 0 Q (F0 m 4 ls []) := by
  have hx := hc.1
  have hb := hc.2.1
  intro n
  induction n with
  | zero => intro _ _ _ X H locs ls hf; exact nomatch (show none = some X from hf)
  | succ n ih =>
    intro S3 v1 v2 X H locs ls hf hw hl kx
    rw [mf_allWorth_L4] at hf
    refine lv_iload_n hx hb dX12_allWorth_4 rfl (lv_at hl 2 rfl) ?_
    refine lv_aload_n hx hb dX12_allWorth_5 rfl (lv_at hl 0 rfl) ?_
    refine m_g3 hc hw dX12_allWorth_6 ?_
    refine lv_icmp_ge (tgt := 45) hx hb dX12_allWorth_9 (by decide) (fun cn15 => ?_) (fun cn15 => ?_)
    · have hf := (if_pos cn15).symm.trans hf
      obtain rfl := Option.some.inj hf
      exact kx _ _ _ hw (lv_sub hl [1] rfl)
    · have hf := (if_neg cn15).symm.trans hf
      refine lv_iconst (v := 0) hx hb dX12_allWorth_12 (by decide) ?_
      refine lv_istore_n (lv' := [(3, .int 0), (0, .ref (mr g 0)), (1, .int v1), (2, .int v2)]) hx hb dX12_allWorth_13 rfl hl (by decide) rfl (fun ls hl => ?_)
      obtain ⟨v11, S12, hL, hf⟩ := bd2_some hf
      refine wm_allWorth_L14 hc hR hml N v2 N _ _ _ _ _ _ _ hL hw (lv_sub hl [1, 2, 3, 0] rfl) (fun H locs ls hw hl => ?_)
      refine lv_iinc (lv' := [(2, .int (v2 + 1)), (0, .ref (mr g 0)), (1, .int v11)]) hx hb dX12_allWorth_39 hl (k := 2) rfl rfl (by decide) rfl (fun ls hl => ?_)
      refine lv_goto (tgt := 4) hx hb dX12_allWorth_42 (by decide) ?_
      exact ih _ _ _ X _ _ _ hf hw (lv_sub hl [1, 2, 0] rfl) kx
def mf_allWorth (N : Nat) (S : mS) : Option (Int32 × mS) := (bd2 (mf_allWorth_L4 N N S 0 0) fun v13 S14 => some (v13, S14))
set_option maxRecDepth 100000 in
theorem cm_allWorth (l : Launch) (N : Nat) (S : mS) (res : Int32) (S1 : mS) (hf : mf_allWorth N S = some (res, S1)) : mMi l yX12_allWorth cX12_allWorth 4 .int 7 (fun g => [.ref (mr g 0)]) S res S1 := by
  refine mMi_of (own := RX12) (by decide) rfl rfl (fun g => Nat.le_of_ble_eq_true rfl) ?_
  intro p e R s m args below meth c Q g A H0 H locs ls hc hR hml hw hl hQ
  have hl : lv_has ls 4 [(0, .ref (mr g 0))] := hl
  have hx := hc.1
  have hb := hc.2.1
  unfold mf_allWorth at hf
  refine lv_iconst (v := 0) hx hb dX12_allWorth_0 (by decide) ?_
  refine lv_istore_n (lv' := [(1, .int 0), (0, .ref (mr g 0))]) hx hb dX12_allWorth_1 rfl hl (by decide) rfl (fun ls hl => ?_)
  refine lv_iconst (v := 0) hx hb dX12_allWorth_2 (by decide) ?_
  refine lv_istore_n (lv' := [(2, .int 0), (1, .int 0), (0, .ref (mr g 0))]) hx hb dX12_allWorth_3 rfl hl (by decide) rfl (fun ls hl => ?_)
  obtain ⟨v13, S14, hL, hf⟩ := bd2_some hf
  refine wm_allWorth_L4 hc hR hml N N _ _ _ _ _ _ _ hL hw (lv_sub hl [2, 1, 0] rfl) (fun H locs ls hw hl => ?_)
  refine lv_iload_n hx hb dX12_allWorth_45 rfl (lv_at hl 0 rfl) ?_
  obtain ⟨rfl, rfl⟩ := pr2_some hf
  exact hQ _ _ _ _ dX12_allWorth_46 hw
theorem mq_allWorth : qCv RX12 346 yX12_allWorth cX12_allWorth 4 (some .int) 0 := ⟨⟨(mem_g 1579 (by decide +kernel) rfl), (mem_g 1581 (by decide +kernel) rfl), (mem_g 70 (by decide +kernel) rfl), (mem_g 89 (by decide +kernel) rfl), (mem_g 1582 (by decide +kernel) rfl)⟩, by decide, by decide +kernel, by decide⟩
def mf_allSee_L2 (N : Nat) (c1 : Int32) : Nat → mS → Int32 → Option ((Bool) ⊕ (Unit))
  | 0, _, _ => none
  | n + 1, S3, v2 => (if ok c1 6 then (if (S3.1 5 c1.toNatClampNeg) ≤ v2 then some (.inr ()) else (bd1 (mf_seesOf N S3 c1 v2) fun v5 => (if v5 = (((1 : Int32) <<< ((S3.1 10 0) &&& 31)) - 1) then mf_allSee_L2 N c1 n S3 (v2 + 1) else some (.inl false)))) else none)
set_option maxRecDepth 100000 in
theorem wm_allSee_L2 {p : Program} {l : Launch} {e : Env} {R : Room} {s : State} {m : MethodId} {args : Array Value} {below : List Frame} {meth : Method} {c : Code} {Q : State → Prop} {g : mG} {A : Nat → Prop} {H0 : Heap} (hc : qC RX12 cX12_allSee p s m args c) (hR : qRoom R 7) (hml : c.maxLocals = 3) (N : Nat) (c1 : Int32) : ∀ (n : Nat) (S3 : mS) (v2 : Int32) (X : (Bool) ⊕ (Unit)) (H : Heap) (locs : List Loc) (ls : Array Slot), mf_allSee_L2 N c1 n S3 v2 = some X → mI g A H0 s S3 H locs → lv_has ls 3 [(0, .ref (mr g 0)), (1, .int c1), (2, .int v2)] → (∀ (_ : Unit), X = .inr () → ∀ (H : Heap) (locs : List Loc) (ls : Array Slot), mI g A H0 s S3 H locs → lv_has ls 3 [] → W p l e R s m args below meth c H locs 0 0 Q (F0 m 37 ls [])) → (∀ (r : Bool), X = .inl r → mQi p l e R s m args below meth c cX12_allSee Q g A H0 (bi r) S3) → W p l e R s m args below meth c H locs 0 0 Q (F0 m 2 ls []) := by
  have hx := hc.1
  have hb := hc.2.1
  intro n
  induction n with
  | zero => intro _ _ X H locs ls hf; exact nomatch (show none = some X from hf)
  | succ n ih =>
    intro S3 v2 X H locs ls hf hw hl kx kr
    rw [mf_allSee_L2] at hf
    refine lv_iload_n hx hb dX12_allSee_2 rfl (lv_at hl 2 rfl) ?_
    refine lv_aload_n hx hb dX12_allSee_3 rfl (lv_at hl 0 rfl) ?_
    refine m_g5 hc hw dX12_allSee_4 ?_
    refine lv_iload_n hx hb dX12_allSee_7 rfl (lv_at hl 1 rfl) ?_
    obtain ⟨hi4, hf⟩ := gd_some hf
    refine m_l5 hc hw (ok_in hi4) dX12_allSee_8 ?_
    refine lv_icmp_ge (tgt := 37) hx hb dX12_allSee_9 (by decide) (fun cn6 => ?_) (fun cn6 => ?_)
    · have hf := (if_pos cn6).symm.trans hf
      obtain rfl := Option.some.inj hf
      exact kx () rfl _ _ _ hw (lv_sub hl [] rfl)
    · have hf := (if_neg cn6).symm.trans hf
      refine lv_aload_n hx hb dX12_allSee_12 rfl (lv_at hl 0 rfl) ?_
      refine lv_iload_n hx hb dX12_allSee_13 rfl (lv_at hl 1 rfl) ?_
      refine lv_iload_n hx hb dX12_allSee_14 rfl (lv_at hl 2 rfl) ?_
      obtain ⟨v5, hcall, hf⟩ := bd1_some hf
      refine m_cvi (As := [.int c1, .int v2]) (rest := []) hc hw hR (hml.trans hl.1.symm) (cm_seesOf l N S3 c1 v2 v5 hcall) mq_seesOf rfl (by decide) rfl rfl rfl (Nat.le_of_ble_eq_true rfl) dX12_allSee_15 (fun H locs hw => ?_) ⟨Nat.zero_le _, Nat.zero_le _⟩
      refine lv_iconst (v := 1) hx hb dX12_allSee_18 (by decide) ?_
      refine lv_aload_n hx hb dX12_allSee_19 rfl (lv_at hl 0 rfl) ?_
      refine m_g10 hc hw dX12_allSee_20 ?_
      refine lv_ishl hx hb dX12_allSee_23 ?_
      refine lv_iconst (v := 1) hx hb dX12_allSee_24 (by decide) ?_
      refine lv_isub hx hb dX12_allSee_25 ?_
      refine lv_icmp_eq (tgt := 31) hx hb dX12_allSee_26 (by decide) (fun cn7 => ?_) (fun cn7 => ?_)
      · have hf := (if_pos cn7).symm.trans hf
        refine lv_iinc (lv' := [(2, .int (v2 + 1)), (0, .ref (mr g 0)), (1, .int c1)]) hx hb dX12_allSee_31 hl (k := 2) rfl rfl (by decide) rfl (fun ls hl => ?_)
        refine lv_goto (tgt := 2) hx hb dX12_allSee_34 (by decide) ?_
        exact ih _ _ X _ _ _ hf hw (lv_sub hl [1, 2, 0] rfl) kx kr
      · have hf := (if_neg cn7).symm.trans hf
        refine lv_iconst (v := 0) hx hb dX12_allSee_29 (by decide) ?_
        obtain rfl := Option.some.inj hf
        exact kr _  rfl _ _ _ _ dX12_allSee_30 hw
def mf_allSee (N : Nat) (S : mS) (a1 : Int32) : Option (Bool) := (br0 (mf_allSee_L2 N a1 N S 0) (Option.some) fun _ => some true)
set_option maxRecDepth 100000 in
theorem cm_allSee (l : Launch) (N : Nat) (S : mS) (a1 : Int32) (res : Bool) (hf : mf_allSee N S a1 = some res) : mMi l yX12_allSee cX12_allSee 3 .boolean 7 (fun g => [.ref (mr g 0), .int a1]) S (bi res) S := by
  refine mMi_of (own := RX12) (by decide) rfl (narrow_bi _) (fun g => Nat.le_of_ble_eq_true rfl) ?_
  intro p e R s m args below meth c Q g A H0 H locs ls hc hR hml hw hl hQ
  have hl : lv_has ls 3 [(0, .ref (mr g 0)), (1, .int a1)] := hl
  have hx := hc.1
  have hb := hc.2.1
  unfold mf_allSee at hf
  refine lv_iconst (v := 0) hx hb dX12_allSee_0 (by decide) ?_
  refine lv_istore_n (lv' := [(2, .int 0), (0, .ref (mr g 0)), (1, .int a1)]) hx hb dX12_allSee_1 rfl hl (by decide) rfl (fun ls hl => ?_)
  rcases br0_some hf with ⟨q, hL, hf⟩ | ⟨hL, hf⟩
  · refine wm_allSee_L2 hc hR hml N a1 N _ _ _ _ _ _ hL hw (lv_sub hl [1, 2, 0] rfl) (fun _  h => nomatch h) ?_
    obtain rfl := Option.some.inj hf
    intro z0 h; cases h; exact hQ
  · refine wm_allSee_L2 hc hR hml N a1 N _ _ _ _ _ _ hL hw (lv_sub hl [1, 2, 0] rfl) (fun y0 hi => ?_) (fun _  h => nomatch h)
    cases hi
    intro H locs ls hw hl
    refine lv_iconst (v := 1) hx hb dX12_allSee_37 (by decide) ?_
    obtain rfl := Option.some.inj hf
    exact hQ _ _ _ _ dX12_allSee_38 hw
theorem mq_allSee : qCv RX12 313 yX12_allSee cX12_allSee 3 (some .boolean) 1 := ⟨⟨(mem_g 1540 (by decide +kernel) rfl), (mem_g 1542 (by decide +kernel) rfl), (mem_g 65 (by decide +kernel) rfl), (mem_g 89 (by decide +kernel) rfl), (mem_g 1543 (by decide +kernel) rfl)⟩, by decide, by decide +kernel, by decide⟩
