def xf_X_people (N : Nat) (S : xS) (a1 : Int32) (a2 : Int32) : Option (Int32 × xS) := (bd1 (xf_H_rowAt N S a1) fun v1 => (if v1 < 0 then some ((-5), S) else (if (xf_X_isIn a2 0 1) = true then (bd2 (xf_H_allWorth N S) fun v3 S4 => (bd2 (xf_X_bestSwap N S4 v1 v3) fun v5 S6 => (if a2 = 0 then some (v5, S6) else (if v5 = (-1) then some (0, S6) else (bd2 (xf_X_worthSwapped N S6 v1 (v5 / 10) v1 (v5 - v5 / 10 * 10)) fun v7 S8 => some (v7 - v3, S8)))))) else some ((-7), S))))
set_option maxRecDepth 100000 in
theorem cx_X_people (l : Launch) (N : Nat) (S : xS) (a1 : Int32) (a2 : Int32) (res : Int32) (S1 : xS) (hf : xf_X_people N S a1 a2 = some (res, S1)) : xMi l yX11_people cX11_people 6 .int 9 (fun g => [.ref (xr g 0), .int a1, .int a2]) S res S1 := by
  refine xMi_of (own := RX11) (by decide) rfl rfl (fun g => Nat.le_of_ble_eq_true rfl) ?_
  intro p e R s m args below meth c Q g A H0 H locs ls hc hR hml hw hl hQ
  have hl : lv_has ls 6 [(0, .ref (xr g 0)), (1, .int a1), (2, .int a2)] := hl
  have hx := hc.1
  have hb := hc.2.1
  unfold xf_X_people at hf
  refine lv_aload_n hx hb dX11_people_0 rfl (lv_at hl 0 rfl) ?_
  refine x_g_this_hall hc hw fl_11_10 dX11_people_1 ?_
  refine lv_iload_n hx hb dX11_people_4 rfl (lv_at hl 1 rfl) ?_
  obtain ⟨v1, hcall, hf⟩ := bd1_some hf
  refine x_cvr (As := [.int a1]) (rest := []) hc hw hR (hml.trans hl.1.symm) (cx_H_rowAt l N S a1 v1 hcall) xq_11_H_rowAt (x_recv_hall hw) (by decide) rfl rfl rfl (Nat.le_of_ble_eq_true rfl) dX11_people_5 (fun H locs hw => ?_) ⟨Nat.zero_le _, Nat.zero_le _⟩
  refine x_splitr (fun cn2 => ?_) (fun cn2 => ?_)
  · have hf := (if_pos cn2).symm.trans hf
    refine lv_astore_nN (lv' := [(3, .null), (0, .ref (xr g 0)), (1, .int a1), (2, .int a2)]) hx hb dX11_people_8 rfl hl (by decide) rfl (fun ls hl => ?_)
    refine lv_aload_nN hx hb dX11_people_9 rfl (lv_at hl 0 rfl) ?_
    refine lv_ifnonnullN hx hb dX11_people_10 ?_
    refine lv_bipush (v := (-5)) hx hb dX11_people_13 (by decide) ?_
    obtain ⟨rfl, rfl⟩ := pr2_some hf
    exact hQ _ _ _ _ dX11_people_15 hw
  · have hf := (if_neg cn2).symm.trans hf
    refine lv_astore_n (lv' := [(3, .ref (xr g (100 + 2 * v1.toNatClampNeg))), (0, .ref (xr g 0)), (1, .int a1), (2, .int a2)]) hx hb dX11_people_8 rfl hl (by decide) rfl (fun ls hl => ?_)
    refine lv_aload_n hx hb dX11_people_9 rfl (lv_at hl 0 rfl) ?_
    refine lv_ifnonnull (tgt := 16) hx hb dX11_people_10 (by decide) ?_
    refine lv_iload_n hx hb dX11_people_16 rfl (lv_at hl 3 rfl) ?_
    refine lv_iconst (v := 0) hx hb dX11_people_17 (by decide) ?_
    refine lv_iconst (v := 1) hx hb dX11_people_18 (by decide) ?_
    refine x_csi (As := [.int a2, .int 0, .int 1]) (rest := []) hc hw hR (hml.trans hl.1.symm) (cx_X_isIn l S a2 0 1 _ rfl) xq_11_X_isIn (by decide) rfl rfl rfl (Nat.le_of_ble_eq_true rfl) dX11_people_19 (fun H locs hw => ?_) ⟨Nat.zero_le _, Nat.zero_le _⟩
    refine lv_if_neb (tgt := 28) hx hb dX11_people_22 (by decide) (fun cn9 => ?_) (fun cn9 => ?_)
    · have hf := (if_pos cn9).symm.trans hf
      refine lv_aload_n hx hb dX11_people_28 rfl (lv_at hl 1 rfl) ?_
      refine x_g_this_hall hc hw fl_11_10 dX11_people_29 ?_
      obtain ⟨v3, S4, hcall, hf⟩ := bd2_some hf
      refine x_cvi (As := []) (rest := []) hc hw hR (hml.trans hl.1.symm) (cx_H_allWorth l N S v3 S4 hcall) xq_11_H_allWorth (x_recv_hall hw) (by decide) rfl rfl rfl (Nat.le_of_ble_eq_true rfl) dX11_people_32 (fun H locs hw => ?_) ⟨Nat.zero_le _, Nat.zero_le _⟩
      refine lv_istore (lv' := [(4, .int v3), (3, .ref (xr g (100 + 2 * v1.toNatClampNeg))), (0, .ref (xr g 0)), (1, .int a1), (2, .int a2)]) hx hb dX11_people_35 hl (by decide) rfl (fun ls hl => ?_)
      refine lv_aload_n hx hb dX11_people_37 rfl (lv_at hl 2 rfl) ?_
      refine lv_aload_n hx hb dX11_people_38 rfl (lv_at hl 1 rfl) ?_
      refine lv_iload hx hb dX11_people_39 (lv_at hl 0 rfl) ?_
      obtain ⟨v5, S6, hcall, hf⟩ := bd2_some hf
      refine x_cvi (As := [.ref (xr g (100 + 2 * v1.toNatClampNeg)), .int v3]) (rest := []) hc hw hR (hml.trans hl.1.symm) (cx_X_bestSwap l N S4 v1 v3 v5 S6 hcall) xq_11_X_bestSwap (x_recv_this hw) (by decide) rfl rfl rfl (Nat.le_of_ble_eq_true rfl) dX11_people_41 (fun H locs hw => ?_) ⟨Nat.zero_le _, Nat.zero_le _⟩
      refine lv_istore (lv' := [(5, .int v5), (4, .int v3), (3, .ref (xr g (100 + 2 * v1.toNatClampNeg))), (0, .ref (xr g 0)), (1, .int a1), (2, .int a2)]) hx hb dX11_people_44 hl (by decide) rfl (fun ls hl => ?_)
      refine lv_iload_n hx hb dX11_people_46 rfl (lv_at hl 5 rfl) ?_
      refine lv_if_ne (tgt := 53) hx hb dX11_people_47 (by decide) (fun cn10 => ?_) (fun cn10 => ?_)
      · have hf := (if_neg cn10).symm.trans hf
        refine lv_iload hx hb dX11_people_53 (lv_at hl 0 rfl) ?_
        refine lv_iconst (v := (-1)) hx hb dX11_people_55 (by decide) ?_
        refine lv_icmp_ne (tgt := 63) hx hb dX11_people_56 (by decide) (fun cn11 => ?_) (fun cn11 => ?_)
        · have hf := (if_neg cn11).symm.trans hf
          refine lv_aload_n hx hb dX11_people_63 rfl (lv_at hl 3 rfl) ?_
          refine lv_aload_n hx hb dX11_people_64 rfl (lv_at hl 2 rfl) ?_
          refine lv_iload hx hb dX11_people_65 (lv_at hl 0 rfl) ?_
          refine lv_bipush (v := 10) hx hb dX11_people_67 (by decide) ?_
          refine lv_idiv hx hb dX11_people_69 (by decide) ?_
          refine lv_aload_n hx hb dX11_people_70 rfl (lv_at hl 2 rfl) ?_
          refine lv_iload hx hb dX11_people_71 (lv_at hl 0 rfl) ?_
          refine lv_bipush (v := 10) hx hb dX11_people_73 (by decide) ?_
          refine lv_irem hx hb dX11_people_75 (by decide) ?_
          obtain ⟨v7, S8, hcall, hf⟩ := bd2_some hf
          refine x_cvi (As := [.ref (xr g (100 + 2 * v1.toNatClampNeg)), .int (v5 / 10), .ref (xr g (100 + 2 * v1.toNatClampNeg)), .int (v5 - v5 / 10 * 10)]) (rest := []) hc hw hR (hml.trans hl.1.symm) (cx_X_worthSwapped l N S6 v1 (v5 / 10) v1 (v5 - v5 / 10 * 10) v7 S8 hcall) xq_11_X_worthSwapped (x_recv_this hw) (by decide) rfl rfl rfl (Nat.le_of_ble_eq_true rfl) dX11_people_76 (fun H locs hw => ?_) ⟨Nat.zero_le _, Nat.zero_le _⟩
          refine lv_iload hx hb dX11_people_79 (lv_at hl 1 rfl) ?_
          refine lv_isub hx hb dX11_people_81 ?_
          obtain ⟨rfl, rfl⟩ := pr2_some hf
          exact hQ _ _ _ _ dX11_people_82 hw
        · have hf := (if_pos cn11).symm.trans hf
          refine lv_iconst (v := 0) hx hb dX11_people_59 (by decide) ?_
          refine lv_goto (tgt := 82) hx hb dX11_people_60 (by decide) ?_
          obtain ⟨rfl, rfl⟩ := pr2_some hf
          exact hQ _ _ _ _ dX11_people_82 hw
      · have hf := (if_pos cn10).symm.trans hf
        refine lv_iload hx hb dX11_people_50 (lv_at hl 0 rfl) ?_
        obtain ⟨rfl, rfl⟩ := pr2_some hf
        exact hQ _ _ _ _ dX11_people_52 hw
    · have hf := (if_neg cn9).symm.trans hf
      refine lv_bipush (v := (-7)) hx hb dX11_people_25 (by decide) ?_
      obtain ⟨rfl, rfl⟩ := pr2_some hf
      exact hQ _ _ _ _ dX11_people_27 hw
def xf_X_settle_L31 (N : Nat) (c3 : Int32) (c4 : Int32) : Nat → xS → Int32 → Option ((Int32 × xS) ⊕ (xS))
  | 0, _, _ => none
  | n + 1, S6, v5 => (if c3 ≤ v5 then some (.inr S6) else (bd2 (xf_H_allWorth N S6) fun v7 S8 => (bd2 (xf_X_bestSwap N S8 c4 v7) fun v9 S10 => (if v9 = (-1) then some (.inl (v5, S10)) else (bd1 (xf_X_changePlaces N S10 c4 (v9 / 10) c4 (v9 - v9 / 10 * 10)) fun S11 => xf_X_settle_L31 N c3 c4 n S11 (v5 + 1))))))
set_option maxRecDepth 100000 in
theorem wx_X_settle_L31 {p : Program} {l : Launch} {e : Env} {R : Room} {s : State} {m : MethodId} {args : Array Value} {below : List Frame} {meth : Method} {c : Code} {Q : State → Prop} {g : xG} {A : Nat → Prop} {H0 : Heap} (hc : qC RX11 cX11_settle p s m args c) (hR : qRoom R 9) (hml : c.maxLocals = 6) (N : Nat) (c3 : Int32) (c4 : Int32) : ∀ (n : Nat) (S6 : xS) (v5 : Int32) (X : (Int32 × xS) ⊕ (xS)) (H : Heap) (locs : List Loc) (ls : Array Slot), xf_X_settle_L31 N c3 c4 n S6 v5 = some X → xI g A H0 s S6 H locs → lv_has ls 6 [(0, .ref (xr g 0)), (2, .int c3), (3, .ref (xr g (100 + 2 * c4.toNatClampNeg))), (4, .int v5)] → (∀ (S16 : xS), X = .inr S16 → ∀ (H : Heap) (locs : List Loc) (ls : Array Slot), xI g A H0 s S16 H locs → lv_has ls 6 [(2, .int c3)] → W p l e R s m args below meth c H locs 0 0 Q (F0 m 81 ls [])) → (∀ (r : Int32) (S9 : xS), X = .inl (r, S9) → xQi p l e R s m args below meth c cX11_settle Q g A H0 r S9) → W p l e R s m args below meth c H locs 0 0 Q (F0 m 31 ls []) := by
  have hx := hc.1
  have hb := hc.2.1
  intro n
  induction n with
  | zero => intro _ _ X H locs ls hf; exact nomatch (show none = some X from hf)
  | succ n ih =>
    intro S6 v5 X H locs ls hf hw hl kx kr
    rw [xf_X_settle_L31] at hf
    refine lv_iload hx hb dX11_settle_31 (lv_at hl 3 rfl) ?_
    refine lv_iload_n hx hb dX11_settle_33 rfl (lv_at hl 1 rfl) ?_
    refine lv_icmp_ge (tgt := 81) hx hb dX11_settle_34 (by decide) (fun cn14 => ?_) (fun cn14 => ?_)
    · have hf := (if_pos cn14).symm.trans hf
      obtain rfl := Option.some.inj hf
      exact kx _ rfl _ _ _ hw (lv_sub hl [1] rfl)
    · have hf := (if_neg cn14).symm.trans hf
      refine lv_aload_n hx hb dX11_settle_37 rfl (lv_at hl 0 rfl) ?_
      refine lv_aload_n hx hb dX11_settle_38 rfl (lv_at hl 2 rfl) ?_
      refine lv_aload_n hx hb dX11_settle_39 rfl (lv_at hl 0 rfl) ?_
      refine x_g_this_hall hc hw fl_11_10 dX11_settle_40 ?_
      obtain ⟨v7, S8, hcall, hf⟩ := bd2_some hf
      refine x_cvi (As := []) (rest := [.ref (xr g (100 + 2 * c4.toNatClampNeg)), .ref (xr g 0)]) hc hw hR (hml.trans hl.1.symm) (cx_H_allWorth l N S6 v7 S8 hcall) xq_11_H_allWorth (x_recv_hall hw) (by decide) rfl rfl rfl (Nat.le_of_ble_eq_true rfl) dX11_settle_43 (fun H locs hw => ?_) ⟨Nat.zero_le _, Nat.zero_le _⟩
      obtain ⟨v9, S10, hcall, hf⟩ := bd2_some hf
      refine x_cvi (As := [.ref (xr g (100 + 2 * c4.toNatClampNeg)), .int v7]) (rest := []) hc hw hR (hml.trans hl.1.symm) (cx_X_bestSwap l N S8 c4 v7 v9 S10 hcall) xq_11_X_bestSwap (x_recv_this hw) (by decide) rfl rfl rfl (Nat.le_of_ble_eq_true rfl) dX11_settle_46 (fun H locs hw => ?_) ⟨Nat.zero_le _, Nat.zero_le _⟩
      refine lv_istore (lv' := [(5, .int v9), (0, .ref (xr g 0)), (2, .int c3), (3, .ref (xr g (100 + 2 * c4.toNatClampNeg))), (4, .int v5)]) hx hb dX11_settle_49 hl (by decide) rfl (fun ls hl => ?_)
      refine lv_iload hx hb dX11_settle_51 (lv_at hl 0 rfl) ?_
      refine lv_iconst (v := (-1)) hx hb dX11_settle_53 (by decide) ?_
      refine lv_icmp_ne (tgt := 60) hx hb dX11_settle_54 (by decide) (fun cn15 => ?_) (fun cn15 => ?_)
      · have hf := (if_neg cn15).symm.trans hf
        refine lv_aload_n hx hb dX11_settle_60 rfl (lv_at hl 3 rfl) ?_
        refine lv_iload hx hb dX11_settle_61 (lv_at hl 0 rfl) ?_
        refine lv_bipush (v := 10) hx hb dX11_settle_63 (by decide) ?_
        refine lv_idiv hx hb dX11_settle_65 (by decide) ?_
        refine lv_aload_n hx hb dX11_settle_66 rfl (lv_at hl 3 rfl) ?_
        refine lv_iload hx hb dX11_settle_67 (lv_at hl 0 rfl) ?_
        refine lv_bipush (v := 10) hx hb dX11_settle_69 (by decide) ?_
        refine lv_irem hx hb dX11_settle_71 (by decide) ?_
        obtain ⟨S11, hcall, hf⟩ := bd1_some hf
        refine x_csv (As := [.ref (xr g (100 + 2 * c4.toNatClampNeg)), .int (v9 / 10), .ref (xr g (100 + 2 * c4.toNatClampNeg)), .int (v9 - v9 / 10 * 10)]) (rest := []) hc hw hR (hml.trans hl.1.symm) (cx_X_changePlaces l N S10 c4 (v9 / 10) c4 (v9 - v9 / 10 * 10) S11 hcall) xq_11_X_changePlaces (by decide) rfl rfl rfl (Nat.le_of_ble_eq_true rfl) dX11_settle_72 (fun H locs hw => ?_) ⟨Nat.zero_le _, Nat.zero_le _⟩
        refine lv_iinc (lv' := [(4, .int (v5 + 1)), (5, .int v9), (0, .ref (xr g 0)), (2, .int c3), (3, .ref (xr g (100 + 2 * c4.toNatClampNeg)))]) hx hb dX11_settle_75 hl (k := 4) rfl rfl (by decide) rfl (fun ls hl => ?_)
        refine lv_goto (tgt := 31) hx hb dX11_settle_78 (by decide) ?_
        exact ih _ _ X _ _ _ hf hw (lv_sub hl [2, 3, 4, 0] rfl) kx kr
      · have hf := (if_pos cn15).symm.trans hf
        refine lv_iload hx hb dX11_settle_57 (lv_at hl 4 rfl) ?_
        obtain rfl := Option.some.inj hf
        exact kr _ _  rfl _ _ _ _ dX11_settle_59 hw
def xf_X_settle (N : Nat) (S : xS) (a1 : Int32) (a2 : Int32) : Option (Int32 × xS) := (bd1 (xf_H_rowAt N S a1) fun v1 => (if v1 < 0 then some ((-5), S) else (if (xf_X_isIn a2 0 5) = true then (br1 (xf_X_settle_L31 N a2 v1 N S 0) (Option.some) fun S12 => some (a2, S12)) else some ((-7), S))))
set_option maxRecDepth 100000 in
theorem cx_X_settle (l : Launch) (N : Nat) (S : xS) (a1 : Int32) (a2 : Int32) (res : Int32) (S1 : xS) (hf : xf_X_settle N S a1 a2 = some (res, S1)) : xMi l yX11_settle cX11_settle 6 .int 9 (fun g => [.ref (xr g 0), .int a1, .int a2]) S res S1 := by
  refine xMi_of (own := RX11) (by decide) rfl rfl (fun g => Nat.le_of_ble_eq_true rfl) ?_
  intro p e R s m args below meth c Q g A H0 H locs ls hc hR hml hw hl hQ
  have hl : lv_has ls 6 [(0, .ref (xr g 0)), (1, .int a1), (2, .int a2)] := hl
  have hx := hc.1
  have hb := hc.2.1
  unfold xf_X_settle at hf
  refine lv_aload_n hx hb dX11_settle_0 rfl (lv_at hl 0 rfl) ?_
  refine x_g_this_hall hc hw fl_11_10 dX11_settle_1 ?_
  refine lv_iload_n hx hb dX11_settle_4 rfl (lv_at hl 1 rfl) ?_
  obtain ⟨v1, hcall, hf⟩ := bd1_some hf
  refine x_cvr (As := [.int a1]) (rest := []) hc hw hR (hml.trans hl.1.symm) (cx_H_rowAt l N S a1 v1 hcall) xq_11_H_rowAt (x_recv_hall hw) (by decide) rfl rfl rfl (Nat.le_of_ble_eq_true rfl) dX11_settle_5 (fun H locs hw => ?_) ⟨Nat.zero_le _, Nat.zero_le _⟩
  refine x_splitr (fun cn2 => ?_) (fun cn2 => ?_)
  · have hf := (if_pos cn2).symm.trans hf
    refine lv_astore_nN (lv' := [(3, .null), (0, .ref (xr g 0)), (1, .int a1), (2, .int a2)]) hx hb dX11_settle_8 rfl hl (by decide) rfl (fun ls hl => ?_)
    refine lv_aload_nN hx hb dX11_settle_9 rfl (lv_at hl 0 rfl) ?_
    refine lv_ifnonnullN hx hb dX11_settle_10 ?_
    refine lv_bipush (v := (-5)) hx hb dX11_settle_13 (by decide) ?_
    obtain ⟨rfl, rfl⟩ := pr2_some hf
    exact hQ _ _ _ _ dX11_settle_15 hw
  · have hf := (if_neg cn2).symm.trans hf
    refine lv_astore_n (lv' := [(3, .ref (xr g (100 + 2 * v1.toNatClampNeg))), (0, .ref (xr g 0)), (1, .int a1), (2, .int a2)]) hx hb dX11_settle_8 rfl hl (by decide) rfl (fun ls hl => ?_)
    refine lv_aload_n hx hb dX11_settle_9 rfl (lv_at hl 0 rfl) ?_
    refine lv_ifnonnull (tgt := 16) hx hb dX11_settle_10 (by decide) ?_
    refine lv_iload_n hx hb dX11_settle_16 rfl (lv_at hl 3 rfl) ?_
    refine lv_iconst (v := 0) hx hb dX11_settle_17 (by decide) ?_
    refine lv_iconst (v := 5) hx hb dX11_settle_18 (by decide) ?_
    refine x_csi (As := [.int a2, .int 0, .int 5]) (rest := []) hc hw hR (hml.trans hl.1.symm) (cx_X_isIn l S a2 0 5 _ rfl) xq_11_X_isIn (by decide) rfl rfl rfl (Nat.le_of_ble_eq_true rfl) dX11_settle_19 (fun H locs hw => ?_) ⟨Nat.zero_le _, Nat.zero_le _⟩
    refine lv_if_neb (tgt := 28) hx hb dX11_settle_22 (by decide) (fun cn13 => ?_) (fun cn13 => ?_)
    · have hf := (if_pos cn13).symm.trans hf
      refine lv_iconst (v := 0) hx hb dX11_settle_28 (by decide) ?_
      refine lv_istore (lv' := [(4, .int 0), (3, .ref (xr g (100 + 2 * v1.toNatClampNeg))), (0, .ref (xr g 0)), (1, .int a1), (2, .int a2)]) hx hb dX11_settle_29 hl (by decide) rfl (fun ls hl => ?_)
      rcases br1_some hf with ⟨q, hL, hf⟩ | ⟨S12, hL, hf⟩
      · refine wx_X_settle_L31 hc hR hml N a2 v1 N _ _ _ _ _ _ hL hw (lv_sub hl [2, 4, 1, 0] rfl) (fun _  h => nomatch h) ?_
        obtain rfl := Option.some.inj hf
        intro z0 z1 h; cases h; exact hQ
      · refine wx_X_settle_L31 hc hR hml N a2 v1 N _ _ _ _ _ _ hL hw (lv_sub hl [2, 4, 1, 0] rfl) (fun y0 hi => ?_) (fun _ _  h => nomatch h)
        cases hi
        intro H locs ls hw hl
        refine lv_iload_n hx hb dX11_settle_81 rfl (lv_at hl 0 rfl) ?_
        obtain ⟨rfl, rfl⟩ := pr2_some hf
        exact hQ _ _ _ _ dX11_settle_82 hw
    · have hf := (if_neg cn13).symm.trans hf
      refine lv_bipush (v := (-7)) hx hb dX11_settle_25 (by decide) ?_
      obtain ⟨rfl, rfl⟩ := pr2_some hf
      exact hQ _ _ _ _ dX11_settle_27 hw
def xf_X_sell_L32 (N : Nat) (c3 : Int32) (c4 : Int32) : Nat → xS → Int32 → Int32 → Int32 → Option (Int32 × Int32)
  | 0, _, _, _, _ => none
  | n + 1, S8, v5, v6, v7 => (if c4 ≤ v7 then some (v5, v6) else (if ok v7 48 then (bd1 (xf_X_howManyPay N S8 (S8.1 7 v7.toNatClampNeg) c4) fun v10 => (if v6 < ((S8.1 7 v7.toNatClampNeg) * v10) then xf_X_sell_L32 N c3 c4 n S8 (S8.1 7 v7.toNatClampNeg) ((S8.1 7 v7.toNatClampNeg) * v10) (v7 + 1) else (if ((S8.1 7 v7.toNatClampNeg) * v10) = v6 then (if v5 ≤ (S8.1 7 v7.toNatClampNeg) then xf_X_sell_L32 N c3 c4 n S8 v5 v6 (v7 + 1) else xf_X_sell_L32 N c3 c4 n S8 (S8.1 7 v7.toNatClampNeg) ((S8.1 7 v7.toNatClampNeg) * v10) (v7 + 1)) else xf_X_sell_L32 N c3 c4 n S8 v5 v6 (v7 + 1)))) else none))
set_option maxRecDepth 100000 in
theorem wx_X_sell_L32 {p : Program} {l : Launch} {e : Env} {R : Room} {s : State} {m : MethodId} {args : Array Value} {below : List Frame} {meth : Method} {c : Code} {Q : State → Prop} {g : xG} {A : Nat → Prop} {H0 : Heap} (hc : qC RX11 cX11_sell p s m args c) (hR : qRoom R 9) (hml : c.maxLocals = 7) (N : Nat) (c3 : Int32) (c4 : Int32) : ∀ (n : Nat) (S8 : xS) (v5 : Int32) (v6 : Int32) (v7 : Int32) (X : Int32 × Int32) (H : Heap) (locs : List Loc) (ls : Array Slot), xf_X_sell_L32 N c3 c4 n S8 v5 v6 v7 = some X → xI g A H0 s S8 H locs → lv_has ls 7 [(0, .ref (xr g 0)), (1, .int c3), (2, .int c4), (3, .int v5), (4, .int v6), (5, .int v7)] → (∀ (H : Heap) (locs : List Loc) (ls : Array Slot), xI g A H0 s S8 H locs → lv_has ls 7 [(1, .int c3), (3, .int X.1), (4, .int X.2)] → W p l e R s m args below meth c H locs 0 0 Q (F0 m 103 ls [])) → W p l e R s m args below meth c H locs 0 0 Q (F0 m 32 ls []) := by
  have hx := hc.1
  have hb := hc.2.1
  intro n
  induction n with
  | zero => intro _ _ _ _ X H locs ls hf; exact nomatch (show none = some X from hf)
  | succ n ih =>
    intro S8 v5 v6 v7 X H locs ls hf hw hl kx
    rw [xf_X_sell_L32] at hf
    refine lv_iload hx hb dX11_sell_32 (lv_at hl 5 rfl) ?_
    refine lv_iload_n hx hb dX11_sell_34 rfl (lv_at hl 2 rfl) ?_
    refine lv_icmp_ge (tgt := 103) hx hb dX11_sell_35 (by decide) (fun cn14 => ?_) (fun cn14 => ?_)
    · have hf := (if_pos cn14).symm.trans hf
      obtain rfl := Option.some.inj hf
      exact kx _ _ _ hw (lv_sub hl [1, 3, 4] rfl)
    · have hf := (if_neg cn14).symm.trans hf
      refine lv_aload_n hx hb dX11_sell_38 rfl (lv_at hl 0 rfl) ?_
      refine x_g_this_prices hc hw fl_11_65 dX11_sell_39 ?_
      refine lv_iload hx hb dX11_sell_42 (lv_at hl 5 rfl) ?_
      obtain ⟨hi9, hf⟩ := gd_some hf
      refine x_l_this_prices hc hw (ok_in hi9) dX11_sell_44 ?_
      refine lv_aload_n hx hb dX11_sell_45 rfl (lv_at hl 0 rfl) ?_
      refine lv_aload_n hx hb dX11_sell_46 rfl (lv_at hl 0 rfl) ?_
      refine x_g_this_prices hc hw fl_11_65 dX11_sell_47 ?_
      refine lv_iload hx hb dX11_sell_50 (lv_at hl 5 rfl) ?_
      refine x_l_this_prices hc hw (ok_in hi9) dX11_sell_52 ?_
      refine lv_iload_n hx hb dX11_sell_53 rfl (lv_at hl 2 rfl) ?_
      obtain ⟨v10, hcall, hf⟩ := bd1_some hf
      refine x_cvi (As := [.int (S8.1 7 v7.toNatClampNeg), .int c4]) (rest := [.int (S8.1 7 v7.toNatClampNeg)]) hc hw hR (hml.trans hl.1.symm) (cx_X_howManyPay l N S8 (S8.1 7 v7.toNatClampNeg) c4 v10 hcall) xq_11_X_howManyPay (x_recv_this hw) (by decide) rfl rfl rfl (Nat.le_of_ble_eq_true rfl) dX11_sell_54 (fun H locs hw => ?_) ⟨Nat.zero_le _, Nat.zero_le _⟩
      refine lv_imul hx hb dX11_sell_57 ?_
      refine lv_istore (lv' := [(6, .int ((S8.1 7 v7.toNatClampNeg) * v10)), (0, .ref (xr g 0)), (1, .int c3), (2, .int c4), (3, .int v5), (4, .int v6), (5, .int v7)]) hx hb dX11_sell_58 hl (by decide) rfl (fun ls hl => ?_)
      refine lv_iload hx hb dX11_sell_60 (lv_at hl 0 rfl) ?_
      refine lv_iload hx hb dX11_sell_62 (lv_at hl 5 rfl) ?_
      refine lv_icmp_gt (tgt := 85) hx hb dX11_sell_64 (by decide) (fun cn15 => ?_) (fun cn15 => ?_)
      · have hf := (if_pos cn15).symm.trans hf
        refine lv_iload hx hb dX11_sell_85 (lv_at hl 0 rfl) ?_
        refine lv_istore (lv' := [(4, .int ((S8.1 7 v7.toNatClampNeg) * v10)), (6, .int ((S8.1 7 v7.toNatClampNeg) * v10)), (0, .ref (xr g 0)), (1, .int c3), (2, .int c4), (3, .int v5), (5, .int v7)]) hx hb dX11_sell_87 hl (by decide) rfl (fun ls hl => ?_)
        refine lv_aload_n hx hb dX11_sell_89 rfl (lv_at hl 2 rfl) ?_
        refine x_g_this_prices hc hw fl_11_65 dX11_sell_90 ?_
        refine lv_iload hx hb dX11_sell_93 (lv_at hl 6 rfl) ?_
        refine x_l_this_prices hc hw (ok_in hi9) dX11_sell_95 ?_
        refine lv_istore_n (lv' := [(3, .int (S8.1 7 v7.toNatClampNeg)), (4, .int ((S8.1 7 v7.toNatClampNeg) * v10)), (6, .int ((S8.1 7 v7.toNatClampNeg) * v10)), (0, .ref (xr g 0)), (1, .int c3), (2, .int c4), (5, .int v7)]) hx hb dX11_sell_96 rfl hl (by decide) rfl (fun ls hl => ?_)
        refine lv_iinc (lv' := [(5, .int (v7 + 1)), (3, .int (S8.1 7 v7.toNatClampNeg)), (4, .int ((S8.1 7 v7.toNatClampNeg) * v10)), (6, .int ((S8.1 7 v7.toNatClampNeg) * v10)), (0, .ref (xr g 0)), (1, .int c3), (2, .int c4)]) hx hb dX11_sell_97 hl (k := 6) rfl rfl (by decide) rfl (fun ls hl => ?_)
        refine lv_goto (tgt := 32) hx hb dX11_sell_100 (by decide) ?_
        exact ih _ _ _ _ X _ _ _ hf hw (lv_sub hl [4, 5, 6, 1, 2, 0] rfl) kx
      · have hf := (if_neg cn15).symm.trans hf
        refine lv_iload hx hb dX11_sell_67 (lv_at hl 0 rfl) ?_
        refine lv_iload hx hb dX11_sell_69 (lv_at hl 5 rfl) ?_
        refine lv_icmp_ne (tgt := 97) hx hb dX11_sell_71 (by decide) (fun cn16 => ?_) (fun cn16 => ?_)
        · have hf := (if_neg cn16).symm.trans hf
          refine lv_iinc (lv' := [(5, .int (v7 + 1)), (6, .int ((S8.1 7 v7.toNatClampNeg) * v10)), (0, .ref (xr g 0)), (1, .int c3), (2, .int c4), (3, .int v5), (4, .int v6)]) hx hb dX11_sell_97 hl (k := 6) rfl rfl (by decide) rfl (fun ls hl => ?_)
          refine lv_goto (tgt := 32) hx hb dX11_sell_100 (by decide) ?_
          exact ih _ _ _ _ X _ _ _ hf hw (lv_sub hl [2, 3, 4, 5, 6, 0] rfl) kx
        · have hf := (if_pos cn16).symm.trans hf
          refine lv_aload_n hx hb dX11_sell_74 rfl (lv_at hl 1 rfl) ?_
          refine x_g_this_prices hc hw fl_11_65 dX11_sell_75 ?_
          refine lv_iload hx hb dX11_sell_78 (lv_at hl 6 rfl) ?_
          refine x_l_this_prices hc hw (ok_in hi9) dX11_sell_80 ?_
          refine lv_iload_n hx hb dX11_sell_81 rfl (lv_at hl 4 rfl) ?_
          refine lv_icmp_ge (tgt := 97) hx hb dX11_sell_82 (by decide) (fun cn17 => ?_) (fun cn17 => ?_)
          · have hf := (if_pos cn17).symm.trans hf
            refine lv_iinc (lv' := [(5, .int (v7 + 1)), (6, .int ((S8.1 7 v7.toNatClampNeg) * v10)), (0, .ref (xr g 0)), (1, .int c3), (2, .int c4), (3, .int v5), (4, .int v6)]) hx hb dX11_sell_97 hl (k := 6) rfl rfl (by decide) rfl (fun ls hl => ?_)
            refine lv_goto (tgt := 32) hx hb dX11_sell_100 (by decide) ?_
            exact ih _ _ _ _ X _ _ _ hf hw (lv_sub hl [2, 3, 4, 5, 6, 0] rfl) kx
          · have hf := (if_neg cn17).symm.trans hf
            refine lv_iload hx hb dX11_sell_85 (lv_at hl 0 rfl) ?_
            refine lv_istore (lv' := [(4, .int ((S8.1 7 v7.toNatClampNeg) * v10)), (6, .int ((S8.1 7 v7.toNatClampNeg) * v10)), (0, .ref (xr g 0)), (1, .int c3), (2, .int c4), (3, .int v5), (5, .int v7)]) hx hb dX11_sell_87 hl (by decide) rfl (fun ls hl => ?_)
            refine lv_aload_n hx hb dX11_sell_89 rfl (lv_at hl 2 rfl) ?_
            refine x_g_this_prices hc hw fl_11_65 dX11_sell_90 ?_
            refine lv_iload hx hb dX11_sell_93 (lv_at hl 6 rfl) ?_
            refine x_l_this_prices hc hw (ok_in hi9) dX11_sell_95 ?_
            refine lv_istore_n (lv' := [(3, .int (S8.1 7 v7.toNatClampNeg)), (4, .int ((S8.1 7 v7.toNatClampNeg) * v10)), (6, .int ((S8.1 7 v7.toNatClampNeg) * v10)), (0, .ref (xr g 0)), (1, .int c3), (2, .int c4), (5, .int v7)]) hx hb dX11_sell_96 rfl hl (by decide) rfl (fun ls hl => ?_)
            refine lv_iinc (lv' := [(5, .int (v7 + 1)), (3, .int (S8.1 7 v7.toNatClampNeg)), (4, .int ((S8.1 7 v7.toNatClampNeg) * v10)), (6, .int ((S8.1 7 v7.toNatClampNeg) * v10)), (0, .ref (xr g 0)), (1, .int c3), (2, .int c4)]) hx hb dX11_sell_97 hl (k := 6) rfl rfl (by decide) rfl (fun ls hl => ?_)
            refine lv_goto (tgt := 32) hx hb dX11_sell_100 (by decide) ?_
            exact ih _ _ _ _ X _ _ _ hf hw (lv_sub hl [4, 5, 6, 1, 2, 0] rfl) kx
def xf_X_sell (N : Nat) (S : xS) (a1 : Int32) : Option (Int32 × xS) := (if (xf_X_isIn a1 0 1) = true then (bd2 (xf_H_pricesInto N S) fun v1 S2 => (bd2 (xf_X_sell_L32 N a1 v1 N S2 0 0 0) fun v11 v12 => (if a1 = 0 then some (v11, S2) else some (v12, S2)))) else some ((-2), S))
set_option maxRecDepth 100000 in
theorem cx_X_sell (l : Launch) (N : Nat) (S : xS) (a1 : Int32) (res : Int32) (S1 : xS) (hf : xf_X_sell N S a1 = some (res, S1)) : xMi l yX11_sell cX11_sell 7 .int 9 (fun g => [.ref (xr g 0), .int a1]) S res S1 := by
  refine xMi_of (own := RX11) (by decide) rfl rfl (fun g => Nat.le_of_ble_eq_true rfl) ?_
  intro p e R s m args below meth c Q g A H0 H locs ls hc hR hml hw hl hQ
  have hl : lv_has ls 7 [(0, .ref (xr g 0)), (1, .int a1)] := hl
  have hx := hc.1
  have hb := hc.2.1
  unfold xf_X_sell at hf
  refine lv_iload_n hx hb dX11_sell_0 rfl (lv_at hl 1 rfl) ?_
  refine lv_iconst (v := 0) hx hb dX11_sell_1 (by decide) ?_
  refine lv_iconst (v := 1) hx hb dX11_sell_2 (by decide) ?_
  refine x_csi (As := [.int a1, .int 0, .int 1]) (rest := []) hc hw hR (hml.trans hl.1.symm) (cx_X_isIn l S a1 0 1 _ rfl) xq_11_X_isIn (by decide) rfl rfl rfl (Nat.le_of_ble_eq_true rfl) dX11_sell_3 (fun H locs hw => ?_) ⟨Nat.zero_le _, Nat.zero_le _⟩
  refine lv_if_neb (tgt := 12) hx hb dX11_sell_6 (by decide) (fun cn13 => ?_) (fun cn13 => ?_)
  · have hf := (if_pos cn13).symm.trans hf
    refine lv_aload_n hx hb dX11_sell_12 rfl (lv_at hl 0 rfl) ?_
    refine x_g_this_hall hc hw fl_11_10 dX11_sell_13 ?_
    refine lv_aload_n hx hb dX11_sell_16 rfl (lv_at hl 0 rfl) ?_
    refine x_g_this_prices hc hw fl_11_65 dX11_sell_17 ?_
    obtain ⟨v1, S2, hcall, hf⟩ := bd2_some hf
    refine x_cvi (As := [.ref (xr g 6)]) (rest := []) hc hw hR (hml.trans hl.1.symm) (cx_H_pricesInto l N S v1 S2 hcall) xq_11_H_pricesInto (x_recv_hall hw) (by decide) rfl rfl rfl (Nat.le_of_ble_eq_true rfl) dX11_sell_20 (fun H locs hw => ?_) ⟨Nat.zero_le _, Nat.zero_le _⟩
    refine lv_istore_n (lv' := [(2, .int v1), (0, .ref (xr g 0)), (1, .int a1)]) hx hb dX11_sell_23 rfl hl (by decide) rfl (fun ls hl => ?_)
    refine lv_iconst (v := 0) hx hb dX11_sell_24 (by decide) ?_
    refine lv_istore_n (lv' := [(3, .int 0), (2, .int v1), (0, .ref (xr g 0)), (1, .int a1)]) hx hb dX11_sell_25 rfl hl (by decide) rfl (fun ls hl => ?_)
    refine lv_iconst (v := 0) hx hb dX11_sell_26 (by decide) ?_
    refine lv_istore (lv' := [(4, .int 0), (3, .int 0), (2, .int v1), (0, .ref (xr g 0)), (1, .int a1)]) hx hb dX11_sell_27 hl (by decide) rfl (fun ls hl => ?_)
    refine lv_iconst (v := 0) hx hb dX11_sell_29 (by decide) ?_
    refine lv_istore (lv' := [(5, .int 0), (4, .int 0), (3, .int 0), (2, .int v1), (0, .ref (xr g 0)), (1, .int a1)]) hx hb dX11_sell_30 hl (by decide) rfl (fun ls hl => ?_)
    obtain ⟨v11, v12, hL, hf⟩ := bd2_some hf
    refine wx_X_sell_L32 hc hR hml N a1 v1 N _ _ _ _ _ _ _ _ hL hw (lv_sub hl [4, 5, 3, 2, 1, 0] rfl) (fun H locs ls hw hl => ?_)
    refine lv_iload_n hx hb dX11_sell_103 rfl (lv_at hl 0 rfl) ?_
    refine lv_if_ne (tgt := 111) hx hb dX11_sell_104 (by decide) (fun cn20 => ?_) (fun cn20 => ?_)
    · have hf := (if_neg cn20).symm.trans hf
      refine lv_iload hx hb dX11_sell_111 (lv_at hl 2 rfl) ?_
      obtain ⟨rfl, rfl⟩ := pr2_some hf
      exact hQ _ _ _ _ dX11_sell_113 hw
    · have hf := (if_pos cn20).symm.trans hf
      refine lv_iload_n hx hb dX11_sell_107 rfl (lv_at hl 1 rfl) ?_
      refine lv_goto (tgt := 113) hx hb dX11_sell_108 (by decide) ?_
      obtain ⟨rfl, rfl⟩ := pr2_some hf
      exact hQ _ _ _ _ dX11_sell_113 hw
  · have hf := (if_neg cn13).symm.trans hf
    refine lv_bipush (v := (-2)) hx hb dX11_sell_9 (by decide) ?_
    obtain ⟨rfl, rfl⟩ := pr2_some hf
    exact hQ _ _ _ _ dX11_sell_11 hw
