def xf_R_readOne (N : Nat) (rc : Nat → xS → Option xS) (S : xS) : Option (xS) := (if (S.1 43 0) = 1 then (bd1 (xf_R_put N S (S.1 43 0) (S.1 44 0)) fun S1 => (bd1 (xf_R_advance N S1) fun S2 => some S2)) else (if (S.1 43 0) = 2 then (bd1 (xf_R_put N S (S.1 43 0) (S.1 44 0)) fun S11 => (bd1 (xf_R_advance N S11) fun S12 => some S12)) else (if (S.1 43 0) = 45 then (bd2 (xf_R_opens N S) fun v7 S8 => (if v7 = true then (bd1 (rc 6 S8) fun S9 => (bd1 (xf_R_put N S9 6 0) fun S10 => some (xs S10 45 0 ((S10.1 45 0) - 1)))) else some S8)) else (if (S.1 43 0) = 40 then (bd2 (xf_R_opens N S) fun v3 S4 => (if v3 = true then (bd1 (rc 0 S4) fun S5 => (bd1 (xf_R_expect N S5 41) fun S6 => some (xs S6 45 0 ((S6.1 45 0) - 1)))) else some S4)) else some (xf_R_refuse S)))))
set_option maxRecDepth 100000 in
theorem cx_R_readOne (l : Launch) (N : Nat) (rc : Nat → xS → Option xS) (dd : Nat) (hrc : ∀ k S S1, rc k S = some S1 → xKr l k (dd + 12) S S1) (S : xS) (S1 : xS) (hf : xf_R_readOne N rc S = some S1) : xMv l yX7_readOne cX7_readOne 1 (dd + 13) (fun g => [.ref (xr g 3)]) S S1 := by
  refine xMv_of (own := RX7) (by decide) rfl (fun g => Nat.le_of_ble_eq_true rfl) ?_
  intro p e R s m args below meth c Q g A H0 H locs ls hc hR hml hw hl hQ
  have hl : lv_has ls 1 [(0, .ref (xr g 3))] := hl
  have hx := hc.1
  have hb := hc.2.1
  unfold xf_R_readOne at hf
  refine lv_aload_n hx hb dX7_readOne_0 rfl (lv_at hl 0 rfl) ?_
  refine x_g_reader_token hc hw fl_7_28 dX7_readOne_1 ?_
  refine lv_iconst (v := 1) hx hb dX7_readOne_4 (by decide) ?_
  refine lv_icmp_eq (tgt := 16) hx hb dX7_readOne_5 (by decide) (fun cn13 => ?_) (fun cn13 => ?_)
  · have hf := (if_pos cn13).symm.trans hf
    refine lv_aload_n hx hb dX7_readOne_16 rfl (lv_at hl 0 rfl) ?_
    refine lv_aload_n hx hb dX7_readOne_17 rfl (lv_at hl 0 rfl) ?_
    refine x_g_reader_token hc hw fl_7_28 dX7_readOne_18 ?_
    refine lv_aload_n hx hb dX7_readOne_21 rfl (lv_at hl 0 rfl) ?_
    refine x_g_reader_operand hc hw fl_7_31 dX7_readOne_22 ?_
    obtain ⟨S1, hcall, hf⟩ := bd1_some hf
    refine x_cvv (As := [.int (S.1 43 0), .int (S.1 44 0)]) (rest := []) hc hw hR (hml.trans hl.1.symm) (cx_R_put l N S (S.1 43 0) (S.1 44 0) S1 hcall) xq_7_R_put (x_recv_reader hw) (by omega) rfl rfl rfl (Nat.le_of_ble_eq_true rfl) dX7_readOne_25 (fun H locs hw => ?_) ⟨Nat.zero_le _, Nat.zero_le _⟩
    refine lv_aload_n hx hb dX7_readOne_28 rfl (lv_at hl 0 rfl) ?_
    obtain ⟨S2, hcall, hf⟩ := bd1_some hf
    refine x_cvv (As := []) (rest := []) hc hw hR (hml.trans hl.1.symm) (cx_R_advance l N S1 S2 hcall) xq_7_R_advance (x_recv_reader hw) (by omega) rfl rfl rfl (Nat.le_of_ble_eq_true rfl) dX7_readOne_29 (fun H locs hw => ?_) ⟨Nat.zero_le _, Nat.zero_le _⟩
    refine lv_goto (tgt := 118) hx hb dX7_readOne_32 (by decide) ?_
    obtain rfl := Option.some.inj hf
    exact hQ _ _ _ _ dX7_readOne_118 hw
  · have hf := (if_neg cn13).symm.trans hf
    refine lv_aload_n hx hb dX7_readOne_8 rfl (lv_at hl 0 rfl) ?_
    refine x_g_reader_token hc hw fl_7_28 dX7_readOne_9 ?_
    refine lv_iconst (v := 2) hx hb dX7_readOne_12 (by decide) ?_
    refine lv_icmp_ne (tgt := 35) hx hb dX7_readOne_13 (by decide) (fun cn14 => ?_) (fun cn14 => ?_)
    · have hf := (if_neg cn14).symm.trans hf
      refine lv_aload_n hx hb dX7_readOne_35 rfl (lv_at hl 0 rfl) ?_
      refine x_g_reader_token hc hw fl_7_28 dX7_readOne_36 ?_
      refine lv_bipush (v := 45) hx hb dX7_readOne_39 (by decide) ?_
      refine lv_icmp_ne (tgt := 75) hx hb dX7_readOne_41 (by decide) (fun cn15 => ?_) (fun cn15 => ?_)
      · have hf := (if_neg cn15).symm.trans hf
        refine lv_aload_n hx hb dX7_readOne_75 rfl (lv_at hl 0 rfl) ?_
        refine x_g_reader_token hc hw fl_7_28 dX7_readOne_76 ?_
        refine lv_bipush (v := 40) hx hb dX7_readOne_79 (by decide) ?_
        refine lv_icmp_ne (tgt := 114) hx hb dX7_readOne_81 (by decide) (fun cn16 => ?_) (fun cn16 => ?_)
        · have hf := (if_neg cn16).symm.trans hf
          refine lv_aload_n hx hb dX7_readOne_114 rfl (lv_at hl 0 rfl) ?_
          refine x_cvv (As := []) (rest := []) hc hw hR (hml.trans hl.1.symm) (cx_R_refuse l S _ rfl) xq_7_R_refuse (x_recv_reader hw) (by omega) rfl rfl rfl (Nat.le_of_ble_eq_true rfl) dX7_readOne_115 (fun H locs hw => ?_) ⟨Nat.zero_le _, Nat.zero_le _⟩
          obtain rfl := Option.some.inj hf
          exact hQ _ _ _ _ dX7_readOne_118 hw
        · have hf := (if_pos cn16).symm.trans hf
          refine lv_aload_n hx hb dX7_readOne_84 rfl (lv_at hl 0 rfl) ?_
          obtain ⟨v3, S4, hcall, hf⟩ := bd2_some hf
          refine x_cvi (As := []) (rest := []) hc hw hR (hml.trans hl.1.symm) (cx_R_opens l N S v3 S4 hcall) xq_7_R_opens (x_recv_reader hw) (by omega) rfl rfl rfl (Nat.le_of_ble_eq_true rfl) dX7_readOne_85 (fun H locs hw => ?_) ⟨Nat.zero_le _, Nat.zero_le _⟩
          refine lv_if_eqb (tgt := 118) hx hb dX7_readOne_88 (by decide) (fun cn17 => ?_) (fun cn17 => ?_)
          · have hf := (if_neg cn17).symm.trans hf
            obtain rfl := Option.some.inj hf
            exact hQ _ _ _ _ dX7_readOne_118 hw
          · have hf := (if_pos cn17).symm.trans hf
            refine lv_aload_n hx hb dX7_readOne_91 rfl (lv_at hl 0 rfl) ?_
            obtain ⟨S5, hcall, hf⟩ := bd1_some hf
            refine x_cvv (As := []) (rest := []) hc hw hR (hml.trans hl.1.symm) (hrc 0 _ _ hcall) xq_7_R_readOr (x_recv_reader hw) (by omega) rfl rfl rfl (Nat.le_of_ble_eq_true rfl) dX7_readOne_92 (fun H locs hw => ?_) ⟨Nat.zero_le _, Nat.zero_le _⟩
            refine lv_aload_n hx hb dX7_readOne_95 rfl (lv_at hl 0 rfl) ?_
            refine lv_bipush (v := 41) hx hb dX7_readOne_96 (by decide) ?_
            obtain ⟨S6, hcall, hf⟩ := bd1_some hf
            refine x_cvv (As := [.int 41]) (rest := []) hc hw hR (hml.trans hl.1.symm) (cx_R_expect l N S5 41 S6 hcall) xq_7_R_expect (x_recv_reader hw) (by omega) rfl rfl rfl (Nat.le_of_ble_eq_true rfl) dX7_readOne_98 (fun H locs hw => ?_) ⟨Nat.zero_le _, Nat.zero_le _⟩
            refine lv_aload_n hx hb dX7_readOne_101 rfl (lv_at hl 0 rfl) ?_
            refine lv_dup hx hb dX7_readOne_102 rfl ?_
            refine x_g_reader_open hc hw fl_7_34 dX7_readOne_103 ?_
            refine lv_iconst (v := 1) hx hb dX7_readOne_106 (by decide) ?_
            refine lv_isub hx hb dX7_readOne_107 ?_
            refine x_p_reader_open hc hw fl_7_34 dX7_readOne_108 (fun H locs hw => ?_)
            refine lv_goto (tgt := 118) hx hb dX7_readOne_111 (by decide) ?_
            obtain rfl := Option.some.inj hf
            exact hQ _ _ _ _ dX7_readOne_118 hw
      · have hf := (if_pos cn15).symm.trans hf
        refine lv_aload_n hx hb dX7_readOne_44 rfl (lv_at hl 0 rfl) ?_
        obtain ⟨v7, S8, hcall, hf⟩ := bd2_some hf
        refine x_cvi (As := []) (rest := []) hc hw hR (hml.trans hl.1.symm) (cx_R_opens l N S v7 S8 hcall) xq_7_R_opens (x_recv_reader hw) (by omega) rfl rfl rfl (Nat.le_of_ble_eq_true rfl) dX7_readOne_45 (fun H locs hw => ?_) ⟨Nat.zero_le _, Nat.zero_le _⟩
        refine lv_if_eqb (tgt := 118) hx hb dX7_readOne_48 (by decide) (fun cn18 => ?_) (fun cn18 => ?_)
        · have hf := (if_neg cn18).symm.trans hf
          obtain rfl := Option.some.inj hf
          exact hQ _ _ _ _ dX7_readOne_118 hw
        · have hf := (if_pos cn18).symm.trans hf
          refine lv_aload_n hx hb dX7_readOne_51 rfl (lv_at hl 0 rfl) ?_
          obtain ⟨S9, hcall, hf⟩ := bd1_some hf
          refine x_cvv (As := []) (rest := []) hc hw hR (hml.trans hl.1.symm) (hrc 6 _ _ hcall) xq_7_R_readOne (x_recv_reader hw) (by omega) rfl rfl rfl (Nat.le_of_ble_eq_true rfl) dX7_readOne_52 (fun H locs hw => ?_) ⟨Nat.zero_le _, Nat.zero_le _⟩
          refine lv_aload_n hx hb dX7_readOne_55 rfl (lv_at hl 0 rfl) ?_
          refine lv_bipush (v := 6) hx hb dX7_readOne_56 (by decide) ?_
          refine lv_iconst (v := 0) hx hb dX7_readOne_58 (by decide) ?_
          obtain ⟨S10, hcall, hf⟩ := bd1_some hf
          refine x_cvv (As := [.int 6, .int 0]) (rest := []) hc hw hR (hml.trans hl.1.symm) (cx_R_put l N S9 6 0 S10 hcall) xq_7_R_put (x_recv_reader hw) (by omega) rfl rfl rfl (Nat.le_of_ble_eq_true rfl) dX7_readOne_59 (fun H locs hw => ?_) ⟨Nat.zero_le _, Nat.zero_le _⟩
          refine lv_aload_n hx hb dX7_readOne_62 rfl (lv_at hl 0 rfl) ?_
          refine lv_dup hx hb dX7_readOne_63 rfl ?_
          refine x_g_reader_open hc hw fl_7_34 dX7_readOne_64 ?_
          refine lv_iconst (v := 1) hx hb dX7_readOne_67 (by decide) ?_
          refine lv_isub hx hb dX7_readOne_68 ?_
          refine x_p_reader_open hc hw fl_7_34 dX7_readOne_69 (fun H locs hw => ?_)
          refine lv_goto (tgt := 118) hx hb dX7_readOne_72 (by decide) ?_
          obtain rfl := Option.some.inj hf
          exact hQ _ _ _ _ dX7_readOne_118 hw
    · have hf := (if_pos cn14).symm.trans hf
      refine lv_aload_n hx hb dX7_readOne_16 rfl (lv_at hl 0 rfl) ?_
      refine lv_aload_n hx hb dX7_readOne_17 rfl (lv_at hl 0 rfl) ?_
      refine x_g_reader_token hc hw fl_7_28 dX7_readOne_18 ?_
      refine lv_aload_n hx hb dX7_readOne_21 rfl (lv_at hl 0 rfl) ?_
      refine x_g_reader_operand hc hw fl_7_31 dX7_readOne_22 ?_
      obtain ⟨S11, hcall, hf⟩ := bd1_some hf
      refine x_cvv (As := [.int (S.1 43 0), .int (S.1 44 0)]) (rest := []) hc hw hR (hml.trans hl.1.symm) (cx_R_put l N S (S.1 43 0) (S.1 44 0) S11 hcall) xq_7_R_put (x_recv_reader hw) (by omega) rfl rfl rfl (Nat.le_of_ble_eq_true rfl) dX7_readOne_25 (fun H locs hw => ?_) ⟨Nat.zero_le _, Nat.zero_le _⟩
      refine lv_aload_n hx hb dX7_readOne_28 rfl (lv_at hl 0 rfl) ?_
      obtain ⟨S12, hcall, hf⟩ := bd1_some hf
      refine x_cvv (As := []) (rest := []) hc hw hR (hml.trans hl.1.symm) (cx_R_advance l N S11 S12 hcall) xq_7_R_advance (x_recv_reader hw) (by omega) rfl rfl rfl (Nat.le_of_ble_eq_true rfl) dX7_readOne_29 (fun H locs hw => ?_) ⟨Nat.zero_le _, Nat.zero_le _⟩
      refine lv_goto (tgt := 118) hx hb dX7_readOne_32 (by decide) ?_
      obtain rfl := Option.some.inj hf
      exact hQ _ _ _ _ dX7_readOne_118 hw
def xf_R_readTerm_L6 (N : Nat) (rc : Nat → xS → Option xS) : Nat → xS → Int32 → Option (xS)
  | 0, _, _ => none
  | n + 1, S3, v2 => (if 160 ≤ v2 then some S3 else (if (S3.1 43 0) = 42 then (bd1 (xf_R_advance N S3) fun S4 => (bd1 (rc 6 S4) fun S5 => (bd1 (xf_R_put N S5 42 0) fun S6 => xf_R_readTerm_L6 N rc n S6 (v2 + 1)))) else some S3))
set_option maxRecDepth 100000 in
theorem wx_R_readTerm_L6 {p : Program} {l : Launch} {e : Env} {R : Room} {s : State} {m : MethodId} {args : Array Value} {below : List Frame} {meth : Method} {c : Code} {Q : State → Prop} {g : xG} {A : Nat → Prop} {H0 : Heap} {dd : Nat} (hc : qC RX7 cX7_readTerm p s m args c) (hR : qRoom R (dd + 13)) (hml : c.maxLocals = 2) (N : Nat) (rc : Nat → xS → Option xS) (hrc : ∀ k S S1, rc k S = some S1 → xKr l k (dd + 12) S S1) : ∀ (n : Nat) (S3 : xS) (v2 : Int32) (X : xS) (H : Heap) (locs : List Loc) (ls : Array Slot), xf_R_readTerm_L6 N rc n S3 v2 = some X → xI g A H0 s S3 H locs → lv_has ls 2 [(0, .ref (xr g 3)), (1, .int v2)] → (∀ (H : Heap) (locs : List Loc) (ls : Array Slot), xI g A H0 s X H locs → lv_has ls 2 [] → W p l e R s m args below meth c H locs 0 0 Q (F0 m 43 ls [])) → W p l e R s m args below meth c H locs 0 0 Q (F0 m 6 ls []) := by
  have hx := hc.1
  have hb := hc.2.1
  intro n
  induction n with
  | zero => intro _ _ X H locs ls hf; exact nomatch (show none = some X from hf)
  | succ n ih =>
    intro S3 v2 X H locs ls hf hw hl kx
    rw [xf_R_readTerm_L6] at hf
    refine lv_iload_n hx hb dX7_readTerm_6 rfl (lv_at hl 1 rfl) ?_
    refine lv_sipush (v := 160) hx hb dX7_readTerm_7 (by decide) ?_
    refine lv_icmp_ge (tgt := 43) hx hb dX7_readTerm_10 (by decide) (fun cn8 => ?_) (fun cn8 => ?_)
    · have hf := (if_pos cn8).symm.trans hf
      obtain rfl := Option.some.inj hf
      exact kx _ _ _ hw (lv_sub hl [] rfl)
    · have hf := (if_neg cn8).symm.trans hf
      refine lv_aload_n hx hb dX7_readTerm_13 rfl (lv_at hl 0 rfl) ?_
      refine x_g_reader_token hc hw fl_7_28 dX7_readTerm_14 ?_
      refine lv_bipush (v := 42) hx hb dX7_readTerm_17 (by decide) ?_
      refine lv_icmp_ne (tgt := 43) hx hb dX7_readTerm_19 (by decide) (fun cn9 => ?_) (fun cn9 => ?_)
      · have hf := (if_neg cn9).symm.trans hf
        obtain rfl := Option.some.inj hf
        exact kx _ _ _ hw (lv_sub hl [] rfl)
      · have hf := (if_pos cn9).symm.trans hf
        refine lv_aload_n hx hb dX7_readTerm_22 rfl (lv_at hl 0 rfl) ?_
        obtain ⟨S4, hcall, hf⟩ := bd1_some hf
        refine x_cvv (As := []) (rest := []) hc hw hR (hml.trans hl.1.symm) (cx_R_advance l N S3 S4 hcall) xq_7_R_advance (x_recv_reader hw) (by omega) rfl rfl rfl (Nat.le_of_ble_eq_true rfl) dX7_readTerm_23 (fun H locs hw => ?_) ⟨Nat.zero_le _, Nat.zero_le _⟩
        refine lv_aload_n hx hb dX7_readTerm_26 rfl (lv_at hl 0 rfl) ?_
        obtain ⟨S5, hcall, hf⟩ := bd1_some hf
        refine x_cvv (As := []) (rest := []) hc hw hR (hml.trans hl.1.symm) (hrc 6 _ _ hcall) xq_7_R_readOne (x_recv_reader hw) (by omega) rfl rfl rfl (Nat.le_of_ble_eq_true rfl) dX7_readTerm_27 (fun H locs hw => ?_) ⟨Nat.zero_le _, Nat.zero_le _⟩
        refine lv_aload_n hx hb dX7_readTerm_30 rfl (lv_at hl 0 rfl) ?_
        refine lv_bipush (v := 42) hx hb dX7_readTerm_31 (by decide) ?_
        refine lv_iconst (v := 0) hx hb dX7_readTerm_33 (by decide) ?_
        obtain ⟨S6, hcall, hf⟩ := bd1_some hf
        refine x_cvv (As := [.int 42, .int 0]) (rest := []) hc hw hR (hml.trans hl.1.symm) (cx_R_put l N S5 42 0 S6 hcall) xq_7_R_put (x_recv_reader hw) (by omega) rfl rfl rfl (Nat.le_of_ble_eq_true rfl) dX7_readTerm_34 (fun H locs hw => ?_) ⟨Nat.zero_le _, Nat.zero_le _⟩
        refine lv_iinc (lv' := [(1, .int (v2 + 1)), (0, .ref (xr g 3))]) hx hb dX7_readTerm_37 hl (k := 1) rfl rfl (by decide) rfl (fun ls hl => ?_)
        refine lv_goto (tgt := 6) hx hb dX7_readTerm_40 (by decide) ?_
        exact ih _ _ X _ _ _ hf hw (lv_sub hl [1, 0] rfl) kx
def xf_R_readTerm (N : Nat) (rc : Nat → xS → Option xS) (S : xS) : Option (xS) := (bd1 (rc 6 S) fun S1 => (bd1 (xf_R_readTerm_L6 N rc N S1 0) fun S7 => some S7))
set_option maxRecDepth 100000 in
theorem cx_R_readTerm (l : Launch) (N : Nat) (rc : Nat → xS → Option xS) (dd : Nat) (hrc : ∀ k S S1, rc k S = some S1 → xKr l k (dd + 12) S S1) (S : xS) (S1 : xS) (hf : xf_R_readTerm N rc S = some S1) : xMv l yX7_readTerm cX7_readTerm 2 (dd + 13) (fun g => [.ref (xr g 3)]) S S1 := by
  refine xMv_of (own := RX7) (by decide) rfl (fun g => Nat.le_of_ble_eq_true rfl) ?_
  intro p e R s m args below meth c Q g A H0 H locs ls hc hR hml hw hl hQ
  have hl : lv_has ls 2 [(0, .ref (xr g 3))] := hl
  have hx := hc.1
  have hb := hc.2.1
  unfold xf_R_readTerm at hf
  refine lv_aload_n hx hb dX7_readTerm_0 rfl (lv_at hl 0 rfl) ?_
  obtain ⟨S1, hcall, hf⟩ := bd1_some hf
  refine x_cvv (As := []) (rest := []) hc hw hR (hml.trans hl.1.symm) (hrc 6 _ _ hcall) xq_7_R_readOne (x_recv_reader hw) (by omega) rfl rfl rfl (Nat.le_of_ble_eq_true rfl) dX7_readTerm_1 (fun H locs hw => ?_) ⟨Nat.zero_le _, Nat.zero_le _⟩
  refine lv_iconst (v := 0) hx hb dX7_readTerm_4 (by decide) ?_
  refine lv_istore_n (lv' := [(1, .int 0), (0, .ref (xr g 3))]) hx hb dX7_readTerm_5 rfl hl (by decide) rfl (fun ls hl => ?_)
  obtain ⟨S7, hL, hf⟩ := bd1_some hf
  refine wx_R_readTerm_L6 hc hR hml N rc hrc N _ _ _ _ _ _ hL hw (lv_sub hl [1, 0] rfl) (fun H locs ls hw hl => ?_)
  obtain rfl := Option.some.inj hf
  exact hQ _ _ _ _ dX7_readTerm_43 hw
def xf_R_readSum_L6 (N : Nat) (rc : Nat → xS → Option xS) : Nat → xS → Int32 → Option (xS)
  | 0, _, _ => none
  | n + 1, S3, v2 => (if 160 ≤ v2 then some S3 else (bm0 (if (S3.1 43 0) = 43 then some (.inr ()) else (if (S3.1 43 0) = 45 then some (.inr ()) else some (.inl (some S3)))) fun _ => (bd1 (xf_R_advance N S3) fun S4 => (bd1 (rc 5 S4) fun S5 => (bd1 (xf_R_put N S5 (S3.1 43 0) 0) fun S6 => xf_R_readSum_L6 N rc n S6 (v2 + 1))))))
set_option maxRecDepth 100000 in
theorem wx_R_readSum_L6 {p : Program} {l : Launch} {e : Env} {R : Room} {s : State} {m : MethodId} {args : Array Value} {below : List Frame} {meth : Method} {c : Code} {Q : State → Prop} {g : xG} {A : Nat → Prop} {H0 : Heap} {dd : Nat} (hc : qC RX7 cX7_readSum p s m args c) (hR : qRoom R (dd + 13)) (hml : c.maxLocals = 3) (N : Nat) (rc : Nat → xS → Option xS) (hrc : ∀ k S S1, rc k S = some S1 → xKr l k (dd + 12) S S1) : ∀ (n : Nat) (S3 : xS) (v2 : Int32) (X : xS) (H : Heap) (locs : List Loc) (ls : Array Slot), xf_R_readSum_L6 N rc n S3 v2 = some X → xI g A H0 s S3 H locs → lv_has ls 3 [(0, .ref (xr g 3)), (1, .int v2)] → (∀ (H : Heap) (locs : List Loc) (ls : Array Slot), xI g A H0 s X H locs → lv_has ls 3 [] → W p l e R s m args below meth c H locs 0 0 Q (F0 m 56 ls [])) → W p l e R s m args below meth c H locs 0 0 Q (F0 m 6 ls []) := by
  have hx := hc.1
  have hb := hc.2.1
  intro n
  induction n with
  | zero => intro _ _ X H locs ls hf; exact nomatch (show none = some X from hf)
  | succ n ih =>
    intro S3 v2 X H locs ls hf hw hl kx
    rw [xf_R_readSum_L6] at hf
    refine lv_iload_n hx hb dX7_readSum_6 rfl (lv_at hl 1 rfl) ?_
    refine lv_sipush (v := 160) hx hb dX7_readSum_7 (by decide) ?_
    refine lv_icmp_ge (tgt := 56) hx hb dX7_readSum_10 (by decide) (fun cn8 => ?_) (fun cn8 => ?_)
    · have hf := (if_pos cn8).symm.trans hf
      obtain rfl := Option.some.inj hf
      exact kx _ _ _ hw (lv_sub hl [] rfl)
    · have hf := (if_neg cn8).symm.trans hf
      refine lv_aload_n hx hb dX7_readSum_13 rfl (lv_at hl 0 rfl) ?_
      refine x_g_reader_token hc hw fl_7_28 dX7_readSum_14 ?_
      refine lv_bipush (v := 43) hx hb dX7_readSum_17 (by decide) ?_
      obtain ⟨Y, hX9, hf⟩ := bm0_some hf
      have kJ10 : Y = .inr () → ∀ (H : Heap) (locs : List Loc) (ls : Array Slot), xI g A H0 s S3 H locs → lv_has ls 3 [(0, .ref (xr g 3)), (1, .int v2)] → W p l e R s m args below meth c H locs 0 0 Q (F0 m 31 ls []) := by
        intro  hY H locs ls hw hl
        subst hY
        have hf := bc0_r hf
        refine lv_aload_n hx hb dX7_readSum_31 rfl (lv_at hl 0 rfl) ?_
        refine x_g_reader_token hc hw fl_7_28 dX7_readSum_32 ?_
        refine lv_istore_n (lv' := [(2, .int (S3.1 43 0)), (0, .ref (xr g 3)), (1, .int v2)]) hx hb dX7_readSum_35 rfl hl (by decide) rfl (fun ls hl => ?_)
        refine lv_aload_n hx hb dX7_readSum_36 rfl (lv_at hl 1 rfl) ?_
        obtain ⟨S4, hcall, hf⟩ := bd1_some hf
        refine x_cvv (As := []) (rest := []) hc hw hR (hml.trans hl.1.symm) (cx_R_advance l N S3 S4 hcall) xq_7_R_advance (x_recv_reader hw) (by omega) rfl rfl rfl (Nat.le_of_ble_eq_true rfl) dX7_readSum_37 (fun H locs hw => ?_) ⟨Nat.zero_le _, Nat.zero_le _⟩
        refine lv_aload_n hx hb dX7_readSum_40 rfl (lv_at hl 1 rfl) ?_
        obtain ⟨S5, hcall, hf⟩ := bd1_some hf
        refine x_cvv (As := []) (rest := []) hc hw hR (hml.trans hl.1.symm) (hrc 5 _ _ hcall) xq_7_R_readTerm (x_recv_reader hw) (by omega) rfl rfl rfl (Nat.le_of_ble_eq_true rfl) dX7_readSum_41 (fun H locs hw => ?_) ⟨Nat.zero_le _, Nat.zero_le _⟩
        refine lv_aload_n hx hb dX7_readSum_44 rfl (lv_at hl 1 rfl) ?_
        refine lv_iload_n hx hb dX7_readSum_45 rfl (lv_at hl 0 rfl) ?_
        refine lv_iconst (v := 0) hx hb dX7_readSum_46 (by decide) ?_
        obtain ⟨S6, hcall, hf⟩ := bd1_some hf
        refine x_cvv (As := [.int (S3.1 43 0), .int 0]) (rest := []) hc hw hR (hml.trans hl.1.symm) (cx_R_put l N S5 (S3.1 43 0) 0 S6 hcall) xq_7_R_put (x_recv_reader hw) (by omega) rfl rfl rfl (Nat.le_of_ble_eq_true rfl) dX7_readSum_47 (fun H locs hw => ?_) ⟨Nat.zero_le _, Nat.zero_le _⟩
        refine lv_iinc (lv' := [(1, .int (v2 + 1)), (2, .int (S3.1 43 0)), (0, .ref (xr g 3))]) hx hb dX7_readSum_50 hl (k := 2) rfl rfl (by decide) rfl (fun ls hl => ?_)
        refine lv_goto (tgt := 6) hx hb dX7_readSum_53 (by decide) ?_
        exact ih _ _ X _ _ _ hf hw (lv_sub hl [2, 0] rfl) kx
      refine lv_icmp_eq (tgt := 31) hx hb dX7_readSum_19 (by decide) (fun cn11 => ?_) (fun cn11 => ?_)
      · have hX9 := (if_pos cn11).symm.trans hX9
        exact kJ10 (Option.some.inj hX9).symm _ _ _ hw (lv_sub hl [0, 1] rfl)
      · have hX9 := (if_neg cn11).symm.trans hX9
        refine lv_aload_n hx hb dX7_readSum_22 rfl (lv_at hl 0 rfl) ?_
        refine x_g_reader_token hc hw fl_7_28 dX7_readSum_23 ?_
        refine lv_bipush (v := 45) hx hb dX7_readSum_26 (by decide) ?_
        refine lv_icmp_ne (tgt := 56) hx hb dX7_readSum_28 (by decide) (fun cn12 => ?_) (fun cn12 => ?_)
        · have hX9 := (if_neg cn12).symm.trans hX9
          obtain rfl := Option.some.inj hX9
          have hf := bc0_l hf
          obtain rfl := Option.some.inj hf
          exact kx _ _ _ hw (lv_sub hl [] rfl)
        · have hX9 := (if_pos cn12).symm.trans hX9
          exact kJ10 (Option.some.inj hX9).symm _ _ _ hw (lv_sub hl [0, 1] rfl)
def xf_R_readSum (N : Nat) (rc : Nat → xS → Option xS) (S : xS) : Option (xS) := (bd1 (rc 5 S) fun S1 => (bd1 (xf_R_readSum_L6 N rc N S1 0) fun S7 => some S7))
set_option maxRecDepth 100000 in
theorem cx_R_readSum (l : Launch) (N : Nat) (rc : Nat → xS → Option xS) (dd : Nat) (hrc : ∀ k S S1, rc k S = some S1 → xKr l k (dd + 12) S S1) (S : xS) (S1 : xS) (hf : xf_R_readSum N rc S = some S1) : xMv l yX7_readSum cX7_readSum 3 (dd + 13) (fun g => [.ref (xr g 3)]) S S1 := by
  refine xMv_of (own := RX7) (by decide) rfl (fun g => Nat.le_of_ble_eq_true rfl) ?_
  intro p e R s m args below meth c Q g A H0 H locs ls hc hR hml hw hl hQ
  have hl : lv_has ls 3 [(0, .ref (xr g 3))] := hl
  have hx := hc.1
  have hb := hc.2.1
  unfold xf_R_readSum at hf
  refine lv_aload_n hx hb dX7_readSum_0 rfl (lv_at hl 0 rfl) ?_
  obtain ⟨S1, hcall, hf⟩ := bd1_some hf
  refine x_cvv (As := []) (rest := []) hc hw hR (hml.trans hl.1.symm) (hrc 5 _ _ hcall) xq_7_R_readTerm (x_recv_reader hw) (by omega) rfl rfl rfl (Nat.le_of_ble_eq_true rfl) dX7_readSum_1 (fun H locs hw => ?_) ⟨Nat.zero_le _, Nat.zero_le _⟩
  refine lv_iconst (v := 0) hx hb dX7_readSum_4 (by decide) ?_
  refine lv_istore_n (lv' := [(1, .int 0), (0, .ref (xr g 3))]) hx hb dX7_readSum_5 rfl hl (by decide) rfl (fun ls hl => ?_)
  obtain ⟨S7, hL, hf⟩ := bd1_some hf
  refine wx_R_readSum_L6 hc hR hml N rc hrc N _ _ _ _ _ _ hL hw (lv_sub hl [1, 0] rfl) (fun H locs ls hw hl => ?_)
  obtain rfl := Option.some.inj hf
  exact hQ _ _ _ _ dX7_readSum_56 hw
def xf_R_readComparison (N : Nat) (rc : Nat → xS → Option xS) (S : xS) : Option (xS) := (bd1 (rc 4 S) fun S1 => (if (S1.1 43 0) = 60 then (bd1 (xf_R_advance N S1) fun S2 => (bd1 (rc 4 S2) fun S3 => (bd1 (xf_R_put N S3 (S1.1 43 0) 0) fun S4 => some S4))) else (if (S1.1 43 0) = 61 then (bd1 (xf_R_advance N S1) fun S5 => (bd1 (rc 4 S5) fun S6 => (bd1 (xf_R_put N S6 (S1.1 43 0) 0) fun S7 => some S7))) else some S1)))
set_option maxRecDepth 100000 in
theorem cx_R_readComparison (l : Launch) (N : Nat) (rc : Nat → xS → Option xS) (dd : Nat) (hrc : ∀ k S S1, rc k S = some S1 → xKr l k (dd + 12) S S1) (S : xS) (S1 : xS) (hf : xf_R_readComparison N rc S = some S1) : xMv l yX7_readComparison cX7_readComparison 2 (dd + 13) (fun g => [.ref (xr g 3)]) S S1 := by
  refine xMv_of (own := RX7) (by decide) rfl (fun g => Nat.le_of_ble_eq_true rfl) ?_
  intro p e R s m args below meth c Q g A H0 H locs ls hc hR hml hw hl hQ
  have hl : lv_has ls 2 [(0, .ref (xr g 3))] := hl
  have hx := hc.1
  have hb := hc.2.1
  unfold xf_R_readComparison at hf
  refine lv_aload_n hx hb dX7_readComparison_0 rfl (lv_at hl 0 rfl) ?_
  obtain ⟨S1, hcall, hf⟩ := bd1_some hf
  refine x_cvv (As := []) (rest := []) hc hw hR (hml.trans hl.1.symm) (hrc 4 _ _ hcall) xq_7_R_readSum (x_recv_reader hw) (by omega) rfl rfl rfl (Nat.le_of_ble_eq_true rfl) dX7_readComparison_1 (fun H locs hw => ?_) ⟨Nat.zero_le _, Nat.zero_le _⟩
  refine lv_aload_n hx hb dX7_readComparison_4 rfl (lv_at hl 0 rfl) ?_
  refine x_g_reader_token hc hw fl_7_28 dX7_readComparison_5 ?_
  refine lv_istore_n (lv' := [(1, .int (S1.1 43 0)), (0, .ref (xr g 3))]) hx hb dX7_readComparison_8 rfl hl (by decide) rfl (fun ls hl => ?_)
  refine lv_iload_n hx hb dX7_readComparison_9 rfl (lv_at hl 0 rfl) ?_
  refine lv_bipush (v := 60) hx hb dX7_readComparison_10 (by decide) ?_
  refine lv_icmp_eq (tgt := 21) hx hb dX7_readComparison_12 (by decide) (fun cn8 => ?_) (fun cn8 => ?_)
  · have hf := (if_pos cn8).symm.trans hf
    refine lv_aload_n hx hb dX7_readComparison_21 rfl (lv_at hl 1 rfl) ?_
    obtain ⟨S2, hcall, hf⟩ := bd1_some hf
    refine x_cvv (As := []) (rest := []) hc hw hR (hml.trans hl.1.symm) (cx_R_advance l N S1 S2 hcall) xq_7_R_advance (x_recv_reader hw) (by omega) rfl rfl rfl (Nat.le_of_ble_eq_true rfl) dX7_readComparison_22 (fun H locs hw => ?_) ⟨Nat.zero_le _, Nat.zero_le _⟩
    refine lv_aload_n hx hb dX7_readComparison_25 rfl (lv_at hl 1 rfl) ?_
    obtain ⟨S3, hcall, hf⟩ := bd1_some hf
    refine x_cvv (As := []) (rest := []) hc hw hR (hml.trans hl.1.symm) (hrc 4 _ _ hcall) xq_7_R_readSum (x_recv_reader hw) (by omega) rfl rfl rfl (Nat.le_of_ble_eq_true rfl) dX7_readComparison_26 (fun H locs hw => ?_) ⟨Nat.zero_le _, Nat.zero_le _⟩
    refine lv_aload_n hx hb dX7_readComparison_29 rfl (lv_at hl 1 rfl) ?_
    refine lv_iload_n hx hb dX7_readComparison_30 rfl (lv_at hl 0 rfl) ?_
    refine lv_iconst (v := 0) hx hb dX7_readComparison_31 (by decide) ?_
    obtain ⟨S4, hcall, hf⟩ := bd1_some hf
    refine x_cvv (As := [.int (S1.1 43 0), .int 0]) (rest := []) hc hw hR (hml.trans hl.1.symm) (cx_R_put l N S3 (S1.1 43 0) 0 S4 hcall) xq_7_R_put (x_recv_reader hw) (by omega) rfl rfl rfl (Nat.le_of_ble_eq_true rfl) dX7_readComparison_32 (fun H locs hw => ?_) ⟨Nat.zero_le _, Nat.zero_le _⟩
    obtain rfl := Option.some.inj hf
    exact hQ _ _ _ _ dX7_readComparison_35 hw
  · have hf := (if_neg cn8).symm.trans hf
    refine lv_iload_n hx hb dX7_readComparison_15 rfl (lv_at hl 0 rfl) ?_
    refine lv_bipush (v := 61) hx hb dX7_readComparison_16 (by decide) ?_
    refine lv_icmp_ne (tgt := 35) hx hb dX7_readComparison_18 (by decide) (fun cn9 => ?_) (fun cn9 => ?_)
    · have hf := (if_neg cn9).symm.trans hf
      obtain rfl := Option.some.inj hf
      exact hQ _ _ _ _ dX7_readComparison_35 hw
    · have hf := (if_pos cn9).symm.trans hf
      refine lv_aload_n hx hb dX7_readComparison_21 rfl (lv_at hl 1 rfl) ?_
      obtain ⟨S5, hcall, hf⟩ := bd1_some hf
      refine x_cvv (As := []) (rest := []) hc hw hR (hml.trans hl.1.symm) (cx_R_advance l N S1 S5 hcall) xq_7_R_advance (x_recv_reader hw) (by omega) rfl rfl rfl (Nat.le_of_ble_eq_true rfl) dX7_readComparison_22 (fun H locs hw => ?_) ⟨Nat.zero_le _, Nat.zero_le _⟩
      refine lv_aload_n hx hb dX7_readComparison_25 rfl (lv_at hl 1 rfl) ?_
      obtain ⟨S6, hcall, hf⟩ := bd1_some hf
      refine x_cvv (As := []) (rest := []) hc hw hR (hml.trans hl.1.symm) (hrc 4 _ _ hcall) xq_7_R_readSum (x_recv_reader hw) (by omega) rfl rfl rfl (Nat.le_of_ble_eq_true rfl) dX7_readComparison_26 (fun H locs hw => ?_) ⟨Nat.zero_le _, Nat.zero_le _⟩
      refine lv_aload_n hx hb dX7_readComparison_29 rfl (lv_at hl 1 rfl) ?_
      refine lv_iload_n hx hb dX7_readComparison_30 rfl (lv_at hl 0 rfl) ?_
      refine lv_iconst (v := 0) hx hb dX7_readComparison_31 (by decide) ?_
      obtain ⟨S7, hcall, hf⟩ := bd1_some hf
      refine x_cvv (As := [.int (S1.1 43 0), .int 0]) (rest := []) hc hw hR (hml.trans hl.1.symm) (cx_R_put l N S6 (S1.1 43 0) 0 S7 hcall) xq_7_R_put (x_recv_reader hw) (by omega) rfl rfl rfl (Nat.le_of_ble_eq_true rfl) dX7_readComparison_32 (fun H locs hw => ?_) ⟨Nat.zero_le _, Nat.zero_le _⟩
      obtain rfl := Option.some.inj hf
      exact hQ _ _ _ _ dX7_readComparison_35 hw
def xf_R_readNot (N : Nat) (rc : Nat → xS → Option xS) (S : xS) : Option (xS) := (if (S.1 43 0) = 5 then (bd2 (xf_R_opens N S) fun v1 S2 => (if v1 = true then (bd1 (rc 2 S2) fun S3 => (bd1 (xf_R_put N S3 5 0) fun S4 => some (xs S4 45 0 ((S4.1 45 0) - 1)))) else some S2)) else (bd1 (rc 3 S) fun S5 => some S5))
set_option maxRecDepth 100000 in
theorem cx_R_readNot (l : Launch) (N : Nat) (rc : Nat → xS → Option xS) (dd : Nat) (hrc : ∀ k S S1, rc k S = some S1 → xKr l k (dd + 12) S S1) (S : xS) (S1 : xS) (hf : xf_R_readNot N rc S = some S1) : xMv l yX7_readNot cX7_readNot 1 (dd + 13) (fun g => [.ref (xr g 3)]) S S1 := by
  refine xMv_of (own := RX7) (by decide) rfl (fun g => Nat.le_of_ble_eq_true rfl) ?_
  intro p e R s m args below meth c Q g A H0 H locs ls hc hR hml hw hl hQ
  have hl : lv_has ls 1 [(0, .ref (xr g 3))] := hl
  have hx := hc.1
  have hb := hc.2.1
  unfold xf_R_readNot at hf
  refine lv_aload_n hx hb dX7_readNot_0 rfl (lv_at hl 0 rfl) ?_
  refine x_g_reader_token hc hw fl_7_28 dX7_readNot_1 ?_
  refine lv_iconst (v := 5) hx hb dX7_readNot_4 (by decide) ?_
  refine lv_icmp_eq (tgt := 15) hx hb dX7_readNot_5 (by decide) (fun cn6 => ?_) (fun cn6 => ?_)
  · have hf := (if_pos cn6).symm.trans hf
    refine lv_aload_n hx hb dX7_readNot_15 rfl (lv_at hl 0 rfl) ?_
    obtain ⟨v1, S2, hcall, hf⟩ := bd2_some hf
    refine x_cvi (As := []) (rest := []) hc hw hR (hml.trans hl.1.symm) (cx_R_opens l N S v1 S2 hcall) xq_7_R_opens (x_recv_reader hw) (by omega) rfl rfl rfl (Nat.le_of_ble_eq_true rfl) dX7_readNot_16 (fun H locs hw => ?_) ⟨Nat.zero_le _, Nat.zero_le _⟩
    refine lv_if_eqb (tgt := 42) hx hb dX7_readNot_19 (by decide) (fun cn7 => ?_) (fun cn7 => ?_)
    · have hf := (if_neg cn7).symm.trans hf
      obtain rfl := Option.some.inj hf
      exact hQ _ _ _ _ dX7_readNot_42 hw
    · have hf := (if_pos cn7).symm.trans hf
      refine lv_aload_n hx hb dX7_readNot_22 rfl (lv_at hl 0 rfl) ?_
      obtain ⟨S3, hcall, hf⟩ := bd1_some hf
      refine x_cvv (As := []) (rest := []) hc hw hR (hml.trans hl.1.symm) (hrc 2 _ _ hcall) xq_7_R_readNot (x_recv_reader hw) (by omega) rfl rfl rfl (Nat.le_of_ble_eq_true rfl) dX7_readNot_23 (fun H locs hw => ?_) ⟨Nat.zero_le _, Nat.zero_le _⟩
      refine lv_aload_n hx hb dX7_readNot_26 rfl (lv_at hl 0 rfl) ?_
      refine lv_iconst (v := 5) hx hb dX7_readNot_27 (by decide) ?_
      refine lv_iconst (v := 0) hx hb dX7_readNot_28 (by decide) ?_
      obtain ⟨S4, hcall, hf⟩ := bd1_some hf
      refine x_cvv (As := [.int 5, .int 0]) (rest := []) hc hw hR (hml.trans hl.1.symm) (cx_R_put l N S3 5 0 S4 hcall) xq_7_R_put (x_recv_reader hw) (by omega) rfl rfl rfl (Nat.le_of_ble_eq_true rfl) dX7_readNot_29 (fun H locs hw => ?_) ⟨Nat.zero_le _, Nat.zero_le _⟩
      refine lv_aload_n hx hb dX7_readNot_32 rfl (lv_at hl 0 rfl) ?_
      refine lv_dup hx hb dX7_readNot_33 rfl ?_
      refine x_g_reader_open hc hw fl_7_34 dX7_readNot_34 ?_
      refine lv_iconst (v := 1) hx hb dX7_readNot_37 (by decide) ?_
      refine lv_isub hx hb dX7_readNot_38 ?_
      refine x_p_reader_open hc hw fl_7_34 dX7_readNot_39 (fun H locs hw => ?_)
      obtain rfl := Option.some.inj hf
      exact hQ _ _ _ _ dX7_readNot_42 hw
  · have hf := (if_neg cn6).symm.trans hf
    refine lv_aload_n hx hb dX7_readNot_8 rfl (lv_at hl 0 rfl) ?_
    obtain ⟨S5, hcall, hf⟩ := bd1_some hf
    refine x_cvv (As := []) (rest := []) hc hw hR (hml.trans hl.1.symm) (hrc 3 _ _ hcall) xq_7_R_readComparison (x_recv_reader hw) (by omega) rfl rfl rfl (Nat.le_of_ble_eq_true rfl) dX7_readNot_9 (fun H locs hw => ?_) ⟨Nat.zero_le _, Nat.zero_le _⟩
    refine lv_goto (tgt := 42) hx hb dX7_readNot_12 (by decide) ?_
    obtain rfl := Option.some.inj hf
    exact hQ _ _ _ _ dX7_readNot_42 hw
def xf_R_readAnd_L6 (N : Nat) (rc : Nat → xS → Option xS) : Nat → xS → Int32 → Option (xS)
  | 0, _, _ => none
  | n + 1, S3, v2 => (if 160 ≤ v2 then some S3 else (if (S3.1 43 0) = 4 then (bd1 (xf_R_advance N S3) fun S4 => (bd1 (rc 2 S4) fun S5 => (bd1 (xf_R_put N S5 4 0) fun S6 => xf_R_readAnd_L6 N rc n S6 (v2 + 1)))) else some S3))
set_option maxRecDepth 100000 in
theorem wx_R_readAnd_L6 {p : Program} {l : Launch} {e : Env} {R : Room} {s : State} {m : MethodId} {args : Array Value} {below : List Frame} {meth : Method} {c : Code} {Q : State → Prop} {g : xG} {A : Nat → Prop} {H0 : Heap} {dd : Nat} (hc : qC RX7 cX7_readAnd p s m args c) (hR : qRoom R (dd + 13)) (hml : c.maxLocals = 2) (N : Nat) (rc : Nat → xS → Option xS) (hrc : ∀ k S S1, rc k S = some S1 → xKr l k (dd + 12) S S1) : ∀ (n : Nat) (S3 : xS) (v2 : Int32) (X : xS) (H : Heap) (locs : List Loc) (ls : Array Slot), xf_R_readAnd_L6 N rc n S3 v2 = some X → xI g A H0 s S3 H locs → lv_has ls 2 [(0, .ref (xr g 3)), (1, .int v2)] → (∀ (H : Heap) (locs : List Loc) (ls : Array Slot), xI g A H0 s X H locs → lv_has ls 2 [] → W p l e R s m args below meth c H locs 0 0 Q (F0 m 41 ls [])) → W p l e R s m args below meth c H locs 0 0 Q (F0 m 6 ls []) := by
  have hx := hc.1
  have hb := hc.2.1
  intro n
  induction n with
  | zero => intro _ _ X H locs ls hf; exact nomatch (show none = some X from hf)
  | succ n ih =>
    intro S3 v2 X H locs ls hf hw hl kx
    rw [xf_R_readAnd_L6] at hf
    refine lv_iload_n hx hb dX7_readAnd_6 rfl (lv_at hl 1 rfl) ?_
    refine lv_sipush (v := 160) hx hb dX7_readAnd_7 (by decide) ?_
    refine lv_icmp_ge (tgt := 41) hx hb dX7_readAnd_10 (by decide) (fun cn8 => ?_) (fun cn8 => ?_)
    · have hf := (if_pos cn8).symm.trans hf
      obtain rfl := Option.some.inj hf
      exact kx _ _ _ hw (lv_sub hl [] rfl)
    · have hf := (if_neg cn8).symm.trans hf
      refine lv_aload_n hx hb dX7_readAnd_13 rfl (lv_at hl 0 rfl) ?_
      refine x_g_reader_token hc hw fl_7_28 dX7_readAnd_14 ?_
      refine lv_iconst (v := 4) hx hb dX7_readAnd_17 (by decide) ?_
      refine lv_icmp_ne (tgt := 41) hx hb dX7_readAnd_18 (by decide) (fun cn9 => ?_) (fun cn9 => ?_)
      · have hf := (if_neg cn9).symm.trans hf
        obtain rfl := Option.some.inj hf
        exact kx _ _ _ hw (lv_sub hl [] rfl)
      · have hf := (if_pos cn9).symm.trans hf
        refine lv_aload_n hx hb dX7_readAnd_21 rfl (lv_at hl 0 rfl) ?_
        obtain ⟨S4, hcall, hf⟩ := bd1_some hf
        refine x_cvv (As := []) (rest := []) hc hw hR (hml.trans hl.1.symm) (cx_R_advance l N S3 S4 hcall) xq_7_R_advance (x_recv_reader hw) (by omega) rfl rfl rfl (Nat.le_of_ble_eq_true rfl) dX7_readAnd_22 (fun H locs hw => ?_) ⟨Nat.zero_le _, Nat.zero_le _⟩
        refine lv_aload_n hx hb dX7_readAnd_25 rfl (lv_at hl 0 rfl) ?_
        obtain ⟨S5, hcall, hf⟩ := bd1_some hf
        refine x_cvv (As := []) (rest := []) hc hw hR (hml.trans hl.1.symm) (hrc 2 _ _ hcall) xq_7_R_readNot (x_recv_reader hw) (by omega) rfl rfl rfl (Nat.le_of_ble_eq_true rfl) dX7_readAnd_26 (fun H locs hw => ?_) ⟨Nat.zero_le _, Nat.zero_le _⟩
        refine lv_aload_n hx hb dX7_readAnd_29 rfl (lv_at hl 0 rfl) ?_
        refine lv_iconst (v := 4) hx hb dX7_readAnd_30 (by decide) ?_
        refine lv_iconst (v := 0) hx hb dX7_readAnd_31 (by decide) ?_
        obtain ⟨S6, hcall, hf⟩ := bd1_some hf
        refine x_cvv (As := [.int 4, .int 0]) (rest := []) hc hw hR (hml.trans hl.1.symm) (cx_R_put l N S5 4 0 S6 hcall) xq_7_R_put (x_recv_reader hw) (by omega) rfl rfl rfl (Nat.le_of_ble_eq_true rfl) dX7_readAnd_32 (fun H locs hw => ?_) ⟨Nat.zero_le _, Nat.zero_le _⟩
        refine lv_iinc (lv' := [(1, .int (v2 + 1)), (0, .ref (xr g 3))]) hx hb dX7_readAnd_35 hl (k := 1) rfl rfl (by decide) rfl (fun ls hl => ?_)
        refine lv_goto (tgt := 6) hx hb dX7_readAnd_38 (by decide) ?_
        exact ih _ _ X _ _ _ hf hw (lv_sub hl [1, 0] rfl) kx
def xf_R_readAnd (N : Nat) (rc : Nat → xS → Option xS) (S : xS) : Option (xS) := (bd1 (rc 2 S) fun S1 => (bd1 (xf_R_readAnd_L6 N rc N S1 0) fun S7 => some S7))
set_option maxRecDepth 100000 in
theorem cx_R_readAnd (l : Launch) (N : Nat) (rc : Nat → xS → Option xS) (dd : Nat) (hrc : ∀ k S S1, rc k S = some S1 → xKr l k (dd + 12) S S1) (S : xS) (S1 : xS) (hf : xf_R_readAnd N rc S = some S1) : xMv l yX7_readAnd cX7_readAnd 2 (dd + 13) (fun g => [.ref (xr g 3)]) S S1 := by
  refine xMv_of (own := RX7) (by decide) rfl (fun g => Nat.le_of_ble_eq_true rfl) ?_
  intro p e R s m args below meth c Q g A H0 H locs ls hc hR hml hw hl hQ
  have hl : lv_has ls 2 [(0, .ref (xr g 3))] := hl
  have hx := hc.1
  have hb := hc.2.1
  unfold xf_R_readAnd at hf
  refine lv_aload_n hx hb dX7_readAnd_0 rfl (lv_at hl 0 rfl) ?_
  obtain ⟨S1, hcall, hf⟩ := bd1_some hf
  refine x_cvv (As := []) (rest := []) hc hw hR (hml.trans hl.1.symm) (hrc 2 _ _ hcall) xq_7_R_readNot (x_recv_reader hw) (by omega) rfl rfl rfl (Nat.le_of_ble_eq_true rfl) dX7_readAnd_1 (fun H locs hw => ?_) ⟨Nat.zero_le _, Nat.zero_le _⟩
  refine lv_iconst (v := 0) hx hb dX7_readAnd_4 (by decide) ?_
  refine lv_istore_n (lv' := [(1, .int 0), (0, .ref (xr g 3))]) hx hb dX7_readAnd_5 rfl hl (by decide) rfl (fun ls hl => ?_)
  obtain ⟨S7, hL, hf⟩ := bd1_some hf
  refine wx_R_readAnd_L6 hc hR hml N rc hrc N _ _ _ _ _ _ hL hw (lv_sub hl [1, 0] rfl) (fun H locs ls hw hl => ?_)
  obtain rfl := Option.some.inj hf
  exact hQ _ _ _ _ dX7_readAnd_41 hw
def xf_R_readOr_L6 (N : Nat) (rc : Nat → xS → Option xS) : Nat → xS → Int32 → Option (xS)
  | 0, _, _ => none
  | n + 1, S3, v2 => (if 160 ≤ v2 then some S3 else (if (S3.1 43 0) = 3 then (bd1 (xf_R_advance N S3) fun S4 => (bd1 (rc 1 S4) fun S5 => (bd1 (xf_R_put N S5 3 0) fun S6 => xf_R_readOr_L6 N rc n S6 (v2 + 1)))) else some S3))
set_option maxRecDepth 100000 in
theorem wx_R_readOr_L6 {p : Program} {l : Launch} {e : Env} {R : Room} {s : State} {m : MethodId} {args : Array Value} {below : List Frame} {meth : Method} {c : Code} {Q : State → Prop} {g : xG} {A : Nat → Prop} {H0 : Heap} {dd : Nat} (hc : qC RX7 cX7_readOr p s m args c) (hR : qRoom R (dd + 13)) (hml : c.maxLocals = 2) (N : Nat) (rc : Nat → xS → Option xS) (hrc : ∀ k S S1, rc k S = some S1 → xKr l k (dd + 12) S S1) : ∀ (n : Nat) (S3 : xS) (v2 : Int32) (X : xS) (H : Heap) (locs : List Loc) (ls : Array Slot), xf_R_readOr_L6 N rc n S3 v2 = some X → xI g A H0 s S3 H locs → lv_has ls 2 [(0, .ref (xr g 3)), (1, .int v2)] → (∀ (H : Heap) (locs : List Loc) (ls : Array Slot), xI g A H0 s X H locs → lv_has ls 2 [] → W p l e R s m args below meth c H locs 0 0 Q (F0 m 41 ls [])) → W p l e R s m args below meth c H locs 0 0 Q (F0 m 6 ls []) := by
  have hx := hc.1
  have hb := hc.2.1
  intro n
  induction n with
  | zero => intro _ _ X H locs ls hf; exact nomatch (show none = some X from hf)
  | succ n ih =>
    intro S3 v2 X H locs ls hf hw hl kx
    rw [xf_R_readOr_L6] at hf
    refine lv_iload_n hx hb dX7_readOr_6 rfl (lv_at hl 1 rfl) ?_
    refine lv_sipush (v := 160) hx hb dX7_readOr_7 (by decide) ?_
    refine lv_icmp_ge (tgt := 41) hx hb dX7_readOr_10 (by decide) (fun cn8 => ?_) (fun cn8 => ?_)
    · have hf := (if_pos cn8).symm.trans hf
      obtain rfl := Option.some.inj hf
      exact kx _ _ _ hw (lv_sub hl [] rfl)
    · have hf := (if_neg cn8).symm.trans hf
      refine lv_aload_n hx hb dX7_readOr_13 rfl (lv_at hl 0 rfl) ?_
      refine x_g_reader_token hc hw fl_7_28 dX7_readOr_14 ?_
      refine lv_iconst (v := 3) hx hb dX7_readOr_17 (by decide) ?_
      refine lv_icmp_ne (tgt := 41) hx hb dX7_readOr_18 (by decide) (fun cn9 => ?_) (fun cn9 => ?_)
      · have hf := (if_neg cn9).symm.trans hf
        obtain rfl := Option.some.inj hf
        exact kx _ _ _ hw (lv_sub hl [] rfl)
      · have hf := (if_pos cn9).symm.trans hf
        refine lv_aload_n hx hb dX7_readOr_21 rfl (lv_at hl 0 rfl) ?_
        obtain ⟨S4, hcall, hf⟩ := bd1_some hf
        refine x_cvv (As := []) (rest := []) hc hw hR (hml.trans hl.1.symm) (cx_R_advance l N S3 S4 hcall) xq_7_R_advance (x_recv_reader hw) (by omega) rfl rfl rfl (Nat.le_of_ble_eq_true rfl) dX7_readOr_22 (fun H locs hw => ?_) ⟨Nat.zero_le _, Nat.zero_le _⟩
        refine lv_aload_n hx hb dX7_readOr_25 rfl (lv_at hl 0 rfl) ?_
        obtain ⟨S5, hcall, hf⟩ := bd1_some hf
        refine x_cvv (As := []) (rest := []) hc hw hR (hml.trans hl.1.symm) (hrc 1 _ _ hcall) xq_7_R_readAnd (x_recv_reader hw) (by omega) rfl rfl rfl (Nat.le_of_ble_eq_true rfl) dX7_readOr_26 (fun H locs hw => ?_) ⟨Nat.zero_le _, Nat.zero_le _⟩
        refine lv_aload_n hx hb dX7_readOr_29 rfl (lv_at hl 0 rfl) ?_
        refine lv_iconst (v := 3) hx hb dX7_readOr_30 (by decide) ?_
        refine lv_iconst (v := 0) hx hb dX7_readOr_31 (by decide) ?_
        obtain ⟨S6, hcall, hf⟩ := bd1_some hf
        refine x_cvv (As := [.int 3, .int 0]) (rest := []) hc hw hR (hml.trans hl.1.symm) (cx_R_put l N S5 3 0 S6 hcall) xq_7_R_put (x_recv_reader hw) (by omega) rfl rfl rfl (Nat.le_of_ble_eq_true rfl) dX7_readOr_32 (fun H locs hw => ?_) ⟨Nat.zero_le _, Nat.zero_le _⟩
        refine lv_iinc (lv' := [(1, .int (v2 + 1)), (0, .ref (xr g 3))]) hx hb dX7_readOr_35 hl (k := 1) rfl rfl (by decide) rfl (fun ls hl => ?_)
        refine lv_goto (tgt := 6) hx hb dX7_readOr_38 (by decide) ?_
        exact ih _ _ X _ _ _ hf hw (lv_sub hl [1, 0] rfl) kx
def xf_R_readOr (N : Nat) (rc : Nat → xS → Option xS) (S : xS) : Option (xS) := (bd1 (rc 1 S) fun S1 => (bd1 (xf_R_readOr_L6 N rc N S1 0) fun S7 => some S7))
set_option maxRecDepth 100000 in
theorem cx_R_readOr (l : Launch) (N : Nat) (rc : Nat → xS → Option xS) (dd : Nat) (hrc : ∀ k S S1, rc k S = some S1 → xKr l k (dd + 12) S S1) (S : xS) (S1 : xS) (hf : xf_R_readOr N rc S = some S1) : xMv l yX7_readOr cX7_readOr 2 (dd + 13) (fun g => [.ref (xr g 3)]) S S1 := by
  refine xMv_of (own := RX7) (by decide) rfl (fun g => Nat.le_of_ble_eq_true rfl) ?_
  intro p e R s m args below meth c Q g A H0 H locs ls hc hR hml hw hl hQ
  have hl : lv_has ls 2 [(0, .ref (xr g 3))] := hl
  have hx := hc.1
  have hb := hc.2.1
  unfold xf_R_readOr at hf
  refine lv_aload_n hx hb dX7_readOr_0 rfl (lv_at hl 0 rfl) ?_
  obtain ⟨S1, hcall, hf⟩ := bd1_some hf
  refine x_cvv (As := []) (rest := []) hc hw hR (hml.trans hl.1.symm) (hrc 1 _ _ hcall) xq_7_R_readAnd (x_recv_reader hw) (by omega) rfl rfl rfl (Nat.le_of_ble_eq_true rfl) dX7_readOr_1 (fun H locs hw => ?_) ⟨Nat.zero_le _, Nat.zero_le _⟩
  refine lv_iconst (v := 0) hx hb dX7_readOr_4 (by decide) ?_
  refine lv_istore_n (lv' := [(1, .int 0), (0, .ref (xr g 3))]) hx hb dX7_readOr_5 rfl hl (by decide) rfl (fun ls hl => ?_)
  obtain ⟨S7, hL, hf⟩ := bd1_some hf
  refine wx_R_readOr_L6 hc hR hml N rc hrc N _ _ _ _ _ _ hL hw (lv_sub hl [1, 0] rfl) (fun H locs ls hw hl => ?_)
  obtain rfl := Option.some.inj hf
  exact hQ _ _ _ _ dX7_readOr_41 hw
