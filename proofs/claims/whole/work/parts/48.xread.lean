theorem fl_7_41 : Cond.fieldLink RX7 41 "OverTheHeads$Reader" "ends" "[I" ∈ lw_g := mem_g 286 (by decide +kernel) rfl
theorem xq_7_x_mmin : qMw RX7 47 Lib.Math.min.name Lib.Math.min.code 2 (some .int) := ⟨(mem_g 370 (by decide +kernel) rfl), (mem_g 371 (by decide +kernel) rfl), (mem_g 86 (by decide +kernel) rfl), (mem_g 372 (by decide +kernel) rfl)⟩
def xf_R_read_L41 (N : Nat) : Nat → xS → Int32 → Option (xS)
  | 0, _, _ => none
  | n + 1, S3, v2 => (if 3 ≤ v2 then some S3 else (bd1 (xf_R_expect N S3 ((if v2 = 0 then 7 else (if v2 = 1 then 8 else 9)) : Int32)) fun S5 => (bd1 (xr_all N 100 0 S5) fun S6 => (bd1 (xf_R_expect N S6 59) fun S7 => (if ok v2 3 then xf_R_read_L41 N n (xs S7 47 v2.toNatClampNeg (S7.1 48 0)) (v2 + 1) else none)))))
set_option maxRecDepth 100000 in
theorem wx_R_read_L41 {p : Program} {l : Launch} {e : Env} {R : Room} {s : State} {m : MethodId} {args : Array Value} {below : List Frame} {meth : Method} {c : Code} {Q : State → Prop} {g : xG} {A : Nat → Prop} {H0 : Heap} (hc : qC RX7 cX7_read p s m args c) (hR : qRoom R 114) (hml : c.maxLocals = 4) (N : Nat) : ∀ (n : Nat) (S3 : xS) (v2 : Int32) (X : xS) (H : Heap) (locs : List Loc) (ls : Array Slot), xf_R_read_L41 N n S3 v2 = some X → xI g A H0 s S3 H locs → lv_has ls 4 [(0, .ref (xr g 3)), (3, .int v2)] → (∀ (H : Heap) (locs : List Loc) (ls : Array Slot), xI g A H0 s X H locs → lv_has ls 4 [(0, .ref (xr g 3))] → W p l e R s m args below meth c H locs 0 0 Q (F0 m 97 ls [])) → W p l e R s m args below meth c H locs 0 0 Q (F0 m 41 ls []) := by
  have hx := hc.1
  have hb := hc.2.1
  intro n
  induction n with
  | zero => intro _ _ X H locs ls hf; exact nomatch (show none = some X from hf)
  | succ n ih =>
    intro S3 v2 X H locs ls hf hw hl kx
    rw [xf_R_read_L41] at hf
    refine lv_iload_n hx hb dX7_read_41 rfl (lv_at hl 1 rfl) ?_
    refine lv_iconst (v := 3) hx hb dX7_read_42 (by decide) ?_
    refine lv_icmp_ge (tgt := 97) hx hb dX7_read_43 (by decide) (fun cn11 => ?_) (fun cn11 => ?_)
    · have hf := (if_pos cn11).symm.trans hf
      obtain rfl := Option.some.inj hf
      exact kx _ _ _ hw (lv_sub hl [0] rfl)
    · have hf := (if_neg cn11).symm.trans hf
      refine lv_aload_n hx hb dX7_read_46 rfl (lv_at hl 0 rfl) ?_
      refine lv_iload_n hx hb dX7_read_47 rfl (lv_at hl 1 rfl) ?_
      obtain ⟨v4, hv4⟩ : ∃ y : Int32, y = (if v2 = 0 then 7 else (if v2 = 1 then 8 else 9)) := ⟨_, rfl⟩
      try rw [← hv4] at hf
      have kJ12 : ∀ v4x : Int32, v4 = v4x → ∀ (H : Heap) (locs : List Loc) (ls : Array Slot), xI g A H0 s S3 H locs → lv_has ls 4 [(0, .ref (xr g 3)), (3, .int v2)] → W p l e R s m args below meth c H locs 0 0 Q (F0 m 68 ls [.int v4x, .ref (xr g 3)]) := by
        intro v4x hxv4 H locs ls hw hl
        subst hxv4
        obtain ⟨S5, hcall, hf⟩ := bd1_some hf
        refine x_cvv (As := [.int v4]) (rest := []) hc hw hR (hml.trans hl.1.symm) (cx_R_expect l N S3 v4 S5 hcall) xq_7_R_expect (x_recv_reader hw) (by decide) rfl rfl rfl (Nat.le_of_ble_eq_true rfl) dX7_read_68 (fun H locs hw => ?_) ⟨Nat.zero_le _, Nat.zero_le _⟩
        refine lv_aload_n hx hb dX7_read_71 rfl (lv_at hl 0 rfl) ?_
        obtain ⟨S6, hcall, hf⟩ := bd1_some hf
        refine x_cvv (As := []) (rest := []) hc hw hR (hml.trans hl.1.symm) (cx_R_all l N 100 0 _ _ hcall) xq_7_R_readOr (x_recv_reader hw) (by decide) rfl rfl rfl (Nat.le_of_ble_eq_true rfl) dX7_read_72 (fun H locs hw => ?_) ⟨Nat.zero_le _, Nat.zero_le _⟩
        refine lv_aload_n hx hb dX7_read_75 rfl (lv_at hl 0 rfl) ?_
        refine lv_bipush (v := 59) hx hb dX7_read_76 (by decide) ?_
        obtain ⟨S7, hcall, hf⟩ := bd1_some hf
        refine x_cvv (As := [.int 59]) (rest := []) hc hw hR (hml.trans hl.1.symm) (cx_R_expect l N S6 59 S7 hcall) xq_7_R_expect (x_recv_reader hw) (by decide) rfl rfl rfl (Nat.le_of_ble_eq_true rfl) dX7_read_78 (fun H locs hw => ?_) ⟨Nat.zero_le _, Nat.zero_le _⟩
        refine lv_aload_n hx hb dX7_read_81 rfl (lv_at hl 0 rfl) ?_
        refine x_g_reader_ends hc hw fl_7_41 dX7_read_82 ?_
        refine lv_iload_n hx hb dX7_read_85 rfl (lv_at hl 1 rfl) ?_
        refine lv_aload_n hx hb dX7_read_86 rfl (lv_at hl 0 rfl) ?_
        refine x_g_reader_stepCount hc hw fl_7_44 dX7_read_87 ?_
        obtain ⟨hi8, hf⟩ := gd_some hf
        refine x_s_reader_ends hc hw (ok_in hi8) dX7_read_90 (fun H locs hw => ?_)
        refine lv_iinc (lv' := [(3, .int (v2 + 1)), (0, .ref (xr g 3))]) hx hb dX7_read_91 hl (k := 1) rfl rfl (by decide) rfl (fun ls hl => ?_)
        refine lv_goto (tgt := 41) hx hb dX7_read_94 (by decide) ?_
        exact ih _ _ X _ _ _ hf hw (lv_sub hl [1, 0] rfl) kx
      refine lv_if_ne (tgt := 56) hx hb dX7_read_48 (by decide) (fun cn13 => ?_) (fun cn13 => ?_)
      · refine lv_iload_n hx hb dX7_read_56 rfl (lv_at hl 1 rfl) ?_
        refine lv_iconst (v := 1) hx hb dX7_read_57 (by decide) ?_
        refine lv_icmp_ne (tgt := 66) hx hb dX7_read_58 (by decide) (fun cn14 => ?_) (fun cn14 => ?_)
        · refine lv_bipush (v := 9) hx hb dX7_read_66 (by decide) ?_
          have ev4 : v4 = (9 : Int32) := by rw [hv4]; simp only [if_neg cn13, if_neg cn14]
          exact kJ12 _ ev4 _ _ _ hw (lv_sub hl [0, 1] rfl)
        · refine lv_bipush (v := 8) hx hb dX7_read_61 (by decide) ?_
          refine lv_goto (tgt := 68) hx hb dX7_read_63 (by decide) ?_
          have ev4 : v4 = (8 : Int32) := by rw [hv4]; simp only [if_neg cn13, if_pos cn14]
          exact kJ12 _ ev4 _ _ _ hw (lv_sub hl [0, 1] rfl)
      · refine lv_bipush (v := 7) hx hb dX7_read_51 (by decide) ?_
        refine lv_goto (tgt := 68) hx hb dX7_read_53 (by decide) ?_
        have ev4 : v4 = (7 : Int32) := by rw [hv4]; simp only [if_pos cn13]
        exact kJ12 _ ev4 _ _ _ hw (lv_sub hl [0, 1] rfl)
def xf_R_read (N : Nat) (S : xS) (a2 : Int32) : Option (Int32 × xS) := (bd1 (xf_R_advance N (xs (xs (xs (xs (xs (xs S 39 0 0) 40 0 (if (160 : Int32) < a2 then (160 : Int32) else a2)) 41 0 0) 45 0 0) 48 0 0) 38 0 (-1))) fun S1 => (bd1 (xf_R_read_L41 N N S1 0) fun S9 => (bd1 (xf_R_expect N S9 0) fun S10 => (if (S10.1 38 0) = (-1) then some (1, S10) else some (0, S10)))))
set_option maxRecDepth 100000 in
theorem wx_R_read {p : Program} {l : Launch} {e : Env} {R : Room} {s : State} {m : MethodId} {args : Array Value} {below : List Frame} {meth : Method} {c : Code} {Q : State → Prop} {g : xG} {A : Nat → Prop} {H0 : Heap} (hc : qC RX7 cX7_read p s m args c) (hR : qRoom R 114) (hml : c.maxLocals = 4) (N : Nat) (S : xS) (a2 res : Int32) (S1 : xS) (hf : xf_R_read N S a2 = some (res, S1)) (H : Heap) (locs : List Loc) (ls : Array Slot) (hw : xI g A H0 s S H locs) (hl : lv_has ls 4 [(0, .ref (xr g 3)), (1, .ref (xr g 10)), (2, .int a2)]) (k1 : res = 1 → ∀ (H : Heap) (locs : List Loc) (ls : Array Slot), xI g A H0 s S1 H locs → lv_has ls 4 [(0, .ref (xr g 3))] → W p l e R s m args below meth c H locs 0 0 Q (F0 m 110 ls [])) (k0 : res = 0 → ∀ (H : Heap) (locs : List Loc) (ls : Array Slot), xI g A H0 s S1 H locs → lv_has ls 4 [(0, .ref (xr g 3))] → W p l e R s m args below meth c H locs 0 0 Q (F0 m 139 ls [])) : W p l e R s m args below meth c H locs 0 0 Q (F0 m 0 ls []) := by
  have hx := hc.1
  have hb := hc.2.1
  unfold xf_R_read at hf
  refine lv_aload_n hx hb dX7_read_0 rfl (lv_at hl 0 rfl) ?_
  refine lv_aload_n hx hb dX7_read_1 rfl (lv_at hl 1 rfl) ?_
  refine x_p_reader_tape hc hw fl_7_15 (x := 0) (by decide) dX7_read_2 (fun H locs hw => ?_)
  refine lv_aload_n hx hb dX7_read_5 rfl (lv_at hl 0 rfl) ?_
  refine lv_iload_n hx hb dX7_read_6 rfl (lv_at hl 2 rfl) ?_
  refine lv_aload_n hx hb dX7_read_7 rfl (lv_at hl 1 rfl) ?_
  refine va_alen (v := 160) hx hb hw.1 hw.2.1 10 1 ((xW_A (by decide)).trans rfl) rfl rfl dX7_read_8 ?_
  refine x_mmin hc hR (by decide) (hml.trans hl.1.symm) xq_7_x_mmin (Nat.le_of_ble_eq_true rfl) dX7_read_9 ?_ ⟨Nat.zero_le _, Nat.zero_le _⟩
  refine x_p_reader_size hc hw fl_7_19 dX7_read_12 (fun H locs hw => ?_)
  refine lv_aload_n hx hb dX7_read_15 rfl (lv_at hl 0 rfl) ?_
  refine lv_iconst (v := 0) hx hb dX7_read_16 (by decide) ?_
  refine x_p_reader_next hc hw fl_7_22 dX7_read_17 (fun H locs hw => ?_)
  refine lv_aload_n hx hb dX7_read_20 rfl (lv_at hl 0 rfl) ?_
  refine lv_iconst (v := 0) hx hb dX7_read_21 (by decide) ?_
  refine x_p_reader_open hc hw fl_7_34 dX7_read_22 (fun H locs hw => ?_)
  refine lv_aload_n hx hb dX7_read_25 rfl (lv_at hl 0 rfl) ?_
  refine lv_iconst (v := 0) hx hb dX7_read_26 (by decide) ?_
  refine x_p_reader_stepCount hc hw fl_7_44 dX7_read_27 (fun H locs hw => ?_)
  refine lv_aload_n hx hb dX7_read_30 rfl (lv_at hl 0 rfl) ?_
  refine lv_iconst (v := (-1)) hx hb dX7_read_31 (by decide) ?_
  refine x_p_reader_fault hc hw fl_7_11 dX7_read_32 (fun H locs hw => ?_)
  refine lv_aload_n hx hb dX7_read_35 rfl (lv_at hl 0 rfl) ?_
  obtain ⟨S1, hcall, hf⟩ := bd1_some hf
  refine x_cvv (As := []) (rest := []) hc hw hR (hml.trans hl.1.symm) (cx_R_advance l N (xs (xs (xs (xs (xs (xs S 39 0 0) 40 0 (if (160 : Int32) < a2 then (160 : Int32) else a2)) 41 0 0) 45 0 0) 48 0 0) 38 0 (-1)) S1 hcall) xq_7_R_advance (x_recv_reader hw) (by decide) rfl rfl rfl (Nat.le_of_ble_eq_true rfl) dX7_read_36 (fun H locs hw => ?_) ⟨Nat.zero_le _, Nat.zero_le _⟩
  refine lv_iconst (v := 0) hx hb dX7_read_39 (by decide) ?_
  refine lv_istore_n (lv' := [(3, .int 0), (0, .ref (xr g 3)), (1, .ref (xr g 10)), (2, .int a2)]) hx hb dX7_read_40 rfl hl (by decide) rfl (fun ls hl => ?_)
  obtain ⟨S9, hL, hf⟩ := bd1_some hf
  refine wx_R_read_L41 hc hR hml N N _ _ _ _ _ _ hL hw (lv_sub hl [1, 0] rfl) (fun H locs ls hw hl => ?_)
  refine lv_aload_n hx hb dX7_read_97 rfl (lv_at hl 0 rfl) ?_
  refine lv_iconst (v := 0) hx hb dX7_read_98 (by decide) ?_
  obtain ⟨S10, hcall, hf⟩ := bd1_some hf
  refine x_cvv (As := [.int 0]) (rest := []) hc hw hR (hml.trans hl.1.symm) (cx_R_expect l N S9 0 S10 hcall) xq_7_R_expect (x_recv_reader hw) (by decide) rfl rfl rfl (Nat.le_of_ble_eq_true rfl) dX7_read_99 (fun H locs hw => ?_) ⟨Nat.zero_le _, Nat.zero_le _⟩
  refine lv_aload_n hx hb dX7_read_102 rfl (lv_at hl 0 rfl) ?_
  refine x_g_reader_fault hc hw fl_7_11 dX7_read_103 ?_
  refine lv_iconst (v := (-1)) hx hb dX7_read_106 (by decide) ?_
  refine lv_icmp_ne (tgt := 139) hx hb dX7_read_107 (by decide) (fun cn16 => ?_) (fun cn16 => ?_)
  · have hf := (if_neg cn16).symm.trans hf
    obtain ⟨rfl, rfl⟩ := pr2_some hf
    exact k0 rfl _ _ _ hw (lv_sub hl [0] rfl)
  · have hf := (if_pos cn16).symm.trans hf
    obtain ⟨rfl, rfl⟩ := pr2_some hf
    exact k1 rfl _ _ _ hw (lv_sub hl [0] rfl)
