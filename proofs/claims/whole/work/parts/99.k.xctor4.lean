section XCTOR4
theorem xch_0 : ∀ i, i < 59 → (xch 0 i).toInt8.toInt32.toInt8.toInt32 = cB (b0 i) := by decide +kernel
theorem put_0 (N : Nat) {i : Nat} (hi : i < 59) : xf_X_putOnTape N (lawS i) ((xch 0 (nI i).toNatClampNeg).toInt8.toInt32) = some (lawS (i + 1)) := by
  have h := (lawS_ok i).1
  unfold xf_X_putOnTape
  rw [h, if_neg (show ¬ (160 : Int32) ≤ nI i from sm_nle (n := 160) (by omega) (by omega)), if_pos (sm_ok (by omega) (by omega)), sm_clamp (by omega), xch_0 i hi, xs_ne (by decide), h, show nI i + 1 = nI (i + 1) from nI_add i 1]
  rfl
section CT
variable {p : Program} {l : Launch} {e : Env} {R : Room} {s : State} {m : MethodId} {args : Array Value} {below : List Frame} {meth : Method} {c : Code} {Q : State → Prop} {cells slots d : Nat}
theorem wl_X11 {g : xG} {A : Nat → Prop} {H0 : Heap} (hc : qC RX11 cX11_init p s m args c) (hR : qRoom R d) (hd : 5 ≤ d) (hml : c.maxLocals = 2) (hcs : cells ≤ R.cells ∧ slots ≤ R.slots) : ∀ (k i : Nat) (H : Heap) (locs : List Loc) (ls : Array Slot), i + k = 59 → xI g A H0 s (lawS i) H locs → lv_has ls 2 [(0, .ref (xr g 0)), (1, .int (nI i))] → (∀ (H : Heap) (locs : List Loc) (ls : Array Slot), xI g A H0 s (lawS 59) H locs → lv_has ls 2 [(0, .ref (xr g 0))] → W p l e R s m args below meth c H locs cells slots Q (F0 m 162 ls [])) → W p l e R s m args below meth c H locs cells slots Q (F0 m 136 ls []) := by
  have hx := hc.1
  have hb := hc.2.1
  intro k
  induction k with
  | zero =>
    intro i H locs ls hk hw hl kx
    have e : i = 59 := hk
    subst e
    refine lv_iload_n hx hb dX11_init_136 rfl (lv_at hl 1 rfl) ?_
    refine va_ldcS hx hb hc.2.2.1 (xstr_0 hw) dX11_init_137 ?_
    refine x_cvi (As := []) (rest := [.int (nI 59)]) hc hw hR (hml.trans hl.1.symm) (cj_length l (lawS 59) 0 (by decide)) jq_length_X (vk_recv hw.2.2.2.2.2.2.2.2.2.2.1 (show 0 < 13 by decide) (hw.2.2.2.2.2.1 ▸ hw.2.2.2.1)) (by omega) rfl rfl rfl (Nat.le_of_ble_eq_true rfl) dX11_init_139 (fun H locs hw => ?_) hcs
    refine lv_icmp_ge (tgt := 162) hx hb dX11_init_142 (by decide) (fun cn => ?_) (fun cn => absurd (show xlen 0 ≤ nI 59 by decide) cn)
    exact kx _ _ _ hw (lv_sub hl [0] rfl)
  | succ k ih =>
    intro i H locs ls hk hw hl kx
    refine lv_iload_n hx hb dX11_init_136 rfl (lv_at hl 1 rfl) ?_
    refine va_ldcS hx hb hc.2.2.1 (xstr_0 hw) dX11_init_137 ?_
    refine x_cvi (As := []) (rest := [.int (nI i)]) hc hw hR (hml.trans hl.1.symm) (cj_length l (lawS i) 0 (by decide)) jq_length_X (vk_recv hw.2.2.2.2.2.2.2.2.2.2.1 (show 0 < 13 by decide) (hw.2.2.2.2.2.1 ▸ hw.2.2.2.1)) (by omega) rfl rfl rfl (Nat.le_of_ble_eq_true rfl) dX11_init_139 (fun H locs hw => ?_) hcs
    refine lv_icmp_ge (tgt := 162) hx hb dX11_init_142 (by decide) (fun cn => absurd cn (show ¬ nI 59 ≤ nI i from sm_nle (by omega) (by omega))) (fun cn => ?_)
    refine lv_aload_n hx hb dX11_init_145 rfl (lv_at hl 0 rfl) ?_
    refine va_ldcS hx hb hc.2.2.1 (xstr_0 hw) dX11_init_146 ?_
    refine lv_iload_n hx hb dX11_init_148 rfl (lv_at hl 1 rfl) ?_
    refine x_cvi (As := [.int (nI i)]) (rest := [.ref (xr g 0)]) hc hw hR (hml.trans hl.1.symm) (cj_charAt l (lawS i) 0 (nI i) (by decide) (sm_ok (m := 59) (by omega) (by omega))) jq_charAt_X (vk_recv hw.2.2.2.2.2.2.2.2.2.2.1 (show 0 < 13 by decide) (hw.2.2.2.2.2.1 ▸ hw.2.2.2.1)) (by omega) rfl rfl rfl (Nat.le_of_ble_eq_true rfl) dX11_init_149 (fun H locs hw => ?_) hcs
    refine lv_i2b hx hb dX11_init_152 rfl ?_
    refine x_cvv (As := [.int ((xch 0 (nI i).toNatClampNeg).toInt8.toInt32)]) (rest := []) hc hw hR (hml.trans hl.1.symm) (cx_X_putOnTape l 0 (lawS i) ((xch 0 (nI i).toNatClampNeg).toInt8.toInt32) (lawS (i + 1)) (put_0 0 (by omega))) xq_11_X_putOnTape (x_recv_this hw) (by omega) rfl rfl rfl (Nat.le_of_ble_eq_true rfl) dX11_init_153 (fun H locs hw => ?_) hcs
    refine lv_iinc (lv' := [(1, .int (nI i + 1)), (0, .ref (xr g 0))]) hx hb dX11_init_156 hl (k := 1) rfl rfl (by decide) rfl (fun ls hl => ?_)
    refine lv_goto (tgt := 136) hx hb dX11_init_159 (by decide) ?_
    rw [show nI i + 1 = nI (i + 1) from nI_add i 1] at hl
    exact ih (i + 1) _ _ _ (by omega) hw (lv_sub hl [1, 0] rfl) kx
/-- the cells, with the new text's names -/
theorem xA_X0 {g : xG} {F : Nat → Nat → Int32} (h a b u : Nat) (h19 : F 19 0 = -1) (h24 : F 24 0 = -1) : xA (xgX g 0 h a b u) (F, xS0.2) = xA g (F, xS0.2) := by
  have e29 : (fun j : Nat => if j < ((F, xS0.2) : xS).2.2.1 then some (xr (xgX g 0 h a b u) (100 + 2 * j)) else none) = fun j => if j < ((F, xS0.2) : xS).2.2.1 then some (xr g (100 + 2 * j)) else none := funext fun j => (if_neg (Nat.not_lt_zero j)).trans (if_neg (Nat.not_lt_zero j)).symm
  have e30 : (fun j : Nat => if j < ((F, xS0.2) : xS).2.2.2 then some (xr (xgX g 0 h a b u) (200 + 4 * j)) else none) = fun j => if j < ((F, xS0.2) : xS).2.2.2 then some (xr g (200 + 4 * j)) else none := funext fun j => (if_neg (Nat.not_lt_zero j)).trans (if_neg (Nat.not_lt_zero j)).symm
  have e31 : (fun j : Nat => if j < 4 then some (xr (xgX g 0 h a b u) (32 + j)) else none) = fun j => if j < 4 then some (xr g (32 + j)) else none := funext fun j => by
    by_cases hj : j < 4
    · rw [if_pos hj, if_pos hj, xr_X (by omega)]
    · rw [if_neg hj, if_neg hj]
  have el : xtv (xgX g 0 h a b u) (((F, xS0.2) : xS).1 19 0) = xtv g (((F, xS0.2) : xS).1 19 0) := by
    show xtv (xgX g 0 h a b u) (F 19 0) = xtv g (F 19 0)
    rw [h19]; rfl
  have er : xrv (xgX g 0 h a b u) (((F, xS0.2) : xS).1 24 0) = xrv g (((F, xS0.2) : xS).1 24 0) := by
    show xrv (xgX g 0 h a b u) (F 24 0) = xrv g (F 24 0)
    rw [h24]; rfl
  unfold xA xO_hall
  rw [e29, e30, e31, el, er]
  rfl
def xnm (h0 : Nat) (u : Nat → Nat) : Nat → Nat := fun k => bif Nat.beq k 0 then h0 else u k
theorem xg0_eq (g : xG) (h0 : Nat) (n : Nat → Nat) (h a b u : Nat) (hn : n 0 = h0) : xg0 g (xnm h0 (fun k => xr (xgX (xg0 g n) 0 h a b u) k)) = xgX (xg0 g n) 0 h a b u := by
  refine congrArg (fun z => (g.1, g.2.1, z)) (funext fun k => ?_)
  show (bif Nat.blt k 300 then (bif Nat.beq k 0 then h0 else xr (xgX (xg0 g n) 0 h a b u) k) else g.2.2 k) = xr (xgX (xg0 g n) 0 h a b u) k
  cases hk : Nat.blt k 300 with
  | true =>
    cases h0k : Nat.beq k 0 with
    | true =>
      rw [Nat.eq_of_beq_eq_true h0k]
      exact hn.symm
    | false => rfl
  | false =>
    have h3 : ¬ k < 300 := fun hh => by rw [Nat.blt_eq.mpr hh] at hk; exact Bool.noConfusion hk
    rw [xr_X (by omega)]
    show g.2.2 k = (bif Nat.blt k 300 then n k else g.2.2 k)
    rw [hk]; rfl
set_option maxHeartbeats 16000000 in
set_option maxRecDepth 100000 in
theorem we_X11c {g : xG} {A : Nat → Prop} {H0 H : Heap} {locs : List Loc} {ls : Array Slot} (h0 : Nat) (u : Nat → Nat) (hc : qC RX11 cX11_init p s m args c) (hRc : 30 ≤ R.cells ∧ 745 ≤ R.slots) (hw : xJ g A H0 s ([] ++ xcL g h0 u) H locs)
    (hQ : ∀ (v : Nat → Nat) (H : Heap), xJ g A H0 s ([] ++ [(h0, .inr (11, [.ref (u 0), .ref (u 12), .ref (u 20), .ref (u 21), .ref (u 24), .int 0, .int 0, .int 0, .null, .null, .null, .null, .null, .null])), ((u 0), .inr (1, [.ref (u 1), .ref (u 2), .ref (u 3), .ref (u 4), .ref (u 5), .ref (u 6), .ref (u 7), .ref (u 8), .ref (u 9), .int 0, .int 0, .int 0, .null, .int (-1), .int 0, .int 0, .int 0, .null, .ref (u 10), .ref (u 11)])), ((u 1), .inl (xc g 0, 4, .inl (upd (upd (upd (upd (fun _ => 0) (0 : Int32).toNatClampNeg 10) (1 : Int32).toNatClampNeg 12) (2 : Int32).toNatClampNeg 14) (3 : Int32).toNatClampNeg 7))), ((u 2), .inl (xc g 0, 4, .inl (upd (upd (upd (upd (fun _ => 0) (0 : Int32).toNatClampNeg 14) (1 : Int32).toNatClampNeg 16) (2 : Int32).toNatClampNeg 19) (3 : Int32).toNatClampNeg 9))), ((u 3), .inl (xc g 0, 4, .inl (upd (upd (upd (upd (fun _ => 0) (0 : Int32).toNatClampNeg 1) (1 : Int32).toNatClampNeg 1) (2 : Int32).toNatClampNeg 1) (3 : Int32).toNatClampNeg 1))), ((u 4), .inl (xc g 3, 6, .inr (.inr (.inr (.inr (fun _ => none)))))), ((u 5), .inl (xc g 0, 6, .inl (fun _ => 0))), ((u 6), .inl (xc g 0, 6, .inl (fun _ => 0))), ((u 7), .inl (xc g 0, 6, .inl (fun _ => 0))), ((u 8), .inl (xc g 0, 4, .inl (fun _ => 0))), ((u 9), .inl (xc g 0, 4, .inl (fun _ => 0))), ((u 10), .inr (4, [.int 0, .int 0, .int 0, .int 0, .int 0])), ((u 11), .inl (xc g 0, 6, .inl (fun _ => 0))), ((u 12), .inr (2, [.int 0, .int 0, .int 0, .int 0, .ref (u 13), .ref (u 14), .ref (u 15), .ref (u 16), .ref (u 17), .ref (u 18), .ref (u 19), .int 0])), ((u 13), .inl (xc g 0, 6, .inl (fun _ => 0))), ((u 14), .inl (xc g 0, 48, .inl (fun _ => 0))), ((u 15), .inl (xc g 0, 4, .inl (fun _ => 0))), ((u 16), .inl (xc g 0, 4, .inl (fun _ => 0))), ((u 17), .inl (xc g 0, 4, .inl (fun _ => 0))), ((u 18), .inl (xc g 0, 4, .inl (fun _ => 0))), ((u 19), .inl (xc g 0, 4, .inl (fun _ => 0))), ((u 20), .inl (xc g 4, 6, .inr (.inr (.inr (.inr (fun _ => none)))))), ((u 21), .inr (7, [.int (-1), .null, .int 0, .int 0, .int 0, .int 0, .int 0, .int 0, .ref (u 22), .ref (u 23), .int 0])), ((u 22), .inl (xc g 0, 160, .inl (fun _ => 0))), ((u 23), .inl (xc g 0, 3, .inl (fun _ => 0))), ((u 24), .inl (xc g 1, 160, .inl (fun _ => 0))), ((v 0), .inl (xc g 5, 4, .inr (.inr (.inr (.inr (fun j => if j < 4 then some (v (1 + j)) else none)))))), ((v 1), .inl (xc g 0, 60, .inl (fun _ => 0))), ((v 2), .inl (xc g 0, 60, .inl (fun _ => 0))), ((v 3), .inl (xc g 0, 60, .inl (fun _ => 0))), ((v 4), .inl (xc g 0, 60, .inl (fun _ => 0)))]) H locs → W p l e R s m args below meth c H locs 30 745 Q (F0 m 78 ls [.ref (v 0), .ref h0])) : W p l e R s m args below meth c H locs 25 501 Q (F0 m 74 ls [.int 60, .int 4, .ref h0]) := by
  have hx := hc.1
  have hb := hc.2.1
  have hcy : s.vm.findClass (FieldType.array FieldType.int).toString = some (xc g 0) := (hw.1.2 0 _ rfl).2
  refine va_mna (X := [] ++ xcL g h0 u) (L := []) (f := fun _ => (.inl (xc g 0, 60, .inl (fun _ => 0)))) (ty := .int) (cy := xc g 0) (N' := 4) (K' := 60) (z := (60, .inl (fun _ => 0))) hx hb hc.2.2.1 (hc.2.2.2 _ (mem_g 311 (by decide +kernel) rfl)) (va_AOA.use hw.2.2.2.2.2.2.2.2.2.2.2.2.2.2.2) (hc.2.2.2 _ (mem_g 135 (by decide +kernel) rfl)) hcy hw.1 (by rw [show va_pl [] _ = ([] : va_W) from rfl, List.append_nil]; exact hw.2.1) (by rw [show va_pl [] _ = ([] : va_W) from rfl, List.append_nil]; exact hw.2.2.1) hw.2.2.2.1 hw.2.2.2.2.1 (by decide) (by decide) (by decide) (by decide) (by decide) (by decide) (by decide) rfl rfl (by have := hRc.1; omega) (by have := hRc.2; omega) (fun cA => rfl) dX11_init_74 (fun q r cA H1 _ _ hK hP hD hS => ?_)
  have h1 := (hK.2 6 (cA, .array .int) rfl).2
  have h2 := (hw.1.2 5 (xc g 5, .array .int) rfl).2
  have h3 : cA = xc g 5 := by
    cases Option.some.inj (h1.symm.trans h2)
    rfl
  subst h3
  rw [vr_up_same] at hP hD
  have ef : (fun i : Nat => if i < 4 then some (r i) else none) = fun j => if j < 4 then some ((fun k : Nat => if k = 0 then q else r (k - 1)) (1 + j)) else none := funext fun j => by
    by_cases hj : j < 4
    · rw [if_pos hj, if_pos hj]
      show some (r j) = some (if 1 + j = 0 then q else r (1 + j - 1))
      rw [if_neg (by omega), Nat.add_sub_cancel_left]
    · rw [if_neg hj, if_neg hj]
  rw [ef] at hP hD
  exact hQ (fun k => if k = 0 then q else r (k - 1)) H1 ⟨hw.1, hP, hD, hS, hw.2.2.2.2⟩
end CT
end XCTOR4
