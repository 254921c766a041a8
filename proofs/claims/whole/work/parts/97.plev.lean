section PLEV
variable {n0 N : Nat} {b : Nat → Nat} {sz : Nat}
def q5 (K : Nat) (_ : List Nat) : Prop := K ≠ 42
def q4 (K : Nat) (_ : List Nat) : Prop := K ≠ 42 ∧ K ≠ 43 ∧ K ≠ 45
def q3 (K : Nat) (W : List Nat) : Prop := (K ≠ 42 ∧ K ≠ 43 ∧ K ≠ 45) ∧ (K = 60 ∨ K = 61 → hd4 (aU 5 W []).1 = true)
def q1 (K : Nat) (W : List Nat) : Prop := q3 K W ∧ K ≠ 5
def q0 (K : Nat) (W : List Nat) : Prop := q1 K W ∧ K ≠ 4
def q6 (_ : Nat) (_ : List Nat) : Prop := True
theorem kX_v {K v : Nat} (h : K ≠ 3) : kX K v = kX K 0 := by
  unfold kX
  rw [if_neg h, if_neg h]
def o42 (x : Int32) : Bool := decide (x = 42)
def o43 (x : Int32) : Bool := decide (x = 43) || decide (x = 45)
def o4 (x : Int32) : Bool := decide (x = 4)
def o3 (x : Int32) : Bool := decide (x = 3)
def opP (l K : Nat) (x : Int32) : Prop := (11 ≤ sg K ∧ sg K ≤ 18 ∧ sg K ≠ 13) ∧ lv (sg K) = l ∧ rk (sg K) = l ∧ rk (sg K) ≠ 4 ∧ ((x <<< (14 &&& 31)) ||| 0) = enc (nI (sg K)) ∧ K ≠ 59 ∧ K ≠ 41
def opB (isop : Int32 → Bool) (l K v : Nat) : Bool := !isop (kX K v) || ((decide (11 ≤ sg K) && (decide (sg K ≤ 18) && !decide (sg K = 13))) && (decide (lv (sg K) = l) && (decide (rk (sg K) = l) && (!decide (rk (sg K) = 4) && (decide (((kX K v <<< (14 &&& 31)) ||| 0) = enc (nI (sg K))) && (!decide (K = 59) && !decide (K = 41)))))))
theorem opB_P {isop : Int32 → Bool} {l K v : Nat} (h : opB isop l K v = true) (hi : isop (kX K v) = true) : opP l K (kX K v) := by
  unfold opB at h
  rw [hi] at h
  simp only [Bool.not_true, Bool.false_or, Bool.and_eq_true, decide_eq_true_eq, Bool.not_eq_true', decide_eq_false_iff_not] at h
  exact h
theorem opOK_of {isop : Int32 → Bool} {l : Nat} (h : ∀ K, K ≤ 99 → ∀ v, v ≤ 2 → opB isop l K v = true) : opOK isop l := by
  intro K v hK hv hi
  by_cases h3 : K = 3
  · exact opB_P (h K hK v (hv h3)) hi
  · rw [kX_v h3] at hi ⊢
    exact opB_P (h K hK 0 (by omega)) hi
theorem op42 : opOK o42 6 := opOK_of (by decide +kernel)
theorem op43 : opOK o43 5 := opOK_of (by decide +kernel)
theorem op4 : opOK o4 2 := opOK_of (by decide +kernel)
theorem op3 : opOK o3 1 := opOK_of (by decide +kernel)
theorem hlTerm (rc : Nat → xS → Option xS) (n : Nat) (X : xS) (v : Int32) : xf_R_readTerm_L6 N rc (n + 1) X v = if 160 ≤ v then some X else bif o42 (X.1 43 0) then bd1 (xf_R_advance N X) fun S4 => bd1 (rc 6 S4) fun S5 => bd1 (xf_R_put N S5 (X.1 43 0) 0) fun S6 => xf_R_readTerm_L6 N rc n S6 (v + 1) else some X := by
  rw [xf_R_readTerm_L6]
  unfold o42
  by_cases h : X.1 43 0 = 42
  · rw [if_pos h, decide_eq_true h, h]; rfl
  · rw [if_neg h, decide_eq_false h]; rfl
theorem hlSum (rc : Nat → xS → Option xS) (n : Nat) (X : xS) (v : Int32) : xf_R_readSum_L6 N rc (n + 1) X v = if 160 ≤ v then some X else bif o43 (X.1 43 0) then bd1 (xf_R_advance N X) fun S4 => bd1 (rc 5 S4) fun S5 => bd1 (xf_R_put N S5 (X.1 43 0) 0) fun S6 => xf_R_readSum_L6 N rc n S6 (v + 1) else some X := by
  rw [xf_R_readSum_L6]
  unfold o43
  by_cases h : X.1 43 0 = 43
  · rw [if_pos h, bm0_inr, decide_eq_true h]; rfl
  · rw [if_neg h, decide_eq_false h]
    by_cases h5 : X.1 43 0 = 45
    · rw [if_pos h5, bm0_inr, decide_eq_true h5]; rfl
    · rw [if_neg h5, bm0_inl, decide_eq_false h5]; rfl
theorem hlAnd (rc : Nat → xS → Option xS) (n : Nat) (X : xS) (v : Int32) : xf_R_readAnd_L6 N rc (n + 1) X v = if 160 ≤ v then some X else bif o4 (X.1 43 0) then bd1 (xf_R_advance N X) fun S4 => bd1 (rc 2 S4) fun S5 => bd1 (xf_R_put N S5 (X.1 43 0) 0) fun S6 => xf_R_readAnd_L6 N rc n S6 (v + 1) else some X := by
  rw [xf_R_readAnd_L6]
  unfold o4
  by_cases h : X.1 43 0 = 4
  · rw [if_pos h, decide_eq_true h, h]; rfl
  · rw [if_neg h, decide_eq_false h]; rfl
theorem hlOr (rc : Nat → xS → Option xS) (n : Nat) (X : xS) (v : Int32) : xf_R_readOr_L6 N rc (n + 1) X v = if 160 ≤ v then some X else bif o3 (X.1 43 0) then bd1 (xf_R_advance N X) fun S4 => bd1 (rc 1 S4) fun S5 => bd1 (xf_R_put N S5 (X.1 43 0) 0) fun S6 => xf_R_readOr_L6 N rc n S6 (v + 1) else some X := by
  rw [xf_R_readOr_L6]
  unfold o3
  by_cases h : X.1 43 0 = 3
  · rw [if_pos h, decide_eq_true h, h]; rfl
  · rw [if_neg h, decide_eq_false h]; rfl
def offT (k : Nat) : Nat := [0, 1, 2, 2, 3, 4].getD k 5
def limT (k : Nat) : Nat := [1, 2, 4, 4, 5, 6].getD k 7
def lrT (k : Nat) : Nat := [1, 2, 3, 4, 5, 6].getD k 6
def qT (k : Nat) : Nat → List Nat → Prop := [q0, q1, q3, q3, q4, q5].getD k q6
/-- level k, D calls deep at most -/
def xC (n0 N : Nat) (b : Nat → Nat) (sz D k : Nat) : Prop := ∀ i o d H O may X, i ≤ sz → XE b sz (tB b sz i) O o X → o = cO H → o ≤ 5 → dR n0 O = some d → d ≤ 5 * o + offT k → 7 * (5 - o) + 7 ≤ D + k → (k < 3 → may = true) → (3 ≤ k → may = false ∨ tK b sz (tB b sz i) ≠ 6) → H.length + O.length ≤ i → tLt (limT k) H → tR n0 b sz (xr_all N D k X) X (i, H, O, true, may) H o d (lrT k) (qT k)
theorem cO_op {x : Nat} {H : List Nat} (hx : 11 ≤ x ∧ x ≤ 18 ∧ x ≠ 13) : cO (x :: H) = cO H := by
  rw [cO, if_neg (by omega), if_neg (by omega), if_neg (by omega), Nat.zero_add]
theorem may_lo : ∀ x, x ≤ 18 → 11 ≤ x → rk x ≤ 2 → decide (x ≤ 12) = true := by decide
theorem may_hi : ∀ x, x ≤ 18 → 11 ≤ x → 4 ≤ rk x → decide (x ≤ 12) = false := by decide
theorem sub_of {D k l o d : Nat} {H : List Nat} (h : xC n0 N b sz D k) (ho : o = cO H) (ho5 : o ≤ 5) (hd : d + 1 ≤ 5 * o + offT k) (hD : 7 * (5 - o) + 7 ≤ D + k) (hl : (k < 3 ∧ l ≤ 2) ∨ (3 ≤ k ∧ 4 ≤ l)) (hlim : l < limT k) : subOK n0 b sz (xr_all N D k) H o d l (lrT k) (qT k) := by
  intro i x O X hx hr hi hX hdR hlen
  refine h i o (d + 1) (x :: H) O (decide (x ≤ 12)) X hi hX (by rw [cO_op hx]; exact ho) ho5 hdR hd hD (fun hk => ?_) (fun hk => ?_) hlen (show rk x < limT k from by rw [hr]; exact hlim)
  · exact may_lo x hx.2.1 hx.1 (by omega)
  · exact .inl (may_hi x hx.2.1 hx.1 (by omega))
theorem inert_of {D k : Nat} (hN : 2000 ≤ N) (h : 7 ≤ D + min k 6) : inert (xr_all N D k) := fun s X hX => xr_inert hN D k X hX h
theorem lv_Or {D : Nat} (hN : 2000 ≤ N) (h : xC n0 N b sz D 1) : xC n0 N b sz (D + 1) 0 := by
  intro i o d H O may X hi hX ho ho5 hd hdl hD hm1 hm3 hlen hlim
  have h160 := hX.1.2.1
  show tR n0 b sz (bd1 (xr_all N D 1 X) fun S1 => bd1 (xf_R_readOr_L6 N (xr_all N D) N S1 0) fun S7 => some S7) X _ H o d 1 q0
  exact lvl (l2 := 2) (Qs := q1) (Q := q0) hN (hlOr (xr_all N D)) rfl op3 (inert_of hN (by omega)) (sub_of h ho ho5 (by show d + 1 ≤ 5 * o + 1; have : d ≤ 5 * o + 0 := hdl; omega) (by omega) (.inl ⟨by omega, by omega⟩) (by decide)) (by omega) (fun K v W _ hq hop => ⟨hq, fun e => by rw [e] at hop; exact Bool.noConfusion hop⟩) hlim h160 hi hlen (h i o d H O may X hi hX ho ho5 hd (by show d ≤ 5 * o + 1; have : d ≤ 5 * o + 0 := hdl; omega) (by omega) (fun _ => hm1 (by omega)) (fun hh => absurd hh (by omega)) hlen (hlim.mono (by decide)))
theorem lv_And {D : Nat} (hN : 2000 ≤ N) (h : xC n0 N b sz D 2) : xC n0 N b sz (D + 1) 1 := by
  intro i o d H O may X hi hX ho ho5 hd hdl hD hm1 hm3 hlen hlim
  have h160 := hX.1.2.1
  have hdl : d ≤ 5 * o + 1 := hdl
  show tR n0 b sz (bd1 (xr_all N D 2 X) fun S1 => bd1 (xf_R_readAnd_L6 N (xr_all N D) N S1 0) fun S7 => some S7) X _ H o d 2 q1
  exact lvl (l2 := 3) (Qs := q3) (Q := q1) hN (hlAnd (xr_all N D)) rfl op4 (inert_of hN (by omega)) (sub_of h ho ho5 (by show d + 1 ≤ 5 * o + 2; omega) (by omega) (.inl ⟨by omega, by omega⟩) (by decide)) (by omega) (fun K v W _ hq hop => ⟨hq, fun e => by rw [e] at hop; exact Bool.noConfusion hop⟩) hlim h160 hi hlen (h i o d H O may X hi hX ho ho5 hd (by show d ≤ 5 * o + 2; omega) (by omega) (fun _ => hm1 (by omega)) (fun hh => absurd hh (by omega)) hlen (hlim.mono (by decide)))
theorem lv_Sum {D : Nat} (hN : 2000 ≤ N) (h : xC n0 N b sz D 5) : xC n0 N b sz (D + 1) 4 := by
  intro i o d H O may X hi hX ho ho5 hd hdl hD hm1 hm3 hlen hlim
  have h160 := hX.1.2.1
  have hdl : d ≤ 5 * o + 3 := hdl
  show tR n0 b sz (bd1 (xr_all N D 5 X) fun S1 => bd1 (xf_R_readSum_L6 N (xr_all N D) N S1 0) fun S7 => some S7) X _ H o d 5 q4
  exact lvl (l2 := 6) (Qs := q5) (Q := q4) hN (hlSum (xr_all N D)) rfl op43 (inert_of hN (by omega)) (sub_of h ho ho5 (by show d + 1 ≤ 5 * o + 4; omega) (by omega) (.inr ⟨by omega, by omega⟩) (by decide)) (by omega) (fun K v W _ hq hop => ⟨hq, fun e => by rw [e] at hop; exact Bool.noConfusion hop, fun e => by rw [e] at hop; exact Bool.noConfusion hop⟩) hlim h160 hi hlen (h i o d H O may X hi hX ho ho5 hd (by show d ≤ 5 * o + 4; omega) (by omega) (fun hh => absurd hh (by omega)) (fun _ => hm3 (by omega)) hlen (hlim.mono (by decide)))
end PLEV
