section PLOOP
/-! the class's level against the reference's run -/
variable {n0 N : Nat} {b : Nat → Nat} {sz : Nat}
def tF (b : Nat → Nat) (sz : Nat) (r : Option xS) (X : xS) (c : aC) : Prop := ∃ X1 s1, r = some X1 ∧ XF s1 X1 ∧ xU XL X X1 ∧ aFail b sz c s1
def tG (n0 : Nat) (b : Nat → Nat) (sz : Nat) (r : Option xS) (X : xS) (c : aC) (H : List Nat) (o d l : Nat) (Q : Nat → List Nat → Prop) : Prop := ∃ X1 i1 may1 P O1, r = some X1 ∧ xU XL X X1 ∧ aTo b sz c (i1, P ++ H, O1, false, may1) ∧ XE b sz (tB b sz i1) (P.reverse ++ O1) o X1 ∧ dR n0 (P.reverse ++ O1) = some (d + 1) ∧ (∀ x ∈ P, l ≤ rk x) ∧ Q (tK b sz (tB b sz i1)) (P ++ H)
def tR (n0 : Nat) (b : Nat → Nat) (sz : Nat) (r : Option xS) (X : xS) (c : aC) (H : List Nat) (o d l : Nat) (Q : Nat → List Nat → Prop) : Prop := tF b sz r X c ∨ tG n0 b sz r X c H o d l Q
theorem ap_one (P H : List Nat) (x : Nat) : (P ++ [x]) ++ H = P ++ x :: H := by
  rw [List.append_assoc]; rfl
theorem rev_one (P O : List Nat) (x : Nat) : (P ++ [x]).reverse ++ O = x :: (P.reverse ++ O) := by
  rw [List.reverse_append]; rfl
theorem tV3 {s : Nat} : tK b sz s = 3 → tV b sz s ≤ 2 := by
  unfold tK tV
  by_cases hz : s = sz
  · rw [if_pos hz]
    intro h
    exact absurd h (by decide)
  · rw [if_neg hz]
    cases hl : pLe (b s) with
    | true =>
      simp only [cond_true]
      by_cases h3 : 3 ≤ tW b sz s
      · rw [if_pos h3]
        by_cases h9 : 9 ≤ tW b sz s
        · rw [if_pos h9]
          by_cases h12 : tW b sz s = 12
          · rw [if_pos h12]
            intro h
            exact absurd h (by decide)
          · rw [if_neg h12]
            intro h
            omega
        · rw [if_neg h9]
          intro h
          exact absurd h (by decide)
      · rw [if_neg h3, if_neg h3]
        intro _
        omega
    | false =>
      simp only [cond_false]
      cases pDi (b s) with
      | true =>
        simp only [cond_true]
        intro h
        split at h
        · exact absurd h (by decide)
        · exact absurd h (by decide)
      | false =>
        simp only [cond_false]
        cases hp : pSi (b s) with
        | true =>
          unfold pSi at hp
          simp only [Bool.or_eq_true, decide_eq_true_eq] at hp
          simp only [cond_true]
          intro h
          omega
        | false =>
          intro h
          exact absurd (show (99 : Nat) = 3 from h) (by decide)
def opOK (isop : Int32 → Bool) (l : Nat) : Prop := ∀ K v, K ≤ 99 → (K = 3 → v ≤ 2) → isop (kX K v) = true → (11 ≤ sg K ∧ sg K ≤ 18 ∧ sg K ≠ 13) ∧ lv (sg K) = l ∧ rk (sg K) = l ∧ rk (sg K) ≠ 4 ∧ ((kX K v <<< (14 &&& 31)) ||| 0) = enc (nI (sg K)) ∧ K ≠ 59 ∧ K ≠ 41
def inert (rc : xS → Option xS) : Prop := ∀ s X, XF s X → ∃ X1, rc X = some X1 ∧ XF s X1 ∧ xU XL X X1
/-- what the next lower level does behind a sign of rank l -/
def subOK (n0 : Nat) (b : Nat → Nat) (sz : Nat) (rc : xS → Option xS) (H : List Nat) (o d l l2 : Nat) (Qs : Nat → List Nat → Prop) : Prop := ∀ i x O X, 11 ≤ x ∧ x ≤ 18 ∧ x ≠ 13 → rk x = l → i ≤ sz → XE b sz (tB b sz i) O o X → dR n0 O = some (d + 1) → (x :: H).length + O.length ≤ i → tR n0 b sz (rc X) X (i, x :: H, O, true, decide (x ≤ 12)) (x :: H) o (d + 1) l2 Qs
theorem lp {loop : Nat → xS → Int32 → Option xS} {isop : Int32 → Bool} {rc : xS → Option xS} {H : List Nat} {o d l l2 : Nat} {Qs Q : Nat → List Nat → Prop} (hN : 2000 ≤ N)
    (hl : ∀ n X v, loop (n + 1) X v = if 160 ≤ v then some X else bif isop (X.1 43 0) then bd1 (xf_R_advance N X) fun S4 => bd1 (rc S4) fun S5 => bd1 (xf_R_put N S5 (X.1 43 0) 0) fun S6 => loop n S6 (v + 1) else some X)
    (h10 : isop 10 = false) (hop : opOK isop l) (hin : inert rc) (hrc : subOK n0 b sz rc H o d l l2 Qs) (hl2 : l ≤ l2) (hQ : ∀ K v W, K ≤ 99 → Qs K W → isop (kX K v) = false → Q K W) (hH : tLt l H) (h160 : sz ≤ 160) :
    ∀ (n i j : Nat) (P O1 : List Nat) (may : Bool) (X : xS), i ≤ sz → j ≤ i → XE b sz (tB b sz i) (P.reverse ++ O1) o X → dR n0 (P.reverse ++ O1) = some (d + 1) → (∀ x ∈ P, l ≤ rk x) → Qs (tK b sz (tB b sz i)) (P ++ H) → (P ++ H).length + O1.length ≤ i → sz - i < n → tR n0 b sz (loop n X (nI j)) X (i, P ++ H, O1, false, may) H o d l Q := by
  have iner : ∀ (n j : Nat) (X : xS) (s : Nat), XF s X → loop (n + 1) X (nI j) = some X := fun n j X s h => by
    rw [hl, h.2.2.1, h10]
    by_cases hv : (160 : Int32) ≤ nI j
    · rw [if_pos hv]
    · rw [if_neg hv]; rfl
  intro n
  induction n with
  | zero => intro i j P O1 may X _ _ _ _ _ _ _ h; omega
  | succ n ih =>
    intro i j P O1 may X hi hj hX hd hP hq hlen hn
    have hb := tB_le (b := b) hi
    have hk := tK_le (b := b) (sz := sz) (tB b sz i)
    have e43 := hX.2.2.1.2.2.1
    rw [hl, e43]
    cases ho : isop (kX (tK b sz (tB b sz i)) (tV b sz (tB b sz i))) with
    | false =>
      refine .inr ⟨X, i, may, P, O1, ?_, xU.refl _ _, aTo.refl _, hX, hd, hP, hQ _ _ _ hk hq ho⟩
      by_cases hv : (160 : Int32) ≤ nI j
      · rw [if_pos hv]
      · rw [if_neg hv]; rfl
    | true =>
      obtain ⟨hx, hlv, hrk, h4, henc, h59, h41⟩ := hop _ _ hk tV3 ho
      have hsne : tB b sz i ≠ sz := fun e => by
        rw [e, tK_end] at hx
        exact absurd (show 99 ≤ 18 from hx.2.1) (by decide)
      have hE := tE_le (b := b) hb.2
      have hE3 := hE.2.2 (by omega)
      rw [if_neg (show ¬ (160 : Int32) ≤ nI j from sm_nle (n := 160) (by omega) (by omega))]
      simp only [cond_true]
      obtain ⟨X4, c1, c2, c3⟩ := xr_adv (N := N) hN hX
      have hst : aStep (tK b sz (tB b sz i)) (tV b sz (tB b sz i)) (P ++ H) O1 false may = .inr (sg (tK b sz (tB b sz i)) :: H, P.reverse ++ O1, true, decide (sg (tK b sz (tB b sz i)) ≤ 12)) := by
        rw [aStep, if_neg h59, if_neg h41, if_neg (by omega), decide_eq_false h4, Bool.false_and, if_neg (by decide), hlv, aU_flush hH P O1 hP]
      have hto := aTo.one (b := b) (sz := sz) (i := i) rfl hst
      generalize hxx : sg (tK b sz (tB b sz i)) = x at *
      have hlen2 : (x :: H).length + (P.reverse ++ O1).length ≤ tE b sz (tB b sz i) := by
        rw [List.length_append] at hlen ⊢
        rw [List.length_cons, List.length_reverse]
        omega
      rw [c1, bs1]
      rcases hrc (tE b sz (tB b sz i)) x (P.reverse ++ O1) X4 hx hrk hE.2.1 c2 hd hlen2 with ⟨X5, s5, r1, r2, r3, r4⟩ | ⟨X5, i5, may5, P5, O5, r1, r2, r3, r4, r5, r6, r7⟩
      · obtain ⟨X6, p1, p2, p3⟩ := xr_putF (N := N) (a1 := kX (tK b sz (tB b sz i)) (tV b sz (tB b sz i))) (a2 := 0) r2
        obtain ⟨m, rfl⟩ : ∃ m, n = m + 1 := ⟨n - 1, by omega⟩
        rw [r1, bs1, p1, bs1, show nI j + 1 = nI (j + 1) from nI_add j 1, iner m (j + 1) X6 s5 p2]
        exact .inl ⟨X6, s5, rfl, p2, c3.trans (r3.trans p3), hto.fail r4⟩
      · have hlen5 := r3.len hE.2.1 hlen2
        have hl5 : (P5 ++ x :: H).length + O5.length ≤ i5 := hlen5.2.1
        rw [List.length_append, List.length_cons] at hl5
        obtain ⟨X6, p1, p2, p3⟩ := xr_put (N := N) (x := x) r4 (by rw [List.length_append, List.length_reverse]; omega) henc
        rw [r1, bs1, p1, bs1, show nI j + 1 = nI (j + 1) from nI_add j 1]
        have hd6 : dR n0 (x :: (P5.reverse ++ O5)) = some (d + 1) := (dR_cons r5).trans (dS_bin hx)
        have hih := ih i5 (j + 1) (P5 ++ [x]) O5 may5 X6 hlen5.1 (by omega) (by rw [rev_one]; exact p2) (by rw [rev_one]; exact hd6) (fun y hy => by
          rcases List.mem_append.mp hy with hy | hy
          · exact Nat.le_trans hl2 (r6 y hy)
          · rw [List.mem_singleton.mp hy, hrk]
            exact Nat.le_refl _) (by rw [ap_one]; exact r7) (by rw [ap_one]; exact hlen5.2.1) (by omega)
        have hto2 : aTo b sz (i, P ++ H, O1, false, may) (i5, (P5 ++ [x]) ++ H, O5, false, may5) := by
          rw [ap_one]
          exact hto.trans r3
        rcases hih with ⟨X7, s7, q1, q2, q3, q4⟩ | ⟨X7, i7, may7, P7, O7, q1, q2, q3, q4⟩
        · exact .inl ⟨X7, s7, q1, q2, c3.trans (r2.trans (p3.trans q3)), hto2.fail q4⟩
        · exact .inr ⟨X7, i7, may7, P7, O7, q1, c3.trans (r2.trans (p3.trans q2)), hto2.trans q3, q4⟩
/-- a level: what is below it, and its loop -/
theorem lvl {loop : Nat → xS → Int32 → Option xS} {isop : Int32 → Bool} {rc : xS → Option xS} {H O : List Nat} {o d l l2 i : Nat} {may : Bool} {X : xS} {Qs Q : Nat → List Nat → Prop} (hN : 2000 ≤ N)
    (hl : ∀ n X v, loop (n + 1) X v = if 160 ≤ v then some X else bif isop (X.1 43 0) then bd1 (xf_R_advance N X) fun S4 => bd1 (rc S4) fun S5 => bd1 (xf_R_put N S5 (X.1 43 0) 0) fun S6 => loop n S6 (v + 1) else some X)
    (h10 : isop 10 = false) (hop : opOK isop l) (hin : inert rc) (hrc : subOK n0 b sz rc H o d l l2 Qs) (hl2 : l ≤ l2) (hQ : ∀ K v W, K ≤ 99 → Qs K W → isop (kX K v) = false → Q K W) (hH : tLt l H) (h160 : sz ≤ 160) (hi : i ≤ sz) (hlen : H.length + O.length ≤ i)
    (h0 : tR n0 b sz (rc X) X (i, H, O, true, may) H o d l2 Qs) : tR n0 b sz (bd1 (rc X) fun S1 => bd1 (loop N S1 0) fun S7 => some S7) X (i, H, O, true, may) H o d l Q := by
  obtain ⟨m, hm⟩ : ∃ m, N = m + 1 := ⟨N - 1, by omega⟩
  rcases h0 with ⟨X1, s1, a1, a2, a3, a4⟩ | ⟨X1, i1, may1, P, O1, a1, a2, a3, a4, a5, a6, a7⟩
  · rw [a1, bs1]
    have e : loop N X1 0 = some X1 := by
      have := hl m X1 0
      rw [← hm] at this
      rw [this, a2.2.2.1, h10, if_neg (by decide)]
      rfl
    rw [e, bs1]
    exact .inl ⟨X1, s1, rfl, a2, a3, a4⟩
  · rw [a1, bs1]
    have hle := a3.len hi hlen
    have h := lp (N := N) hN hl h10 hop hin hrc hl2 hQ hH h160 N i1 0 P O1 may1 X1 hle.1 (by omega) a4 a5 (fun x hx => Nat.le_trans hl2 (a6 x hx)) a7 hle.2.1 (by omega)
    have h : tR n0 b sz (loop N X1 0) X1 (i1, P ++ H, O1, false, may1) H o d l Q := h
    rcases h with ⟨X7, s7, q1, q2, q3, q4⟩ | ⟨X7, i7, may7, P7, O7, q1, q2, q3, q4⟩
    · rw [q1, bs1]
      exact .inl ⟨X7, s7, rfl, q2, a2.trans q3, a3.fail q4⟩
    · rw [q1, bs1]
      exact .inr ⟨X7, i7, may7, P7, O7, rfl, a2.trans q2, a3.trans q3, q4⟩
end PLOOP
