section PASK
/-! bounds of what is answered -/
section A
variable {a : aS}
theorem fClamp_iv {x : Int32} {mo : Int32} (h : 0 ≤ mo.toInt) : iv (fClamp x mo) 0 mo.toInt := by
  unfold fClamp iv
  by_cases h1 : 0 ≤ x
  · rw [if_pos h1]
    rw [fa_le, toI_0] at h1
    by_cases h2 : x ≤ mo
    · rw [if_pos h2]
      rw [fa_le] at h2
      omega
    · rw [if_neg h2]
      omega
  · rw [if_neg h1, toI_0]
    omega
theorem fLike_iv (a : aS) (r c p : Nat) : iv (fLike a r c p) 0 99 := fClamp_iv (mo := 99) (by decide)
theorem fPrice_iv (a : aS) (r c : Nat) : iv (fPrice a r c) 0 999 := fClamp_iv (mo := 999) (by decide)
theorem iv_0 {b : Int} (h : 0 ≤ b) : iv (0 : Int32) 0 b := ⟨Int.le_refl 0, h⟩
theorem fWorth_iv (hI : IS a) (r c : Nat) : iv (fWorth a r c) 0 594 := by
  have h6 := hI.1.2.2.2.1
  unfold fWorth
  have := fSum_iv (f := fun p => if fHider a r c p = -1 then fLike a r c p else 0) (b := 99) (by omega) (k := np a) (i := 0) (v := 0) (B := 0) (fun j _ _ => by
    by_cases h1 : fHider a r c j = -1
    · simp only [if_pos h1]; exact fLike_iv a r c j
    · simp only [if_neg h1]; exact iv_0 (by omega)) (iv_0 (by omega)) (by omega)
  exact iv_mono this (by omega) (by omega)
theorem fRows_iv {f : Nat → Nat → Int32} {b : Int} (hb : 0 ≤ b) (hI : IS a) (hf : ∀ r c, r < nr a → c < ns a r → iv (f r c) 0 b) : ∀ (k i : Nat) (v : Int32) (B : Int), i + k ≤ nr a → iv v 0 B → B + k * (8 * b) < 2147483648 → iv (fRows a f k i v) 0 (B + k * (8 * b))
  | 0, i, v, B, _, hv, _ => by
    simpa [fRows] using hv
  | k + 1, i, v, B, hk, hv, hB => by
    rw [fRows]
    have e : B + ((k + 1 : Nat) : Int) * (8 * b) = (B + 8 * b) + k * (8 * b) := by
      rw [Int.natCast_add, Int.add_mul]
      omega
    have hk2 : 0 ≤ (k : Int) * (8 * b) := Int.mul_nonneg (Int.natCast_nonneg k) (by omega)
    rw [e] at hB ⊢
    have h8 := (hI.2.2.1 i (by omega)).2.2.2.1
    have hB0 : 0 ≤ B := Int.le_trans hv.1 hv.2
    have hm : (ns a i : Int) * b ≤ 8 * b := Int.mul_le_mul_of_nonneg_right (by omega) hb
    have h1 := fSum_iv (f := f i) hb (k := ns a i) (i := 0) (v := v) (B := B) (fun j _ h2 => hf i j (by omega) (by omega)) hv (by omega)
    exact fRows_iv hb hI hf k (i + 1) _ (B + 8 * b) (by omega) (iv_mono h1 (by omega) (by omega)) hB
theorem fAll_iv (hI : IS a) : iv (fAll a) 0 28512 := by
  have h6 := hI.1.2.1
  have := fRows_iv (f := fWorth a) (b := 594) (by omega) hI (fun r c _ _ => fWorth_iv hI r c) (nr a) 0 0 0 (by omega) (iv_0 (by omega)) (by omega)
  exact iv_mono this (by omega) (by omega)
theorem fRows_cong {f g : Nat → Nat → Int32} : ∀ {k i : Nat} {v : Int32}, (∀ r c, i ≤ r → r < i + k → c < ns a r → f r c = g r c) → fRows a f k i v = fRows a g k i v
  | 0, _, _, _ => rfl
  | k + 1, i, v, h => by
    rw [fRows, fRows, fSum_cong (f := f i) (g := g i) (fun j _ h2 => h i j (Nat.le_refl _) (by omega) (by omega))]
    exact fRows_cong fun r c h1 h2 h3 => h r c (by omega) (by omega) h3
end A
def fBit (a : aS) (w : Int32) (r c : Nat) : Int32 := if fSees a r c = w then 1 else 0
def fWhat (a : aS) (w : Int32) (r c : Nat) : Int32 := if w = 0 then fPrice a r c else if w = 1 then fWorth a r c else if fSees a r c = (if w = 2 then fAllBits a else 0) then 1 else 0
section B
variable {N : Nat} {a : aS}
theorem md_whatL2 (hN : 2000 ≤ N) (hI : IS a) {w : Int32} {r : Nat} (hr : r < nr a) : ∀ (k i n : Nat) (M : mS) (v : Int32), mC M = a → i + k = ns a r → k < n → ∃ M1, mf_all_L27 N w (nI r) n M v (nI i) = some (fSum (fWhat a w r) k i v, M1) ∧ mE M M1
  | 0, i, n + 1, M, v, hA, hk, _ => by
    have h6 := hI.hr6 hr
    have e := hI.2.2.1 r hr
    refine ⟨M, ?_, mE.refl M⟩
    rw [mf_all_L27, if_pos (sm_ok h6 (by omega)), sm_clamp (show r < 100000000 by omega), mA hA 5 rfl, e.2.1, if_pos (sm_len (by omega) (by omega))]
    rfl
  | k + 1, i, n + 1, M, v, hA, hk, hn => by
    have h6 := hI.hr6 hr
    have e := hI.2.2.1 r hr
    have hi8 : i < 8 := by omega
    rw [mf_all_L27, if_pos (sm_ok h6 (by omega)), sm_clamp (show r < 100000000 by omega), mA hA 5 rfl, e.2.1, if_neg (sm_nle (by omega) (by omega)), md_sees hN hI hA hr hi8, bs1, ← nI_succ, fSum, mA hA 10 rfl]
    by_cases w0 : w = 0
    · obtain ⟨M2, l1, l2⟩ := md_price hN hI hA hr hi8
      obtain ⟨M3, q1, q2⟩ := md_whatL2 hN hI (w := w) hr k (i + 1) n M2 (v + fWhat a w r i) (l2.1.trans hA) (by omega) (by omega)
      refine ⟨M3, ?_, l2.trans q2⟩
      have ew : fWhat a w r i = fPrice a r i := by unfold fWhat; rw [if_pos w0]
      rw [ew] at q1 ⊢
      rw [if_pos w0, l1, bs2, bs2]
      exact q1
    · by_cases w1 : w = 1
      · obtain ⟨M2, l1, l2⟩ := md_worth hN hI hA hr hi8
        obtain ⟨M3, q1, q2⟩ := md_whatL2 hN hI (w := w) hr k (i + 1) n M2 (v + fWhat a w r i) (l2.1.trans hA) (by omega) (by omega)
        refine ⟨M3, ?_, l2.trans q2⟩
        have ew : fWhat a w r i = fWorth a r i := by unfold fWhat; rw [if_neg w0, if_pos w1]
        rw [ew] at q1 ⊢
        rw [if_neg w0, if_pos w1, l1, bs2, bs2]
        exact q1
      · obtain ⟨M3, q1, q2⟩ := md_whatL2 hN hI (w := w) hr k (i + 1) n M (v + fWhat a w r i) hA (by omega) (by omega)
        refine ⟨M3, ?_, q2⟩
        rw [if_neg w0, if_neg w1]
        by_cases hs : fSees a r i = (if w = 2 then fAllBits a else 0)
        · have ew : fWhat a w r i = 1 := by unfold fWhat; rw [if_neg w0, if_neg w1, if_pos hs]
          rw [ew] at q1 ⊢
          unfold fAllBits at hs
          rw [if_pos hs, bs2]
          exact q1
        · have ew : fWhat a w r i = 0 := by unfold fWhat; rw [if_neg w0, if_neg w1, if_neg hs]
          rw [ew] at q1 ⊢
          unfold fAllBits at hs
          rw [if_neg hs, bs2]
          exact q1
theorem md_whatL (hN : 2000 ≤ N) (hI : IS a) {w : Int32} : ∀ (k i n : Nat) (M : mS) (v : Int32), mC M = a → i + k = nr a → k < n → ∃ M1, mf_all_L16 N w n M v (nI i) = some (fRows a (fWhat a w) k i v, M1) ∧ mE M M1
  | 0, i, n + 1, M, v, hA, hk, _ => by
    have e : M.1 3 0 = nI (nr a) := by rw [mA hA 3 rfl]; exact hI.1.1
    have h6 := hI.1.2.1
    refine ⟨M, ?_, mE.refl M⟩
    rw [mf_all_L16, e, if_pos (sm_len (by omega) (by omega))]
    rfl
  | k + 1, i, n + 1, M, v, hA, hk, hn => by
    have e : M.1 3 0 = nI (nr a) := by rw [mA hA 3 rfl]; exact hI.1.1
    have h6 := hI.1.2.1
    have hr : i < nr a := by omega
    have e8 := (hI.2.2.1 i hr).2.2.2.1
    obtain ⟨M2, l1, l2⟩ := md_whatL2 hN hI (w := w) hr (ns a i) 0 N M v hA (by omega) (by omega)
    obtain ⟨M3, q1, q2⟩ := md_whatL hN hI (w := w) k (i + 1) n M2 (fSum (fWhat a w i) (ns a i) 0 v) (l2.1.trans hA) (by omega) (by omega)
    refine ⟨M3, ?_, l2.trans q2⟩
    rw [nI_0] at l1
    rw [mf_all_L16, e, if_neg (sm_nle (by omega) (by omega)), l1, bs2, ← nI_succ, fRows]
    exact q1
theorem px_allPL2 (hN : 2000 ≤ N) (hI : IS a) {r : Nat} (hr : r < nr a) : ∀ (k i n : Nat) (X : xS) (v : Int32), RS X a → i + k = ns a r → k < n → ∃ X1, xf_H_allPrices_L14 N (nI r) n X v (nI i) = some (fSum (fPrice a r) k i v, X1) ∧ xQ X X1
  | 0, i, n + 1, X, v, hR, hk, _ => by
    have h6 := hI.hr6 hr
    have e := hI.2.2.1 r hr
    have e2 := (hR.2.2.1 r hr).2.2.1
    refine ⟨X, ?_, xQ.refl X⟩
    rw [xf_H_allPrices_L14, if_pos (sm_ok h6 (by omega)), sm_clamp (show r < 100000000 by omega), if_pos (by rw [hR.1.2.2.2]; exact hr), e2, e.2.1, if_pos (sm_len (by omega) (by omega))]
    rfl
  | k + 1, i, n + 1, X, v, hR, hk, hn => by
    have h6 := hI.hr6 hr
    have e := hI.2.2.1 r hr
    have e2 := (hR.2.2.1 r hr).2.2.1
    obtain ⟨X2, l1, l2⟩ := px_price hN hI hR hr (show i < 8 by omega)
    obtain ⟨X3, q1, q2⟩ := px_allPL2 hN hI hr k (i + 1) n X2 (v + fPrice a r i) (hR.frame l2) (by omega) (by omega)
    refine ⟨X3, ?_, l2.trans q2⟩
    rw [xf_H_allPrices_L14, if_pos (sm_ok h6 (by omega)), sm_clamp (show r < 100000000 by omega), if_pos (by rw [hR.1.2.2.2]; exact hr), e2, e.2.1, if_neg (sm_nle (by omega) (by omega)), l1, bs2, ← nI_succ, fSum]
    exact q1
theorem px_allPL (hN : 2000 ≤ N) (hI : IS a) : ∀ (k i n : Nat) (X : xS) (v : Int32), RS X a → i + k = nr a → k < n → ∃ X1, xf_H_allPrices_L4 N n X v (nI i) = some (fRows a (fPrice a) k i v, X1) ∧ xQ X X1
  | 0, i, n + 1, X, v, hR, hk, _ => by
    have e : X.1 16 0 = nI (nr a) := hR.1.1.trans hI.1.1
    have h6 := hI.1.2.1
    refine ⟨X, ?_, xQ.refl X⟩
    rw [xf_H_allPrices_L4, e, if_pos (sm_len (by omega) (by omega))]
    rfl
  | k + 1, i, n + 1, X, v, hR, hk, hn => by
    have e : X.1 16 0 = nI (nr a) := hR.1.1.trans hI.1.1
    have h6 := hI.1.2.1
    have hr : i < nr a := by omega
    have e8 := (hI.2.2.1 i hr).2.2.2.1
    obtain ⟨X2, l1, l2⟩ := px_allPL2 hN hI hr (ns a i) 0 N X v hR (by omega) (by omega)
    obtain ⟨X3, q1, q2⟩ := px_allPL hN hI k (i + 1) n X2 (fSum (fPrice a i) (ns a i) 0 v) (hR.frame l2) (by omega) (by omega)
    refine ⟨X3, ?_, l2.trans q2⟩
    rw [nI_0] at l1
    rw [xf_H_allPrices_L4, e, if_neg (sm_nle (by omega) (by omega)), l1, bs2, ← nI_succ, fRows]
    exact q1
theorem px_manyL2 (hN : 2000 ≤ N) (hI : IS a) {w : Int32} {r : Nat} (hr : r < nr a) : ∀ (k i n : Nat) (X : xS) (v : Int32), RS X a → i + k = ns a r → k < n → ∃ X1, xf_H_howManySee_L15 N w (nI r) n X v (nI i) = some (fSum (fBit a w r) k i v, X1) ∧ xQ X X1
  | 0, i, n + 1, X, v, hR, hk, _ => by
    have h6 := hI.hr6 hr
    have e := hI.2.2.1 r hr
    have e2 := (hR.2.2.1 r hr).2.2.1
    refine ⟨X, ?_, xQ.refl X⟩
    rw [xf_H_howManySee_L15, if_pos (sm_ok h6 (by omega)), sm_clamp (show r < 100000000 by omega), if_pos (by rw [hR.1.2.2.2]; exact hr), e2, e.2.1, if_pos (sm_len (by omega) (by omega))]
    rfl
  | k + 1, i, n + 1, X, v, hR, hk, hn => by
    have h6 := hI.hr6 hr
    have e := hI.2.2.1 r hr
    have e2 := (hR.2.2.1 r hr).2.2.1
    obtain ⟨X2, l1, l2⟩ := px_sees hN hI hR hr (show i < 8 by omega)
    obtain ⟨X3, q1, q2⟩ := px_manyL2 hN hI (w := w) hr k (i + 1) n X2 (v + fBit a w r i) (hR.frame l2) (by omega) (by omega)
    refine ⟨X3, ?_, l2.trans q2⟩
    rw [xf_H_howManySee_L15, if_pos (sm_ok h6 (by omega)), sm_clamp (show r < 100000000 by omega), if_pos (by rw [hR.1.2.2.2]; exact hr), e2, e.2.1, if_neg (sm_nle (by omega) (by omega)), l1, bs2, ← nI_succ, fSum]
    unfold fBit at q1 ⊢
    by_cases h1 : fSees a r i = w
    · rw [if_pos h1] at q1 ⊢
      rw [if_pos h1]
      exact q1
    · rw [if_neg h1] at q1 ⊢
      rw [if_neg h1]
      rw [Int32.add_zero] at q1 ⊢
      exact q1
theorem px_manyL (hN : 2000 ≤ N) (hI : IS a) {w : Int32} : ∀ (k i n : Nat) (X : xS) (v : Int32), RS X a → i + k = nr a → k < n → ∃ X1, xf_H_howManySee_L4 N w n X v (nI i) = some (fRows a (fBit a w) k i v, X1) ∧ xQ X X1
  | 0, i, n + 1, X, v, hR, hk, _ => by
    have e : X.1 16 0 = nI (nr a) := hR.1.1.trans hI.1.1
    have h6 := hI.1.2.1
    refine ⟨X, ?_, xQ.refl X⟩
    rw [xf_H_howManySee_L4, e, if_pos (sm_len (by omega) (by omega))]
    rfl
  | k + 1, i, n + 1, X, v, hR, hk, hn => by
    have e : X.1 16 0 = nI (nr a) := hR.1.1.trans hI.1.1
    have h6 := hI.1.2.1
    have hr : i < nr a := by omega
    have e8 := (hI.2.2.1 i hr).2.2.2.1
    obtain ⟨X2, l1, l2⟩ := px_manyL2 hN hI (w := w) hr (ns a i) 0 N X v hR (by omega) (by omega)
    obtain ⟨X3, q1, q2⟩ := px_manyL hN hI (w := w) k (i + 1) n X2 (fSum (fBit a w i) (ns a i) 0 v) (hR.frame l2) (by omega) (by omega)
    refine ⟨X3, ?_, l2.trans q2⟩
    rw [nI_0] at l1
    rw [xf_H_howManySee_L4, e, if_neg (sm_nle (by omega) (by omega)), l1, bs2, ← nI_succ, fRows]
    exact q1
theorem px_many (hN : 2000 ≤ N) (hI : IS a) {w : Int32} {X : xS} (hR : RS X a) : ∃ X1, xf_H_howManySee N X w = some (fRows a (fBit a w) (nr a) 0 0, X1) ∧ xQ X X1 := by
  have h6 := hI.1.2.1
  obtain ⟨X1, q1, q2⟩ := px_manyL hN hI (w := w) (nr a) 0 N X 0 hR (by omega) (by omega)
  refine ⟨X1, ?_, q2⟩
  rw [nI_0] at q1
  unfold xf_H_howManySee
  rw [q1]
  rfl
theorem st_all {X : xS} {M : mS} (hN : 2000 ≤ N) (h : Rl X M) (w : Int32) : ∃ r X1 M1, xf_X_all N X w = some (r, X1) ∧ mf_all N M w = some (r, M1) ∧ Rl X1 M1 := by
  obtain ⟨h1, h2, h3, h4, h5⟩ := id h
  have h6 := h3.1.2.1
  unfold mf_all
  obtain ⟨M1, m1, m2⟩ := md_whatL hN h3 (w := w) (nr (mC M)) 0 N M 0 rfl (by omega) (by omega)
  rw [nI_0] at m1
  unfold xf_X_all
  by_cases w0 : w = 0
  · subst w0
    obtain ⟨X1, x1, x2⟩ := px_allPL hN h3 (nr (mC M)) 0 N X 0 h1 (by omega) (by omega)
    rw [nI_0] at x1
    unfold xf_H_allPrices
    rw [if_pos rfl, if_pos (show mf_in 0 0 3 = true by decide), x1, m1]
    refine ⟨_, X1, M1, rfl, ?_, h.same x2 m2⟩
    rw [fRows_cong (f := fWhat (mC M) 0) (g := fPrice (mC M)) (fun r c _ _ _ => by unfold fWhat; rw [if_pos rfl])]
    rfl
  · by_cases w1 : w = 1
    · subst w1
      obtain ⟨X1, x1, x2⟩ := px_all hN h3 h1
      rw [if_neg w0, if_pos rfl, if_pos (show mf_in 1 0 3 = true by decide), x1, m1]
      refine ⟨_, X1, M1, rfl, ?_, h.same x2 m2⟩
      rw [fRows_cong (f := fWhat (mC M) 1) (g := fWorth (mC M)) (fun r c _ _ _ => by unfold fWhat; rw [if_neg w0, if_pos rfl])]
      rfl
    · by_cases w2 : w = 2
      · subst w2
        have e17 : X.1 17 0 = mC M 10 0 := h1.1.2.1
        obtain ⟨X1, x1, x2⟩ := px_many hN h3 (w := fAllBits (mC M)) h1
        unfold fAllBits at x1
        rw [if_neg w0, if_neg w1, if_pos rfl, if_pos (show mf_in 2 0 3 = true by decide), e17, x1, m1]
        refine ⟨_, X1, M1, rfl, ?_, h.same x2 m2⟩
        rw [fRows_cong (f := fWhat (mC M) 2) (g := fBit (mC M) (fAllBits (mC M))) (fun r c _ _ _ => by unfold fWhat fBit; rw [if_neg w0, if_neg w1, if_pos rfl])]
        rfl
      · by_cases w3 : w = 3
        · subst w3
          obtain ⟨X1, x1, x2⟩ := px_many hN h3 (w := 0) h1
          rw [if_neg w0, if_neg w1, if_neg w2, if_pos rfl, if_pos (show mf_in 3 0 3 = true by decide), x1, m1]
          refine ⟨_, X1, M1, rfl, ?_, h.same x2 m2⟩
          rw [fRows_cong (f := fWhat (mC M) 3) (g := fBit (mC M) 0) (fun r c _ _ _ => by unfold fWhat fBit; rw [if_neg w0, if_neg w1, if_neg w2])]
          rfl
        · have hn : ¬ mf_in w 0 3 = true := fun hh => by
            obtain ⟨j, hj, rfl⟩ := in_nat (n := 3) (by omega) hh
            have : j = 0 ∨ j = 1 ∨ j = 2 ∨ j = 3 := by omega
            rcases this with rfl | rfl | rfl | rfl
            · exact w0 rfl
            · exact w1 rfl
            · exact w2 rfl
            · exact w3 rfl
          rw [if_neg w0, if_neg w1, if_neg w2, if_neg w3, if_neg hn]
          exact ⟨_, X, M, rfl, rfl, h⟩
end B
end PASK
