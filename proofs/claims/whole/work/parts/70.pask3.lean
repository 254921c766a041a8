section PASK3
section A
variable {N : Nat} {a : aS}
theorem one_ne : ¬ (1 : Int32) = 0 := by decide
/-! rises kept and laid back -/
theorem px_keepL {X : xS} (hn3 : X.1 16 0 = nI (nr a)) (hn : X.2.2.1 = nr a) (h6 : nr a ≤ 6) {g : Nat → Int32} : ∀ (k i n : Nat), i + k = nr a → k < n → xf_X_keepRises_L2 N n (xf X 6 (fill (X.1 57) g i)) (nI i) = some (xf X 6 (fill (X.1 57) g (nr a)))
  | 0, i, n + 1, hk, _ => by
    have e : (xf X 6 (fill (X.1 57) g i)).1 16 0 = nI (nr a) := hn3
    have hi : i = nr a := by omega
    rw [xf_X_keepRises_L2, e, if_pos (sm_len (by omega) (by omega)), hi]
  | k + 1, i, n + 1, hk, hn2 => by
    have e : (xf X 6 (fill (X.1 57) g i)).1 16 0 = nI (nr a) := hn3
    have ih := px_keepL hn3 hn h6 (g := g) k (i + 1) n (by omega) (by omega)
    have e57 : (xf X 6 (fill (X.1 57) g i)).1 57 i = X.1 57 i := rfl
    have hlt : i < (xf X 6 (fill (X.1 57) g i)).2.2.1 := by
      show i < X.2.2.1
      omega
    rw [xf_X_keepRises_L2, e, if_neg (sm_nle (by omega) (by omega)), if_pos (sm_ok (show i < 6 by omega) (by omega)), sm_clamp (show i < 100000000 by omega), if_pos hlt, e57, xs_xf, fill_succ, ← nI_succ]
    exact ih
theorem px_keep {X : xS} (hN : 2000 ≤ N) (hn3 : X.1 16 0 = nI (nr a)) (hn : X.2.2.1 = nr a) (h6 : nr a ≤ 6) : xf_X_keepRises N X = some (xf X 6 (fill (X.1 57) (X.1 6) (nr a))) := by
  have h := px_keepL (N := N) hn3 hn h6 (g := X.1 6) (nr a) 0 N (by omega) (by omega)
  rw [fill_0, xf_self, nI_0] at h
  unfold xf_X_keepRises
  rw [h]
  rfl
theorem px_layL {X : xS} (hn3 : X.1 16 0 = nI (nr a)) (hn : X.2.2.1 = nr a) (h6 : nr a ≤ 6) {g : Nat → Int32} : ∀ (k i n : Nat), i + k = nr a → k < n → xf_X_restoreRises_L2 N n (xf X 57 (fill (X.1 6) g i)) (nI i) = some (xf X 57 (fill (X.1 6) g (nr a)))
  | 0, i, n + 1, hk, _ => by
    have e : (xf X 57 (fill (X.1 6) g i)).1 16 0 = nI (nr a) := hn3
    have hi : i = nr a := by omega
    rw [xf_X_restoreRises_L2, e, if_pos (sm_len (by omega) (by omega)), hi]
  | k + 1, i, n + 1, hk, hn2 => by
    have e : (xf X 57 (fill (X.1 6) g i)).1 16 0 = nI (nr a) := hn3
    have ih := px_layL hn3 hn h6 (g := g) k (i + 1) n (by omega) (by omega)
    have e57 : (xf X 57 (fill (X.1 6) g i)).1 6 i = X.1 6 i := rfl
    have hlt : i < (xf X 57 (fill (X.1 6) g i)).2.2.1 := by
      show i < X.2.2.1
      omega
    rw [xf_X_restoreRises_L2, e, if_neg (sm_nle (by omega) (by omega)), if_pos (sm_ok (show i < 6 by omega) (by omega)), sm_clamp (show i < 100000000 by omega), if_pos hlt, e57, xs_xf, fill_succ, ← nI_succ]
    exact ih
theorem px_layback {X : xS} (hN : 2000 ≤ N) (hn3 : X.1 16 0 = nI (nr a)) (hn : X.2.2.1 = nr a) (h6 : nr a ≤ 6) : xf_X_restoreRises N X = some (xf X 57 (fill (X.1 6) (X.1 57) (nr a))) := by
  have h := px_layL (N := N) hn3 hn h6 (g := X.1 57) (nr a) 0 N (by omega) (by omega)
  rw [fill_0, xf_self, nI_0] at h
  unfold xf_X_restoreRises
  rw [h]
  rfl
theorem md_keepL {M : mS} {g : Nat → Int32} : ∀ (k i n : Nat), i + k = 6 → k < n → mf_keepsRises_L2 N n (mset M 51 (fill (M.1 7) g i)) (nI i) = some (mset M 51 (fill (M.1 7) g 6))
  | 0, i, n + 1, hk, _ => by
    have hi : i = 6 := by omega
    subst hi
    rw [mf_keepsRises_L2, if_pos (show (6 : Int32) ≤ nI 6 from sm_len (n := 6) (m := 6) (by omega) (by omega))]
  | k + 1, i, n + 1, hk, hn2 => by
    have ih := md_keepL (M := M) (g := g) k (i + 1) n (by omega) (by omega)
    have e57 : (mset M 51 (fill (M.1 7) g i)).1 7 i = M.1 7 i := rfl
    rw [mf_keepsRises_L2, if_neg (show ¬ (6 : Int32) ≤ nI i from sm_nle (n := 6) (by omega) (by omega)), if_pos (sm_ok (show i < 6 by omega) (by omega)), sm_clamp (show i < 100000000 by omega), e57, ms_mset, fill_succ, ← nI_succ]
    exact ih
theorem md_keep {M : mS} (hN : 2000 ≤ N) : mf_keepsRises N M = some (mset M 51 (fill (M.1 7) (M.1 51) 6)) := by
  have h := md_keepL (N := N) (M := M) (g := M.1 51) 6 0 N (by omega) (by omega)
  rw [fill_0, mset_self, nI_0] at h
  unfold mf_keepsRises
  rw [h]
  rfl
theorem md_layL {M : mS} {g : Nat → Int32} : ∀ (k i n : Nat), i + k = 6 → k < n → mf_laysRises_L2 N n (mset M 7 (fill (M.1 51) g i)) (nI i) = some (mset M 7 (fill (M.1 51) g 6))
  | 0, i, n + 1, hk, _ => by
    have hi : i = 6 := by omega
    subst hi
    rw [mf_laysRises_L2, if_pos (show (6 : Int32) ≤ nI 6 from sm_len (n := 6) (m := 6) (by omega) (by omega))]
  | k + 1, i, n + 1, hk, hn2 => by
    have ih := md_layL (M := M) (g := g) k (i + 1) n (by omega) (by omega)
    have e57 : (mset M 7 (fill (M.1 51) g i)).1 51 i = M.1 51 i := rfl
    rw [mf_laysRises_L2, if_neg (show ¬ (6 : Int32) ≤ nI i from sm_nle (n := 6) (by omega) (by omega)), if_pos (sm_ok (show i < 6 by omega) (by omega)), sm_clamp (show i < 100000000 by omega), e57, ms_mset, fill_succ, ← nI_succ]
    exact ih
theorem md_layback {M : mS} (hN : 2000 ≤ N) : mf_laysRises N M = some (mset M 7 (fill (M.1 51) (M.1 7) 6)) := by
  have h := md_layL (N := N) (M := M) (g := M.1 7) 6 0 N (by omega) (by omega)
  rw [fill_0, mset_self, nI_0] at h
  unfold mf_laysRises
  rw [h]
  rfl
/-- the rises were kept, changed, laid back: the class -/
theorem rises_back {X Y : xS} {n : Nat} {f : Nat → Int32} (h : xQ (xf (xf X 6 (fill (X.1 57) (X.1 6) n)) 57 f) Y) (hf : ∀ k, n ≤ k → f k = X.1 57 k) : xL X (xf Y 57 (fill (Y.1 6) (Y.1 57) n)) := by
  have e6 : Y.1 6 = fill (X.1 57) (X.1 6) n := h.1 6 rfl
  have e57 : Y.1 57 = f := h.1 57 rfl
  refine ⟨fun j hj => ?_, h.2⟩
  by_cases e : j = 57
  · subst e
    rw [xf_same]
    funext k
    unfold fill
    by_cases hk : k < n
    · rw [if_pos hk, e6, fill_in hk]
    · rw [if_neg hk, e57, hf k (by omega)]
  · rw [xf_ne e, h.1 j (xcoreL_core hj), xf_ne e]
    by_cases e2 : j = 6
    · subst e2
      exact nomatch hj
    · rw [xf_ne e2]
/-- the same: the reference -/
theorem rises_backM {M Y : mS} {f : Nat → Int32} (h : mE (mset (mset M 51 (fill (M.1 7) (M.1 51) 6)) 7 f) Y) (hf : ∀ k, 6 ≤ k → f k = M.1 7 k) : mL M (mset Y 7 (fill (Y.1 51) (Y.1 7) 6)) := by
  have e6 : Y.1 51 = fill (M.1 7) (M.1 51) 6 := h.2.2 51 (by omega) (by omega)
  have e57 : Y.1 7 = f := e_at h rfl
  refine ⟨?_, h.2.1⟩
  rw [mC_mset rfl, h.1, mC_mset rfl, (mL_mset (by omega)).1, af_af]
  have : fill (Y.1 51) (Y.1 7) 6 = mC M 7 := by
    funext k
    unfold fill
    by_cases hk : k < 6
    · rw [if_pos hk, e6, fill_in hk]
      rfl
    · rw [if_neg hk, e57, hf k (by omega)]
      rfl
  rw [this, af_self]
/-! whoever doesn't see all -/
def fMiss (a : aS) (r : Nat) : Bool := (fFirst (fun c => !decide (fSees a r c = fAllBits a)) (ns a r) 0).isSome
theorem md_allSeeL (hN : 2000 ≤ N) (hI : IS a) {M : mS} (hA : mC M = a) {r : Nat} (hr : r < nr a) : ∀ (k i n : Nat), i + k = ns a r → k < n → mf_allSee_L2 N (nI r) n M (nI i) = some (match fFirst (fun c => !decide (fSees a r c = fAllBits a)) k i with | some _ => .inl false | none => .inr ())
  | 0, i, n + 1, hk, _ => by
    have h6 := hI.hr6 hr
    have e := hI.2.2.1 r hr
    rw [mf_allSee_L2, if_pos (sm_ok h6 (by omega)), sm_clamp (show r < 100000000 by omega), mA hA 5 rfl, e.2.1, if_pos (sm_len (by omega) (by omega))]
    rfl
  | k + 1, i, n + 1, hk, hn => by
    have h6 := hI.hr6 hr
    have e := hI.2.2.1 r hr
    have ih := md_allSeeL hN hI hA hr k (i + 1) n (by omega) (by omega)
    rw [mf_allSee_L2, if_pos (sm_ok h6 (by omega)), sm_clamp (show r < 100000000 by omega), mA hA 5 rfl, e.2.1, if_neg (sm_nle (by omega) (by omega)), md_sees hN hI hA hr (show i < 8 by omega), bs1, fFirst, ← nI_succ, mA hA 10 rfl, ih]
    have eb : ((1 : Int32) <<< (a 10 0 &&& 31)) - 1 = fAllBits a := rfl
    rw [eb]
    by_cases h1 : fSees a r i = fAllBits a
    · simp [h1]
    · simp [h1]
theorem md_allSee (hN : 2000 ≤ N) (hI : IS a) {M : mS} (hA : mC M = a) {r : Nat} (hr : r < nr a) : mf_allSee N M (nI r) = some (!fMiss a r) := by
  have e8 := (hI.2.2.1 r hr).2.2.2.1
  have h := md_allSeeL hN hI hA hr (ns a r) 0 N (by omega) (by omega)
  rw [nI_0] at h
  unfold mf_allSee fMiss
  rw [h]
  cases fFirst (fun c => !decide (fSees a r c = fAllBits a)) (ns a r) 0 with
  | none => rfl
  | some x => rfl
theorem fFirst_last {P : Nat → Bool} : ∀ {k i : Nat}, fFirst P (k + 1) i = (match fFirst P k i with | some e => some e | none => if P (i + k) then some (i + k) else none)
  | 0, i => by
    rw [fFirst, fFirst, fFirst]
    rfl
  | k + 1, i => by
    rw [fFirst, fFirst_last (k := k) (i := i + 1), fFirst]
    by_cases h : P i = true
    · rw [if_pos h, if_pos h]
    · rw [if_neg h, if_neg h, show i + 1 + k = i + (k + 1) by omega]
theorem nI_m1 (n : Nat) : nI n + (-1) = nI n - 1 := (Int32.sub_eq_add_neg (nI n) 1).symm
theorem nI_m1' (x : Int32) : x + (-1) = x - 1 := (Int32.sub_eq_add_neg x 1).symm
theorem md_missL (hN : 2000 ≤ N) (hI : IS a) {M : mS} (hA : mC M = a) : ∀ (k n : Nat) (v : Int32), k ≤ nr a → k < n → mf_judge_L136 N n M v (nI k - 1) = some (match fFirst (fMiss a) k 0 with | some x => nI x | none => v)
  | 0, n + 1, v, _, _ => by
    rw [mf_judge_L136, if_pos (by decide)]
    rfl
  | k + 1, n + 1, v, hk, hn => by
    have h6 := hI.1.2.1
    rw [mf_judge_L136, nI_pred, if_neg (nI_pos (by omega)), md_allSee hN hI hA (show k < nr a by omega), bs1, nI_m1, fFirst_last, Nat.zero_add]
    cases hm : fMiss a k with
    | false =>
      rw [show (!false) = true from rfl, if_pos rfl, md_missL hN hI hA k n v (by omega) (by omega)]
      cases fFirst (fMiss a) k 0 with
      | none => rfl
      | some x => rfl
    | true =>
      rw [show (!true) = false from rfl, if_neg (by decide), md_missL hN hI hA k n (nI k) (by omega) (by omega)]
      cases fFirst (fMiss a) k 0 with
      | none => rfl
      | some x => rfl
theorem px_missL2 (hN : 2000 ≤ N) (hI : IS a) {r : Nat} (hr : r < nr a) : ∀ (k i n : Nat) (X : xS), RS X a → i + k = ns a r → k < n → ∃ X1, xf_H_firstThatMissesOne_L21 N (fAllBits a) (nI r) n X (nI i) = some (match fFirst (fun c => !decide (fSees a r c = fAllBits a)) k i with | some _ => .inl (nI r, X1) | none => .inr X1) ∧ xQ X X1
  | 0, i, n + 1, X, hR, hk, _ => by
    have h6 := hI.hr6 hr
    have e := hI.2.2.1 r hr
    have e2 := (hR.2.2.1 r hr).2.2.1
    refine ⟨X, ?_, xQ.refl X⟩
    rw [xf_H_firstThatMissesOne_L21, if_pos (sm_ok h6 (by omega)), sm_clamp (show r < 100000000 by omega), if_pos (by rw [hR.1.2.2.2]; exact hr), e2, e.2.1, if_pos (sm_len (by omega) (by omega))]
    rfl
  | k + 1, i, n + 1, X, hR, hk, hn => by
    have h6 := hI.hr6 hr
    have e := hI.2.2.1 r hr
    have e2 := (hR.2.2.1 r hr).2.2.1
    obtain ⟨X2, l1, l2⟩ := px_sees hN hI hR hr (show i < 8 by omega)
    obtain ⟨X3, q1, q2⟩ := px_missL2 hN hI hr k (i + 1) n X2 (hR.frame l2) (by omega) (by omega)
    by_cases h1 : fSees a r i = fAllBits a
    · refine ⟨X3, ?_, l2.trans q2⟩
      rw [xf_H_firstThatMissesOne_L21, if_pos (sm_ok h6 (by omega)), sm_clamp (show r < 100000000 by omega), if_pos (by rw [hR.1.2.2.2]; exact hr), e2, e.2.1, if_neg (sm_nle (by omega) (by omega)), l1, bs2, ← nI_succ, fFirst, if_pos h1, q1]
      simp [h1]
    · refine ⟨X2, ?_, l2⟩
      rw [xf_H_firstThatMissesOne_L21, if_pos (sm_ok h6 (by omega)), sm_clamp (show r < 100000000 by omega), if_pos (by rw [hR.1.2.2.2]; exact hr), e2, e.2.1, if_neg (sm_nle (by omega) (by omega)), l1, bs2, fFirst, if_neg h1]
      simp [h1]
theorem px_missL (hN : 2000 ≤ N) (hI : IS a) : ∀ (k i n : Nat) (X : xS), RS X a → i + k = nr a → k < n → ∃ X1, xf_H_firstThatMissesOne_L11 N (fAllBits a) n X (nI i) = some (match fFirst (fMiss a) k i with | some x => .inl (nI x, X1) | none => .inr X1) ∧ xQ X X1
  | 0, i, n + 1, X, hR, hk, _ => by
    have e : X.1 16 0 = nI (nr a) := hR.1.1.trans hI.1.1
    have h6 := hI.1.2.1
    refine ⟨X, ?_, xQ.refl X⟩
    rw [xf_H_firstThatMissesOne_L11, e, if_pos (sm_len (by omega) (by omega))]
    rfl
  | k + 1, i, n + 1, X, hR, hk, hn => by
    have e : X.1 16 0 = nI (nr a) := hR.1.1.trans hI.1.1
    have h6 := hI.1.2.1
    have hr : i < nr a := by omega
    have e8 := (hI.2.2.1 i hr).2.2.2.1
    obtain ⟨X2, l1, l2⟩ := px_missL2 hN hI hr (ns a i) 0 N X hR (by omega) (by omega)
    rw [nI_0] at l1
    obtain ⟨X3, q1, q2⟩ := px_missL hN hI k (i + 1) n X2 (hR.frame l2) (by omega) (by omega)
    rw [xf_H_firstThatMissesOne_L11, e, if_neg (sm_nle (by omega) (by omega)), l1, fFirst, ← nI_succ]
    unfold fMiss at q1 ⊢
    cases hx : fFirst (fun c => !decide (fSees a i c = fAllBits a)) (ns a i) 0 with
    | none =>
      refine ⟨X3, ?_, l2.trans q2⟩
      simp only [br1_inr, Option.isSome_none, Bool.false_eq_true, if_false]
      exact q1
    | some x =>
      refine ⟨X2, ?_, l2⟩
      simp only [br1_inl, Option.isSome_some, if_true]
theorem px_miss (hN : 2000 ≤ N) (hI : IS a) {X : xS} (hR : RS X a) : ∃ X1, xf_H_firstThatMissesOne N X = some ((match fFirst (fMiss a) (nr a) 0 with | some x => nI x | none => -1), X1) ∧ xQ X X1 := by
  have h6 := hI.1.2.1
  obtain ⟨X1, q1, q2⟩ := px_missL hN hI (nr a) 0 N X hR (by omega) (by omega)
  refine ⟨X1, ?_, q2⟩
  rw [nI_0] at q1
  have e17 : X.1 17 0 = a 10 0 := hR.1.2.1
  have eb : ((1 : Int32) <<< (a 10 0 &&& 31)) - 1 = fAllBits a := rfl
  unfold xf_H_firstThatMissesOne
  rw [e17, eb, q1]
  cases fFirst (fMiss a) (nr a) 0 with
  | none => rfl
  | some x => rfl
/-! judge -/
theorem px_judgeL1 (hI : IS a) {X : xS} (hR : RS X a) {s : Nat} (hs : s < 4) (hc : ∀ r, r < nr a → X.1 (70 + s) r = a 39 (60 * s + r)) : ∀ (k i n : Nat), i + k = nr a → k < n → xf_X_judge_L14 N (nI s) n X (nI i) = some (match fFirst (fun r => !mf_in (a 39 (60 * s + r)) 0 99) k i with | some _ => .inl (-2, X) | none => .inr ())
  | 0, i, n + 1, hk, _ => by
    have e : X.1 16 0 = nI (nr a) := hR.1.1.trans hI.1.1
    have h6 := hI.1.2.1
    rw [xf_X_judge_L14, e, if_pos (sm_len (by omega) (by omega))]
    rfl
  | k + 1, i, n + 1, hk, hn => by
    have e : X.1 16 0 = nI (nr a) := hR.1.1.trans hI.1.1
    have h6 := hI.1.2.1
    have ih := px_judgeL1 hI hR hs hc k (i + 1) n (by omega) (by omega)
    rw [xf_X_judge_L14, e, if_neg (sm_nle (by omega) (by omega)), if_pos (sm_ok hs (by omega)), if_pos (sm_ok (show i < 60 by omega) (by omega)), sm_clamp (show s < 100000000 by omega), sm_clamp (show i < 100000000 by omega), hc i (by omega), isIn_in, fFirst, ← nI_succ, ih]
    cases mf_in (a 39 (60 * s + i)) 0 99 with
    | false => rfl
    | true => rfl
theorem md_judgeL1 (hI : IS a) {M : mS} (hA : mC M = a) {s : Nat} (hs : s < 4) : ∀ (k i n : Nat), i + k = nr a → k < n → mf_judge_L46 N (nI s) n M 1 (nI i) = some (match fFirst (fun r => !mf_in (a 39 (60 * s + r)) 0 99) k i with | some _ => 0 | none => 1)
  | 0, i, n + 1, hk, _ => by
    have e : M.1 3 0 = nI (nr a) := by rw [mA hA 3 rfl]; exact hI.1.1
    have h6 := hI.1.2.1
    rw [mf_judge_L46, e, if_pos (sm_len (by omega) (by omega))]
    rfl
  | k + 1, i, n + 1, hk, hn => by
    have e : M.1 3 0 = nI (nr a) := by rw [mA hA 3 rfl]; exact hI.1.1
    have h6 := hI.1.2.1
    rw [mf_judge_L46, e, if_neg (sm_nle (by omega) (by omega)), if_neg (by decide), ix60, if_pos (sm_ok (show 60 * s + i < 240 by omega) (by omega)), sm_clamp (show 60 * s + i < 100000000 by omega), mA hA 39 rfl, fFirst, ← nI_succ]
    cases mf_in (a 39 (60 * s + i)) 0 99 with
    | true => exact md_judgeL1 hI hA hs k (i + 1) n (by omega) (by omega)
    | false =>
      have hz : ∀ (n : Nat) (y : Int32), mf_judge_L46 N (nI s) (n + 1) M 0 y = some 0 := fun n y => by
        rw [mf_judge_L46]
        by_cases hy : M.1 3 0 ≤ y
        · rw [if_pos hy]
        · rw [if_neg hy, if_pos rfl]
      cases n with
      | zero => omega
      | succ n => exact hz n (nI (i + 1))
theorem px_judgeL2 {X : xS} (hn3 : X.1 16 0 = nI (nr a)) (hn : X.2.2.1 = nr a) (h6 : nr a ≤ 6) {s : Nat} (hs : s < 4) {g : Nat → Int32} : ∀ (k i n : Nat), i + k = nr a → k < n → xf_X_judge_L57 N (nI s) n (xf X 57 (fill (X.1 (70 + s)) g i)) (nI i) = some (xf X 57 (fill (X.1 (70 + s)) g (nr a)))
  | 0, i, n + 1, hk, _ => by
    have e : (xf X 57 (fill (X.1 (70 + s)) g i)).1 16 0 = nI (nr a) := hn3
    have hi : i = nr a := by omega
    rw [xf_X_judge_L57, e, if_pos (sm_len (by omega) (by omega)), hi]
  | k + 1, i, n + 1, hk, hn2 => by
    have e : (xf X 57 (fill (X.1 (70 + s)) g i)).1 16 0 = nI (nr a) := hn3
    have ih := px_judgeL2 hn3 hn h6 hs (g := g) k (i + 1) n (by omega) (by omega)
    have e57 : (xf X 57 (fill (X.1 (70 + s)) g i)).1 (70 + s) = X.1 (70 + s) := xf_ne (by omega)
    have hlt : i < (xf X 57 (fill (X.1 (70 + s)) g i)).2.2.1 := by
      show i < X.2.2.1
      omega
    rw [xf_X_judge_L57, e, if_neg (sm_nle (by omega) (by omega)), if_pos (sm_ok (show i < 6 by omega) (by omega)), sm_clamp (show i < 100000000 by omega), if_pos hlt, if_pos (sm_ok hs (by omega)), if_pos (sm_ok (show i < 60 by omega) (by omega)), sm_clamp (show s < 100000000 by omega), e57, xs_xf, fill_succ, ← nI_succ]
    exact ih
theorem md_judgeL2 {M : mS} {m : Nat} (h3 : M.1 3 0 = nI m) (h6 : m ≤ 6) {s : Nat} (hs : s < 4) {g : Nat → Int32} : ∀ (k i n : Nat), i + k = m → k < n → mf_judge_L95 N (nI s) n (mset M 7 (fill (fun r => M.1 39 (60 * s + r)) g i)) (nI i) = some (mset M 7 (fill (fun r => M.1 39 (60 * s + r)) g m))
  | 0, i, n + 1, hk, _ => by
    have e : (mset M 7 (fill (fun r => M.1 39 (60 * s + r)) g i)).1 3 0 = nI m := h3
    have hi : i = m := by omega
    rw [mf_judge_L95, e, if_pos (sm_len (by omega) (by omega)), hi]
  | k + 1, i, n + 1, hk, hn2 => by
    have e : (mset M 7 (fill (fun r => M.1 39 (60 * s + r)) g i)).1 3 0 = nI m := h3
    have ih := md_judgeL2 h3 h6 hs (g := g) k (i + 1) n (by omega) (by omega)
    have e39 : (mset M 7 (fill (fun r => M.1 39 (60 * s + r)) g i)).1 39 (60 * s + i) = (fun r => M.1 39 (60 * s + r)) i := rfl
    rw [mf_judge_L95, e, if_neg (sm_nle (by omega) (by omega)), ix60, if_pos (sm_ok (show 60 * s + i < 240 by omega) (by omega)), if_pos (sm_ok (show i < 6 by omega) (by omega)), sm_clamp (show i < 100000000 by omega), sm_clamp (show 60 * s + i < 100000000 by omega), e39, ms_mset, fill_succ, ← nI_succ]
    exact ih
theorem st_judge {X : xS} {M : mS} (hN : 2000 ≤ N) (h : Rl X M) (x : Int32) : ∃ r X1 M1, xf_X_judge N X x = some (r, X1) ∧ mf_judge N M x = some (r, M1) ∧ Rl X1 M1 := by
  have hc := rises_cases (N := N) h x
  obtain ⟨h1, h2, h3, h4, h5⟩ := id h
  have h6 := h3.1.2.1
  have e3 : M.1 3 0 = nI (nr (mC M)) := h3.1.1
  have e16 : X.1 16 0 = nI (nr (mC M)) := h1.1.1.trans h3.1.1
  have en : X.2.2.1 = nr (mC M) := h1.1.2.2.2
  unfold xf_X_judge mf_judge
  rcases hc with ⟨s, hs, rfl, c1, c2, c3, c4, c5⟩ | ⟨s, hs, rfl, c1, c2, c3, c4⟩ | ⟨s, hs, rfl, c1, c2, c3⟩ | ⟨c1, c2⟩
  · have c2' : ¬ M.1 37 s = -1 := c2
    have q1 := px_judgeL1 (N := N) h3 h1 hs c5 (nr (mC M)) 0 N (by omega) (by omega)
    have q2 := md_judgeL1 (N := N) h3 (M := M) rfl hs (nr (mC M)) 0 N (by omega) (by omega)
    rw [nI_0] at q1 q2
    rw [c4, bs1, if_pos rfl, q1, c1, if_pos rfl, if_pos (sm_ok hs (by omega)), sm_clamp (show s < 100000000 by omega), if_neg c2', c3, e3, if_pos rfl, q2, bs1]
    cases hx : fFirst (fun r => !mf_in (mC M 39 (60 * s + r)) 0 99) (nr (mC M)) 0 with
    | some y =>
      exact ⟨_, X, M, rfl, rfl, h⟩
    | none =>
      have hgood : ∀ r, r < nr (mC M) → iv (mC M 39 (60 * s + r)) 0 99 := fun r hr => by
        have := fFirst_no hx r (by omega) (by omega)
        exact in_iff.mp (by simpa using this)
      -- the class
      have k1 := px_keep (N := N) hN e16 en h6
      have k2 := px_judgeL2 (N := N) (a := mC M) (X := xf X 6 (fill (X.1 57) (X.1 6) (nr (mC M)))) e16 en h6 hs (g := X.1 57) (nr (mC M)) 0 N (by omega) (by omega)
      rw [fill_0, show xf (xf X 6 (fill (X.1 57) (X.1 6) (nr (mC M)))) 57 (X.1 57) = xf X 6 (fill (X.1 57) (X.1 6) (nr (mC M))) from xf_self (X := xf X 6 (fill (X.1 57) (X.1 6) (nr (mC M)))) (k := 57), nI_0] at k2
      have e70 : (xf X 6 (fill (X.1 57) (X.1 6) (nr (mC M)))).1 (70 + s) = X.1 (70 + s) := xf_ne (by omega)
      rw [e70] at k2
      have hR1 : RS (xf (xf X 6 (fill (X.1 57) (X.1 6) (nr (mC M)))) 57 (fill (X.1 (70 + s)) (X.1 57) (nr (mC M)))) (af (mC M) 7 (fill (fun r => M.1 39 (60 * s + r)) (M.1 7) (nr (mC M)))) := by
        refine RS.rise ?_ (fun r hr => ?_)
        · refine h1.frameL ⟨fun j hj => xf_ne ?_, rfl⟩
          intro e
          subst e
          exact nomatch hj
        · rw [fill_in hr, fill_in hr]
          exact c5 r hr
      have hI1 : IS (af (mC M) 7 (fill (fun r => M.1 39 (60 * s + r)) (M.1 7) (nr (mC M)))) := h3.rise (fun r hr => by
        rw [fill_in hr]
        exact iv_mono (hgood r hr) (by omega) (by omega))
      obtain ⟨Y, y1, y2⟩ := px_miss hN hI1 hR1
      have k3 := px_layback (N := N) (a := mC M) (X := Y) hN ((congrFun (y2.1 16 rfl) 0).trans e16) (by rw [y2.2]; exact en) h6
      -- the reference
      have m1 := md_keep (N := N) (M := M) hN
      have m2 := md_judgeL2 (N := N) (M := mset M 51 (fill (M.1 7) (M.1 51) 6)) (m := nr (mC M)) e3 h6 hs (g := M.1 7) (nr (mC M)) 0 N (by omega) (by omega)
      rw [fill_0, show mset (mset M 51 (fill (M.1 7) (M.1 51) 6)) 7 (M.1 7) = mset M 51 (fill (M.1 7) (M.1 51) 6) from mset_self (M := mset M 51 (fill (M.1 7) (M.1 51) 6)) (k := 7), nI_0] at m2
      have hA1 : mC (mset (mset M 51 (fill (M.1 7) (M.1 51) 6)) 7 (fill (fun r => (mset M 51 (fill (M.1 7) (M.1 51) 6)).1 39 (60 * s + r)) (M.1 7) (nr (mC M)))) = af (mC M) 7 (fill (fun r => M.1 39 (60 * s + r)) (M.1 7) (nr (mC M))) := by
        rw [mC_mset rfl, (mL_mset (by omega)).1]
        rfl
      have m3 := md_missL hN hI1 hA1 (nr (mC M)) N (-1) (Nat.le_refl _) (by omega)
      have m4 := md_layback (N := N) (M := mset (mset M 51 (fill (M.1 7) (M.1 51) 6)) 7 (fill (fun r => (mset M 51 (fill (M.1 7) (M.1 51) 6)).1 39 (60 * s + r)) (M.1 7) (nr (mC M)))) hN
      have e3' : (mset (mset M 51 (fill (M.1 7) (M.1 51) 6)) 7 (fill (fun r => (mset M 51 (fill (M.1 7) (M.1 51) 6)).1 39 (60 * s + r)) (M.1 7) (nr (mC M)))).1 3 0 = nI (nr (mC M)) := e3
      have hX := rises_back y2 (fun k hk => fill_out hk)
      have hM := rises_backM (M := M) (Y := mset (mset M 51 (fill (M.1 7) (M.1 51) 6)) 7 (fill (fun r => (mset M 51 (fill (M.1 7) (M.1 51) 6)).1 39 (60 * s + r)) (M.1 7) (nr (mC M)))) (mE.refl _) (fun k hk => fill_out (by omega))
      simp only [br0_inr, if_neg one_ne]
      rw [k1, bs1, k2, bs1, y1, bs2, k3, bs1, m1, bs1, m2, bs1, e3', m3, bs1, m4, bs1]
      exact ⟨_, _, _, rfl, rfl, h.sameL hX hM⟩
  · have c2' : ¬ M.1 37 s = -1 := c2
    have hz : mf_judge_L46 N (nI s) N M 0 0 = some 0 := by
      cases N with
      | zero => omega
      | succ n =>
        rw [mf_judge_L46]
        by_cases hy : M.1 3 0 ≤ 0
        · rw [if_pos hy]
        · rw [if_neg hy, if_pos rfl]
    rw [c4, c1, if_pos rfl, if_pos (sm_ok hs (by omega)), sm_clamp (show s < 100000000 by omega), if_neg c2', e3, if_neg c3, hz]
    exact ⟨_, X, M, rfl, rfl, h⟩
  · have c2' : M.1 37 s = -1 := c2
    rw [c3, c1, if_pos rfl, if_pos (sm_ok hs (by omega)), sm_clamp (show s < 100000000 by omega), if_pos c2']
    exact ⟨_, X, M, rfl, rfl, h⟩
  · rw [c1, c2]
    exact ⟨_, X, M, rfl, rfl, h⟩
end A
end PASK3
