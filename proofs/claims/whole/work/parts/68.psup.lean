section PSUP
/-! states with one row of numbers changed -/
def af (a : aS) (k : Nat) (f : Nat → Int32) : aS := fun j => bif Nat.beq j k then f else a j
def mset (M : mS) (k : Nat) (f : Nat → Int32) : mS := (fun j => bif Nat.beq j k then f else M.1 j, M.2)
def fill (f g : Nat → Int32) (i : Nat) : Nat → Int32 := fun k => if k < i then f k else g k
theorem fill_0 (f g : Nat → Int32) : fill f g 0 = g := by
  funext k
  unfold fill
  rw [if_neg (Nat.not_lt_zero k)]
theorem fill_in {f g : Nat → Int32} {i k : Nat} (h : k < i) : fill f g i k = f k := by
  unfold fill
  rw [if_pos h]
theorem fill_out {f g : Nat → Int32} {i k : Nat} (h : i ≤ k) : fill f g i k = g k := by
  unfold fill
  rw [if_neg (by omega)]
theorem fill_succ (f g : Nat → Int32) (i : Nat) : upd (fill f g i) i (f i) = fill f g (i + 1) := by
  funext k
  rw [upd_at]
  by_cases h : k = i
  · subst h
    rw [if_pos rfl, fill_in (by omega)]
  · rw [if_neg h]
    unfold fill
    by_cases h2 : k < i
    · rw [if_pos h2, if_pos (by omega)]
    · rw [if_neg h2, if_neg (by omega)]
theorem fill_same {f g : Nat → Int32} {i : Nat} (h : ∀ k, k < i → f k = g k) : fill f g i = g := by
  funext k
  unfold fill
  by_cases h2 : k < i
  · rw [if_pos h2, h k h2]
  · rw [if_neg h2]
theorem af_same {a : aS} {k : Nat} {f : Nat → Int32} : af a k f k = f := by
  unfold af
  rw [Nat.beq_refl]
  rfl
theorem af_ne {a : aS} {j k : Nat} {f : Nat → Int32} (h : j ≠ k) : af a k f j = a j := by
  unfold af
  rw [beqF h]
  rfl
theorem af_self {a : aS} {k : Nat} : af a k (a k) = a := by
  funext j
  by_cases h : j = k
  · subst h
    rw [af_same]
  · rw [af_ne h]
theorem af_af {a : aS} {k : Nat} {f g : Nat → Int32} : af (af a k f) k g = af a k g := by
  funext j
  by_cases h : j = k
  · subst h
    rw [af_same, af_same]
  · rw [af_ne h, af_ne h, af_ne h]
theorem mset_same {M : mS} {k : Nat} {f : Nat → Int32} : (mset M k f).1 k = f := by
  unfold mset
  show (bif Nat.beq k k then f else M.1 k) = f
  rw [Nat.beq_refl]
  rfl
theorem mset_ne {M : mS} {j k : Nat} {f : Nat → Int32} (h : j ≠ k) : (mset M k f).1 j = M.1 j := by
  unfold mset
  show (bif Nat.beq j k then f else M.1 j) = _
  rw [beqF h]
  rfl
theorem mS_ext {M M1 : mS} (h : ∀ j, M.1 j = M1.1 j) (h2 : M.2 = M1.2) : M = M1 := by
  cases M with
  | mk p q =>
    cases M1 with
    | mk p1 q1 =>
      have : p = p1 := funext h
      subst this
      have : q = q1 := h2
      subst this
      rfl
theorem ms_mset {M : mS} {k i : Nat} {f : Nat → Int32} {x : Int32} : ms (mset M k f) k i x = mset M k (upd f i x) := by
  refine mS_ext (fun j => ?_) rfl
  by_cases h : j = k
  · subst h
    rw [ms_same, mset_same, mset_same]
  · rw [ms_ne h, mset_ne h, mset_ne h]
theorem mset_self {M : mS} {k : Nat} : mset M k (M.1 k) = M := by
  refine mS_ext (fun j => ?_) rfl
  by_cases h : j = k
  · subst h
    rw [mset_same]
  · rw [mset_ne h]
theorem mC_mset {M : mS} {k : Nat} {f : Nat → Int32} (hk : Nat.blt k 40 = true) : mC (mset M k f) = af (mC M) k f := by
  funext j
  by_cases h : j = k
  · subst h
    rw [af_same]
    unfold mC
    rw [hk, cond_true, mset_same]
  · rw [af_ne h]
    unfold mC
    rw [mset_ne h]
theorem mL_mset {M : mS} {k : Nat} {f : Nat → Int32} (hk : 40 ≤ k) : mL M (mset M k f) := by
  refine ⟨?_, rfl⟩
  funext j
  unfold mC
  by_cases h : j = k
  · subst h
    have : Nat.blt j 40 = false := by
      cases hb : Nat.blt j 40 with
      | false => rfl
      | true =>
        have : j < 40 := by simpa [Nat.blt_eq] using hb
        omega
    rw [this]
    rfl
  · rw [mset_ne h]
theorem xf_same {X : xS} {k : Nat} {f : Nat → Int32} : (xf X k f).1 k = f := by
  unfold xf
  show (bif Nat.beq k k then f else X.1 k) = f
  rw [Nat.beq_refl]
  rfl
theorem xf_ne {X : xS} {j k : Nat} {f : Nat → Int32} (h : j ≠ k) : (xf X k f).1 j = X.1 j := by
  unfold xf
  show (bif Nat.beq j k then f else X.1 j) = _
  rw [beqF h]
  rfl
theorem xS_ext {X X1 : xS} (h : ∀ j, X.1 j = X1.1 j) (h2 : X.2 = X1.2) : X = X1 := by
  cases X with
  | mk p q =>
    cases X1 with
    | mk p1 q1 =>
      have : p = p1 := funext h
      subst this
      have : q = q1 := h2
      subst this
      rfl
theorem xs_xf {X : xS} {k i : Nat} {f : Nat → Int32} {x : Int32} : xs (xf X k f) k i x = xf X k (upd f i x) := by
  refine xS_ext (fun j => ?_) rfl
  by_cases h : j = k
  · subst h
    rw [xs_same, xf_same, xf_same]
  · rw [xs_ne h, xf_ne h, xf_ne h]
theorem xs_as {X : xS} {k i : Nat} {x : Int32} : xs X k i x = xf X k (upd (X.1 k) i x) := by
  refine xS_ext (fun j => ?_) rfl
  by_cases h : j = k
  · subst h
    rw [xs_same, xf_same]
  · rw [xs_ne h, xf_ne h]
theorem ms_as {M : mS} {k i : Nat} {x : Int32} : ms M k i x = mset M k (upd (M.1 k) i x) := by
  refine mS_ext (fun j => ?_) rfl
  by_cases h : j = k
  · subst h
    rw [ms_same, mset_same]
  · rw [ms_ne h, mset_ne h]
theorem xf_self {X : xS} {k : Nat} : xf X k (X.1 k) = X := by
  refine xS_ext (fun j => ?_) rfl
  by_cases h : j = k
  · subst h
    rw [xf_same]
  · rw [xf_ne h]
theorem xQ_xf {X : xS} {k : Nat} {f : Nat → Int32} (hk : xcore k = false) : xQ X (xf X k f) := by
  refine ⟨fun j hj => xf_ne ?_, rfl⟩
  intro e
  subst e
  rw [hk] at hj
  exact nomatch hj
/-- a cell that lasts was changed and laid back -/
theorem xQ.back {X X1 X2 : xS} {k : Nat} {f : Nat → Int32} (h : xQ (xf X k f) X1) (h2 : ∀ j, xcore j = true → j ≠ k → X2.1 j = X1.1 j) (h3 : X2.1 k = X.1 k) (h4 : X2.2.2 = X1.2.2) : xQ X X2 := by
  refine ⟨fun j hj => ?_, h4.trans h.2⟩
  by_cases e : j = k
  · subst e
    exact h3
  · rw [h2 j hj e, h.1 j hj, xf_ne e]
/-! a hall as it would be -/
section A
variable {X : xS} {a : aS}
theorem RS_s.cg {X1 : xS} {a1 : aS} (h : RS_s X a) (h1 : X1.1 20 0 = X.1 20 0) (h2 : ∀ r, X1.1 (80 + 4 * r) = X.1 (80 + 4 * r)) (h3 : a1 9 = a 9) (h4 : nr a1 = nr a) : RS_s X1 a1 := by
  intro r hr c hc
  rw [h1, h2, h3]
  exact h r (by rw [← h4]; exact hr) c hc
theorem RS_t.cg {X1 : xS} {a1 : aS} (h : RS_t X a) (h0 : X1.1 0 = X.1 0) (h1 : X1.1 1 = X.1 1) (h2 : X1.1 19 = X.1 19) (h3 : X1.2.2.2 = X.2.2.2) (h4 : X1.1 76 = X.1 76) (h5 : ∀ t, X1.1 (82 + 4 * t) = X.1 (82 + 4 * t)) (h6 : ∀ t, X1.1 (81 + 4 * t) = X.1 (81 + 4 * t)) (g1 : a1 19 = a 19) (g2 : a1 20 = a 20) (g3 : a1 21 = a 21) (g4 : a1 22 = a 22) : RS_t X1 a1 := by
  have e1 : nt a1 = nt a := by unfold nt; rw [g3]
  have e2 : ∀ t j, st a1 t j = st a t j := fun t j => by unfold st; rw [g2]
  have e3 : ∀ t i, cd a1 t i = cd a t i := fun t i => by unfold cd; rw [g1]
  unfold RS_t at h ⊢
  rw [h0, h1, h2, h3, h4, e1, g2, g3, g4]
  refine ⟨h.1, h.2.1, h.2.2.1, h.2.2.2.1, fun t ht => ?_⟩
  rw [h5, h6, e2]
  refine ⟨(h.2.2.2.2 t ht).1, (h.2.2.2.2 t ht).2.1, fun i hi => ?_⟩
  rw [e3]
  exact (h.2.2.2.2 t ht).2.2 i hi
theorem IS_t.cg {a1 : aS} (h : IS_t a) (g1 : a1 19 = a 19) (g2 : a1 20 = a 20) (g3 : a1 21 = a 21) (g4 : a1 22 = a 22) : IS_t a1 := by
  have e1 : nt a1 = nt a := by unfold nt; rw [g3]
  have e0 : rl a1 = rl a := by unfold rl; rw [g4]
  have e2 : ∀ t j, st a1 t j = st a t j := fun t j => by unfold st; rw [g2]
  have e3 : ∀ t, cd a1 t = cd a t := fun t => by funext i; unfold cd; rw [g1]
  unfold IS_t at h ⊢
  rw [e1, e0, g3, g4]
  refine ⟨h.1, h.2.1, h.2.2.1, h.2.2.2.1, h.2.2.2.2.1, fun t ht => ?_⟩
  have := h.2.2.2.2.2 t ht
  unfold tOK at this ⊢
  simp only [e2, e3, g2]
  exact this
theorem RS.rise {f g : Nat → Int32} (h : RS X a) (hfg : ∀ r, r < nr a → f r = g r) : RS (xf X 57 f) (af a 7 g) := by
  obtain ⟨h1, h2, h3, h4, h5, h6, h7, h8⟩ := h
  refine ⟨h1, h2, ?_, h4.cg rfl (fun r => xf_ne (by omega)) rfl rfl, h5, h6, h7, h8.cg rfl rfl rfl rfl rfl (fun t => xf_ne (by omega)) (fun t => xf_ne (by omega)) rfl rfl rfl rfl⟩
  intro r hr
  obtain ⟨r1, r2, r3, r4, r5, r6, r7, r8, r9, r10⟩ := h3 r hr
  exact ⟨r1, r2, r3, hfg r hr, r5, r6, r7, r8, r9, r10⟩
theorem IS.rise {g : Nat → Int32} (h : IS a) (hg : ∀ r, r < nr a → iv (g r) (-1) 100) : IS (af a 7 g) := by
  obtain ⟨h1, h2, h3, h4, h5, h6, h7, h8⟩ := h
  refine ⟨h1, h2, ?_, h4, h5, h6, h7, h8.cg rfl rfl rfl rfl⟩
  intro r hr
  obtain ⟨i1, i2, i3, i4, i5, i6, i7⟩ := h3 r hr
  exact ⟨i1, i2, i3, i4, i5, hg r hr, i7⟩
theorem RS.shift {f g : Nat → Int32} (h : RS X a) (hfg : ∀ r, r < nr a → f r = g r) : RS (xf X 58 f) (af a 8 g) := by
  obtain ⟨h1, h2, h3, h4, h5, h6, h7, h8⟩ := h
  refine ⟨h1, h2, ?_, h4.cg rfl (fun r => xf_ne (by omega)) rfl rfl, h5, h6, h7, h8.cg rfl rfl rfl rfl rfl (fun t => xf_ne (by omega)) (fun t => xf_ne (by omega)) rfl rfl rfl rfl⟩
  intro r hr
  obtain ⟨r1, r2, r3, r4, r5, r6, r7, r8, r9, r10⟩ := h3 r hr
  exact ⟨r1, r2, r3, r4, hfg r hr, r6, r7, r8, r9, r10⟩
theorem IS.shift {g : Nat → Int32} (h : IS a) (hg : ∀ r, r < nr a → iv (g r) 0 1) : IS (af a 8 g) := by
  obtain ⟨h1, h2, h3, h4, h5, h6, h7, h8⟩ := h
  refine ⟨h1, h2, ?_, h4, h5, h6, h7, h8.cg rfl rfl rfl rfl⟩
  intro r hr
  obtain ⟨i1, i2, i3, i4, i5, i6, i7⟩ := h3 r hr
  exact ⟨i1, i2, i3, i4, i5, i6, hg r hr⟩
theorem RS.lift {x : Int32} {g : Nat → Int32} (h : RS X a) (hg : ∀ p, p < np a → X.1 12 p + x = g p) : RS (xs X 21 0 x) (af a 12 g) := by
  obtain ⟨h1, h2, h3, h4, h5, h6, h7, h8⟩ := h
  refine ⟨h1, h2, h3, h4.cg rfl (fun r => xs_ne (by omega)) rfl rfl, ?_, h6, h7, h8.cg rfl rfl rfl rfl rfl (fun t => xs_ne (by omega)) (fun t => xs_ne (by omega)) rfl rfl rfl rfl⟩
  intro p hp
  obtain ⟨p1, p2, p3⟩ := h5 p hp
  refine ⟨p1, ?_, p3⟩
  rw [xs_same, pk_us]
  exact hg p hp
theorem IS.lift {g : Nat → Int32} (h : IS a) (hg : ∀ p, p < np a → iv (g p) 0 70) : IS (af a 12 g) := by
  obtain ⟨h1, h2, h3, h4, h5, h6, h7, h8⟩ := h
  refine ⟨h1, h2, h3, h4, ?_, h6, h7, h8.cg rfl rfl rfl rfl⟩
  intro p hp
  obtain ⟨p1, p2, p3⟩ := h5 p hp
  exact ⟨p1, hg p hp, p3⟩
theorem RS.place {f g : Nat → Int32} (h : RS X a) (hfg : ∀ k, k < nk a → f k = g k) : RS (xf X 14 f) (af a 15 g) := by
  obtain ⟨h1, h2, h3, h4, h5, h6, h7, h8⟩ := h
  refine ⟨h1, h2, h3, h4.cg rfl (fun r => xf_ne (by omega)) rfl rfl, h5, ?_, h7, h8.cg rfl rfl rfl rfl rfl (fun t => xf_ne (by omega)) (fun t => xf_ne (by omega)) rfl rfl rfl rfl⟩
  intro k hk
  exact ⟨hfg k hk, (h6 k hk).2⟩
theorem IS.place {g : Nat → Int32} (h : IS a) (hg : ∀ k, k < nk a → iv (g k) 0 20) : IS (af a 15 g) := by
  obtain ⟨h1, h2, h3, h4, h5, h6, h7, h8⟩ := h
  refine ⟨h1, h2, h3, h4, h5, ?_, h7, h8.cg rfl rfl rfl rfl⟩
  intro k hk
  exact ⟨hg k hk, (h6 k hk).2⟩
theorem RS.tall {x : Int32} (h : RS X a) (hx : ¬ x = -1) {g : Nat → Int32} (hg : ∀ k, k < 48 → g k = x) (h6' : nr a ≤ 6) : RS (xs X 20 0 x) (af a 9 g) := by
  obtain ⟨h1, h2, h3, h4, h5, h6, h7, h8⟩ := h
  refine ⟨h1, h2, h3, ?_, h5, h6, h7, h8.cg rfl rfl rfl rfl rfl (fun t => xs_ne (by omega)) (fun t => xs_ne (by omega)) rfl rfl rfl rfl⟩
  intro r hr c hc
  have hr2 : r < nr a := hr
  rw [xs_same, pk_us, if_neg hx, af_same, hg _ (by omega)]
theorem IS.sorts {g : Nat → Int32} (h : IS a) (hg : ∀ r, r < nr a → ∀ c, c < 8 → iv (g (8 * r + c)) 0 3) : IS (af a 9 g) := by
  obtain ⟨h1, h2, h3, h4, h5, h6, h7, h8⟩ := h
  exact ⟨h1, h2, h3, fun r hr c hc => by rw [af_same]; exact hg r hr c hc, h5, h6, h7, h8.cg rfl rfl rfl rfl⟩
/-- a sitter of another sort -/
theorem RS.sit {r c : Nat} {x : Int32} (h : RS X a) (hz : X.1 20 0 = -1) (hc : c < 8) : RS (xs X (80 + 4 * r) c x) (aw a 9 (8 * r + c) x) := by
  obtain ⟨h1, h2, h3, h4, h5, h6, h7, h8⟩ := h
  have k : ∀ j, j < 80 → (xs X (80 + 4 * r) c x).1 j = X.1 j := fun j hj => xs_ne (by omega)
  have hnr : nr (aw a 9 (8 * r + c) x) = nr a := rfl
  refine ⟨?_, ?_, ?_, ?_, ?_, ?_, ?_, h8.cg (k 0 (by omega)) (k 1 (by omega)) (k 19 (by omega)) rfl (k 76 (by omega)) (fun t => xs_ne (by omega)) (fun t => xs_ne (by omega)) rfl rfl rfl rfl⟩
  · unfold RS_n at h1 ⊢
    rw [k 16 (by omega), k 17 (by omega), k 18 (by omega)]
    exact h1
  · unfold RS_k at h2 ⊢
    rw [k 8 (by omega), k 9 (by omega), k 10 (by omega)]
    exact h2
  · unfold RS_r at h3 ⊢
    rw [k 54 (by omega), k 55 (by omega), k 56 (by omega), k 57 (by omega), k 58 (by omega), k 59 (by omega), k 60 (by omega), k 61 (by omega), k 62 (by omega), k 63 (by omega)]
    exact h3
  · intro r2 hr2 c2 hc2
    rw [k 20 (by omega), aw_same, if_pos hz, upd_at]
    have h4' := h4 r2 hr2 c2 hc2
    rw [if_pos hz] at h4'
    by_cases e : r2 = r
    · subst e
      rw [xs_same, upd_at]
      by_cases e2 : c2 = c
      · rw [if_pos e2, if_pos (by omega)]
      · rw [if_neg e2, if_neg (by omega)]
        exact h4'
    · rw [xs_ne (by omega), if_neg (by omega)]
      exact h4'
  · unfold RS_p at h5 ⊢
    rw [k 11 (by omega), k 12 (by omega), k 13 (by omega), k 21 (by omega)]
    exact h5
  · unfold RS_o at h6 ⊢
    rw [k 14 (by omega), k 15 (by omega)]
    exact h6
  · unfold RS_h at h7 ⊢
    rw [k 24 (by omega), k 22 (by omega), k 23 (by omega)]
    exact h7
theorem IS.sit {r c : Nat} {x : Int32} (h : IS a) (hc : c < 8) (hx : iv x 0 3) : IS (aw a 9 (8 * r + c) x) := by
  obtain ⟨h1, h2, h3, h4, h5, h6, h7, h8⟩ := h
  refine ⟨h1, h2, h3, fun r2 hr2 c2 hc2 => ?_, h5, h6, h7, h8.cg rfl rfl rfl rfl⟩
  rw [aw_same, upd_at]
  by_cases e : 8 * r2 + c2 = 8 * r + c
  · rw [if_pos e]; exact hx
  · rw [if_neg e]; exact h4 r2 hr2 c2 hc2
/-- a hat -/
theorem RS.hat {r c : Nat} {v : Int32} (h : RS X a) (hr : r < nr a) (hc : c < 8) : RS (xs (xs (xs X 24 0 (nI r)) 22 0 (nI c)) 23 0 v) (aw (aw a 23 0 (nI (8 * r + c))) 24 0 v) := by
  obtain ⟨h1, h2, h3, h4, h5, h6, h7, h8⟩ := h
  have k : ∀ j, j ≠ 24 → j ≠ 22 → j ≠ 23 → (xs (xs (xs X 24 0 (nI r)) 22 0 (nI c)) 23 0 v).1 j = X.1 j := fun j e1 e2 e3 => by
    rw [xs_ne e3, xs_ne e2, xs_ne e1]
  refine ⟨h1, h2, h3, h4.cg rfl (fun r => k _ (by omega) (by omega) (by omega)) rfl rfl, h5, h6, .inr ⟨r, c, hr, hc, rfl, rfl, rfl, rfl⟩, h8.cg rfl rfl rfl rfl rfl (fun t => k _ (by omega) (by omega) (by omega)) (fun t => k _ (by omega) (by omega) (by omega)) rfl rfl rfl rfl⟩
theorem IS.hat {r c : Nat} {v : Int32} (h : IS a) (hv : iv v 0 40) : IS (aw (aw a 23 0 (nI (8 * r + c))) 24 0 v) := by
  obtain ⟨h1, h2, h3, h4, h5, h6, h7, h8⟩ := h
  exact ⟨h1, h2, h3, h4, h5, h6, .inr hv, h8.cg rfl rfl rfl rfl⟩
end A
end PSUP
