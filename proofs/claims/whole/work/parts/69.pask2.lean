section PASK2
/-! two states that differ in what does not last, changed alike -/
theorem q_xf {X Y : xS} {k : Nat} {f : Nat → Int32} (h : xQ X Y) : xQ (xf X k f) (xf Y k f) := by
  refine ⟨fun j hj => ?_, h.2⟩
  by_cases e : j = k
  · subst e
    rw [xf_same, xf_same]
  · rw [xf_ne e, xf_ne e]
    exact h.1 j hj
theorem q_xs {X Y : xS} {k i : Nat} {x : Int32} (hk : xcore k = true) (h : xQ X Y) : xQ (xs X k i x) (xs Y k i x) := by
  rw [xs_as, xs_as, h.1 k hk]
  exact q_xf h
theorem xf_xf {X : xS} {k : Nat} {f g : Nat → Int32} : xf (xf X k f) k g = xf X k g := by
  refine xS_ext (fun j => ?_) rfl
  by_cases h : j = k
  · subst h
    rw [xf_same, xf_same]
  · rw [xf_ne h, xf_ne h, xf_ne h]
theorem xs_xs {X : xS} {k i : Nat} {x y : Int32} : xs (xs X k i x) k i y = xs X k i y := by
  rw [xs_as, xs_as, xs_as, xf_xf, xf_same]
  congr 1
  funext j
  rw [upd_at, upd_at, upd_at]
  by_cases h : j = i
  · rw [if_pos h, if_pos h]
  · rw [if_neg h, if_neg h, if_neg h]
theorem mset_mset {M : mS} {k : Nat} {f g : Nat → Int32} : mset (mset M k f) k g = mset M k g := by
  refine mS_ext (fun j => ?_) rfl
  by_cases h : j = k
  · subst h
    rw [mset_same, mset_same]
  · rw [mset_ne h, mset_ne h, mset_ne h]
theorem e_at {M Y : mS} (h : mE M Y) {k : Nat} (hk : Nat.blt k 40 = true) : Y.1 k = M.1 k := by
  have e : mC Y k = mC M k := by rw [h.1]
  unfold mC at e
  simp only [hk, cond_true] at e
  exact e
theorem e_mset {M Y : mS} {k : Nat} {f : Nat → Int32} (hk : Nat.blt k 40 = true) (h : mE M Y) : mE (mset M k f) (mset Y k f) := by
  refine ⟨by rw [mC_mset hk, mC_mset hk, h.1], h.2.1, fun j h1 h2 => ?_⟩
  have : k < 40 := by simpa [Nat.blt_eq] using hk
  rw [mset_ne (by omega), mset_ne (by omega)]
  exact h.2.2 j h1 h2
/-- the greatest, and where first -/
def fBest (W : Nat → Int32) : Nat → Nat → Int32 → Int32 → Int32 × Int32
  | 0, _, b, m => (b, m)
  | k + 1, i, b, m => if W i ≤ m then fBest W k (i + 1) b m else fBest W k (i + 1) (nI i) (W i)
section A
variable {N : Nat} {a : aS}
theorem fStep_iv (hI : IS a) {r : Nat} (hr : r < nr a) : iv (fStep a r) (-200) 200 := by
  obtain ⟨i1, i2, i3, i4, i5, i6, i7⟩ := hI.2.2.1 r hr
  unfold fStep
  by_cases h : r = 0
  · rw [if_pos h, Int32.sub_zero]
    exact iv_mono i6 (by omega) (by omega)
  · rw [if_neg h]
    have j6 := (hI.2.2.1 (r - 1) (by omega)).2.2.2.2.2.1
    exact iv_mono (iv_sub i6 j6 (by omega) (by omega)).1 (by omega) (by omega)
def fSteep (a : aS) (m : Int32) (r : Nat) : Bool := !decide (fAbs (fStep a r) ≤ m)
theorem px_lawfulL (hI : IS a) {X : xS} (hR : RS X a) {m : Int32} : ∀ (k i n : Nat), i + k = nr a → k < n → xf_X_lawful_L15 N m n X (nI i) = some (match fFirst (fSteep a m) k i with | some x => .inl (nI x) | none => .inr ())
  | 0, i, n + 1, hk, _ => by
    have e : X.1 16 0 = nI (nr a) := hR.1.1.trans hI.1.1
    have h6 := hI.1.2.1
    rw [xf_X_lawful_L15, e, if_pos (sm_len (by omega) (by omega))]
    rfl
  | k + 1, i, n + 1, hk, hn => by
    have e : X.1 16 0 = nI (nr a) := hR.1.1.trans hI.1.1
    have h6 := hI.1.2.1
    have ih := px_lawfulL hI hR (m := m) k (i + 1) n (by omega) (by omega)
    rw [xf_X_lawful_L15, e, if_neg (sm_nle (by omega) (by omega)), px_step hR hI (show i < nr a by omega), bs1, fFirst, ← nI_succ, zsub, ih]
    have ea : (if 0 ≤ fStep a i then fStep a i else -fStep a i) = fAbs (fStep a i) := rfl
    rw [ea]
    unfold fSteep
    by_cases h1 : fAbs (fStep a i) ≤ m
    · rw [if_pos h1, decide_eq_true h1]
      rfl
    · rw [if_neg h1, decide_eq_false h1]
      rfl
theorem md_lawfulL (hI : IS a) {M : mS} (hA : mC M = a) {m : Int32} (hm : iv m 0 99) : ∀ (k i n : Nat), i + k = nr a → k < n → mf_lawful_L15 N m n M (nI i) = some (match fFirst (fSteep a m) k i with | some x => .inl (nI x) | none => .inr ())
  | 0, i, n + 1, hk, _ => by
    have e : M.1 3 0 = nI (nr a) := by rw [mA hA 3 rfl]; exact hI.1.1
    have h6 := hI.1.2.1
    rw [mf_lawful_L15, e, if_pos (sm_len (by omega) (by omega))]
    rfl
  | k + 1, i, n + 1, hk, hn => by
    have e : M.1 3 0 = nI (nr a) := by rw [mA hA 3 rfl]; exact hI.1.1
    have h6 := hI.1.2.1
    have hs := fStep_iv hI (show i < nr a by omega)
    have ih := md_lawfulL hI hA hm k (i + 1) n (by omega) (by omega)
    have hab := fAbs_le (x := fStep a i) (d := m) (by have := hs.1; omega) (by have := hs.2; omega)
    have hneg : (-m).toInt = -m.toInt := fb_negI (by have := hm.1; omega)
    rw [mf_lawful_L15, e, if_neg (sm_nle (by omega) (by omega)), md_step hA (show i < 6 by omega), bs1, fFirst, ← nI_succ, ih]
    unfold fSteep
    by_cases h1 : m < fStep a i
    · have h2 : ¬ fAbs (fStep a i) ≤ m := fun hh => by
        have := (hab.mp hh).1
        rw [fa_lt] at h1
        omega
      rw [if_pos h1, decide_eq_false h2]
      rfl
    · rw [if_neg h1, bs1]
      by_cases h3 : -m ≤ fStep a i
      · have h2 : fAbs (fStep a i) ≤ m := by
          rw [hab]
          rw [fa_lt] at h1
          rw [fa_le, hneg] at h3
          omega
        rw [if_pos h3, decide_eq_true h2]
        rfl
      · have h2 : ¬ fAbs (fStep a i) ≤ m := fun hh => by
          have := (hab.mp hh).2
          rw [fa_le, hneg] at h3
          omega
        rw [if_neg h3, decide_eq_false h2]
        rfl
theorem st_lawful {X : xS} {M : mS} (hN : 2000 ≤ N) (h : Rl X M) (m : Int32) : ∃ r, xf_X_lawful N X m = some r ∧ mf_lawful N M m = some r := by
  obtain ⟨h1, h2, h3, h4, h5⟩ := id h
  have h6 := h3.1.2.1
  unfold xf_X_lawful mf_lawful
  rw [isIn_in]
  cases hm : mf_in m 0 99 with
  | false => exact ⟨_, rfl, rfl⟩
  | true =>
    have q1 := px_lawfulL (N := N) h3 h1 (m := m) (nr (mC M)) 0 N (by omega) (by omega)
    have q2 := md_lawfulL (N := N) h3 (M := M) rfl (m := m) (in_iff.mp hm) (nr (mC M)) 0 N (by omega) (by omega)
    rw [nI_0] at q1 q2
    rw [if_pos rfl, if_pos rfl, q1, q2]
    cases fFirst (fSteep (mC M) m) (nr (mC M)) 0 with
    | none => exact ⟨_, rfl, rfl⟩
    | some x => exact ⟨_, rfl, rfl⟩
def fFlat (a : aS) (r : Nat) : Int32 := if a 7 r ≤ 0 then 0 else if fStep a r = 0 then 0 else 1
theorem px_flatL (hI : IS a) {X : xS} (hR : RS X a) : ∀ (k i n : Nat) (v : Int32), i + k = nr a → k < n → xf_X_flat_L4 N n X v (nI i) = some (fSum (fFlat a) k i v)
  | 0, i, n + 1, v, hk, _ => by
    have e : X.1 16 0 = nI (nr a) := hR.1.1.trans hI.1.1
    have h6 := hI.1.2.1
    rw [xf_X_flat_L4, e, if_pos (sm_len (by omega) (by omega))]
    rfl
  | k + 1, i, n + 1, v, hk, hn => by
    have e : X.1 16 0 = nI (nr a) := hR.1.1.trans hI.1.1
    have h6 := hI.1.2.1
    have hi : i < nr a := by omega
    have e7 := (hR.2.2.1 i hi).2.2.2.1
    have ih := fun v => px_flatL hI hR k (i + 1) n v (by omega) (by omega)
    rw [xf_X_flat_L4, e, if_neg (sm_nle (by omega) (by omega)), if_pos (sm_ok (show i < 6 by omega) (by omega)), sm_clamp (show i < 100000000 by omega), if_pos (by rw [hR.1.2.2.2]; exact hi), e7, px_step hR hI hi, bs1, fSum, ← nI_succ, ih, ih]
    unfold fFlat
    by_cases h1 : a 7 i ≤ 0
    · rw [if_pos h1, if_pos h1, Int32.add_zero]
    · rw [if_neg h1, if_neg h1]
      by_cases h2 : fStep a i = 0
      · rw [if_pos h2, if_pos h2, Int32.add_zero]
      · rw [if_neg h2, if_neg h2]
theorem md_flatL (hI : IS a) {M : mS} (hA : mC M = a) : ∀ (k i n : Nat) (v : Int32), i + k = nr a → k < n → mf_flat_L4 N n M v (nI i) = some (fSum (fFlat a) k i v)
  | 0, i, n + 1, v, hk, _ => by
    have e : M.1 3 0 = nI (nr a) := by rw [mA hA 3 rfl]; exact hI.1.1
    have h6 := hI.1.2.1
    rw [mf_flat_L4, e, if_pos (sm_len (by omega) (by omega))]
    rfl
  | k + 1, i, n + 1, v, hk, hn => by
    have e : M.1 3 0 = nI (nr a) := by rw [mA hA 3 rfl]; exact hI.1.1
    have h6 := hI.1.2.1
    have ih := fun v => md_flatL hI hA k (i + 1) n v (by omega) (by omega)
    rw [mf_flat_L4, e, if_neg (sm_nle (by omega) (by omega)), if_pos (sm_ok (show i < 6 by omega) (by omega)), sm_clamp (show i < 100000000 by omega), mA hA 7 rfl, md_step hA (show i < 6 by omega), bs1, fSum, ← nI_succ]
    unfold fFlat at ih ⊢
    by_cases h1 : a 7 i ≤ 0
    · rw [if_pos h1, if_pos h1, bs1, ih]
    · rw [if_neg h1, if_neg h1]
      by_cases h2 : fStep a i = 0
      · rw [if_pos h2, if_pos h2, bs1, ih]
      · rw [if_neg h2, if_neg h2, bs1, ih]
theorem st_flat {X : xS} {M : mS} (hN : 2000 ≤ N) (h : Rl X M) : ∃ r, xf_X_flat N X = some r ∧ mf_flat N M = some r := by
  obtain ⟨h1, h2, h3, h4, h5⟩ := id h
  have h6 := h3.1.2.1
  have q1 := px_flatL (N := N) h3 h1 (nr (mC M)) 0 N 0 (by omega) (by omega)
  have q2 := md_flatL (N := N) h3 (M := M) rfl (nr (mC M)) 0 N 0 (by omega) (by omega)
  rw [nI_0] at q1 q2
  unfold xf_X_flat mf_flat
  rw [q1, q2]
  exact ⟨_, rfl, rfl⟩
/-! sheets -/
theorem sheet_cases {X : xS} {M : mS} (h : Rl X M) (x : Int32) : (∃ s, s < 4 ∧ x = nI s ∧ mf_in x 0 3 = true ∧ X.1 4 s = mC M 37 s ∧ M.1 37 s = mC M 37 s) ∨ mf_in x 0 3 = false := by
  cases hm : mf_in x 0 3 with
  | false => exact .inr rfl
  | true =>
    obtain ⟨j, hj, rfl⟩ := in_nat (n := 3) (by omega) hm
    exact .inl ⟨j, by omega, rfl, rfl, (h.2.1.2.2.2 j (by omega)).1, rfl⟩
/-- what speaks against a sheet of rises -/
theorem rises_cases {X : xS} {M : mS} (h : Rl X M) (x : Int32) : (∃ s, s < 4 ∧ x = nI s ∧ mf_in x 0 3 = true ∧ ¬ mC M 37 s = -1 ∧ M.1 38 s = nI (nr (mC M)) ∧ xf_X_refusalOfRises N X x = some 0 ∧ ∀ r, r < nr (mC M) → X.1 (70 + s) r = mC M 39 (60 * s + r)) ∨ (∃ s, s < 4 ∧ x = nI s ∧ mf_in x 0 3 = true ∧ ¬ mC M 37 s = -1 ∧ ¬ M.1 38 s = nI (nr (mC M)) ∧ xf_X_refusalOfRises N X x = some (-2)) ∨ (∃ s, s < 4 ∧ x = nI s ∧ mf_in x 0 3 = true ∧ mC M 37 s = -1 ∧ xf_X_refusalOfRises N X x = some (-11)) ∨ (mf_in x 0 3 = false ∧ xf_X_refusalOfRises N X x = some (-2)) := by
  have hc := sheet_cases h x
  obtain ⟨h1, h2, h3, h4, h5⟩ := id h
  have h6 := h3.1.2.1
  have e : X.1 16 0 = nI (nr (mC M)) := h1.1.1.trans h3.1.1
  unfold xf_X_refusalOfRises xf_X_refusalOfSheet
  rw [isIn_in]
  rcases hc with ⟨s, hs, rfl, c1, c2, c3⟩ | c1
  · rw [c1, if_pos rfl, if_pos (sm_ok hs (by omega)), sm_clamp (show s < 100000000 by omega), c2]
    by_cases hm : mC M 37 s = -1
    · refine .inr (.inr (.inl ⟨s, hs, rfl, rfl, hm, ?_⟩))
      rw [if_pos hm]
      rfl
    · obtain ⟨s1, s2⟩ := (h2.2.2.2 s hs).2 hm
      obtain ⟨s3, s4⟩ := (h4.2.2.2.2.2.1 s hs).2 hm
      rw [if_neg hm, bs1, if_pos rfl, if_pos (sm_ok hs (by omega)), s1, e]
      by_cases hz : mC M 38 s = nI (nr (mC M))
      · refine .inl ⟨s, hs, rfl, rfl, hm, hz, by rw [if_pos hz], fun r hr => s2 r ?_⟩
        unfold ss
        rw [hz, sm_clamp (by omega)]
        exact hr
      · exact .inr (.inl ⟨s, hs, rfl, rfl, hm, hz, by rw [if_neg hz]⟩)
  · refine .inr (.inr (.inr ⟨c1, ?_⟩))
    rw [c1]
    rfl
def fThu (a : aS) (s r : Nat) : Int32 := if a 39 (60 * s + r) = a 7 r then 0 else 1
theorem px_thuL (hI : IS a) {X : xS} (hR : RS X a) {s : Nat} (hs : s < 4) (hc : ∀ r, r < nr a → X.1 (70 + s) r = a 39 (60 * s + r)) : ∀ (k i n : Nat) (v : Int32), i + k = nr a → k < n → xf_X_thursday_L17 N (nI s) n X v (nI i) = some (fSum (fThu a s) k i v)
  | 0, i, n + 1, v, hk, _ => by
    have e : X.1 16 0 = nI (nr a) := hR.1.1.trans hI.1.1
    have h6 := hI.1.2.1
    rw [xf_X_thursday_L17, e, if_pos (sm_len (by omega) (by omega))]
    rfl
  | k + 1, i, n + 1, v, hk, hn => by
    have e : X.1 16 0 = nI (nr a) := hR.1.1.trans hI.1.1
    have h6 := hI.1.2.1
    have hi : i < nr a := by omega
    have e7 := (hR.2.2.1 i hi).2.2.2.1
    have ih := fun v => px_thuL hI hR hs hc k (i + 1) n v (by omega) (by omega)
    rw [xf_X_thursday_L17, e, if_neg (sm_nle (by omega) (by omega)), if_pos (sm_ok (show i < 6 by omega) (by omega)), sm_clamp (show i < 100000000 by omega), if_pos (by rw [hR.1.2.2.2]; exact hi), if_pos (sm_ok hs (by omega)), if_pos (sm_ok (show i < 60 by omega) (by omega)), sm_clamp (show s < 100000000 by omega), e7, hc i hi, fSum, ← nI_succ, ih, ih]
    unfold fThu
    by_cases h1 : a 7 i = a 39 (60 * s + i)
    · rw [if_pos h1, if_pos h1.symm, Int32.add_zero]
    · rw [if_neg h1, if_neg (fun hh => h1 hh.symm)]
theorem md_thuL (hI : IS a) {M : mS} (hA : mC M = a) {s : Nat} (hs : s < 4) : ∀ (k i n : Nat) (v : Int32), i + k = nr a → k < n → mf_thursday_L45 N (nI s) n M v (nI i) = some (fSum (fThu a s) k i v)
  | 0, i, n + 1, v, hk, _ => by
    have e : M.1 3 0 = nI (nr a) := by rw [mA hA 3 rfl]; exact hI.1.1
    have h6 := hI.1.2.1
    rw [mf_thursday_L45, e, if_pos (sm_len (by omega) (by omega))]
    rfl
  | k + 1, i, n + 1, v, hk, hn => by
    have e : M.1 3 0 = nI (nr a) := by rw [mA hA 3 rfl]; exact hI.1.1
    have h6 := hI.1.2.1
    have ih := fun v => md_thuL hI hA hs k (i + 1) n v (by omega) (by omega)
    rw [mf_thursday_L45, e, if_neg (sm_nle (by omega) (by omega)), ix60, if_pos (sm_ok (show 60 * s + i < 240 by omega) (by omega)), if_pos (sm_ok (show i < 6 by omega) (by omega)), sm_clamp (show i < 100000000 by omega), sm_clamp (show 60 * s + i < 100000000 by omega), mA hA 7 rfl, mA hA 39 rfl, fSum, ← nI_succ, ih]
    rfl
theorem st_thursday {X : xS} {M : mS} (hN : 2000 ≤ N) (h : Rl X M) (x : Int32) : ∃ r, xf_X_thursday N X x = some r ∧ mf_thursday N M x = some r := by
  have hc := rises_cases (N := N) h x
  obtain ⟨h1, h2, h3, h4, h5⟩ := id h
  have h6 := h3.1.2.1
  have e3 : M.1 3 0 = nI (nr (mC M)) := h3.1.1
  unfold xf_X_thursday mf_thursday
  rcases hc with ⟨s, hs, rfl, c1, c2, c3, c4, c5⟩ | ⟨s, hs, rfl, c1, c2, c3, c4⟩ | ⟨s, hs, rfl, c1, c2, c3⟩ | ⟨c1, c2⟩
  · have q1 := px_thuL (N := N) h3 h1 hs c5 (nr (mC M)) 0 N 0 (by omega) (by omega)
    have q2 := md_thuL (N := N) h3 (M := M) rfl hs (nr (mC M)) 0 N 0 (by omega) (by omega)
    rw [nI_0] at q1 q2
    have c2' : ¬ M.1 37 s = -1 := c2
    rw [c4, bs1, if_pos rfl, q1, c1, if_pos rfl, if_pos (sm_ok hs (by omega)), sm_clamp (show s < 100000000 by omega), if_neg c2', c3, e3, if_pos rfl, q2]
    exact ⟨_, rfl, rfl⟩
  · have c2' : ¬ M.1 37 s = -1 := c2
    rw [c4, c1, if_pos rfl, if_pos (sm_ok hs (by omega)), sm_clamp (show s < 100000000 by omega), if_neg c2', e3, if_neg c3]
    exact ⟨_, rfl, rfl⟩
  · have c2' : M.1 37 s = -1 := c2
    rw [c3, c1, if_pos rfl, if_pos (sm_ok hs (by omega)), sm_clamp (show s < 100000000 by omega), if_pos c2']
    exact ⟨_, rfl, rfl⟩
  · rw [c1, c2]
    exact ⟨_, rfl, rfl⟩
/-- a row taken for one of a kind -/
def xk (k m : Int32) : Bool := if m = 1 then xb_Shifted k else if m = 2 then xb_Raised k else if m = 3 then xb_Inner k else if m = 4 then xb_Balcony k else if m = 5 then xb_Low k else true
theorem xk_under : ∀ j, j < 6 → ∀ m, m < 6 → xk (nI j) (nI m) = mf_isUnder (nI j) (nI m) := by decide
theorem px_kind {X : xS} (hR : RS X a) (hI : IS a) {r : Nat} (hr : r < nr a) {m : Int32} : xf_X_isOfKind N X (nI r) m = some (xk (a 4 r) m) := by
  have h6 := hI.hr6 hr
  obtain ⟨r1, r2, r3, r4, r5, r6, r7, r8, r9, r10⟩ := hR.2.2.1 r hr
  have hrr : r < X.2.2.1 := by rw [hR.1.2.2.2]; exact hr
  unfold xf_X_isOfKind xk
  rw [sm_clamp (show r < 100000000 by omega), if_pos hrr, if_pos hrr, if_pos hrr, if_pos hrr, if_pos hrr, r1]
  by_cases m1 : m = 1
  · rw [if_pos m1, if_pos m1]
  rw [if_neg m1, if_neg m1]
  by_cases m2 : m = 2
  · rw [if_pos m2, if_pos m2]
  rw [if_neg m2, if_neg m2]
  by_cases m3 : m = 3
  · rw [if_pos m3, if_pos m3]
  rw [if_neg m3, if_neg m3]
  by_cases m4 : m = 4
  · rw [if_pos m4, if_pos m4]
  rw [if_neg m4, if_neg m4]
  by_cases m5 : m = 5
  · rw [if_pos m5, if_pos m5]
  rw [if_neg m5, if_neg m5]
theorem st_taken {X : xS} {M : mS} (h : Rl X M) (x y : Int32) : ∃ r, xf_X_taken N X x y = some r ∧ mf_taken N M x y = some r := by
  have hp := point_cases h x
  have hr' := rowAt_cases (N := N) h (x - 6)
  obtain ⟨h1, h2, h3, h4, h5⟩ := id h
  have h6 := h3.1.2.1
  have h62 := h3.1.2.2.2.1
  have e3 : M.1 3 0 = nI (nr (mC M)) := h3.1.1
  have e10 : M.1 10 0 = nI (np (mC M)) := h3.1.2.2.1
  unfold xf_X_taken mf_taken
  rw [isIn_in, isIn_in]
  cases hy : mf_in y 0 6 with
  | false => exact ⟨_, rfl, rfl⟩
  | true =>
    cases hx : mf_in x 0 11 with
    | false => exact ⟨_, rfl, rfl⟩
    | true =>
      rw [if_pos rfl, if_pos rfl, if_pos rfl, if_pos rfl]
      obtain ⟨m, hm, rfl⟩ := in_nat (n := 6) (by omega) hy
      obtain ⟨j, hj, rfl⟩ := in_nat (n := 11) (by omega) hx
      have e6 : (6 : Int32) ≤ nI j ↔ 6 ≤ j := sm_le (n := 6) (by omega) (by omega)
      have em : (6 : Int32) ≤ nI m ↔ 6 ≤ m := sm_le (n := 6) (by omega) (by omega)
      have em6 : nI m = 6 ↔ m = 6 := sm_eq (m := 6) (by omega) (by omega)
      by_cases hj6 : 6 ≤ j
      · have es : nI j - 6 = nI (j - 6) := pk_sub (b := 6) hj6
        rw [if_pos (e6.mpr hj6), if_pos (e6.mpr hj6), es, e3]
        rw [es] at hr'
        rcases hr' with ⟨r, hr, er, q1, q2⟩ | ⟨q1, q2⟩
        · have ejr : j - 6 = r := (sm_eq (by omega) (by omega)).mp er
          rw [ejr] at q1 ⊢
          obtain ⟨r1, r2, r3, r4, r5, r6, r7, r8, r9, r10⟩ := h1.2.2.1 r hr
          rw [q1, bs1, if_neg (nI_pos (by omega)), if_pos ((sm_lt (by omega) (by omega)).mpr hr), px_kind h1 h3 hr, bs1, sm_clamp (show r < 100000000 by omega), if_pos (sm_ok (show r < 6 by omega) (by omega))]
          by_cases hm6 : m = 6
          · rw [if_pos (em6.mpr hm6), if_pos (em.mpr (by omega)), if_neg (by decide)]
            exact ⟨_, rfl, rfl⟩
          · rw [if_neg (fun hh => hm6 (em6.mp hh)), if_pos rfl, if_neg (show ¬ (6 : Int32) ≤ nI m from fun hh => hm6 (by have := em.mp hh; omega))]
            obtain ⟨kj, hkj, ekj, _⟩ := iv_ex (hi := 5) (h3.2.2.1 r hr).1
            have eu := xk_under kj (by omega) m (by omega)
            have e4 : M.1 4 r = nI kj := ekj
            rw [ekj, eu, e4]
            cases mf_isUnder (nI kj) (nI m) with
            | false => exact ⟨_, rfl, rfl⟩
            | true =>
              rw [if_pos rfl, if_pos rfl, if_pos (by rw [h1.1.2.2.2]; exact hr), r2]
              exact ⟨_, rfl, rfl⟩
        · have hn : ¬ nI (j - 6) < nI (nr (mC M)) := fun hh => by
            have hlt := (sm_lt (by omega) (by omega)).mp hh
            unfold mf_isRow at q2
            rw [e3] at q2
            rcases cnt_cases (nI (j - 6)) (n := nr (mC M)) (by omega) with ⟨_, _, _, c1, _⟩ | ⟨_, c2 | ⟨_, _, c4⟩⟩
            · rw [c1] at q2
              exact nomatch q2
            · exact nI_pos (by omega) c2
            · exact c4 hh
          rw [q1, if_neg hn]
          exact ⟨_, rfl, rfl⟩
      · rw [if_neg (fun hh => hj6 (e6.mp hh)), if_neg (fun hh => hj6 (e6.mp hh)), e10]
        rcases hp with ⟨p, hp, ep, q1, q2⟩ | ⟨q1, q2⟩
        · have ejp : j = p := (sm_eq (by omega) (by omega)).mp ep
          subst ejp
          have e12 : X.1 12 j = M.1 12 j := by
            have := (h1.2.2.2.2.1 j hp).2.1
            rw [h2.1.2.1, Int32.add_zero] at this
            exact this
          rw [q1, if_pos rfl, if_pos ((sm_lt (by omega) (by omega)).mpr hp), if_pos (sm_ok (show j < 6 by omega) (by omega)), sm_clamp (show j < 100000000 by omega), if_pos (sm_ok (show j < 6 by omega) (by omega)), e12]
          by_cases hm6 : m = 6
          · rw [if_pos (em6.mpr hm6), if_pos (em6.mpr hm6), if_neg (by decide)]
            exact ⟨_, rfl, rfl⟩
          · rw [if_neg (fun hh => hm6 (em6.mp hh)), if_neg (fun hh => hm6 (em6.mp hh)), if_pos rfl]
            exact ⟨_, rfl, rfl⟩
        · have hn : ¬ nI j < nI (np (mC M)) := fun hh => by
            rw [e10] at q2
            rcases cnt_cases (nI j) (n := np (mC M)) (by omega) with ⟨_, _, _, c1, _⟩ | ⟨_, c2 | ⟨_, _, c4⟩⟩
            · rw [c1] at q2
              exact nomatch q2
            · exact nI_pos (by omega) c2
            · exact c4 hh
          rw [q1, if_neg hn]
          exact ⟨_, rfl, rfl⟩
end A
end PASK2
