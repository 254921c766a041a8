section PPERM
/-! what holds between two calls -/
def tp (a : aS) : Nat := (a 18 0).toNatClampNeg
def ss (a : aS) (s : Nat) : Nat := (a 38 s).toNatClampNeg
def imr (a : aS) : Nat := (a 26 0).toNatClampNeg
def imk (a : aS) : Nat := (a 27 0).toNatClampNeg
def iml (a : aS) : Nat := (a 28 0).toNatClampNeg
def RZ (X : xS) : Prop := X.1 20 0 = -1 ∧ X.1 21 0 = 0 ∧ X.1 24 0 = -1
def RT_tape (X : xS) (a : aS) : Prop := X.1 2 0 = a 18 0 ∧ ∀ i, i < tp a → X.1 3 i = (a 17 i).toInt8.toInt32
def RT_img (X : xS) (a : aS) : Prop := X.1 26 0 = a 25 0 ∧ (¬ a 25 0 = 0 → X.1 28 0 = a 26 0 ∧ X.1 29 0 = a 27 0 ∧ X.1 27 0 = a 28 0 ∧ (∀ k, k < 4 → X.1 32 k = a 29 k ∧ X.1 33 k = a 30 k ∧ X.1 34 k = a 31 k) ∧ (∀ r, r < imr a → X.1 30 r = a 32 r ∧ (X.1 37 0 >>> (nI r &&& 31)) &&& 1 = a 33 r ∧ ∀ c, c < 8 → X.1 31 (8 * r + c) = a 34 (8 * r + c)) ∧ ∀ k, k < imk a → X.1 35 k = a 35 k ∧ X.1 36 k = a 36 k)
def RT_sh (X : xS) (a : aS) : Prop := ∀ s, s < 4 → X.1 4 s = a 37 s ∧ (¬ a 37 s = -1 → X.1 5 s = a 38 s ∧ ∀ i, i < ss a s → X.1 (70 + s) i = a 39 (60 * s + i))
def RT (X : xS) (a : aS) : Prop := RZ X ∧ RT_tape X a ∧ RT_img X a ∧ RT_sh X a
def IP_img (a : aS) : Prop := ¬ a 25 0 = 0 → a 26 0 = nI (imr a) ∧ imr a ≤ nr a ∧ a 27 0 = nI (imk a) ∧ imk a ≤ nk a ∧ a 28 0 = nI (iml a) ∧ iml a < nt a ∧ (∀ k, k < 4 → iv (a 29 k) 0 40 ∧ iv (a 30 k) 0 40 ∧ iv (a 31 k) 0 9) ∧ (∀ r, r < imr a → iv (a 32 r) 0 99 ∧ iv (a 33 r) 0 1 ∧ ∀ c, c < 8 → iv (a 34 (8 * r + c)) 0 3) ∧ ∀ k, k < imk a → iv (a 35 k) 0 20 ∧ iv (a 36 k) 1 69
def IP_tape (a : aS) : Prop := a 18 0 = nI (tp a) ∧ tp a ≤ 160 ∧ ∀ i, i < tp a → iv (a 17 i) 0 255
def IP_sh (a : aS) : Prop := ∀ s, s < 4 → iv (a 37 s) (-1) 2 ∧ (¬ a 37 s = -1 → a 38 s = nI (ss a s) ∧ ss a s ≤ 60)
def IP_z (a : aS) : Prop := ∀ r, nr a ≤ r → r < 6 → a 7 r = 0 ∧ a 8 r = 0 ∧ ∀ c, c < 8 → a 9 (8 * r + c) = 0
def IP (a : aS) : Prop := (∀ r, r < nr a → iv (a 7 r) 0 99) ∧ (∀ p, p < np a → iv (a 12 p) 0 60) ∧ a 23 0 = -1 ∧ IP_tape a ∧ IP_img a ∧ IP_sh a ∧ IP_z a
def Rl (X : xS) (M : mS) : Prop := RS X (mC M) ∧ RT X (mC M) ∧ IS (mC M) ∧ IP (mC M) ∧ M.2 44 = mM0.2 44
theorem RT.frameL {X X1 : xS} {a : aS} (h : RT X a) (hq : xL X X1) : RT X1 a := by
  obtain ⟨h1, h2, h3, h4⟩ := h
  obtain ⟨q1, q2⟩ := hq
  have k : ∀ j, xcoreL j = true → X1.1 j = X.1 j := q1
  refine ⟨?_, ?_, ?_, ?_⟩
  · unfold RZ at h1 ⊢
    rw [k 20 rfl, k 21 rfl, k 24 rfl]
    exact h1
  · unfold RT_tape at h2 ⊢
    rw [k 2 rfl, k 3 rfl]
    exact h2
  · unfold RT_img at h3 ⊢
    rw [k 26 rfl, k 27 rfl, k 28 rfl, k 29 rfl, k 30 rfl, k 31 rfl, k 32 rfl, k 33 rfl, k 34 rfl, k 35 rfl, k 36 rfl, k 37 rfl]
    exact h3
  · intro s hs
    have e : X1.1 (70 + s) = X.1 (70 + s) := by
      have : s = 0 ∨ s = 1 ∨ s = 2 ∨ s = 3 := by omega
      rcases this with rfl | rfl | rfl | rfl
      · exact k 70 rfl
      · exact k 71 rfl
      · exact k 72 rfl
      · exact k 73 rfl
    rw [k 4 rfl, k 5 rfl, e]
    exact h4 s hs
theorem Rl.sameL {X X1 : xS} {M M1 : mS} (h : Rl X M) (hx : xL X X1) (hm : mL M M1) : Rl X1 M1 := by
  obtain ⟨h1, h2, h3, h4, h5⟩ := h
  unfold Rl
  rw [hm.1]
  exact ⟨h1.frameL hx, h2.frameL hx, h3, h4, hm.2.trans h5⟩
theorem Rl.same {X X1 : xS} {M M1 : mS} (h : Rl X M) (hx : xQ X X1) (hm : mE M M1) : Rl X1 M1 := h.sameL hx.l hm.l
/-! arguments -/
theorem isIn_in (x l h : Int32) : xf_X_isIn x l h = mf_in x l h := rfl
theorem in_iff {x l h : Int32} : mf_in x l h = true ↔ iv x l.toInt h.toInt := by
  unfold mf_in iv
  by_cases h1 : x < l
  · rw [if_pos h1]
    rw [fa_lt] at h1
    constructor
    · intro hh; exact nomatch hh
    · intro hh; exact absurd hh.1 (by omega)
  · rw [if_neg h1]
    rw [fa_lt] at h1
    by_cases h2 : h < x
    · rw [if_pos h2]
      rw [fa_lt] at h2
      constructor
      · intro hh; exact nomatch hh
      · intro hh; exact absurd hh.2 (by omega)
    · rw [if_neg h2]
      rw [fa_lt] at h2
      constructor
      · intro hh; exact ⟨by omega, by omega⟩
      · intro hh; rfl
theorem in_nat {x : Int32} {n : Nat} (hn : n < 100000000) (h : mf_in x 0 (nI n) = true) : ∃ j, j ≤ n ∧ x = nI j := by
  have h1 := in_iff.mp h
  rw [nI_toInt (by omega), toI_0] at h1
  obtain ⟨j, hj, e, _⟩ := iv_ex (hi := n) h1
  exact ⟨j, hj, e⟩
theorem in_of {j n : Nat} (h : j ≤ n) (hn : n < 100000000) : mf_in (nI j) 0 (nI n) = true := by
  rw [in_iff]
  unfold iv
  rw [nI_toInt (by omega), nI_toInt (by omega), toI_0]
  omega
/-- a number below a count, or not -/
theorem cnt_cases (x : Int32) {n : Nat} (hn : n < 100000000) : (∃ j, j < n ∧ x = nI j ∧ mf_in x 0 (nI n - 1) = true ∧ ¬ x < 0 ∧ ¬ nI n ≤ x ∧ x < nI n) ∨ (mf_in x 0 (nI n - 1) = false ∧ (x < 0 ∨ (¬ x < 0 ∧ nI n ≤ x ∧ ¬ x < nI n))) := by
  have hm1 : (nI n - 1).toInt = (n : Int) - 1 := by
    have : (1 : Int32) = nI 1 := rfl
    rw [this, pk_sub_toInt (by omega) (by omega)]
    rfl
  have ht : (nI n).toInt = n := nI_toInt (by omega)
  have hf : ∀ {b : Bool}, (b = true → False) → b = false := fun {b} h => by cases b with | false => rfl | true => exact (h rfl).elim
  rcases pk_ix x (n := n) (by omega) with h | h | ⟨j, hj, rfl⟩
  · refine .inr ⟨hf (fun hh => ?_), .inl h⟩
    have := in_iff.mp hh
    rw [fa_lt] at h
    have := this.1
    omega
  · rw [fa_le, ht] at h
    refine .inr ⟨hf (fun hh => ?_), .inr ⟨?_, ?_, ?_⟩⟩
    · have := in_iff.mp hh
      have := this.2
      rw [hm1] at this
      omega
    · rw [fa_lt, toI_0]; omega
    · rw [fa_le, ht]; exact h
    · rw [fa_lt, ht]; omega
  · refine .inl ⟨j, hj, rfl, ?_, nI_pos (by omega), sm_nle hj (by omega), (sm_lt (by omega) (by omega)).mpr hj⟩
    rw [in_iff]
    unfold iv
    rw [hm1, nI_toInt (by omega), toI_0]
    omega
section A
variable {N : Nat} {X : xS} {M : mS}
theorem rowAt_cases (h : Rl X M) (x : Int32) : (∃ r, r < nr (mC M) ∧ x = nI r ∧ xf_H_rowAt N X x = some (nI r) ∧ mf_isRow M x = true) ∨ (xf_H_rowAt N X x = some (-1) ∧ mf_isRow M x = false) := by
  obtain ⟨h1, h2, h3, h4, h5⟩ := h
  have e3 : M.1 3 0 = nI (nr (mC M)) := h3.1.1
  have e16 : X.1 16 0 = nI (nr (mC M)) := h1.1.1.trans h3.1.1
  have h6 := h3.1.2.1
  unfold xf_H_rowAt mf_isRow
  rw [e3, e16]
  rcases cnt_cases x (n := nr (mC M)) (by omega) with ⟨j, hj, rfl, c1, c2, c3, c4⟩ | ⟨c1, c2 | ⟨c2, c3, c4⟩⟩
  · exact .inl ⟨j, hj, rfl, by rw [if_neg c2, if_neg c3, if_pos (sm_ok (show j < 6 by omega) (by omega)), sm_clamp (show j < 100000000 by omega), if_pos (by rw [h1.1.2.2.2]; exact hj)], c1⟩
  · exact .inr ⟨by rw [if_pos c2], c1⟩
  · exact .inr ⟨by rw [if_neg c2, if_pos c3], c1⟩
theorem seat_cases (h : Rl X M) (x y : Int32) : (∃ r c, r < nr (mC M) ∧ c < ns (mC M) r ∧ c < 8 ∧ x = nI r ∧ y = nI c ∧ xf_H_rowWith N X x y = some (nI r) ∧ mf_isSeat N M x y = some true) ∨ (xf_H_rowWith N X x y = some (-1) ∧ mf_isSeat N M x y = some false) := by
  have hh := rowAt_cases (N := N) h x
  obtain ⟨h1, h2, h3, h4, h5⟩ := h
  unfold xf_H_rowWith mf_isSeat
  rcases hh with ⟨r, hr, rfl, q1, q2⟩ | ⟨q1, q2⟩
  · have h6 := h3.1.2.1
    obtain ⟨i1, i2, i3, i4, i5, i6, i7⟩ := h3.2.2.1 r hr
    have e56 : X.1 56 r = nI (ns (mC M) r) := (h1.2.2.1 r hr).2.2.1.trans i2
    have e5 : M.1 5 r = nI (ns (mC M) r) := i2
    have hrr : r < X.2.2.1 := by rw [h1.1.2.2.2]; exact hr
    rw [q1, bs1, q2, if_neg (nI_pos (by omega) : ¬ nI r < 0), sm_clamp (show r < 100000000 by omega), if_pos hrr, e56, if_pos rfl, if_pos rfl, if_pos (sm_ok (show r < 6 by omega) (by omega)), sm_clamp (show r < 100000000 by omega), e5]
    rcases cnt_cases y (n := ns (mC M) r) (by omega) with ⟨j, hj, rfl, c1, c2, c3, c4⟩ | ⟨c1, c2 | ⟨c2, c3, c4⟩⟩
    · exact .inl ⟨r, j, hr, hj, by omega, rfl, rfl, by rw [if_neg c2, if_neg c3], by rw [if_pos c1]⟩
    · exact .inr ⟨by rw [if_pos c2], by rw [c1]; rfl⟩
    · exact .inr ⟨by rw [if_neg c2, if_pos c3], by rw [c1]; rfl⟩
  · refine .inr ⟨?_, ?_⟩
    · rw [q1, bs1]
      rfl
    · rw [q2]
      rfl
theorem point_cases (h : Rl X M) (x : Int32) : (∃ p, p < np (mC M) ∧ x = nI p ∧ xf_X_isPoint X x = true ∧ mf_in x 0 (M.1 10 0 - 1) = true) ∨ (xf_X_isPoint X x = false ∧ mf_in x 0 (M.1 10 0 - 1) = false) := by
  obtain ⟨h1, h2, h3, h4, h5⟩ := h
  have e3 : M.1 10 0 = nI (np (mC M)) := h3.1.2.2.1
  have e16 : X.1 17 0 = nI (np (mC M)) := h1.1.2.1.trans h3.1.2.2.1
  have h6 := h3.1.2.2.2.1
  unfold xf_X_isPoint
  rw [e3, e16]
  rcases cnt_cases x (n := np (mC M)) (by omega) with ⟨j, hj, rfl, c1, c2, c3, c4⟩ | ⟨c1, c2 | ⟨c2, c3, c4⟩⟩
  · exact .inl ⟨j, hj, rfl, by rw [if_neg c2, if_neg c3], c1⟩
  · exact .inr ⟨by rw [if_pos c2], c1⟩
  · exact .inr ⟨by rw [if_neg c2, if_pos c3], c1⟩
theorem post_cases (h : Rl X M) (x : Int32) : (∃ p, p < nk (mC M) ∧ x = nI p ∧ xf_X_isPost X x = true ∧ mf_in x 0 (M.1 14 0 - 1) = true) ∨ (xf_X_isPost X x = false ∧ mf_in x 0 (M.1 14 0 - 1) = false) := by
  obtain ⟨h1, h2, h3, h4, h5⟩ := h
  have e3 : M.1 14 0 = nI (nk (mC M)) := h3.1.2.2.2.2.1
  have e16 : X.1 18 0 = nI (nk (mC M)) := h1.1.2.2.1.trans h3.1.2.2.2.2.1
  have h6 := h3.1.2.2.2.2.2
  unfold xf_X_isPost
  rw [e3, e16]
  rcases cnt_cases x (n := nk (mC M)) (by omega) with ⟨j, hj, rfl, c1, c2, c3, c4⟩ | ⟨c1, c2 | ⟨c2, c3, c4⟩⟩
  · exact .inl ⟨j, hj, rfl, by rw [if_neg c2, if_neg c3], c1⟩
  · exact .inr ⟨by rw [if_pos c2], c1⟩
  · exact .inr ⟨by rw [if_neg c2, if_pos c3], c1⟩
/-! the calls that only ask -/
theorem st_count (h : Rl X M) (x : Int32) : xf_X_count X x = mf_count M x := by
  obtain ⟨h1, h2, h3, h4, h5⟩ := h
  unfold xf_X_count mf_count
  rw [h1.1.1, h1.1.2.1, h1.1.2.2.1, h1.2.2.2.2.2.2.2.1, h1.2.2.2.2.2.2.2.2.1, h2.2.1.1]
  rfl
theorem st_told (h : Rl X M) (x y z : Int32) : ∃ r, xf_X_told N X x y z = some r ∧ mf_told N M x y z = some r := by
  have hh := seat_cases (N := N) h x y
  obtain ⟨h1, h2, h3, h4, h5⟩ := h
  unfold xf_X_told mf_told
  rcases hh with ⟨r, c, hr, hc, hc8, rfl, rfl, q1, q2⟩ | ⟨q1, q2⟩
  · have h6 := h3.hr6 hr
    obtain ⟨r1, r2, r3, r4, r5, r6, r7, r8, r9, r10⟩ := h1.2.2.1 r hr
    have hrr : r < X.2.2.1 := by rw [h1.1.2.2.2]; exact hr
    rw [q1, q2, bs1, bs1, if_neg (nI_pos (by omega)), if_pos rfl]
    rw [sm_clamp (show r < 100000000 by omega), sm_clamp (show c < 100000000 by omega), if_pos hrr, if_pos (sm_ok h6 (by omega)), if_pos hrr, if_pos hrr, if_pos hrr, if_pos hrr, if_pos (sm_ok hc8 (by omega)), if_pos hrr, px_place h1 h3 hr, px_floor h1 h3 hr, px_eyes h1 h3 hr hc8, px_top h1 h3 hr hc8, md_place rfl h6, md_floor rfl h6, md_far rfl h6, md_eyes rfl h3 hr hc8, md_top rfl h3 hr hc8, md_among rfl h6, ix8, if_pos (sm_ok (show 8 * r + c < 48 by omega) (by omega)), sm_clamp (show 8 * r + c < 100000000 by omega), r1, px_far h1 hr]
    simp only [bs1]
    by_cases z0 : z = 0
    · rw [if_pos z0, if_pos z0]; exact ⟨_, rfl, rfl⟩
    rw [if_neg z0, if_neg z0]
    by_cases z1 : z = 1
    · rw [if_pos z1, if_pos z1]; exact ⟨_, rfl, rfl⟩
    rw [if_neg z1, if_neg z1]
    by_cases z2 : z = 2
    · rw [if_pos z2, if_pos z2]; exact ⟨_, rfl, rfl⟩
    rw [if_neg z2, if_neg z2]
    by_cases z3 : z = 3
    · rw [if_pos z3, if_pos z3]; exact ⟨_, rfl, rfl⟩
    rw [if_neg z3, if_neg z3]
    by_cases z4 : z = 4
    · rw [if_pos z4, if_pos z4]
      have e9 := h1.2.2.2.1 r hr c hc8
      rw [if_pos h2.1.1] at e9
      rw [← e9]
      exact ⟨_, rfl, rfl⟩
    rw [if_neg z4, if_neg z4]
    by_cases z5 : z = 5
    · rw [if_pos z5, if_pos z5]; exact ⟨_, rfl, rfl⟩
    rw [if_neg z5, if_neg z5]
    by_cases z6 : z = 6
    · rw [if_pos z6, if_pos z6]; exact ⟨_, rfl, rfl⟩
    rw [if_neg z6, if_neg z6]
    by_cases z7 : z = 7
    · rw [if_pos z7, if_pos z7]
      cases ha : fAmong (mC M) r with
      | false => rw [if_pos ((px_among h1 hr).mpr ha)]; exact ⟨_, rfl, rfl⟩
      | true =>
        have hnb : ¬ X.1 63 r = 0 := fun hh => by
          have := (px_among h1 hr).mp hh
          rw [ha] at this
          exact nomatch this
        rw [if_neg hnb]; exact ⟨_, rfl, rfl⟩
    rw [if_neg z7, if_neg z7]
    exact ⟨_, rfl, rfl⟩
  · rw [q1, q2]
    exact ⟨_, rfl, rfl⟩
theorem st_hidden (hN : 2000 ≤ N) (h : Rl X M) (x y z : Int32) : ∃ r X1, xf_X_hidden N X x y z = some (r, X1) ∧ mf_hidden N M x y z = some r ∧ Rl X1 M := by
  have hh := seat_cases (N := N) h x y
  have hp := point_cases h z
  obtain ⟨h1, h2, h3, h4, h5⟩ := id h
  unfold xf_X_hidden mf_hidden
  rcases hh with ⟨r, c, hr, hc, hc8, rfl, rfl, q1, q2⟩ | ⟨q1, q2⟩
  · have h6 := h3.hr6 hr
    rw [q1, q2, bs1, bs1, if_neg (nI_pos (by omega)), if_pos rfl]
    rcases hp with ⟨p, hp, rfl, p1, p2⟩ | ⟨p1, p2⟩
    · obtain ⟨X1, w1, w2⟩ := px_hider hN h1 h3 hr hc8 hp
      rw [p1, p2, if_pos rfl, if_pos rfl, w1, bs2, md_hider hN rfl h3 hr hc8 (h3.hp6 hp)]
      exact ⟨_, X1, rfl, rfl, h.same w2 (mE.refl M)⟩
    · rw [p1, p2]
      exact ⟨_, X, rfl, rfl, h⟩
  · rw [q1, q2]
    exact ⟨_, X, rfl, rfl, h⟩
theorem st_sees (hN : 2000 ≤ N) (h : Rl X M) (x y : Int32) : ∃ r X1, xf_X_sees N X x y = some (r, X1) ∧ mf_sees N M x y = some r ∧ Rl X1 M := by
  have hh := seat_cases (N := N) h x y
  obtain ⟨h1, h2, h3, h4, h5⟩ := id h
  unfold xf_X_sees mf_sees
  rcases hh with ⟨r, c, hr, hc, hc8, rfl, rfl, q1, q2⟩ | ⟨q1, q2⟩
  · have h6 := h3.hr6 hr
    obtain ⟨X1, w1, w2⟩ := px_sees hN h3 h1 hr hc8
    rw [q1, q2, bs1, bs1, if_neg (nI_pos (by omega)), if_pos rfl, w1, md_sees hN h3 rfl hr hc8]
    exact ⟨_, X1, rfl, rfl, h.same w2 (mE.refl M)⟩
  · rw [q1, q2]
    exact ⟨_, X, rfl, rfl, h⟩
theorem st_worth (hN : 2000 ≤ N) (h : Rl X M) (x y : Int32) : ∃ r X1 M1, xf_X_worth N X x y = some (r, X1) ∧ mf_worth N M x y = some (r, M1) ∧ Rl X1 M1 := by
  have hh := seat_cases (N := N) h x y
  obtain ⟨h1, h2, h3, h4, h5⟩ := id h
  unfold xf_X_worth mf_worth
  rcases hh with ⟨r, c, hr, hc, hc8, rfl, rfl, q1, q2⟩ | ⟨q1, q2⟩
  · have h6 := h3.hr6 hr
    obtain ⟨X1, w1, w2⟩ := px_worth hN h3 h1 hr hc8
    obtain ⟨M1, m1, m2⟩ := md_worth hN h3 (M := M) rfl hr hc8
    rw [q1, q2, bs1, bs1, if_neg (nI_pos (by omega)), if_pos rfl, w1, m1]
    exact ⟨_, X1, M1, rfl, rfl, h.same w2 m2⟩
  · rw [q1, q2]
    exact ⟨_, X, M, rfl, rfl, h⟩
theorem st_price (hN : 2000 ≤ N) (h : Rl X M) (x y : Int32) : ∃ r X1 M1, xf_X_price N X x y = some (r, X1) ∧ mf_price N M x y = some (r, M1) ∧ Rl X1 M1 := by
  have hh := seat_cases (N := N) h x y
  obtain ⟨h1, h2, h3, h4, h5⟩ := id h
  unfold xf_X_price mf_price
  rcases hh with ⟨r, c, hr, hc, hc8, rfl, rfl, q1, q2⟩ | ⟨q1, q2⟩
  · have h6 := h3.hr6 hr
    obtain ⟨X1, w1, w2⟩ := px_price hN h3 h1 hr hc8
    obtain ⟨M1, m1, m2⟩ := md_price hN h3 (M := M) rfl hr hc8
    rw [q1, q2, bs1, bs1, if_neg (nI_pos (by omega)), if_pos rfl, w1, m1]
    exact ⟨_, X1, M1, rfl, rfl, h.same w2 m2⟩
  · rw [q1, q2]
    exact ⟨_, X, M, rfl, rfl, h⟩
theorem st_cost (hN : 2000 ≤ N) (h : Rl X M) : ∃ r X1 M1, xf_X_cost N X = some (r, X1) ∧ mf_cost N M = some (r, M1) ∧ Rl X1 M1 := by
  obtain ⟨h1, h2, h3, h4, h5⟩ := id h
  obtain ⟨X1, w1, w2⟩ := px_cost hN h3 h1
  obtain ⟨M1, m1, m2⟩ := md_cost hN h3 (M := M) rfl
  unfold xf_X_cost
  rw [w1, m1]
  exact ⟨_, X1, M1, rfl, rfl, h.same w2 m2⟩
end A
end PPERM
