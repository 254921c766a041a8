section PSET
/-! what a change leaves alone -/
section A
variable {X X1 : xS} {a b : aS}
theorem nr_cg (h : b 3 = a 3) : nr b = nr a := by unfold nr; rw [h]
theorem np_cg (h : b 10 = a 10) : np b = np a := by unfold np; rw [h]
theorem nk_cg (h : b 14 = a 14) : nk b = nk a := by unfold nk; rw [h]
theorem nt_cg (h : b 21 = a 21) : nt b = nt a := by unfold nt; rw [h]
theorem RS.cg (h : RS X a) (hx : ∀ j, (j < 26 ∨ 54 ≤ j) → xcoreL j = true → X1.1 j = X.1 j) (h2 : X1.2.2 = X.2.2) (hb : ∀ j, j ≤ 24 → b j = a j) : RS X1 b := by
  have e3 : nr b = nr a := nr_cg (hb 3 (by omega))
  have e10 : np b = np a := np_cg (hb 10 (by omega))
  have e14 : nk b = nk a := nk_cg (hb 14 (by omega))
  have k : ∀ j, (j < 26 ∨ 54 ≤ j) → xcoreL j = true → X1.1 j = X.1 j := hx
  obtain ⟨g1, g2, g3, g4, g5, g6, g7, g8⟩ := h
  refine ⟨?_, ?_, ?_, g4.cg (by rw [k 20 (by omega) rfl]) (fun r => k _ (by omega) (xcoreL_row r)) (hb 9 (by omega)) e3, ?_, ?_, ?_, g8.cg (k 0 (by omega) rfl) (k 1 (by omega) rfl) (k 19 (by omega) rfl) (by rw [h2]) (k 76 (by omega) rfl) (fun t => k _ (by omega) (xcoreL_ends t)) (fun t => k _ (by omega) (xcoreL_steps t)) (hb 19 (by omega)) (hb 20 (by omega)) (hb 21 (by omega)) (hb 22 (by omega))⟩
  · unfold RS_n at g1 ⊢
    rw [k 16 (by omega) rfl, k 17 (by omega) rfl, k 18 (by omega) rfl, h2, e3, hb 3 (by omega), hb 10 (by omega), hb 14 (by omega)]
    exact g1
  · unfold RS_k at g2 ⊢
    rw [k 8 (by omega) rfl, k 9 (by omega) rfl, k 10 (by omega) rfl, hb 0 (by omega), hb 1 (by omega), hb 2 (by omega)]
    exact g2
  · unfold RS_r at g3 ⊢
    rw [k 54 (by omega) rfl, k 55 (by omega) rfl, k 56 (by omega) rfl, k 57 (by omega) rfl, k 58 (by omega) rfl, k 59 (by omega) rfl, k 60 (by omega) rfl, k 61 (by omega) rfl, k 62 (by omega) rfl, k 63 (by omega) rfl, e3, hb 4 (by omega), hb 5 (by omega), hb 6 (by omega), hb 7 (by omega), hb 8 (by omega)]
    exact g3
  · unfold RS_p at g5 ⊢
    rw [k 11 (by omega) rfl, k 12 (by omega) rfl, k 13 (by omega) rfl, k 21 (by omega) rfl, e10, hb 11 (by omega), hb 12 (by omega), hb 13 (by omega)]
    exact g5
  · unfold RS_o at g6 ⊢
    rw [k 14 (by omega) rfl, k 15 (by omega) rfl, e14, hb 15 (by omega), hb 16 (by omega)]
    exact g6
  · unfold RS_h at g7 ⊢
    rw [k 24 (by omega) rfl, k 22 (by omega) rfl, k 23 (by omega) rfl, e3, hb 23 (by omega), hb 24 (by omega)]
    exact g7
theorem IS.cg (h : IS a) (hb : ∀ j, j ≤ 24 → b j = a j) : IS b := by
  have e3 : nr b = nr a := nr_cg (hb 3 (by omega))
  have e10 : np b = np a := np_cg (hb 10 (by omega))
  have e14 : nk b = nk a := nk_cg (hb 14 (by omega))
  have e5 : ∀ r, ns b r = ns a r := fun r => by unfold ns; rw [hb 5 (by omega)]
  obtain ⟨g1, g2, g3, g4, g5, g6, g7, g8⟩ := h
  refine ⟨?_, ?_, ?_, ?_, ?_, ?_, ?_, g8.cg (hb 19 (by omega)) (hb 20 (by omega)) (hb 21 (by omega)) (hb 22 (by omega))⟩
  · unfold IS_n at g1 ⊢
    rw [e3, e10, e14, hb 3 (by omega), hb 10 (by omega), hb 14 (by omega)]
    exact g1
  · unfold IS_k at g2 ⊢
    rw [hb 0 (by omega), hb 1 (by omega), hb 2 (by omega)]
    exact g2
  · intro r hr
    rw [hb 4 (by omega), hb 5 (by omega), hb 6 (by omega), hb 7 (by omega), hb 8 (by omega), e5]
    exact g3 r (by rw [← e3]; exact hr)
  · unfold IS_s at g4 ⊢
    rw [e3, hb 9 (by omega)]
    exact g4
  · unfold IS_p at g5 ⊢
    rw [e10, hb 11 (by omega), hb 12 (by omega), hb 13 (by omega)]
    exact g5
  · unfold IS_o at g6 ⊢
    rw [e14, hb 15 (by omega), hb 16 (by omega)]
    exact g6
  · unfold IS_h at g7 ⊢
    rw [hb 23 (by omega), hb 24 (by omega)]
    exact g7
theorem RT.cg2 (h : RT X a) (h1 : ∀ j, (j = 2 ∨ j = 3 ∨ j = 4 ∨ j = 5 ∨ j = 20 ∨ j = 21 ∨ j = 24 ∨ (26 ≤ j ∧ j ≤ 37) ∨ (70 ≤ j ∧ j ≤ 73)) → X1.1 j = X.1 j) (h2 : ∀ j, (j = 17 ∨ j = 18 ∨ (25 ≤ j ∧ j ≤ 39)) → b j = a j) : RT X1 b := by
  obtain ⟨g1, g2, g3, g4⟩ := h
  have k := h1
  have e18 : tp b = tp a := by unfold tp; rw [h2 18 (by omega)]
  have e26 : imr b = imr a := by unfold imr; rw [h2 26 (by omega)]
  have e27 : imk b = imk a := by unfold imk; rw [h2 27 (by omega)]
  have e38 : ∀ s, ss b s = ss a s := fun s => by unfold ss; rw [h2 38 (by omega)]
  refine ⟨?_, ?_, ?_, ?_⟩
  · unfold RZ at g1 ⊢
    rw [k 20 (by omega), k 21 (by omega), k 24 (by omega)]
    exact g1
  · unfold RT_tape at g2 ⊢
    rw [k 2 (by omega), k 3 (by omega), e18, h2 18 (by omega), h2 17 (by omega)]
    exact g2
  · unfold RT_img at g3 ⊢
    rw [k 26 (by omega), k 27 (by omega), k 28 (by omega), k 29 (by omega), k 30 (by omega), k 31 (by omega), k 32 (by omega), k 33 (by omega), k 34 (by omega), k 35 (by omega), k 36 (by omega), k 37 (by omega), e26, e27, h2 25 (by omega), h2 26 (by omega), h2 27 (by omega), h2 28 (by omega), h2 29 (by omega), h2 30 (by omega), h2 31 (by omega), h2 32 (by omega), h2 33 (by omega), h2 34 (by omega), h2 35 (by omega), h2 36 (by omega)]
    exact g3
  · intro s hs
    rw [k 4 (by omega), k 5 (by omega), k (70 + s) (by omega), e38, h2 37 (by omega), h2 38 (by omega), h2 39 (by omega)]
    exact g4 s hs
end A
section B
variable {N : Nat} {X : xS} {M : mS}
/-! sort -/
theorem Rl.eye {k : Nat} {v : Int32} (h : Rl X M) (hk : k < 4) (hv : iv v 0 40) : Rl (xs X 8 k v) (ms M 0 k v) := by
  obtain ⟨h1, h2, h3, h4, h5⟩ := h
  unfold Rl
  rw [mC_aw rfl]
  obtain ⟨g1, g2, g3, g4, g5, g6, g7, g8⟩ := h1
  obtain ⟨i1, i2, i3, i4, i5, i6, i7, i8⟩ := h3
  refine ⟨⟨g1, ⟨by rw [xs_same, aw_same, g2.1], g2.2⟩, g3, g4.cg rfl (fun r => xs_ne (by omega)) rfl rfl, g5, g6, g7, g8.cg rfl rfl rfl rfl rfl (fun t => xs_ne (by omega)) (fun t => xs_ne (by omega)) rfl rfl rfl rfl⟩, h2.cg2 (fun j hj => xs_ne (by omega)) (fun j hj => aw_ne (beqF (by omega))), ⟨i1, fun j hj => ?_, i3, i4, i5, i6, i7, i8.cg rfl rfl rfl rfl⟩, h4, h5⟩
  rw [aw_same, upd_at]
  refine ⟨?_, (i2 j hj).2⟩
  by_cases e : j = k
  · rw [if_pos e]; exact hv
  · rw [if_neg e]; exact (i2 j hj).1
theorem Rl.head {k : Nat} {v : Int32} (h : Rl X M) (hk : k < 4) (hv : iv v 0 40) : Rl (xs X 9 k v) (ms M 1 k v) := by
  obtain ⟨h1, h2, h3, h4, h5⟩ := h
  unfold Rl
  rw [mC_aw rfl]
  obtain ⟨g1, g2, g3, g4, g5, g6, g7, g8⟩ := h1
  obtain ⟨i1, i2, i3, i4, i5, i6, i7, i8⟩ := h3
  refine ⟨⟨g1, ⟨g2.1, by rw [xs_same, aw_same, g2.2.1], g2.2.2⟩, g3, g4.cg rfl (fun r => xs_ne (by omega)) rfl rfl, g5, g6, g7, g8.cg rfl rfl rfl rfl rfl (fun t => xs_ne (by omega)) (fun t => xs_ne (by omega)) rfl rfl rfl rfl⟩, h2.cg2 (fun j hj => xs_ne (by omega)) (fun j hj => aw_ne (beqF (by omega))), ⟨i1, fun j hj => ?_, i3, i4, i5, i6, i7, i8.cg rfl rfl rfl rfl⟩, h4, h5⟩
  rw [aw_same, upd_at]
  refine ⟨(i2 j hj).1, ?_, (i2 j hj).2.2⟩
  by_cases e : j = k
  · rw [if_pos e]; exact hv
  · rw [if_neg e]; exact (i2 j hj).2.1
theorem Rl.cnt {k : Nat} {v : Int32} (h : Rl X M) (hk : k < 4) (hv : iv v 0 9) : Rl (xs X 10 k v) (ms M 2 k v) := by
  obtain ⟨h1, h2, h3, h4, h5⟩ := h
  unfold Rl
  rw [mC_aw rfl]
  obtain ⟨g1, g2, g3, g4, g5, g6, g7, g8⟩ := h1
  obtain ⟨i1, i2, i3, i4, i5, i6, i7, i8⟩ := h3
  refine ⟨⟨g1, ⟨g2.1, g2.2.1, by rw [xs_same, aw_same, g2.2.2]⟩, g3, g4.cg rfl (fun r => xs_ne (by omega)) rfl rfl, g5, g6, g7, g8.cg rfl rfl rfl rfl rfl (fun t => xs_ne (by omega)) (fun t => xs_ne (by omega)) rfl rfl rfl rfl⟩, h2.cg2 (fun j hj => xs_ne (by omega)) (fun j hj => aw_ne (beqF (by omega))), ⟨i1, fun j hj => ?_, i3, i4, i5, i6, i7, i8.cg rfl rfl rfl rfl⟩, h4, h5⟩
  rw [aw_same, upd_at]
  refine ⟨(i2 j hj).1, (i2 j hj).2.1, ?_⟩
  by_cases e : j = k
  · rw [if_pos e]; exact hv
  · rw [if_neg e]; exact (i2 j hj).2.2
theorem st_sort (h : Rl X M) (x y z : Int32) : ∃ r X1 M1, xf_X_sort N X x y z = some (r, X1) ∧ mf_sort N M x y z = some (r, M1) ∧ Rl X1 M1 := by
  obtain ⟨h1, h2, h3, h4, h5⟩ := id h
  unfold xf_X_sort mf_sort xf_X_isSort
  rw [isIn_in, isIn_in, isIn_in]
  cases hx : mf_in x 0 3 with
  | false => exact ⟨_, X, M, rfl, rfl, h⟩
  | true =>
    obtain ⟨k, hk, rfl⟩ := in_nat (n := 3) (by omega) hx
    have e8 : X.1 8 = M.1 0 := h1.2.1.1
    have e9 : X.1 9 = M.1 1 := h1.2.1.2.1
    have e10 : X.1 10 = M.1 2 := h1.2.1.2.2
    rw [if_pos rfl, if_pos rfl, sm_clamp (show k < 100000000 by omega)]
    simp only [if_pos (sm_ok (show k < 4 by omega) (by omega))]
    by_cases y0 : y = 0
    · subst y0
      rw [if_pos (show mf_in 0 0 2 = true by decide), if_neg (show ¬ (0 : Int32) = 2 by decide), if_pos rfl, if_pos rfl]
      cases hz : mf_in z 0 40 with
      | false => exact ⟨_, X, M, rfl, rfl, h⟩
      | true =>
        rw [if_pos rfl, if_pos rfl, e8]
        exact ⟨_, _, _, rfl, rfl, h.eye (by omega) (in_iff.mp hz)⟩
    · rw [if_neg y0, if_neg y0]
      by_cases y1 : y = 1
      · subst y1
        rw [if_pos (show mf_in 1 0 2 = true by decide), if_neg (show ¬ (1 : Int32) = 2 by decide), if_pos rfl, if_pos rfl]
        cases hz : mf_in z 0 40 with
        | false => exact ⟨_, X, M, rfl, rfl, h⟩
        | true =>
          rw [if_pos rfl, if_pos rfl, e9]
          exact ⟨_, _, _, rfl, rfl, h.head (by omega) (in_iff.mp hz)⟩
      · rw [if_neg y1, if_neg y1]
        by_cases y2 : y = 2
        · subst y2
          rw [if_pos (show mf_in 2 0 2 = true by decide), if_pos rfl, if_pos rfl]
          cases hz : mf_in z 0 9 with
          | false => exact ⟨_, X, M, rfl, rfl, h⟩
          | true =>
            rw [if_pos rfl, if_pos rfl, e10]
            exact ⟨_, _, _, rfl, rfl, h.cnt (by omega) (in_iff.mp hz)⟩
        · rw [if_neg y2]
          have hn : ¬ mf_in y 0 2 = true := fun hh => by
            obtain ⟨j, hj, rfl⟩ := in_nat (n := 2) (by omega) hh
            have : j = 0 ∨ j = 1 ∨ j = 2 := by omega
            rcases this with rfl | rfl | rfl
            · exact y0 rfl
            · exact y1 rfl
            · exact y2 rfl
          simp only [if_neg hn, if_neg y2]
          exact ⟨_, X, M, rfl, rfl, h⟩
/-! set -/
theorem Rl.rise {r : Nat} {v : Int32} (h : Rl X M) (hr : r < nr (mC M)) (hv : iv v 0 99) : Rl (xs X 57 r v) (ms M 7 r v) := by
  obtain ⟨h1, h2, h3, h4, h5⟩ := h
  unfold Rl
  rw [mC_aw rfl]
  have hu : ∀ q, q < nr (mC M) → upd (X.1 57) r v q = upd (mC M 7) r v q := fun q hq => by
    rw [upd_at, upd_at]
    by_cases e : q = r
    · rw [if_pos e, if_pos e]
    · rw [if_neg e, if_neg e]; exact (h1.2.2.1 q hq).2.2.2.1
  refine ⟨?_, h2.cg2 (fun j hj => xs_ne (by omega)) (fun j hj => aw_ne (beqF (by omega))), ?_, ?_, h5⟩
  · rw [xs_as, aw_af]
    exact h1.rise hu
  · rw [aw_af]
    refine h3.rise (fun q hq => ?_)
    rw [upd_at]
    by_cases e : q = r
    · rw [if_pos e]; exact iv_mono hv (by omega) (by omega)
    · rw [if_neg e]; exact (h3.2.2.1 q hq).2.2.2.2.2.1
  · obtain ⟨p1, p2, p3, p4, p5, p6, p7⟩ := h4
    refine ⟨fun q hq => ?_, p2, p3, p4, p5, p6, fun q hq h6 => ?_⟩
    · rw [aw_same, upd_at]
      by_cases e : q = r
      · rw [if_pos e]; exact hv
      · rw [if_neg e]; exact p1 q hq
    · have hq2 : nr (mC M) ≤ q := hq
      rw [aw_same, upd_at, if_neg (by omega)]
      exact p7 q hq h6
theorem Rl.shift {r : Nat} {v : Int32} (h : Rl X M) (hr : r < nr (mC M)) (hv : iv v 0 1) : Rl (xs X 58 r v) (ms M 8 r v) := by
  obtain ⟨h1, h2, h3, h4, h5⟩ := h
  unfold Rl
  rw [mC_aw rfl]
  have hu : ∀ q, q < nr (mC M) → upd (X.1 58) r v q = upd (mC M 8) r v q := fun q hq => by
    rw [upd_at, upd_at]
    by_cases e : q = r
    · rw [if_pos e, if_pos e]
    · rw [if_neg e, if_neg e]; exact (h1.2.2.1 q hq).2.2.2.2.1
  refine ⟨?_, h2.cg2 (fun j hj => xs_ne (by omega)) (fun j hj => aw_ne (beqF (by omega))), ?_, ?_, h5⟩
  · rw [xs_as, aw_af]
    exact h1.shift hu
  · rw [aw_af]
    refine h3.shift (fun q hq => ?_)
    rw [upd_at]
    by_cases e : q = r
    · rw [if_pos e]; exact hv
    · rw [if_neg e]; exact (h3.2.2.1 q hq).2.2.2.2.2.2
  · obtain ⟨p1, p2, p3, p4, p5, p6, p7⟩ := h4
    refine ⟨p1, p2, p3, p4, p5, p6, fun q hq h6 => ?_⟩
    have hq2 : nr (mC M) ≤ q := hq
    obtain ⟨z1, z2, z3⟩ := p7 q hq h6
    rw [aw_same, upd_at, if_neg (by omega)]
    exact ⟨z1, z2, z3⟩
theorem st_set (h : Rl X M) (x y z : Int32) : ∃ r X1 M1, xf_X_set N X x y z = some (r, X1) ∧ mf_set N M x y z = some (r, M1) ∧ Rl X1 M1 := by
  have hh := rowAt_cases (N := N) h x
  obtain ⟨h1, h2, h3, h4, h5⟩ := id h
  unfold xf_X_set mf_set
  rw [isIn_in, isIn_in]
  rcases hh with ⟨r, hr, rfl, q1, q2⟩ | ⟨q1, q2⟩
  · have h6 := h3.hr6 hr
    have hrr : r < X.2.2.1 := by rw [h1.1.2.2.2]; exact hr
    obtain ⟨r1, r2, r3, r4, r5, r6, r7, r8, r9, r10⟩ := h1.2.2.1 r hr
    have r4' : X.1 57 r = M.1 7 r := r4
    have r5' : X.1 58 r = M.1 8 r := r5
    rw [q1, q2, bs1, if_neg (nI_pos (by omega)), if_pos rfl, sm_clamp (show r < 100000000 by omega), r4', r5']
    simp only [if_pos hrr, if_pos (sm_ok h6 (show 6 < 100000000 by omega))]
    by_cases y0 : y = 0
    · subst y0
      rw [if_pos (show mf_in 0 0 1 = true by decide), if_pos rfl, if_pos rfl]
      cases hz : mf_in z 0 99 with
      | false => exact ⟨_, X, M, rfl, rfl, h⟩
      | true =>
        rw [if_pos rfl, if_pos rfl, if_pos rfl, bs1, if_pos rfl]
        exact ⟨_, _, _, rfl, rfl, h.rise hr (in_iff.mp hz)⟩
    · rw [if_neg y0, if_neg y0]
      by_cases y1 : y = 1
      · subst y1
        rw [if_pos (show mf_in 1 0 1 = true by decide), if_pos rfl]
        cases hz : mf_in z 0 1 with
        | false => exact ⟨_, X, M, rfl, rfl, h⟩
        | true =>
          rw [if_pos rfl, if_pos rfl, if_neg y0, bs1, if_neg y0]
          exact ⟨_, _, _, rfl, rfl, h.shift hr (in_iff.mp hz)⟩
      · have hn : ¬ mf_in y 0 1 = true := fun hh => by
          obtain ⟨j, hj, rfl⟩ := in_nat (n := 1) (by omega) hh
          have : j = 0 ∨ j = 1 := by omega
          rcases this with rfl | rfl
          · exact y0 rfl
          · exact y1 rfl
        simp only [if_neg y0, if_neg y1, if_neg hn]
        exact ⟨_, X, M, rfl, rfl, h⟩
  · rw [q1, q2]
    exact ⟨_, X, M, rfl, rfl, h⟩
/-! sit -/
theorem Rl.sit {r c : Nat} {v : Int32} (h : Rl X M) (hr : r < nr (mC M)) (hc : c < 8) (hv : iv v 0 3) : Rl (xs X (80 + 4 * r) c v) (ms M 9 (8 * r + c) v) := by
  obtain ⟨h1, h2, h3, h4, h5⟩ := h
  unfold Rl
  rw [mC_aw rfl]
  refine ⟨h1.sit h2.1.1 hc, h2.cg2 (fun j hj => xs_ne (by omega)) (fun j hj => aw_ne (beqF (by omega))), h3.sit hc hv, ?_, h5⟩
  obtain ⟨p1, p2, p3, p4, p5, p6, p7⟩ := h4
  refine ⟨p1, p2, p3, p4, p5, p6, fun q hq h6 => ?_⟩
  have hq2 : nr (mC M) ≤ q := hq
  obtain ⟨z1, z2, z3⟩ := p7 q hq h6
  refine ⟨z1, z2, fun c2 hc2 => ?_⟩
  rw [aw_same, upd_at, if_neg (by omega)]
  exact z3 c2 hc2
theorem st_sit2 (h : Rl X M) (x y z : Int32) : ∃ r X1 M1, xf_X_sit N X x y z = some (r, X1) ∧ mf_sit N M x y z = some (r, M1) ∧ Rl X1 M1 ∧ ∀ j, j ≠ 9 → M1.1 j = M.1 j := by
  have hh := seat_cases (N := N) h x y
  obtain ⟨h1, h2, h3, h4, h5⟩ := id h
  unfold xf_X_sit mf_sit xf_X_isSort
  rw [isIn_in]
  rcases hh with ⟨r, c, hr, hc, hc8, rfl, rfl, q1, q2⟩ | ⟨q1, q2⟩
  · have h6 := h3.hr6 hr
    have hrr : r < X.2.2.1 := by rw [h1.1.2.2.2]; exact hr
    have s1 := h1.2.2.2.1 r hr c hc8
    rw [if_pos h2.1.1] at s1
    have s1' : M.1 9 (8 * r + c) = X.1 (80 + 4 * r) c := s1
    rw [q1, q2, bs1, bs1, if_neg (nI_pos (by omega)), if_pos rfl]
    cases hz : mf_in z 0 3 with
    | false => exact ⟨_, X, M, rfl, rfl, h, fun _ _ => rfl⟩
    | true =>
      rw [if_pos rfl, if_pos rfl, sm_clamp (show r < 100000000 by omega), sm_clamp (show c < 100000000 by omega), if_pos hrr, if_pos (sm_ok hc8 (by omega)), ix8, if_pos (sm_ok (show 8 * r + c < 48 by omega) (by omega)), sm_clamp (show 8 * r + c < 100000000 by omega), s1']
      exact ⟨_, _, _, rfl, rfl, h.sit hr hc8 (in_iff.mp hz), fun j hj => ms_ne hj⟩
  · rw [q1, q2]
    exact ⟨_, X, M, rfl, rfl, h, fun _ _ => rfl⟩
theorem st_sit (h : Rl X M) (x y z : Int32) : ∃ r X1 M1, xf_X_sit N X x y z = some (r, X1) ∧ mf_sit N M x y z = some (r, M1) ∧ Rl X1 M1 := by
  obtain ⟨r, X1, M1, h1, h2, h3, _⟩ := st_sit2 (N := N) h x y z
  exact ⟨r, X1, M1, h1, h2, h3⟩
/-! force -/
theorem Rl.law {t : Nat} (h : Rl X M) (ht : t < nt (mC M)) : Rl (xs (xs X 1 0 (nI t)) 19 0 (nI t)) (ms M 22 0 (nI t)) := by
  obtain ⟨h1, h2, h3, h4, h5⟩ := h
  unfold Rl
  rw [mC_aw rfl]
  obtain ⟨g1, g2, g3, g4, g5, g6, g7, g8⟩ := h1
  obtain ⟨i1, i2, i3, i4, i5, i6, i7, i8⟩ := h3
  have k : ∀ j, j ≠ 1 → j ≠ 19 → (xs (xs X 1 0 (nI t)) 19 0 (nI t)).1 j = X.1 j := fun j e1 e2 => by rw [xs_ne e2, xs_ne e1]
  have hrl : rl (aw (mC M) 22 0 (nI t)) = t := by
    have h6 := i8.2.2.1
    unfold rl
    rw [aw_same, pk_us, sm_clamp (by omega)]
  refine ⟨⟨g1, g2, g3, g4.cg rfl (fun r => k _ (by omega) (by omega)) rfl rfl, g5, g6, g7, ?_⟩, h2.cg2 (fun j hj => k j (by omega) (by omega)) (fun j hj => aw_ne (beqF (by omega))), ⟨i1, i2, i3, i4, i5, i6, i7, i8.1, i8.2.1, i8.2.2.1, ?_, ?_, i8.2.2.2.2.2⟩, h4, h5⟩
  · obtain ⟨t1, t2, t3, t4, t5⟩ := g8
    refine ⟨t1, by rw [aw_same, pk_us]; rfl, by rw [aw_same, pk_us]; rfl, t4, fun u hu => ?_⟩
    rw [k (82 + 4 * u) (by omega) (by omega), k (81 + 4 * u) (by omega) (by omega)]
    exact t5 u hu
  · rw [aw_same, pk_us, hrl]
  · rw [hrl]
    exact ht
theorem st_force (h : Rl X M) (x : Int32) : ∃ r X1 M1, xf_X_force N X x = some (r, X1) ∧ mf_force M x = (r, M1) ∧ Rl X1 M1 := by
  obtain ⟨h1, h2, h3, h4, h5⟩ := id h
  have e21 : M.1 21 0 = nI (nt (mC M)) := h3.2.2.2.2.2.2.2.1
  have e0 : X.1 0 0 = nI (nt (mC M)) := h1.2.2.2.2.2.2.2.1.trans e21
  have h6 := h3.2.2.2.2.2.2.2.2.2.1
  have e1 : X.1 1 0 = M.1 22 0 := h1.2.2.2.2.2.2.2.2.1
  unfold xf_X_force mf_force
  rw [e21, e0]
  rcases cnt_cases x (n := nt (mC M)) (by omega) with ⟨j, hj, rfl, c1, c2, c3, c4⟩ | ⟨c1, c2 | ⟨c2, c3, c4⟩⟩
  · rw [if_neg c2, if_pos c4, if_pos (sm_ok (show j < 6 by omega) (by omega)), sm_clamp (show j < 100000000 by omega), if_pos (by rw [h1.2.2.2.2.2.2.2.2.2.2.1]; exact hj), if_pos c1, e1]
    exact ⟨_, _, _, rfl, rfl, h.law hj⟩
  · rw [if_pos c2, c1]
    exact ⟨_, X, M, rfl, rfl, h⟩
  · rw [if_neg c2, if_neg c4, c1]
    exact ⟨_, X, M, rfl, rfl, h⟩
/-! posts -/
theorem st_moves (h : Rl X M) (x y z : Int32) : ∃ r X1 M1, xf_X_moves N X x y z = some (r, X1) ∧ mf_moves N M x y z = some (r, M1) ∧ Rl X1 M1 := by
  have hc := post_cases h x
  obtain ⟨h1, h2, h3, h4, h5⟩ := id h
  have h44 := h3.1.2.2.2.2.2
  unfold xf_X_moves mf_moves xf_X_isPostPlace
  rw [isIn_in, isIn_in]
  rcases hc with ⟨p, hp, rfl, q1, q2⟩ | ⟨q1, q2⟩
  · rw [q1, q2, if_pos rfl, if_pos rfl]
    cases hy : mf_in y 0 20 with
    | false => exact ⟨_, X, M, rfl, rfl, h⟩
    | true =>
      cases hz : mf_in z 1 69 with
      | false => exact ⟨_, X, M, rfl, rfl, h⟩
      | true =>
        obtain ⟨o1, o2⟩ := h1.2.2.2.2.2.1 p hp
        have o1' : X.1 14 p = M.1 15 p := o1
        have o2' : X.1 15 p = M.1 16 p := o2
        rw [if_pos rfl, if_pos rfl, if_pos rfl, if_pos rfl, if_pos rfl, if_pos (sm_ok (show p < 4 by omega) (by omega)), if_pos (sm_ok (show p < 4 by omega) (by omega)), sm_clamp (show p < 100000000 by omega), o1', o2']
        refine ⟨_, _, _, rfl, rfl, ?_⟩
        unfold Rl
        rw [mC_aw rfl, mC_aw rfl]
        obtain ⟨g1, g2, g3, g4, g5, g6, g7, g8⟩ := h1
        obtain ⟨i1, i2, i3, i4, i5, i6, i7, i8⟩ := h3
        have k : ∀ j, j ≠ 14 → j ≠ 15 → (xs (xs X 14 p y) 15 p z).1 j = X.1 j := fun j e1 e2 => by rw [xs_ne e2, xs_ne e1]
        refine ⟨⟨g1, g2, g3, g4.cg rfl (fun r => k _ (by omega) (by omega)) rfl rfl, g5, fun j hj => ?_, g7, g8.cg rfl rfl rfl rfl rfl (fun t => k _ (by omega) (by omega)) (fun t => k _ (by omega) (by omega)) rfl rfl rfl rfl⟩, h2.cg2 (fun j hj => k j (by omega) (by omega)) (fun j hj => by rw [aw_ne (beqF (by omega)), aw_ne (beqF (by omega))]), ⟨i1, i2, i3, i4, i5, fun j hj => ?_, i7, i8.cg rfl rfl rfl rfl⟩, h4, h5⟩
        · show upd (X.1 14) p y j = upd (mC M 15) p y j ∧ upd (X.1 15) p z j = upd (mC M 16) p z j
          simp only [upd_at]
          by_cases e : j = p
          · simp only [if_pos e, and_self]
          · simp only [if_neg e]
            exact g6 j hj
        · show iv (upd (mC M 15) p y j) 0 20 ∧ iv (upd (mC M 16) p z j) 1 69
          simp only [upd_at]
          by_cases e : j = p
          · simp only [if_pos e]
            exact ⟨in_iff.mp hy, in_iff.mp hz⟩
          · simp only [if_neg e]
            exact i6 j hj
  · rw [q1, q2]
    exact ⟨_, X, M, rfl, rfl, h⟩
theorem st_post (h : Rl X M) (y z : Int32) : ∃ r X1 M1, xf_X_post N X y z = some (r, X1) ∧ mf_post N M y z = some (r, M1) ∧ Rl X1 M1 := by
  obtain ⟨h1, h2, h3, h4, h5⟩ := id h
  have h44 := h3.1.2.2.2.2.2
  have e14 : M.1 14 0 = nI (nk (mC M)) := h3.1.2.2.2.2.1
  have e18 : X.1 18 0 = nI (nk (mC M)) := h1.1.2.2.1.trans e14
  unfold xf_X_post mf_post xf_X_isPostPlace
  rw [isIn_in, isIn_in]
  cases hy : mf_in y 0 20 with
  | false => exact ⟨_, X, M, rfl, rfl, h⟩
  | true =>
    cases hz : mf_in z 1 69 with
    | false => exact ⟨_, X, M, rfl, rfl, h⟩
    | true =>
      rw [if_pos rfl, if_pos rfl, if_pos rfl, if_pos rfl, if_pos rfl]
      have el : nI (nk (mC M)) < (4 : Int32) ↔ nk (mC M) < 4 := sm_lt (m := 4) (by omega) (by omega)
      have ee : nI (nk (mC M)) = (4 : Int32) ↔ nk (mC M) = 4 := sm_eq (m := 4) (by omega) (by omega)
      by_cases hlt : nk (mC M) < 4
      · have r1 : ∀ q v, (ms M 15 q v).1 14 0 = nI (nk (mC M)) := fun q v => e14
        have r2 : ∀ q v q2 v2, (ms (ms M 15 q v) 16 q2 v2).1 14 0 = nI (nk (mC M)) := fun q v q2 v2 => e14
        have r3 : ∀ q v q2 v2, (xs (xs X 14 q v) 15 q2 v2).1 18 0 = nI (nk (mC M)) := fun q v q2 v2 => e18
        rw [e18, if_pos (el.mpr hlt), if_pos (sm_ok hlt (by omega)), e14, if_neg (fun hh => by have := ee.mp hh; omega), if_pos (sm_ok hlt (by omega)), r1, if_pos (sm_ok hlt (by omega)), sm_clamp (show nk (mC M) < 100000000 by omega), r2, r3, ms_same, pk_us, ← nI_succ, nI_pred]
        refine ⟨_, _, _, rfl, rfl, ?_⟩
        unfold Rl
        rw [mC_aw rfl, mC_aw rfl, mC_aw rfl]
        obtain ⟨g1, g2, g3, g4, g5, g6, g7, g8⟩ := h1
        obtain ⟨i1, i2, i3, i4, i5, i6, i7, i8⟩ := h3
        have k : ∀ j, j ≠ 14 → j ≠ 15 → j ≠ 18 → (xs (xs (xs X 14 (nk (mC M)) y) 15 (nk (mC M)) z) 18 0 (nI (nk (mC M) + 1))).1 j = X.1 j := fun j e1 e2 e3 => by rw [xs_ne e3, xs_ne e2, xs_ne e1]
        have hk1 : nk (aw (aw (aw (mC M) 15 (nk (mC M)) y) 16 (nk (mC M)) z) 14 0 (nI (nk (mC M) + 1))) = nk (mC M) + 1 := by
          show (aw (aw (aw (mC M) 15 (nk (mC M)) y) 16 (nk (mC M)) z) 14 0 (nI (nk (mC M) + 1)) 14 0).toNatClampNeg = _
          rw [aw_same, pk_us, sm_clamp (by omega)]
        refine ⟨⟨⟨g1.1, g1.2.1, ?_, g1.2.2.2⟩, g2, g3, g4.cg rfl (fun r => k _ (by omega) (by omega) (by omega)) rfl rfl, g5, fun j hj => ?_, g7, g8.cg rfl rfl rfl rfl rfl (fun t => k _ (by omega) (by omega) (by omega)) (fun t => k _ (by omega) (by omega) (by omega)) rfl rfl rfl rfl⟩, h2.cg2 (fun j hj => k j (by omega) (by omega) (by omega)) (fun j hj => by rw [aw_ne (beqF (by omega)), aw_ne (beqF (by omega)), aw_ne (beqF (by omega))]), ⟨⟨i1.1, i1.2.1, i1.2.2.1, i1.2.2.2.1, ?_, ?_⟩, i2, i3, i4, i5, fun j hj => ?_, i7, i8.cg rfl rfl rfl rfl⟩, ?_, h5⟩
        · rw [xs_same, pk_us, aw_same, pk_us]
        · rw [hk1] at hj
          show upd (X.1 14) (nk (mC M)) y j = upd (mC M 15) (nk (mC M)) y j ∧ upd (X.1 15) (nk (mC M)) z j = upd (mC M 16) (nk (mC M)) z j
          simp only [upd_at]
          by_cases e : j = nk (mC M)
          · simp only [if_pos e, and_self]
          · simp only [if_neg e]
            exact g6 j (by omega)
        · rw [hk1, aw_same, pk_us]
        · rw [hk1]
          omega
        · rw [hk1] at hj
          show iv (upd (mC M 15) (nk (mC M)) y j) 0 20 ∧ iv (upd (mC M 16) (nk (mC M)) z j) 1 69
          simp only [upd_at]
          by_cases e : j = nk (mC M)
          · simp only [if_pos e]
            exact ⟨in_iff.mp hy, in_iff.mp hz⟩
          · simp only [if_neg e]
            exact i6 j (by omega)
        · obtain ⟨p1, p2, p3, p4, p5, p6, p7⟩ := h4
          refine ⟨p1, p2, p3, p4, fun hi => ?_, p6, p7⟩
          obtain ⟨v1, v2, v3, v4, v5⟩ := p5 hi
          refine ⟨v1, v2, v3, ?_, v5⟩
          rw [hk1]
          exact Nat.le_succ_of_le v4
      · have h4e : nk (mC M) = 4 := by omega
        rw [e18, if_neg (fun hh => hlt (el.mp hh)), e14, if_pos (ee.mpr h4e)]
        exact ⟨_, X, M, rfl, rfl, h⟩
theorem st_point (h : Rl X M) (x y z : Int32) : ∃ r X1 M1, xf_X_point N X x y z = some (r, X1) ∧ mf_point N M x y z = some (r, M1) ∧ Rl X1 M1 := by
  obtain ⟨h1, h2, h3, h4, h5⟩ := id h
  have h44 := h3.1.2.2.2.1
  have e14 : M.1 10 0 = nI (np (mC M)) := h3.1.2.2.1
  have e18 : X.1 17 0 = nI (np (mC M)) := h1.1.2.1.trans e14
  unfold xf_X_point mf_point
  rw [isIn_in, isIn_in, isIn_in]
  cases hx : mf_in x 0 20 with
  | false => exact ⟨_, X, M, rfl, rfl, h⟩
  | true =>
    cases hy : mf_in y 0 60 with
    | false => exact ⟨_, X, M, rfl, rfl, h⟩
    | true =>
      cases hz : mf_in z 0 99 with
      | false => exact ⟨_, X, M, rfl, rfl, h⟩
      | true =>
        simp only [if_true]
        have el : nI (np (mC M)) < (6 : Int32) ↔ np (mC M) < 6 := sm_lt (m := 6) (by omega) (by omega)
        have ee : nI (np (mC M)) = (6 : Int32) ↔ np (mC M) = 6 := sm_eq (m := 6) (by omega) (by omega)
        by_cases hlt : np (mC M) < 6
        · have r1 : ∀ q v, (ms M 11 q v).1 10 0 = nI (np (mC M)) := fun q v => e14
          have r2 : ∀ q v q2 v2, (ms (ms M 11 q v) 12 q2 v2).1 10 0 = nI (np (mC M)) := fun q v q2 v2 => e14
          have r3 : ∀ q v q2 v2 q3 v3, (ms (ms (ms M 11 q v) 12 q2 v2) 13 q3 v3).1 10 0 = nI (np (mC M)) := fun q v q2 v2 q3 v3 => e14
          have r4 : ∀ q v q2 v2 q3 v3, (xs (xs (xs X 11 q v) 12 q2 v2) 13 q3 v3).1 17 0 = nI (np (mC M)) := fun q v q2 v2 q3 v3 => e18
          rw [e18, if_pos (el.mpr hlt), if_pos (sm_ok hlt (by omega)), e14, if_neg (fun hh => by have := ee.mp hh; omega), if_pos (sm_ok hlt (by omega)), r1, if_pos (sm_ok hlt (by omega)), r2, if_pos (sm_ok hlt (by omega)), sm_clamp (show np (mC M) < 100000000 by omega), r3, r4, ms_same, pk_us, ← nI_succ, nI_pred]
          refine ⟨_, _, _, rfl, rfl, ?_⟩
          unfold Rl
          rw [mC_aw rfl, mC_aw rfl, mC_aw rfl, mC_aw rfl]
          obtain ⟨g1, g2, g3, g4, g5, g6, g7, g8⟩ := h1
          obtain ⟨i1, i2, i3, i4, i5, i6, i7, i8⟩ := h3
          have k : ∀ j, j ≠ 11 → j ≠ 12 → j ≠ 13 → j ≠ 17 → (xs (xs (xs (xs X 11 (np (mC M)) x) 12 (np (mC M)) y) 13 (np (mC M)) z) 17 0 (nI (np (mC M) + 1))).1 j = X.1 j := fun j e1 e2 e3 e4 => by rw [xs_ne e4, xs_ne e3, xs_ne e2, xs_ne e1]
          have hk1 : np (aw (aw (aw (aw (mC M) 11 (np (mC M)) x) 12 (np (mC M)) y) 13 (np (mC M)) z) 10 0 (nI (np (mC M) + 1))) = np (mC M) + 1 := by
            show (aw (aw (aw (aw (mC M) 11 (np (mC M)) x) 12 (np (mC M)) y) 13 (np (mC M)) z) 10 0 (nI (np (mC M) + 1)) 10 0).toNatClampNeg = _
            rw [aw_same, pk_us, sm_clamp (by omega)]
          refine ⟨⟨⟨g1.1, ?_, g1.2.2⟩, g2, g3, g4.cg rfl (fun r => k _ (by omega) (by omega) (by omega) (by omega)) rfl rfl, fun j hj => ?_, g6, g7, g8.cg rfl rfl rfl rfl rfl (fun t => k _ (by omega) (by omega) (by omega) (by omega)) (fun t => k _ (by omega) (by omega) (by omega) (by omega)) rfl rfl rfl rfl⟩, h2.cg2 (fun j hj => k j (by omega) (by omega) (by omega) (by omega)) (fun j hj => by rw [aw_ne (beqF (by omega)), aw_ne (beqF (by omega)), aw_ne (beqF (by omega)), aw_ne (beqF (by omega))]), ⟨⟨i1.1, i1.2.1, ?_, ?_, i1.2.2.2.2⟩, i2, i3, i4, fun j hj => ?_, i6, i7, i8.cg rfl rfl rfl rfl⟩, ?_, h5⟩
          · rw [xs_same, pk_us, aw_same, pk_us]
          · rw [hk1] at hj
            show upd (X.1 11) (np (mC M)) x j = upd (mC M 11) (np (mC M)) x j ∧ upd (X.1 12) (np (mC M)) y j + X.1 21 0 = upd (mC M 12) (np (mC M)) y j ∧ upd (X.1 13) (np (mC M)) z j = upd (mC M 13) (np (mC M)) z j
            rw [h2.1.2.1, Int32.add_zero]
            simp only [upd_at]
            by_cases e : j = np (mC M)
            · simp only [if_pos e, and_self]
            · simp only [if_neg e]
              have := g5 j (by omega)
              rw [h2.1.2.1, Int32.add_zero] at this
              exact this
          · rw [hk1, aw_same, pk_us]
          · rw [hk1]
            omega
          · rw [hk1] at hj
            show iv (upd (mC M 11) (np (mC M)) x j) 0 20 ∧ iv (upd (mC M 12) (np (mC M)) y j) 0 70 ∧ iv (upd (mC M 13) (np (mC M)) z j) 0 99
            simp only [upd_at]
            by_cases e : j = np (mC M)
            · simp only [if_pos e]
              exact ⟨in_iff.mp hx, iv_mono (in_iff.mp hy) (by decide) (by decide), in_iff.mp hz⟩
            · simp only [if_neg e]
              exact i5 j (by omega)
          · obtain ⟨p1, p2, p3, p4, p5, p6, p7⟩ := h4
            refine ⟨p1, fun j hj => ?_, p3, p4, p5, p6, p7⟩
            rw [hk1] at hj
            show iv (upd (mC M 12) (np (mC M)) y j) 0 60
            rw [upd_at]
            by_cases e : j = np (mC M)
            · rw [if_pos e]
              exact in_iff.mp hy
            · rw [if_neg e]
              exact p2 j (by omega)
        · have h4e : np (mC M) = 6 := by omega
          rw [e18, if_neg (fun hh => hlt (el.mp hh)), e14, if_pos (ee.mpr h4e)]
          exact ⟨_, X, M, rfl, rfl, h⟩
end B
end PSET
