section PSET2
section A
variable {N : Nat} {X : xS} {M : mS}
/-! row -/
theorem xrow_ne {X : xS} {k n s m : Int32} {j : Nat} (h1 : j ≠ 80 + 4 * X.2.2.1) (h2 : ¬ (54 ≤ j ∧ j ≤ 63)) : (xRowNew X k n s m).1 j = X.1 j := by
  unfold xRowNew
  show (if j = 80 + 4 * X.2.2.1 then _ else if 54 ≤ j ∧ j ≤ 63 then _ else X.1 j) = X.1 j
  rw [if_neg h1, if_neg h2]
theorem xrow_c {X : xS} {k n s m : Int32} {j : Nat} (h2 : 54 ≤ j ∧ j ≤ 63) : (xRowNew X k n s m).1 j = upd (X.1 j) X.2.2.1 (xRowC k n s m j) := by
  unfold xRowNew
  show (if j = 80 + 4 * X.2.2.1 then _ else if 54 ≤ j ∧ j ≤ 63 then upd (X.1 j) X.2.2.1 (xRowC k n s m j) else X.1 j) = _
  rw [if_neg (by omega), if_pos h2]
theorem xrow_s {X : xS} {k n s m : Int32} : (xRowNew X k n s m).1 (80 + 4 * X.2.2.1) = fun _ => 0 := by
  unfold xRowNew
  show (if 80 + 4 * X.2.2.1 = 80 + 4 * X.2.2.1 then (fun _ => 0) else _) = _
  rw [if_pos rfl]
theorem st_row (h : Rl X M) (x y z : Int32) : ∃ r X1 M1, xf_X_row X x y z = some (r, X1) ∧ mf_row N M x y z = some (r, M1) ∧ Rl X1 M1 := by
  obtain ⟨h1, h2, h3, h4, h5⟩ := id h
  have h6 := h3.1.2.1
  have e3 : M.1 3 0 = nI (nr (mC M)) := h3.1.1
  have e16 : X.1 16 0 = nI (nr (mC M)) := h1.1.1.trans e3
  have en : X.2.2.1 = nr (mC M) := h1.1.2.2.2
  unfold xf_X_row mf_row
  rw [isIn_in, isIn_in, isIn_in]
  cases hx : mf_in x 0 5 with
  | false => exact ⟨_, X, M, rfl, rfl, h⟩
  | true =>
    cases hy : mf_in y 1 8 with
    | false => exact ⟨_, X, M, rfl, rfl, h⟩
    | true =>
      cases hz : mf_in z 0 20 with
      | false => exact ⟨_, X, M, rfl, rfl, h⟩
      | true =>
        simp only [if_true]
        have el : nI (nr (mC M)) < (6 : Int32) ↔ nr (mC M) < 6 := sm_lt (m := 6) (by omega) (by omega)
        have ee : nI (nr (mC M)) = (6 : Int32) ↔ nr (mC M) = 6 := sm_eq (m := 6) (by omega) (by omega)
        by_cases hlt : nr (mC M) < 6
        · have hrc : rcok X = true := by
            unfold rcok
            rw [e16, sm_ok hlt (by omega), sm_clamp (by omega), en, decide_eq_true rfl, h2.1.2.2]
            rfl
          have r1 : ∀ q v, (ms M 4 q v).1 3 0 = nI (nr (mC M)) := fun q v => e3
          have r2 : ∀ q v q2 v2, (ms (ms M 4 q v) 5 q2 v2).1 3 0 = nI (nr (mC M)) := fun q v q2 v2 => e3
          have r3 : ∀ q v q2 v2 q3 v3, (ms (ms (ms M 4 q v) 5 q2 v2) 6 q3 v3).1 3 0 = nI (nr (mC M)) := fun q v q2 v2 q3 v3 => e3
          have r4 : (xRowNew X x (nI (nr (mC M))) y z).1 16 0 = nI (nr (mC M)) := by
            rw [xrow_ne (by omega) (by omega)]
            exact e16
          rw [e16, if_pos (el.mpr hlt), if_pos hrc, r4, e3, if_neg (fun hh => by have := ee.mp hh; omega), if_pos (sm_ok hlt (by omega)), r1, if_pos (sm_ok hlt (by omega)), r2, if_pos (sm_ok hlt (by omega)), sm_clamp (show nr (mC M) < 100000000 by omega), r3, ms_same, pk_us, ← nI_succ, nI_pred]
          refine ⟨_, _, _, rfl, rfl, ?_⟩
          unfold Rl
          rw [mC_aw rfl, mC_aw rfl, mC_aw rfl, mC_aw rfl]
          obtain ⟨g1, g2, g3, g4, g5, g6, g7, g8⟩ := h1
          obtain ⟨i1, i2, i3, i4, i5, i6, i7, i8⟩ := h3
          obtain ⟨p1, p2, p3, p4, p5, p6, p7⟩ := h4
          have k : ∀ j, j ≠ 16 → j ≠ 80 + 4 * nr (mC M) → ¬ (54 ≤ j ∧ j ≤ 63) → (xs (xRowNew X x (nI (nr (mC M))) y z) 16 0 (nI (nr (mC M) + 1))).1 j = X.1 j := fun j e1 e2 e3 => by
            rw [xs_ne e1, xrow_ne (by rw [en]; exact e2) e3]
          have kc : ∀ j, 54 ≤ j → j ≤ 63 → (xs (xRowNew X x (nI (nr (mC M))) y z) 16 0 (nI (nr (mC M) + 1))).1 j = upd (X.1 j) (nr (mC M)) (xRowC x (nI (nr (mC M))) y z j) := fun j e1 e2 => by
            rw [xs_ne (by omega), xrow_c ⟨e1, e2⟩, en]
          have hk1 : nr (aw (aw (aw (aw (mC M) 4 (nr (mC M)) x) 5 (nr (mC M)) y) 6 (nr (mC M)) z) 3 0 (nI (nr (mC M) + 1))) = nr (mC M) + 1 := by
            show (aw (aw (aw (aw (mC M) 4 (nr (mC M)) x) 5 (nr (mC M)) y) 6 (nr (mC M)) z) 3 0 (nI (nr (mC M) + 1)) 3 0).toNatClampNeg = _
            rw [aw_same, pk_us, sm_clamp (by omega)]
          obtain ⟨z1, z2, z3⟩ := p7 (nr (mC M)) (Nat.le_refl _) hlt
          have ns1 : ∀ q, q ≠ nr (mC M) → ns (aw (aw (aw (aw (mC M) 4 (nr (mC M)) x) 5 (nr (mC M)) y) 6 (nr (mC M)) z) 3 0 (nI (nr (mC M) + 1))) q = ns (mC M) q := fun q hq => by
            show (upd (mC M 5) (nr (mC M)) y q).toNatClampNeg = _
            rw [upd_at, if_neg hq]
            rfl
          have ns2 : ns (aw (aw (aw (aw (mC M) 4 (nr (mC M)) x) 5 (nr (mC M)) y) 6 (nr (mC M)) z) 3 0 (nI (nr (mC M) + 1))) (nr (mC M)) = y.toNatClampNeg := by
            show (upd (mC M 5) (nr (mC M)) y (nr (mC M))).toNatClampNeg = _
            rw [pk_us]
          have hy8 := in_iff.mp hy
          have hy1 : (1 : Int) ≤ y.toInt := hy8.1
          have hy2 : y.toInt ≤ 8 := hy8.2
          have hyc := cl_toInt (x := y) (by omega)
          have hye := (ok_of (x := y) (m := 9) (by omega) (by omega) (by omega)).2.2
          refine ⟨⟨⟨?_, ?_, ?_, ?_⟩, ?_, fun r hr => ?_, fun r hr c hc => ?_, ?_, ?_, .inl ⟨?_, p3⟩, g8.cg (k 0 (by omega) (by omega) (by omega)) (k 1 (by omega) (by omega) (by omega)) (k 19 (by omega) (by omega) (by omega)) rfl (k 76 (by omega) (by omega) (by omega)) (fun t => k _ (by omega) (by omega) (by omega)) (fun t => k _ (by omega) (by omega) (by omega)) rfl rfl rfl rfl⟩, h2.cg2 (fun j hj => k j (by omega) (by omega) (by omega)) (fun j hj => by rw [aw_ne (beqF (by omega)), aw_ne (beqF (by omega)), aw_ne (beqF (by omega)), aw_ne (beqF (by omega))]), ⟨⟨?_, ?_, i1.2.2⟩, i2, fun r hr => ?_, fun r hr c hc => ?_, i5, i6, i7, i8.cg rfl rfl rfl rfl⟩, ⟨fun r hr => ?_, p2, p3, p4, fun hi => ?_, p6, fun r hr hr6 => ?_⟩, h5⟩
          · rw [xs_same, pk_us, aw_same, pk_us]
          · rw [k 17 (by omega) (by omega) (by omega)]; exact g1.2.1
          · rw [k 18 (by omega) (by omega) (by omega)]; exact g1.2.2.1
          · rw [hk1]
            show X.2.2.1 + 1 = _
            rw [en]
          · unfold RS_k at g2 ⊢
            rw [k 8 (by omega) (by omega) (by omega), k 9 (by omega) (by omega) (by omega), k 10 (by omega) (by omega) (by omega)]
            exact g2
          · rw [hk1] at hr
            rw [kc 54 (by omega) (by omega), kc 55 (by omega) (by omega), kc 56 (by omega) (by omega), kc 57 (by omega) (by omega), kc 58 (by omega) (by omega), kc 59 (by omega) (by omega), kc 60 (by omega) (by omega), kc 61 (by omega) (by omega), kc 62 (by omega) (by omega), kc 63 (by omega) (by omega)]
            show _ = upd (mC M 4) (nr (mC M)) x r ∧ _ ∧ _ = upd (mC M 5) (nr (mC M)) y r ∧ _ = mC M 7 r ∧ _ = mC M 8 r ∧ _ = nrAside (upd (mC M 4) (nr (mC M)) x r) (upd (mC M 6) (nr (mC M)) z r) ∧ _ = nrAbove (upd (mC M 4) (nr (mC M)) x r) (upd (mC M 6) (nr (mC M)) z r) ∧ _ = nrFar (upd (mC M 4) (nr (mC M)) x r) (nI r) ∧ _ = nrLow (upd (mC M 4) (nr (mC M)) x r) (upd (mC M 6) (nr (mC M)) z r) ∧ _ = nrAmong (upd (mC M 4) (nr (mC M)) x r)
            simp only [upd_at]
            by_cases e : r = nr (mC M)
            · subst e
              simp only [if_true]
              exact ⟨rfl, rfl, rfl, z1.symm, z2.symm, rfl, rfl, rfl, rfl, rfl⟩
            · simp only [if_neg e]
              exact g3 r (by omega)
          · rw [hk1] at hr
            rw [k 20 (by omega) (by omega) (by omega), if_pos h2.1.1]
            by_cases e : r = nr (mC M)
            · subst e
              rw [xs_ne (by omega), ← en, xrow_s]
              show mC M 9 _ = 0
              rw [en]
              exact z3 c hc
            · rw [k (80 + 4 * r) (by omega) (by omega) (by omega)]
              have := g4 r (by omega) c hc
              rw [if_pos h2.1.1] at this
              exact this
          · unfold RS_p at g5 ⊢
            rw [k 11 (by omega) (by omega) (by omega), k 12 (by omega) (by omega) (by omega), k 13 (by omega) (by omega) (by omega), k 21 (by omega) (by omega) (by omega)]
            exact g5
          · unfold RS_o at g6 ⊢
            rw [k 14 (by omega) (by omega) (by omega), k 15 (by omega) (by omega) (by omega)]
            exact g6
          · rw [k 24 (by omega) (by omega) (by omega), h2.1.2.2]
            decide
          · rw [hk1, aw_same, pk_us]
          · rw [hk1]; omega
          · rw [hk1] at hr
            show iv (upd (mC M 4) (nr (mC M)) x r) 0 5 ∧ upd (mC M 5) (nr (mC M)) y r = nI (ns _ r) ∧ 1 ≤ ns _ r ∧ ns _ r ≤ 8 ∧ iv (upd (mC M 6) (nr (mC M)) z r) 0 20 ∧ iv (mC M 7 r) (-1) 100 ∧ iv (mC M 8 r) 0 1
            simp only [upd_at]
            by_cases e : r = nr (mC M)
            · subst e
              simp only [if_true]
              rw [ns2, z1, z2]
              refine ⟨in_iff.mp hx, hye, by omega, by omega, in_iff.mp hz, ⟨by decide, by decide⟩, ⟨by decide, by decide⟩⟩
            · simp only [if_neg e]
              rw [ns1 r e]
              exact i3 r (by omega)
          · rw [hk1] at hr
            show iv (mC M 9 (8 * r + c)) 0 3
            by_cases e : r = nr (mC M)
            · subst e
              rw [z3 c hc]
              exact ⟨by decide, by decide⟩
            · exact i4 r (by omega) c hc
          · rw [hk1] at hr
            show iv (mC M 7 r) 0 99
            by_cases e : r = nr (mC M)
            · subst e
              rw [z1]
              exact ⟨by decide, by decide⟩
            · exact p1 r (by omega)
          · obtain ⟨v1, v2, v3⟩ := p5 hi
            refine ⟨v1, ?_, v3⟩
            rw [hk1]
            exact Nat.le_succ_of_le v2
          · rw [hk1] at hr
            exact p7 r (by omega) hr6
        · have h4e : nr (mC M) = 6 := by omega
          rw [e16, if_neg (fun hh => hlt (el.mp hh)), e3, if_pos (ee.mpr h4e)]
          exact ⟨_, X, M, rfl, rfl, h⟩
/-! sheets -/
theorem refusal_cases (h : Rl X M) (x : Int32) : (∃ s, s < 4 ∧ x = nI s ∧ mf_in x 0 3 = true ∧ ¬ mC M 37 s = -1 ∧ xf_X_refusalOfSheet N X x = some 0) ∨ (∃ s, s < 4 ∧ x = nI s ∧ mf_in x 0 3 = true ∧ mC M 37 s = -1 ∧ xf_X_refusalOfSheet N X x = some (-11)) ∨ (mf_in x 0 3 = false ∧ xf_X_refusalOfSheet N X x = some (-2)) := by
  have hc := sheet_cases h x
  unfold xf_X_refusalOfSheet
  rw [isIn_in]
  rcases hc with ⟨s, hs, rfl, c1, c2, c3⟩ | c1
  · rw [c1, if_pos rfl, if_pos (sm_ok hs (by omega)), sm_clamp (show s < 100000000 by omega), c2]
    by_cases hm : mC M 37 s = -1
    · exact .inr (.inl ⟨s, hs, rfl, rfl, hm, by rw [if_pos hm]⟩)
    · exact .inl ⟨s, hs, rfl, rfl, hm, by rw [if_neg hm]⟩
  · refine .inr (.inr ⟨c1, ?_⟩)
    rw [c1]
    rfl
/-- a change of sheets alone -/
theorem Rl.sheets {X1 : xS} {M1 : mS} (h : Rl X M) (hx : ∀ j, ¬ (j = 4 ∨ j = 5 ∨ (70 ≤ j ∧ j ≤ 73)) → X1.1 j = X.1 j) (hx2 : X1.2 = X.2) (hm : ∀ j, j ≠ 37 → j ≠ 38 → j ≠ 39 → M1.1 j = M.1 j) (hm2 : M1.2 = M.2) (hs : RT_sh X1 (mC M1)) (hp : IP_sh (mC M1)) : Rl X1 M1 := by
  obtain ⟨h1, h2, h3, h4, h5⟩ := h
  have hb : ∀ j, j ≠ 37 → j ≠ 38 → j ≠ 39 → mC M1 j = mC M j := fun j e1 e2 e3 => by
    unfold mC
    rw [hm j e1 e2 e3]
  have e18 : tp (mC M1) = tp (mC M) := by unfold tp; rw [hb 18 (by omega) (by omega) (by omega)]
  have e26 : imr (mC M1) = imr (mC M) := by unfold imr; rw [hb 26 (by omega) (by omega) (by omega)]
  have e27 : imk (mC M1) = imk (mC M) := by unfold imk; rw [hb 27 (by omega) (by omega) (by omega)]
  obtain ⟨t1, t2, t3, t4⟩ := h2
  obtain ⟨p1, p2, p3, p4, p5, p6, p7⟩ := h4
  have e3 := nr_cg (hb 3 (by omega) (by omega) (by omega))
  have e10 := np_cg (hb 10 (by omega) (by omega) (by omega))
  have e14 := nk_cg (hb 14 (by omega) (by omega) (by omega))
  have e21 := nt_cg (hb 21 (by omega) (by omega) (by omega))
  have k : ∀ j, ¬ (j = 4 ∨ j = 5 ∨ (70 ≤ j ∧ j ≤ 73)) → X1.1 j = X.1 j := hx
  have hX2 : X1.2.2 = X.2.2 := by rw [hx2]
  refine ⟨?_, ⟨?_, ?_, ?_, hs⟩, h3.cg (fun j hj => hb j (by omega) (by omega) (by omega)), ⟨?_, ?_, ?_, p4.cg (hb 18 (by omega) (by omega) (by omega)) (hb 17 (by omega) (by omega) (by omega)), p5.cg e3 e14 e21 (fun j g1 g2 => hb j (by omega) (by omega) (by omega)), hp, ?_⟩, by rw [hm2]; exact h5⟩
  · obtain ⟨g1, g2, g3, g4, g5, g6, g7, g8⟩ := h1
    refine ⟨?_, ?_, ?_, g4.cg (by rw [k 20 (by omega)]) (fun r => k _ (by omega)) (hb 9 (by omega) (by omega) (by omega)) e3, ?_, ?_, ?_, g8.cg (k 0 (by omega)) (k 1 (by omega)) (k 19 (by omega)) (by rw [hX2]) (k 76 (by omega)) (fun t => k _ (by omega)) (fun t => k _ (by omega)) (hb 19 (by omega) (by omega) (by omega)) (hb 20 (by omega) (by omega) (by omega)) (hb 21 (by omega) (by omega) (by omega)) (hb 22 (by omega) (by omega) (by omega))⟩
    · unfold RS_n at g1 ⊢
      rw [k 16 (by omega), k 17 (by omega), k 18 (by omega), hX2, e3, hb 3 (by omega) (by omega) (by omega), hb 10 (by omega) (by omega) (by omega), hb 14 (by omega) (by omega) (by omega)]
      exact g1
    · unfold RS_k at g2 ⊢
      rw [k 8 (by omega), k 9 (by omega), k 10 (by omega), hb 0 (by omega) (by omega) (by omega), hb 1 (by omega) (by omega) (by omega), hb 2 (by omega) (by omega) (by omega)]
      exact g2
    · unfold RS_r at g3 ⊢
      rw [k 54 (by omega), k 55 (by omega), k 56 (by omega), k 57 (by omega), k 58 (by omega), k 59 (by omega), k 60 (by omega), k 61 (by omega), k 62 (by omega), k 63 (by omega), e3, hb 4 (by omega) (by omega) (by omega), hb 5 (by omega) (by omega) (by omega), hb 6 (by omega) (by omega) (by omega), hb 7 (by omega) (by omega) (by omega), hb 8 (by omega) (by omega) (by omega)]
      exact g3
    · unfold RS_p at g5 ⊢
      rw [k 11 (by omega), k 12 (by omega), k 13 (by omega), k 21 (by omega), e10, hb 11 (by omega) (by omega) (by omega), hb 12 (by omega) (by omega) (by omega), hb 13 (by omega) (by omega) (by omega)]
      exact g5
    · unfold RS_o at g6 ⊢
      rw [k 14 (by omega), k 15 (by omega), e14, hb 15 (by omega) (by omega) (by omega), hb 16 (by omega) (by omega) (by omega)]
      exact g6
    · unfold RS_h at g7 ⊢
      rw [k 24 (by omega), k 22 (by omega), k 23 (by omega), e3, hb 23 (by omega) (by omega) (by omega), hb 24 (by omega) (by omega) (by omega)]
      exact g7
  · unfold RZ at t1 ⊢
    rw [k 20 (by omega), k 21 (by omega), k 24 (by omega)]
    exact t1
  · unfold RT_tape at t2 ⊢
    rw [k 2 (by omega), k 3 (by omega), e18, hb 18 (by omega) (by omega) (by omega), hb 17 (by omega) (by omega) (by omega)]
    exact t2
  · unfold RT_img at t3 ⊢
    rw [k 26 (by omega), k 27 (by omega), k 28 (by omega), k 29 (by omega), k 30 (by omega), k 31 (by omega), k 32 (by omega), k 33 (by omega), k 34 (by omega), k 35 (by omega), k 36 (by omega), k 37 (by omega), e26, e27, hb 25 (by omega) (by omega) (by omega), hb 26 (by omega) (by omega) (by omega), hb 27 (by omega) (by omega) (by omega), hb 28 (by omega) (by omega) (by omega), hb 29 (by omega) (by omega) (by omega), hb 30 (by omega) (by omega) (by omega), hb 31 (by omega) (by omega) (by omega), hb 32 (by omega) (by omega) (by omega), hb 33 (by omega) (by omega) (by omega), hb 34 (by omega) (by omega) (by omega), hb 35 (by omega) (by omega) (by omega), hb 36 (by omega) (by omega) (by omega)]
    exact t3
  · rw [e3, hb 7 (by omega) (by omega) (by omega)]; exact p1
  · rw [e10, hb 12 (by omega) (by omega) (by omega)]; exact p2
  · rw [hb 23 (by omega) (by omega) (by omega)]; exact p3
  · unfold IP_z at p7 ⊢
    rw [e3, hb 7 (by omega) (by omega) (by omega), hb 8 (by omega) (by omega) (by omega), hb 9 (by omega) (by omega) (by omega)]
    exact p7
theorem px_sheetL {s m : Nat} (hs : s < 4) (hm : m ≤ 60) : ∀ (k i n : Nat) (Y : xS), i + k = m → k < n → ∃ Z, xf_X_sheet_L68 N (nI s) (nI m) n Y (nI i) = some Z ∧ Z.2 = Y.2 ∧ (∀ j, j ≠ 70 + s → Z.1 j = Y.1 j) ∧ ∀ t, i ≤ t → t < m → Z.1 (70 + s) t = 0
  | 0, i, n + 1, Y, hk, _ => by
    refine ⟨Y, ?_, rfl, fun _ _ => rfl, fun t h1 h2 => by omega⟩
    rw [xf_X_sheet_L68, if_pos (sm_len (by omega) (by omega))]
  | k + 1, i, n + 1, Y, hk, hn => by
    have aux : ∀ (k i n : Nat) (Y Z : xS), xf_X_sheet_L68 N (nI s) (nI m) n Y (nI i) = some Z → i + k = m → k < n → ∀ t, t < i → Z.1 (70 + s) t = Y.1 (70 + s) t := by
      intro k
      induction k with
      | zero =>
        intro i n Y Z h h1 h2 t ht
        cases n with
        | zero => omega
        | succ n =>
          rw [xf_X_sheet_L68, if_pos (sm_len (by omega) (by omega))] at h
          cases h
          rfl
      | succ k ih =>
        intro i n Y Z h h1 h2 t ht
        cases n with
        | zero => omega
        | succ n =>
          rw [xf_X_sheet_L68, if_neg (sm_nle (by omega) (by omega)), if_pos (sm_ok hs (by omega)), if_pos (sm_ok (show i < 60 by omega) (by omega)), sm_clamp (show s < 100000000 by omega), sm_clamp (show i < 100000000 by omega), ← nI_succ] at h
          rw [ih (i + 1) n _ Z h (by omega) (by omega) t (by omega), xs_same, upd_at, if_neg (by omega)]
    obtain ⟨Z, z1, z2, z3, z4⟩ := px_sheetL hs hm k (i + 1) n (xs Y (70 + s) i 0) (by omega) (by omega)
    refine ⟨Z, ?_, z2, fun j hj => by rw [z3 j hj, xs_ne hj], fun t h1 h2 => ?_⟩
    · rw [xf_X_sheet_L68, if_neg (sm_nle (by omega) (by omega)), if_pos (sm_ok hs (by omega)), if_pos (sm_ok (show i < 60 by omega) (by omega)), sm_clamp (show s < 100000000 by omega), sm_clamp (show i < 100000000 by omega), ← nI_succ]
      exact z1
    · by_cases e : t = i
      · subst e
        rw [aux k (t + 1) n _ Z z1 (by omega) (by omega) t (by omega), xs_same, pk_us]
      · exact z4 t (by omega) h2
theorem md_sheetL {s : Nat} (hs : s < 4) : ∀ (k i n : Nat) (Y : mS), i + k = 60 → k < n → ∃ Z, mf_sheet_L70 N (nI s) n Y (nI i) = some Z ∧ Z.2 = Y.2 ∧ (∀ j, j ≠ 39 → Z.1 j = Y.1 j) ∧ ∀ t, Z.1 39 t = if 60 * s + i ≤ t ∧ t < 60 * s + 60 then 0 else Y.1 39 t
  | 0, i, n + 1, Y, hk, _ => by
    have hi : i = 60 := by omega
    subst hi
    refine ⟨Y, ?_, rfl, fun _ _ => rfl, fun t => by rw [if_neg (by omega)]⟩
    rw [mf_sheet_L70, if_pos (show (60 : Int32) ≤ nI 60 from sm_len (n := 60) (m := 60) (by omega) (by omega))]
  | k + 1, i, n + 1, Y, hk, hn => by
    obtain ⟨Z, z1, z2, z3, z4⟩ := md_sheetL hs k (i + 1) n (ms Y 39 (60 * s + i) 0) (by omega) (by omega)
    refine ⟨Z, ?_, z2, fun j hj => by rw [z3 j hj, ms_ne hj], fun t => ?_⟩
    · rw [mf_sheet_L70, if_neg (show ¬ (60 : Int32) ≤ nI i from sm_nle (n := 60) (by omega) (by omega)), ix60, if_pos (sm_ok (show 60 * s + i < 240 by omega) (by omega)), sm_clamp (show 60 * s + i < 100000000 by omega), ← nI_succ]
      exact z1
    · rw [z4 t, ms_same, upd_at]
      by_cases e : t = 60 * s + i
      · rw [if_neg (by omega), if_pos e, if_pos (by omega)]
      · by_cases h2 : 60 * s + (i + 1) ≤ t ∧ t < 60 * s + 60
        · rw [if_pos h2, if_pos (by omega)]
        · rw [if_neg h2, if_neg e, if_neg (by omega)]
theorem st_sheet (hN : 2000 ≤ N) (h : Rl X M) (x y z : Int32) : ∃ r X1 M1, xf_X_sheet N X x y z = some (r, X1) ∧ mf_sheet N M x y z = some (r, M1) ∧ Rl X1 M1 := by
  obtain ⟨h1, h2, h3, h4, h5⟩ := id h
  unfold xf_X_sheet mf_sheet
  rw [isIn_in, isIn_in]
  cases hx : mf_in x 0 3 with
  | false => exact ⟨_, X, M, rfl, rfl, h⟩
  | true =>
    cases hy : mf_in y (-1) 2 with
    | false => exact ⟨_, X, M, rfl, rfl, h⟩
    | true =>
      obtain ⟨s, hs, rfl⟩ := in_nat (n := 3) (by omega) hx
      have hs4 : s < 4 := by omega
      have hyv := in_iff.mp hy
      rw [if_pos rfl, if_pos rfl, if_pos rfl, if_pos rfl, sm_clamp (show s < 100000000 by omega)]
      simp only [if_pos (sm_ok hs4 (show 4 < 100000000 by omega))]
      by_cases y1 : y = -1
      · subst y1
        obtain ⟨Z, z1, z2, z3, z4⟩ := md_sheetL (N := N) hs4 60 0 N (ms (ms M 37 s (-1)) 38 s 0) (by omega) (by omega)
        rw [nI_0] at z1
        simp only [if_true, bm0_inr]
        rw [z1, bs1]
        refine ⟨_, _, Z, rfl, rfl, h.sheets (fun j hj => xs_ne (by omega)) rfl (fun j e1 e2 e3 => by rw [z3 j e3, ms_ne e2, ms_ne e1]) z2 ?_ ?_⟩
        · intro q hq
          have e37 : mC Z 37 = upd (M.1 37) s (-1) := (z3 37 (by omega)).trans ((ms_ne (by omega)).trans ms_same)
          have e38 : mC Z 38 = upd (M.1 38) s 0 := (z3 38 (by omega)).trans (ms_same.trans (by rw [ms_ne (by omega)]))
          have e39 : ∀ t, mC Z 39 t = if 60 * s + 0 ≤ t ∧ t < 60 * s + 60 then 0 else M.1 39 t := z4
          have hold := h2.2.2.2 q hq
          rw [e37, upd_at]
          by_cases e : q = s
          · subst e
            rw [if_pos rfl, xs_same, pk_us]
            exact ⟨rfl, fun hh => absurd rfl hh⟩
          · rw [if_neg e, xs_same, upd_at, if_neg e]
            refine ⟨hold.1, fun hh => ?_⟩
            obtain ⟨o1, o2⟩ := hold.2 hh
            have ess : ss (mC Z) q = ss (mC M) q := by
              show (mC Z 38 q).toNatClampNeg = (M.1 38 q).toNatClampNeg
              rw [e38, upd_at, if_neg e]
            rw [xs_ne (by omega), e38, upd_at, if_neg e, ess]
            refine ⟨o1, fun t ht => ?_⟩
            have h60 := (h4.2.2.2.2.2.1 q hq).2 hh
            rw [xs_ne (by omega), e39, if_neg (by omega)]
            exact o2 t ht
        · intro q hq
          have e37 : mC Z 37 = upd (M.1 37) s (-1) := (z3 37 (by omega)).trans ((ms_ne (by omega)).trans ms_same)
          have e38 : mC Z 38 = upd (M.1 38) s 0 := (z3 38 (by omega)).trans (ms_same.trans (by rw [ms_ne (by omega)]))
          have hold := h4.2.2.2.2.2.1 q hq
          rw [e37, upd_at]
          by_cases e : q = s
          · rw [if_pos e]
            exact ⟨⟨by decide, by decide⟩, fun hh => absurd rfl hh⟩
          · have ess : ss (mC Z) q = ss (mC M) q := by
              show (mC Z 38 q).toNatClampNeg = (M.1 38 q).toNatClampNeg
              rw [e38, upd_at, if_neg e]
            rw [if_neg e, e38, upd_at, if_neg e, ess]
            exact hold
      · simp only [if_neg y1]
        by_cases z60 : z ≤ 60
        · simp only [if_pos z60, bm0_inr]
          by_cases z0 : (0 : Int32) ≤ z
          · simp only [if_pos z0, bm0_inr]
            rw [fa_le] at z60 z0
            have z60' : z.toInt ≤ 60 := z60
            have z0' : 0 ≤ z.toInt := z0
            obtain ⟨m, hm, rfl, _⟩ := iv_ex (hi := 60) (x := z) ⟨z0', z60'⟩
            obtain ⟨V, v1, v2, v3, v4⟩ := px_sheetL (N := N) hs4 hm m 0 N (xs (xs X 4 s y) 5 s (nI m)) (by omega) (by omega)
            obtain ⟨Z, z1, z2, z3, z4⟩ := md_sheetL (N := N) hs4 60 0 N (ms (ms M 37 s y) 38 s (nI m)) (by omega) (by omega)
            rw [nI_0] at v1 z1
            rw [v1, bs1, z1, bs1]
            have e37 : mC Z 37 = upd (M.1 37) s y := (z3 37 (by omega)).trans ((ms_ne (by omega)).trans ms_same)
            have e38 : mC Z 38 = upd (M.1 38) s (nI m) := (z3 38 (by omega)).trans (ms_same.trans (by rw [ms_ne (by omega)]))
            have e39 : ∀ t, mC Z 39 t = if 60 * s + 0 ≤ t ∧ t < 60 * s + 60 then 0 else M.1 39 t := z4
            refine ⟨_, V, Z, rfl, rfl, h.sheets (fun j hj => by rw [v3 j (by omega), xs_ne (by omega), xs_ne (by omega)]) v2 (fun j e1 e2 e3 => by rw [z3 j e3, ms_ne e2, ms_ne e1]) z2 ?_ ?_⟩
            · intro q hq
              have hold := h2.2.2.2 q hq
              rw [e37, upd_at, v3 4 (by omega), xs_ne (by omega), xs_same, upd_at, v3 5 (by omega), xs_same, upd_at, xs_ne (by omega), e38, upd_at]
              by_cases e : q = s
              · subst e
                have ess : ss (mC Z) q = m := by
                  show (mC Z 38 q).toNatClampNeg = m
                  rw [e38, pk_us, sm_clamp (by omega)]
                rw [if_pos rfl, if_pos rfl, if_pos rfl, if_pos rfl, ess]
                refine ⟨rfl, fun _ => ⟨rfl, fun t ht => ?_⟩⟩
                rw [v4 t (by omega) ht, e39, if_pos (by omega)]
              · have ess : ss (mC Z) q = ss (mC M) q := by
                  show (mC Z 38 q).toNatClampNeg = (M.1 38 q).toNatClampNeg
                  rw [e38, upd_at, if_neg e]
                rw [if_neg e, if_neg e, if_neg e, if_neg e, ess]
                refine ⟨hold.1, fun hh => ?_⟩
                obtain ⟨o1, o2⟩ := hold.2 hh
                refine ⟨o1, fun t ht => ?_⟩
                have h60 := (h4.2.2.2.2.2.1 q hq).2 hh
                rw [v3 (70 + q) (by omega), xs_ne (by omega), xs_ne (by omega), e39, if_neg (by omega)]
                exact o2 t ht
            · intro q hq
              have hold := h4.2.2.2.2.2.1 q hq
              rw [e37, upd_at]
              by_cases e : q = s
              · have ess : ss (mC Z) q = m := by
                  show (mC Z 38 q).toNatClampNeg = m
                  rw [e38, e, pk_us, sm_clamp (by omega)]
                rw [if_pos e, ess]
                refine ⟨hyv, fun _ => ⟨by rw [e38, e, pk_us], hm⟩⟩
              · have ess : ss (mC Z) q = ss (mC M) q := by
                  show (mC Z 38 q).toNatClampNeg = (M.1 38 q).toNatClampNeg
                  rw [e38, upd_at, if_neg e]
                rw [if_neg e, e38, upd_at, if_neg e, ess]
                exact hold
          · simp only [if_neg z0, bm0_inl]
            exact ⟨_, X, M, rfl, rfl, h⟩
        · simp only [if_neg z60, bm0_inl]
          exact ⟨_, X, M, rfl, rfl, h⟩
theorem Rl.cell {s i : Nat} {v : Int32} (h : Rl X M) (hs : s < 4) (hm : ¬ mC M 37 s = -1) (hi : i < ss (mC M) s) : Rl (xs X (70 + s) i v) (ms M 39 (60 * s + i) v) := by
  have h60s := (h.2.2.2.1.2.2.2.2.2.1 s hs).2 hm
  refine h.sheets (fun j hj => xs_ne (by omega)) rfl (fun j e1 e2 e3 => ms_ne e3) rfl (fun q hq => ?_) h.2.2.2.1.2.2.2.2.2.1
  have hold := h.2.1.2.2.2 q hq
  rw [xs_ne (by omega), xs_ne (by omega)]
  refine ⟨hold.1, fun hh => ?_⟩
  obtain ⟨o1, o2⟩ := hold.2 hh
  refine ⟨o1, fun t ht => ?_⟩
  have h60 := (h.2.2.2.1.2.2.2.2.2.1 q hq).2 hh
  have ht2 : t < ss (mC M) q := ht
  show (xs X (70 + s) i v).1 (70 + q) t = upd (M.1 39) (60 * s + i) v (60 * q + t)
  rw [upd_at]
  by_cases e : q = s
  · subst e
    rw [xs_same, upd_at]
    by_cases e2 : t = i
    · rw [if_pos e2, if_pos (by omega)]
    · rw [if_neg e2, if_neg (by omega)]
      exact o2 t ht
  · rw [xs_ne (by omega), if_neg (by omega)]
    exact o2 t ht
theorem st_cell (h : Rl X M) (x y z : Int32) : ∃ r X1 M1, xf_X_cell N X x y z = some (r, X1) ∧ mf_cell N M x y z = some (r, M1) ∧ Rl X1 M1 := by
  have hc := refusal_cases (N := N) h x
  obtain ⟨h1, h2, h3, h4, h5⟩ := id h
  unfold xf_X_cell mf_cell
  rcases hc with ⟨s, hs, rfl, c1, c2, c3⟩ | ⟨s, hs, rfl, c1, c2, c3⟩ | ⟨c1, c2⟩
  · have c2' : ¬ M.1 37 s = -1 := c2
    obtain ⟨o0, o⟩ := h2.2.2.2 s hs
    obtain ⟨o1, o2⟩ := o c2
    obtain ⟨s1, s2⟩ := (h4.2.2.2.2.2.1 s hs).2 c2
    have e38 : M.1 38 s = nI (ss (mC M) s) := s1
    have e5 : X.1 5 s = nI (ss (mC M) s) := o1.trans s1
    have e4 : X.1 4 s = M.1 37 s := o0
    rw [c3, bs1, if_pos rfl, c1, if_pos rfl, if_pos (sm_ok hs (by omega)), if_pos (sm_ok hs (by omega)), sm_clamp (show s < 100000000 by omega), if_neg c2', e38, e5, e4]
    rcases cnt_cases y (n := ss (mC M) s) (by omega) with ⟨j, hj, rfl, d1, d2, d3, d4⟩ | ⟨d1, d2 | ⟨d2, d3, d4⟩⟩
    · rw [if_neg d2, if_pos d4, if_pos d1, ix60, sm_clamp (show j < 100000000 by omega), sm_clamp (show 60 * s + j < 100000000 by omega)]
      simp only [if_pos (sm_ok (show j < 60 by omega) (show 60 < 100000000 by omega)), if_pos (sm_ok (show 60 * s + j < 240 by omega) (show 240 < 100000000 by omega))]
      by_cases e0 : M.1 37 s = 0
      · rw [if_pos e0, if_pos e0]
        exact ⟨_, _, _, rfl, rfl, h.cell hs c2 hj⟩
      · rw [if_neg e0, if_neg e0]
        by_cases e1 : M.1 37 s = 1
        · rw [if_pos e1, if_pos e1]
          exact ⟨_, _, _, rfl, rfl, h.cell hs c2 hj⟩
        · rw [if_neg e1, if_neg e1]
          exact ⟨_, _, _, rfl, rfl, h.cell hs c2 hj⟩
    · rw [if_pos d2, d1]
      exact ⟨_, X, M, rfl, rfl, h⟩
    · rw [if_neg d2, if_neg d4, d1]
      exact ⟨_, X, M, rfl, rfl, h⟩
  · have c2' : M.1 37 s = -1 := c2
    rw [c3, bs1, if_neg (show ¬ (-11 : Int32) = 0 by decide), c1, if_pos rfl, if_pos (sm_ok hs (by omega)), sm_clamp (show s < 100000000 by omega), if_pos c2']
    exact ⟨_, X, M, rfl, rfl, h⟩
  · rw [c1, c2]
    exact ⟨_, X, M, rfl, rfl, h⟩
theorem sitters_L (hN : 2000 ≤ N) {s : Nat} (hs : s < 4) {z : Int32} {m : Nat} (hm : m ≤ 8) : ∀ (k i n : Nat) (X : xS) (M : mS) (v : Int32), Rl X M → ¬ mC M 37 s = -1 → i + k = m → k < n → ∃ ans X1 M1, (xf_X_sitters_L64 N (nI s) z (nI m) n X v (nI i) = some (.inl (ans, X1)) ∧ mf_sitters_L64 N (nI s) z (nI m) n M v (nI i) = some (.inl (ans, M1)) ∨ xf_X_sitters_L64 N (nI s) z (nI m) n X v (nI i) = some (.inr (ans, X1)) ∧ mf_sitters_L64 N (nI s) z (nI m) n M v (nI i) = some (.inr (ans, M1))) ∧ Rl X1 M1
  | 0, i, n + 1, X, M, v, h, hc, hk, _ => by
    refine ⟨v, X, M, .inr ⟨?_, ?_⟩, h⟩
    · rw [xf_X_sitters_L64, if_pos (sm_len (by omega) (by omega))]
    · rw [mf_sitters_L64, if_pos (sm_len (by omega) (by omega))]
  | k + 1, i, n + 1, X, M, v, h, hc, hk, hn => by
    obtain ⟨o1, o2⟩ := (h.2.1.2.2.2 s hs).2 hc
    obtain ⟨s1, s2⟩ := (h.2.2.2.1.2.2.2.2.2.1 s hs).2 hc
    have e38 : M.1 38 s = nI (ss (mC M) s) := s1
    have e5 : X.1 5 s = nI (ss (mC M) s) := o1.trans s1
    rw [xf_X_sitters_L64, mf_sitters_L64, if_neg (sm_nle (by omega) (by omega)), if_neg (sm_nle (by omega) (by omega)), if_pos (sm_ok hs (by omega)), if_pos (sm_ok hs (by omega)), sm_clamp (show s < 100000000 by omega), e38, e5]
    by_cases hi : i < ss (mC M) s
    · have hlt : nI i < nI (ss (mC M) s) := (sm_lt (by omega) (by omega)).mpr hi
      have ec : X.1 (70 + s) i = M.1 39 (60 * s + i) := o2 i hi
      obtain ⟨r, X1, M1, q1, q2, q3, q4⟩ := st_sit2 (N := N) h z (nI i) (M.1 39 (60 * s + i))
      have hc1 : ¬ mC M1 37 s = -1 := by
        have : mC M1 37 s = mC M 37 s := congrFun (q4 37 (by omega)) s
        rw [this]
        exact hc
      rw [if_pos hlt, if_pos hlt, if_pos (sm_ok (show i < 60 by omega) (by omega)), ix60, if_pos (sm_ok (show 60 * s + i < 240 by omega) (by omega)), sm_clamp (show i < 100000000 by omega), sm_clamp (show 60 * s + i < 100000000 by omega), ec, q1, bs2, q2, bs2, ← nI_succ]
      by_cases hr : r < 0
      · obtain ⟨ans, X2, M2, p1, p2⟩ := sitters_L hN hs (z := z) hm k (i + 1) n X1 M1 v q3 hc1 (by omega) (by omega)
        refine ⟨ans, X2, M2, ?_, p2⟩
        rw [if_pos hr, if_pos hr, Int32.add_zero]
        exact p1
      · obtain ⟨ans, X2, M2, p1, p2⟩ := sitters_L hN hs (z := z) hm k (i + 1) n X1 M1 (v + 1) q3 hc1 (by omega) (by omega)
        refine ⟨ans, X2, M2, ?_, p2⟩
        rw [if_neg hr, if_neg hr]
        exact p1
    · have hlt : ¬ nI i < nI (ss (mC M) s) := fun hh => hi ((sm_lt (by omega) (by omega)).mp hh)
      rw [if_neg hlt, if_neg hlt]
      exact ⟨_, X, M, .inl ⟨rfl, rfl⟩, h⟩
theorem st_sitters (hN : 2000 ≤ N) (h : Rl X M) (x y z w : Int32) : ∃ r X1 M1, xf_X_sitters N X x y z w = some (r, X1) ∧ mf_sitters N M x y z w = some (r, M1) ∧ Rl X1 M1 := by
  obtain ⟨h1, h2, h3, h4, h5⟩ := id h
  unfold xf_X_sitters mf_sitters
  rw [isIn_in, isIn_in, isIn_in]
  cases hx : mf_in x 0 3 with
  | false => exact ⟨_, X, M, rfl, rfl, h⟩
  | true =>
    cases hy : mf_in y 0 2 with
    | false => exact ⟨_, X, M, rfl, rfl, h⟩
    | true =>
      cases hw : mf_in w 0 8 with
      | false => exact ⟨_, X, M, rfl, rfl, h⟩
      | true =>
        obtain ⟨s, hs, rfl⟩ := in_nat (n := 3) (by omega) hx
        obtain ⟨m, hm, rfl⟩ := in_nat (n := 8) (by omega) hw
        have hs4 : s < 4 := by omega
        have e4 : X.1 4 s = M.1 37 s := (h2.2.2.2 s hs4).1
        simp only [if_true, if_pos (sm_ok hs4 (show 4 < 100000000 by omega)), sm_clamp (show s < 100000000 by omega), e4]
        by_cases c2 : M.1 37 s = -1
        · rw [if_pos c2, if_pos c2]
          exact ⟨_, X, M, rfl, rfl, h⟩
        · rw [if_neg c2, if_neg c2]
          by_cases c3 : M.1 37 s = y
          · rw [if_pos c3, if_pos c3]
            obtain ⟨ans, X1, M1, p1, p2⟩ := sitters_L hN hs4 (z := z) hm m 0 N X M 0 h c2 (by omega) (by omega)
            rw [nI_0] at p1
            rcases p1 with ⟨p1, p3⟩ | ⟨p1, p3⟩
            · rw [p1, p3]
              exact ⟨_, X1, M1, rfl, rfl, p2⟩
            · rw [p1, p3]
              exact ⟨_, X1, M1, rfl, rfl, p2⟩
          · rw [if_neg c3, if_neg c3]
            exact ⟨_, X, M, rfl, rfl, h⟩
end A
end PSET2
