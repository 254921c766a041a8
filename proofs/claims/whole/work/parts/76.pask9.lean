section PASK9
section A
variable {N : Nat} {a : aS} {r : Nat}
theorem md_raisesL (hN : 2000 ≤ N) {M : mS} (hA : mC M = a) (hI : IS a) (hr : r < nr a) : ∀ (k v n : Nat) (x : Int32), v + k = 100 → k < n → ∃ y, (match fFirst (fun w => !fMiss (fUp a r w) r) k v with
    | some w => mf_raises_L2 N (nI r) n (ms M 7 r x) (nI v) = some (.inl (nI w, ms M 7 r y)) ∧ y = nI w
    | none => mf_raises_L2 N (nI r) n (ms M 7 r x) (nI v) = some (.inr (ms M 7 r y)))
  | 0, v, n + 1, x, hk, _ => by
    have hv : v = 100 := by omega
    subst hv
    refine ⟨x, ?_⟩
    show mf_raises_L2 N (nI r) (n + 1) (ms M 7 r x) (nI 100) = _
    rw [mf_raises_L2, if_pos (show (99 : Int32) < nI 100 by decide)]
  | k + 1, v, n + 1, x, hk, hn => by
    have h6 := hI.hr6 hr
    have hlt : ¬ (99 : Int32) < nI v := fun hh => by
      have := (sm_lt (n := 99) (by omega) (by omega)).mp hh
      omega
    have hA1 : mC (ms M 7 r (nI v)) = fUp a r v := by rw [mC_aw rfl, hA]; rfl
    have hIv := fUp_ok (r := r) hI (show v ≤ 100 by omega)
    have hs := md_allSee hN hIv hA1 (r := r) hr
    rw [fFirst]
    cases hm : fMiss (fUp a r v) r with
    | false =>
      refine ⟨nI v, ?_⟩
      simp only [Bool.not_false, if_true]
      refine ⟨?_, trivial⟩
      rw [mf_raises_L2, if_neg hlt, if_pos (sm_ok h6 (by omega)), sm_clamp (show r < 100000000 by omega), ms_ms, hs, bs1, hm]
      rfl
    | true =>
      obtain ⟨y, hy⟩ := md_raisesL hN hA hI hr k (v + 1) n (nI v) (by omega) (by omega)
      refine ⟨y, ?_⟩
      have hstep : mf_raises_L2 N (nI r) (n + 1) (ms M 7 r x) (nI v) = mf_raises_L2 N (nI r) n (ms M 7 r (nI v)) (nI (v + 1)) := by
        rw [mf_raises_L2, if_neg hlt, if_pos (sm_ok h6 (by omega)), sm_clamp (show r < 100000000 by omega), ms_ms, hs, bs1, hm, nI_succ]
        rfl
      rw [hstep]
      exact hy
theorem md_raises (hN : 2000 ≤ N) {M : mS} (hA : mC M = a) (hI : IS a) (hr : r < nr a) {v : Nat} (hv : v ≤ 99) : ∃ y, mf_raises N M (nI r) (nI v) = some (fLeastI a r v, ms M 7 r y) ∧ (fLeastI a r v = y ∨ fLeastI a r v = -1) := by
  have hself : ms M 7 r (M.1 7 r) = M := by rw [ms_as, upd_self rfl, mset_self]
  obtain ⟨y, hy⟩ := md_raisesL hN hA hI hr (100 - v) v N (M.1 7 r) (by omega) (by omega)
  rw [hself] at hy
  unfold mf_raises fLeastI fLeast
  cases hf : fFirst (fun w => !fMiss (fUp a r w) r) (100 - v) v with
  | some w =>
    rw [hf] at hy
    obtain ⟨h1, h2⟩ := hy
    rw [h1]
    exact ⟨y, rfl, .inl h2.symm⟩
  | none =>
    rw [hf] at hy
    have h1 : mf_raises_L2 N (nI r) N M (nI v) = some (.inr (ms M 7 r y)) := hy
    rw [h1]
    exact ⟨y, rfl, .inr rfl⟩
theorem st_needs {X : xS} {M : mS} (hN : 2000 ≤ N) (h : Rl X M) (x : Int32) : ∃ r X1 M1, xf_X_needs N X x = some (r, X1) ∧ mf_needs N M x = some (r, M1) ∧ Rl X1 M1 := by
  have hh := rowAt_cases (N := N) h x
  obtain ⟨h1, h2, h3, h4, h5⟩ := id h
  unfold xf_X_needs mf_needs
  rcases hh with ⟨r, hr, rfl, q1, q2⟩ | ⟨q1, q2⟩
  · have h6 := h3.hr6 hr
    obtain ⟨Z, z1, z2⟩ := px_leastFloor hN h3 h1 hr (v := 0) (by omega)
    have m1 := md_keep (N := N) (M := M) hN
    obtain ⟨y, m2, _⟩ := md_raises hN (M := mset M 51 (fill (M.1 7) (M.1 51) 6)) (mL_mset (by omega)).1 h3 hr (v := 0) (by omega)
    have m3 := md_layback (N := N) (M := ms (mset M 51 (fill (M.1 7) (M.1 51) 6)) 7 r y) hN
    rw [nI_0] at z1 m2
    have hM := rises_backM (M := M) (Y := ms (mset M 51 (fill (M.1 7) (M.1 51) 6)) 7 r y) (f := upd (M.1 7) r y) (by
      rw [ms_as]
      exact mE.refl _) (fun k hk => by rw [upd_at, if_neg (by omega)])
    rw [q1, q2, bs1, if_neg (nI_pos (by omega)), if_pos rfl, z1, bs2, m1, bs1, m2, bs2, m3, bs1]
    exact ⟨_, _, _, rfl, rfl, h.sameL z2.l hM⟩
  · rw [q1, q2]
    exact ⟨_, X, M, rfl, rfl, h⟩
theorem fLeastI_cases {v : Nat} (hv : v ≤ 99) : (∃ w, v ≤ w ∧ w ≤ 99 ∧ fLeastI a r v = nI w) ∨ fLeastI a r v = -1 := by
  unfold fLeastI fLeast
  cases hf : fFirst (fun w => !fMiss (fUp a r w) r) (100 - v) v with
  | some w =>
    obtain ⟨f1, f2, f3⟩ := fFirst_some hf
    exact .inl ⟨w, f1, by omega, rfl⟩
  | none => exact .inr rfl
theorem proof_L (hN : 2000 ≤ N) {m : Nat} : ∀ (k q v n : Nat) (X : xS) (M : mS) (a : aS), q + k = m + 1 → m < nr a → v ≤ 99 → RS X a → IS a → mC M = a → k < n → ∃ Y Z ans f g, xf_X_proof_L22 N (nI m) n X (nI v) (nI q) = some (ans, Y) ∧ mf_proof_L19 N (nI m) n M (nI v) (nI q) = some (ans, Z) ∧ xQ (xf X 57 f) Y ∧ (∀ j, nr a ≤ j → f j = X.1 57 j) ∧ mE (mset M 7 g) Z ∧ ∀ j, 6 ≤ j → g j = M.1 7 j
  | 0, q, v, n + 1, X, M, a, hk, hm, hv, hR, hI, hA, _ => by
    have h6 := hI.1.2.1
    have hlt : nI m < nI q := (sm_lt (by omega) (by omega)).mpr (by omega)
    refine ⟨X, M, nI v, X.1 57, M.1 7, ?_, ?_, by rw [xf_self]; exact xQ.refl X, fun _ _ => rfl, by rw [mset_self]; exact mE.refl M, fun _ _ => rfl⟩
    · rw [xf_X_proof_L22, if_pos hlt]
    · rw [mf_proof_L19, if_pos hlt]
  | k + 1, q, v, n + 1, X, M, a, hk, hm, hv, hR, hI, hA, hn => by
    have h6 := hI.1.2.1
    have hq : q < nr a := by omega
    have hlt : ¬ nI m < nI q := fun hh => by
      have := (sm_lt (by omega) (by omega)).mp hh
      omega
    obtain ⟨Z, z1, z2⟩ := px_leastFloor hN hI hR hq hv
    obtain ⟨y, m1, m2⟩ := md_raises hN hA hI hq hv
    have hqX : q < X.2.2.1 := by rw [hR.1.2.2.2]; exact hq
    have hqZ : q < Z.2.2.1 := by rw [z2.2]; exact hqX
    rw [xf_X_proof_L22, if_neg hlt, if_neg (nI_ne_m1 (by omega)), if_pos (sm_ok (show q < 6 by omega) (by omega)), sm_clamp (show q < 100000000 by omega), if_pos hqX, z1, bs2, if_pos hqZ, mf_proof_L19, if_neg hlt, if_neg (nI_ne_m1 (by omega)), m1, bs2]
    have hZs : xQ (xs X 57 q (fLeastI a q v)) (xs Z 57 q (fLeastI a q v)) := q_xs rfl z2
    rcases fLeastI_cases (a := a) (r := q) hv with ⟨w, w1, w2, w3⟩ | w3
    · have hy : y = nI w := by
        rcases m2 with e | e
        · rw [← e]; exact w3
        · rw [w3] at e
          exact absurd e (nI_ne_m1 (by omega))
      rw [w3] at hZs ⊢
      rw [hy, ← nI_succ]
      have hR1 := (hR.up (r := q) (v := w)).frame hZs
      have hI1 := fUp_ok (r := q) hI (show w ≤ 100 by omega)
      have hA1 : mC (ms M 7 q (nI w)) = fUp a q w := by rw [mC_aw rfl, hA]; rfl
      obtain ⟨Y, V, ans, f, g, p1, p2, p3, p4, p5, p6⟩ := proof_L hN (m := m) k (q + 1) w n (xs Z 57 q (nI w)) (ms M 7 q (nI w)) (fUp a q w) (by omega) hm w2 hR1 hI1 hA1 (by omega)
      refine ⟨Y, V, ans, f, g, p1, p2, ?_, fun j hj => ?_, ?_, fun j hj => ?_⟩
      · have := q_xf (k := 57) (f := f) hZs
        rw [xs_as, xf_xf] at this
        exact this.trans p3
      · have hj2 : nr a ≤ j := hj
        rw [p4 j hj, hZs.1 57 rfl, xs_same, upd_at, if_neg (by omega)]
      · rw [ms_as, mset_mset] at p5
        exact p5
      · rw [p6 j hj, ms_same, upd_at, if_neg (by omega)]
    · have hend : ∀ (n : Nat) (Y : xS) (i : Int32), xf_X_proof_L22 N (nI m) (n + 1) Y (-1) i = some (-1, Y) := fun n Y i => by
        rw [xf_X_proof_L22]
        by_cases hi : nI m < i
        · rw [if_pos hi]
        · rw [if_neg hi, if_pos rfl]
      have hend2 : ∀ (n : Nat) (Y : mS) (i : Int32), mf_proof_L19 N (nI m) (n + 1) Y (-1) i = some (-1, Y) := fun n Y i => by
        rw [mf_proof_L19]
        by_cases hi : nI m < i
        · rw [if_pos hi]
        · rw [if_neg hi, if_pos rfl]
      cases n with
      | zero => omega
      | succ n =>
        rw [w3] at hZs ⊢
        refine ⟨_, _, _, upd (X.1 57) q (-1), upd (M.1 7) q y, hend n _ _, hend2 n _ _, ?_, fun j hj => by rw [upd_at, if_neg (by omega)], ?_, fun j hj => by rw [upd_at, if_neg (by omega)]⟩
        · rw [← xs_as]
          exact hZs
        · rw [← ms_as]
          exact mE.refl _
theorem st_proof {X : xS} {M : mS} (hN : 2000 ≤ N) (h : Rl X M) (x : Int32) : ∃ r X1 M1, xf_X_proof N X x = some (r, X1) ∧ mf_proof N M x = some (r, M1) ∧ Rl X1 M1 := by
  have hh := rowAt_cases (N := N) h x
  obtain ⟨h1, h2, h3, h4, h5⟩ := id h
  have h6 := h3.1.2.1
  have e16 : X.1 16 0 = nI (nr (mC M)) := h1.1.1.trans h3.1.1
  have en : X.2.2.1 = nr (mC M) := h1.1.2.2.2
  unfold xf_X_proof mf_proof
  rcases hh with ⟨r, hr, rfl, q1, q2⟩ | ⟨q1, q2⟩
  · have k1 := px_keep (N := N) hN e16 en h6
    have hRK : RS (xf X 6 (fill (X.1 57) (X.1 6) (nr (mC M)))) (mC M) := h1.frameL ⟨fun j hj => xf_ne (fun e => by subst e; exact nomatch hj), rfl⟩
    have m1 := md_keep (N := N) (M := M) hN
    obtain ⟨Y, Z, ans, f, g, p1, p2, p3, p4, p5, p6⟩ := proof_L hN (m := r) (r + 1) 0 0 N (xf X 6 (fill (X.1 57) (X.1 6) (nr (mC M)))) (mset M 51 (fill (M.1 7) (M.1 51) 6)) (mC M) (by omega) hr (by omega) hRK h3 (mL_mset (by omega)).1 (by omega)
    rw [nI_0] at p1 p2
    have yn3 : Y.1 16 0 = nI (nr (mC M)) := (congrFun (p3.1 16 rfl) 0).trans e16
    have yn : Y.2.2.1 = nr (mC M) := by rw [p3.2]; exact en
    have k3 := px_layback (N := N) (a := mC M) (X := Y) hN yn3 yn h6
    have m4 := md_layback (N := N) (M := Z) hN
    have hX := rises_back p3 p4
    have hM := rises_backM p5 p6
    rw [q1, q2, bs1, if_neg (nI_pos (by omega)), if_pos rfl, k1, bs1, p1, bs2, k3, bs1, m1, bs1, p2, bs2, m4, bs1]
    exact ⟨_, _, _, rfl, rfl, h.sameL hX hM⟩
  · rw [q1, q2]
    exact ⟨_, X, M, rfl, rfl, h⟩
end A
end PASK9
