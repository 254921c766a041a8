section PFIRST
/-! the law's first text, and the two first states -/
variable {N : Nat} {b : Nat → Nat} {sz : Nat}
theorem aRun_det : ∀ (n m : Nat) (c : aC) (q q1 : Bool × Nat × List Nat × List Nat), aRun b sz n c = .inl q → aRun b sz m c = .inl q1 → q = q1
  | 0, _, _, _, _, h, _ => nomatch h
  | _ + 1, 0, _, _, _, _, h => nomatch h
  | n + 1, m + 1, c, q, q1, h, h1 => by
    rw [aRun] at h h1
    cases hn : aNext b sz c with
    | inl q2 =>
      rw [hn] at h h1
      exact (Sum.inl.inj h).symm.trans (Sum.inl.inj h1)
    | inr c1 =>
      rw [hn] at h h1
      exact aRun_det n m c1 q q1 h h1
/-- the class reads an expression whose run is known -/
theorem xe_all {i : Nat} {O : List Nat} {X : xS} (hN : 2000 ≤ N) (hX : XE b sz (tB b sz i) O 0 X) (hle : i ≤ sz) (hlen : O.length ≤ i) {n s : Nat} {O2 : List Nat} (hr : aRun b sz n (i, [], O, true, true) = .inl (true, s, [], O2)) : ∃ X1 X2, xr_all N 100 0 X = some X1 ∧ xf_R_expect N X1 59 = some X2 ∧ xU XL X X2 ∧ XE b sz (tB b sz (tE b sz s)) O2 0 X2 := by
  have h160 := hX.1.2.1
  have hlen0 : ([] : List Nat).length + O.length ≤ i := by rw [List.length_nil]; omega
  rcases (xC_all (n0 := O.length) (b := b) (sz := sz) hN 100).1 0 (by omega) i 0 0 [] O true X hle hX rfl (by omega) (dR_base O) (by omega) (by omega) (fun _ => rfl) (fun hh => absurd hh (by omega)) hlen0 True.intro with ⟨X1, s1, a1, a2, a3, n1, H1, O1, a4⟩ | ⟨X1, i1, may1, P, O1, a1, a2, a3, a4, a5, a6, a7⟩
  · exact Bool.noConfusion (congrArg Prod.fst (aRun_det _ _ _ _ _ hr a4))
  · have a6 : ∀ x ∈ P, 1 ≤ rk x := a6
    have a7 : q0 (tK b sz (tB b sz i1)) (P ++ []) := a7
    have hle1 := a3.len hle hlen0
    have hb := tB_le (b := b) hle1.1
    have hk := tK_le (b := b) (sz := sz) (tB b sz i1)
    have hiff := kX_iff hk (tV3 (b := b) (sz := sz) (s := tB b sz i1))
    have hfl : aU 1 (P ++ []) O1 = ([], P.reverse ++ O1) := aU_flush (show tLt 1 ([] : List Nat) from True.intro) P O1 a6
    by_cases k59 : tK b sz (tB b sz i1) = 59
    · obtain ⟨X2, u1, u2, u3⟩ := xr_expect (N := N) (a := 59) hN a4 (hiff.2.2.2.2.2.2.1.mpr k59)
      have hst : aStep (tK b sz (tB b sz i1)) (tV b sz (tB b sz i1)) (P ++ []) O1 false may1 = .inl (true, [], P.reverse ++ O1) := by
        rw [aStep, if_pos k59, hfl]
        rfl
      obtain ⟨n1, hn⟩ := a3
      have hrun : aRun b sz (n1 + 1) (i, [], O, true, true) = .inl (true, tB b sz i1, [], P.reverse ++ O1) := by
        rw [aRun_trans n1 1 _ _ hn, aRun]
        unfold aNext
        dsimp only
        rw [hst]
      have e := aRun_det _ _ _ _ _ hr hrun
      have e1 : s = tB b sz i1 := congrArg (fun z => z.2.1) e
      have e2 : O2 = P.reverse ++ O1 := congrArg (fun z => z.2.2.2) e
      rw [e1, e2]
      exact ⟨X1, X2, a1, u1, a2.trans u3, u2⟩
    · have hfa : ∃ H1 O2, aStep (tK b sz (tB b sz i1)) (tV b sz (tB b sz i1)) (P ++ []) O1 false may1 = .inl (false, H1, O2) := by
        by_cases k41 : tK b sz (tB b sz i1) = 41
        · rw [aStep, if_neg k59, if_pos k41, hfl]
          exact ⟨_, _, if_pos rfl⟩
        · exact aStep_end a7 k41 (fun e => absurd e k59)
      obtain ⟨H1, O3, he⟩ := hfa
      obtain ⟨n1, H3, O4, hf⟩ := a3.fail (aFail.one rfl he)
      exact Bool.noConfusion (congrArg Prod.fst (aRun_det _ _ _ _ _ hr hf))
theorem rd_part {p n i k s : Nat} {O O2 : List Nat} {X : xS} (hN : 2000 ≤ N) (hp : p < 3) (hX : XE b sz (tB b sz i) O 0 X) (hle : i ≤ sz) (hlen : O.length ≤ i) (hk : tK b sz (tB b sz i) = 3) (hv : tV b sz (tB b sz i) = p) (hr : aRun b sz k (tE b sz (tB b sz i), [], O, true, true) = .inl (true, s, [], O2)) : ∃ X1, xf_R_read_L41 N (n + 1) X (nI p) = xf_R_read_L41 N n X1 (nI (p + 1)) ∧ XE b sz (tB b sz (tE b sz s)) O2 0 X1 ∧ xU XL7 X X1 ∧ X1.1 47 p = nI O2.length ∧ ∀ j, j ≠ p → X1.1 47 j = X.1 47 j := by
  have hb := tB_le (b := b) hle
  have hE := tE_le (b := b) hb.2
  have hkey := kX_key (tK_le (b := b) (sz := sz) (tB b sz i)) tK_v (tV3 (b := b) (sz := sz) (s := tB b sz i)) hp
  obtain ⟨k1, k2⟩ := tx_key p hp
  obtain ⟨X1, c1, c2, c3⟩ := xr_expect (N := N) (a := nI (7 + p)) hN hX (hkey.1.mpr ⟨hk, hv⟩)
  obtain ⟨X6, X7, x1, x2, x3, x4⟩ := xe_all (N := N) hN c2 hE.2.1 (by omega) hr
  have hU7 : xU [47] X7 (xs X7 47 p (X7.1 48 0)) := (xU.refl _ _).xs (by decide)
  refine ⟨xs X7 47 p (X7.1 48 0), ?_, x4.fr7 hU7, (c3.mono (by decide)).trans ((x3.mono (by decide)).trans (hU7.mono (by decide))), ?_, fun j hj => ?_⟩
  · rw [xf_R_read_L41, if_neg (show ¬ (3 : Int32) ≤ nI p from sm_nle (n := 3) (by omega) (by omega)), k1, c1, bs1, x1, bs1, x2, bs1, if_pos (sm_ok (by omega) (by omega)), sm_clamp (by omega), show nI p + 1 = nI (p + 1) from nI_add p 1]
  · rw [xs_same, pk_us, x4.2.2.2.2.1]
  · rw [xs_same, upd_at, if_neg hj, x3.1 47 (by decide), c3.1 47 (by decide)]
def lawB : List Nat := [108, 105, 107, 101, 32, 118, 97, 108, 117, 101, 32, 59, 32, 112, 114, 105, 99, 101, 32, 118, 97, 108, 117, 101, 32, 42, 32, 50, 32, 45, 32, 114, 111, 119, 32, 59, 32, 99, 111, 115, 116, 32, 104, 105, 103, 104, 32, 42, 32, 51, 32, 43, 32, 114, 105, 115, 101, 32, 59]
def b0 (j : Nat) : Nat := lawB.getD j 0
def OL0 : List Nat := [0]
def OL1 : List Nat := [17, 2, 18, 100002, 0, 0]
def OL2 : List Nat := [16, 4, 18, 100003, 1, 17, 2, 18, 100002, 0, 0]
theorem law_t0 : tB b0 59 0 = 0 ∧ tK b0 59 0 = 3 ∧ tV b0 59 0 = 0 ∧ tE b0 59 0 = 4 ∧ tE b0 59 11 = 12 := by decide +kernel
theorem law_t1 : tB b0 59 12 = 13 ∧ tK b0 59 13 = 3 ∧ tV b0 59 13 = 1 ∧ tE b0 59 13 = 18 ∧ tE b0 59 35 = 36 := by decide +kernel
theorem law_t2 : tB b0 59 36 = 37 ∧ tK b0 59 37 = 3 ∧ tV b0 59 37 = 2 ∧ tE b0 59 37 = 41 ∧ tE b0 59 58 = 59 ∧ tB b0 59 59 = 59 := by decide +kernel
theorem law_a0 : aRun b0 59 2 (4, [], [], true, true) = .inl (true, 11, [], OL0) := by decide +kernel
theorem law_a1 : aRun b0 59 6 (18, [], OL0, true, true) = .inl (true, 35, [], OL1) := by decide +kernel
theorem law_a2 : aRun b0 59 6 (41, [], OL1, true, true) = .inl (true, 58, [], OL2) := by decide +kernel
theorem b0_256 : ∀ j, j < 59 → b0 j < 256 := by decide +kernel
/-- the class reads its first text -/
theorem rd_first {S : xS} (hN : 2000 ≤ N) (hT : ∀ j, j < 59 → S.1 3 j = cB (b0 j)) : ∃ S1, xf_R_read N S 59 = some (1, S1) ∧ xU XLa S S1 ∧ S1.1 48 0 = 11 ∧ hE (S1.1 46) OL2 ∧ S1.1 47 0 = 1 ∧ S1.1 47 1 = 6 ∧ S1.1 47 2 = 11 := by
  have hUx : xU [38, 39, 40, 41, 45, 48] S (xs (xs (xs (xs (xs (xs S 39 0 0) 40 0 59) 41 0 0) 45 0 0) 48 0 0) 38 0 (-1)) := ((((((xU.refl _ _).xs (by decide)).xs (by decide)).xs (by decide)).xs (by decide)).xs (by decide)).xs (by decide)
  obtain ⟨X0, hX0⟩ : ∃ Y : xS, Y = xs (xs (xs (xs (xs (xs S 39 0 0) 40 0 59) 41 0 0) 45 0 0) 48 0 0) 38 0 (-1) := ⟨_, rfl⟩
  have hT0 : XT b0 59 X0 := by
    subst hX0
    refine ⟨rfl, by omega, fun j hj => ⟨?_, b0_256 j hj⟩, ?_⟩
    · rw [hUx.1 3 (by decide)]; exact hT j hj
    · show ¬ (0 : Int32) < 0
      decide
  have z38 : X0.1 38 0 = -1 := by subst hX0; rfl
  have z41 : X0.1 41 0 = nI 0 := by subst hX0; rfl
  have z45 : X0.1 45 0 = nI 0 := by subst hX0; rfl
  have z48 : X0.1 48 0 = nI 0 := by subst hX0; rfl
  obtain ⟨X1, a1, a2, a3⟩ := px_adv (N := N) hN hT0 z38 z41 (Nat.zero_le _)
  have hbz := tB_le (b := b0) (Nat.zero_le 59)
  have hXE : XE b0 59 (tB b0 59 0) [] 0 X1 := by
    refine ⟨hT0.frame a2 (by decide) (by decide) (by decide), ?_, a3, ?_, ?_, True.intro, hbz.2⟩
    · rw [a2.1 38 (by decide)]; exact z38
    · rw [a2.1 45 (by decide)]; exact z45
    · rw [a2.1 48 (by decide)]; exact z48
  obtain ⟨l0, l1, l2, l3, l4⟩ := law_t0
  obtain ⟨m0, m1, m2, m3, m4⟩ := law_t1
  obtain ⟨r0, r1, r2, r3, r4, r5⟩ := law_t2
  obtain ⟨n, hn⟩ : ∃ n, N = n + 4 := ⟨N - 4, by omega⟩
  obtain ⟨X2, c1, c2, c3, c4, c5⟩ := rd_part (N := N) (p := 0) (n := n + 3) (i := 0) hN (by omega) hXE (by omega) (by decide) (by rw [l0]; exact l1) (by rw [l0]; exact l2) (by rw [l0, l3]; exact law_a0)
  rw [l4] at c2
  obtain ⟨X3, d1, d2, d3, d4, d5⟩ := rd_part (N := N) (p := 1) (n := n + 2) (i := 12) hN (by omega) c2 (by omega) (by decide) (by rw [m0]; exact m1) (by rw [m0]; exact m2) (by rw [m0, m3]; exact law_a1)
  rw [m4] at d2
  obtain ⟨X4, e1, e2, e3, e4, e5⟩ := rd_part (N := N) (p := 2) (n := n + 1) (i := 36) hN (by omega) d2 (by omega) (by decide) (by rw [r0]; exact r1) (by rw [r0]; exact r2) (by rw [r0, r3]; exact law_a2)
  rw [r4, r5] at e2
  have hkey := (kX_key (p := 0) (tK_le (b := b0) (sz := 59) 59) tK_v (tV3 (b := b0) (sz := 59) (s := 59)) (by omega)).2
  obtain ⟨X5, f1, f2, f3⟩ := xr_expect (N := N) (a := 0) hN e2 (hkey.mpr (tK_end b0 59))
  have hL : xf_R_read_L41 N N X1 0 = some X4 := by
    have h1 : xf_R_read_L41 N (n + 4) X1 (nI 0) = some X4 := by
      rw [c1, d1, e1, xf_R_read_L41, if_pos (show (3 : Int32) ≤ nI (2 + 1) from by decide)]
    rw [← hn] at h1
    exact h1
  have hU : xU XLa S X5 := by
    refine (xU.trans (hUx.mono (by decide)) ?_).trans ((c3.mono (by decide)).trans ((d3.mono (by decide)).trans ((e3.mono (by decide)).trans (f3.mono (by decide)))))
    rw [← hX0]
    exact a2.mono (by decide)
  refine ⟨X5, ?_, hU, f2.2.2.2.2.1, f2.2.2.2.2.2.1, ?_, ?_, ?_⟩
  · unfold xf_R_read
    rw [if_neg (show ¬ (160 : Int32) < 59 from by decide), ← hX0, a1, bs1, hL, bs1, f1, bs1, f2.2.1, if_pos rfl]
  · rw [f3.1 47 (by decide), e5 0 (by omega), d5 0 (by omega), c4]; rfl
  · rw [f3.1 47 (by decide), e5 1 (by omega), d4]; rfl
  · rw [f3.1 47 (by decide), e4]; rfl
end PFIRST
