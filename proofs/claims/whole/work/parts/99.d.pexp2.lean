section PEXP2
variable {N : Nat} {b : Nat → Nat} {sz t : Nat}
/-- both stand before the token at i, with O put out -/
def eP (b : Nat → Nat) (sz t i : Nat) (O : List Nat) (X : xS) (M : mS) : Prop := MT b sz M ∧ M.1 40 0 = nI i ∧ i ≤ sz ∧ M.1 21 0 = nI t ∧ M.1 48 0 = nI O.length ∧ hS (fun k => M.1 19 (200 * t + k)) O ∧ XE b sz (tB b sz i) O 0 X ∧ O.length ≤ i ∧ ∀ x ∈ O, okc x
/-- both have found the fault at s -/
def eF (t s : Nat) (X : xS) (M : mS) : Prop := XF s X ∧ M.1 41 0 = nI s ∧ M.1 21 0 = nI t
theorem ex_all {i : Nat} {O : List Nat} {X : xS} {M : mS} (hN : 2000 ≤ N) (ht : t < 6) (h : eP b sz t i O X M) : ∃ X1 X2 r M1, xr_all N 100 0 X = some X1 ∧ xf_R_expect N X1 59 = some X2 ∧ xU XL X X2 ∧ mf_eRead N M = some (r, M1) ∧ mV t LL M M1 ∧ ((r = false ∧ ∃ s, eF t s X2 M1) ∨ (r = true ∧ ∃ i2 O2, eP b sz t i2 O2 X2 M1 ∧ O <:+ O2 ∧ dR O.length O2 = some 1)) := by
  obtain ⟨hT, hi, hle, h21, h48, h19, hX, hlen, hok⟩ := h
  have h160 := hT.2.1
  have hU0 : mU [46, 47] M (ms (ms M 46 0 0) 47 0 0) := ((mU.refl _ _).ms (by decide)).ms (by decide)
  have hM0 : MH t [] (cO []) O (ms (ms M 46 0 0) 47 0 0) := by
    refine ⟨?_, rfl, True.intro, rfl, ?_, ?_, fun x hx => (nomatch hx)⟩
    · rw [hU0.1 21 (by decide)]; exact h21
    · rw [hU0.1 48 (by decide)]; exact h48
    · rw [hU0.1 19 (by decide)]; exact h19
  have hT0 : MT b sz (ms (ms M 46 0 0) 47 0 0) := hT.frame hU0 (by decide) (by decide)
  have hi0 : (ms (ms M 46 0 0) 47 0 0).1 40 0 = nI i := (congrFun (hU0.1 40 (by decide)) 0).trans hi
  have hV0 : mV t LL M (ms (ms M 46 0 0) 47 0 0) := (hU0.v (by decide)).mono (by decide)
  have hlen0 : ([] : List Nat).length + O.length ≤ i := by rw [List.length_nil]; omega
  have run : ∀ (n : Nat) (r : Bool) (s : Nat) (H1 O1 : List Nat), aRun b sz n (i, [], O, true, true) = .inl (r, s, H1, O1) → ∃ M1, mf_eRead N M = some (r, M1) ∧ MS b sz t s H1 O1 M1 ∧ mV t LL M M1 := fun n r s H1 O1 hr => by
    obtain ⟨M1, g1, g2, g3⟩ := md_run (N := N) hN ht n i [] O true true _ r s H1 O1 hT0 hi0 hle hM0 hlen0 hr N (by omega)
    refine ⟨M1, ?_, g2, hV0.trans g3⟩
    have g1 : mf_eRead_L14 N N (ms (ms M 46 0 0) 47 0 0) 1 1 = some (.inl (r, M1)) := g1
    rw [mf_eRead, g1, br0_inl]
  have h21' : ∀ {M1 : mS}, mV t LL M M1 → M1.1 21 0 = nI t := fun hv => (congrFun (hv.1.1 21 (by decide)) 0).trans h21
  rcases (xC_all (n0 := O.length) (b := b) (sz := sz) hN 100).1 0 (by omega) i 0 0 [] O true X hle hX rfl (by omega) (dR_base O) (by omega) (by omega) (fun _ => rfl) (fun hh => absurd hh (by omega)) hlen0 True.intro with ⟨X1, s1, a1, a2, a3, n, H1, O1, a4⟩ | ⟨X1, i1, may1, P, O1, a1, a2, a3, a4, a5, a6, a7⟩
  · obtain ⟨M1, g1, g2, g3⟩ := run n false s1 H1 O1 a4
    exact ⟨X1, X1, false, M1, a1, xr_expectF a2 (by decide), a3, g1, g3, .inl ⟨rfl, s1, a2, g2.2.2, h21' g3⟩⟩
  · have a6 : ∀ x ∈ P, 1 ≤ rk x := a6
    have a7 : q0 (tK b sz (tB b sz i1)) (P ++ []) := a7
    have hle1 := a3.len hle hlen0
    have hb := tB_le (b := b) hle1.1
    have hk := tK_le (b := b) (sz := sz) (tB b sz i1)
    have hiff := kX_iff hk (tV3 (b := b) (sz := sz) (s := tB b sz i1))
    have hfl : aU 1 (P ++ []) O1 = ([], P.reverse ++ O1) := aU_flush (show tLt 1 ([] : List Nat) from True.intro) P O1 a6
    have hpl := hle1.2.1
    rw [List.length_append, List.length_nil] at hpl
    by_cases k59 : tK b sz (tB b sz i1) = 59
    · obtain ⟨X2, u1, u2, u3⟩ := xr_expect (N := N) (a := 59) hN a4 (hiff.2.2.2.2.2.2.1.mpr k59)
      have hst : aStep (tK b sz (tB b sz i1)) (tV b sz (tB b sz i1)) (P ++ []) O1 false may1 = .inl (true, [], P.reverse ++ O1) := by
        rw [aStep, if_pos k59, hfl]
        rfl
      obtain ⟨n, hn⟩ := a3
      have hI := aRun_I (O0 := O) n _ _ hn ⟨fun x hx => (nomatch hx), hok, List.suffix_refl O⟩
      have hI2 := aU_I (O0 := O) (l := 1) (by omega) (P ++ []) O1 hI
      rw [hfl] at hI2
      have hrun : aRun b sz (n + 1) (i, [], O, true, true) = .inl (true, tB b sz i1, [], P.reverse ++ O1) := by
        rw [aRun_trans n 1 _ _ hn, aRun]
        unfold aNext
        dsimp only
        rw [hst]
      obtain ⟨M1, g1, g2, g3⟩ := run (n + 1) true _ _ _ hrun
      have hE := tE_le (b := b) hb.2
      refine ⟨X1, X2, true, M1, a1, u1, a2.trans u3, g1, g3, .inr ⟨rfl, tE b sz (tB b sz i1), P.reverse ++ O1, ⟨hT.frame g3.1 (by decide) (by decide), g2.2.1, hE.2.1, h21' g3, g2.1.2.2.2.2.1, g2.1.2.2.2.2.2.1, u2, ?_, hI2.2.1⟩, hI2.2.2, a5⟩⟩
      rw [List.length_append, List.length_reverse]
      omega
    · obtain ⟨X2, u1, u2, u3⟩ := xr_expectN (N := N) (a := 59) a4 (by rw [List.length_append, List.length_reverse]; omega) (fun hh => k59 (hiff.2.2.2.2.2.2.1.mp hh))
      have hfa : ∃ H1 O2, aStep (tK b sz (tB b sz i1)) (tV b sz (tB b sz i1)) (P ++ []) O1 false may1 = .inl (false, H1, O2) := by
        by_cases k41 : tK b sz (tB b sz i1) = 41
        · rw [aStep, if_neg k59, if_pos k41, hfl]
          exact ⟨_, _, if_pos rfl⟩
        · exact aStep_end a7 k41 (fun e => absurd e k59)
      obtain ⟨H1, O2, he⟩ := hfa
      obtain ⟨n, H3, O3, hf⟩ := a3.fail (aFail.one rfl he)
      obtain ⟨M1, g1, g2, g3⟩ := run n false _ _ _ hf
      exact ⟨X1, X2, false, M1, a1, u1, a2.trans u3, g1, g3, .inl ⟨rfl, _, u2, g2.2.2, h21' g3⟩⟩
end PEXP2
