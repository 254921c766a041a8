section PCLS2
theorem fa_or (a b : Nat) : nI a ||| nI b = nI (a ||| b) := by
  apply Int32.toBitVec_inj.1
  show BitVec.ofNat 32 a ||| BitVec.ofNat 32 b = BitVec.ofNat 32 (a ||| b)
  apply BitVec.eq_of_getLsbD_eq
  intro i hi
  simp [hi]
theorem fa_or_sum {a k : Nat} (b : Nat) (h : a < 2 ^ k) : nI (2 ^ k * b) ||| nI a = nI (2 ^ k * b + a) := by rw [fa_or, Nat.two_pow_add_eq_or_of_lt h]
/-! a code as the class keeps it, taken apart again -/
theorem cOK_enc {c : Int32} (h : cOK c) : enc c >>> (14 &&& 31) = encW c ∧ enc c &&& 16383 = encA c ∧ (∃ w, w < 100 ∧ encW c = nI w) ∧ ∃ x, x < 16384 ∧ encA c = nI x := by
  have key : ∀ w x : Nat, w < 100 → x < 16384 → ((nI w <<< (14 &&& 31)) ||| nI x) >>> (14 &&& 31) = nI w ∧ ((nI w <<< (14 &&& 31)) ||| nI x) &&& 16383 = nI x := by
    intro w x hw hx
    have e14 : ((14 &&& 31 : Int32).toBitVec.smod 32).toNat = 14 := by decide
    have e1 : nI w <<< (14 &&& 31) = nI (2 ^ 14 * w) := by
      rw [pk_shlN _ 14 e14 (by omega), Nat.mul_comm]
    have e2 : nI (2 ^ 14 * w) ||| nI x = nI (2 ^ 14 * w + x) := fa_or_sum w (show x < 2 ^ 14 by omega)
    rw [e1, e2]
    refine ⟨?_, ?_⟩
    · rw [pk_shrN (by omega) _ 14 e14, show (2 ^ 14 * w + x) / 2 ^ 14 = w by omega]
    · rw [pk_andN (by omega) 14 (by decide), show (2 ^ 14 * w + x) % 2 ^ 14 = x by omega]
  have fin : ∀ w x : Nat, w < 100 → x < 16384 → encW c = nI w → encA c = nI x → enc c >>> (14 &&& 31) = encW c ∧ enc c &&& 16383 = encA c ∧ (∃ w, w < 100 ∧ encW c = nI w) ∧ ∃ x, x < 16384 ∧ encA c = nI x := by
    intro w x hw hx ew ex
    have := key w x hw hx
    unfold enc
    rw [ew, ex]
    exact ⟨this.1, this.2, ⟨w, hw, rfl⟩, ⟨x, hx, rfl⟩⟩
  rcases cOK_cases h with ⟨c1, c2, m, hm, hc⟩ | ⟨c1, c2, m, hm1, hm2, hc⟩ | ⟨c1, c2, m, hm, hc⟩
  · refine fin 1 m (by omega) (by omega) ?_ ?_
    · unfold encW; rw [if_pos c1]; rfl
    · unfold encA
      rw [if_pos c1, hc, show (100000 : Int32) = nI 100000 from rfl, pk_sub (by omega), show 100000 + m - 100000 = m by omega]
  · have hA : encA c = nI 0 := by unfold encA; rw [if_neg c1, if_pos c2]; rfl
    have hm : m = 11 ∨ m = 12 ∨ m = 13 ∨ m = 14 ∨ m = 15 ∨ m = 16 ∨ m = 17 ∨ m = 18 ∨ m = 19 := by omega
    rcases hm with rfl | rfl | rfl | rfl | rfl | rfl | rfl | rfl | rfl
    · exact fin 3 0 (by omega) (by omega) (by rw [hc]; decide) hA
    · exact fin 4 0 (by omega) (by omega) (by rw [hc]; decide) hA
    · exact fin 5 0 (by omega) (by omega) (by rw [hc]; decide) hA
    · exact fin 60 0 (by omega) (by omega) (by rw [hc]; decide) hA
    · exact fin 61 0 (by omega) (by omega) (by rw [hc]; decide) hA
    · exact fin 43 0 (by omega) (by omega) (by rw [hc]; decide) hA
    · exact fin 45 0 (by omega) (by omega) (by rw [hc]; decide) hA
    · exact fin 42 0 (by omega) (by omega) (by rw [hc]; decide) hA
    · exact fin 6 0 (by omega) (by omega) (by rw [hc]; decide) hA
  · refine fin 2 m (by omega) (by omega) ?_ ?_
    · unfold encW; rw [if_neg c1, if_neg c2]; rfl
    · unfold encA; rw [if_neg c1, if_neg c2, hc]
/-- what joins two: the same on both sides -/
theorem joined_two {c x y : Int32} (h : cOK c) (c1 : ¬ 100000 ≤ c) (c2 : 11 ≤ c) (c3 : ¬ c = 13) (c4 : ¬ c = 19) : xf_T_joined (encW c) x y = mf_two c x y := by
  rcases cOK_cases h with ⟨d1, d2, m, hm, hc⟩ | ⟨d1, d2, m, hm1, hm2, hc⟩ | ⟨d1, d2, m, hm, hc⟩
  · exact absurd d1 c1
  · have hm : m = 11 ∨ m = 12 ∨ m = 13 ∨ m = 14 ∨ m = 15 ∨ m = 16 ∨ m = 17 ∨ m = 18 ∨ m = 19 := by omega
    rcases hm with rfl | rfl | rfl | rfl | rfl | rfl | rfl | rfl | rfl
    · rw [hc, show encW (nI 11) = 3 by decide]; rfl
    · rw [hc, show encW (nI 12) = 4 by decide]; rfl
    · exact absurd hc c3
    · rw [hc, show encW (nI 14) = 60 by decide]; rfl
    · rw [hc, show encW (nI 15) = 61 by decide]; rfl
    · rw [hc, show encW (nI 16) = 43 by decide]; rfl
    · rw [hc, show encW (nI 17) = 45 by decide]; rfl
    · rw [hc, show encW (nI 18) = 42 by decide]; rfl
    · exact absurd hc c4
  · exact absurd c2 d2
section A
variable {N : Nat} {a : aS}
theorem xQ_pile {X : xS} {t i : Nat} {x : Int32} : xQ X (xs X (83 + 4 * t) i x) := (xQ.refl X).xs (xcore_pile t)
theorem px_runL (hI : IS a) {part : Nat} (hpt : part < 3) {env : Nat → Int32} : ∀ (k i n : Nat) (s : List Int32) (X : xS), RS X a → i + k = st a (rl a) (part + 1) → k < n → s.length ≤ 32 → dRun (cd a (rl a)) k i s.length = some 1 → (∀ j, j < 6 → X.1 25 j = env j) → onSt (X.1 (83 + 4 * rl a)) s → ∃ X1, xf_T_run_L20 N (nI (rl a)) (nI part) n X (nI s.length) (nI i) = some X1 ∧ xQ X X1 ∧ onSt (X1.1 (83 + 4 * rl a)) (eRun (cd a (rl a)) env k i s) ∧ (eRun (cd a (rl a)) env k i s).length = 1
  | 0, i, n + 1, s, X, hR, hk, _, _, hd, he, hs => by
    obtain ⟨ht1, ht2, ht3, ht4, ht5, ht6⟩ := hI.2.2.2.2.2.2.2
    have ht := ht6 _ ht5
    obtain ⟨u1, u2, u3, u4, u5⟩ := hR.2.2.2.2.2.2.2
    obtain ⟨w1, w2, w3⟩ := u5 _ ht5
    have e20 := ht.1 (part + 1) (by omega)
    refine ⟨X, ?_, xQ.refl X, hs, ?_⟩
    · rw [xf_T_run_L20, sm_clamp (show rl a < 100000000 by omega), if_pos (by rw [u4]; exact ht5), if_pos (sm_ok hpt (by omega)), sm_clamp (show part < 100000000 by omega), w2 part hpt, e20, if_pos]
      have := ht.h160 hpt
      exact sm_len (by omega) (by omega)
    · simp only [dRun, Option.some.injEq] at hd
      exact hd
  | k + 1, i, n + 1, s, X, hR, hk, hn, h32, hd, he, hs => by
    obtain ⟨ht1, ht2, ht3, ht4, ht5, ht6⟩ := hI.2.2.2.2.2.2.2
    have ht := ht6 _ ht5
    obtain ⟨u1, u2, u3, u4, u5⟩ := hR.2.2.2.2.2.2.2
    obtain ⟨w1, w2, w3⟩ := u5 _ ht5
    have e20 := ht.1 (part + 1) (by omega)
    obtain ⟨d1, hd1, hd2⟩ := dRun_succ hd
    have h160 := ht.h160 hpt
    have hlast := ht.hlast hpt
    have hi3 : i < st a (rl a) 3 := by omega
    have h3 : st a (rl a) 3 ≤ 160 := ht.2.2.2.1
    have hco := ht.2.2.2.2.1 i hi3
    have hcd := cOK_cases hco
    obtain ⟨en1, en2, ⟨ew, hew, enw⟩, ⟨ex, hex, ena⟩⟩ := cOK_enc hco
    have ecd : X.1 (81 + 4 * rl a) i = enc (cd a (rl a) i) := w3 i hi3
    rw [xf_T_run_L20, sm_clamp (show rl a < 100000000 by omega), if_pos (by rw [u4]; exact ht5), if_pos (sm_ok hpt (by omega)), sm_clamp (show part < 100000000 by omega), w2 part hpt, e20, if_neg (sm_nle (by omega) (by omega)), w1, sm_clamp (show st a (rl a) 3 < 100000000 by omega), if_pos (sm_ok hi3 (by omega)), if_pos (sm_ok hi3 (by omega)), sm_clamp (show i < 100000000 by omega), ecd, en1, en2, eRun, ← nI_succ]
    have hRn : ∀ j v, RS (xs X (83 + 4 * rl a) j v) a := fun j v => hR.frame xQ_pile
    have hen : ∀ j v, ∀ j2, j2 < 6 → (xs X (83 + 4 * rl a) j v).1 25 j2 = env j2 := fun j v j2 h2 => by
      rw [xs_ne (by omega)]
      exact he j2 h2
    rcases hcd with ⟨c1, c2, m, hm, hc⟩ | ⟨c1, c2, m, hm1, hm2, hc⟩ | ⟨c1, c2, m, hm, hc⟩
    · obtain ⟨g1, g2⟩ := dStep_1 hd1 c1
      subst g2
      have n32 : ¬ (32 : Int32) ≤ nI s.length := sm_nle (n := 32) (by omega) (by omega)
      have ew1 : encW (cd a (rl a) i) = 1 := by unfold encW; rw [if_pos c1]
      have ea1 : encA (cd a (rl a) i) = cd a (rl a) i - 100000 := by unfold encA; rw [if_pos c1]
      have hst : eStep env (cd a (rl a) i) s = (cd a (rl a) i - 100000) :: s := by unfold eStep; rw [if_pos c1]
      rw [if_pos ew1, if_neg n32, if_pos ew1, bs1, if_pos (sm_ok (show s.length < 32 by omega) (by omega)), sm_clamp (show s.length < 100000000 by omega), ← nI_succ, hst, ea1]
      obtain ⟨X1, q1, q2, q3⟩ := px_runL hI hpt k (i + 1) n ((cd a (rl a) i - 100000) :: s) (xs X (83 + 4 * rl a) s.length (cd a (rl a) i - 100000)) (hRn _ _) (by omega) (by omega) (by simp only [List.length_cons]; omega) hd2 (hen _ _) (by rw [xs_same]; exact onSt_push hs)
      exact ⟨X1, q1, xQ_pile.trans q2, q3⟩
    · have n1 : ¬ encW (cd a (rl a) i) = 1 := by
        have hm : m = 11 ∨ m = 12 ∨ m = 13 ∨ m = 14 ∨ m = 15 ∨ m = 16 ∨ m = 17 ∨ m = 18 ∨ m = 19 := by omega
        rw [hc]
        rcases hm with rfl | rfl | rfl | rfl | rfl | rfl | rfl | rfl | rfl <;> decide
      have n2 : ¬ encW (cd a (rl a) i) = 2 := by
        have hm : m = 11 ∨ m = 12 ∨ m = 13 ∨ m = 14 ∨ m = 15 ∨ m = 16 ∨ m = 17 ∨ m = 18 ∨ m = 19 := by omega
        rw [hc]
        rcases hm with rfl | rfl | rfl | rfl | rfl | rfl | rfl | rfl | rfl <;> decide
      have n5 : encW (cd a (rl a) i) = 5 ↔ cd a (rl a) i = 13 := by
        have hm : m = 11 ∨ m = 12 ∨ m = 13 ∨ m = 14 ∨ m = 15 ∨ m = 16 ∨ m = 17 ∨ m = 18 ∨ m = 19 := by omega
        rw [hc]
        rcases hm with rfl | rfl | rfl | rfl | rfl | rfl | rfl | rfl | rfl <;> decide
      have n6 : encW (cd a (rl a) i) = 6 ↔ cd a (rl a) i = 19 := by
        have hm : m = 11 ∨ m = 12 ∨ m = 13 ∨ m = 14 ∨ m = 15 ∨ m = 16 ∨ m = 17 ∨ m = 18 ∨ m = 19 := by omega
        rw [hc]
        rcases hm with rfl | rfl | rfl | rfl | rfl | rfl | rfl | rfl | rfl <;> decide
      rw [if_neg n1, if_neg n2]
      have un : ∀ v : Int32 → Int32, 0 < s.length → d1 = s.length → eStep env (cd a (rl a) i) s = (match s with | x :: t => v x :: t | [] => []) → ∃ X1, (if nI s.length ≤ 0 then xf_T_run_L20 N (nI (rl a)) (nI part) n X (nI s.length) (nI (i + 1)) else if ok (nI s.length - 1) 32 then xf_T_run_L20 N (nI (rl a)) (nI part) n (xs X (83 + 4 * rl a) (nI s.length - 1).toNatClampNeg (v (X.1 (83 + 4 * rl a) (nI s.length - 1).toNatClampNeg))) (nI s.length) (nI (i + 1)) else none) = some X1 ∧ xQ X X1 ∧ onSt (X1.1 (83 + 4 * rl a)) (eRun (cd a (rl a)) env k (i + 1) (eStep env (cd a (rl a) i) s)) ∧ (eRun (cd a (rl a)) env k (i + 1) (eStep env (cd a (rl a) i) s)).length = 1 := by
        intro v g1 g2 hst
        subst g2
        cases s with
        | nil => exact absurd g1 (by simp)
        | cons x t =>
          have e1 : nI (x :: t).length - 1 = nI t.length := nI_pred t.length
          have hl : t.length < 32 := by simp only [List.length_cons] at h32; omega
          have e0 : ¬ nI (x :: t).length ≤ 0 := nI_nle (by simp) (by simp only [List.length_cons]; omega)
          rw [if_neg e0, e1, if_pos (sm_ok (show t.length < 32 by omega) (by omega)), sm_clamp (show t.length < 100000000 by omega), hst, hs.1]
          obtain ⟨X1, q1, q2, q3⟩ := px_runL hI hpt k (i + 1) n (v x :: t) (xs X (83 + 4 * rl a) t.length (v x)) (hRn _ _) (by omega) (by omega) h32 hd2 (hen _ _) (by rw [xs_same]; exact ⟨pk_us, onSt_upd (Nat.le_refl _) hs.2⟩)
          exact ⟨X1, q1, xQ_pile.trans q2, q3⟩
      by_cases c3 : cd a (rl a) i = 13
      · obtain ⟨g1, g2⟩ := dStep_3 hd1 c1 c2 (.inl c3)
        have e6 : ¬ encW (cd a (rl a) i) = 6 := by rw [n6, c3]; decide
        rw [if_pos (n5.mpr c3), if_neg e6]
        exact un (fun x => if x = 0 then 1 else 0) g1 g2 (by unfold eStep; rw [if_neg c1, if_pos c2, if_pos c3]; cases s <;> rfl)
      · by_cases c4 : cd a (rl a) i = 19
        · obtain ⟨g1, g2⟩ := dStep_3 hd1 c1 c2 (.inr c4)
          rw [if_neg (fun hh => c3 (n5.mp hh)), if_pos (n6.mpr c4), if_pos (n6.mpr c4)]
          exact un (fun x => -x) g1 g2 (by unfold eStep; rw [if_neg c1, if_pos c2, if_neg c3, if_pos c4]; cases s <;> rfl)
        · obtain ⟨g1, g2⟩ := dStep_4 hd1 c1 c2 c3 c4
          subst g2
          rw [if_neg (fun hh => c3 (n5.mp hh)), if_neg (fun hh => c4 (n6.mp hh))]
          match s, g1, h32, hd2, hs with
          | [_], g1, _, _, _ => exact absurd g1 (by simp)
          | y :: x :: t, g1, h32, hd2, hs =>
            have e1 : nI (y :: x :: t).length + (-1) = nI (t.length + 1) := pk_m1 (t.length + 1)
            have e2 : nI (t.length + 1) - 1 = nI t.length := nI_pred t.length
            have hl : t.length < 31 := by simp only [List.length_cons] at h32; omega
            have hst : eStep env (cd a (rl a) i) (y :: x :: t) = mf_two (cd a (rl a) i) x y :: t := by unfold eStep; rw [if_neg c1, if_pos c2, if_neg c3, if_neg c4]
            have e0 : ¬ nI (y :: x :: t).length ≤ 1 := sm_nle (show 1 < (y :: x :: t).length by simp) (by simp only [List.length_cons]; omega)
            rw [if_neg e0, e1, e2, if_pos (sm_ok (show t.length < 32 by omega) (by omega)), if_pos (sm_ok (show t.length + 1 < 32 by omega) (by omega)), sm_clamp (show t.length < 100000000 by omega), sm_clamp (show t.length + 1 < 100000000 by omega), hst]
            have ex : X.1 (83 + 4 * rl a) t.length = x := hs.2.1
            have ey : X.1 (83 + 4 * rl a) (t.length + 1) = y := hs.1
            rw [ex, ey, joined_two hco c1 c2 c3 c4]
            obtain ⟨X1, q1, q2, q3⟩ := px_runL hI hpt k (i + 1) n (mf_two (cd a (rl a) i) x y :: t) (xs X (83 + 4 * rl a) t.length (mf_two (cd a (rl a) i) x y)) (hRn _ _) (by omega) (by omega) (by simp only [List.length_cons]; omega) hd2 (hen _ _) (by rw [xs_same]; exact ⟨pk_us, onSt_upd (Nat.le_refl _) hs.2.2⟩)
            exact ⟨X1, q1, xQ_pile.trans q2, q3⟩
    · obtain ⟨g1, g2⟩ := dStep_2 hd1 c1 c2
      subst g2
      have n32 : ¬ (32 : Int32) ≤ nI s.length := sm_nle (n := 32) (by omega) (by omega)
      have ew2 : encW (cd a (rl a) i) = 2 := by unfold encW; rw [if_neg c1, if_neg c2]
      have ew1 : ¬ encW (cd a (rl a) i) = 1 := by rw [ew2]; decide
      have ea1 : encA (cd a (rl a) i) = nI m := by unfold encA; rw [if_neg c1, if_neg c2, hc]
      have ecl : (cd a (rl a) i).toNatClampNeg = m := by rw [hc, sm_clamp (by omega)]
      have hst : eStep env (cd a (rl a) i) s = env m :: s := by unfold eStep; rw [if_neg c1, if_neg c2, ecl]
      rw [if_neg ew1, if_pos ew2, if_neg n32, if_neg ew1, ea1, if_pos (sm_ok (show m < 6 by omega) (by omega)), bs1, if_pos (sm_ok (show s.length < 32 by omega) (by omega)), sm_clamp (show s.length < 100000000 by omega), sm_clamp (show m < 100000000 by omega), ← nI_succ, hst, he m (by omega)]
      obtain ⟨X1, q1, q2, q3⟩ := px_runL hI hpt k (i + 1) n (env m :: s) (xs X (83 + 4 * rl a) s.length (env m)) (hRn _ _) (by omega) (by omega) (by simp only [List.length_cons]; omega) hd2 (hen _ _) (by rw [xs_same]; exact onSt_push hs)
      exact ⟨X1, q1, xQ_pile.trans q2, q3⟩
theorem px_run (hN : 2000 ≤ N) (hI : IS a) {part : Nat} (hpt : part < 3) {env : Nat → Int32} {X : xS} (hR : RS X a) (he : ∀ j, j < 6 → X.1 25 j = env j) : ∃ X1, xf_T_run N X (nI (rl a)) (nI part) = some (fLaw a part env, X1) ∧ xQ X X1 := by
  obtain ⟨ht1, ht2, ht3, ht4, ht5, ht6⟩ := hI.2.2.2.2.2.2.2
  have ht := ht6 _ ht5
  obtain ⟨u1, u2, u3, u4, u5⟩ := hR.2.2.2.2.2.2.2
  obtain ⟨w1, w2, w3⟩ := u5 _ ht5
  have hle := ht.2.2.1 part hpt
  have hd := ht.2.2.2.2.2 part hpt
  have h160 := ht.h160 hpt
  obtain ⟨X1, q1, q2, q3, q4⟩ := px_runL (N := N) hI hpt (env := env) (st a (rl a) (part + 1) - st a (rl a) part) (st a (rl a) part) N [] X hR (by omega) (by omega) (by simp) hd he trivial
  refine ⟨X1, ?_, q2⟩
  have hst : (if nI part ≤ 0 then some 0 else if (nI (rl a)).toNatClampNeg < X.2.2.2 then (if ok (nI part - 1) 3 then some (X.1 (82 + 4 * (nI (rl a)).toNatClampNeg) (nI part - 1).toNatClampNeg) else none) else none) = some (nI (st a (rl a) part)) := by
    rw [sm_clamp (show rl a < 100000000 by omega)]
    cases part with
    | zero =>
      rw [nI_0, if_pos (Int32.le_refl 0), ht.2.1]
      rfl
    | succ k =>
      rw [if_neg (nI_nle (by omega) (by omega)), if_pos (by rw [u4]; exact ht5), nI_pred, if_pos (sm_ok (by omega) (by omega)), sm_clamp (show k < 100000000 by omega), w2 k (by omega), ht.1 (k + 1) (by omega)]
  unfold xf_T_run
  rw [hst, bs1]
  rw [show nI ([] : List Int32).length = 0 from rfl] at q1
  rw [q1, bs1, sm_clamp (show rl a < 100000000 by omega), if_pos (by rw [q2.2, u4]; exact ht5), cl_0, eTop_1 q4 q3]
  rfl
theorem px_byLaw (hN : 2000 ≤ N) (hI : IS a) {part : Nat} (hpt : part < 3) {mo : Int32} (hmo : 0 < mo) {env : Nat → Int32} {X : xS} (hR : RS X a) (he : ∀ j, j < 6 → X.1 25 j = env j) : ∃ X1, xf_H_byLaw N X (nI part) mo = some (fClamp (fLaw a part env) mo, X1) ∧ xQ X X1 := by
  obtain ⟨ht1, ht2, ht3, ht4, ht5, ht6⟩ := hI.2.2.2.2.2.2.2
  obtain ⟨u1, u2, u3, u4, u5⟩ := hR.2.2.2.2.2.2.2
  obtain ⟨X1, q1, q2⟩ := px_run hN hI hpt hR he
  refine ⟨X1, ?_, q2⟩
  unfold xf_H_byLaw
  rw [u3, ht4, if_neg (nI_pos (by omega)), sm_clamp (show rl a < 100000000 by omega), if_pos (by rw [u4]; exact ht5), q1, bs2]
  congr 2
  generalize fLaw a part env = v
  unfold fClamp
  rw [fa_lt, toI_0] at hmo
  by_cases h1 : v < mo
  · rw [if_pos h1]
    rw [fa_lt] at h1
    by_cases h2 : (0 : Int32) < v
    · have h3 : 0 ≤ v := by rw [fa_lt] at h2; rw [fa_le]; omega
      have h4 : v ≤ mo := by rw [fa_le]; omega
      rw [if_pos h2, if_pos h3, if_pos h4]
    · rw [if_neg h2]
      by_cases h3 : 0 ≤ v
      · have h4 : v ≤ mo := by rw [fa_le]; omega
        rw [if_pos h3, if_pos h4]
        rw [fa_lt] at h2
        rw [fa_le] at h3
        rw [fa_eq]
        omega
      · rw [if_neg h3]
  · rw [if_neg h1]
    rw [fa_lt] at h1
    have h2 : (0 : Int32) < mo := by rw [fa_lt, toI_0]; omega
    have h3 : 0 ≤ v := by rw [fa_le, toI_0]; omega
    rw [if_pos h2, if_pos h3]
    by_cases h4 : v ≤ mo
    · rw [if_pos h4]
      rw [fa_le] at h4
      rw [fa_eq]
      omega
    · rw [if_neg h4]
theorem px_nameSeat {X : xS} {r c : Nat} (hR : RS X a) (hI : IS a) (hr : r < nr a) (hc : c < 8) : ∃ X1, xf_H_nameSeat N X (nI r) (nI c) = some X1 ∧ xQ X X1 ∧ X1.1 25 2 = nI r ∧ X1.1 25 3 = fPlace a r (nI c) ∧ X1.1 25 4 = fFloor a r ∧ X1.1 25 5 = fSort a r c := by
  have h6 := hI.hr6 hr
  obtain ⟨r1, r2, r3, r4, r5, r6, r7, r8, r9, r10⟩ := hR.2.2.1 r hr
  have q1 : xQ X (xs X 25 2 (nI r)) := (xQ.refl X).xs rfl
  have q2 : xQ X (xs (xs X 25 2 (nI r)) 25 3 (fPlace a r (nI c))) := q1.xs rfl
  have q3 : xQ X (xs (xs (xs X 25 2 (nI r)) 25 3 (fPlace a r (nI c))) 25 4 (fFloor a r)) := q2.xs rfl
  have q4 : xQ X (xs (xs (xs (xs X 25 2 (nI r)) 25 3 (fPlace a r (nI c))) 25 4 (fFloor a r)) 25 5 (fSort a r c)) := q3.xs rfl
  refine ⟨_, ?_, q4, ?_⟩
  · unfold xf_H_nameSeat
    rw [sm_clamp (show r < 100000000 by omega), if_pos (by rw [hR.1.2.2.2]; exact hr), r2, cl_2, cl_3, cl_4, cl_5, px_place (hR.frame q1) hI hr, bs1, px_floor (hR.frame q2) hI hr, bs1, px_sort (hR.frame q3) hI hr hc, bs1]
  · simp only [xs_same, upd_at]
    exact ⟨rfl, rfl, rfl, rfl⟩
theorem px_like (hN : 2000 ≤ N) {X : xS} {r c p : Nat} (hR : RS X a) (hI : IS a) (hr : r < nr a) (hc : c < 8) (hp : p < np a) : ∃ X1, xf_H_likeOf N X (nI r) (nI c) (nI p) = some (fLike a r c p, X1) ∧ xQ X X1 := by
  have hp6 := hI.hp6 hp
  obtain ⟨X1, n1, n2, n3, n4, n5, n6⟩ := px_nameSeat (N := N) hR hI hr hc
  have hR1 := hR.frame n2
  obtain ⟨p1, p2, p3⟩ := hR1.2.2.2.2.1 p hp
  have q2 : xQ X (xs (xs X1 25 0 (a 13 p)) 25 1 (a 12 p)) := (n2.xs rfl).xs rfl
  obtain ⟨X2, l1, l2⟩ := px_byLaw hN hI (part := 0) (by omega) (mo := 99) (by decide) (env := fEnv (a 13 p) (a 12 p) (nI r) (fPlace a r (nI c)) (fFloor a r) (fSort a r c)) (hR.frame q2) (by
    intro j hj
    simp only [xs_same, upd_at]
    have : j = 0 ∨ j = 1 ∨ j = 2 ∨ j = 3 ∨ j = 4 ∨ j = 5 := by omega
    rcases this with rfl | rfl | rfl | rfl | rfl | rfl
    · rfl
    · rfl
    · exact n3
    · exact n4
    · exact n5
    · exact n6)
  refine ⟨X2, ?_, q2.trans l2⟩
  unfold xf_H_likeOf
  rw [n1, bs1, if_pos (sm_ok hp6 (by omega)), cl_0, cl_1, sm_clamp (show p < 100000000 by omega)]
  have e1 : (xs X1 25 0 (X1.1 13 p)).1 12 p + (xs X1 25 0 (X1.1 13 p)).1 21 0 = a 12 p := p2
  rw [e1, p3]
  rw [nI_0] at l1
  rw [l1]
  rfl
theorem px_worthL (hN : 2000 ≤ N) (hI : IS a) {r c : Nat} (hr : r < nr a) (hc : c < 8) : ∀ (k i n : Nat) (X : xS) (v : Int32), RS X a → i + k = np a → k < n → ∃ X1, xf_H_worthOf_L5 N (nI r) (nI c) n X v (nI i) = some (fSum (fun p => if fHider a r c p = -1 then fLike a r c p else 0) k i v, X1) ∧ xQ X X1
  | 0, i, n + 1, X, v, hR, hk, _ => by
    have e : X.1 17 0 = nI (np a) := hR.1.2.1.trans hI.1.2.2.1
    have h6 := hI.1.2.2.2.1
    refine ⟨X, ?_, xQ.refl X⟩
    rw [xf_H_worthOf_L5, e, if_pos (sm_len (by omega) (by omega))]
    rfl
  | k + 1, i, n + 1, X, v, hR, hk, hn => by
    have e : X.1 17 0 = nI (np a) := hR.1.2.1.trans hI.1.2.2.1
    have h6 := hI.1.2.2.2.1
    have hp : i < np a := by omega
    obtain ⟨X1, w1, w2⟩ := px_hider hN hR hI hr hc hp
    have hR1 := hR.frame w2
    rw [xf_H_worthOf_L5, e, if_neg (sm_nle (by omega) (by omega)), w1, bs2, fSum, ← nI_succ]
    by_cases h1 : fHider a r c i = -1
    · obtain ⟨X2, l1, l2⟩ := px_like hN hR1 hI hr hc hp
      obtain ⟨X3, q1, q2⟩ := px_worthL hN hI hr hc k (i + 1) n X2 (v + fLike a r c i) (hR1.frame l2) (by omega) (by omega)
      refine ⟨X3, ?_, w2.trans (l2.trans q2)⟩
      rw [if_pos h1, l1, bs2, if_pos h1]
      exact q1
    · obtain ⟨X3, q1, q2⟩ := px_worthL hN hI hr hc k (i + 1) n X1 v hR1 (by omega) (by omega)
      refine ⟨X3, ?_, w2.trans q2⟩
      rw [if_neg h1, if_neg h1, Int32.add_zero]
      exact q1
theorem px_worth (hN : 2000 ≤ N) (hI : IS a) {r c : Nat} {X : xS} (hR : RS X a) (hr : r < nr a) (hc : c < 8) : ∃ X1, xf_H_worthOf N X (nI r) (nI c) = some (fWorth a r c, X1) ∧ xQ X X1 := by
  have h6 := hI.1.2.2.2.1
  obtain ⟨X1, q1, q2⟩ := px_worthL hN hI hr hc (np a) 0 N X 0 hR (by omega) (by omega)
  refine ⟨X1, ?_, q2⟩
  rw [nI_0] at q1
  unfold xf_H_worthOf
  rw [q1]
  rfl
theorem px_allL2 (hN : 2000 ≤ N) (hI : IS a) {r : Nat} (hr : r < nr a) : ∀ (k i n : Nat) (X : xS) (v : Int32), RS X a → i + k = ns a r → k < n → ∃ X1, xf_H_allWorth_L14 N (nI r) n X v (nI i) = some (fSum (fWorth a r) k i v, X1) ∧ xQ X X1
  | 0, i, n + 1, X, v, hR, hk, _ => by
    have h6 := hI.hr6 hr
    have e := hI.2.2.1 r hr
    have e2 := (hR.2.2.1 r hr).2.2.1
    refine ⟨X, ?_, xQ.refl X⟩
    rw [xf_H_allWorth_L14, if_pos (sm_ok h6 (by omega)), sm_clamp (show r < 100000000 by omega), if_pos (by rw [hR.1.2.2.2]; exact hr), e2, e.2.1, if_pos (sm_len (by omega) (by omega))]
    rfl
  | k + 1, i, n + 1, X, v, hR, hk, hn => by
    have h6 := hI.hr6 hr
    have e := hI.2.2.1 r hr
    have e2 := (hR.2.2.1 r hr).2.2.1
    obtain ⟨X2, l1, l2⟩ := px_worth hN hI hR hr (show i < 8 by omega)
    obtain ⟨X3, q1, q2⟩ := px_allL2 hN hI hr k (i + 1) n X2 (v + fWorth a r i) (hR.frame l2) (by omega) (by omega)
    refine ⟨X3, ?_, l2.trans q2⟩
    rw [xf_H_allWorth_L14, if_pos (sm_ok h6 (by omega)), sm_clamp (show r < 100000000 by omega), if_pos (by rw [hR.1.2.2.2]; exact hr), e2, e.2.1, if_neg (sm_nle (by omega) (by omega)), l1, bs2, ← nI_succ, fSum]
    exact q1
theorem px_allL (hN : 2000 ≤ N) (hI : IS a) : ∀ (k i n : Nat) (X : xS) (v : Int32), RS X a → i + k = nr a → k < n → ∃ X1, xf_H_allWorth_L4 N n X v (nI i) = some (fRows a (fWorth a) k i v, X1) ∧ xQ X X1
  | 0, i, n + 1, X, v, hR, hk, _ => by
    have e : X.1 16 0 = nI (nr a) := hR.1.1.trans hI.1.1
    have h6 := hI.1.2.1
    refine ⟨X, ?_, xQ.refl X⟩
    rw [xf_H_allWorth_L4, e, if_pos (sm_len (by omega) (by omega))]
    rfl
  | k + 1, i, n + 1, X, v, hR, hk, hn => by
    have e : X.1 16 0 = nI (nr a) := hR.1.1.trans hI.1.1
    have h6 := hI.1.2.1
    have hr : i < nr a := by omega
    have e8 := (hI.2.2.1 i hr).2.2.2.1
    obtain ⟨X2, l1, l2⟩ := px_allL2 hN hI hr (ns a i) 0 N X v hR (by omega) (by omega)
    obtain ⟨X3, q1, q2⟩ := px_allL hN hI k (i + 1) n X2 (fSum (fWorth a i) (ns a i) 0 v) (hR.frame l2) (by omega) (by omega)
    refine ⟨X3, ?_, l2.trans q2⟩
    rw [nI_0] at l1
    rw [xf_H_allWorth_L4, e, if_neg (sm_nle (by omega) (by omega)), l1, bs2, ← nI_succ, fRows]
    exact q1
theorem px_all (hN : 2000 ≤ N) (hI : IS a) {X : xS} (hR : RS X a) : ∃ X1, xf_H_allWorth N X = some (fAll a, X1) ∧ xQ X X1 := by
  have h6 := hI.1.2.1
  obtain ⟨X1, q1, q2⟩ := px_allL hN hI (nr a) 0 N X 0 hR (by omega) (by omega)
  refine ⟨X1, ?_, q2⟩
  rw [nI_0] at q1
  unfold xf_H_allWorth
  rw [q1]
  rfl
theorem px_price (hN : 2000 ≤ N) (hI : IS a) {X : xS} {r c : Nat} (hR : RS X a) (hr : r < nr a) (hc : c < 8) : ∃ X1, xf_H_priceOf N X (nI r) (nI c) = some (fPrice a r c, X1) ∧ xQ X X1 := by
  obtain ⟨X0, w1, w2⟩ := px_worth hN hI hR hr hc
  obtain ⟨X1, n1, n2, n3, n4, n5, n6⟩ := px_nameSeat (N := N) (hR.frame w2) hI hr hc
  have q2 : xQ X (xs (xs X1 25 0 (fWorth a r c)) 25 1 0) := ((w2.trans n2).xs rfl).xs rfl
  obtain ⟨X2, l1, l2⟩ := px_byLaw hN hI (part := 1) (by omega) (mo := 999) (by decide) (env := fEnv (fWorth a r c) 0 (nI r) (fPlace a r (nI c)) (fFloor a r) (fSort a r c)) (hR.frame q2) (by
    intro j hj
    simp only [xs_same, upd_at]
    have : j = 0 ∨ j = 1 ∨ j = 2 ∨ j = 3 ∨ j = 4 ∨ j = 5 := by omega
    rcases this with rfl | rfl | rfl | rfl | rfl | rfl
    · rfl
    · rfl
    · exact n3
    · exact n4
    · exact n5
    · exact n6)
  refine ⟨X2, ?_, q2.trans l2⟩
  unfold xf_H_priceOf
  rw [w1, bs2, n1, bs1, cl_0, cl_1]
  rw [show nI 1 = (1 : Int32) from rfl] at l1
  rw [l1]
  rfl
theorem px_step {X : xS} {r : Nat} (hR : RS X a) (hI : IS a) (hr : r < nr a) : xf_H_stepOf N X (nI r) = some (fStep a r) := by
  have h6 := hI.hr6 hr
  have e1 := (hR.2.2.1 r hr).2.2.2.1
  unfold xf_H_stepOf fStep
  rw [if_pos (sm_ok h6 (by omega)), sm_clamp (show r < 100000000 by omega), if_pos (by rw [hR.1.2.2.2]; exact hr), e1]
  cases r with
  | zero => rfl
  | succ r =>
    have e2 := (hR.2.2.1 r (by omega)).2.2.2.1
    rw [if_neg (nI_nle (by omega) (by omega)), nI_pred, if_pos (sm_ok (by omega) (by omega)), sm_clamp (show r < 100000000 by omega), if_pos (by rw [hR.1.2.2.2]; omega), if_neg (show ¬ r + 1 = 0 by omega), e2]
    rfl
theorem px_costL (hN : 2000 ≤ N) (hI : IS a) : ∀ (k i n : Nat) (X : xS) (v : Int32), RS X a → i + k = nr a → k < n → ∃ X1, xf_H_costOfRows_L4 N n X v (nI i) = some (fSum (fCost1 a) k i v, X1) ∧ xQ X X1
  | 0, i, n + 1, X, v, hR, hk, _ => by
    have e : X.1 16 0 = nI (nr a) := hR.1.1.trans hI.1.1
    have h6 := hI.1.2.1
    refine ⟨X, ?_, xQ.refl X⟩
    rw [xf_H_costOfRows_L4, e, if_pos (sm_len (by omega) (by omega))]
    rfl
  | k + 1, i, n + 1, X, v, hR, hk, hn => by
    have e : X.1 16 0 = nI (nr a) := hR.1.1.trans hI.1.1
    have h6 := hI.1.2.1
    have hr : i < nr a := by omega
    have e7 := (hR.2.2.1 i hr).2.2.2.1
    rw [xf_H_costOfRows_L4, e, if_neg (sm_nle (by omega) (by omega)), px_step hR hI hr, bs1, fSum, ← nI_succ]
    by_cases h1 : fStep a i = 0
    · obtain ⟨X3, q1, q2⟩ := px_costL hN hI k (i + 1) n X v hR (by omega) (by omega)
      refine ⟨X3, ?_, q2⟩
      have e0 : v + fCost1 a i = v := by unfold fCost1; rw [if_pos h1]; exact Int32.add_zero v
      rw [if_pos h1, e0]
      exact q1
    · have q2 : xQ X (xs (xs (xs (xs (xs (xs X 25 0 0) 25 1 (fStep a i)) 25 2 (nI i)) 25 3 0) 25 4 (a 7 i)) 25 5 0) := ((((((xQ.refl X).xs rfl).xs rfl).xs rfl).xs rfl).xs rfl).xs rfl
      obtain ⟨X2, l1, l2⟩ := px_byLaw hN hI (part := 2) (by omega) (mo := 999) (by decide) (env := fEnv 0 (fStep a i) (nI i) 0 (a 7 i) 0) (hR.frame q2) (by
        intro j hj
        simp only [xs_same, upd_at]
        have : j = 0 ∨ j = 1 ∨ j = 2 ∨ j = 3 ∨ j = 4 ∨ j = 5 := by omega
        rcases this with rfl | rfl | rfl | rfl | rfl | rfl <;> rfl)
      obtain ⟨X3, q3, q4⟩ := px_costL hN hI k (i + 1) n X2 (v + fCost1 a i) (hR.frame (q2.trans l2)) (by omega) (by omega)
      refine ⟨X3, ?_, (q2.trans l2).trans q4⟩
      rw [if_neg h1, if_pos (sm_ok (show i < 6 by omega) (by omega)), sm_clamp (show i < 100000000 by omega), if_pos (by rw [hR.1.2.2.2]; exact hr), cl_0, cl_1, cl_2, cl_3, cl_4, cl_5]
      have e71 : (xs (xs (xs (xs X 25 0 0) 25 1 (fStep a i)) 25 2 (nI i)) 25 3 0).1 57 i = a 7 i := e7
      rw [e71]
      rw [show nI 2 = (2 : Int32) from rfl] at l1
      rw [l1, bs2]
      unfold fCost1 at q3 ⊢
      rw [if_neg h1] at q3 ⊢
      exact q3
theorem px_cost (hN : 2000 ≤ N) (hI : IS a) {X : xS} (hR : RS X a) : ∃ X1, xf_H_costOfRows N X = some (fCost a, X1) ∧ xQ X X1 := by
  have h6 := hI.1.2.1
  obtain ⟨X1, q1, q2⟩ := px_costL hN hI (nr a) 0 N X 0 hR (by omega) (by omega)
  refine ⟨X1, ?_, q2⟩
  rw [nI_0] at q1
  unfold xf_H_costOfRows
  rw [q1]
  rfl
theorem px_seesL (hN : 2000 ≤ N) (hI : IS a) {r c : Nat} (hr : r < nr a) (hc : c < 8) : ∀ (k i n : Nat) (X : xS) (v : Int32), RS X a → i + k = np a → k < n → ∃ X1, xf_H_seenFrom_L5 N (nI r) (nI c) n X v (nI i) = some (fSeesL a r c k i v, X1) ∧ xQ X X1
  | 0, i, n + 1, X, v, hR, hk, _ => by
    have e : X.1 17 0 = nI (np a) := hR.1.2.1.trans hI.1.2.2.1
    have h6 := hI.1.2.2.2.1
    refine ⟨X, ?_, xQ.refl X⟩
    rw [xf_H_seenFrom_L5, e, if_pos (sm_len (by omega) (by omega))]
    rfl
  | k + 1, i, n + 1, X, v, hR, hk, hn => by
    have e : X.1 17 0 = nI (np a) := hR.1.2.1.trans hI.1.2.2.1
    have h6 := hI.1.2.2.2.1
    have hp : i < np a := by omega
    obtain ⟨X1, w1, w2⟩ := px_hider hN hR hI hr hc hp
    have hR1 := hR.frame w2
    rw [xf_H_seenFrom_L5, e, if_neg (sm_nle (by omega) (by omega)), w1, bs2, fSeesL, ← nI_succ]
    by_cases h1 : fHider a r c i = -1
    · obtain ⟨X3, q1, q2⟩ := px_seesL hN hI hr hc k (i + 1) n X1 (v ||| (1 : Int32) <<< (nI i &&& 31)) hR1 (by omega) (by omega)
      refine ⟨X3, ?_, w2.trans q2⟩
      rw [if_pos h1, if_pos h1]
      exact q1
    · obtain ⟨X3, q1, q2⟩ := px_seesL hN hI hr hc k (i + 1) n X1 v hR1 (by omega) (by omega)
      refine ⟨X3, ?_, w2.trans q2⟩
      rw [if_neg h1, if_neg h1, Int32.or_zero]
      exact q1
theorem px_sees (hN : 2000 ≤ N) (hI : IS a) {X : xS} {r c : Nat} (hR : RS X a) (hr : r < nr a) (hc : c < 8) : ∃ X1, xf_H_seenFrom N X (nI r) (nI c) = some (fSees a r c, X1) ∧ xQ X X1 := by
  have h6 := hI.1.2.2.2.1
  obtain ⟨X1, q1, q2⟩ := px_seesL hN hI hr hc (np a) 0 N X 0 hR (by omega) (by omega)
  refine ⟨X1, ?_, q2⟩
  rw [nI_0] at q1
  unfold xf_H_seenFrom
  rw [q1]
  rfl
end A
end PCLS2
