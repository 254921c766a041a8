section PMOD2
/-! a pile kept in cells: the top is the head -/
def onSt (f : Nat → Int32) : List Int32 → Prop
  | [] => True
  | x :: t => f t.length = x ∧ onSt f t
theorem onSt_upd {f : Nat → Int32} {k : Nat} {x : Int32} : ∀ {s : List Int32}, s.length ≤ k → onSt f s → onSt (upd f k x) s
  | [], _, _ => trivial
  | y :: t, h, hs => by
    simp only [List.length_cons] at h
    exact ⟨(pk_un (by omega)).trans hs.1, onSt_upd (by omega) hs.2⟩
theorem onSt_push {f : Nat → Int32} {x : Int32} {s : List Int32} (hs : onSt f s) : onSt (upd f s.length x) (x :: s) := ⟨pk_us, onSt_upd (Nat.le_refl _) hs⟩
/-- the three sorts of a code -/
theorem cOK_cases {c : Int32} (h : cOK c) : (100000 ≤ c ∧ 11 ≤ c ∧ ∃ n, n < 10000 ∧ c = nI (100000 + n)) ∨ (¬ 100000 ≤ c ∧ 11 ≤ c ∧ ∃ n, 11 ≤ n ∧ n ≤ 19 ∧ c = nI n) ∨ (¬ 100000 ≤ c ∧ ¬ 11 ≤ c ∧ ∃ n, n ≤ 5 ∧ c = nI n) := by
  obtain ⟨n, rfl, hn⟩ := h
  have e1 : (100000 : Int32) = nI 100000 := rfl
  have e2 : (11 : Int32) = nI 11 := rfl
  rw [e1, e2]
  rcases hn with hn | hn | hn
  · exact .inr (.inr ⟨sm_nle (by omega) (by omega), sm_nle (by omega) (by omega), n, hn, rfl⟩)
  · exact .inr (.inl ⟨sm_nle (by omega) (by omega), sm_len (by omega) (by omega), n, hn.1, hn.2, rfl⟩)
  · refine .inl ⟨sm_len (by omega) (by omega), sm_len (by omega) (by omega), n - 100000, by omega, ?_⟩
    rw [show 100000 + (n - 100000) = n by omega]
/-- what a step asks of the pile -/
theorem dStep_1 {c : Int32} {d d1 : Nat} (h : dStep c d = some d1) (h1 : 100000 ≤ c) : d < 32 ∧ d1 = d + 1 := by
  unfold dStep at h
  rw [if_pos h1] at h
  split at h
  · cases h; exact ⟨by assumption, rfl⟩
  · exact nomatch h
theorem dStep_2 {c : Int32} {d d1 : Nat} (h : dStep c d = some d1) (h1 : ¬ 100000 ≤ c) (h2 : ¬ 11 ≤ c) : d < 32 ∧ d1 = d + 1 := by
  unfold dStep at h
  rw [if_neg h1, if_neg h2] at h
  split at h
  · cases h; exact ⟨by assumption, rfl⟩
  · exact nomatch h
theorem dStep_3 {c : Int32} {d d1 : Nat} (h : dStep c d = some d1) (h1 : ¬ 100000 ≤ c) (h2 : 11 ≤ c) (h3 : c = 13 ∨ c = 19) : 0 < d ∧ d1 = d := by
  unfold dStep at h
  rw [if_neg h1, if_pos h2] at h
  by_cases h4 : c = 13
  · rw [if_pos h4] at h
    split at h
    · cases h; exact ⟨by assumption, rfl⟩
    · exact nomatch h
  · rw [if_neg h4, if_pos (h3.resolve_left h4)] at h
    split at h
    · cases h; exact ⟨by assumption, rfl⟩
    · exact nomatch h
theorem dStep_4 {c : Int32} {d d1 : Nat} (h : dStep c d = some d1) (h1 : ¬ 100000 ≤ c) (h2 : 11 ≤ c) (h3 : ¬ c = 13) (h4 : ¬ c = 19) : 1 < d ∧ d1 = d - 1 := by
  unfold dStep at h
  rw [if_neg h1, if_pos h2, if_neg h3, if_neg h4] at h
  split at h
  · cases h; exact ⟨by assumption, rfl⟩
  · exact nomatch h
theorem dRun_succ {code : Nat → Int32} {k i d e : Nat} (h : dRun code (k + 1) i d = some e) : ∃ d1, dStep (code i) d = some d1 ∧ dRun code k (i + 1) d1 = some e := by
  rw [dRun] at h
  cases hd : dStep (code i) d with
  | none => rw [hd] at h; exact nomatch h
  | some d1 => rw [hd] at h; exact ⟨d1, rfl, h⟩
theorem tOK.h160 {a : aS} {t part : Nat} (ht : tOK a t) (hpt : part < 3) : st a t (part + 1) ≤ 160 := by
  have m0 := ht.2.2.1 0 (by omega)
  have m1 := ht.2.2.1 1 (by omega)
  have m2 := ht.2.2.1 2 (by omega)
  have m3 := ht.2.2.2.1
  simp only [Nat.zero_add, Nat.reduceAdd] at m0 m1 m2
  have : part = 0 ∨ part = 1 ∨ part = 2 := by omega
  rcases this with rfl | rfl | rfl
  · simp only [Nat.zero_add]; omega
  · simp only [Nat.reduceAdd]; omega
  · simp only [Nat.reduceAdd]; omega
theorem tOK.hlast {a : aS} {t part : Nat} (ht : tOK a t) (hpt : part < 3) : st a t (part + 1) ≤ st a t 3 := by
  have m1 := ht.2.2.1 1 (by omega)
  have m2 := ht.2.2.1 2 (by omega)
  simp only [Nat.reduceAdd] at m1 m2
  have : part = 0 ∨ part = 1 ∨ part = 2 := by omega
  rcases this with rfl | rfl | rfl
  · simp only [Nat.zero_add]; omega
  · simp only [Nat.reduceAdd]; omega
  · simp only [Nat.reduceAdd]; omega
section A
variable {N : Nat} {a : aS}
theorem md_saysL (hI : IS a) {part : Nat} (hpt : part < 3) {mo : Int32} {env : Nat → Int32} : ∀ (k i n : Nat) (s : List Int32) (M : mS), mC M = a → i + k = st a (rl a) (part + 1) → k < n → s.length ≤ 32 → dRun (cd a (rl a)) k i s.length = some 1 → (∀ j, j < 6 → M.1 50 j = env j) → onSt (M.1 49) s → ∃ M1, mf_says_L17 N (nI part) mo n M (nI s.length) (nI i) = some M1 ∧ mE M M1 ∧ onSt (M1.1 49) (eRun (cd a (rl a)) env k i s) ∧ (eRun (cd a (rl a)) env k i s).length = 1
  | 0, i, n + 1, s, M, hA, hk, _, _, hd, he, hs => by
    obtain ⟨ht1, ht2, ht3, ht4, ht5, ht6⟩ := hI.2.2.2.2.2.2.2
    have ht := ht6 _ ht5
    have e22 : M.1 22 0 = nI (rl a) := by rw [mA hA 22 rfl]; exact ht4
    have e20 := ht.1 (part + 1) (by omega)
    refine ⟨M, ?_, mE.refl M, hs, ?_⟩
    · rw [mf_says_L17, e22]
      simp only [ix4, ← nI_succ]
      rw [if_pos (sm_ok (show 4 * rl a + part + 1 < 24 by omega) (by omega)), sm_clamp (show 4 * rl a + part + 1 < 100000000 by omega), mA hA 20 rfl, show 4 * rl a + part + 1 = 4 * rl a + (part + 1) by omega, e20, if_pos]
      have := ht.h160 hpt
      exact sm_len (by omega) (by omega)
    · simp only [dRun, Option.some.injEq] at hd
      exact hd
  | k + 1, i, n + 1, s, M, hA, hk, hn, h32, hd, he, hs => by
    obtain ⟨ht1, ht2, ht3, ht4, ht5, ht6⟩ := hI.2.2.2.2.2.2.2
    have ht := ht6 _ ht5
    have e22 : M.1 22 0 = nI (rl a) := by rw [mA hA 22 rfl]; exact ht4
    have e20 := ht.1 (part + 1) (by omega)
    obtain ⟨d1, hd1, hd2⟩ := dRun_succ hd
    have h160 : st a (rl a) (part + 1) ≤ 160 := by
      have m0 := ht.2.2.1 0 (by omega)
      have m1 := ht.2.2.1 1 (by omega)
      have m2 := ht.2.2.1 2 (by omega)
      have m3 := ht.2.2.2.1
      simp only [Nat.zero_add, Nat.reduceAdd] at m0 m1 m2
      have : part = 0 ∨ part = 1 ∨ part = 2 := by omega
      rcases this with rfl | rfl | rfl
      · simp only [Nat.zero_add]; omega
      · simp only [Nat.reduceAdd]; omega
      · simp only [Nat.reduceAdd]; omega
    have hlast : i < st a (rl a) 3 := by
      have m1 := ht.2.2.1 1 (by omega)
      have m2 := ht.2.2.1 2 (by omega)
      simp only [Nat.reduceAdd] at m1 m2
      have : part = 0 ∨ part = 1 ∨ part = 2 := by omega
      rcases this with rfl | rfl | rfl
      · simp only [Nat.zero_add] at hk; omega
      · simp only [Nat.reduceAdd] at hk; omega
      · simp only [Nat.reduceAdd] at hk; omega
    have hcd := cOK_cases (ht.2.2.2.2.1 i hlast)
    have ecd : M.1 19 (200 * rl a + i) = cd a (rl a) i := by rw [mA hA 19 rfl]; rfl
    have head : mf_says_L17 N (nI part) mo (n + 1) M (nI s.length) (nI i) = (if 100000 ≤ cd a (rl a) i then (bd1 (if 11 ≤ cd a (rl a) i then some (cd a (rl a) i - 100000) else (if ok (cd a (rl a) i) 6 then some (M.1 50 (cd a (rl a) i).toNatClampNeg) else none)) fun v10 => (if ok (nI s.length) 200 then mf_says_L17 N (nI part) mo n (ms M 49 (nI s.length).toNatClampNeg v10) (nI s.length + 1) (nI i + 1) else none)) else (if 11 ≤ cd a (rl a) i then (if cd a (rl a) i = 13 then (if ok (nI s.length - 1) 200 then mf_says_L17 N (nI part) mo n (ms M 49 (nI s.length - 1).toNatClampNeg (if M.1 49 (nI s.length - 1).toNatClampNeg = 0 then 1 else 0)) (nI s.length) (nI i + 1) else none) else (if cd a (rl a) i = 19 then (if ok (nI s.length - 1) 200 then mf_says_L17 N (nI part) mo n (ms M 49 (nI s.length - 1).toNatClampNeg (-(M.1 49 (nI s.length - 1).toNatClampNeg))) (nI s.length) (nI i + 1) else none) else (if ok ((nI s.length + (-1)) - 1) 200 then (if ok (nI s.length + (-1)) 200 then mf_says_L17 N (nI part) mo n (ms M 49 ((nI s.length + (-1)) - 1).toNatClampNeg (mf_two (cd a (rl a) i) (M.1 49 ((nI s.length + (-1)) - 1).toNatClampNeg) (M.1 49 (nI s.length + (-1)).toNatClampNeg))) (nI s.length + (-1)) (nI i + 1) else none) else none))) else (bd1 (if 11 ≤ cd a (rl a) i then some (cd a (rl a) i - 100000) else (if ok (cd a (rl a) i) 6 then some (M.1 50 (cd a (rl a) i).toNatClampNeg) else none)) fun v10 => (if ok (nI s.length) 200 then mf_says_L17 N (nI part) mo n (ms M 49 (nI s.length).toNatClampNeg v10) (nI s.length + 1) (nI i + 1) else none)))) := by
      rw [mf_says_L17, e22]
      simp only [ix4, ix200, ← nI_succ]
      rw [if_pos (sm_ok (show 4 * rl a + part + 1 < 24 by omega) (by omega)), sm_clamp (show 4 * rl a + part + 1 < 100000000 by omega), mA hA 20 rfl, show 4 * rl a + part + 1 = 4 * rl a + (part + 1) by omega, e20, if_neg (sm_nle (by omega) (by omega)), if_pos (sm_ok (show 200 * rl a + i < 1200 by omega) (by omega)), sm_clamp (show 200 * rl a + i < 100000000 by omega), ecd]
    rw [head, eRun]
    clear head
    rcases hcd with ⟨c1, c2, m, hm, hc⟩ | ⟨c1, c2, m, hm1, hm2, hc⟩ | ⟨c1, c2, m, hm, hc⟩
    · obtain ⟨g1, g2⟩ := dStep_1 hd1 c1
      subst g2
      rw [if_pos c1, if_pos c2, bs1, if_pos (sm_ok (show s.length < 200 by omega) (by omega)), sm_clamp (show s.length < 100000000 by omega), ← nI_succ, ← nI_succ]
      have hst : eStep env (cd a (rl a) i) s = (cd a (rl a) i - 100000) :: s := by unfold eStep; rw [if_pos c1]
      rw [hst]
      obtain ⟨M1, q1, q2, q3⟩ := md_saysL hI hpt (mo := mo) k (i + 1) n ((cd a (rl a) i - 100000) :: s) (ms M 49 s.length (cd a (rl a) i - 100000)) ((mC_ms (by omega)).trans hA) (by omega) (by omega) (by simp only [List.length_cons]; omega) hd2 he (onSt_push hs)
      exact ⟨M1, q1, (mE.ms (mE.refl M) (by omega)).trans q2, q3⟩
    · rw [if_neg c1, if_pos c2]
      have un : ∀ v : Int32 → Int32, 0 < s.length → d1 = s.length → eStep env (cd a (rl a) i) s = (match s with | x :: t => v x :: t | [] => []) → ∃ M1, (if ok (nI s.length - 1) 200 then mf_says_L17 N (nI part) mo n (ms M 49 (nI s.length - 1).toNatClampNeg (v (M.1 49 (nI s.length - 1).toNatClampNeg))) (nI s.length) (nI i + 1) else none) = some M1 ∧ mE M M1 ∧ onSt (M1.1 49) (eRun (cd a (rl a)) env k (i + 1) (eStep env (cd a (rl a) i) s)) ∧ (eRun (cd a (rl a)) env k (i + 1) (eStep env (cd a (rl a) i) s)).length = 1 := by
        intro v g1 g2 hst
        subst g2
        cases s with
        | nil => exact absurd g1 (by simp)
        | cons x t =>
          have e1 : nI (x :: t).length - 1 = nI t.length := nI_pred t.length
          have hl : t.length < 32 := by simp only [List.length_cons] at h32; omega
          rw [e1, if_pos (sm_ok (show t.length < 200 by omega) (by omega)), sm_clamp (show t.length < 100000000 by omega), ← nI_succ, hst, hs.1]
          obtain ⟨M1, q1, q2, q3⟩ := md_saysL hI hpt (mo := mo) k (i + 1) n (v x :: t) (ms M 49 t.length (v x)) ((mC_ms (by omega)).trans hA) (by omega) (by omega) h32 hd2 he ⟨pk_us, onSt_upd (Nat.le_refl _) hs.2⟩
          exact ⟨M1, q1, (mE.ms (mE.refl M) (by omega)).trans q2, q3⟩
      by_cases c3 : cd a (rl a) i = 13
      · obtain ⟨g1, g2⟩ := dStep_3 hd1 c1 c2 (.inl c3)
        rw [if_pos c3]
        exact un (fun x => if x = 0 then 1 else 0) g1 g2 (by unfold eStep; rw [if_neg c1, if_pos c2, if_pos c3]; cases s <;> rfl)
      · by_cases c4 : cd a (rl a) i = 19
        · obtain ⟨g1, g2⟩ := dStep_3 hd1 c1 c2 (.inr c4)
          rw [if_neg c3, if_pos c4]
          exact un (fun x => -x) g1 g2 (by unfold eStep; rw [if_neg c1, if_pos c2, if_neg c3, if_pos c4]; cases s <;> rfl)
        · obtain ⟨g1, g2⟩ := dStep_4 hd1 c1 c2 c3 c4
          subst g2
          rw [if_neg c3, if_neg c4]
          match s, g1, h32, hd2, hs with
          | [_], g1, _, _, _ => exact absurd g1 (by simp)
          | y :: x :: t, g1, h32, hd2, hs =>
            have e1 : nI (y :: x :: t).length + (-1) = nI (t.length + 1) := pk_m1 (t.length + 1)
            have e2 : nI (t.length + 1) - 1 = nI t.length := nI_pred t.length
            have hl : t.length < 31 := by simp only [List.length_cons] at h32; omega
            have hst : eStep env (cd a (rl a) i) (y :: x :: t) = mf_two (cd a (rl a) i) x y :: t := by unfold eStep; rw [if_neg c1, if_pos c2, if_neg c3, if_neg c4]
            rw [e1, e2, if_pos (sm_ok (show t.length < 200 by omega) (by omega)), if_pos (sm_ok (show t.length + 1 < 200 by omega) (by omega)), sm_clamp (show t.length < 100000000 by omega), sm_clamp (show t.length + 1 < 100000000 by omega), ← nI_succ, hst]
            have ex : M.1 49 t.length = x := hs.2.1
            have ey : M.1 49 (t.length + 1) = y := hs.1
            rw [ex, ey]
            obtain ⟨M1, q1, q2, q3⟩ := md_saysL hI hpt (mo := mo) k (i + 1) n (mf_two (cd a (rl a) i) x y :: t) (ms M 49 t.length (mf_two (cd a (rl a) i) x y)) ((mC_ms (by omega)).trans hA) (by omega) (by omega) (by simp only [List.length_cons]; omega) hd2 he ⟨pk_us, onSt_upd (Nat.le_refl _) hs.2.2⟩
            exact ⟨M1, q1, (mE.ms (mE.refl M) (by omega)).trans q2, q3⟩
    · obtain ⟨g1, g2⟩ := dStep_2 hd1 c1 c2
      subst g2
      have ecl : (cd a (rl a) i).toNatClampNeg = m := by rw [hc, sm_clamp (by omega)]
      have eok : ok (cd a (rl a) i) 6 = true := by rw [hc]; exact sm_ok (by omega) (by omega)
      rw [if_neg c1, if_neg c2, if_neg c2, if_pos eok, bs1, if_pos (sm_ok (show s.length < 200 by omega) (by omega)), sm_clamp (show s.length < 100000000 by omega), ← nI_succ, ← nI_succ]
      have hst : eStep env (cd a (rl a) i) s = env (cd a (rl a) i).toNatClampNeg :: s := by unfold eStep; rw [if_neg c1, if_neg c2]
      rw [hst, ecl, he m (by omega)]
      obtain ⟨M1, q1, q2, q3⟩ := md_saysL hI hpt (mo := mo) k (i + 1) n (env m :: s) (ms M 49 s.length (env m)) ((mC_ms (by omega)).trans hA) (by omega) (by omega) (by simp only [List.length_cons]; omega) hd2 he (onSt_push hs)
      exact ⟨M1, q1, (mE.ms (mE.refl M) (by omega)).trans q2, q3⟩
theorem eTop_1 {f : Nat → Int32} : ∀ {s : List Int32}, s.length = 1 → onSt f s → f 0 = eTop s
  | [x], _, h => h.1
theorem md_says (hN : 2000 ≤ N) (hI : IS a) {part : Nat} (hpt : part < 3) {mo : Int32} {env : Nat → Int32} {M : mS} (hA : mC M = a) (he : ∀ j, j < 6 → M.1 50 j = env j) : ∃ M1, mf_says N M (nI part) mo = some (fClamp (fLaw a part env) mo, M1) ∧ mE M M1 := by
  obtain ⟨ht1, ht2, ht3, ht4, ht5, ht6⟩ := hI.2.2.2.2.2.2.2
  have ht := ht6 _ ht5
  have e22 : M.1 22 0 = nI (rl a) := by rw [mA hA 22 rfl]; exact ht4
  have e20 := ht.1 part (by omega)
  have hle := ht.2.2.1 part hpt
  have hd := ht.2.2.2.2.2 part hpt
  have h160 : st a (rl a) (part + 1) ≤ 160 := by
    have m0 := ht.2.2.1 0 (by omega)
    have m1 := ht.2.2.1 1 (by omega)
    have m2 := ht.2.2.1 2 (by omega)
    have m3 := ht.2.2.2.1
    simp only [Nat.zero_add, Nat.reduceAdd] at m0 m1 m2
    have : part = 0 ∨ part = 1 ∨ part = 2 := by omega
    rcases this with rfl | rfl | rfl
    · simp only [Nat.zero_add]; omega
    · simp only [Nat.reduceAdd]; omega
    · simp only [Nat.reduceAdd]; omega
  obtain ⟨M1, q1, q2, q3, q4⟩ := md_saysL (N := N) hI hpt (mo := mo) (env := env) (st a (rl a) (part + 1) - st a (rl a) part) (st a (rl a) part) N [] M hA (by omega) (by omega) (by simp) hd he trivial
  refine ⟨M1, ?_, q2⟩
  unfold mf_says
  rw [e22, ix4, if_pos (sm_ok (show 4 * rl a + part < 24 by omega) (by omega)), sm_clamp (show 4 * rl a + part < 100000000 by omega), mA hA 20 rfl, e20]
  rw [show nI ([] : List Int32).length = 0 from rfl] at q1
  rw [q1, bs1, cl_0, eTop_1 q4 q3]
  unfold fClamp fLaw
  by_cases h1 : 0 ≤ eTop (eRun (cd a (rl a)) env (st a (rl a) (part + 1) - st a (rl a) part) (st a (rl a) part) [])
  · rw [if_pos h1, if_pos h1]
    by_cases h2 : eTop (eRun (cd a (rl a)) env (st a (rl a) (part + 1) - st a (rl a) part) (st a (rl a) part) []) ≤ mo
    · rw [if_pos h2, if_pos h2]
    · rw [if_neg h2, if_neg h2]
  · rw [if_neg h1, if_neg h1]
theorem md_names {M : mS} {v h r p f s : Int32} : ∃ M1, mf_names N M v h r p f s = some M1 ∧ mE M M1 ∧ ∀ j, j < 6 → M1.1 50 j = fEnv v h r p f s j := by
  refine ⟨_, rfl, (((((mE.refl M).ms (by omega)).ms (by omega)).ms (by omega)).ms (by omega)).ms (by omega) |>.ms (by omega), ?_⟩
  intro j hj
  simp only [cl_0, cl_1, cl_2, cl_3, cl_4, cl_5]
  show upd (upd (upd (upd (upd (upd (M.1 50) 0 v) 1 h) 2 r) 3 p) 4 f) 5 s j = _
  simp only [upd_at]
  have : j = 0 ∨ j = 1 ∨ j = 2 ∨ j = 3 ∨ j = 4 ∨ j = 5 := by omega
  rcases this with rfl | rfl | rfl | rfl | rfl | rfl <;> rfl
theorem md_like (hN : 2000 ≤ N) (hI : IS a) {M : mS} {r c p : Nat} (hA : mC M = a) (hr : r < nr a) (hc : c < 8) (hp : p < 6) : ∃ M1, mf_likeOf N M (nI r) (nI c) (nI p) = some (fLike a r c p, M1) ∧ mE M M1 := by
  have h6 := hI.hr6 hr
  obtain ⟨M2, n1, n2, n3⟩ := md_names (N := N) (M := M) (v := a 13 p) (h := a 12 p) (r := nI r) (p := fPlace a r (nI c)) (f := fFloor a r) (s := fSort a r c)
  obtain ⟨M3, s1, s2⟩ := md_says hN hI (part := 0) (mo := 99) (by omega) (n2.1.trans hA) n3
  refine ⟨M3, ?_, n2.trans s2⟩
  unfold mf_likeOf
  rw [if_pos (sm_ok hp (by omega)), md_place hA h6, bs1, md_floor hA h6, bs1, ix8, if_pos (sm_ok (show 8 * r + c < 48 by omega) (by omega)), sm_clamp (show p < 100000000 by omega), sm_clamp (show 8 * r + c < 100000000 by omega), mA hA 13 rfl, mA hA 12 rfl, mA hA 9 rfl]
  unfold fSort at n1
  rw [n1, bs1]
  rw [nI_0] at s1
  rw [s1]
  rfl
theorem md_worthL (hN : 2000 ≤ N) (hI : IS a) {r c : Nat} (hr : r < nr a) (hc : c < 8) : ∀ (k i n : Nat) (M : mS) (v : Int32), mC M = a → i + k = np a → k < n → ∃ M1, mf_worthOf_L5 N (nI r) (nI c) n M v (nI i) = some (fSum (fun p => if fHider a r c p = -1 then fLike a r c p else 0) k i v, M1) ∧ mE M M1
  | 0, i, n + 1, M, v, hA, hk, _ => by
    have e : M.1 10 0 = nI (np a) := by rw [mA hA 10 rfl]; exact hI.1.2.2.1
    have h6 := hI.1.2.2.2.1
    refine ⟨M, ?_, mE.refl M⟩
    rw [mf_worthOf_L5, e, if_pos (sm_len (by omega) (by omega))]
    rfl
  | k + 1, i, n + 1, M, v, hA, hk, hn => by
    have e : M.1 10 0 = nI (np a) := by rw [mA hA 10 rfl]; exact hI.1.2.2.1
    have h6 := hI.1.2.2.2.1
    have hp : i < 6 := by omega
    rw [mf_worthOf_L5, e, if_neg (sm_nle (by omega) (by omega)), md_hider hN hA hI hr hc hp, bs1, fSum, ← nI_succ]
    by_cases h1 : fHider a r c i = -1
    · obtain ⟨M2, l1, l2⟩ := md_like hN hI hA hr hc hp
      obtain ⟨M3, q1, q2⟩ := md_worthL hN hI hr hc k (i + 1) n M2 (v + fLike a r c i) (l2.1.trans hA) (by omega) (by omega)
      refine ⟨M3, ?_, l2.trans q2⟩
      simp only [if_pos h1, l1, bs2]
      exact q1
    · obtain ⟨M3, q1, q2⟩ := md_worthL hN hI hr hc k (i + 1) n M (v + 0) hA (by omega) (by omega)
      refine ⟨M3, ?_, q2⟩
      simp only [if_neg h1, bs2]
      exact q1
theorem md_worth (hN : 2000 ≤ N) (hI : IS a) {r c : Nat} {M : mS} (hA : mC M = a) (hr : r < nr a) (hc : c < 8) : ∃ M1, mf_worthOf N M (nI r) (nI c) = some (fWorth a r c, M1) ∧ mE M M1 := by
  have h6 := hI.1.2.2.2.1
  obtain ⟨M1, q1, q2⟩ := md_worthL hN hI hr hc (np a) 0 N M 0 hA (by omega) (by omega)
  refine ⟨M1, ?_, q2⟩
  rw [nI_0] at q1
  unfold mf_worthOf
  rw [q1]
  rfl
theorem md_allL2 (hN : 2000 ≤ N) (hI : IS a) {r : Nat} (hr : r < nr a) : ∀ (k i n : Nat) (M : mS) (v : Int32), mC M = a → i + k = ns a r → k < n → ∃ M1, mf_allWorth_L14 N (nI r) n M v (nI i) = some (fSum (fWorth a r) k i v, M1) ∧ mE M M1
  | 0, i, n + 1, M, v, hA, hk, _ => by
    have h6 := hI.hr6 hr
    have e := hI.2.2.1 r hr
    refine ⟨M, ?_, mE.refl M⟩
    rw [mf_allWorth_L14, if_pos (sm_ok h6 (by omega)), sm_clamp (show r < 100000000 by omega), mA hA 5 rfl, e.2.1, if_pos (sm_len (by omega) (by omega))]
    rfl
  | k + 1, i, n + 1, M, v, hA, hk, hn => by
    have h6 := hI.hr6 hr
    have e := hI.2.2.1 r hr
    obtain ⟨M2, l1, l2⟩ := md_worth hN hI hA hr (show i < 8 by omega)
    obtain ⟨M3, q1, q2⟩ := md_allL2 hN hI hr k (i + 1) n M2 (v + fWorth a r i) (l2.1.trans hA) (by omega) (by omega)
    refine ⟨M3, ?_, l2.trans q2⟩
    rw [mf_allWorth_L14, if_pos (sm_ok h6 (by omega)), sm_clamp (show r < 100000000 by omega), mA hA 5 rfl, e.2.1, if_neg (sm_nle (by omega) (by omega)), l1, bs2, ← nI_succ, fSum]
    exact q1
theorem md_allL (hN : 2000 ≤ N) (hI : IS a) : ∀ (k i n : Nat) (M : mS) (v : Int32), mC M = a → i + k = nr a → k < n → ∃ M1, mf_allWorth_L4 N n M v (nI i) = some (fRows a (fWorth a) k i v, M1) ∧ mE M M1
  | 0, i, n + 1, M, v, hA, hk, _ => by
    have e : M.1 3 0 = nI (nr a) := by rw [mA hA 3 rfl]; exact hI.1.1
    have h6 := hI.1.2.1
    refine ⟨M, ?_, mE.refl M⟩
    rw [mf_allWorth_L4, e, if_pos (sm_len (by omega) (by omega))]
    rfl
  | k + 1, i, n + 1, M, v, hA, hk, hn => by
    have e : M.1 3 0 = nI (nr a) := by rw [mA hA 3 rfl]; exact hI.1.1
    have h6 := hI.1.2.1
    have hr : i < nr a := by omega
    have e8 := (hI.2.2.1 i hr).2.2.2.1
    obtain ⟨M2, l1, l2⟩ := md_allL2 hN hI hr (ns a i) 0 N M v hA (by omega) (by omega)
    obtain ⟨M3, q1, q2⟩ := md_allL hN hI k (i + 1) n M2 (fSum (fWorth a i) (ns a i) 0 v) (l2.1.trans hA) (by omega) (by omega)
    refine ⟨M3, ?_, l2.trans q2⟩
    rw [nI_0] at l1
    rw [mf_allWorth_L4, e, if_neg (sm_nle (by omega) (by omega)), l1, bs2, ← nI_succ, fRows]
    exact q1
theorem md_all (hN : 2000 ≤ N) (hI : IS a) {M : mS} (hA : mC M = a) : ∃ M1, mf_allWorth N M = some (fAll a, M1) ∧ mE M M1 := by
  have h6 := hI.1.2.1
  obtain ⟨M1, q1, q2⟩ := md_allL hN hI (nr a) 0 N M 0 hA (by omega) (by omega)
  refine ⟨M1, ?_, q2⟩
  rw [nI_0] at q1
  unfold mf_allWorth
  rw [q1]
  rfl
theorem md_price (hN : 2000 ≤ N) (hI : IS a) {M : mS} {r c : Nat} (hA : mC M = a) (hr : r < nr a) (hc : c < 8) : ∃ M1, mf_priceOf N M (nI r) (nI c) = some (fPrice a r c, M1) ∧ mE M M1 := by
  have h6 := hI.hr6 hr
  obtain ⟨M1, w1, w2⟩ := md_worth hN hI hA hr hc
  have hA1 := w2.1.trans hA
  obtain ⟨M2, n1, n2, n3⟩ := md_names (N := N) (M := M1) (v := fWorth a r c) (h := 0) (r := nI r) (p := fPlace a r (nI c)) (f := fFloor a r) (s := fSort a r c)
  obtain ⟨M3, s1, s2⟩ := md_says hN hI (part := 1) (mo := 999) (by omega) (n2.1.trans hA1) n3
  refine ⟨M3, ?_, w2.trans (n2.trans s2)⟩
  unfold mf_priceOf
  rw [w1, bs2, md_place hA1 h6, bs1, md_floor hA1 h6, bs1, ix8, if_pos (sm_ok (show 8 * r + c < 48 by omega) (by omega)), sm_clamp (show 8 * r + c < 100000000 by omega), mA hA1 9 rfl]
  unfold fSort at n1
  rw [n1, bs1]
  rw [show nI 1 = (1 : Int32) from rfl] at s1
  rw [s1]
  rfl
theorem md_step {M : mS} {r : Nat} (hA : mC M = a) (hr : r < 6) : mf_stepOf N M (nI r) = some (fStep a r) := by
  unfold mf_stepOf fStep
  rw [if_pos (sm_ok hr (by omega)), sm_clamp (show r < 100000000 by omega), mA hA 7 rfl]
  cases r with
  | zero => rfl
  | succ r =>
    have h1 : ¬ nI (r + 1) = 0 := by
      rw [← nI_0, sm_eq (by omega) (by omega)]
      omega
    rw [if_neg h1, nI_pred, if_pos (sm_ok (by omega) (by omega)), sm_clamp (show r < 100000000 by omega), if_neg (show ¬ r + 1 = 0 by omega)]
    rfl
theorem md_costL (hN : 2000 ≤ N) (hI : IS a) : ∀ (k i n : Nat) (M : mS) (v : Int32), mC M = a → i + k = nr a → k < n → ∃ M1, mf_cost_L4 N n M v (nI i) = some (fSum (fCost1 a) k i v, M1) ∧ mE M M1
  | 0, i, n + 1, M, v, hA, hk, _ => by
    have e : M.1 3 0 = nI (nr a) := by rw [mA hA 3 rfl]; exact hI.1.1
    have h6 := hI.1.2.1
    refine ⟨M, ?_, mE.refl M⟩
    rw [mf_cost_L4, e, if_pos (sm_len (by omega) (by omega))]
    rfl
  | k + 1, i, n + 1, M, v, hA, hk, hn => by
    have e : M.1 3 0 = nI (nr a) := by rw [mA hA 3 rfl]; exact hI.1.1
    have h6 := hI.1.2.1
    have hr : i < 6 := by omega
    rw [mf_cost_L4, e, if_neg (sm_nle (by omega) (by omega)), md_step hA hr, bs1, fSum, ← nI_succ]
    by_cases h1 : fStep a i = 0
    · obtain ⟨M3, q1, q2⟩ := md_costL hN hI k (i + 1) n M v hA (by omega) (by omega)
      refine ⟨M3, ?_, q2⟩
      have e0 : v + fCost1 a i = v := by unfold fCost1; rw [if_pos h1]; exact Int32.add_zero v
      rw [if_pos h1, e0]
      exact q1
    · obtain ⟨M1, n1, n2, n3⟩ := md_names (N := N) (M := M) (v := 0) (h := fStep a i) (r := nI i) (p := 0) (f := a 7 i) (s := 0)
      obtain ⟨M2, s1, s2⟩ := md_says hN hI (part := 2) (mo := 999) (by omega) (n2.1.trans hA) n3
      obtain ⟨M3, q1, q2⟩ := md_costL hN hI k (i + 1) n M2 (v + fCost1 a i) ((n2.trans s2).1.trans hA) (by omega) (by omega)
      refine ⟨M3, ?_, (n2.trans s2).trans q2⟩
      rw [if_neg h1, bs1, if_pos (sm_ok hr (by omega)), sm_clamp (show i < 100000000 by omega), mA hA 7 rfl, n1, bs1]
      rw [show nI 2 = (2 : Int32) from rfl] at s1
      rw [s1, bs2]
      unfold fCost1 at q1 ⊢
      rw [if_neg h1] at q1 ⊢
      exact q1
theorem md_cost (hN : 2000 ≤ N) (hI : IS a) {M : mS} (hA : mC M = a) : ∃ M1, mf_cost N M = some (fCost a, M1) ∧ mE M M1 := by
  have h6 := hI.1.2.1
  obtain ⟨M1, q1, q2⟩ := md_costL hN hI (nr a) 0 N M 0 hA (by omega) (by omega)
  refine ⟨M1, ?_, q2⟩
  rw [nI_0] at q1
  unfold mf_cost
  rw [q1]
  rfl
theorem md_seesL (hN : 2000 ≤ N) (hI : IS a) {M : mS} {r c : Nat} (hA : mC M = a) (hr : r < nr a) (hc : c < 8) : ∀ (k i n : Nat) (v : Int32), i + k = np a → k < n → mf_seesOf_L5 N (nI r) (nI c) n M v (nI i) = some (fSeesL a r c k i v)
  | 0, i, n + 1, v, hk, _ => by
    have e : M.1 10 0 = nI (np a) := by rw [mA hA 10 rfl]; exact hI.1.2.2.1
    have h6 := hI.1.2.2.2.1
    rw [mf_seesOf_L5, e, if_pos (sm_len (by omega) (by omega))]
    rfl
  | k + 1, i, n + 1, v, hk, hn => by
    have e : M.1 10 0 = nI (np a) := by rw [mA hA 10 rfl]; exact hI.1.2.2.1
    have h6 := hI.1.2.2.2.1
    have hp : i < 6 := by omega
    rw [mf_seesOf_L5, e, if_neg (sm_nle (by omega) (by omega)), md_hider hN hA hI hr hc hp, bs1, fSeesL, ← nI_succ]
    exact md_seesL hN hI hA hr hc k (i + 1) n _ (by omega) (by omega)
theorem md_sees (hN : 2000 ≤ N) (hI : IS a) {M : mS} {r c : Nat} (hA : mC M = a) (hr : r < nr a) (hc : c < 8) : mf_seesOf N M (nI r) (nI c) = some (fSees a r c) := by
  have h6 := hI.1.2.2.2.1
  have q1 := md_seesL hN hI hA hr hc (np a) 0 N 0 (by omega) (by omega)
  rw [nI_0] at q1
  unfold mf_seesOf
  rw [q1]
  rfl
end A
end PMOD2
