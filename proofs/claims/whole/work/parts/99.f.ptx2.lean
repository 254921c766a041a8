section PTX2
/-! the three parts of a text, on both sides -/
variable {N : Nat} {b : Nat → Nat} {sz t : Nat}
def XL7 : List Nat := [38, 41, 42, 43, 44, 45, 46, 47, 48]
theorem XE.fr7 {s o : Nat} {O : List Nat} {X X1 : xS} (h : XE b sz s O o X) (hU : xU [47] X X1) : XE b sz s O o X1 := by
  obtain ⟨h1, h2, h3, h4, h5, h6, h7⟩ := h
  refine ⟨h1.frame hU (by decide) (by decide) (by decide), ?_, ?_, ?_, ?_, ?_, h7⟩
  · rw [hU.1 38 (by decide)]; exact h2
  · unfold XA
    rw [hU.1 41 (by decide), hU.1 42 (by decide), hU.1 43 (by decide), hU.1 44 (by decide)]
    exact h3
  · rw [hU.1 45 (by decide)]; exact h4
  · rw [hU.1 48 (by decide)]; exact h5
  · rw [hU.1 46 (by decide)]; exact h6
theorem XF.fr7 {s : Nat} {X X1 : xS} (h : XF s X) (hU : xU [47] X X1) : XF s X1 := by
  obtain ⟨h1, h2, h3, m, h4, h5⟩ := h
  refine ⟨?_, h2, ?_, m, h4, ?_⟩
  · rw [hU.1 38 (by decide)]; exact h1
  · rw [hU.1 43 (by decide)]; exact h3
  · rw [hU.1 48 (by decide)]; exact h5
theorem tx_key : ∀ p, p < 3 → (if nI p = 0 then (7 : Int32) else (if nI p = 1 then 8 else 9)) = nI (7 + p) ∧ ¬ (10 : Int32) = nI (7 + p) := by decide
theorem tx_inert {s : Nat} (hN : 2000 ≤ N) : ∀ (d p n : Nat) (X : xS), p + d = 3 → d < n → XF s X → ∃ X1, xf_R_read_L41 N n X (nI p) = some X1 ∧ XF s X1 ∧ xU XL7 X X1 := by
  intro d
  induction d with
  | zero =>
    intro p n X hp hn h
    obtain ⟨n, rfl⟩ : ∃ m, n = m + 1 := ⟨n - 1, by omega⟩
    rw [xf_R_read_L41, if_pos (show (3 : Int32) ≤ nI p from sm_len (n := 3) (by omega) (by omega))]
    exact ⟨X, rfl, h, xU.refl _ _⟩
  | succ d ih =>
    intro p n X hp hn h
    obtain ⟨n, rfl⟩ : ∃ m, n = m + 1 := ⟨n - 1, by omega⟩
    obtain ⟨k1, k2⟩ := tx_key p (by omega)
    obtain ⟨X1, a1, a2, a3⟩ := xr_inert (N := N) hN 100 0 X h (by omega)
    rw [xf_R_read_L41, if_neg (show ¬ (3 : Int32) ≤ nI p from sm_nle (n := 3) (by omega) (by omega)), k1, xr_expectF h k2, bs1, a1, bs1, xr_expectF a2 (by decide), bs1, if_pos (sm_ok (by omega) (by omega)), sm_clamp (by omega), show nI p + 1 = nI (p + 1) from nI_add p 1]
    have hU : xU [47] X1 (xs X1 47 p (X1.1 48 0)) := (xU.refl _ _).xs (by decide)
    obtain ⟨X2, b1, b2, b3⟩ := ih (p + 1) n (xs X1 47 p (X1.1 48 0)) (by omega) (by omega) (a2.fr7 hU)
    exact ⟨X2, b1, b2, (a3.mono (by decide)).trans ((hU.mono (by decide)).trans b3)⟩
theorem tK_v {s : Nat} : tK b sz s ≤ 6 ∨ 40 ≤ tK b sz s := by
  unfold tK
  by_cases hz : s = sz
  · rw [if_pos hz]
    omega
  · rw [if_neg hz]
    have hw : tW b sz s ≤ 12 := wIdx_le _
    cases pLe (b s) with
    | true =>
      simp only [cond_true]
      split
      · split
        · split <;> omega
        · omega
      · omega
    | false =>
      simp only [cond_false]
      cases pDi (b s) with
      | true =>
        simp only [cond_true]
        split <;> omega
      | false =>
        simp only [cond_false]
        cases hp : pSi (b s) with
        | true =>
          unfold pSi at hp
          simp only [Bool.or_eq_true, decide_eq_true_eq] at hp
          simp only [cond_true]
          omega
        | false => exact .inr (show 40 ≤ 99 by omega)
theorem kX_key0 : ∀ K, K ≤ 99 → K ≤ 6 ∨ 40 ≤ K → K ≠ 3 → (∀ p, p < 3 → ¬ kX K 0 = nI (7 + p)) ∧ (kX K 0 = 0 ↔ K = 0) := by decide +kernel
theorem kX_key {K v p : Nat} (hK : K ≤ 99) (hK2 : K ≤ 6 ∨ 40 ≤ K) (hv : K = 3 → v ≤ 2) (hp : p < 3) : (kX K v = nI (7 + p) ↔ (K = 3 ∧ v = p)) ∧ (kX K v = 0 ↔ K = 0) := by
  by_cases h3 : K = 3
  · subst h3
    have := hv rfl
    have e : kX 3 v = nI (7 + v) := rfl
    rw [e, sm_eq (by omega) (by omega), show (0 : Int32) = nI 0 from rfl, sm_eq (by omega) (by omega)]
    omega
  · rw [kX_v h3]
    have h := kX_key0 K hK hK2 h3
    exact ⟨⟨fun hh => absurd hh (h.1 p hp), fun hh => absurd hh.1 h3⟩, h.2⟩
def tI (b : Nat → Nat) (sz t p i : Nat) (O : List Nat) (q : Nat → Nat) (X : xS) (M : mS) : Prop := eP b sz t i O X M ∧ q 0 = 0 ∧ q p = O.length ∧ ∀ j, j < p → q j ≤ q (j + 1) ∧ M.1 20 (4 * t + j) = nI (q j) ∧ X.1 47 j = nI (q (j + 1)) ∧ ∃ P O1, P ++ O1 = O ∧ O1.length = q (j + 1) ∧ dR (q j) O1 = some 1
def mZ (t : Nat) (M M1 : mS) : Prop := mU [19, 20, 40, 41, 42, 43, 45, 46, 47, 48] M M1 ∧ (∀ j, j < 200 * t → M1.1 19 j = M.1 19 j) ∧ ∀ j, j < 4 * t → M1.1 20 j = M.1 20 j
theorem mZ.trans {M M1 M2 : mS} (h : mZ t M M1) (h2 : mZ t M1 M2) : mZ t M M2 := ⟨h.1.trans h2.1, fun j hj => (h2.2.1 j hj).trans (h.2.1 j hj), fun j hj => (h2.2.2 j hj).trans (h.2.2 j hj)⟩
theorem mV.w {M M1 : mS} (h : mV t LL M M1) : mZ t M M1 := ⟨h.1.mono (by decide), h.2, fun j _ => congrFun (h.1.1 20 (by decide)) j⟩
theorem mU.w {l : List Nat} {M M1 : mS} (h : mU l M M1) (hs : ∀ k, k ∈ l → k ∈ [40, 41, 42, 43, 48]) : mZ t M M1 := ⟨h.mono fun k hk => by
  have := hs k hk
  revert this
  exact (show ∀ k, k ∈ [40, 41, 42, 43, 48] → k ∈ [19, 20, 40, 41, 42, 43, 45, 46, 47, 48] from by decide) k, fun j _ => congrFun (h.1 19 fun hh => absurd (hs 19 hh) (by decide)) j, fun j _ => congrFun (h.1 20 fun hh => absurd (hs 20 hh) (by decide)) j⟩
theorem mZ.s20 {M : mS} {p : Nat} {x : Int32} : mZ t M (ms M 20 (4 * t + p) x) := ⟨(mU.refl _ _).ms (by decide), fun j _ => congrFun (ms_ne (by decide)) j, fun j hj => by
  rw [ms_same, upd_at, if_neg (by omega)]⟩
theorem tx_stop {m : Nat} {M : mS} {v : Int32} (hm : 0 < m) : mf_text_L26 N m M 0 v = some (0, M) := by
  obtain ⟨m, rfl⟩ : ∃ k, m = k + 1 := ⟨m - 1, by omega⟩
  rw [mf_text_L26]
  by_cases h : 3 ≤ v
  · rw [if_pos h]
  · rw [if_neg h, if_pos rfl]
theorem tx_parts (hN : 2000 ≤ N) (ht : t < 6) : ∀ (d p n m i : Nat) (O : List Nat) (q : Nat → Nat) (X : xS) (M : mS), p + d = 3 → d < n → d < m → tI b sz t p i O q X M → ∃ X1 g M1, xf_R_read_L41 N n X (nI p) = some X1 ∧ mf_text_L26 N m M 1 (nI p) = some (g, M1) ∧ xU XL7 X X1 ∧ mZ t M M1 ∧ ((g = 0 ∧ ∃ s, eF t s X1 M1) ∨ (g = 1 ∧ ∃ i1 O1 q1, tI b sz t 3 i1 O1 q1 X1 M1)) := by
  intro d
  induction d with
  | zero =>
    intro p n m i O q X M hp hn hm h
    obtain ⟨n, rfl⟩ : ∃ k, n = k + 1 := ⟨n - 1, by omega⟩
    obtain ⟨m, rfl⟩ : ∃ k, m = k + 1 := ⟨m - 1, by omega⟩
    have e3 : (3 : Int32) ≤ nI p := sm_len (n := 3) (by omega) (by omega)
    rw [xf_R_read_L41, if_pos e3, mf_text_L26, if_pos e3]
    have e : p = 3 := hp
    subst e
    exact ⟨X, 1, M, rfl, rfl, xU.refl _ _, ⟨mU.refl _ _, fun _ _ => rfl, fun _ _ => rfl⟩, .inr ⟨rfl, i, O, q, h⟩⟩
  | succ d ih =>
    intro p n m i O q X M hp hn hm h
    obtain ⟨n, rfl⟩ : ∃ k, n = k + 1 := ⟨n - 1, by omega⟩
    obtain ⟨m, rfl⟩ : ∃ k, m = k + 1 := ⟨m - 1, by omega⟩
    obtain ⟨⟨hT, hi, hle, h21, h48, h19, hX, hlen, hok⟩, hq0, hqp, hj⟩ := h
    have h160 := hT.2.1
    have hb := tB_le (b := b) hle
    have hk := tK_le (b := b) (sz := sz) (tB b sz i)
    have hk3 := tV3 (b := b) (sz := sz) (s := tB b sz i)
    have hkey := kX_key hk tK_v hk3 (show p < 3 by omega)
    obtain ⟨k1, k2⟩ := tx_key p (by omega)
    obtain ⟨M4, n1, n2, n3⟩ := md_next (N := N) hN hT hi hle
    have e3 : ¬ (3 : Int32) ≤ nI p := sm_nle (n := 3) (by omega) (by omega)
    have m21 : M4.1 21 0 = nI t := (congrFun (n2.1 21 (by decide)) 0).trans h21
    have m48 : M4.1 48 0 = nI O.length := (congrFun (n2.1 48 (by decide)) 0).trans h48
    have e4t : 4 * M4.1 21 0 + nI p = nI (4 * t + p) := by rw [m21, show (4 : Int32) = nI 4 from rfl, pk_mul, nI_add]
    rw [xf_R_read_L41, if_neg e3, k1, mf_text_L26, if_neg e3, if_neg (show ¬ (1 : Int32) = 0 from by decide), n1, bs1, e4t, if_pos (sm_ok (by omega) (by omega)), sm_clamp (by omega), m48]
    obtain ⟨n40, n41, n42, n43⟩ := n3
    have hU4 : mU [20, 40, 41, 42, 43] M (ms M4 20 (4 * t + p) (nI O.length)) := (n2.mono (by decide)).ms (by decide)
    have hW4 : mZ t M (ms M4 20 (4 * t + p) (nI O.length)) := (n2.w (by decide)).trans mZ.s20
    have h42 : M4.1 42 0 = 3 ↔ tK b sz (tB b sz i) = 3 := by rw [n42]; exact kI_eq (j := 3) hk (by omega)
    by_cases hky : tK b sz (tB b sz i) = 3 ∧ tV b sz (tB b sz i) = p
    · have h43 : M4.1 43 0 = nI p := by rw [n43 (by omega) (by omega), hky.2]
      have hs : tB b sz i < sz := by
        have : tB b sz i ≠ sz := fun e => by
          have := hky.1
          rw [e, tK_end] at this
          omega
        omega
      have hE := tE_le (b := b) hb.2
      obtain ⟨X1, c1, c2, c3⟩ := xr_expect (N := N) (a := nI (7 + p)) hN hX (hkey.1.mpr hky)
      have hP5 : eP b sz t (tE b sz (tB b sz i)) O X1 (ms M4 20 (4 * t + p) (nI O.length)) := by
        refine ⟨hT.frame hU4 (by decide) (by decide), ?_, hE.2.1, ?_, ?_, ?_, c2, by omega, hok⟩
        · rw [ms_ne (by decide)]; exact n40
        · rw [ms_ne (by decide)]; exact m21
        · rw [ms_ne (by decide)]; exact m48
        · rw [hU4.1 19 (by decide)]; exact h19
      obtain ⟨X6, X7, r, M6, x1, x2, x3, x4, x5, x6⟩ := ex_all (N := N) hN ht hP5
      have hU7 : xU [47] X7 (xs X7 47 p (X7.1 48 0)) := (xU.refl _ _).xs (by decide)
      have hXX : xU XL7 X (xs X7 47 p (X7.1 48 0)) := (c3.mono (by decide)).trans ((x3.mono (by decide)).trans (hU7.mono (by decide)))
      have hMM : mZ t M M6 := hW4.trans x5.w
      rw [c1, bs1, x1, bs1, x2, bs1, if_pos (sm_ok (by omega) (by omega)), sm_clamp (by omega), if_pos (h42.mpr hky.1), if_pos h43, if_neg (show ¬ (1 : Int32) = 0 from by decide), x4, bs2, show nI p + 1 = nI (p + 1) from nI_add p 1]
      rcases x6 with ⟨rfl, s, f1, f2, f3⟩ | ⟨rfl, i2, O2, g1, ⟨P, g2⟩, g3⟩
      · obtain ⟨X8, y1, y2, y3⟩ := tx_inert (N := N) hN d (p + 1) n (xs X7 47 p (X7.1 48 0)) (by omega) (by omega) (f1.fr7 hU7)
        rw [if_neg (show ¬ (false : Bool) = true from by decide), tx_stop (by omega)]
        exact ⟨X8, 0, M6, y1, rfl, hXX.trans y3, hMM, .inl ⟨rfl, s, y2, f2, f3⟩⟩
      · rw [if_pos rfl]
        obtain ⟨w1, w2, w3, w4, w5, w6, w7, w8, w9⟩ := g1
        have hl2 : O.length ≤ O2.length := by rw [← g2, List.length_append]; omega
        have hI : tI b sz t (p + 1) i2 O2 (fun j => if j ≤ p then q j else O2.length) (xs X7 47 p (X7.1 48 0)) M6 := by
          refine ⟨⟨w1, w2, w3, w4, w5, w6, w7.fr7 hU7, w8, w9⟩, ?_, ?_, fun j hjp => ?_⟩
          · show (if 0 ≤ p then q 0 else O2.length) = 0
            rw [if_pos (Nat.zero_le _)]; exact hq0
          · show (if p + 1 ≤ p then q (p + 1) else O2.length) = O2.length
            rw [if_neg (by omega)]
          · show (if j ≤ p then q j else O2.length) ≤ (if j + 1 ≤ p then q (j + 1) else O2.length) ∧ M6.1 20 (4 * t + j) = nI (if j ≤ p then q j else O2.length) ∧ (xs X7 47 p (X7.1 48 0)).1 47 j = nI (if j + 1 ≤ p then q (j + 1) else O2.length) ∧ ∃ P O1, P ++ O1 = O2 ∧ O1.length = (if j + 1 ≤ p then q (j + 1) else O2.length) ∧ dR (if j ≤ p then q j else O2.length) O1 = some 1
            have e20 : M6.1 20 (4 * t + j) = upd (M.1 20) (4 * t + p) (nI O.length) (4 * t + j) := by
              rw [x5.1.1 20 (by decide), ms_same, n2.1 20 (by decide)]
            have e47 : (xs X7 47 p (X7.1 48 0)).1 47 j = upd (X.1 47) p (nI O2.length) j := by
              rw [xs_same, x3.1 47 (by decide), c3.1 47 (by decide), w7.2.2.2.2.1]
            rw [e20, e47, upd_at, upd_at, if_pos (show j ≤ p by omega)]
            by_cases hjj : j = p
            · subst hjj
              rw [if_neg (by omega), if_pos rfl, if_pos rfl, hqp]
              exact ⟨hl2, rfl, rfl, [], O2, rfl, rfl, g3⟩
            · obtain ⟨v1, v2, v3, P1, O1, v4, v5, v6⟩ := hj j (by omega)
              rw [if_pos (show j + 1 ≤ p by omega), if_neg (by omega), if_neg hjj]
              exact ⟨v1, v2, v3, P ++ P1, O1, by rw [List.append_assoc, v4, g2], v5, v6⟩
        obtain ⟨X8, g, M8, z1, z2, z3, z4, z5⟩ := ih (p + 1) n m i2 O2 _ _ M6 (by omega) (by omega) (by omega) hI
        exact ⟨X8, g, M8, z1, z2, hXX.trans z3, hMM.trans z4, z5⟩
    · obtain ⟨X1, c1, c2, c3⟩ := xr_expectN (N := N) (a := nI (7 + p)) hX (by omega) (fun hh => hky (hkey.1.mp hh))
      obtain ⟨X6, x1, x2, x3⟩ := xr_inert (N := N) hN 100 0 X1 c2 (by omega)
      have hU7 : xU [47] X6 (xs X6 47 p (X6.1 48 0)) := (xU.refl _ _).xs (by decide)
      have hXX : xU XL7 X (xs X6 47 p (X6.1 48 0)) := (c3.mono (by decide)).trans ((x3.mono (by decide)).trans (hU7.mono (by decide)))
      obtain ⟨X8, y1, y2, y3⟩ := tx_inert (N := N) hN d (p + 1) n (xs X6 47 p (X6.1 48 0)) (by omega) (by omega) (x2.fr7 hU7)
      have e0 : (if M4.1 42 0 = 3 then (if M4.1 43 0 = nI p then (1 : Int32) else 0) else 0) = 0 := by
        by_cases h3 : tK b sz (tB b sz i) = 3
        · rw [if_pos (h42.mpr h3), n43 (by omega) (by omega), if_neg]
          intro hh
          have := hk3 h3
          exact hky ⟨h3, (sm_eq (by omega) (by omega)).mp hh⟩
        · rw [if_neg (fun hh => h3 (h42.mp hh))]
      rw [c1, bs1, x1, bs1, xr_expectF x2 (by decide), bs1, if_pos (sm_ok (by omega) (by omega)), sm_clamp (by omega), e0, if_pos rfl, show nI p + 1 = nI (p + 1) from nI_add p 1, tx_stop (by omega)]
      refine ⟨X8, 0, _, y1, rfl, hXX.trans y3, hW4, .inl ⟨rfl, tB b sz i, y2, ?_, ?_⟩⟩
      · rw [ms_ne (by decide)]; exact n41
      · rw [ms_ne (by decide)]; exact m21
end PTX2
