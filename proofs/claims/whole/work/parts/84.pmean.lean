section PMEAN
section A
variable {N : Nat} {a : aS} {r c p : Nat}
theorem fNs2_no {q : Nat} : ∀ {k e : Nat} {s : Nat × Nat}, (∀ j, e ≤ j → j < e + k → fNear a r c p q j = false) → fNs2 a r c p q k e s = s
  | 0, _, _, _ => rfl
  | k + 1, e, s, h => by
    rw [fNs2, h e (Nat.le_refl _) (by omega)]
    exact fNs2_no fun j h1 h2 => h j (by omega) (by omega)
/-- at most two more for a row -/
theorem fNs2_le (hI : IS a) (hr : r < nr a) (hc : c < 8) (hp : p < np a) {q : Nat} (hq : q < nr a) : ∀ (k e : Nat) (s : Nat × Nat), e + k ≤ 8 → (fNs2 a r c p q k e s).1 ≤ s.1 + 2
  | 0, _, s, _ => by
    rw [fNs2]
    omega
  | k + 1, e, s, hk => by
    rw [fNs2]
    cases h1 : fNear a r c p q e with
    | false => exact fNs2_le hI hr hc hp hq k (e + 1) s (by omega)
    | true =>
      rw [if_pos rfl]
      cases k with
      | zero =>
        rw [fNs2]
        show s.1 + 1 ≤ s.1 + 2
        omega
      | succ k =>
        rw [fNs2, fNs2_no (fun j g1 g2 => near_far hI hr hc hp hq (show e + 2 ≤ j by omega) (by omega) h1)]
        split
        · show s.1 + 1 + 1 ≤ s.1 + 2
          omega
        · show s.1 + 1 ≤ s.1 + 2
          omega
theorem fNs_le (hI : IS a) (hr : r < nr a) (hc : c < 8) (hp : p < np a) : ∀ (k q : Nat) (s : Nat × Nat), q + k ≤ r → (fNs a r c p k q s).1 ≤ s.1 + 2 * k
  | 0, _, s, _ => by
    rw [fNs]
    omega
  | k + 1, q, s, hk => by
    rw [fNs]
    have e8 := (hI.2.2.1 q (by omega)).2.2.2.1
    have h1 := fNs2_le hI hr hc hp (show q < nr a by omega) (ns a q) 0 s (by omega)
    have h2 := fNs_le hI hr hc hp k (q + 1) (fNs2 a r c p q (ns a q) 0 s) (by omega)
    omega
theorem fNn_le (hI : IS a) (hr : r < nr a) (hc : c < 8) (hp : p < np a) : fNn a r c p ≤ 10 := by
  have h6 := hI.hr6 hr
  have := fNs_le hI hr hc hp r 0 (0, 1) (by omega)
  unfold fNn
  have e : ((0, 1) : Nat × Nat).1 = 0 := rfl
  omega
/-- the cases are no more than all -/
theorem fNs2_p (hI : IS a) {q : Nat} : ∀ (k e : Nat) (s : Nat × Nat), s.2 ≤ fAllN a ^ s.1 → (fNs2 a r c p q k e s).2 ≤ fAllN a ^ (fNs2 a r c p q k e s).1
  | 0, _, _, h => h
  | k + 1, e, s, h => by
    rw [fNs2]
    refine fNs2_p hI k (e + 1) _ ?_
    cases fNear a r c p q e with
    | false => exact h
    | true =>
      show s.2 * fLowN a r c p q 4 ≤ fAllN a ^ (s.1 + 1)
      rw [Nat.pow_succ]
      exact Nat.mul_le_mul h (fLowN_le hI)
theorem fNs_p (hI : IS a) : ∀ (k q : Nat) (s : Nat × Nat), s.2 ≤ fAllN a ^ s.1 → (fNs a r c p k q s).2 ≤ fAllN a ^ (fNs a r c p k q s).1
  | 0, _, _, h => h
  | k + 1, q, s, h => by
    rw [fNs]
    exact fNs_p hI k (q + 1) _ (fNs2_p hI _ _ _ h)
theorem fSo_le (hI : IS a) : fSo a r c p ≤ fAllN a ^ fNn a r c p := by
  unfold fSo fNn
  split
  · exact fNs_p hI r 0 (0, 1) (by simp)
  · exact Nat.zero_le _
theorem pow36 {b n : Nat} (hb : b ≤ 36) (hn : n ≤ 10) : b ^ n ≤ 3656158440062976 := by
  have h1 : b ^ n ≤ 36 ^ n := Nat.pow_le_pow_left hb n
  have h2 : 36 ^ n ≤ 36 ^ 10 := Nat.pow_le_pow_right (by omega) hn
  have h3 : 36 ^ 10 = 3656158440062976 := by decide
  omega
/-- the same with another start of the product: the class may begin with none -/
theorem fNs2_0 {q : Nat} : ∀ {k e : Nat} {s : Nat × Nat}, fNs2 a r c p q k e (s.1, 0) = ((fNs2 a r c p q k e s).1, 0)
  | 0, _, _ => rfl
  | k + 1, e, s => by
    rw [fNs2, fNs2]
    cases fNear a r c p q e with
    | false => exact fNs2_0
    | true =>
      have := fNs2_0 (q := q) (k := k) (e := e + 1) (s := (s.1 + 1, s.2 * fLowN a r c p q 4))
      simp only [if_true, Nat.zero_mul]
      exact this
theorem fNs_0 : ∀ {k q : Nat} {s : Nat × Nat}, fNs a r c p k q (s.1, 0) = ((fNs a r c p k q s).1, 0)
  | 0, _, _ => rfl
  | k + 1, q, s => by
    rw [fNs, fNs, fNs2_0]
    exact fNs_0
/-! the class -/
theorem px_nearE {X : xS} (hL : LN X a r c p) (hI : IS a) (hR : RS X a) (ha : fAmong a r = true) {q e : Nat} (hq : q < nr a) (hb : fAmong a q = true) : (X.1 49 0 < (if 0 ≤ (xf_L_besides X (X.1 61 q) (fPlace a q (nI e))) then (xf_L_besides X (X.1 61 q) (fPlace a q (nI e))) else 0 - (xf_L_besides X (X.1 61 q) (fPlace a q (nI e))))) ↔ fNear a r c p q e = false := by
  rw [px_besides hL, px_far hR hq, hL.1, zsub]
  have ea : (if 0 ≤ fBes a r c p (fPlace a q (nI e)) (fFar a q) then fBes a r c p (fPlace a q (nI e)) (fFar a q) else -fBes a r c p (fPlace a q (nI e)) (fFar a q)) = fAbs (fBes a r c p (fPlace a q (nI e)) (fFar a q)) := rfl
  rw [ea]
  unfold fNear
  rw [ha, hb]
  simp only [Bool.true_and, decide_eq_false_iff_not]
  rw [fa_lt, fa_le]
  omega
theorem px_caseL2 (hN : 2000 ≤ N) {X : xS} (hI : IS a) (hR : RS X a) (hr : r < nr a) (hc : c < 8) (hp : p < np a) (hL : LN X a r c p) (ha : fAmong a r = true) {q : Nat} (hq : q < nr a) (hqr : q < r) {x z : Int32} : ∀ (k e n : Nat) (s : Nat × Nat), e + k = ns a q → s.1 + 2 * (k + 1) ≤ 1000 → k < n → xf_H_chanceOf_L62 N x (nI (fAllN a)) z (nI q) n X (lN s.2) (lN (fAllN a ^ s.1)) (nI e) = some (lN (fNs2 a r c p q k e s).2, lN (fAllN a ^ (fNs2 a r c p q k e s).1))
  | 0, e, n + 1, s, hk, hs, _ => by
    have h6 := hI.hr6 hq
    have e8 := hI.2.2.1 q hq
    have e56 := (hR.2.2.1 q hq).2.2.1
    rw [xf_H_chanceOf_L62, sm_clamp (show q < 100000000 by omega), if_pos (by rw [hR.1.2.2.2]; exact hq), e56, e8.2.1, if_pos (sm_len (by omega) (by omega))]
    by_cases h : X.1 63 q = 0
    · rw [if_pos h]; rfl
    · rw [if_neg h]; rfl
  | k + 1, e, n + 1, s, hk, hs, hn => by
    have h6 := hI.hr6 hq
    have e8 := hI.2.2.1 q hq
    have e56 := (hR.2.2.1 q hq).2.2.1
    rw [xf_H_chanceOf_L62, sm_clamp (show q < 100000000 by omega), if_pos (by rw [hR.1.2.2.2]; exact hq), e56, e8.2.1, if_neg (sm_nle (by omega) (by omega))]
    cases hb : fAmong a q with
    | false =>
      rw [if_pos ((px_among hR hq).mpr hb), fNs2_no]
      intro j _ _
      unfold fNear
      rw [hb]
      simp
    | true =>
      have hnb : ¬ X.1 63 q = 0 := fun hh => by
        have := (px_among hR hq).mp hh
        rw [hb] at this
        exact nomatch this
      have hne := px_nearE hL hI hR ha (e := e) hq hb
      rw [if_neg hnb, px_place hR hI hq, bs1, fNs2, ← nI_succ]
      cases hnear : fNear a r c p q e with
      | false =>
        rw [if_pos (hne.mpr hnear)]
        exact px_caseL2 hN hI hR hr hc hp hL ha hq hqr k (e + 1) n s (by omega) (by omega) (by omega)
      | true =>
        have hlow := fLowN_le (r := r) (c := c) (p := p) (q := q) hI
        have h36 := (fAllN_eq hI).2
        rw [if_neg (fun hh => by have := hne.mp hh; rw [hnear] at this; exact nomatch this), px_low hN hI hR hL hq, bs1, nI_l (by omega), nI_l (by omega), lN_mul, lN_mul, ← Nat.pow_succ]
        exact px_caseL2 hN hI hR hr hc hp hL ha hq hqr k (e + 1) n (s.1 + 1, s.2 * fLowN a r c p q 4) (by omega) (by show s.1 + 1 + 2 * (k + 1) ≤ 1000; omega) (by omega)
theorem px_caseL (hN : 2000 ≤ N) {X : xS} (hI : IS a) (hR : RS X a) (hr : r < nr a) (hc : c < 8) (hp : p < np a) (hL : LN X a r c p) : ∀ (k q n : Nat) (s : Nat × Nat), q + k = r → s.1 + 18 * (k + 1) ≤ 1000 → k < n → xf_H_chanceOf_L34 N (nI r) (nI (fAllN a)) n X (lN s.2) (lN (fAllN a ^ s.1)) (nI q) = some (lN (fNs a r c p k q s).2, lN (fAllN a ^ (fNs a r c p k q s).1))
  | 0, q, n + 1, s, hk, hs, _ => by
    have h6 := hI.hr6 hr
    have e55 := (hR.2.2.1 r hr).2.1
    rw [xf_H_chanceOf_L34, sm_clamp (show r < 100000000 by omega), if_pos (by rw [hR.1.2.2.2]; exact hr), e55, if_pos (sm_len (show r ≤ q by omega) (by omega))]
    by_cases h : X.1 63 r = 0
    · rw [if_pos h]; rfl
    · rw [if_neg h]; rfl
  | k + 1, q, n + 1, s, hk, hs, hn => by
    have h6 := hI.hr6 hr
    have hq : q < nr a := by omega
    have e55 := (hR.2.2.1 r hr).2.1
    have e8 := hI.2.2.1 q hq
    rw [xf_H_chanceOf_L34, sm_clamp (show r < 100000000 by omega), if_pos (by rw [hR.1.2.2.2]; exact hr), e55, if_neg (sm_nle (by omega) (by omega))]
    cases ha : fAmong a r with
    | false =>
      have hno : ∀ (k q : Nat) (s : Nat × Nat), fNs a r c p k q s = s := by
        intro k
        induction k with
        | zero => intro q s; rfl
        | succ k ih =>
          intro q s
          rw [fNs, fNs2_no, ih]
          intro j _ _
          unfold fNear
          rw [ha]
          simp
      rw [if_pos ((px_among hR hr).mpr ha), hno]
    | true =>
      have hnb : ¬ X.1 63 r = 0 := fun hh => by
        have := (px_among hR hr).mp hh
        rw [ha] at this
        exact nomatch this
      have h2 := px_caseL2 hN hI hR hr hc hp hL ha hq (by omega) (x := nI r) (z := nI q) (ns a q) 0 N s (by omega) (by omega) (by omega)
      have hle := fNs2_le hI hr hc hp hq (ns a q) 0 s (by omega)
      rw [nI_0] at h2
      rw [if_neg hnb, if_pos (sm_ok (show q < 6 by omega) (by omega)), sm_clamp (show q < 100000000 by omega), if_pos (by rw [hR.1.2.2.2]; exact hq), h2, bs2, fNs, ← nI_succ]
      exact px_caseL hN hI hR hr hc hp hL k (q + 1) n (fNs2 a r c p q (ns a q) 0 s) (by omega) (by omega) (by omega)
theorem px_chanceOf (hN : 2000 ≤ N) {X : xS} (hI : IS a) (hR : RS X a) (hr : r < nr a) (hc : c < 8) (hp : p < np a) (h0 : 0 < fAllN a) : ∃ X1, xf_H_chanceOf N X (nI r) (nI c) (nI p) = some X1 ∧ xQ X X1 ∧ X1.2.1 0 0 = lN (lowP (fSo a r c p) (fAllN a ^ fNn a r c p) 0) ∧ X1.2.1 0 1 = lN (lowP (fSo a r c p) (fAllN a ^ fNn a r c p) 1) := by
  have h6 := hI.hr6 hr
  have h36 := (fAllN_eq hI).2
  obtain ⟨X1, l1, l2, l3⟩ := px_lay (N := N) hR hI hr hc hp
  have hR1 := hR.frame l2
  have hB : fAllN a ^ fNn a r c p ≤ 3656158440062976 := pow36 h36 (fNn_le hI hr hc hp)
  have hB0 : 0 < fAllN a ^ fNn a r c p := Nat.pow_pos h0
  have hS := fSo_le (r := r) (c := c) (p := p) hI
  have hstart : (if fPostI a r c p = -1 then (1 : Int64) else 0) = lN (if fPostI a r c p = -1 then 1 else 0) := by
    by_cases h : fPostI a r c p = -1
    · rw [if_pos h, if_pos h]; rfl
    · rw [if_neg h, if_neg h]; rfl
  have hl := px_caseL hN hI hR1 hr hc hp l3 r 0 N (0, if fPostI a r c p = -1 then 1 else 0) (by omega) (by show 0 + 18 * (r + 1) ≤ 1000; omega) (by omega)
  have hres : fNs a r c p r 0 (0, if fPostI a r c p = -1 then 1 else 0) = (fNn a r c p, fSo a r c p) := by
    unfold fNn fSo
    by_cases h : fPostI a r c p = -1
    · rw [if_pos h, if_pos h]
    · rw [if_neg h, if_neg h]
      exact fNs_0 (s := (0, 1))
  rw [hres] at hl
  have hl1 : xf_H_chanceOf_L34 N (nI r) (nI (fAllN a)) N X1 (lN (if fPostI a r c p = -1 then 1 else 0)) 1 0 = some (lN (fSo a r c p), lN (fAllN a ^ fNn a r c p)) := by
    have e1 : lN (fAllN a ^ ((0 : Nat), (if fPostI a r c p = -1 then 1 else 0 : Nat)).1) = 1 := by
      show lN (fAllN a ^ 0) = 1
      rw [Nat.pow_zero]
      rfl
    rw [e1, nI_0] at hl
    exact hl
  obtain ⟨X2, r1, r2, r3, r4, r5⟩ := px_reduce hN (X := X1) (a := fSo a r c p) (b := fAllN a ^ fNn a r c p) (by omega) (by omega) hB0
  refine ⟨X2, ?_, ?_, r4, r5⟩
  · unfold xf_H_chanceOf
    rw [l1, bs1, px_post hN hR1 hI l3, bs1, px_allC hN hI hR1, bs1, hstart, hl1, bs2, r1, bs1]
  · exact ⟨fun j hj => by rw [r2]; exact l2.1 j hj, r3.trans l2.2⟩
/-! the reference -/
def mQ (M Y : mS) : Prop := mE M Y
theorem e_ms52 {M Y : mS} {x : Int32} {y : Int64} (h : mE M Y) : mE M (mt (ms Y 52 0 x) 53 0 y) := (h.ms (.inr rfl)).mt rfl
theorem md_caseL2 (hN : 2000 ≤ N) {M : mS} (hA : mC M = a) (hI : IS a) (hr : r < nr a) (hc : c < 8) (hp : p < np a) {q : Nat} (hq : q < nr a) : ∀ (k e n : Nat) (s : Nat × Nat) (Y : mS), mE M Y → Y.1 52 0 = nI s.1 → Y.2 53 0 = lN s.2 → e + k = ns a q → k < n → ∃ Z, mf_cases_L22 N (nI r) (nI c) (nI p) (nI q) n Y (nI e) = some Z ∧ mE M Z ∧ Z.1 52 0 = nI (fNs2 a r c p q k e s).1 ∧ Z.2 53 0 = lN (fNs2 a r c p q k e s).2
  | 0, e, n + 1, s, Y, hq2, h52, h53, hk, _ => by
    have h6 := hI.hr6 hq
    have e8 := hI.2.2.1 q hq
    have hAY := hq2.1.trans hA
    refine ⟨Y, ?_, hq2, h52, h53⟩
    rw [mf_cases_L22, if_pos (sm_ok h6 (by omega)), sm_clamp (show q < 100000000 by omega), mA hAY 5 rfl, e8.2.1, if_pos (sm_len (by omega) (by omega))]
  | k + 1, e, n + 1, s, Y, hq2, h52, h53, hk, hn => by
    have h6 := hI.hr6 hq
    have h6r := hI.hr6 hr
    have hp6 := hI.hp6 hp
    have e8 := hI.2.2.1 q hq
    have hAY := hq2.1.trans hA
    rw [mf_cases_L22, if_pos (sm_ok h6 (by omega)), sm_clamp (show q < 100000000 by omega), mA hAY 5 rfl, e8.2.1, if_neg (sm_nle (by omega) (by omega)), md_near hAY h6r hp6 h6, bs1, fNs2, ← nI_succ]
    cases hnear : fNear a r c p q e with
    | false =>
      exact md_caseL2 hN hA hI hr hc hp hq k (e + 1) n s Y hq2 h52 h53 (by omega) (by omega)
    | true =>
      have hlow := md_lowL (N := N) hAY hI hr hc hp6 hq (x := nI e) 4 0 N (by omega) (by omega)
      have e0 : nI (fLowN a r c p q 0) = 0 := rfl
      rw [e0, nI_0] at hlow
      have hl36 := fLowN_le (r := r) (c := c) (p := p) (q := q) hI
      have h36 := (fAllN_eq hI).2
      have e53 : (ms Y 52 0 (Y.1 52 0 + 1)).2 53 0 = lN s.2 := h53
      rw [if_pos rfl, hlow, bs1, h52, ← nI_succ, show (ms Y 52 0 (nI (s.1 + 1))).2 53 0 = lN s.2 from h53, nI_l (by omega), lN_mul]
      exact md_caseL2 hN hA hI hr hc hp hq k (e + 1) n (s.1 + 1, s.2 * fLowN a r c p q 4) _ (e_ms52 hq2) (by
        show upd (Y.1 52) 0 (nI (s.1 + 1)) 0 = _
        rw [pk_us]) (by
        show vp_updL (Y.2 53) 0 (lN (s.2 * fLowN a r c p q 4)) 0 = _
        rw [pk_uLs]) (by omega) (by omega)
theorem md_caseL (hN : 2000 ≤ N) {M : mS} (hA : mC M = a) (hI : IS a) (hr : r < nr a) (hc : c < 8) (hp : p < np a) : ∀ (k q n : Nat) (s : Nat × Nat) (Y : mS), mE M Y → Y.1 52 0 = nI s.1 → Y.2 53 0 = lN s.2 → q + k = r → k < n → ∃ Z, mf_cases_L13 N (nI r) (nI c) (nI p) n Y (nI q) = some Z ∧ mE M Z ∧ Z.1 52 0 = nI (fNs a r c p k q s).1 ∧ Z.2 53 0 = lN (fNs a r c p k q s).2
  | 0, q, n + 1, s, Y, hq2, h52, h53, hk, _ => by
    have h6 := hI.hr6 hr
    refine ⟨Y, ?_, hq2, h52, h53⟩
    rw [mf_cases_L13, if_pos (sm_len (show r ≤ q by omega) (by omega))]
  | k + 1, q, n + 1, s, Y, hq2, h52, h53, hk, hn => by
    have h6 := hI.hr6 hr
    have e8 := hI.2.2.1 q (by omega)
    obtain ⟨Z1, z1, z2, z3, z4⟩ := md_caseL2 hN hA hI hr hc hp (show q < nr a by omega) (ns a q) 0 N s Y hq2 h52 h53 (by omega) (by omega)
    obtain ⟨Z, y1, y2, y3, y4⟩ := md_caseL hN hA hI hr hc hp k (q + 1) n (fNs2 a r c p q (ns a q) 0 s) Z1 z2 z3 z4 (by omega) (by omega)
    rw [nI_0] at z1
    refine ⟨Z, ?_, y2, y3, y4⟩
    rw [mf_cases_L13, if_neg (sm_nle (by omega) (by omega)), z1, bs1, ← nI_succ]
    exact y1
theorem md_cases (hN : 2000 ≤ N) {M : mS} (hA : mC M = a) (hI : IS a) (hr : r < nr a) (hc : c < 8) (hp : p < np a) : ∃ Z, mf_cases N M (nI r) (nI c) (nI p) = some Z ∧ mE M Z ∧ Z.1 52 0 = nI (fNn a r c p) ∧ Z.2 53 0 = lN (fSo a r c p) := by
  have h6 := hI.hr6 hr
  obtain ⟨Z, z1, z2, z3, z4⟩ := md_caseL hN hA hI hr hc hp r 0 N (0, 1) (mt (ms M 52 0 0) 53 0 1) (e_ms52 (mE.refl M)) (by
    show upd (M.1 52) 0 0 0 = _
    rw [pk_us]
    rfl) (by
    show vp_updL (M.2 53) 0 1 0 = _
    rw [pk_uLs]
    rfl) (by omega) (by omega)
  rw [nI_0] at z1
  unfold mf_cases
  rw [z1, bs1, md_post hN (z2.1.trans hA) hI h6 (hI.hp6 hp), bs1]
  unfold fNn fSo
  by_cases h : fPostI a r c p = -1
  · rw [if_pos h, if_pos h]
    refine ⟨_, rfl, z2.mt rfl, z3, ?_⟩
    show vp_updL (Z.2 53) 0 (Z.2 53 0) 0 = _
    rw [pk_uLs]
    exact z4
  · rw [if_neg h, if_neg h]
    refine ⟨_, rfl, z2.mt rfl, z3, ?_⟩
    show vp_updL (Z.2 53) 0 0 0 = _
    rw [pk_uLs]
    rfl
theorem md_powL {b m : Nat} (hm : m < 100000000) : ∀ (k i n : Nat), i + k = m → k < n → mf_power_L5 N (lN b) (nI m) n (lN (b ^ i)) (nI i) = some (lN (b ^ m))
  | 0, i, n + 1, hk, _ => by
    have : i = m := by omega
    subst this
    rw [mf_power_L5, if_pos (sm_len (Nat.le_refl _) (by omega))]
  | k + 1, i, n + 1, hk, hn => by
    rw [mf_power_L5, if_neg (sm_nle (by omega) (by omega)), lN_mul, ← Nat.pow_succ, ← nI_succ]
    exact md_powL hm k (i + 1) n (by omega) (by omega)
theorem md_power (hN : 2000 ≤ N) {b m : Nat} (hm : m ≤ 1000) : mf_power N (lN b) (nI m) = some (lN (b ^ m)) := by
  have h := md_powL (N := N) (b := b) (m := m) (by omega) m 0 N (by omega) (by omega)
  rw [nI_0, Nat.pow_zero] at h
  unfold mf_power
  have e1 : lN 1 = 1 := rfl
  rw [e1] at h
  rw [h]
  rfl
theorem zero_all (hI : IS a) : nI (fAllN a) = 0 ↔ fAllN a = 0 := by
  have h36 := (fAllN_eq hI).2
  rw [← nI_0]
  exact sm_eq (by omega) (by omega)
theorem st_chance {X : xS} {M : mS} (hN : 2000 ≤ N) (h : Rl X M) (x y z w : Int32) : ∃ r X1 M1, xf_X_chance N X x y z w = some (r, X1) ∧ mf_chance N M x y z w = some (r, M1) ∧ Rl X1 M1 := by
  have hh := seat_cases (N := N) h x y
  have hp := point_cases h z
  obtain ⟨h1, h2, h3, h4, h5⟩ := id h
  unfold xf_X_chance mf_chance
  rcases hh with ⟨r, c, hr, hc, hc8, rfl, rfl, q1, q2⟩ | ⟨q1, q2⟩
  · have h6 := h3.hr6 hr
    rw [q1, q2, bs1, bs1, if_neg (nI_pos (by omega)), if_pos rfl, isIn_in]
    rcases hp with ⟨p, hp, rfl, p1, p2⟩ | ⟨p1, p2⟩
    · rw [p1, p2, if_pos rfl, if_pos rfl]
      cases hw : mf_in w 0 1 with
      | false => exact ⟨_, X, M, rfl, rfl, h⟩
      | true =>
        obtain ⟨t, ht, rfl⟩ := in_nat (n := 1) (by omega) hw
        rw [if_pos rfl, if_pos rfl, px_allC hN h3 h1, md_allC h3 (M := M) rfl, bs1, bs1]
        by_cases h0 : fAllN (mC M) = 0
        · rw [if_pos ((zero_all h3).mpr h0), if_pos ((zero_all h3).mpr h0)]
          exact ⟨_, X, M, rfl, rfl, h⟩
        · have h36 := (fAllN_eq h3).2
          have hB : fAllN (mC M) ^ fNn (mC M) r c p ≤ 3656158440062976 := pow36 h36 (fNn_le h3 hr hc8 hp)
          have hB0 : 0 < fAllN (mC M) ^ fNn (mC M) r c p := Nat.pow_pos (by omega)
          have hS := fSo_le (r := r) (c := c) (p := p) h3
          have hn10 := fNn_le h3 hr hc8 hp
          obtain ⟨X1, w1, w2, w3, w4⟩ := px_chanceOf hN h3 h1 hr hc8 hp (by omega)
          obtain ⟨M1, m1, m2, m3, m4⟩ := md_cases hN (M := M) rfl h3 hr hc8 hp
          have hlw := md_lowest (N := N) hN (a := fSo (mC M) r c p) (b := fAllN (mC M) ^ fNn (mC M) r c p) (part := t) (by omega) (by omega) hB0 ht
          rw [if_neg (fun hh => h0 ((zero_all h3).mp hh)), if_neg (fun hh => h0 ((zero_all h3).mp hh)), w1, bs1, if_pos (sm_ok (show t < 2 by omega) (by omega)), m1, bs1, md_allC h3 (M := M1) m2.1, bs1, nI_l (by omega), m3, md_power hN (by omega), bs1, m4, hlw, bs1, sm_clamp (show t < 100000000 by omega)]
          have et : X1.2.1 0 t = lN (lowP (fSo (mC M) r c p) (fAllN (mC M) ^ fNn (mC M) r c p) t) := by
            have : t = 0 ∨ t = 1 := by omega
            rcases this with rfl | rfl
            · exact w3
            · exact w4
          rw [et]
          exact ⟨_, X1, M1, rfl, rfl, h.same w2 m2⟩
    · rw [p1, p2]
      exact ⟨_, X, M, rfl, rfl, h⟩
  · rw [q1, q2]
    exact ⟨_, X, M, rfl, rfl, h⟩
end A
end PMEAN
