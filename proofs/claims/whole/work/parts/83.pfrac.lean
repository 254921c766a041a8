section PFRAC
/-! fractions: plain numbers -/
theorem mod_half {b c m : Nat} (h : b < 2 ^ (m + 1)) (hc : 0 < c) (hcb : c < b) : b % c < 2 ^ m := by
  have hp : 2 ^ (m + 1) = 2 * 2 ^ m := by rw [Nat.pow_succ, Nat.mul_comm]
  by_cases h1 : c ≤ 2 ^ m
  · exact Nat.lt_of_lt_of_le (Nat.mod_lt _ hc) h1
  · have h2 : b % c = b - c := by
      rw [Nat.mod_eq_sub_mod (by omega), Nat.mod_eq_of_lt (by omega)]
    omega
/-- the same fraction has the same lowest terms -/
theorem low_same {a b c d : Nat} (hb : 0 < b) (hd : 0 < d) (h : a * d = c * b) : a / Nat.gcd a b = c / Nat.gcd c d ∧ b / Nat.gcd a b = d / Nat.gcd c d := by
  have hg : 0 < Nat.gcd a b := Nat.gcd_pos_of_pos_right a hb
  have hk : 0 < Nat.gcd c d := Nat.gcd_pos_of_pos_right c hd
  obtain ⟨a1, ha1⟩ := Nat.gcd_dvd_left a b
  obtain ⟨b1, hb1⟩ := Nat.gcd_dvd_right a b
  obtain ⟨c1, hc1⟩ := Nat.gcd_dvd_left c d
  obtain ⟨d1, hd1⟩ := Nat.gcd_dvd_right c d
  have e1 : a / Nat.gcd a b = a1 := Nat.div_eq_of_eq_mul_right hg ha1
  have e2 : b / Nat.gcd a b = b1 := Nat.div_eq_of_eq_mul_right hg hb1
  have e3 : c / Nat.gcd c d = c1 := Nat.div_eq_of_eq_mul_right hk hc1
  have e4 : d / Nat.gcd c d = d1 := Nat.div_eq_of_eq_mul_right hk hd1
  have cop1 : Nat.gcd a1 b1 = 1 := by rw [← e1, ← e2]; exact Nat.gcd_div_gcd_div_gcd_of_pos_right hb
  have cop2 : Nat.gcd c1 d1 = 1 := by rw [← e3, ← e4]; exact Nat.gcd_div_gcd_div_gcd_of_pos_right hd
  rw [e1, e2, e3, e4]
  have hx : a1 * d1 = c1 * b1 := by
    have hpos : 0 < Nat.gcd a b * Nat.gcd c d := Nat.mul_pos hg hk
    refine Nat.eq_of_mul_eq_mul_left hpos ?_
    have l1 : Nat.gcd a b * Nat.gcd c d * (a1 * d1) = a * d := by
      calc Nat.gcd a b * Nat.gcd c d * (a1 * d1) = (Nat.gcd a b * a1) * (Nat.gcd c d * d1) := by
            rw [Nat.mul_assoc, Nat.mul_assoc, Nat.mul_left_comm (Nat.gcd c d)]
        _ = a * d := by rw [← ha1, ← hd1]
    have l2 : Nat.gcd a b * Nat.gcd c d * (c1 * b1) = c * b := by
      calc Nat.gcd a b * Nat.gcd c d * (c1 * b1) = (Nat.gcd c d * c1) * (Nat.gcd a b * b1) := by
            rw [Nat.mul_comm (Nat.gcd a b), Nat.mul_assoc, Nat.mul_assoc, Nat.mul_left_comm (Nat.gcd a b)]
        _ = c * b := by rw [← hc1, ← hb1]
    rw [l1, l2, h]
  have d_a : a1 ∣ c1 := by
    have : a1 ∣ c1 * b1 := ⟨d1, hx.symm⟩
    exact Nat.Coprime.dvd_of_dvd_mul_right cop1 this
  have d_c : c1 ∣ a1 := by
    have : c1 ∣ a1 * d1 := ⟨b1, hx⟩
    exact Nat.Coprime.dvd_of_dvd_mul_right cop2 this
  have eac : a1 = c1 := Nat.dvd_antisymm d_a d_c
  refine ⟨eac, ?_⟩
  have d_b : b1 ∣ d1 := by
    have : b1 ∣ d1 * a1 := ⟨c1, by rw [Nat.mul_comm d1, hx, Nat.mul_comm]⟩
    exact Nat.Coprime.dvd_of_dvd_mul_right (Nat.Coprime.symm cop1) this
  have d_d : d1 ∣ b1 := by
    have : d1 ∣ b1 * c1 := ⟨a1, by rw [Nat.mul_comm b1, ← hx, Nat.mul_comm]⟩
    exact Nat.Coprime.dvd_of_dvd_mul_right (Nat.Coprime.symm cop2) this
  exact Nat.dvd_antisymm d_b d_d
section A
variable {N : Nat}
theorem lg0 (x : Int64) : lg_cmp x 0 = 0 ↔ x = 0 := lg_cmp_eq x 0
theorem lN_0 : lN 0 = 0 := rfl
theorem lg00 : lg_cmp (lN 0) 0 = 0 := (lg0 (lN 0)).mpr rfl
theorem lN_z {n : Nat} (h : n < 2 ^ 63) : lN n = 0 ↔ n = 0 := by
  rw [← lN_0]
  exact pk_lEQ h (by omega)
theorem px_gcdL : ∀ (m a b i n : Nat), a < 2 ^ 63 → b < 2 ^ 63 → b < 2 ^ m → i + 2 * m + 1 ≤ 200 → 2 * m + 1 < n → xf_X_commonDivisor_L9 N n (lN a) (lN b) (nI i) = some (lN (Nat.gcd a b))
  | 0, a, b, i, n + 1, ha, hb, hm, hi, hn => by
    have hb0 : b = 0 := by
      rw [Nat.pow_zero] at hm
      omega
    subst hb0
    rw [xf_X_commonDivisor_L9, if_neg (show ¬ (200 : Int32) ≤ nI i from sm_nle (n := 200) (by omega) (by omega)), if_pos lg00, Nat.gcd_zero_right]
  | m + 1, a, b, i, n + 1, ha, hb, hm, hi, hn => by
    have n200 : ∀ j, j < 200 → ¬ (200 : Int32) ≤ nI j := fun j hj => sm_nle (n := 200) hj (by omega)
    by_cases hb0 : b = 0
    · subst hb0
      rw [xf_X_commonDivisor_L9, if_neg (n200 i (by omega)), if_pos lg00, Nat.gcd_zero_right]
    · have hbne : ¬ lN b = 0 := fun hh => hb0 ((lN_z hb).mp hh)
      have hc : a % b < b := Nat.mod_lt _ (by omega)
      rw [xf_X_commonDivisor_L9, if_neg (n200 i (by omega)), if_neg (fun hh => hbne ((lg0 _).mp hh)), if_pos hbne, pk_lRem ha (by omega) hb, ← nI_succ]
      have eg : Nat.gcd a b = Nat.gcd b (a % b) := by rw [Nat.gcd_comm a b, Nat.gcd_rec b a, Nat.gcd_comm]
      rw [eg]
      cases n with
      | zero => omega
      | succ n =>
        by_cases hc0 : a % b = 0
        · rw [hc0, xf_X_commonDivisor_L9, if_neg (n200 (i + 1) (by omega)), if_pos lg00, Nat.gcd_zero_right]
        · have hcne : ¬ lN (a % b) = 0 := fun hh => hc0 ((lN_z (by omega)).mp hh)
          have eg2 : Nat.gcd b (a % b) = Nat.gcd (a % b) (b % (a % b)) := by rw [Nat.gcd_comm b, Nat.gcd_rec (a % b) b, Nat.gcd_comm]
          have hlt := Nat.mod_lt b (show 0 < a % b by omega)
          rw [xf_X_commonDivisor_L9, if_neg (n200 (i + 1) (by omega)), if_neg (fun hh => hcne ((lg0 _).mp hh)), if_pos hcne, pk_lRem hb (by omega) (by omega), ← nI_succ, eg2]
          exact px_gcdL m (a % b) (b % (a % b)) (i + 1 + 1) n (by omega) (by omega) (mod_half hm (by omega) hc) (by omega) (by omega)
theorem px_gcd (hN : 2000 ≤ N) {a b : Nat} (ha : a < 2 ^ 63) (hb : b < 2 ^ 63) (h0 : 0 < b) : xf_X_commonDivisor N (lN a) (lN b) = some (lN (Nat.gcd a b)) := by
  have h := px_gcdL (N := N) 63 a b 0 N ha hb hb (by omega) (by omega)
  rw [nI_0] at h
  have hg : 0 < Nat.gcd a b := Nat.gcd_pos_of_pos_right a h0
  have hle : Nat.gcd a b ≤ b := Nat.gcd_le_right a h0
  unfold xf_X_commonDivisor
  rw [h, bs1, if_neg]
  intro hh
  have : lN (Nat.gcd a b) < lN 1 := hh
  rw [pk_lLT (by omega) (by omega)] at this
  omega
theorem md_gcdL {c1 c2 : Int64} {c3 : Int32} : ∀ (m a b n : Nat), a < 2 ^ 63 → b < 2 ^ 63 → b < 2 ^ m → 2 * m + 1 < n → mf_lowest_L16 N c1 c2 c3 n (lN a) (lN b) = some (lN (Nat.gcd a b))
  | 0, a, b, n + 1, ha, hb, hm, hn => by
    have hb0 : b = 0 := by
      rw [Nat.pow_zero] at hm
      omega
    subst hb0
    rw [mf_lowest_L16, if_pos lg00, Nat.gcd_zero_right]
  | m + 1, a, b, n + 1, ha, hb, hm, hn => by
    by_cases hb0 : b = 0
    · subst hb0
      rw [mf_lowest_L16, if_pos lg00, Nat.gcd_zero_right]
    · have hbne : ¬ lN b = 0 := fun hh => hb0 ((lN_z hb).mp hh)
      have hc : a % b < b := Nat.mod_lt _ (by omega)
      rw [mf_lowest_L16, if_neg (fun hh => hbne ((lg0 _).mp hh)), if_pos hbne, pk_lRem ha (by omega) hb]
      have eg : Nat.gcd a b = Nat.gcd b (a % b) := by rw [Nat.gcd_comm a b, Nat.gcd_rec b a, Nat.gcd_comm]
      rw [eg]
      cases n with
      | zero => omega
      | succ n =>
        by_cases hc0 : a % b = 0
        · rw [hc0, mf_lowest_L16, if_pos lg00, Nat.gcd_zero_right]
        · have hcne : ¬ lN (a % b) = 0 := fun hh => hc0 ((lN_z (by omega)).mp hh)
          have eg2 : Nat.gcd b (a % b) = Nat.gcd (a % b) (b % (a % b)) := by rw [Nat.gcd_comm b, Nat.gcd_rec (a % b) b, Nat.gcd_comm]
          have hlt := Nat.mod_lt b (show 0 < a % b by omega)
          rw [mf_lowest_L16, if_neg (fun hh => hcne ((lg0 _).mp hh)), if_pos hcne, pk_lRem hb (by omega) (by omega), eg2]
          exact md_gcdL m (a % b) (b % (a % b)) n (by omega) (by omega) (mod_half hm (by omega) hc) (by omega)
/-- a part of a fraction in lowest terms -/
def lowP (a b part : Nat) : Nat := if part = 0 then a / Nat.gcd a b else b / Nat.gcd a b
theorem md_lowest (hN : 2000 ≤ N) {a b part : Nat} (ha : a < 2 ^ 63) (hb : b < 2 ^ 63) (h0 : 0 < b) (hp : part ≤ 1) : mf_lowest N (lN a) (lN b) (nI part) = some (lN (lowP a b part)) := by
  have hg : 0 < Nat.gcd a b := Nat.gcd_pos_of_pos_right a h0
  have hle : Nat.gcd a b ≤ b := Nat.gcd_le_right a h0
  have hz : nI part = 0 ↔ part = 0 := by rw [← nI_0]; exact sm_eq (by omega) (by omega)
  unfold mf_lowest lowP
  by_cases ha0 : a = 0
  · subst ha0
    rw [if_pos lg00, Nat.gcd_zero_left, Nat.zero_div, Nat.div_self h0, nI_l (by omega)]
    have : part = 0 ∨ part = 1 := by omega
    rcases this with rfl | rfl <;> rfl
  · have hane : ¬ lN a = 0 := fun hh => ha0 ((lN_z ha).mp hh)
    have hgne : ¬ lN (Nat.gcd a b) = 0 := fun hh => by
      have := (lN_z (by omega)).mp hh
      omega
    rw [if_neg (fun hh => hane ((lg0 _).mp hh)), md_gcdL 63 a b N ha hb hb (by omega), bs1]
    by_cases hp0 : part = 0
    · rw [if_pos (hz.mpr hp0), if_pos hgne, pk_lDiv ha hg (by omega), if_pos hp0]
    · rw [if_neg (fun hh => hp0 (hz.mp hh)), if_pos hgne, pk_lDiv hb hg (by omega), if_neg hp0]
theorem px_reduce (hN : 2000 ≤ N) {X : xS} {a b : Nat} (ha : a < 2 ^ 63) (hb : b < 2 ^ 63) (h0 : 0 < b) : ∃ X1, xf_X_reduce N X (lN a) (lN b) = some X1 ∧ X1.1 = X.1 ∧ X1.2.2 = X.2.2 ∧ X1.2.1 0 0 = lN (lowP a b 0) ∧ X1.2.1 0 1 = lN (lowP a b 1) := by
  have hg : 0 < Nat.gcd a b := Nat.gcd_pos_of_pos_right a h0
  have hle : Nat.gcd a b ≤ b := Nat.gcd_le_right a h0
  have hgne : ¬ lN (Nat.gcd a b) = 0 := fun hh => by
    have := (lN_z (by omega)).mp hh
    omega
  unfold xf_X_reduce
  rw [px_gcd hN ha hb h0, bs1, if_pos hgne, if_pos hgne, pk_lDiv ha hg (by omega), pk_lDiv hb hg (by omega), cl_0, cl_1]
  refine ⟨_, rfl, rfl, rfl, ?_, ?_⟩
  · show vp_updL (vp_updL (X.2.1 0) 0 (lN (a / Nat.gcd a b))) 1 (lN (b / Nat.gcd a b)) 0 = _
    rw [pk_uLn (by omega), pk_uLs]
    rfl
  · show vp_updL (vp_updL (X.2.1 0) 0 (lN (a / Nat.gcd a b))) 1 (lN (b / Nat.gcd a b)) 1 = _
    rw [pk_uLs]
    rfl
end A
/-! near heads -/
section B
variable {N : Nat} {a : aS} {r c p : Nat}
def fAllN (a : aS) : Nat := (a 2 0).toNatClampNeg + (a 2 1).toNatClampNeg + (a 2 2).toNatClampNeg + (a 2 3).toNatClampNeg
/-- how much those below COUNT, of the first so many sorts -/
def fLowN (a : aS) (r c p q : Nat) : Nat → Nat
  | 0 => 0
  | k + 1 => fLowN a r c p q k + (if fHigh a r c p (fAbove a q (a 1 k)) (fFar a q) then 0 else (a 2 k).toNatClampNeg)
/-- near heads: how many, and in how many cases all are below -/
def fNs2 (a : aS) (r c p q : Nat) : Nat → Nat → Nat × Nat → Nat × Nat
  | 0, _, s => s
  | k + 1, e, s => fNs2 a r c p q k (e + 1) (if fNear a r c p q e then (s.1 + 1, s.2 * fLowN a r c p q 4) else s)
def fNs (a : aS) (r c p : Nat) : Nat → Nat → Nat × Nat → Nat × Nat
  | 0, _, s => s
  | k + 1, q, s => fNs a r c p k (q + 1) (fNs2 a r c p q (ns a q) 0 s)
def fNn (a : aS) (r c p : Nat) : Nat := (fNs a r c p r 0 (0, 1)).1
def fSo (a : aS) (r c p : Nat) : Nat := if fPostI a r c p = -1 then (fNs a r c p r 0 (0, 1)).2 else 0
theorem cnt_nI (hI : IS a) {k : Nat} (hk : k < 4) : a 2 k = nI (a 2 k).toNatClampNeg ∧ (a 2 k).toNatClampNeg ≤ 9 := by
  obtain ⟨j, hj, e, _⟩ := iv_ex (hi := 9) (hI.2.1 k hk).2.2
  rw [e, sm_clamp (by omega)]
  exact ⟨rfl, hj⟩
theorem fAllN_eq (hI : IS a) : ((((a 2 0) + (a 2 1)) + (a 2 2)) + (a 2 3)) = nI (fAllN a) ∧ fAllN a ≤ 36 := by
  obtain ⟨e0, l0⟩ := cnt_nI hI (k := 0) (by omega)
  obtain ⟨e1, l1⟩ := cnt_nI hI (k := 1) (by omega)
  obtain ⟨e2, l2⟩ := cnt_nI hI (k := 2) (by omega)
  obtain ⟨e3, l3⟩ := cnt_nI hI (k := 3) (by omega)
  unfold fAllN
  refine ⟨?_, by omega⟩
  rw [← nI_add, ← nI_add, ← nI_add, ← e0, ← e1, ← e2, ← e3]
theorem md_allC (hI : IS a) {M : mS} (hA : mC M = a) : mf_allCounts N M = some (nI (fAllN a)) := by
  unfold mf_allCounts
  rw [cl_0, cl_1, cl_2, cl_3, mA hA 2 rfl, (fAllN_eq hI).1]
theorem px_allC (hN : 2000 ≤ N) (hI : IS a) {X : xS} (hR : RS X a) : xf_H_allCounts N X = some (nI (fAllN a)) := by
  have e10 : X.1 10 = a 2 := hR.2.1.2.2
  have n4 : ¬ (4 : Int32) ≤ 0 ∧ ¬ (4 : Int32) ≤ (0 + 1) ∧ ¬ (4 : Int32) ≤ (0 + 1 + 1) ∧ ¬ (4 : Int32) ≤ (0 + 1 + 1 + 1) ∧ (4 : Int32) ≤ (0 + 1 + 1 + 1 + 1) := by decide
  have o4 : ok 0 4 = true ∧ ok (0 + 1) 4 = true ∧ ok (0 + 1 + 1) 4 = true ∧ ok (0 + 1 + 1 + 1) 4 = true := by decide
  have cl : (0 + 1 : Int32).toNatClampNeg = 1 ∧ (0 + 1 + 1 : Int32).toNatClampNeg = 2 ∧ (0 + 1 + 1 + 1 : Int32).toNatClampNeg = 3 := by decide
  match N, hN with
  | N + 5, _ =>
    unfold xf_H_allCounts
    rw [xf_H_allCounts_L4, if_neg n4.1, if_pos o4.1, xf_H_allCounts_L4, if_neg n4.2.1, if_pos o4.2.1, xf_H_allCounts_L4, if_neg n4.2.2.1, if_pos o4.2.2.1, xf_H_allCounts_L4, if_neg n4.2.2.2.1, if_pos o4.2.2.2, xf_H_allCounts_L4, if_pos n4.2.2.2.2, bs1, e10, cl_0, cl.1, cl.2.1, cl.2.2, Int32.zero_add, (fAllN_eq hI).1]
theorem fLowN_le (hI : IS a) {q : Nat} : fLowN a r c p q 4 ≤ fAllN a := by
  unfold fAllN
  rw [fLowN, fLowN, fLowN, fLowN, fLowN]
  split <;> split <;> split <;> split <;> omega
theorem px_lowL {X : xS} (hI : IS a) (hR : RS X a) (hL : LN X a r c p) {q : Nat} (hq : q < nr a) : ∀ (k i n : Nat), i + k = 4 → k < n → xf_H_countsOfThoseBelow_L4 N (nI q) n X (nI (fLowN a r c p q i)) (nI i) = some (nI (fLowN a r c p q 4))
  | 0, i, n + 1, hk, _ => by
    have hi : i = 4 := by omega
    subst hi
    rw [xf_H_countsOfThoseBelow_L4, if_pos (show (4 : Int32) ≤ nI 4 from sm_len (n := 4) (m := 4) (by omega) (by omega))]
  | k + 1, i, n + 1, hk, hn => by
    have h6 := hI.hr6 hq
    have ih := px_lowL hI hR hL hq k (i + 1) n (by omega) (by omega)
    obtain ⟨e2, _⟩ := cnt_nI hI (k := i) (by omega)
    rw [xf_H_countsOfThoseBelow_L4, if_neg (show ¬ (4 : Int32) ≤ nI i from sm_nle (n := 4) (by omega) (by omega)), sm_clamp (show q < 100000000 by omega), if_pos (by rw [hR.1.2.2.2]; exact hq), if_pos (sm_ok (show i < 4 by omega) (by omega)), sm_clamp (show i < 100000000 by omega), hR.2.1.2.1, hR.2.1.2.2, px_height hR hI hq, bs1, px_touched hL, px_far hR hq, ← nI_succ]
    rw [fLowN] at ih
    cases hh : fHigh a r c p (fAbove a q (a 1 i)) (fFar a q) with
    | true =>
      rw [hh] at ih
      rw [if_pos rfl]
      exact ih
    | false =>
      rw [hh] at ih
      rw [if_neg (by decide), e2, nI_add]
      exact ih
theorem px_low (hN : 2000 ≤ N) {X : xS} (hI : IS a) (hR : RS X a) (hL : LN X a r c p) {q : Nat} (hq : q < nr a) : xf_H_countsOfThoseBelow N X (nI q) = some (nI (fLowN a r c p q 4)) := by
  have h := px_lowL (N := N) hI hR hL hq 4 0 N (by omega) (by omega)
  have e0 : nI (fLowN a r c p q 0) = 0 := rfl
  rw [e0, nI_0] at h
  unfold xf_H_countsOfThoseBelow
  rw [h]
  rfl
theorem md_lowL {M : mS} (hA : mC M = a) (hI : IS a) (hr : r < nr a) (hc : c < 8) (hp : p < 6) {q : Nat} (hq : q < nr a) {x : Int32} : ∀ (k i n : Nat), i + k = 4 → k < n → mf_cases_L54 N (nI r) (nI c) (nI p) (nI q) x n M (nI (fLowN a r c p q i)) (nI i) = some (nI (fLowN a r c p q 4))
  | 0, i, n + 1, hk, _ => by
    have hi : i = 4 := by omega
    subst hi
    rw [mf_cases_L54, if_pos (show (4 : Int32) ≤ nI 4 from sm_len (n := 4) (m := 4) (by omega) (by omega))]
  | k + 1, i, n + 1, hk, hn => by
    have h6 := hI.hr6 hq
    have ih := md_lowL hA hI hr hc hp hq (x := x) k (i + 1) n (by omega) (by omega)
    obtain ⟨e2, _⟩ := cnt_nI hI (k := i) (by omega)
    rw [mf_cases_L54, if_neg (show ¬ (4 : Int32) ≤ nI i from sm_nle (n := 4) (by omega) (by omega)), if_pos (sm_ok (show i < 4 by omega) (by omega)), sm_clamp (show i < 100000000 by omega), mA hA 1 rfl, mA hA 2 rfl, md_above hA h6, bs1, md_far hA h6, bs1, md_high hA hI hr hc hp, bs1, ← nI_succ]
    rw [fLowN] at ih
    cases hh : fHigh a r c p (fAbove a q (a 1 i)) (fFar a q) with
    | true =>
      rw [hh] at ih
      rw [if_pos rfl, Int32.add_zero]
      exact ih
    | false =>
      rw [hh] at ih
      rw [if_neg (by decide), e2, nI_add]
      exact ih
/-- at most two of a row are near -/
theorem near_far (hI : IS a) (hr : r < nr a) (hc : c < 8) (hp : p < np a) {q i j : Nat} (hq : q < nr a) (hi : i + 2 ≤ j) (hj : j < 8) (h1 : fNear a r c p q i = true) : fNear a r c p q j = false := by
  obtain ⟨G, K, D, d1, d2, g1, g2, g3⟩ := fBes_int hI hr hc hp hq
  have hD := fFar_iv hI hr
  cases h2 : fNear a r c p q j with
  | false => rfl
  | true =>
    exfalso
    unfold fNear at h1 h2
    simp only [Bool.and_eq_true, decide_eq_true_eq] at h1 h2
    have rng : ∀ e, e < 8 → -1000000 ≤ (fBes a r c p (fPlace a q (nI e)) (fFar a q)).toInt ∧ (fBes a r c p (fPlace a q (nI e)) (fFar a q)).toInt ≤ 1000000 := by
      intro e he
      obtain ⟨K3, k1, k2, k3⟩ := fPlace_iv hI hq
      have hs : iv (fPlace a q (nI e)) 0 25 := by
        unfold iv
        rw [k3 e he]
        omega
      have t5 := iv_mul (x := fPlace a q (nI e)) (y := fFar a r) (b := 25) (d := 60) (iv_mono hs (by omega) (by omega)) (iv_mono hD (by omega) (by omega)) (by omega)
      obtain ⟨P1, P2, P3⟩ := hI.2.2.2.2.1 p hp
      obtain ⟨K2, m1, m2, m3⟩ := fPlace_iv hI hr
      have hF := fFar_iv hI hq
      have hl : iv (fPlace a r (nI c)) 0 25 := by
        unfold iv
        rw [m3 c hc]
        omega
      have t1 := iv_mul (x := a 11 p) (y := fFar a r) (b := 20) (d := 60) (iv_mono P1 (by omega) (by omega)) (iv_mono hD (by omega) (by omega)) (by omega)
      have t2 := iv_sub hl P1 (by omega) (by omega)
      have t3 := iv_mul (x := fPlace a r (nI c) - a 11 p) (y := fFar a q) (b := 25) (d := 60) (iv_mono t2.1 (by omega) (by omega)) (iv_mono hF (by omega) (by omega)) (by omega)
      have t4 := iv_add t1.1 t3.1 (by omega) (by omega)
      have t6 := iv_sub t4.1 t5.1 (by omega) (by omega)
      have u1 := t6.1.1
      have u2 := t6.1.2
      unfold fBes
      omega
    have a1 := (fAbs_le (rng i (by omega)).1 (rng i (by omega)).2).mp h1.2
    have a2 := (fAbs_le (rng j hj).1 (rng j hj).2).mp h2.2
    rw [g3 i (by omega), ← d1] at a1
    rw [g3 j hj, ← d1] at a2
    have hm : (2 * (i : Int) + K + 4) * D ≤ (2 * j + K) * D := Int.mul_le_mul_of_nonneg_right (by omega) (by omega)
    rw [Int.add_mul (2 * (i : Int) + K) 4 D] at hm
    omega
theorem fNs2_n : ∀ {q k e : Nat} {s : Nat × Nat}, (fNs2 a r c p q k e s).1 = s.1 + (fNs2 a r c p q k e (0, 1)).1
  | _, 0, _, _ => rfl
  | q, k + 1, e, s => by
    rw [fNs2, fNs2, fNs2_n (k := k) (e := e + 1) (s := if fNear a r c p q e then (s.1 + 1, s.2 * fLowN a r c p q 4) else s), fNs2_n (k := k) (e := e + 1) (s := if fNear a r c p q e then (((0, 1) : Nat × Nat).1 + 1, ((0, 1) : Nat × Nat).2 * fLowN a r c p q 4) else (0, 1))]
    cases fNear a r c p q e with
    | true => simp; omega
    | false => simp
end B
end PFRAC
