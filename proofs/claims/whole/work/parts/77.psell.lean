section PSELL
/-! one price for all: counting -/
/-- how many of the first n are no less than k; just k -/
def cN (P : Nat → Nat) : Nat → Nat → Nat
  | 0, _ => 0
  | n + 1, k => cN P n k + (if k ≤ P n then 1 else 0)
def eN (P : Nat → Nat) : Nat → Nat → Nat
  | 0, _ => 0
  | n + 1, k => eN P n k + (if P n = k then 1 else 0)
theorem cN_le {P : Nat → Nat} : ∀ {n k : Nat}, cN P n k ≤ n
  | 0, _ => Nat.le_refl 0
  | n + 1, k => by
    rw [cN]
    have := cN_le (P := P) (n := n) (k := k)
    split <;> omega
theorem cN_split {P : Nat → Nat} : ∀ {n k : Nat}, cN P n k = cN P n (k + 1) + eN P n k
  | 0, _ => rfl
  | n + 1, k => by
    rw [cN, cN, eN, cN_split (n := n) (k := k)]
    by_cases h1 : P n = k
    · rw [if_pos h1, if_pos (by omega), if_neg (by omega)]; omega
    · rw [if_neg h1]
      by_cases h2 : k ≤ P n
      · rw [if_pos h2, if_pos (by omega)]; omega
      · rw [if_neg h2, if_neg (by omega)]; omega
theorem cN_pos {P : Nat → Nat} : ∀ {n k : Nat}, 0 < cN P n k ↔ ∃ i, i < n ∧ k ≤ P i
  | 0, k => ⟨fun h => absurd h (by rw [cN]; omega), fun ⟨i, h, _⟩ => absurd h (by omega)⟩
  | n + 1, k => by
    rw [cN]
    constructor
    · intro h
      by_cases h1 : k ≤ P n
      · exact ⟨n, by omega, h1⟩
      · rw [if_neg h1] at h
        obtain ⟨i, hi, e⟩ := cN_pos.mp (show 0 < cN P n k by omega)
        exact ⟨i, by omega, e⟩
    · intro ⟨i, hi, e⟩
      by_cases h1 : k ≤ P n
      · rw [if_pos h1]; omega
      · rw [if_neg h1]
        have : 0 < cN P n k := cN_pos.mpr ⟨i, by
          by_cases e2 : i = n
          · subst e2; exact absurd e h1
          · omega, e⟩
        omega
theorem eN_pos {P : Nat → Nat} : ∀ {n k : Nat}, 0 < eN P n k ↔ ∃ i, i < n ∧ P i = k
  | 0, k => ⟨fun h => absurd h (by rw [eN]; omega), fun ⟨i, h, _⟩ => absurd h (by omega)⟩
  | n + 1, k => by
    rw [eN]
    constructor
    · intro h
      by_cases h1 : P n = k
      · exact ⟨n, by omega, h1⟩
      · rw [if_neg h1] at h
        obtain ⟨i, hi, e⟩ := eN_pos.mp (show 0 < eN P n k by omega)
        exact ⟨i, by omega, e⟩
    · intro ⟨i, hi, e⟩
      by_cases h1 : P n = k
      · rw [if_pos h1]; omega
      · rw [if_neg h1]
        have : 0 < eN P n k := eN_pos.mpr ⟨i, by
          by_cases e2 : i = n
          · subst e2; exact absurd e h1
          · omega, e⟩
        omega
def inc (P : Nat → Nat) (n k : Nat) : Nat := k * cN P n k
/-- what the reference's way down finds -/
def dN (P : Nat → Nat) (n : Nat) : Nat → Nat → Nat → Nat × Nat
  | 0, b, m => (b, m)
  | k + 1, b, m => if 0 < cN P n (k + 1) ∧ m ≤ inc P n (k + 1) then dN P n k (k + 1) (inc P n (k + 1)) else dN P n k b m
/-- what the class's way up finds -/
def uN (P : Nat → Nat) (n : Nat) : Nat → Nat → Nat → Nat → Nat × Nat
  | 0, _, b, m => (b, m)
  | k + 1, i, b, m => if m < inc P n (P i) ∨ (inc P n (P i) = m ∧ P i < b) then uN P n k (i + 1) (P i) (inc P n (P i)) else uN P n k (i + 1) b m
def dI (P : Nat → Nat) (n k b m : Nat) : Prop := (b = 0 ∧ m = 0 ∧ ∀ j, k < j → j ≤ 999 → cN P n j = 0) ∨ (k < b ∧ b ≤ 999 ∧ 0 < cN P n b ∧ m = inc P n b ∧ (∀ j, k < j → j ≤ 999 → inc P n j ≤ m) ∧ ∀ j, k < j → j < b → inc P n j < m)
theorem dN_ok {P : Nat → Nat} {n : Nat} : ∀ (k b m : Nat), k ≤ 999 → dI P n k b m → dI P n 0 (dN P n k b m).1 (dN P n k b m).2
  | 0, _, _, _, h => h
  | k + 1, b, m, hk, h => by
    rw [dN]
    by_cases hc : 0 < cN P n (k + 1) ∧ m ≤ inc P n (k + 1)
    · rw [if_pos hc]
      refine dN_ok k _ _ (by omega) (.inr ⟨by omega, hk, hc.1, rfl, fun j h1 h2 => ?_, fun j h1 h2 => by omega⟩)
      by_cases e : j = k + 1
      · subst e; exact Nat.le_refl _
      · rcases h with ⟨_, _, h3⟩ | ⟨_, _, _, _, h3, _⟩
        · have := h3 j (by omega) h2
          unfold inc
          rw [this]
          omega
        · exact Nat.le_trans (h3 j (by omega) h2) hc.2
    · rw [if_neg hc]
      refine dN_ok k _ _ (by omega) ?_
      rcases h with ⟨h1, h2, h3⟩ | ⟨h1, h2, h3, h4, h5, h6⟩
      · refine .inl ⟨h1, h2, fun j g1 g2 => ?_⟩
        by_cases e : j = k + 1
        · subst e
          rcases Nat.eq_zero_or_pos (cN P n (k + 1)) with g | g
          · exact g
          · exact absurd ⟨g, by omega⟩ hc
        · exact h3 j (by omega) g2
      · have hcb : cN P n b ≤ cN P n (k + 1) ∨ True := .inr trivial
        have hpos : 0 < cN P n (k + 1) := by
          obtain ⟨i, hi, e⟩ := cN_pos.mp h3
          exact cN_pos.mpr ⟨i, hi, by omega⟩
        have hlt : inc P n (k + 1) < m := by
          rcases Nat.lt_or_ge (inc P n (k + 1)) m with g | g
          · exact g
          · exact absurd ⟨hpos, g⟩ hc
        refine .inr ⟨by omega, h2, h3, h4, fun j g1 g2 => ?_, fun j g1 g2 => ?_⟩
        · by_cases e : j = k + 1
          · subst e; omega
          · exact h5 j (by omega) g2
        · by_cases e : j = k + 1
          · subst e; exact hlt
          · exact h6 j (by omega) g2
def uI (P : Nat → Nat) (n i b m : Nat) : Prop := (b = 0 ∧ m = 0 ∧ ∀ j, j < i → inc P n (P j) = 0) ∨ (0 < m ∧ (∃ j, j < n ∧ P j = b) ∧ m = inc P n b ∧ ∀ j, j < i → inc P n (P j) ≤ m ∧ (inc P n (P j) = m → b ≤ P j))
theorem uN_ok {P : Nat → Nat} {n : Nat} : ∀ (k i b m : Nat), i + k = n → uI P n i b m → uI P n n (uN P n k i b m).1 (uN P n k i b m).2
  | 0, i, _, _, hk, h => by
    have : i = n := by omega
    subst this
    exact h
  | k + 1, i, b, m, hk, h => by
    rw [uN]
    by_cases hc : m < inc P n (P i) ∨ (inc P n (P i) = m ∧ P i < b)
    · rw [if_pos hc]
      refine uN_ok k (i + 1) _ _ (by omega) ?_
      have hm : 0 < inc P n (P i) := by
        rcases hc with g | ⟨g1, g2⟩
        · omega
        · rcases h with ⟨h1, _, _⟩ | ⟨h1, _⟩
          · omega
          · omega
      refine .inr ⟨hm, ⟨i, by omega, rfl⟩, rfl, fun j hj => ?_⟩
      by_cases e : j = i
      · subst e; exact ⟨Nat.le_refl _, fun _ => Nat.le_refl _⟩
      · rcases h with ⟨_, h2, h3⟩ | ⟨_, _, _, h3⟩
        · have := h3 j (by omega)
          exact ⟨by omega, fun g => by omega⟩
        · have := h3 j (by omega)
          rcases hc with g | ⟨g1, g2⟩
          · exact ⟨by omega, fun g3 => by omega⟩
          · exact ⟨by omega, fun g3 => by
              have := this.2 (by omega)
              omega⟩
    · rw [if_neg hc]
      refine uN_ok k (i + 1) _ _ (by omega) ?_
      rcases h with ⟨h1, h2, h3⟩ | ⟨h1, h2, h3, h4⟩
      · refine .inl ⟨h1, h2, fun j hj => ?_⟩
        by_cases e : j = i
        · subst e
          rcases Nat.eq_zero_or_pos (inc P n (P j)) with g | g
          · exact g
          · exact absurd (.inl (by omega)) hc
        · exact h3 j (by omega)
      · refine .inr ⟨h1, h2, h3, fun j hj => ?_⟩
        by_cases e : j = i
        · subst e
          refine ⟨?_, fun g => ?_⟩
          · rcases Nat.lt_or_ge m (inc P n (P j)) with g | g
            · exact absurd (.inl g) hc
            · exact g
          · rcases Nat.lt_or_ge (P j) b with g2 | g2
            · exact absurd (.inr ⟨g, g2⟩) hc
            · exact g2
        · exact h4 j (by omega)
/-- both find the same -/
theorem sell_eq {P : Nat → Nat} {n : Nat} (hP : ∀ i, i < n → P i ≤ 999) {b m b2 m2 : Nat} (hd : dI P n 0 b m) (hu : uI P n n b2 m2) : b = b2 ∧ m = m2 := by
  rcases hd with ⟨h1, h2, h3⟩ | ⟨h1, h2, h3, h4, h5, h6⟩
  · have hz : ∀ j, j < n → P j = 0 := fun j hj => by
      rcases Nat.eq_zero_or_pos (P j) with g | g
      · exact g
      · have := h3 (P j) g (hP j hj)
        have h0 : 0 < cN P n (P j) := cN_pos.mpr ⟨j, hj, Nat.le_refl _⟩
        omega
    rcases hu with ⟨g1, g2, g3⟩ | ⟨g1, ⟨j, hj, e⟩, g3, g4⟩
    · exact ⟨by omega, by omega⟩
    · have := hz j hj
      rw [← e, this] at g3
      unfold inc at g3
      omega
  · -- the best is somebody's own
    have hown : ∃ i, i < n ∧ P i = b := by
      rcases Nat.eq_zero_or_pos (eN P n b) with g | g
      · exfalso
        have hs := cN_split (P := P) (n := n) (k := b)
        rw [g, Nat.add_zero] at hs
        obtain ⟨i, hi, e⟩ := cN_pos.mp h3
        have hne : P i ≠ b := fun e2 => by
          have := eN_pos.mpr ⟨i, hi, e2⟩
          omega
        have := hP i hi
        have h7 := h5 (b + 1) (by omega) (by omega)
        rw [h4] at h7
        unfold inc at h7
        rw [← hs, Nat.add_mul, Nat.one_mul] at h7
        omega
      · exact eN_pos.mp g
    obtain ⟨i, hi, e⟩ := hown
    have hm0 : 0 < m := by
      rw [h4]
      exact Nat.mul_pos (by omega) h3
    rcases hu with ⟨g1, g2, g3⟩ | ⟨g1, ⟨j, hj, e2⟩, g3, g4⟩
    · have := g3 i hi
      rw [e, ← h4] at this
      omega
    · have a1 := (g4 i hi).1
      rw [e, ← h4] at a1
      have hb0 : 0 < b2 := by
        rcases Nat.eq_zero_or_pos b2 with g | g
        · rw [g3, g] at g1
          unfold inc at g1
          omega
        · exact g
      have hb9 : b2 ≤ 999 := by rw [← e2]; exact hP j hj
      have a2 := h5 b2 hb0 hb9
      rw [← g3] at a2
      have emm : m = m2 := by omega
      have a3 : b ≤ b2 := by
        rcases Nat.lt_or_ge b2 b with g | g
        · have := h6 b2 hb0 g
          rw [← g3] at this
          omega
        · exact g
      have a4 : b2 ≤ b := by
        have := (g4 i hi).2 (by rw [e, ← h4]; exact emm)
        rw [e] at this
        exact this
      exact ⟨by omega, emm⟩
section A
variable {N : Nat} {a : aS} {r : Nat}
/-! the prices, one behind the other -/
def pP2 (a : aS) (r : Nat) : Nat → Nat → Nat → (Nat → Int32) → Nat × (Nat → Int32)
  | 0, _, n, f => (n, f)
  | k + 1, c, n, f => pP2 a r k (c + 1) (n + 1) (upd f n (fPrice a r c))
def pP (a : aS) : Nat → Nat → Nat → (Nat → Int32) → Nat × (Nat → Int32)
  | 0, _, n, f => (n, f)
  | k + 1, r, n, f => pP a k (r + 1) (pP2 a r (ns a r) 0 n f).1 (pP2 a r (ns a r) 0 n f).2
theorem pP2_n : ∀ {k c n : Nat} {f : Nat → Int32}, (pP2 a r k c n f).1 = n + k
  | 0, _, _, _ => rfl
  | k + 1, c, n, f => by
    rw [pP2, pP2_n]
    omega
def pOk (f : Nat → Int32) (n : Nat) : Prop := ∀ i, i < n → iv (f i) 0 999
theorem pP2_ok : ∀ {k c n : Nat} {f : Nat → Int32}, pOk f n → pOk (pP2 a r k c n f).2 (pP2 a r k c n f).1
  | 0, _, _, _, h => h
  | k + 1, c, n, f, h => by
    rw [pP2]
    refine pP2_ok (fun i hi => ?_)
    rw [upd_at]
    by_cases e : i = n
    · rw [if_pos e]; exact fPrice_iv a r c
    · rw [if_neg e]; exact h i (by omega)
theorem pP_ok (hI : IS a) : ∀ {k i n : Nat} {f : Nat → Int32}, i + k ≤ nr a → pOk f n → pOk (pP a k i n f).2 (pP a k i n f).1 ∧ (pP a k i n f).1 ≤ n + 8 * k
  | 0, _, _, _, _, h => ⟨h, by rw [pP]; omega⟩
  | k + 1, i, n, f, hk, h => by
    rw [pP]
    have e8 := (hI.2.2.1 i (by omega)).2.2.2.1
    obtain ⟨h1, h2⟩ := pP_ok hI (k := k) (i := i + 1) (by omega) (pP2_ok (a := a) (r := i) (k := ns a i) (c := 0) h)
    have h3 := pP2_n (a := a) (r := i) (k := ns a i) (c := 0) (n := n) (f := f)
    refine ⟨h1, ?_⟩
    omega
theorem px_pricesL2 (hN : 2000 ≤ N) (hI : IS a) (hr : r < nr a) : ∀ (k c n m : Nat) (X Y : xS) (f : Nat → Int32), RS X a → xQ (xf X 7 f) Y → c + k = ns a r → m + k ≤ 48 → k < n → ∃ Z, xf_H_pricesInto_L15 N (nI r) n Y (nI m) (nI c) = some (nI (pP2 a r k c m f).1, Z) ∧ xQ (xf X 7 (pP2 a r k c m f).2) Z
  | 0, c, n + 1, m, X, Y, f, hR, hq, hk, hm, _ => by
    have h6 := hI.hr6 hr
    have hRY : RS Y a := (hR.frameL (X1 := xf X 7 f) ⟨fun j hj => xf_ne (fun e => by subst e; exact nomatch hj), rfl⟩).frame hq
    have e := hI.2.2.1 r hr
    have e2 := (hRY.2.2.1 r hr).2.2.1
    refine ⟨Y, ?_, hq⟩
    rw [xf_H_pricesInto_L15, if_pos (sm_ok h6 (by omega)), sm_clamp (show r < 100000000 by omega), if_pos (by rw [hRY.1.2.2.2]; exact hr), e2, e.2.1, if_pos (sm_len (by omega) (by omega))]
    rfl
  | k + 1, c, n + 1, m, X, Y, f, hR, hq, hk, hm, hn => by
    have h6 := hI.hr6 hr
    have hRY : RS Y a := (hR.frameL (X1 := xf X 7 f) ⟨fun j hj => xf_ne (fun e => by subst e; exact nomatch hj), rfl⟩).frame hq
    have e := hI.2.2.1 r hr
    have e2 := (hRY.2.2.1 r hr).2.2.1
    obtain ⟨Y1, y1, y2⟩ := px_price hN hI hRY hr (show c < 8 by omega)
    have h48 : ¬ (48 : Int32) ≤ nI m := sm_nle (n := 48) (by omega) (by omega)
    have hq1 : xQ (xf X 7 (upd f m (fPrice a r c))) (xs Y1 7 m (fPrice a r c)) := by
      have h7 : Y1.1 7 = f := (y2.1 7 rfl).trans ((hq.1 7 rfl).trans xf_same)
      rw [xs_as, h7]
      have := q_xf (k := 7) (f := upd f m (fPrice a r c)) (hq.trans y2)
      rw [xf_xf] at this
      exact this
    obtain ⟨Z, z1, z2⟩ := px_pricesL2 hN hI hr k (c + 1) n (m + 1) X (xs Y1 7 m (fPrice a r c)) (upd f m (fPrice a r c)) hR hq1 (by omega) (by omega) (by omega)
    refine ⟨Z, ?_, z2⟩
    rw [xf_H_pricesInto_L15, if_pos (sm_ok h6 (by omega)), sm_clamp (show r < 100000000 by omega), if_pos (by rw [hRY.1.2.2.2]; exact hr), e2, e.2.1, if_neg (sm_nle (by omega) (by omega)), if_neg h48, y1, bs2, if_pos (sm_ok (show m < 48 by omega) (by omega)), sm_clamp (show m < 100000000 by omega), ← nI_succ, ← nI_succ, pP2]
    exact z1
theorem px_pricesL (hN : 2000 ≤ N) (hI : IS a) : ∀ (k i n m : Nat) (X Y : xS) (f : Nat → Int32), RS X a → xQ (xf X 7 f) Y → i + k = nr a → m ≤ 8 * i → k < n → ∃ Z, xf_H_pricesInto_L4 N n Y (nI m) (nI i) = some (nI (pP a k i m f).1, Z) ∧ xQ (xf X 7 (pP a k i m f).2) Z
  | 0, i, n + 1, m, X, Y, f, hR, hq, hk, hm, _ => by
    have h6 := hI.1.2.1
    have e : Y.1 16 0 = nI (nr a) := (congrFun (hq.1 16 rfl) 0).trans (hR.1.1.trans hI.1.1)
    refine ⟨Y, ?_, hq⟩
    rw [xf_H_pricesInto_L4, e, if_pos (sm_len (by omega) (by omega))]
    rfl
  | k + 1, i, n + 1, m, X, Y, f, hR, hq, hk, hm, hn => by
    have h6 := hI.1.2.1
    have e : Y.1 16 0 = nI (nr a) := (congrFun (hq.1 16 rfl) 0).trans (hR.1.1.trans hI.1.1)
    have hr : i < nr a := by omega
    have e8 := (hI.2.2.1 i hr).2.2.2.1
    obtain ⟨Y1, y1, y2⟩ := px_pricesL2 hN hI hr (ns a i) 0 N m X Y f hR hq (by omega) (by omega) (by omega)
    obtain ⟨Z, z1, z2⟩ := px_pricesL hN hI k (i + 1) n (pP2 a i (ns a i) 0 m f).1 X Y1 (pP2 a i (ns a i) 0 m f).2 hR y2 (by omega) (by rw [pP2_n]; omega) (by omega)
    rw [nI_0] at y1
    refine ⟨Z, ?_, z2⟩
    rw [xf_H_pricesInto_L4, e, if_neg (sm_nle (by omega) (by omega)), y1, bs2, ← nI_succ, pP]
    exact z1
/-- prices as plain numbers -/
def pN (f : Nat → Int32) : Nat → Nat := fun i => (f i).toNatClampNeg
theorem pN_eq {f : Nat → Int32} {n i : Nat} (h : pOk f n) (hi : i < n) : f i = nI (pN f i) ∧ pN f i ≤ 999 := by
  obtain ⟨j, hj, e, _⟩ := iv_ex (hi := 999) (h i hi)
  unfold pN
  rw [e, sm_clamp (by omega)]
  exact ⟨rfl, hj⟩
theorem px_payL {Y : xS} {f : Nat → Int32} {n : Nat} (h7 : Y.1 7 = f) (hf : pOk f n) (hn : n ≤ 48) {p : Nat} (hp : p ≤ 999) : ∀ (k i n2 v : Nat), i + k = n → v + cN (pN f) i p = v + cN (pN f) i p → k < n2 → xf_X_howManyPay_L5 N (nI p) (nI n) n2 Y (nI (cN (pN f) i p)) (nI i) = some (nI (cN (pN f) n p))
  | 0, i, n2 + 1, v, hk, _, _ => by
    have : i = n := by omega
    subst this
    rw [xf_X_howManyPay_L5, if_pos (sm_len (Nat.le_refl _) (by omega))]
  | k + 1, i, n2 + 1, v, hk, _, hn2 => by
    have hc := cN_le (P := pN f) (n := i) (k := p)
    obtain ⟨e1, e2⟩ := pN_eq hf (show i < n by omega)
    have ih := px_payL h7 hf hn hp k (i + 1) n2 v (by omega) rfl (by omega)
    rw [xf_X_howManyPay_L5, if_neg (sm_nle (by omega) (by omega)), if_pos (sm_ok (show i < 48 by omega) (by omega)), sm_clamp (show i < 100000000 by omega), h7, e1, ← nI_succ, ← nI_succ]
    rw [cN] at ih
    by_cases hlt : nI (pN f i) < nI p
    · have := (sm_lt (by omega) (by omega)).mp hlt
      rw [if_pos hlt]
      rw [if_neg (by omega)] at ih
      exact ih
    · have : p ≤ pN f i := by
        rcases Nat.lt_or_ge (pN f i) p with g | g
        · exact absurd ((sm_lt (by omega) (by omega)).mpr g) hlt
        · exact g
      rw [if_neg hlt]
      rw [if_pos this] at ih
      exact ih
theorem px_pay {Y : xS} {f : Nat → Int32} {n : Nat} (hN : 2000 ≤ N) (h7 : Y.1 7 = f) (hf : pOk f n) (hn : n ≤ 48) {p : Nat} (hp : p ≤ 999) : xf_X_howManyPay N Y (nI p) (nI n) = some (nI (cN (pN f) n p)) := by
  have h := px_payL (N := N) h7 hf hn hp n 0 N 0 (by omega) rfl (by omega)
  unfold xf_X_howManyPay
  have e0 : nI (cN (pN f) 0 p) = 0 := rfl
  rw [e0, nI_0] at h
  rw [h]
  rfl
theorem inc_le {P : Nat → Nat} {n k : Nat} (hn : n ≤ 48) (hk : k ≤ 999) : inc P n k ≤ 48000 := by
  have h1 := cN_le (P := P) (n := n) (k := k)
  have h2 : k * cN P n k ≤ 999 * 48 := Nat.mul_le_mul hk (by omega)
  unfold inc
  omega
theorem px_sellL {Y : xS} {f : Nat → Int32} {n : Nat} {x : Int32} (hN : 2000 ≤ N) (h7 : Y.1 7 = f) (hf : pOk f n) (hn : n ≤ 48) : ∀ (k i n2 b m : Nat), i + k = n → b ≤ 999 → m ≤ 48000 → k < n2 → xf_X_sell_L32 N x (nI n) n2 Y (nI b) (nI m) (nI i) = some (nI (uN (pN f) n k i b m).1, nI (uN (pN f) n k i b m).2)
  | 0, i, n2 + 1, b, m, hk, _, _, _ => by
    rw [xf_X_sell_L32, if_pos (sm_len (by omega) (by omega))]
    rfl
  | k + 1, i, n2 + 1, b, m, hk, hb, hm, hn2 => by
    obtain ⟨e1, e2⟩ := pN_eq hf (show i < n by omega)
    have hi := inc_le (P := pN f) (n := n) (k := pN f i) hn e2
    have ei : nI (pN f i) * nI (cN (pN f) n (pN f i)) = nI (inc (pN f) n (pN f i)) := pk_mul _ _
    rw [xf_X_sell_L32, if_neg (sm_nle (by omega) (by omega)), if_pos (sm_ok (show i < 48 by omega) (by omega)), sm_clamp (show i < 100000000 by omega), h7, e1, px_pay hN h7 hf hn e2, bs1, ei, ← nI_succ, uN]
    by_cases h1 : m < inc (pN f) n (pN f i)
    · rw [if_pos ((sm_lt (by omega) (by omega)).mpr h1), if_pos (.inl h1)]
      exact px_sellL hN h7 hf hn k (i + 1) n2 _ _ (by omega) e2 hi (by omega)
    · rw [if_neg (fun hh => h1 ((sm_lt (by omega) (by omega)).mp hh))]
      by_cases h2 : inc (pN f) n (pN f i) = m
      · rw [if_pos (by rw [h2])]
        by_cases h3 : b ≤ pN f i
        · rw [if_pos (sm_len h3 (by omega)), if_neg (fun hh => by rcases hh with g | ⟨_, g⟩ <;> omega)]
          exact px_sellL hN h7 hf hn k (i + 1) n2 _ _ (by omega) hb hm (by omega)
        · rw [if_neg (sm_nle (by omega) (by omega)), if_pos (.inr ⟨h2, by omega⟩)]
          exact px_sellL hN h7 hf hn k (i + 1) n2 _ _ (by omega) e2 hi (by omega)
      · rw [if_neg (fun hh => h2 ((sm_eq (by omega) (by omega)).mp hh)), if_neg (fun hh => by rcases hh with g | ⟨g, _⟩ <;> omega)]
        exact px_sellL hN h7 hf hn k (i + 1) n2 _ _ (by omega) hb hm (by omega)
/-! the reference -/
def sOn (Y : mS) (f : Nat → Int32) (n : Nat) : Prop := ∀ k, k ≤ 1000 → Y.1 58 k = nI (eN (pN f) n k)
theorem eN_cong {P Q : Nat → Nat} : ∀ {n k : Nat}, (∀ i, i < n → P i = Q i) → eN P n k = eN Q n k
  | 0, _, _ => rfl
  | n + 1, k, h => by
    rw [eN, eN, eN_cong (n := n) (fun i hi => h i (by omega)), h n (by omega)]
theorem eN_le {P : Nat → Nat} : ∀ {n k : Nat}, eN P n k ≤ n
  | 0, _ => Nat.le_refl 0
  | n + 1, k => by
    rw [eN]
    have := eN_le (P := P) (n := n) (k := k)
    split <;> omega
theorem md_sell0 {M : mS} {x : Int32} {g : Nat → Int32} : ∀ (k i n : Nat), i + k = 1001 → k < n → mf_sell_L14 N x n (mset M 58 (fill (fun _ => 0) g i)) (nI i) = some (mset M 58 (fill (fun _ => 0) g 1001))
  | 0, i, n + 1, hk, _ => by
    have hi : i = 1001 := by omega
    subst hi
    rw [mf_sell_L14, if_pos (show (1001 : Int32) ≤ nI 1001 from sm_len (n := 1001) (m := 1001) (by omega) (by omega))]
  | k + 1, i, n + 1, hk, hn2 => by
    have ih := md_sell0 (M := M) (x := x) (g := g) k (i + 1) n (by omega) (by omega)
    rw [mf_sell_L14, if_neg (show ¬ (1001 : Int32) ≤ nI i from sm_nle (n := 1001) (by omega) (by omega)), if_pos (sm_ok (show i < 1001 by omega) (by omega)), sm_clamp (show i < 100000000 by omega), ms_mset, fill_succ (fun _ => 0), ← nI_succ]
    exact ih
theorem md_soldL2 (hN : 2000 ≤ N) {M : mS} (hA : mC M = a) (hI : IS a) (hr : r < nr a) {x : Int32} : ∀ (k c n m : Nat) (Y : mS) (f : Nat → Int32), mL M Y → pOk f m → sOn Y f m → c + k = ns a r → m + k ≤ 48 → k < n → ∃ Z, mf_sell_L46 N x (nI r) n Y (nI c) = some Z ∧ mL M Z ∧ sOn Z (pP2 a r k c m f).2 (pP2 a r k c m f).1
  | 0, c, n + 1, m, Y, f, hL, hf, hs, hk, hm, _ => by
    have h6 := hI.hr6 hr
    have hAY := hL.1.trans hA
    have e := hI.2.2.1 r hr
    refine ⟨Y, ?_, hL, hs⟩
    rw [mf_sell_L46, if_pos (sm_ok h6 (by omega)), sm_clamp (show r < 100000000 by omega), mA hAY 5 rfl, e.2.1, if_pos (sm_len (by omega) (by omega))]
  | k + 1, c, n + 1, m, Y, f, hL, hf, hs, hk, hm, hn => by
    have h6 := hI.hr6 hr
    have hAY := hL.1.trans hA
    have e := hI.2.2.1 r hr
    obtain ⟨Y1, y1, y2⟩ := md_price hN hI hAY hr (show c < 8 by omega)
    obtain ⟨p, hp, ep, _⟩ := iv_ex (hi := 999) (fPrice_iv a r c)
    have h58 : Y1.1 58 = Y.1 58 := y2.2.2 58 (by omega) (by omega)
    have hL1 : mL M (ms Y1 58 p (Y1.1 58 p + 1)) := ⟨by rw [mC_ms (by omega), y2.1]; exact hL.1, y2.2.1.trans hL.2⟩
    have hf1 : pOk (upd f m (fPrice a r c)) (m + 1) := fun i hi => by
      rw [upd_at]
      by_cases e2 : i = m
      · rw [if_pos e2]; exact fPrice_iv a r c
      · rw [if_neg e2]; exact hf i (by omega)
    have hs1 : sOn (ms Y1 58 p (Y1.1 58 p + 1)) (upd f m (fPrice a r c)) (m + 1) := fun j hj => by
      have hel := eN_le (P := pN f) (n := m) (k := j)
      have hcong : eN (pN (upd f m (fPrice a r c))) m j = eN (pN f) m j := eN_cong (fun i hi => by
        unfold pN
        rw [upd_at, if_neg (by omega)])
      have hlast : pN (upd f m (fPrice a r c)) m = p := by
        unfold pN
        rw [pk_us, ep, sm_clamp (by omega)]
      rw [ms_same, upd_at, h58, eN, hcong, hlast]
      by_cases e2 : j = p
      · rw [if_pos e2, if_pos e2.symm, ← e2, hs j hj, ← nI_succ]
      · rw [if_neg e2, if_neg (fun e3 => e2 e3.symm), Nat.add_zero]
        exact hs j hj
    obtain ⟨Z, z1, z2, z3⟩ := md_soldL2 hN hA hI hr (x := x) k (c + 1) n (m + 1) _ _ hL1 hf1 hs1 (by omega) (by omega) (by omega)
    refine ⟨Z, ?_, z2, z3⟩
    rw [mf_sell_L46, if_pos (sm_ok h6 (by omega)), sm_clamp (show r < 100000000 by omega), mA hAY 5 rfl, e.2.1, if_neg (sm_nle (by omega) (by omega)), y1, bs2, ep, if_pos (sm_ok (show p < 1001 by omega) (by omega)), sm_clamp (show p < 100000000 by omega), ← nI_succ]
    exact z1
theorem md_soldL (hN : 2000 ≤ N) {M : mS} (hA : mC M = a) (hI : IS a) {x : Int32} : ∀ (k i n m : Nat) (Y : mS) (f : Nat → Int32), mL M Y → pOk f m → sOn Y f m → i + k = nr a → m ≤ 8 * i → k < n → ∃ Z, mf_sell_L36 N x n Y (nI i) = some Z ∧ mL M Z ∧ sOn Z (pP a k i m f).2 (pP a k i m f).1
  | 0, i, n + 1, m, Y, f, hL, hf, hs, hk, hm, _ => by
    have h6 := hI.1.2.1
    have e : Y.1 3 0 = nI (nr a) := by rw [mA (hL.1.trans hA) 3 rfl]; exact hI.1.1
    refine ⟨Y, ?_, hL, hs⟩
    rw [mf_sell_L36, e, if_pos (sm_len (by omega) (by omega))]
  | k + 1, i, n + 1, m, Y, f, hL, hf, hs, hk, hm, hn => by
    have h6 := hI.1.2.1
    have e : Y.1 3 0 = nI (nr a) := by rw [mA (hL.1.trans hA) 3 rfl]; exact hI.1.1
    have hr : i < nr a := by omega
    have e8 := (hI.2.2.1 i hr).2.2.2.1
    obtain ⟨Y1, y1, y2, y3⟩ := md_soldL2 hN hA hI hr (x := x) (ns a i) 0 N m Y f hL hf hs (by omega) (by omega) (by omega)
    obtain ⟨Z, z1, z2, z3⟩ := md_soldL hN hA hI (x := x) k (i + 1) n _ Y1 _ y2 (pP2_ok hf) y3 (by omega) (by rw [pP2_n]; omega) (by omega)
    rw [nI_0] at y1
    refine ⟨Z, ?_, z2, z3⟩
    rw [mf_sell_L36, e, if_neg (sm_nle (by omega) (by omega)), y1, bs1, ← nI_succ]
    exact z1
theorem md_downL {Y : mS} {f : Nat → Int32} {n : Nat} {x : Int32} (hs : sOn Y f n) (hn : n ≤ 48) : ∀ (k n2 b m : Nat), k ≤ 999 → b ≤ 999 → m ≤ 48000 → k < n2 → mf_sell_L95 N x n2 Y (nI b) (nI m) (nI (cN (pN f) n (k + 1))) (nI k) = some (nI (dN (pN f) n k b m).1, nI (dN (pN f) n k b m).2)
  | 0, n2 + 1, b, m, _, _, _, _ => by
    rw [mf_sell_L95, if_pos (show nI 0 ≤ (0 : Int32) from Int32.le_refl 0)]
    rfl
  | k + 1, n2 + 1, b, m, hk, hb, hm, hn2 => by
    have hc := cN_le (P := pN f) (n := n) (k := k + 1)
    have hi := inc_le (P := pN f) (n := n) (k := k + 1) hn hk
    have hsum : nI (cN (pN f) n (k + 1 + 1)) + Y.1 58 (k + 1) = nI (cN (pN f) n (k + 1)) := by
      rw [hs (k + 1) (by omega), nI_add, ← cN_split]
    have ei : nI (k + 1) * nI (cN (pN f) n (k + 1)) = nI (inc (pN f) n (k + 1)) := pk_mul _ _
    rw [mf_sell_L95, if_neg (nI_nle (by omega) (by omega)), if_pos (sm_ok (show k + 1 < 1001 by omega) (by omega)), sm_clamp (show k + 1 < 100000000 by omega), hsum, ei, pk_m1, dN]
    by_cases h1 : 0 < cN (pN f) n (k + 1)
    · rw [if_neg (nI_nle h1 (by omega))]
      by_cases h2 : inc (pN f) n (k + 1) < m
      · rw [if_pos ((sm_lt (by omega) (by omega)).mpr h2), if_neg (by omega)]
        exact md_downL hs hn k n2 b m (by omega) hb hm (by omega)
      · rw [if_neg (fun hh => h2 ((sm_lt (by omega) (by omega)).mp hh)), if_pos ⟨h1, by omega⟩]
        exact md_downL hs hn k n2 _ _ (by omega) hk hi (by omega)
    · have h0 : cN (pN f) n (k + 1) = 0 := by omega
      rw [if_pos (by rw [h0]; exact Int32.le_refl 0), if_neg (by omega)]
      exact md_downL hs hn k n2 b m (by omega) hb hm (by omega)
theorem st_sell {X : xS} {M : mS} (hN : 2000 ≤ N) (h : Rl X M) (x : Int32) : ∃ r X1 M1, xf_X_sell N X x = some (r, X1) ∧ mf_sell N M x = some (r, M1) ∧ Rl X1 M1 := by
  obtain ⟨h1, h2, h3, h4, h5⟩ := id h
  have h6 := h3.1.2.1
  unfold xf_X_sell xf_H_pricesInto mf_sell
  rw [isIn_in]
  cases hx : mf_in x 0 1 with
  | false => exact ⟨_, X, M, rfl, rfl, h⟩
  | true =>
    obtain ⟨Y, y1, y2⟩ := px_pricesL hN h3 (nr (mC M)) 0 N 0 X X (X.1 7) h1 (by rw [xf_self]; exact xQ.refl X) (by omega) (by omega) (by omega)
    have hp0 : pOk (X.1 7) 0 := fun i hi => by omega
    obtain ⟨hok, hle⟩ := pP_ok h3 (k := nr (mC M)) (i := 0) (n := 0) (f := X.1 7) (by omega) hp0
    have m1 := md_sell0 (N := N) (M := M) (x := x) (g := M.1 58) 1001 0 N (by omega) (by omega)
    rw [fill_0, mset_self, nI_0] at m1
    have hs0 : sOn (mset M 58 (fill (fun _ => 0) (M.1 58) 1001)) (X.1 7) 0 := fun k hk => by
      rw [mset_same, fill_in (by omega)]
      rfl
    obtain ⟨V, v1, v2, v3⟩ := md_soldL hN (M := M) rfl h3 (x := x) (nr (mC M)) 0 N 0 _ (X.1 7) (mL_mset (by omega)) hp0 hs0 (by omega) (by omega) (by omega)
    have h7 : Y.1 7 = (pP (mC M) (nr (mC M)) 0 0 (X.1 7)).2 := (y2.1 7 rfl).trans xf_same
    have u1 := px_sellL (N := N) (Y := Y) (x := x) hN h7 hok (by omega) (pP (mC M) (nr (mC M)) 0 0 (X.1 7)).1 0 N 0 0 (by omega) (by omega) (by omega) (by omega)
    have d1 := md_downL (N := N) (Y := V) (x := x) v3 (by omega) 999 N 0 0 (by omega) (by omega) (by omega) (by omega)
    have hP : ∀ i, i < (pP (mC M) (nr (mC M)) 0 0 (X.1 7)).1 → pN (pP (mC M) (nr (mC M)) 0 0 (X.1 7)).2 i ≤ 999 := fun i hi => (pN_eq hok hi).2
    have hc0 : cN (pN (pP (mC M) (nr (mC M)) 0 0 (X.1 7)).2) (pP (mC M) (nr (mC M)) 0 0 (X.1 7)).1 (999 + 1) = 0 := by
      rcases Nat.eq_zero_or_pos (cN (pN (pP (mC M) (nr (mC M)) 0 0 (X.1 7)).2) (pP (mC M) (nr (mC M)) 0 0 (X.1 7)).1 (999 + 1)) with g | g
      · exact g
      · obtain ⟨i, hi, e⟩ := cN_pos.mp g
        have := hP i hi
        omega
    rw [hc0] at d1
    have hd := dN_ok (P := pN (pP (mC M) (nr (mC M)) 0 0 (X.1 7)).2) (n := (pP (mC M) (nr (mC M)) 0 0 (X.1 7)).1) 999 0 0 (by omega) (.inl ⟨rfl, rfl, fun j g1 g2 => by omega⟩)
    have hu := uN_ok (P := pN (pP (mC M) (nr (mC M)) 0 0 (X.1 7)).2) (n := (pP (mC M) (nr (mC M)) 0 0 (X.1 7)).1) (pP (mC M) (nr (mC M)) 0 0 (X.1 7)).1 0 0 0 (by omega) (.inl ⟨rfl, rfl, fun j g => by omega⟩)
    obtain ⟨q1, q2⟩ := sell_eq hP hd hu
    have e999 : nI 999 = (999 : Int32) := rfl
    rw [nI_0] at y1 v1 u1 d1
    rw [e999, q1, q2] at d1
    have hXL : xL X Y := by
      refine ⟨fun j hj => ?_, y2.2⟩
      rw [y2.1 j (xcoreL_core hj)]
      exact xf_ne (fun e => by subst e; exact nomatch hj)
    rw [if_pos rfl, if_pos rfl, y1, bs2, bs2, u1, bs2, m1, bs1, v1, bs1, d1, bs2]
    by_cases hx0 : x = 0
    · rw [if_pos hx0, if_pos hx0]
      exact ⟨_, _, _, rfl, rfl, h.sameL hXL v2⟩
    · rw [if_neg hx0, if_neg hx0]
      exact ⟨_, _, _, rfl, rfl, h.sameL hXL v2⟩
end A
end PSELL
