section PMEAN2
/-! what a law's run leaves alone -/
theorem ite_get {α : Type} {c : Prop} {dc : Decidable c} {u v : Option α} {x : α} {P : Prop} (h : (@ite _ c dc u v) = some x) (hu : u = some x → P) (hv : v = some x → P) : P := by
  by_cases hc : c
  · rw [if_pos hc] at h
    exact hu h
  · rw [if_neg hc] at h
    exact hv h
theorem run_2 {N : Nat} {c4 c5 : Int32} : ∀ (n : Nat) (X : xS) (v6 v7 : Int32) (X1 : xS), xf_T_run_L20 N c4 c5 n X v6 v7 = some X1 → X1.2 = X.2
  | 0, _, _, _, _, h => nomatch h
  | n + 1, X, v6, v7, X1, h => by
    rw [xf_T_run_L20] at h
    have fin : ∀ (v : Option Int32) (g : Int32 → Option xS), (∀ u X2, g u = some X2 → X2.2 = X.2) → bd1 v g = some X1 → X1.2 = X.2 := fun v g hg hb => by
      obtain ⟨u, _, h2⟩ := bd1_some hb
      exact hg u X1 h2
    have push : ∀ (i : Nat) (w : Int32) (p q : Int32) (X2 : xS), xf_T_run_L20 N c4 c5 n (xs X (83 + 4 * c4.toNatClampNeg) i w) p q = some X2 → X2.2 = X.2 := fun i w p q X2 h2 => run_2 n (xs X (83 + 4 * c4.toNatClampNeg) i w) p q X2 h2
    have stay : ∀ (p q : Int32) (X2 : xS), xf_T_run_L20 N c4 c5 n X p q = some X2 → X2.2 = X.2 := fun p q X2 h2 => run_2 n _ p q X2 h2
    refine ite_get h (fun h => ?_) (fun h => ?_)
    · refine ite_get h (fun h => ?_) (fun h => ?_)
      · refine ite_get h (fun h => ?_) (fun h => ?_)
        · cases h; rfl
        · refine ite_get h (fun h => ?_) (fun h => ?_)
          · refine ite_get h (fun h => ?_) (fun h => ?_)
            · refine ite_get h (fun h => ?_) (fun h => ?_)
              · refine ite_get h (fun h => ?_) (fun h => ?_)
                · exact stay _ _ _ h
                · refine fin _ _ (fun u X2 h2 => ?_) h
                  refine ite_get h2 (fun h2 => ?_) (fun h2 => ?_)
                  · exact push _ _ _ _ _ h2
                  · exact nomatch h2
              · refine ite_get h (fun h => ?_) (fun h => ?_)
                · refine ite_get h (fun h => ?_) (fun h => ?_)
                  · exact stay _ _ _ h
                  · refine fin _ _ (fun u X2 h2 => ?_) h
                    refine ite_get h2 (fun h2 => ?_) (fun h2 => ?_)
                    · exact push _ _ _ _ _ h2
                    · exact nomatch h2
                · refine ite_get h (fun h => ?_) (fun h => ?_)
                  · refine ite_get h (fun h => ?_) (fun h => ?_)
                    · exact stay _ _ _ h
                    · refine ite_get h (fun h => ?_) (fun h => ?_)
                      · exact push _ _ _ _ _ h
                      · exact nomatch h
                  · refine ite_get h (fun h => ?_) (fun h => ?_)
                    · refine ite_get h (fun h => ?_) (fun h => ?_)
                      · exact stay _ _ _ h
                      · refine ite_get h (fun h => ?_) (fun h => ?_)
                        · exact push _ _ _ _ _ h
                        · exact nomatch h
                    · refine ite_get h (fun h => ?_) (fun h => ?_)
                      · exact stay _ _ _ h
                      · refine ite_get h (fun h => ?_) (fun h => ?_)
                        · refine ite_get h (fun h => ?_) (fun h => ?_)
                          · exact push _ _ _ _ _ h
                          · exact nomatch h
                        · exact nomatch h
            · exact nomatch h
          · exact nomatch h
      · exact nomatch h
    · exact nomatch h
theorem byLaw_2 {N : Nat} {X X1 : xS} {x y v : Int32} (h : xf_H_byLaw N X x y = some (v, X1)) : X1.2 = X.2 := by
  unfold xf_H_byLaw at h
  split at h
  · cases h; rfl
  · split at h
    · obtain ⟨u, X2, h1, h2⟩ := bd2_some h
      cases h2
      unfold xf_T_run at h1
      obtain ⟨w, _, h3⟩ := bd1_some h1
      obtain ⟨X3, h4, h5⟩ := bd1_some h3
      split at h5
      · cases h5
        exact run_2 _ _ _ _ _ h4
      · exact nomatch h5
    · exact nomatch h
theorem like_2 {N : Nat} {X X1 : xS} {x y z v : Int32} (h : xf_H_likeOf N X x y z = some (v, X1)) : X1.2 = X.2 := by
  unfold xf_H_likeOf at h
  obtain ⟨X2, h1, h2⟩ := bd1_some h
  split at h2
  · obtain ⟨u, X3, h3, h4⟩ := bd2_some h2
    cases h4
    have e1 := byLaw_2 h3
    unfold xf_H_nameSeat at h1
    split at h1
    · obtain ⟨_, _, h5⟩ := bd1_some h1
      obtain ⟨_, _, h6⟩ := bd1_some h5
      obtain ⟨_, _, h7⟩ := bd1_some h6
      cases h7
      exact e1
    · exact nomatch h1
  · exact nomatch h2
def sK (M Y : mS) : Prop := Y.1 52 = M.1 52 ∧ Y.2 = M.2
theorem says_2 {N : Nat} {c2 c3 : Int32} : ∀ (n : Nat) (M : mS) (p q : Int32) (Y : mS), mf_says_L17 N c2 c3 n M p q = some Y → sK M Y
  | 0, _, _, _, _, h => nomatch h
  | n + 1, M, p, q, Y, h => by
    rw [mf_says_L17] at h
    have fin : ∀ (v : Option Int32) (g : Int32 → Option mS), (∀ u Y2, g u = some Y2 → sK M Y2) → bd1 v g = some Y → sK M Y := fun v g hg hb => by
      obtain ⟨u, _, h2⟩ := bd1_some hb
      exact hg u Y h2
    have push : ∀ (i : Nat) (w : Int32) (p q : Int32) (Y2 : mS), mf_says_L17 N c2 c3 n (ms M 49 i w) p q = some Y2 → sK M Y2 := fun i w p q Y2 h2 => says_2 n (ms M 49 i w) p q Y2 h2
    split at h
    · split at h
      · cases h; exact ⟨rfl, rfl⟩
      · split at h
        · split at h
          · refine fin _ _ (fun u Y2 h2 => ?_) h
            split at h2
            · exact push _ _ _ _ _ h2
            · exact nomatch h2
          · split at h
            · split at h
              · split at h
                · exact push _ _ _ _ _ h
                · exact nomatch h
              · split at h
                · split at h
                  · exact push _ _ _ _ _ h
                  · exact nomatch h
                · split at h
                  · split at h
                    · exact push _ _ _ _ _ h
                    · exact nomatch h
                  · exact nomatch h
            · refine fin _ _ (fun u Y2 h2 => ?_) h
              split at h2
              · exact push _ _ _ _ _ h2
              · exact nomatch h2
        · exact nomatch h
    · exact nomatch h
theorem mlike_k {N : Nat} {M Y : mS} {x y z v : Int32} (h : mf_likeOf N M x y z = some (v, Y)) : sK M Y := by
  unfold mf_likeOf at h
  split at h
  · obtain ⟨_, _, h2⟩ := bd1_some h
    obtain ⟨_, _, h3⟩ := bd1_some h2
    split at h3
    · obtain ⟨Y1, h4, h5⟩ := bd1_some h3
      obtain ⟨u, Y2, h6, h7⟩ := bd2_some h5
      cases h7
      cases h4
      unfold mf_says at h6
      split at h6
      · obtain ⟨Y3, h8, h9⟩ := bd1_some h6
        have := says_2 _ _ _ _ _ h8
        split at h9
        · split at h9
          · cases h9; exact this
          · cases h9; exact this
        · cases h9; exact this
      · exact nomatch h6
    · exact nomatch h3
  · exact nomatch h
theorem mlike_52 {N : Nat} {M Y : mS} {x y z v : Int32} (h : mf_likeOf N M x y z = some (v, Y)) : Y.1 52 = M.1 52 := (mlike_k h).1
theorem mlike_2 {N : Nat} {M Y : mS} {x y z v : Int32} (h : mf_likeOf N M x y z = some (v, Y)) : Y.2 = M.2 := (mlike_k h).2
section A
variable {N : Nat} {a : aS} {r c : Nat}
def lk (a : aS) (r c p : Nat) : Nat := (fLike a r c p).toNatClampNeg
theorem lk_eq (a : aS) (r c p : Nat) : fLike a r c p = nI (lk a r c p) ∧ lk a r c p ≤ 99 := by
  obtain ⟨j, hj, e, _⟩ := iv_ex (hi := 99) (fLike_iv a r c p)
  unfold lk
  rw [e, sm_clamp (by omega)]
  exact ⟨rfl, hj⟩
def pT (a : aS) (r c p : Nat) : Nat := fAllN a ^ fNn a r c p
def pf (a : aS) (r c p part : Nat) : Nat := lowP (fSo a r c p) (pT a r c p) part
/-- the class's fraction, so far -/
def fMn (a : aS) (r c : Nat) : Nat → Nat → Nat × Nat → Nat × Nat
  | 0, _, s => s
  | k + 1, p, s => fMn a r c k (p + 1) (s.1 * (pf a r c p 1 / Nat.gcd (pf a r c p 1) s.2) + lk a r c p * pf a r c p 0 * (s.2 / Nat.gcd (pf a r c p 1) s.2), s.2 * (pf a r c p 1 / Nat.gcd (pf a r c p 1) s.2))
/-- the reference's most, and its sum -/
def fMx (a : aS) (r c : Nat) : Nat → Nat → Nat → Nat
  | 0, _, m => m
  | k + 1, p, m => fMx a r c k (p + 1) (if fNn a r c p ≤ m then m else fNn a r c p)
def fMs (a : aS) (r c M : Nat) : Nat → Nat → Nat → Nat
  | 0, _, v => v
  | k + 1, p, v => fMs a r c M k (p + 1) (v + lk a r c p * fSo a r c p * fAllN a ^ (M - fNn a r c p))
theorem fMx_ge : ∀ {k p m : Nat}, m ≤ fMx a r c k p m ∧ ∀ j, p ≤ j → j < p + k → fNn a r c j ≤ fMx a r c k p m
  | 0, p, m => ⟨Nat.le_refl _, fun j h1 h2 => by omega⟩
  | k + 1, p, m => by
    rw [fMx]
    obtain ⟨h1, h2⟩ := fMx_ge (k := k) (p := p + 1) (m := if fNn a r c p ≤ m then m else fNn a r c p)
    have h3 : m ≤ (if fNn a r c p ≤ m then m else fNn a r c p) ∧ fNn a r c p ≤ (if fNn a r c p ≤ m then m else fNn a r c p) := by
      by_cases h : fNn a r c p ≤ m
      · rw [if_pos h]; exact ⟨Nat.le_refl _, h⟩
      · rw [if_neg h]; exact ⟨by omega, Nat.le_refl _⟩
    refine ⟨Nat.le_trans h3.1 h1, fun j g1 g2 => ?_⟩
    by_cases e : j = p
    · subst e
      exact Nat.le_trans h3.2 h1
    · exact h2 j (by omega) (by omega)
theorem fMx_le (hI : IS a) (hr : r < nr a) (hc : c < 8) : ∀ {k p m : Nat}, p + k ≤ np a → m ≤ 10 → fMx a r c k p m ≤ 10
  | 0, _, _, _, h => h
  | k + 1, p, m, hk, h => by
    rw [fMx]
    refine fMx_le hI hr hc (by omega) ?_
    split
    · exact h
    · exact fNn_le hI hr hc (by omega)
/-- one step of the fraction -/
theorem mean_step {A B S T f0 f1 P u l G : Nat} (hB : 0 < B) (hf1 : 0 < f1) (hPB : B ∣ P) (hPT : P = T * u) (hf : f0 * T = f1 * S) (hfT : f1 ∣ T) (hA : A * P = B * G) : 0 < B * (f1 / Nat.gcd f1 B) ∧ B * (f1 / Nat.gcd f1 B) ∣ P ∧ (A * (f1 / Nat.gcd f1 B) + l * f0 * (B / Nat.gcd f1 B)) * P = B * (f1 / Nat.gcd f1 B) * (G + l * S * u) := by
  have hg : 0 < Nat.gcd f1 B := Nat.gcd_pos_of_pos_right f1 hB
  obtain ⟨x, hx⟩ := Nat.gcd_dvd_left f1 B
  obtain ⟨y, hy⟩ := Nat.gcd_dvd_right f1 B
  have e1 : f1 / Nat.gcd f1 B = x := Nat.div_eq_of_eq_mul_right hg hx
  have e2 : B / Nat.gcd f1 B = y := Nat.div_eq_of_eq_mul_right hg hy
  have hx0 : 0 < x := by
    rcases Nat.eq_zero_or_pos x with h | h
    · rw [h, Nat.mul_zero] at hx
      omega
    · exact h
  rw [e1, e2]
  refine ⟨Nat.mul_pos hB hx0, ?_, ?_⟩
  · have hl : Nat.lcm f1 B ∣ P := Nat.lcm_dvd (Nat.dvd_trans hfT ⟨u, hPT⟩) hPB
    have el : Nat.lcm f1 B = B * x := by
      unfold Nat.lcm
      refine Nat.div_eq_of_eq_mul_right hg ?_
      calc f1 * B = (Nat.gcd f1 B * x) * B := by rw [← hx]
        _ = Nat.gcd f1 B * (B * x) := by ac_rfl
    rw [← el]
    exact hl
  · have h1 : A * x * P = B * x * G := by
      calc A * x * P = A * P * x := by ac_rfl
        _ = B * G * x := by rw [hA]
        _ = B * x * G := by ac_rfl
    have h2 : l * f0 * y * P = B * x * (l * S * u) := by
      calc l * f0 * y * P = l * f0 * y * (T * u) := by rw [← hPT]
        _ = l * y * u * (f0 * T) := by ac_rfl
        _ = l * y * u * (f1 * S) := by rw [hf]
        _ = l * y * u * ((Nat.gcd f1 B * x) * S) := by rw [← hx]
        _ = (Nat.gcd f1 B * y) * x * (l * S * u) := by ac_rfl
        _ = B * x * (l * S * u) := by rw [← hy]
    rw [Nat.add_mul, h1, h2, Nat.mul_add]
theorem pf_facts (hI : IS a) (hr : r < nr a) (hc : c < 8) {p : Nat} (hp : p < np a) (h0 : 0 < fAllN a) : 0 < pf a r c p 1 ∧ pf a r c p 1 ∣ pT a r c p ∧ pf a r c p 0 * pT a r c p = pf a r c p 1 * fSo a r c p ∧ pf a r c p 1 ≤ 3656158440062976 := by
  have hT0 : 0 < pT a r c p := Nat.pow_pos h0
  have hT : pT a r c p ≤ 3656158440062976 := pow36 (fAllN_eq hI).2 (fNn_le hI hr hc hp)
  have hg : 0 < Nat.gcd (fSo a r c p) (pT a r c p) := Nat.gcd_pos_of_pos_right _ hT0
  obtain ⟨x, hx⟩ := Nat.gcd_dvd_left (fSo a r c p) (pT a r c p)
  obtain ⟨y, hy⟩ := Nat.gcd_dvd_right (fSo a r c p) (pT a r c p)
  have e1 : pf a r c p 0 = x := Nat.div_eq_of_eq_mul_right hg hx
  have e2 : pf a r c p 1 = y := Nat.div_eq_of_eq_mul_right hg hy
  have hy0 : 0 < y := by
    rcases Nat.eq_zero_or_pos y with h | h
    · rw [h, Nat.mul_zero] at hy
      omega
    · exact h
  rw [e1, e2]
  have hyd : y ∣ pT a r c p := ⟨Nat.gcd (fSo a r c p) (pT a r c p), by rw [Nat.mul_comm]; exact hy⟩
  refine ⟨hy0, hyd, ?_, Nat.le_trans (Nat.le_of_dvd hT0 hyd) hT⟩
  calc x * pT a r c p = x * (Nat.gcd (fSo a r c p) (pT a r c p) * y) := by rw [← hy]
    _ = y * (Nat.gcd (fSo a r c p) (pT a r c p) * x) := by ac_rfl
    _ = y * fSo a r c p := by rw [← hx]
theorem mean_inv (hI : IS a) (hr : r < nr a) (hc : c < 8) (h0 : 0 < fAllN a) {M : Nat} (hM : ∀ j, j < np a → fNn a r c j ≤ M) : ∀ (k p : Nat) (s : Nat × Nat) (G : Nat), p + k = np a → 0 < s.2 → s.2 ∣ fAllN a ^ M → s.1 * fAllN a ^ M = s.2 * G → G ≤ 99 * p * fAllN a ^ M → 0 < (fMn a r c k p s).2 ∧ (fMn a r c k p s).2 ∣ fAllN a ^ M ∧ (fMn a r c k p s).1 * fAllN a ^ M = (fMn a r c k p s).2 * fMs a r c M k p G ∧ fMs a r c M k p G ≤ 99 * np a * fAllN a ^ M
  | 0, p, s, G, hk, h1, h2, h3, h4 => by
    have : p = np a := by omega
    subst this
    exact ⟨h1, h2, h3, h4⟩
  | k + 1, p, s, G, hk, h1, h2, h3, h4 => by
    obtain ⟨g1, g2, g3, g4⟩ := pf_facts hI hr hc (show p < np a by omega) h0
    have hpow : fAllN a ^ M = pT a r c p * fAllN a ^ (M - fNn a r c p) := by
      unfold pT
      rw [← Nat.pow_add, Nat.add_sub_cancel' (hM p (by omega))]
    obtain ⟨m1, m2, m3⟩ := mean_step (A := s.1) (l := lk a r c p) h1 g1 h2 hpow g3 g2 h3
    have hl := (lk_eq a r c p).2
    have hS := fSo_le (r := r) (c := c) (p := p) hI
    have hterm : lk a r c p * fSo a r c p * fAllN a ^ (M - fNn a r c p) ≤ 99 * fAllN a ^ M := by
      rw [hpow]
      calc lk a r c p * fSo a r c p * fAllN a ^ (M - fNn a r c p) ≤ 99 * pT a r c p * fAllN a ^ (M - fNn a r c p) := Nat.mul_le_mul_right _ (Nat.mul_le_mul hl hS)
        _ = 99 * (pT a r c p * fAllN a ^ (M - fNn a r c p)) := by rw [Nat.mul_assoc]
    rw [fMn, fMs]
    refine mean_inv hI hr hc h0 hM k (p + 1) _ _ (by omega) m1 m2 m3 ?_
    have e : 99 * (p + 1) * fAllN a ^ M = 99 * p * fAllN a ^ M + 99 * fAllN a ^ M := by
      rw [Nat.mul_add, Nat.mul_one, Nat.add_mul]
    rw [e]
    exact Nat.add_le_add h4 hterm
theorem px_meanL (hN : 2000 ≤ N) (hI : IS a) (hr : r < nr a) (hc : c < 8) (h0 : 0 < fAllN a) {c5 : Int32} : ∀ (k p n : Nat) (s : Nat × Nat) (X : xS), RS X a → p + k = np a → 0 < s.2 → (∀ j, p ≤ j → j ≤ np a → (fMn a r c (j - p) p s).2 ≤ 3656158440062976) → k < n → ∃ Z, xf_X_mean_L48 N (nI c) c5 (nI r) n X (lN s.1) (lN s.2) (nI p) = some (lN (fMn a r c k p s).1, lN (fMn a r c k p s).2, Z) ∧ xQ X Z
  | 0, p, n + 1, s, X, hR, hk, hs, hb, _ => by
    have h6 := hI.1.2.2.2.1
    have e : X.1 17 0 = nI (np a) := hR.1.2.1.trans hI.1.2.2.1
    refine ⟨X, ?_, xQ.refl X⟩
    rw [xf_X_mean_L48, e, if_pos (sm_len (by omega) (by omega))]
    rfl
  | k + 1, p, n + 1, s, X, hR, hk, hs, hb, hn => by
    have h6 := hI.1.2.2.2.1
    have e : X.1 17 0 = nI (np a) := hR.1.2.1.trans hI.1.2.2.1
    have hp : p < np a := by omega
    obtain ⟨g1, g2, g3, g4⟩ := pf_facts hI hr hc hp h0
    obtain ⟨X1, w1, w2, w3, w4⟩ := px_chanceOf hN hI hR hr hc hp h0
    have hR1 := hR.frame w2
    obtain ⟨X2, l1, l2⟩ := px_like hN hR1 hI hr hc hp
    have hB : s.2 ≤ 3656158440062976 := by
      have := hb p (Nat.le_refl _) (by omega)
      rw [Nat.sub_self, fMn] at this
      exact this
    have hlong : X2.2 = X1.2 := like_2 l1
    have e0 : X2.2.1 0 0 = lN (pf a r c p 0) := by rw [hlong]; exact w3
    have e1 : X2.2.1 0 1 = lN (pf a r c p 1) := by rw [hlong]; exact w4
    obtain ⟨el, hl⟩ := lk_eq a r c p
    have hg : 0 < Nat.gcd (pf a r c p 1) s.2 := Nat.gcd_pos_of_pos_right _ hs
    have hgle : Nat.gcd (pf a r c p 1) s.2 ≤ s.2 := Nat.gcd_le_right _ hs
    have hgne : ¬ lN (Nat.gcd (pf a r c p 1) s.2) = 0 := fun hh => by
      have := (lN_z (by omega)).mp hh
      omega
    have hx0 : 0 < pf a r c p 1 / Nat.gcd (pf a r c p 1) s.2 := Nat.div_pos (Nat.gcd_le_left _ g1) hg
    obtain ⟨Z, z1, z2⟩ := px_meanL hN hI hr hc h0 (c5 := c5) k (p + 1) n (s.1 * (pf a r c p 1 / Nat.gcd (pf a r c p 1) s.2) + lk a r c p * pf a r c p 0 * (s.2 / Nat.gcd (pf a r c p 1) s.2), s.2 * (pf a r c p 1 / Nat.gcd (pf a r c p 1) s.2)) X2 (hR1.frame l2) (by omega) (Nat.mul_pos hs hx0) (fun j h1 h2 => by
      have := hb j (by omega) h2
      rw [show j - p = (j - (p + 1)) + 1 by omega, fMn] at this
      exact this) (by omega)
    refine ⟨Z, ?_, (w2.trans l2).trans z2⟩
    rw [xf_X_mean_L48, e, if_neg (sm_nle (by omega) (by omega)), w1, bs1, l1, bs2, cl_0, cl_1, e0, e1, px_gcd hN (by omega) (by omega) hs, bs1, if_pos hgne, bs1, if_pos hgne, pk_lDiv (by omega) hg (by omega), pk_lDiv (by omega) hg (by omega), el, nI_l (by omega), lN_mul, lN_mul, lN_mul, lN_mul, lN_add, ← nI_succ, fMn]
    exact z1
theorem md_mostL (hN : 2000 ≤ N) {M : mS} (hA : mC M = a) (hI : IS a) (hr : r < nr a) (hc : c < 8) {x : Int32} : ∀ (k p n m : Nat) (Y : mS), mE M Y → p + k = np a → m ≤ 10 → k < n → ∃ Z, mf_mean_L35 N (nI r) (nI c) x n Y (nI m) (nI p) = some (nI (fMx a r c k p m), Z) ∧ mE M Z
  | 0, p, n + 1, m, Y, hq, hk, _, _ => by
    have h6 := hI.1.2.2.2.1
    have e : Y.1 10 0 = nI (np a) := by rw [mA (hq.1.trans hA) 10 rfl]; exact hI.1.2.2.1
    refine ⟨Y, ?_, hq⟩
    rw [mf_mean_L35, e, if_pos (sm_len (by omega) (by omega))]
    rfl
  | k + 1, p, n + 1, m, Y, hq, hk, hm, hn => by
    have h6 := hI.1.2.2.2.1
    have e : Y.1 10 0 = nI (np a) := by rw [mA (hq.1.trans hA) 10 rfl]; exact hI.1.2.2.1
    have hp : p < np a := by omega
    obtain ⟨Z1, z1, z2, z3, z4⟩ := md_cases hN (hq.1.trans hA) hI hr hc hp
    have hn10 := fNn_le hI hr hc hp
    rw [mf_mean_L35, e, if_neg (sm_nle (by omega) (by omega)), z1, bs1, z3, ← nI_succ, fMx]
    by_cases h : fNn a r c p ≤ m
    · obtain ⟨Z, y1, y2⟩ := md_mostL hN hA hI hr hc (x := x) k (p + 1) n m Z1 (hq.trans z2) (by omega) hm (by omega)
      rw [if_pos (sm_len h (by omega)), if_pos h]
      exact ⟨Z, y1, y2⟩
    · obtain ⟨Z, y1, y2⟩ := md_mostL hN hA hI hr hc (x := x) k (p + 1) n (fNn a r c p) Z1 (hq.trans z2) (by omega) hn10 (by omega)
      rw [if_neg (sm_nle (by omega) (by omega)), if_neg h]
      exact ⟨Z, y1, y2⟩
theorem md_sumL (hN : 2000 ≤ N) {M : mS} (hA : mC M = a) (hI : IS a) (hr : r < nr a) (hc : c < 8) {x : Int32} {m : Nat} (hm : m ≤ 10) (hM : ∀ j, j < np a → fNn a r c j ≤ m) : ∀ (k p n v : Nat) (Y : mS), mE M Y → p + k = np a → k < n → ∃ Z, mf_mean_L84 N (nI r) (nI c) x (nI m) n Y (lN v) (nI p) = some (lN (fMs a r c m k p v), Z) ∧ mE M Z
  | 0, p, n + 1, v, Y, hq, hk, _ => by
    have h6 := hI.1.2.2.2.1
    have e : Y.1 10 0 = nI (np a) := by rw [mA (hq.1.trans hA) 10 rfl]; exact hI.1.2.2.1
    refine ⟨Y, ?_, hq⟩
    rw [mf_mean_L84, e, if_pos (sm_len (by omega) (by omega))]
    rfl
  | k + 1, p, n + 1, v, Y, hq, hk, hn => by
    have h6 := hI.1.2.2.2.1
    have h36 := (fAllN_eq hI).2
    have e : Y.1 10 0 = nI (np a) := by rw [mA (hq.1.trans hA) 10 rfl]; exact hI.1.2.2.1
    have hp : p < np a := by omega
    obtain ⟨Z1, z1, z2, z3, z4⟩ := md_cases hN (hq.1.trans hA) hI hr hc hp
    have hA1 := (hq.trans z2).1.trans hA
    obtain ⟨Z2, l1, l2⟩ := md_like hN hI hA1 hr hc (hI.hp6 hp)
    have h52 : Z2.1 52 0 = nI (fNn a r c p) := by
      rw [mlike_52 l1]
      exact z3
    have h53 : Z2.2 53 0 = lN (fSo a r c p) := by
      rw [mlike_2 l1]
      exact z4
    have hn10 := hM p hp
    obtain ⟨el, hl⟩ := lk_eq a r c p
    obtain ⟨Z, y1, y2⟩ := md_sumL hN hA hI hr hc (x := x) hm hM k (p + 1) n (v + lk a r c p * fSo a r c p * fAllN a ^ (m - fNn a r c p)) Z2 ((hq.trans z2).trans l2) (by omega) (by omega)
    refine ⟨Z, ?_, y2⟩
    rw [mf_mean_L84, e, if_neg (sm_nle (by omega) (by omega)), z1, bs1, l1, bs2, md_allC hI (l2.1.trans hA1), bs1, h52, pk_sub hn10, nI_l (by omega), md_power hN (by omega), bs1, h53, el, nI_l (by omega), lN_mul, lN_mul, lN_add, ← nI_succ, fMs]
    exact y1
theorem st_mean {X : xS} {M : mS} (hN : 2000 ≤ N) (h : Rl X M) (x y w : Int32) : ∃ r X1 M1, xf_X_mean N X x y w = some (r, X1) ∧ mf_mean N M x y w = some (r, M1) ∧ Rl X1 M1 := by
  have hh := seat_cases (N := N) h x y
  obtain ⟨h1, h2, h3, h4, h5⟩ := id h
  unfold xf_X_mean mf_mean
  rcases hh with ⟨r, c, hr, hc, hc8, rfl, rfl, q1, q2⟩ | ⟨q1, q2⟩
  · have h6 := h3.hr6 hr
    have hp6 := h3.1.2.2.2.1
    rw [q1, q2, bs1, bs1, if_neg (nI_pos (by omega)), if_pos rfl, isIn_in]
    cases hw : mf_in w 0 1 with
    | false => exact ⟨_, X, M, rfl, rfl, h⟩
    | true =>
      obtain ⟨t, ht, rfl⟩ := in_nat (n := 1) (by omega) hw
      rw [if_pos rfl, if_pos rfl, px_allC hN h3 h1, md_allC h3 (M := M) rfl, bs1, bs1]
      by_cases h0 : fAllN (mC M) = 0
      · rw [if_pos ((zero_all h3).mpr h0), if_pos ((zero_all h3).mpr h0)]
        exact ⟨_, X, M, rfl, rfl, h⟩
      · have h36 := (fAllN_eq h3).2
        have h0' : 0 < fAllN (mC M) := by omega
        have hM : ∀ j, j < np (mC M) → fNn (mC M) r c j ≤ fMx (mC M) r c (np (mC M)) 0 0 := fun j hj => fMx_ge.2 j (by omega) (by omega)
        have hm10 : fMx (mC M) r c (np (mC M)) 0 0 ≤ 10 := fMx_le h3 hr hc8 (by omega) (by omega)
        have hP : fAllN (mC M) ^ fMx (mC M) r c (np (mC M)) 0 0 ≤ 3656158440062976 := pow36 h36 hm10
        have hP0 : 0 < fAllN (mC M) ^ fMx (mC M) r c (np (mC M)) 0 0 := Nat.pow_pos h0'
        have hinv := mean_inv h3 hr hc8 h0' hM (np (mC M)) 0 (0, 1) 0 (by omega) (by omega) ⟨_, (Nat.one_mul _).symm⟩ (by simp) (Nat.zero_le _)
        obtain ⟨i1, i2, i3, i4⟩ := hinv
        have hpre : ∀ j, 0 ≤ j → j ≤ np (mC M) → (fMn (mC M) r c (j - 0) 0 (0, 1)).2 ≤ 3656158440062976 := fun j _ hj => by
          rw [Nat.sub_zero]
          have hd : ∀ (k p : Nat) (s : Nat × Nat), p + k ≤ np (mC M) → 0 < s.2 → s.2 ∣ fAllN (mC M) ^ fMx (mC M) r c (np (mC M)) 0 0 → 0 < (fMn (mC M) r c k p s).2 ∧ (fMn (mC M) r c k p s).2 ∣ fAllN (mC M) ^ fMx (mC M) r c (np (mC M)) 0 0 := by
            intro k
            induction k with
            | zero => intro p s _ g1 g2; exact ⟨g1, g2⟩
            | succ k ih =>
              intro p s hk g1 g2
              obtain ⟨f1, f2, f3, f4⟩ := pf_facts h3 hr hc8 (show p < np (mC M) by omega) h0'
              have hpow : fAllN (mC M) ^ fMx (mC M) r c (np (mC M)) 0 0 = pT (mC M) r c p * fAllN (mC M) ^ (fMx (mC M) r c (np (mC M)) 0 0 - fNn (mC M) r c p) := by
                unfold pT
                rw [← Nat.pow_add, Nat.add_sub_cancel' (hM p (by omega))]
              obtain ⟨m1, m2, _⟩ := mean_step (A := 0) (G := 0) (l := 0) g1 f1 g2 hpow f3 f2 (by simp)
              rw [fMn]
              exact ih (p + 1) _ (by omega) m1 m2
          have := hd j 0 (0, 1) (by omega) (by omega) ⟨_, (Nat.one_mul _).symm⟩
          exact Nat.le_trans (Nat.le_of_dvd hP0 this.2) hP
        obtain ⟨X1, x1, x2⟩ := px_meanL hN h3 hr hc8 h0' (c5 := nI t) (np (mC M)) 0 N (0, 1) X h1 (by omega) (by omega) hpre (by omega)
        obtain ⟨M1, m1, m2⟩ := md_mostL hN (M := M) rfl h3 hr hc8 (x := nI t) (np (mC M)) 0 N 0 M (mE.refl M) (by omega) (by omega) (by omega)
        obtain ⟨M2, n1, n2⟩ := md_sumL hN (M := M) rfl h3 hr hc8 (x := nI t) hm10 hM (np (mC M)) 0 N 0 M1 m2 (by omega) (by omega)
        have hB := Nat.le_trans (Nat.le_of_dvd hP0 i2) hP
        have hGb : fMs (mC M) r c (fMx (mC M) r c (np (mC M)) 0 0) (np (mC M)) 0 0 ≤ 594 * 3656158440062976 := by
          refine Nat.le_trans i4 (Nat.mul_le_mul ?_ hP)
          omega
        have hAb : (fMn (mC M) r c (np (mC M)) 0 (0, 1)).1 ≤ 594 * (fMn (mC M) r c (np (mC M)) 0 (0, 1)).2 := by
          refine Nat.le_of_mul_le_mul_right ?_ hP0
          rw [i3, Nat.mul_comm 594, Nat.mul_assoc]
          refine Nat.mul_le_mul_left _ (Nat.le_trans i4 (Nat.mul_le_mul_right _ ?_))
          omega
        have hlow := low_same i1 hP0 (show _ * _ = _ * _ from (by rw [i3, Nat.mul_comm]))
        obtain ⟨X2, r1, r2, r3, r4, r5⟩ := px_reduce hN (X := X1) (a := (fMn (mC M) r c (np (mC M)) 0 (0, 1)).1) (b := (fMn (mC M) r c (np (mC M)) 0 (0, 1)).2) (by omega) (by omega) i1
        have hlw := md_lowest (N := N) hN (a := fMs (mC M) r c (fMx (mC M) r c (np (mC M)) 0 0) (np (mC M)) 0 0) (b := fAllN (mC M) ^ fMx (mC M) r c (np (mC M)) 0 0) (part := t) (by omega) (by omega) hP0 ht
        rw [nI_0] at x1 m1 n1
        have ex : lN ((0, 1) : Nat × Nat).1 = 0 ∧ lN ((0, 1) : Nat × Nat).2 = 1 := ⟨rfl, rfl⟩
        rw [ex.1, ex.2] at x1
        rw [lN_0] at n1
        rw [if_neg (fun hh => h0 ((zero_all h3).mp hh)), if_neg (fun hh => h0 ((zero_all h3).mp hh)), x1, bs3, r1, bs1, if_pos (sm_ok (show t < 2 by omega) (by omega)), m1, bs2, n1, bs2, md_allC h3 (M := M2) n2.1, bs1, nI_l (by omega), md_power hN (by omega), bs1, hlw, bs1, sm_clamp (show t < 100000000 by omega)]
        have et : X2.2.1 0 t = lN (lowP (fMs (mC M) r c (fMx (mC M) r c (np (mC M)) 0 0) (np (mC M)) 0 0) (fAllN (mC M) ^ fMx (mC M) r c (np (mC M)) 0 0) t) := by
          have : t = 0 ∨ t = 1 := by omega
          rcases this with rfl | rfl
          · rw [r4]
            exact congrArg lN hlow.1
          · rw [r5]
            exact congrArg lN hlow.2
        rw [et]
        exact ⟨_, X2, M2, rfl, rfl, h.same ⟨fun j hj => by rw [r2]; exact x2.1 j hj, r3.trans x2.2⟩ n2⟩
  · rw [q1, q2]
    exact ⟨_, X, M, rfl, rfl, h⟩
end A
end PMEAN2
