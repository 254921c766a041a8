section PASK7
/-! floors for told coin -/
def fB : Nat → Int32 → (Nat → Int32) → Nat → Int32
  | 0, _, f => f
  | k + 1, w, f => fB k (w / 3) (upd f k (6 * (w - w / 3 * 3)))
def fD : Nat → Int32 → Int32 → Int32 → Int32
  | 0, _, d, _ => d
  | k + 1, w, d, u => fD k (w / 3) (d + u * (w - w / 3 * 3)) (u * 10)
theorem fB_out : ∀ {k : Nat} {w : Int32} {f : Nat → Int32} {j : Nat}, k ≤ j → fB k w f j = f j
  | 0, _, _, _, _ => rfl
  | k + 1, w, f, j, h => by
    rw [fB, fB_out (by omega), upd_at, if_neg (by omega)]
theorem fB_in : ∀ {k : Nat} {w : Int32} {f g : Nat → Int32} {j : Nat}, j < k → fB k w f j = fB k w g j
  | k + 1, w, f, g, j, h => by
    rw [fB, fB]
    by_cases e : j = k
    · subst e
      rw [fB_out (Nat.le_refl _), fB_out (Nat.le_refl _), pk_us, pk_us]
    · exact fB_in (by omega)
theorem rem3 (w : Nat) (hw : w < 100000000) : nI w - nI w / 3 * 3 = nI (w % 3) := by
  rw [show (3 : Int32) = nI 3 from rfl, pk_rem (by omega) (by omega) (by omega)]
theorem div3 (w : Nat) (hw : w < 100000000) : nI w / 3 = nI (w / 3) := by
  rw [show (3 : Int32) = nI 3 from rfl, pk_div (by omega) (by omega) (by omega)]
theorem fB_iv : ∀ {k w : Nat} {f : Nat → Int32} {j : Nat}, w < 100000000 → j < k → iv (fB k (nI w) f j) 0 12
  | k + 1, w, f, j, hw, h => by
    rw [fB, rem3 w hw, div3 w hw]
    by_cases e : j = k
    · subst e
      rw [fB_out (Nat.le_refl _), pk_us, show (6 : Int32) = nI 6 from rfl, pk_mul]
      exact iv_nI (by omega) (by omega)
    · exact fB_iv (by omega) (by omega)
theorem fD_nat : ∀ (k w d u : Nat), w < 100000000 → ∃ d2, fD k (nI w) (nI d) (nI u) = nI d2 ∧ d2 + u ≤ d + u * 10 ^ k
  | 0, w, d, u, _ => ⟨d, rfl, by omega⟩
  | k + 1, w, d, u, hw => by
    rw [fD, rem3 w hw, div3 w hw, pk_mul, nI_add, show (10 : Int32) = nI 10 from rfl, pk_mul]
    obtain ⟨d2, e1, e2⟩ := fD_nat k (w / 3) (d + u * (w % 3)) (u * 10) (by omega)
    refine ⟨d2, e1, ?_⟩
    have h3 : u * (w % 3) ≤ u * 2 := Nat.mul_le_mul_left u (by omega)
    have h4 : u * 10 ^ (k + 1) = u * 10 * 10 ^ k := by rw [Nat.pow_succ, Nat.mul_assoc, Nat.mul_comm 10]
    omega
theorem fD_ok {m w : Nat} (hm : m ≤ 4) (hw : w < 100000000) : ∃ d2, fD m (nI w) 0 1 = nI d2 ∧ d2 < 100000 := by
  obtain ⟨d2, e1, e2⟩ := fD_nat m w 0 1 hw
  refine ⟨d2, e1, ?_⟩
  have : 10 ^ m ≤ 10 ^ 4 := Nat.pow_le_pow_right (by omega) hm
  omega
section A
variable {N : Nat} {a : aS}
theorem px_buildL {X : xS} {m : Nat} (hn : m ≤ X.2.2.1) (hm : m ≤ 4) : ∀ (k n : Nat) (w d u : Int32) (f : Nat → Int32), k ≤ m → k < n → xf_X_buildFloors_L13 N n (xf X 57 f) w d u (nI k - 1) = some (fD k w d u, xf X 57 (fB k w f))
  | 0, n + 1, w, d, u, f, _, _ => by
    rw [xf_X_buildFloors_L13, if_pos (by decide)]
    rfl
  | k + 1, n + 1, w, d, u, f, hk, hn2 => by
    have hlt : k < (xf X 57 f).2.2.1 := by
      show k < X.2.2.1
      omega
    rw [xf_X_buildFloors_L13, nI_pred, if_neg (nI_pos (by omega)), if_pos (sm_ok (show k < 6 by omega) (by omega)), sm_clamp (show k < 100000000 by omega), if_pos hlt, xs_xf, nI_m1, px_buildL hn hm k n _ _ _ _ (by omega) (by omega)]
    rfl
theorem px_build {X : xS} {m : Nat} (hN : 2000 ≤ N) (hn : m ≤ X.2.2.1) (hm : m ≤ 4) (w : Int32) : xf_X_buildFloors N X (nI m) w = some (fD m w 0 1, xf X 57 (fB m w (X.1 57))) := by
  have h := px_buildL (N := N) hn hm m N w 0 1 (X.1 57) (Nat.le_refl _) (by omega)
  rw [xf_self] at h
  unfold xf_X_buildFloors
  rw [h]
  rfl
theorem md_buildL {M : mS} {m : Nat} (hm : m ≤ 4) {x1 x2 x3 x4 x5 x6 x7 : Int32} : ∀ (k n : Nat) (w d u : Int32) (f : Nat → Int32), k ≤ m → k < n → mf_coin_L99 N x1 x2 x3 x4 x5 x6 x7 n (mset M 7 f) w d u (nI k - 1) = some (fD k w d u, mset M 7 (fB k w f))
  | 0, n + 1, w, d, u, f, _, _ => by
    rw [mf_coin_L99, if_pos (by decide)]
    rfl
  | k + 1, n + 1, w, d, u, f, hk, hn2 => by
    rw [mf_coin_L99, nI_pred, if_neg (nI_pos (by omega)), if_pos (sm_ok (show k < 6 by omega) (by omega)), sm_clamp (show k < 100000000 by omega), ms_mset, nI_m1, md_buildL hm k n _ _ _ _ (by omega) (by omega)]
    rfl
theorem px_waysL {X : xS} {x y : Int32} {m : Nat} (hm : m ≤ 4) : ∀ (k i n w : Nat), i + k = m → k < n → xf_X_coin_L41 N x y (nI m) n X (nI w) (nI i) = some (nI (w * 3 ^ k))
  | 0, i, n + 1, w, hk, _ => by
    rw [xf_X_coin_L41, if_pos (sm_len (by omega) (by omega)), Nat.pow_zero, Nat.mul_one]
  | k + 1, i, n + 1, w, hk, hn => by
    rw [xf_X_coin_L41, if_neg (sm_nle (by omega) (by omega)), ← nI_succ, show (3 : Int32) = nI 3 from rfl, pk_mul, px_waysL hm k (i + 1) n (w * 3) (by omega) (by omega), Nat.pow_succ, Nat.mul_assoc, Nat.mul_comm 3]
theorem md_waysL {M : mS} {x y : Int32} {m : Nat} (hm : m ≤ 4) : ∀ (k i n w : Nat), i + k = m → k < n → mf_coin_L46 N x y (nI m) n M (nI w) (nI i) = some (nI (w * 3 ^ k))
  | 0, i, n + 1, w, hk, _ => by
    rw [mf_coin_L46, if_pos (sm_len (by omega) (by omega)), Nat.pow_zero, Nat.mul_one]
  | k + 1, i, n + 1, w, hk, hn => by
    rw [mf_coin_L46, if_neg (sm_nle (by omega) (by omega)), ← nI_succ, show (3 : Int32) = nI 3 from rfl, pk_mul, md_waysL hm k (i + 1) n (w * 3) (by omega) (by omega), Nat.pow_succ, Nat.mul_assoc, Nat.mul_comm 3]
/-- a way of floors -/
def fWay (a : aS) (m w : Nat) : aS := af a 7 (fB m (nI w) (a 7))
theorem fWay_ok (hI : IS a) {m w : Nat} (hw : w < 100000000) : IS (fWay a m w) := hI.rise (fun r hr => by
  by_cases h : r < m
  · exact iv_mono (fB_iv hw h) (by omega) (by omega)
  · rw [fB_out (by omega)]
    exact (hI.2.2.1 r hr).2.2.2.2.2.1)
def fCoinW (a : aS) (m : Nat) (mo : Int32) (w : Nat) : Int32 := if mo < fCost (fWay a m w) then -1 else fAll (fWay a m w)
def fCoin (a : aS) (m : Nat) (mo : Int32) : Nat → Nat → Int32 → Int32 → Int32 × Int32
  | 0, _, d, g => (d, g)
  | k + 1, i, d, g => if fCoinW a m mo i ≤ g then fCoin a m mo k (i + 1) d g else fCoin a m mo k (i + 1) (fD m (nI i) 0 1) (fCoinW a m mo i)
theorem fB_fB {m : Nat} {w : Int32} {f g : Nat → Int32} (hf : ∀ j, m ≤ j → f j = g j) : fB m w f = fB m w g := by
  funext j
  by_cases h : j < m
  · exact fB_in h
  · rw [fB_out (by omega), fB_out (by omega), hf j (by omega)]
theorem px_coinL (hN : 2000 ≤ N) {m : Nat} {X K : xS} (hI : IS a) (hK : RS K a) (hm4 : m ≤ 4) (hmn : m ≤ nr a) (hX : K.1 57 = X.1 57) {mo y : Int32} : ∀ (k i n : Nat) (Y : xS) (f : Nat → Int32) (d g : Int32), xQ (xf K 57 f) Y → (∀ j, m ≤ j → f j = X.1 57 j) → i + k = 3 ^ m → k < n → ∃ Z f2, xf_X_coin_L72 N mo y (nI m) (nI (3 ^ m)) n Y d g (nI i) = some ((fCoin a m mo k i d g).1, (fCoin a m mo k i d g).2, Z) ∧ xQ (xf K 57 f2) Z ∧ ∀ j, m ≤ j → f2 j = X.1 57 j
  | 0, i, n + 1, Y, f, d, g, hq, hf, hk, _ => by
    have h81 : 3 ^ m ≤ 3 ^ 4 := Nat.pow_le_pow_right (by omega) hm4
    refine ⟨Y, f, ?_, hq, hf⟩
    rw [xf_X_coin_L72, if_pos (sm_len (by omega) (by omega))]
    rfl
  | k + 1, i, n + 1, Y, f, d, g, hq, hf, hk, hn => by
    have h81 : 3 ^ m ≤ 3 ^ 4 := Nat.pow_le_pow_right (by omega) hm4
    have e57 : Y.1 57 = f := (hq.1 57 rfl).trans xf_same
    have en : Y.2.2.1 = nr a := by rw [hq.2]; exact hK.1.2.2.2
    have b1 := px_build (N := N) (X := Y) (m := m) hN (by omega) hm4 (nI i)
    rw [e57, fB_fB hf] at b1
    have hq1 : xQ (xf K 57 (fB m (nI i) (X.1 57))) (xf Y 57 (fB m (nI i) (X.1 57))) := by
      have := q_xf (k := 57) (f := fB m (nI i) (X.1 57)) hq
      rw [xf_xf] at this
      exact this
    have hR1 : RS (xf K 57 (fB m (nI i) (X.1 57))) (fWay a m i) := hK.rise (fun r hr => by
      by_cases h : r < m
      · exact fB_in h
      · rw [fB_out (by omega), fB_out (by omega), ← hX]
        exact (hK.2.2.1 r hr).2.2.2.1)
    have hI1 : IS (fWay a m i) := fWay_ok hI (by omega)
    obtain ⟨Y1, c1, c2⟩ := px_cost hN hI1 (hR1.frame hq1)
    have hf2 : ∀ j, m ≤ j → fB m (nI i) (X.1 57) j = X.1 57 j := fun j hj => fB_out hj
    rw [xf_X_coin_L72, if_neg (sm_nle (by omega) (by omega)), b1, bs2, c1, bs2, ← nI_succ, fCoin]
    unfold fCoinW
    by_cases hd : mo < fCost (fWay a m i)
    · rw [if_pos hd, if_pos hd, bs2]
      by_cases hle : (-1 : Int32) ≤ g
      · obtain ⟨Z, f3, z1, z2, z3⟩ := px_coinL hN hI hK hm4 hmn hX (mo := mo) (y := y) k (i + 1) n Y1 _ d g (hq1.trans c2) hf2 (by omega) (by omega)
        exact ⟨Z, f3, by rw [if_pos hle, if_pos hle]; exact z1, z2, z3⟩
      · obtain ⟨Z, f3, z1, z2, z3⟩ := px_coinL hN hI hK hm4 hmn hX (mo := mo) (y := y) k (i + 1) n Y1 _ (fD m (nI i) 0 1) (-1) (hq1.trans c2) hf2 (by omega) (by omega)
        exact ⟨Z, f3, by rw [if_neg hle, if_neg hle]; exact z1, z2, z3⟩
    · obtain ⟨Y2, w1, w2⟩ := px_all hN hI1 ((hR1.frame hq1).frame c2)
      rw [if_neg hd, if_neg hd, w1, bs2, bs2]
      by_cases hle : fAll (fWay a m i) ≤ g
      · obtain ⟨Z, f3, z1, z2, z3⟩ := px_coinL hN hI hK hm4 hmn hX (mo := mo) (y := y) k (i + 1) n Y2 _ d g ((hq1.trans c2).trans w2) hf2 (by omega) (by omega)
        exact ⟨Z, f3, by rw [if_pos hle, if_pos hle]; exact z1, z2, z3⟩
      · obtain ⟨Z, f3, z1, z2, z3⟩ := px_coinL hN hI hK hm4 hmn hX (mo := mo) (y := y) k (i + 1) n Y2 _ (fD m (nI i) 0 1) (fAll (fWay a m i)) ((hq1.trans c2).trans w2) hf2 (by omega) (by omega)
        exact ⟨Z, f3, by rw [if_neg hle, if_neg hle]; exact z1, z2, z3⟩
/-- how the reference's two numbers stand to the class's -/
def cOn (d g h : Int32) : Prop := (d = -1 ∧ g = -1) ∨ (¬ d = -1 ∧ h = g ∧ 0 ≤ g.toInt)
theorem md_coinL (hN : 2000 ≤ N) {m : Nat} {M K : mS} (hA : mC K = a) (hI : IS a) (hm4 : m ≤ 4) (hX : K.1 7 = M.1 7) {mo y : Int32} : ∀ (k i n : Nat) (Y : mS) (f : Nat → Int32) (d g h : Int32), mE (mset K 7 f) Y → (∀ j, m ≤ j → f j = M.1 7 j) → cOn d g h → i + k = 3 ^ m → k < n → ∃ Z f2 h2, mf_coin_L77 N mo y (nI m) (nI (3 ^ m)) n Y d h (nI i) = some ((fCoin a m mo k i d g).1, h2, Z) ∧ cOn (fCoin a m mo k i d g).1 (fCoin a m mo k i d g).2 h2 ∧ mE (mset K 7 f2) Z ∧ ∀ j, m ≤ j → f2 j = M.1 7 j
  | 0, i, n + 1, Y, f, d, g, h, hq, hf, hc, hk, _ => by
    have h81 : 3 ^ m ≤ 3 ^ 4 := Nat.pow_le_pow_right (by omega) hm4
    refine ⟨Y, f, h, ?_, hc, hq, hf⟩
    rw [mf_coin_L77, if_pos (sm_len (by omega) (by omega))]
    rfl
  | k + 1, i, n + 1, Y, f, d, g, h, hq, hf, hc, hk, hn => by
    have h81 : 3 ^ m ≤ 3 ^ 4 := Nat.pow_le_pow_right (by omega) hm4
    have e57 : Y.1 7 = f := (e_at hq rfl).trans mset_same
    have b1 := md_buildL (N := N) (M := Y) (m := m) hm4 (x1 := mo) (x2 := y) (x3 := nI m) (x4 := nI (3 ^ m)) (x5 := d) (x6 := h) (x7 := nI i) m N (nI i) 0 1 (Y.1 7) (Nat.le_refl _) (by omega)
    rw [mset_self, e57, fB_fB hf] at b1
    have hq1 : mE (mset K 7 (fB m (nI i) (M.1 7))) (mset Y 7 (fB m (nI i) (M.1 7))) := by
      have := e_mset (k := 7) (f := fB m (nI i) (M.1 7)) rfl hq
      rw [mset_mset] at this
      exact this
    have hA1 : mC (mset Y 7 (fB m (nI i) (M.1 7))) = fWay a m i := by
      rw [hq1.1, mC_mset rfl, hA, ← hX, mA hA 7 rfl]
      rfl
    have hI1 : IS (fWay a m i) := fWay_ok hI (by omega)
    obtain ⟨Y1, c1, c2⟩ := md_cost hN hI1 hA1
    have hf2 : ∀ j, m ≤ j → fB m (nI i) (M.1 7) j = M.1 7 j := fun j hj => fB_out hj
    have hg1 : (-1 : Int32) ≤ g := by
      rw [fa_le, toI_m1]
      rcases hc with ⟨_, e⟩ | ⟨_, _, e⟩
      · rw [e, toI_m1]; omega
      · omega
    rw [mf_coin_L77, if_neg (sm_nle (by omega) (by omega)), b1, bs2, c1, bs2, ← nI_succ, fCoin]
    unfold fCoinW
    by_cases hd : mo < fCost (fWay a m i)
    · obtain ⟨Z, f3, h3, z1, z2, z3, z4⟩ := md_coinL hN hA hI hm4 hX (mo := mo) (y := y) k (i + 1) n Y1 _ d g h (hq1.trans c2) hf2 hc (by omega) (by omega)
      refine ⟨Z, f3, h3, ?_, ?_, z3, z4⟩
      · rw [if_pos hd, if_pos hd, if_pos hg1]
        exact z1
      · rw [if_pos hd, if_pos hg1]
        exact z2
    · obtain ⟨Y2, w1, w2⟩ := md_all hN hI1 (c2.1.trans hA1)
      have hW := fAll_iv hI1
      obtain ⟨d2, ed, hd2⟩ := fD_ok (m := m) (w := i) hm4 (by omega)
      have hdn : ¬ fD m (nI i) 0 1 = -1 := by rw [ed]; exact nI_ne_m1 (by omega)
      rw [if_neg hd, if_neg hd, w1, bs2]
      by_cases hd1 : d = -1
      · have hgm : g = -1 := by
          rcases hc with ⟨_, e⟩ | ⟨e, _⟩
          · exact e
          · exact absurd hd1 e
        have hnle : ¬ fAll (fWay a m i) ≤ g := by rw [hgm]; exact not_le_m1 hW
        obtain ⟨Z, f3, h3, z1, z2, z3, z4⟩ := md_coinL hN hA hI hm4 hX (mo := mo) (y := y) k (i + 1) n Y2 _ (fD m (nI i) 0 1) (fAll (fWay a m i)) (fAll (fWay a m i)) ((hq1.trans c2).trans w2) hf2 (.inr ⟨hdn, rfl, hW.1⟩) (by omega) (by omega)
        refine ⟨Z, f3, h3, ?_, ?_, z3, z4⟩
        · rw [if_pos hd1, if_neg hnle]
          exact z1
        · rw [if_neg hnle]
          exact z2
      · have hgh : h = g ∧ 0 ≤ g.toInt := by
          rcases hc with ⟨e, _⟩ | ⟨_, e⟩
          · exact absurd e hd1
          · exact e
        by_cases hle : fAll (fWay a m i) ≤ g
        · obtain ⟨Z, f3, h3, z1, z2, z3, z4⟩ := md_coinL hN hA hI hm4 hX (mo := mo) (y := y) k (i + 1) n Y2 _ d g h ((hq1.trans c2).trans w2) hf2 hc (by omega) (by omega)
          refine ⟨Z, f3, h3, ?_, ?_, z3, z4⟩
          · rw [if_neg hd1, if_pos (show fAll (fWay a m i) ≤ h by rw [hgh.1]; exact hle), if_pos hle]
            exact z1
          · rw [if_pos hle]
            exact z2
        · obtain ⟨Z, f3, h3, z1, z2, z3, z4⟩ := md_coinL hN hA hI hm4 hX (mo := mo) (y := y) k (i + 1) n Y2 _ (fD m (nI i) 0 1) (fAll (fWay a m i)) (fAll (fWay a m i)) ((hq1.trans c2).trans w2) hf2 (.inr ⟨hdn, rfl, hW.1⟩) (by omega) (by omega)
          refine ⟨Z, f3, h3, ?_, ?_, z3, z4⟩
          · rw [if_neg hd1, hgh.1, if_neg hle, if_neg hle]
            exact z1
          · rw [if_neg hle]
            exact z2
theorem st_coin {X : xS} {M : mS} (hN : 2000 ≤ N) (h : Rl X M) (x y : Int32) : ∃ r X1 M1, xf_X_coin N X x y = some (r, X1) ∧ mf_coin N M x y = some (r, M1) ∧ Rl X1 M1 := by
  obtain ⟨h1, h2, h3, h4, h5⟩ := id h
  have h6 := h3.1.2.1
  have e3 : M.1 3 0 = nI (nr (mC M)) := h3.1.1
  have e16 : X.1 16 0 = nI (nr (mC M)) := h1.1.1.trans h3.1.1
  have en : X.2.2.1 = nr (mC M) := h1.1.2.2.2
  unfold xf_X_coin mf_coin
  rw [isIn_in, isIn_in]
  cases hx : mf_in x 0 99999 with
  | false => exact ⟨_, X, M, rfl, rfl, h⟩
  | true =>
    cases hy : mf_in y 0 1 with
    | false => exact ⟨_, X, M, rfl, rfl, h⟩
    | true =>
      obtain ⟨m, hm4, hmn, hm1, hm2⟩ : ∃ m : Nat, m ≤ 4 ∧ m ≤ nr (mC M) ∧ (if (X.1 16 0 : Int32) < 4 then (X.1 16 0 : Int32) else 4) = nI m ∧ (if 4 ≤ M.1 3 0 then 4 else M.1 3 0) = nI m := by
        rw [e16, e3]
        have l1 : nI (nr (mC M)) < (4 : Int32) ↔ nr (mC M) < 4 := sm_lt (m := 4) (by omega) (by omega)
        have l2 : (4 : Int32) ≤ nI (nr (mC M)) ↔ 4 ≤ nr (mC M) := sm_le (n := 4) (by omega) (by omega)
        by_cases hlt : nr (mC M) < 4
        · exact ⟨nr (mC M), by omega, Nat.le_refl _, by rw [if_pos (l1.mpr hlt)], by rw [if_neg (fun hh => by have := l2.mp hh; omega)]⟩
        · exact ⟨4, Nat.le_refl _, by omega, by rw [if_neg (fun hh => hlt (l1.mp hh))]; rfl, by rw [if_pos (l2.mpr (by omega))]; rfl⟩
      have hw1 := px_waysL (N := N) (X := X) (x := x) (y := y) hm4 m 0 N 1 (by omega) (by omega)
      have hw2 := md_waysL (N := N) (M := M) (x := x) (y := y) hm4 m 0 N 1 (by omega) (by omega)
      rw [nI_0, Nat.one_mul, show nI 1 = (1 : Int32) from rfl] at hw1 hw2
      have h81 : 3 ^ m ≤ 3 ^ 4 := Nat.pow_le_pow_right (by omega) hm4
      have k1 := px_keep (N := N) hN e16 en h6
      have hRK : RS (xf X 6 (fill (X.1 57) (X.1 6) (nr (mC M)))) (mC M) := h1.frameL ⟨fun j hj => xf_ne (fun e => by subst e; exact nomatch hj), rfl⟩
      have hKs : xf (xf X 6 (fill (X.1 57) (X.1 6) (nr (mC M)))) 57 (X.1 57) = xf X 6 (fill (X.1 57) (X.1 6) (nr (mC M))) := xf_self (X := xf X 6 (fill (X.1 57) (X.1 6) (nr (mC M)))) (k := 57)
      obtain ⟨Z, f, z1, z2, z3⟩ := px_coinL hN (X := X) (K := xf X 6 (fill (X.1 57) (X.1 6) (nr (mC M)))) h3 hRK hm4 hmn rfl (mo := x) (y := y) (3 ^ m) 0 N _ (X.1 57) (-1) (-1) (by rw [hKs]; exact xQ.refl _) (fun _ _ => rfl) (by omega) (by omega)
      have zn3 : Z.1 16 0 = nI (nr (mC M)) := (congrFun (z2.1 16 rfl) 0).trans e16
      have zn : Z.2.2.1 = nr (mC M) := by rw [z2.2]; exact en
      have k3 := px_layback (N := N) (a := mC M) (X := Z) hN zn3 zn h6
      have m1 := md_keep (N := N) (M := M) hN
      have hKs2 : mset (mset M 51 (fill (M.1 7) (M.1 51) 6)) 7 (M.1 7) = mset M 51 (fill (M.1 7) (M.1 51) 6) := mset_self (M := mset M 51 (fill (M.1 7) (M.1 51) 6)) (k := 7)
      obtain ⟨V, f2, h2', v1, v2, v3, v4⟩ := md_coinL hN (M := M) (K := mset M 51 (fill (M.1 7) (M.1 51) 6)) (mL_mset (by omega)).1 h3 hm4 rfl (mo := x) (y := y) (3 ^ m) 0 N _ (M.1 7) (-1) (-1) 0 (by rw [hKs2]; exact mE.refl _) (fun _ _ => rfl) (.inl ⟨rfl, rfl⟩) (by omega) (by omega)
      have m4 := md_layback (N := N) (M := V) hN
      rw [nI_0] at z1 v1
      have hX := rises_back z2 (fun k hk => z3 k (by omega))
      have hM := rises_backM v3 (fun k hk => v4 k (by omega))
      rw [if_pos rfl, if_pos rfl, if_pos rfl, if_pos rfl, hm1, hm2, hw1, bs1, k1, bs1, z1, bs3, k3, bs1, hw2, bs1, m1, bs1, v1, bs3, m4, bs1]
      rcases v2 with ⟨o1, o2⟩ | ⟨o1, o2, o3⟩
      · rw [o1, o2, if_pos rfl]
        by_cases hy0 : y = 0
        · rw [if_pos hy0]
          exact ⟨_, _, _, rfl, rfl, h.sameL hX hM⟩
        · rw [if_neg hy0]
          exact ⟨_, _, _, rfl, rfl, h.sameL hX hM⟩
      · rw [if_neg o1]
        by_cases hy0 : y = 0
        · rw [if_pos hy0, if_pos hy0]
          exact ⟨_, _, _, rfl, rfl, h.sameL hX hM⟩
        · rw [if_neg hy0, if_neg hy0, o2]
          exact ⟨_, _, _, rfl, rfl, h.sameL hX hM⟩
end A
end PASK7
