section PBASE
/-! pure part: numbers -/
theorem fa_lt (a b : Int32) : a < b ↔ a.toInt < b.toInt := Int32.lt_iff_toInt_lt
theorem fa_le (a b : Int32) : a ≤ b ↔ a.toInt ≤ b.toInt := Int32.le_iff_toInt_le
theorem fa_eq (a b : Int32) : a = b ↔ a.toInt = b.toInt := Int32.toInt_inj.symm
theorem fb_rng (x : Int32) : -2147483648 ≤ x.toInt ∧ x.toInt < 2147483648 := by
  have h1 := Int32.le_toInt x
  have h2 := Int32.toInt_lt x
  omega
theorem fb_bmod {z : Int} (h1 : -2147483648 ≤ z) (h2 : z < 2147483648) : z.bmod (2 ^ 32) = z := by
  rw [Int.bmod_eq_of_le (by omega) (by omega)]
theorem fb_addI {x y : Int32} (h1 : -2147483648 ≤ x.toInt + y.toInt) (h2 : x.toInt + y.toInt < 2147483648) : (x + y).toInt = x.toInt + y.toInt := by
  rw [Int32.toInt_add, fb_bmod h1 h2]
theorem fb_subI {x y : Int32} (h1 : -2147483648 ≤ x.toInt - y.toInt) (h2 : x.toInt - y.toInt < 2147483648) : (x - y).toInt = x.toInt - y.toInt := by
  rw [Int32.toInt_sub, fb_bmod h1 h2]
theorem fb_mulI {x y : Int32} (h1 : -2147483648 ≤ x.toInt * y.toInt) (h2 : x.toInt * y.toInt < 2147483648) : (x * y).toInt = x.toInt * y.toInt := by
  rw [Int32.toInt_mul, fb_bmod h1 h2]
theorem fb_negI {x : Int32} (h : x.toInt ≠ -2147483648) : (-x).toInt = -x.toInt := by
  have := fb_rng x
  rw [Int32.toInt_neg, fb_bmod (by omega) (by omega)]
theorem ok_nI {n m : Nat} (h : n < m) (hm : m < 2147483648) : ok (nI n) m = true := by
  have hn : n < 2 ^ 31 := by omega
  unfold ok
  rw [nI_clamp hn]
  simp only [Bool.and_eq_true, decide_eq_true_eq]
  exact ⟨nI_pos' hn, h⟩
theorem ok_of {x : Int32} {m : Nat} (h0 : 0 ≤ x.toInt) (h : x.toInt < m) (hm : m < 2147483648) : ok x m = true ∧ x.toNatClampNeg < m ∧ x = nI x.toNatClampNeg := by
  have h1 : ¬ x < 0 := by rw [fa_lt]; simpa using h0
  obtain ⟨j, hj, rfl⟩ := nI_of h1
  rw [nI_toInt hj] at h
  have : j < m := by omega
  exact ⟨ok_nI this hm, by rw [nI_clamp hj]; exact this, by rw [nI_clamp hj]⟩
theorem cl_toInt {x : Int32} (h0 : 0 ≤ x.toInt) : (x.toNatClampNeg : Int) = x.toInt := by
  have h1 : ¬ x < 0 := by rw [fa_lt]; simpa using h0
  obtain ⟨j, hj, rfl⟩ := nI_of h1
  rw [nI_toInt hj, nI_clamp hj]
theorem nI_lit (n : Nat) : (OfNat.ofNat n : Int32) = nI n := rfl
theorem toI_0 : (0 : Int32).toInt = 0 := rfl
theorem toI_1 : (1 : Int32).toInt = 1 := rfl
theorem toI_m1 : (-1 : Int32).toInt = -1 := rfl
/-- x is a number of lo .. hi -/
def iv (x : Int32) (lo hi : Int) : Prop := lo ≤ x.toInt ∧ x.toInt ≤ hi
theorem iv_nI {n : Nat} {hi : Int} (h : (n : Int) ≤ hi) (hb : n < 2 ^ 31) : iv (nI n) 0 hi := by
  unfold iv
  rw [nI_toInt hb]
  exact ⟨Int.natCast_nonneg n, h⟩
theorem iv_mono {x : Int32} {lo hi lo2 hi2 : Int} (h : iv x lo hi) (h1 : lo2 ≤ lo) (h2 : hi ≤ hi2) : iv x lo2 hi2 := ⟨Int.le_trans h1 h.1, Int.le_trans h.2 h2⟩
theorem iv_ex {x : Int32} {hi : Nat} (h : iv x 0 hi) : ∃ j : Nat, j ≤ hi ∧ x = nI j ∧ j < 2 ^ 31 := by
  have h1 : ¬ x < 0 := by rw [fa_lt]; simpa using h.1
  obtain ⟨j, hj, rfl⟩ := nI_of h1
  have := h.2
  rw [nI_toInt hj] at this
  exact ⟨j, by omega, rfl, hj⟩
theorem iv_add {x y : Int32} {a b c d : Int} (hx : iv x a b) (hy : iv y c d) (h1 : -2147483648 ≤ a + c) (h2 : b + d < 2147483648) : iv (x + y) (a + c) (b + d) ∧ (x + y).toInt = x.toInt + y.toInt := by
  obtain ⟨p1, p2⟩ := hx
  obtain ⟨q1, q2⟩ := hy
  have := fb_addI (x := x) (y := y) (by omega) (by omega)
  exact ⟨⟨by omega, by omega⟩, this⟩
theorem iv_sub {x y : Int32} {a b c d : Int} (hx : iv x a b) (hy : iv y c d) (h1 : -2147483648 ≤ a - d) (h2 : b - c < 2147483648) : iv (x - y) (a - d) (b - c) ∧ (x - y).toInt = x.toInt - y.toInt := by
  obtain ⟨p1, p2⟩ := hx
  obtain ⟨q1, q2⟩ := hy
  have := fb_subI (x := x) (y := y) (by omega) (by omega)
  exact ⟨⟨by omega, by omega⟩, this⟩
theorem abs_mul_le {x y b d : Int} (h1 : -b ≤ x) (h2 : x ≤ b) (h3 : -d ≤ y) (h4 : y ≤ d) : -(b * d) ≤ x * y ∧ x * y ≤ b * d := by
  have hb : 0 ≤ b := by omega
  have hd : 0 ≤ d := by omega
  have e1 : (x * y).natAbs ≤ (b * d).natAbs := by
    rw [Int.natAbs_mul, Int.natAbs_mul]
    exact Nat.mul_le_mul (by omega) (by omega)
  have e2 : 0 ≤ b * d := Int.mul_nonneg hb hd
  omega
theorem iv_mul {x y : Int32} {b d : Int} (hx : iv x (-b) b) (hy : iv y (-d) d) (h : b * d < 2147483648) : iv (x * y) (-(b * d)) (b * d) ∧ (x * y).toInt = x.toInt * y.toInt := by
  have := abs_mul_le hx.1 hx.2 hy.1 hy.2
  have e := fb_mulI (x := x) (y := y) (by omega) (by omega)
  exact ⟨⟨by omega, by omega⟩, e⟩
/-! a first one; sums as the loops make them -/
def fFirst (P : Nat → Bool) : Nat → Nat → Option Nat
  | 0, _ => none
  | k + 1, i => if P i then some i else fFirst P k (i + 1)
def fSum (f : Nat → Int32) : Nat → Nat → Int32 → Int32
  | 0, _, v => v
  | k + 1, i, v => fSum f k (i + 1) (v + f i)
theorem fFirst_cong {P Q : Nat → Bool} : ∀ {k i : Nat}, (∀ j, i ≤ j → j < i + k → P j = Q j) → fFirst P k i = fFirst Q k i
  | 0, _, _ => rfl
  | k + 1, i, h => by
    rw [fFirst, fFirst, h i (Nat.le_refl _) (by omega), fFirst_cong (k := k) (i := i + 1) fun j h1 h2 => h j (by omega) (by omega)]
theorem fFirst_none {P : Nat → Bool} : ∀ {k i : Nat}, (∀ j, i ≤ j → j < i + k → P j = false) → fFirst P k i = none
  | 0, _, _ => rfl
  | k + 1, i, h => by
    rw [fFirst, h i (Nat.le_refl _) (by omega)]
    exact fFirst_none (k := k) (i := i + 1) fun j h1 h2 => h j (by omega) (by omega)
theorem fFirst_some {P : Nat → Bool} : ∀ {k i e : Nat}, fFirst P k i = some e → i ≤ e ∧ e < i + k ∧ P e = true
  | 0, _, _, h => nomatch h
  | k + 1, i, e, h => by
    rw [fFirst] at h
    split at h
    · rename_i hp
      cases h
      exact ⟨Nat.le_refl _, by omega, hp⟩
    · have := fFirst_some (k := k) (i := i + 1) h
      exact ⟨by omega, by omega, this.2.2⟩
theorem fFirst_no {P : Nat → Bool} : ∀ {k i : Nat}, fFirst P k i = none → ∀ j, i ≤ j → j < i + k → P j = false
  | 0, _, _, j, h1, h2 => by omega
  | k + 1, i, h, j, h1, h2 => by
    rw [fFirst] at h
    split at h
    · exact nomatch h
    · rename_i hp
      by_cases hj : j = i
      · subst hj; simpa using hp
      · exact fFirst_no (k := k) (i := i + 1) h j (by omega) (by omega)
theorem fSum_cong {f g : Nat → Int32} : ∀ {k i : Nat} {v : Int32}, (∀ j, i ≤ j → j < i + k → f j = g j) → fSum f k i v = fSum g k i v
  | 0, _, _, _ => rfl
  | k + 1, i, v, h => by
    rw [fSum, fSum, h i (Nat.le_refl _) (by omega)]
    exact fSum_cong (k := k) (i := i + 1) fun j h1 h2 => h j (by omega) (by omega)
theorem fSum_iv {f : Nat → Int32} {b : Int} (hb : 0 ≤ b) : ∀ {k i : Nat} {v : Int32} {B : Int}, (∀ j, i ≤ j → j < i + k → iv (f j) 0 b) → iv v 0 B → B + k * b < 2147483648 → iv (fSum f k i v) 0 (B + k * b)
  | 0, i, v, B, _, hv, _ => by
    simpa [fSum] using hv
  | k + 1, i, v, B, h, hv, hB => by
    rw [fSum]
    have e : B + ((k + 1 : Nat) : Int) * b = B + b + k * b := by
      rw [Int.natCast_add, Int.add_mul]
      omega
    have hk : 0 ≤ (k : Int) * b := Int.mul_nonneg (Int.natCast_nonneg k) hb
    rw [e] at hB ⊢
    have hB0 : 0 ≤ B := Int.le_trans hv.1 hv.2
    have h1 := (iv_add hv (h i (Nat.le_refl _) (by omega)) (by omega) (by omega)).1
    exact fSum_iv hb (k := k) (i := i + 1) (fun j h1 h2 => h j (by omega) (by omega)) h1 (by omega)
/-! the numbers that last, of the reference -/
abbrev aS : Type := Nat → Nat → Int32
def mC (M : mS) : aS := fun k => bif Nat.blt k 40 then M.1 k else fun _ => 0
theorem mC_0 (M : mS) : mC M 0 = M.1 0 := rfl
theorem mC_1 (M : mS) : mC M 1 = M.1 1 := rfl
theorem mC_2 (M : mS) : mC M 2 = M.1 2 := rfl
theorem mC_3 (M : mS) : mC M 3 = M.1 3 := rfl
theorem mC_4 (M : mS) : mC M 4 = M.1 4 := rfl
theorem mC_5 (M : mS) : mC M 5 = M.1 5 := rfl
theorem mC_6 (M : mS) : mC M 6 = M.1 6 := rfl
theorem mC_7 (M : mS) : mC M 7 = M.1 7 := rfl
theorem mC_8 (M : mS) : mC M 8 = M.1 8 := rfl
theorem mC_9 (M : mS) : mC M 9 = M.1 9 := rfl
theorem mC_10 (M : mS) : mC M 10 = M.1 10 := rfl
theorem mC_11 (M : mS) : mC M 11 = M.1 11 := rfl
theorem mC_12 (M : mS) : mC M 12 = M.1 12 := rfl
theorem mC_13 (M : mS) : mC M 13 = M.1 13 := rfl
theorem mC_14 (M : mS) : mC M 14 = M.1 14 := rfl
theorem mC_15 (M : mS) : mC M 15 = M.1 15 := rfl
theorem mC_16 (M : mS) : mC M 16 = M.1 16 := rfl
theorem mC_17 (M : mS) : mC M 17 = M.1 17 := rfl
theorem mC_18 (M : mS) : mC M 18 = M.1 18 := rfl
theorem mC_19 (M : mS) : mC M 19 = M.1 19 := rfl
theorem mC_20 (M : mS) : mC M 20 = M.1 20 := rfl
theorem mC_21 (M : mS) : mC M 21 = M.1 21 := rfl
theorem mC_22 (M : mS) : mC M 22 = M.1 22 := rfl
theorem mC_23 (M : mS) : mC M 23 = M.1 23 := rfl
theorem mC_24 (M : mS) : mC M 24 = M.1 24 := rfl
theorem mC_25 (M : mS) : mC M 25 = M.1 25 := rfl
theorem mC_26 (M : mS) : mC M 26 = M.1 26 := rfl
theorem mC_27 (M : mS) : mC M 27 = M.1 27 := rfl
theorem mC_28 (M : mS) : mC M 28 = M.1 28 := rfl
theorem mC_29 (M : mS) : mC M 29 = M.1 29 := rfl
theorem mC_30 (M : mS) : mC M 30 = M.1 30 := rfl
theorem mC_31 (M : mS) : mC M 31 = M.1 31 := rfl
theorem mC_32 (M : mS) : mC M 32 = M.1 32 := rfl
theorem mC_33 (M : mS) : mC M 33 = M.1 33 := rfl
theorem mC_34 (M : mS) : mC M 34 = M.1 34 := rfl
theorem mC_35 (M : mS) : mC M 35 = M.1 35 := rfl
theorem mC_36 (M : mS) : mC M 36 = M.1 36 := rfl
theorem mC_37 (M : mS) : mC M 37 = M.1 37 := rfl
theorem mC_38 (M : mS) : mC M 38 = M.1 38 := rfl
theorem mC_39 (M : mS) : mC M 39 = M.1 39 := rfl
def mE (M M1 : mS) : Prop := mC M1 = mC M ∧ M1.2 44 = M.2 44 ∧ ∀ k, 51 ≤ k → k ≠ 52 → M1.1 k = M.1 k
theorem mE.refl (M : mS) : mE M M := ⟨rfl, rfl, fun _ _ _ => rfl⟩
theorem mE.trans {M M1 M2 : mS} (h : mE M M1) (h2 : mE M1 M2) : mE M M2 := ⟨h2.1.trans h.1, h2.2.1.trans h.2.1, fun k h3 h4 => (h2.2.2 k h3 h4).trans (h.2.2 k h3 h4)⟩
/-- the same, but for all that is kept for a while -/
def mL (M M1 : mS) : Prop := mC M1 = mC M ∧ M1.2 44 = M.2 44
theorem mE.l {M M1 : mS} (h : mE M M1) : mL M M1 := ⟨h.1, h.2.1⟩
theorem mC_ms {M : mS} {k i : Nat} {x : Int32} (h : 40 ≤ k) : mC (ms M k i x) = mC M := by
  funext j
  unfold mC ms
  cases hj : Nat.blt j 40 with
  | false => rfl
  | true =>
    have h1 : j < 40 := by simpa [Nat.blt_eq] using hj
    have h2 : Nat.beq j k = false := by
      cases hb : Nat.beq j k with
      | false => rfl
      | true => have := Nat.eq_of_beq_eq_true hb; omega
    simp only [h2, cond_true, cond_false]
theorem beqF {j k : Nat} (h : j ≠ k) : Nat.beq j k = false := by
  cases hb : Nat.beq j k with
  | false => rfl
  | true => exact absurd (Nat.eq_of_beq_eq_true hb) h
theorem ms_ne {S : mS} {j k i : Nat} {x : Int32} (h : j ≠ k) : (ms S k i x).1 j = S.1 j := by
  unfold ms
  show (bif Nat.beq j k then _ else _) = _
  rw [beqF h]
  rfl
theorem mE.ms {M M1 : mS} {k i : Nat} {x : Int32} (h : mE M M1) (hk : (40 ≤ k ∧ k ≤ 50) ∨ k = 52) : mE M (ms M1 k i x) := ⟨(mC_ms (by omega)).trans h.1, h.2.1, fun j h1 h2 => (ms_ne (by omega)).trans (h.2.2 j h1 h2)⟩
theorem mE.mt {M M1 : mS} {k i : Nat} {x : Int64} (h : mE M M1) (hk : Nat.beq 44 k = false) : mE M (mt M1 k i x) := by
  refine ⟨h.1, Eq.trans ?_ h.2.1, h.2.2⟩
  show (bif Nat.beq 44 k then vp_updL (M1.2 44) i x else M1.2 44) = M1.2 44
  rw [hk]
  rfl
/-- a number that lasts, changed -/
def aw (a : aS) (k i : Nat) (x : Int32) : aS := fun j => bif Nat.beq j k then upd (a j) i x else a j
theorem ms_same {S : mS} {k i : Nat} {x : Int32} : (ms S k i x).1 k = upd (S.1 k) i x := by
  unfold ms
  show (bif Nat.beq k k then _ else _) = _
  rw [Nat.beq_refl]
  rfl
theorem mC_aw {M : mS} {k i : Nat} {x : Int32} (h : Nat.blt k 40 = true) : mC (ms M k i x) = aw (mC M) k i x := by
  funext j
  unfold mC aw
  by_cases hj : j = k
  · subst hj
    simp only [ms_same, h, Nat.beq_refl, cond_true]
  · simp only [ms_ne hj, beqF hj, cond_false]
theorem aw_same {a : aS} {k i : Nat} {x : Int32} : aw a k i x k = upd (a k) i x := by
  unfold aw
  rw [Nat.beq_refl]
  rfl
theorem aw_ne {a : aS} {j k i : Nat} {x : Int32} (h : Nat.beq j k = false) : aw a k i x j = a j := by
  unfold aw
  rw [h]
  rfl
theorem upd_at (f : Nat → Int32) (k : Nat) (x : Int32) (j : Nat) : upd f k x j = if j = k then x else f j := by
  by_cases h : j = k
  · subst h; rw [pk_us, if_pos rfl]
  · rw [pk_un h, if_neg h]
/-! the class's cells that last -/
def xcore (k : Nat) : Bool := !(Nat.beq k 25 || (Nat.ble 38 k && Nat.ble k 53) || (Nat.ble 83 k && Nat.beq (k % 4) 3))
/-- the same, but for what is kept for a while -/
def xcoreL (k : Nat) : Bool := xcore k && (!Nat.beq k 6 && !Nat.beq k 7)
def xQ (X X1 : xS) : Prop := (∀ k, xcore k = true → X1.1 k = X.1 k) ∧ X1.2.2 = X.2.2
def xL (X X1 : xS) : Prop := (∀ k, xcoreL k = true → X1.1 k = X.1 k) ∧ X1.2.2 = X.2.2
theorem xcoreL_core {k : Nat} (h : xcoreL k = true) : xcore k = true := by
  unfold xcoreL at h
  cases hc : xcore k with
  | true => rfl
  | false => rw [hc] at h; exact nomatch h
theorem xQ.l {X X1 : xS} (h : xQ X X1) : xL X X1 := ⟨fun k hk => h.1 k (xcoreL_core hk), h.2⟩
theorem xQ.refl (X : xS) : xQ X X := ⟨fun _ _ => rfl, rfl⟩
theorem xQ.trans {X X1 X2 : xS} (h : xQ X X1) (h2 : xQ X1 X2) : xQ X X2 := ⟨fun k hk => (h2.1 k hk).trans (h.1 k hk), h2.2.trans h.2⟩
theorem xs_same {S : xS} {k i : Nat} {x : Int32} : (xs S k i x).1 k = upd (S.1 k) i x := by
  unfold xs
  show (bif Nat.beq k k then _ else _) = _
  rw [Nat.beq_refl]
  rfl
theorem xs_ne {S : xS} {j k i : Nat} {x : Int32} (h : j ≠ k) : (xs S k i x).1 j = S.1 j := by
  have : Nat.beq j k = false := by
    cases hb : Nat.beq j k with
    | false => rfl
    | true => exact absurd (Nat.eq_of_beq_eq_true hb) h
  unfold xs
  show (bif Nat.beq j k then _ else _) = _
  rw [this]
  rfl
theorem xQ.xs {X X1 : xS} {k i : Nat} {x : Int32} (h : xQ X X1) (hk : xcore k = false) : xQ X (xs X1 k i x) := by
  refine ⟨fun j hj => ?_, h.2⟩
  refine Eq.trans (xs_ne ?_) (h.1 j hj)
  intro e
  subst e
  rw [hk] at hj
  exact nomatch hj
theorem xQ.xt {X X1 : xS} {k i : Nat} {x : Int64} (h : xQ X X1) : xQ X (xt X1 k i x) := h
theorem xcore_row (r : Nat) : xcore (80 + 4 * r) = true := by
  unfold xcore
  have h1 : Nat.beq ((80 + 4 * r) % 4) 3 = false := by
    have : (80 + 4 * r) % 4 = 0 := by omega
    rw [this]; rfl
  have h2 : Nat.ble (80 + 4 * r) 53 = false := by
    cases hb : Nat.ble (80 + 4 * r) 53 with
    | false => rfl
    | true => have := Nat.le_of_ble_eq_true hb; omega
  have h3 : ∀ m, m < 80 → Nat.beq (80 + 4 * r) m = false := by
    intro m hm
    cases hb : Nat.beq (80 + 4 * r) m with
    | false => rfl
    | true => have := Nat.eq_of_beq_eq_true hb; omega
  rw [h1, h2, h3 25 (by omega)]
  simp
theorem xcore_steps (t : Nat) : xcore (81 + 4 * t) = true := by
  unfold xcore
  have h1 : Nat.beq ((81 + 4 * t) % 4) 3 = false := by
    have : (81 + 4 * t) % 4 = 1 := by omega
    rw [this]; rfl
  have h2 : Nat.ble (81 + 4 * t) 53 = false := by
    cases hb : Nat.ble (81 + 4 * t) 53 with
    | false => rfl
    | true => have := Nat.le_of_ble_eq_true hb; omega
  have h3 : ∀ m, m < 80 → Nat.beq (81 + 4 * t) m = false := by
    intro m hm
    cases hb : Nat.beq (81 + 4 * t) m with
    | false => rfl
    | true => have := Nat.eq_of_beq_eq_true hb; omega
  rw [h1, h2, h3 25 (by omega)]
  simp
theorem xcore_ends (t : Nat) : xcore (82 + 4 * t) = true := by
  unfold xcore
  have h1 : Nat.beq ((82 + 4 * t) % 4) 3 = false := by
    have : (82 + 4 * t) % 4 = 2 := by omega
    rw [this]; rfl
  have h2 : Nat.ble (82 + 4 * t) 53 = false := by
    cases hb : Nat.ble (82 + 4 * t) 53 with
    | false => rfl
    | true => have := Nat.le_of_ble_eq_true hb; omega
  have h3 : ∀ m, m < 80 → Nat.beq (82 + 4 * t) m = false := by
    intro m hm
    cases hb : Nat.beq (82 + 4 * t) m with
    | false => rfl
    | true => have := Nat.eq_of_beq_eq_true hb; omega
  rw [h1, h2, h3 25 (by omega)]
  simp
theorem xcoreL_row (r : Nat) : xcoreL (80 + 4 * r) = true := by
  unfold xcoreL
  rw [xcore_row, beqF (show 80 + 4 * r ≠ 6 by omega), beqF (show 80 + 4 * r ≠ 7 by omega)]
  rfl
theorem xcoreL_steps (t : Nat) : xcoreL (81 + 4 * t) = true := by
  unfold xcoreL
  rw [xcore_steps, beqF (show 81 + 4 * t ≠ 6 by omega), beqF (show 81 + 4 * t ≠ 7 by omega)]
  rfl
theorem xcoreL_ends (t : Nat) : xcoreL (82 + 4 * t) = true := by
  unfold xcoreL
  rw [xcore_ends, beqF (show 82 + 4 * t ≠ 6 by omega), beqF (show 82 + 4 * t ≠ 7 by omega)]
  rfl
theorem xcore_pile (t : Nat) : xcore (83 + 4 * t) = false := by
  unfold xcore
  have h1 : (83 + 4 * t) % 4 = 3 := by omega
  have h2 : Nat.ble 83 (83 + 4 * t) = true := Nat.ble_eq_true_of_le (by omega)
  rw [h1, h2]
  simp
end PBASE
