section PSET3
section A
variable {N : Nat} {X : xS} {M : mS}
/-! copy -/
theorem md_copyL {n a0 b0 : Nat} (hn : n ≤ 60) (ha : a0 + n ≤ 240) (hb : b0 + n ≤ 240) (f : Nat → Int32) : ∀ (k i n2 : Nat) (Y : mS), i + k = n → k < n2 → (∀ t, Y.1 39 t = if (if b0 ≤ a0 then b0 ≤ t ∧ t < b0 + i else b0 + (n - i) ≤ t ∧ t < b0 + n) then f (a0 + (t - b0)) else f t) → ∃ Z, mf_copy_L147 N (nI n) (nI a0) (nI b0) n2 Y (nI i) = some Z ∧ Z.2 = Y.2 ∧ (∀ j, j ≠ 39 → Z.1 j = Y.1 j) ∧ ∀ t, Z.1 39 t = if b0 ≤ t ∧ t < b0 + n then f (a0 + (t - b0)) else f t
  | 0, i, n2 + 1, Y, hk, _, hY => by
    have hi : i = n := by omega
    subst hi
    refine ⟨Y, ?_, rfl, fun _ _ => rfl, fun t => ?_⟩
    · rw [mf_copy_L147, if_pos (sm_len (Nat.le_refl _) (by omega))]
    · rw [hY t]
      by_cases hab : b0 ≤ a0
      · simp only [if_pos hab]
      · simp only [if_neg hab]
        by_cases h1 : b0 ≤ t ∧ t < b0 + i
        · rw [if_pos h1, if_pos (by omega)]
        · rw [if_neg h1, if_neg (by omega)]
  | k + 1, i, n2 + 1, Y, hk, hn2, hY => by
    have hle : nI b0 ≤ nI a0 ↔ b0 ≤ a0 := sm_le (by omega) (by omega)
    rw [mf_copy_L147, if_neg (sm_nle (by omega) (by omega))]
    by_cases hab : b0 ≤ a0
    · simp only [if_pos (hle.mpr hab), nI_add]
      rw [if_pos (sm_ok (show a0 + i < 240 by omega) (by omega)), if_pos (sm_ok (show b0 + i < 240 by omega) (by omega)), sm_clamp (show a0 + i < 100000000 by omega), sm_clamp (show b0 + i < 100000000 by omega), ← nI_succ]
      obtain ⟨Z, z1, z2, z3, z4⟩ := md_copyL hn ha hb f k (i + 1) n2 (ms Y 39 (b0 + i) (Y.1 39 (a0 + i))) (by omega) (by omega) (fun t => by
        rw [ms_same, upd_at, hY (a0 + i), hY t]
        simp only [if_pos hab]
        by_cases e : t = b0 + i
        · subst e
          rw [if_pos rfl, if_neg (by omega), if_pos (by omega), show a0 + (b0 + i - b0) = a0 + i by omega]
        · rw [if_neg e]
          by_cases h2 : b0 ≤ t ∧ t < b0 + i
          · rw [if_pos h2, if_pos (by omega)]
          · rw [if_neg h2, if_neg (by omega)])
      exact ⟨Z, z1, z2, fun j hj => by rw [z3 j hj, ms_ne hj], z4⟩
    · have e1 : (nI n - 1) - nI i = nI (n - 1 - i) := by
        rw [show (1 : Int32) = nI 1 from rfl, pk_sub (by omega), pk_sub (by omega)]
      simp only [if_neg (fun hh => hab (hle.mp hh)), e1, nI_add]
      rw [if_pos (sm_ok (show a0 + (n - 1 - i) < 240 by omega) (by omega)), if_pos (sm_ok (show b0 + (n - 1 - i) < 240 by omega) (by omega)), sm_clamp (show a0 + (n - 1 - i) < 100000000 by omega), sm_clamp (show b0 + (n - 1 - i) < 100000000 by omega), ← nI_succ]
      obtain ⟨Z, z1, z2, z3, z4⟩ := md_copyL hn ha hb f k (i + 1) n2 (ms Y 39 (b0 + (n - 1 - i)) (Y.1 39 (a0 + (n - 1 - i)))) (by omega) (by omega) (fun t => by
        rw [ms_same, upd_at, hY (a0 + (n - 1 - i)), hY t]
        simp only [if_neg hab]
        by_cases e : t = b0 + (n - 1 - i)
        · subst e
          rw [if_pos rfl, if_neg (by omega), if_pos (by omega), show a0 + (b0 + (n - 1 - i) - b0) = a0 + (n - 1 - i) by omega]
        · rw [if_neg e]
          by_cases h2 : b0 + (n - i) ≤ t ∧ t < b0 + n
          · rw [if_pos h2, if_pos (by omega)]
          · rw [if_neg h2, if_neg (by omega)])
      exact ⟨Z, z1, z2, fun j hj => by rw [z3 j hj, ms_ne hj], z4⟩
theorem st_copy (hN : 2000 ≤ N) (h : Rl X M) (x y z w v : Int32) : ∃ r X1 M1, xf_X_copy N X x y z w v = some (r, X1) ∧ mf_copy N M x y z w v = some (r, M1) ∧ Rl X1 M1 := by
  have hr1 := sheet_cases h x
  have hr2 := sheet_cases h z
  obtain ⟨h1, h2, h3, h4, h5⟩ := id h
  unfold xf_X_copy mf_copy
  rw [isIn_in, isIn_in]
  rcases hr1 with ⟨s, hs, rfl, c1, c2, c3⟩ | c1
  · rcases hr2 with ⟨o, ho, rfl, d1, d2, d3⟩ | d1
    · have c2' : X.1 4 s = M.1 37 s := c2
      have d2' : X.1 4 o = M.1 37 o := d2
      rw [c1, d1]
      simp only [if_true, if_pos (sm_ok hs (show 4 < 100000000 by omega)), if_pos (sm_ok ho (show 4 < 100000000 by omega)), sm_clamp (show s < 100000000 by omega), sm_clamp (show o < 100000000 by omega), c2', d2']
      by_cases e1 : M.1 37 s = -1
      · rw [if_pos e1, if_pos e1]
        exact ⟨_, X, M, rfl, rfl, h⟩
      rw [if_neg e1, if_neg e1]
      by_cases e2 : M.1 37 o = -1
      · rw [if_pos e2, if_pos e2]
        exact ⟨_, X, M, rfl, rfl, h⟩
      rw [if_neg e2, if_neg e2]
      by_cases e3 : M.1 37 s = M.1 37 o
      · rw [if_pos e3, if_pos e3]
        have S1 := (h2.2.2.2 s hs).2 e1
        have O1 := (h2.2.2.2 o ho).2 e2
        obtain ⟨s3, s4⟩ := (h4.2.2.2.2.2.1 s hs).2 e1
        obtain ⟨o3, o4⟩ := (h4.2.2.2.2.2.1 o ho).2 e2
        have s38 : M.1 38 s = nI (ss (mC M) s) := s3
        have o38 : M.1 38 o = nI (ss (mC M) o) := o3
        have s5 : X.1 5 s = nI (ss (mC M) s) := S1.1.trans s3
        have o5 : X.1 5 o = nI (ss (mC M) o) := O1.1.trans o3
        rw [s38, o38, s5, o5]
        by_cases f1 : v < 0
        · rw [if_pos f1, if_pos f1]
          exact ⟨_, X, M, rfl, rfl, h⟩
        rw [if_neg f1, if_neg f1]
        by_cases f2 : y < 0
        · rw [if_pos f2, if_pos f2]
          exact ⟨_, X, M, rfl, rfl, h⟩
        rw [if_neg f2, if_neg f2]
        by_cases f3 : w < 0
        · rw [if_pos f3, if_pos f3]
          exact ⟨_, X, M, rfl, rfl, h⟩
        rw [if_neg f3, if_neg f3]
        rw [fa_lt, toI_0] at f1 f2 f3
        have rv := fb_rng v
        have ry := fb_rng y
        have rw' := fb_rng w
        have ts : (nI (ss (mC M) s)).toInt = ss (mC M) s := nI_toInt (by omega)
        have to : (nI (ss (mC M) o)).toInt = ss (mC M) o := nI_toInt (by omega)
        have a1 : (nI (ss (mC M) s) - v).toInt = (ss (mC M) s : Int) - v.toInt := by rw [fb_subI (by omega) (by omega), ts]
        have a2 : (nI (ss (mC M) o) - v).toInt = (ss (mC M) o : Int) - v.toInt := by rw [fb_subI (by omega) (by omega), to]
        have a3 : (nI (ss (mC M) s) - y).toInt = (ss (mC M) s : Int) - y.toInt := by rw [fb_subI (by omega) (by omega), ts]
        have a4 : (nI (ss (mC M) o) - w).toInt = (ss (mC M) o : Int) - w.toInt := by rw [fb_subI (by omega) (by omega), to]
        by_cases hok : y.toInt + v.toInt ≤ (ss (mC M) s : Int) ∧ w.toInt + v.toInt ≤ (ss (mC M) o : Int)
        · have b1 : ¬ (nI (ss (mC M) s) - v) < y := by rw [fa_lt, a1]; omega
          have b2 : w ≤ (nI (ss (mC M) o) - v) := by rw [fa_le, a2]; omega
          have b3 : ¬ nI (ss (mC M) s) < y := by rw [fa_lt, ts]; omega
          have b4 : ¬ nI (ss (mC M) o) < w := by rw [fa_lt, to]; omega
          have b5 : ¬ (nI (ss (mC M) s) - y) < v := by rw [fa_lt, a3]; omega
          have b6 : v ≤ (nI (ss (mC M) o) - w) := by rw [fa_le, a4]; omega
          obtain ⟨n, hn, rfl⟩ := nI_of (x := v) (by rw [fa_lt, toI_0]; exact f1)
          obtain ⟨i, hi, rfl⟩ := nI_of (x := y) (by rw [fa_lt, toI_0]; exact f2)
          obtain ⟨j, hj, rfl⟩ := nI_of (x := w) (by rw [fa_lt, toI_0]; exact f3)
          rw [nI_toInt hn, nI_toInt hi, nI_toInt hj] at hok
          have hsn : i + n ≤ ss (mC M) s := by omega
          have hon : j + n ≤ ss (mC M) o := by omega
          have hcp : cpok (nI i) (nI j) (nI n) 60 60 = true := by
            unfold cpok
            rw [sm_clamp (show i < 100000000 by omega), sm_clamp (show j < 100000000 by omega), sm_clamp (show n < 100000000 by omega), decide_eq_true (nI_pos (by omega)), decide_eq_true (nI_pos (by omega)), decide_eq_true (nI_pos (by omega)), decide_eq_true (show i + n ≤ 60 by omega), decide_eq_true (show j + n ≤ 60 by omega)]
            rfl
          obtain ⟨Z, z1, z2, z3, z4⟩ := md_copyL (N := N) (n := n) (a0 := 60 * s + i) (b0 := 60 * o + j) (by omega) (by omega) (by omega) (M.1 39) n 0 N M (by omega) (by omega) (fun t => by
            by_cases hab : 60 * o + j ≤ 60 * s + i
            · simp only [if_pos hab]
              rw [if_neg (by omega)]
            · simp only [if_neg hab]
              rw [if_neg (by omega)])
          rw [nI_0] at z1
          rw [if_neg b1, if_pos b2, if_pos hcp, if_neg b3, if_neg b4, if_neg b5, if_pos b6, ix60, ix60, z1, bs1, sm_clamp (show i < 100000000 by omega), sm_clamp (show j < 100000000 by omega), sm_clamp (show n < 100000000 by omega)]
          have e37 : mC Z 37 = mC M 37 := z3 37 (by omega)
          have e38 : mC Z 38 = mC M 38 := z3 38 (by omega)
          have ess : ∀ q, ss (mC Z) q = ss (mC M) q := fun q => by unfold ss; rw [e38]
          refine ⟨_, _, Z, rfl, rfl, h.sheets (fun q hq => xf_ne (by omega)) rfl (fun q g1 g2 g3 => z3 q g3) z2 (fun q hq => ?_) (h4.2.2.2.2.2.1.cg e37 e38)⟩
          have hold := h2.2.2.2 q hq
          rw [xf_ne (show 4 ≠ 70 + o by omega), xf_ne (show 5 ≠ 70 + o by omega), e37, e38, ess]
          refine ⟨hold.1, fun hh => ?_⟩
          obtain ⟨p1, p2⟩ := hold.2 hh
          refine ⟨p1, fun t ht => ?_⟩
          have h60 := (h4.2.2.2.2.2.1 q hq).2 hh
          have hz : mC Z 39 (60 * q + t) = if 60 * o + j ≤ 60 * q + t ∧ 60 * q + t < 60 * o + j + n then M.1 39 (60 * s + i + (60 * q + t - (60 * o + j))) else M.1 39 (60 * q + t) := z4 _
          rw [hz]
          by_cases e : q = o
          · subst e
            rw [xf_same]
            by_cases h7 : j ≤ t ∧ t < j + n
            · rw [pk_cpy_in h7.1 h7.2, if_pos (by omega), show 60 * s + i + (60 * q + t - (60 * q + j)) = 60 * s + (i + (t - j)) by omega]
              exact S1.2 _ (by omega)
            · rw [pk_cpy_out (by omega), if_neg (by omega)]
              exact p2 t ht
          · rw [xf_ne (by omega), if_neg (by omega)]
            exact p2 t ht
        · have hx : (if (nI (ss (mC M) s) - v) < y then some ((-12 : Int32), X) else (if w ≤ (nI (ss (mC M) o) - v) then (if cpok y w v 60 60 = true then some (v, xf X (70 + o) (va_cpy (X.1 (70 + s)) (X.1 (70 + o)) y.toNatClampNeg w.toNatClampNeg v.toNatClampNeg)) else none) else some (-12, X))) = some (-12, X) := by
            by_cases b1 : (nI (ss (mC M) s) - v) < y
            · rw [if_pos b1]
            · rw [if_neg b1, if_neg]
              rw [fa_lt, a1] at b1
              rw [fa_le, a2]
              omega
          have hm : ∀ q : Option (Int32 × mS), (if nI (ss (mC M) s) < y then some ((-12 : Int32), M) else (if nI (ss (mC M) o) < w then some (-12, M) else (if (nI (ss (mC M) s) - y) < v then some (-12, M) else (if v ≤ (nI (ss (mC M) o) - w) then q else some (-12, M))))) = some (-12, M) := fun q => by
            by_cases b3 : nI (ss (mC M) s) < y
            · rw [if_pos b3]
            rw [if_neg b3]
            by_cases b4 : nI (ss (mC M) o) < w
            · rw [if_pos b4]
            rw [if_neg b4]
            by_cases b5 : (nI (ss (mC M) s) - y) < v
            · rw [if_pos b5]
            rw [if_neg b5, if_neg]
            rw [fa_lt, a3] at b5
            rw [fa_le, a4]
            omega
          rw [hx, hm]
          exact ⟨_, X, M, rfl, rfl, h⟩
      · rw [if_neg e3, if_neg e3]
        exact ⟨_, X, M, rfl, rfl, h⟩
    · rw [c1, d1]
      exact ⟨_, X, M, rfl, rfl, h⟩
  · rw [c1]
    exact ⟨_, X, M, rfl, rfl, h⟩
/-! images -/
theorem cpok_nI {s d n A B : Nat} (h1 : s + n ≤ A) (h2 : d + n ≤ B) (h3 : s < 100000000) (h4 : d < 100000000) (h5 : n < 100000000) : cpok (nI s) (nI d) (nI n) A B = true := by
  unfold cpok
  rw [sm_clamp h3, sm_clamp h4, sm_clamp h5, decide_eq_true (nI_pos (by omega)), decide_eq_true (nI_pos (by omega)), decide_eq_true (nI_pos (by omega)), decide_eq_true h1, decide_eq_true h2]
  rfl
def kS (S : xS) (w : Int32) : xS := xs (xs (xs (xs S 26 0 1) 27 0 w) 28 0 (S.1 16 0)) 29 0 (S.1 18 0)
def kF (S : xS) : xS := xf (xf (xf (xf (xf S 32 (va_cpy (S.1 8) (S.1 32) ((0 : Int32).toNatClampNeg) ((0 : Int32).toNatClampNeg) ((4 : Int32).toNatClampNeg))) 33 (va_cpy (S.1 9) (S.1 33) ((0 : Int32).toNatClampNeg) ((0 : Int32).toNatClampNeg) ((4 : Int32).toNatClampNeg))) 34 (va_cpy (S.1 10) (S.1 34) ((0 : Int32).toNatClampNeg) ((0 : Int32).toNatClampNeg) ((4 : Int32).toNatClampNeg))) 35 (va_cpy (S.1 14) (S.1 35) ((0 : Int32).toNatClampNeg) ((0 : Int32).toNatClampNeg) ((S.1 29 0).toNatClampNeg))) 36 (va_cpy (S.1 15) (S.1 36) ((0 : Int32).toNatClampNeg) ((0 : Int32).toNatClampNeg) ((S.1 29 0).toNatClampNeg))
theorem keep_eq (N : Nat) (S : xS) (w : Int32) : xf_I_keep N S w = bd1 (xf_H_allShifts N (kS S w)) fun v1 => bd1 (xf_I_keep_L36 N N (xs (kS S w) 37 0 v1) 0) fun S7 => (if cpok 0 0 4 4 4 = true then (if cpok 0 0 4 4 4 = true then (if cpok 0 0 4 4 4 = true then (if cpok 0 0 (S7.1 29 0) 4 4 = true then (if cpok 0 0 (S7.1 29 0) 4 4 = true then some (kF S7) else none) else none) else none) else none) else none) := rfl
theorem px_keepIL {S : xS} {m : Nat} (hm : m ≤ 6) (hn : m ≤ S.2.2.1) (h28 : S.1 28 0 = nI m) : ∀ (k i n : Nat) (Y : xS), i + k = m → k < n → (∀ j, j ≠ 30 → j ≠ 31 → Y.1 j = S.1 j) → Y.2 = S.2 → (∀ r, r < i → Y.1 30 r = S.1 57 r ∧ ∀ c, c < 8 → Y.1 31 (8 * r + c) = S.1 (80 + 4 * r) c) → ∃ Z, xf_I_keep_L36 N n Y (nI i) = some Z ∧ (∀ j, j ≠ 30 → j ≠ 31 → Z.1 j = S.1 j) ∧ Z.2 = S.2 ∧ (∀ r, r < m → Z.1 30 r = S.1 57 r ∧ ∀ c, c < 8 → Z.1 31 (8 * r + c) = S.1 (80 + 4 * r) c)
  | 0, i, n + 1, Y, hk, _, hY, hY2, hf => by
    have hi : i = m := by omega
    subst hi
    refine ⟨Y, ?_, hY, hY2, hf⟩
    rw [xf_I_keep_L36, hY 28 (by omega) (by omega), h28, if_pos (sm_len (Nat.le_refl _) (by omega))]
  | k + 1, i, n + 1, Y, hk, hn2, hY, hY2, hf => by
    have e8 : nI i * 8 = nI (i * 8) := by rw [show (8 : Int32) = nI 8 from rfl, pk_mul]
    have hcp : cpok 0 (nI (i * 8)) 8 8 48 = true := cpok_nI (s := 0) (n := 8) (by omega) (by omega) (by omega) (by omega) (by omega)
    have hlt : i < Y.2.2.1 := by rw [hY2]; omega
    have c8 : (8 : Int32).toNatClampNeg = 8 := rfl
    rw [xf_I_keep_L36, hY 28 (by omega) (by omega), h28, if_neg (sm_nle (by omega) (by omega)), if_pos (sm_ok (show i < 6 by omega) (by omega)), e8, sm_clamp (show i < 100000000 by omega), sm_clamp (show i * 8 < 100000000 by omega), if_pos hlt, if_pos hcp, cl_0, c8, ← nI_succ]
    refine px_keepIL hm hn h28 k (i + 1) n _ (by omega) (by omega) (fun j e1 e2 => ?_) hY2 (fun r hr => ?_)
    · rw [xf_ne e2, xs_ne e1]
      exact hY j e1 e2
    · rw [xf_ne (show 30 ≠ 31 by omega), xs_same, upd_at, xf_same, xs_ne (show 80 + 4 * i ≠ 30 by omega), xs_ne (show 31 ≠ 30 by omega), hY 57 (by omega) (by omega), hY (80 + 4 * i) (by omega) (by omega)]
      by_cases e : r = i
      · subst e
        rw [if_pos rfl]
        refine ⟨rfl, fun c hc => ?_⟩
        rw [pk_cpy_in (by omega) (by omega), show 0 + (8 * r + c - r * 8) = c by omega]
      · rw [if_neg e]
        obtain ⟨f1, f2⟩ := hf r (by omega)
        refine ⟨f1, fun c hc => ?_⟩
        rw [pk_cpy_out (by omega)]
        exact f2 c hc
/-- the reference keeps it -/
theorem md_imgL1 : ∀ (k i n : Nat) (Y : mS), i + k = 4 → k < n → ∃ Z, mf_image_L31 N n Y (nI i) = some Z ∧ Z.2 = Y.2 ∧ (∀ j, ¬ (j = 29 ∨ j = 30 ∨ j = 31 ∨ j = 35 ∨ j = 36) → Z.1 j = Y.1 j) ∧ (∀ t, t < i → Z.1 29 t = Y.1 29 t ∧ Z.1 30 t = Y.1 30 t ∧ Z.1 31 t = Y.1 31 t ∧ Z.1 35 t = Y.1 35 t ∧ Z.1 36 t = Y.1 36 t) ∧ ∀ t, i ≤ t → t < 4 → Z.1 29 t = Y.1 0 t ∧ Z.1 30 t = Y.1 1 t ∧ Z.1 31 t = Y.1 2 t ∧ Z.1 35 t = Y.1 15 t ∧ Z.1 36 t = Y.1 16 t
  | 0, i, n + 1, Y, hk, _ => by
    have hi : i = 4 := by omega
    subst hi
    refine ⟨Y, ?_, rfl, fun _ _ => rfl, fun _ _ => ⟨rfl, rfl, rfl, rfl, rfl⟩, fun t h1 h2 => by omega⟩
    rw [mf_image_L31, if_pos (show (4 : Int32) ≤ nI 4 from sm_len (n := 4) (m := 4) (by omega) (by omega))]
  | k + 1, i, n + 1, Y, hk, hn => by
    obtain ⟨Z, z1, z2, z3, z4, z5⟩ := md_imgL1 k (i + 1) n (ms (ms (ms (ms (ms Y 29 i (Y.1 0 i)) 30 i (Y.1 1 i)) 31 i (Y.1 2 i)) 35 i (Y.1 15 i)) 36 i (Y.1 16 i)) (by omega) (by omega)
    refine ⟨Z, ?_, z2, fun j hj => ?_, fun t ht => ?_, fun t h1 h2 => ?_⟩
    · rw [mf_image_L31, if_neg (show ¬ (4 : Int32) ≤ nI i from sm_nle (n := 4) (by omega) (by omega)), if_pos (sm_ok (show i < 4 by omega) (by omega)), sm_clamp (show i < 100000000 by omega), ← nI_succ]
      exact z1
    · rw [z3 j hj, ms_ne (by omega), ms_ne (by omega), ms_ne (by omega), ms_ne (by omega), ms_ne (by omega)]
    · obtain ⟨u1, u2, u3, u4, u5⟩ := z4 t (by omega)
      rw [u1, u2, u3, u4, u5]
      refine ⟨?_, ?_, ?_, ?_, ?_⟩
      · show upd (Y.1 29) i _ t = _
        rw [upd_at, if_neg (by omega)]
      · show upd (Y.1 30) i _ t = _
        rw [upd_at, if_neg (by omega)]
      · show upd (Y.1 31) i _ t = _
        rw [upd_at, if_neg (by omega)]
      · show upd (Y.1 35) i _ t = _
        rw [upd_at, if_neg (by omega)]
      · show upd (Y.1 36) i _ t = _
        rw [upd_at, if_neg (by omega)]
    · by_cases e : t = i
      · subst e
        obtain ⟨u1, u2, u3, u4, u5⟩ := z4 t (by omega)
        rw [u1, u2, u3, u4, u5]
        refine ⟨?_, ?_, ?_, ?_, ?_⟩
        · show upd (Y.1 29) t _ t = _
          rw [pk_us]
        · show upd (Y.1 30) t _ t = _
          rw [pk_us]
        · show upd (Y.1 31) t _ t = _
          rw [pk_us]
        · show upd (Y.1 35) t _ t = _
          rw [pk_us]
        · show upd (Y.1 36) t _ t = _
          rw [pk_us]
      · exact z5 t (by omega) h2
theorem md_imgL2 : ∀ (k i n : Nat) (Y : mS), i + k = 6 → k < n → ∃ Z, mf_image_L104 N n Y (nI i) = some Z ∧ Z.2 = Y.2 ∧ (∀ j, ¬ (j = 32 ∨ j = 33) → Z.1 j = Y.1 j) ∧ (∀ t, t < i → Z.1 32 t = Y.1 32 t ∧ Z.1 33 t = Y.1 33 t) ∧ ∀ t, i ≤ t → t < 6 → Z.1 32 t = Y.1 7 t ∧ Z.1 33 t = Y.1 8 t
  | 0, i, n + 1, Y, hk, _ => by
    have hi : i = 6 := by omega
    subst hi
    refine ⟨Y, ?_, rfl, fun _ _ => rfl, fun _ _ => ⟨rfl, rfl⟩, fun t h1 h2 => by omega⟩
    rw [mf_image_L104, if_pos (show (6 : Int32) ≤ nI 6 from sm_len (n := 6) (m := 6) (by omega) (by omega))]
  | k + 1, i, n + 1, Y, hk, hn => by
    obtain ⟨Z, z1, z2, z3, z4, z5⟩ := md_imgL2 k (i + 1) n (ms (ms Y 32 i (Y.1 7 i)) 33 i (Y.1 8 i)) (by omega) (by omega)
    refine ⟨Z, ?_, z2, fun j hj => ?_, fun t ht => ?_, fun t h1 h2 => ?_⟩
    · rw [mf_image_L104, if_neg (show ¬ (6 : Int32) ≤ nI i from sm_nle (n := 6) (by omega) (by omega)), if_pos (sm_ok (show i < 6 by omega) (by omega)), sm_clamp (show i < 100000000 by omega), ← nI_succ]
      exact z1
    · rw [z3 j hj, ms_ne (by omega), ms_ne (by omega)]
    · obtain ⟨u1, u2⟩ := z4 t (by omega)
      rw [u1, u2]
      refine ⟨?_, ?_⟩
      · show upd (Y.1 32) i _ t = _
        rw [upd_at, if_neg (by omega)]
      · show upd (Y.1 33) i _ t = _
        rw [upd_at, if_neg (by omega)]
    · by_cases e : t = i
      · subst e
        obtain ⟨u1, u2⟩ := z4 t (by omega)
        rw [u1, u2]
        refine ⟨?_, ?_⟩
        · show upd (Y.1 32) t _ t = _
          rw [pk_us]
        · show upd (Y.1 33) t _ t = _
          rw [pk_us]
      · exact z5 t (by omega) h2
theorem md_imgL3 : ∀ (k i n : Nat) (Y : mS), i + k = 48 → k < n → ∃ Z, mf_image_L142 N n Y (nI i) = some Z ∧ Z.2 = Y.2 ∧ (∀ j, ¬ (j = 34) → Z.1 j = Y.1 j) ∧ (∀ t, t < i → Z.1 34 t = Y.1 34 t) ∧ ∀ t, i ≤ t → t < 48 → Z.1 34 t = Y.1 9 t
  | 0, i, n + 1, Y, hk, _ => by
    have hi : i = 48 := by omega
    subst hi
    refine ⟨Y, ?_, rfl, fun _ _ => rfl, fun _ _ => rfl, fun t h1 h2 => by omega⟩
    rw [mf_image_L142, if_pos (show (48 : Int32) ≤ nI 48 from sm_len (n := 48) (m := 48) (by omega) (by omega))]
  | k + 1, i, n + 1, Y, hk, hn => by
    obtain ⟨Z, z1, z2, z3, z4, z5⟩ := md_imgL3 k (i + 1) n (ms Y 34 i (Y.1 9 i)) (by omega) (by omega)
    refine ⟨Z, ?_, z2, fun j hj => ?_, fun t ht => ?_, fun t h1 h2 => ?_⟩
    · rw [mf_image_L142, if_neg (show ¬ (48 : Int32) ≤ nI i from sm_nle (n := 48) (by omega) (by omega)), if_pos (sm_ok (show i < 48 by omega) (by omega)), sm_clamp (show i < 100000000 by omega), ← nI_succ]
      exact z1
    · rw [z3 j hj, ms_ne hj]
    · rw [z4 t (by omega), ms_same, upd_at, if_neg (by omega)]
    · by_cases e : t = i
      · subst e
        rw [z4 t (by omega), ms_same, pk_us]
      · exact z5 t (by omega) h2
theorem st_image (hN : 2000 ≤ N) (h : Rl X M) : ∃ r X1 M1, xf_X_image N X = some (r, X1) ∧ mf_image N M = some (r, M1) ∧ Rl X1 M1 := by
  obtain ⟨h1, h2, h3, h4, h5⟩ := id h
  have h6 := h3.1.2.1
  have h44 := h3.1.2.2.2.2.2
  have e3 : M.1 3 0 = nI (nr (mC M)) := h3.1.1
  have e16 : X.1 16 0 = nI (nr (mC M)) := h1.1.1.trans e3
  have e14 : M.1 14 0 = nI (nk (mC M)) := h3.1.2.2.2.2.1
  have e18 : X.1 18 0 = nI (nk (mC M)) := h1.1.2.2.1.trans e14
  have en : X.2.2.1 = nr (mC M) := h1.1.2.2.2
  have e1 : X.1 1 0 = M.1 22 0 := h1.2.2.2.2.2.2.2.2.1
  -- the class
  have kk : ∀ j, ¬ (26 ≤ j ∧ j ≤ 29) → (kS X (X.1 1 0)).1 j = X.1 j := fun j hj => by
    unfold kS
    rw [xs_ne (by omega), xs_ne (by omega), xs_ne (by omega), xs_ne (by omega)]
  have hRk : RS (kS X (X.1 1 0)) (mC M) := by
    refine h1.cg (fun j hj hj2 => ?_) rfl (fun _ _ => rfl)
    rw [kk j (by omega)]
  have a1 := px_allSh (N := N) hN h3 hRk
  obtain ⟨Y, y1, y2, y3, y4⟩ := px_keepIL (N := N) (S := xs (kS X (X.1 1 0)) 37 0 (fShL (mC M 8) (nr (mC M)) 0 0)) (m := nr (mC M)) h6 (by show nr (mC M) ≤ X.2.2.1; omega) (by show X.1 16 0 = _; exact e16) (nr (mC M)) 0 N _ (by omega) (by omega) (fun _ _ _ => rfl) rfl (fun r hr => by omega)
  rw [nI_0] at y1
  have e29 : Y.1 29 0 = nI (nk (mC M)) := by
    rw [y2 29 (by omega) (by omega)]
    exact e18
  have c1 : cpok 0 0 4 4 4 = true := cpok_nI (s := 0) (d := 0) (n := 4) (by omega) (by omega) (by omega) (by omega) (by omega)
  have c2 : cpok 0 0 (Y.1 29 0) 4 4 = true := by
    rw [e29]
    exact cpok_nI (s := 0) (d := 0) (by omega) (by omega) (by omega) (by omega) (by omega)
  have hkeep : xf_I_keep N X (X.1 1 0) = some (kF Y) := by
    rw [keep_eq, a1, bs1, y1, bs1, if_pos c1, if_pos c1, if_pos c1, if_pos c2, if_pos c2]
  have yk : ∀ j, ¬ (26 ≤ j ∧ j ≤ 37) → Y.1 j = X.1 j := fun j hj => by
    rw [y2 j (by omega) (by omega), xs_ne (by omega), kk j (by omega)]
  have fk : ∀ j, ¬ (26 ≤ j ∧ j ≤ 37) → (kF Y).1 j = X.1 j := fun j hj => by
    unfold kF
    rw [xf_ne (by omega), xf_ne (by omega), xf_ne (by omega), xf_ne (by omega), xf_ne (by omega)]
    exact yk j hj
  -- the reference
  obtain ⟨Z1, z11, z12, z13, _, z15⟩ := md_imgL1 (N := N) 4 0 N (ms (ms (ms (ms M 25 0 1) 26 0 (M.1 3 0)) 27 0 (M.1 14 0)) 28 0 (M.1 22 0)) (by omega) (by omega)
  obtain ⟨Z2, z21, z22, z23, _, z25⟩ := md_imgL2 (N := N) 6 0 N Z1 (by omega) (by omega)
  obtain ⟨Z, z31, z32, z33, _, z35⟩ := md_imgL3 (N := N) 48 0 N Z2 (by omega) (by omega)
  rw [nI_0] at z11 z21 z31
  have zk : ∀ j, ¬ (25 ≤ j ∧ j ≤ 36) → Z.1 j = M.1 j := fun j hj => by
    rw [z33 j (by omega), z23 j (by omega), z13 j (by omega), ms_ne (by omega), ms_ne (by omega), ms_ne (by omega), ms_ne (by omega)]
  have zC : ∀ j, ¬ (25 ≤ j ∧ j ≤ 36) → mC Z j = mC M j := fun j hj => by
    unfold mC
    rw [zk j hj]
  have zs : ∀ j, 25 ≤ j → j ≤ 28 → mC Z j = (ms (ms (ms (ms M 25 0 1) 26 0 (M.1 3 0)) 27 0 (M.1 14 0)) 28 0 (M.1 22 0)).1 j := fun j g1 g2 => by
    have : mC Z j = Z.1 j := by
      unfold mC
      rw [show Nat.blt j 40 = true from Nat.blt_eq.mpr (by omega)]
      rfl
    rw [this, z33 j (by omega), z23 j (by omega), z13 j (by omega)]
  have q25 : mC Z 25 0 = 1 := by rw [zs 25 (by omega) (by omega), ms_ne (by omega), ms_ne (by omega), ms_ne (by omega), ms_same, pk_us]
  have q26 : mC Z 26 0 = nI (nr (mC M)) := by rw [zs 26 (by omega) (by omega), ms_ne (by omega), ms_ne (by omega), ms_same, pk_us]; exact e3
  have q27 : mC Z 27 0 = nI (nk (mC M)) := by rw [zs 27 (by omega) (by omega), ms_ne (by omega), ms_same, pk_us]; exact e14
  have q28 : mC Z 28 0 = M.1 22 0 := by rw [zs 28 (by omega) (by omega), ms_same, pk_us]
  have r26 : imr (mC Z) = nr (mC M) := by unfold imr; rw [q26, sm_clamp (by omega)]
  have r27 : imk (mC Z) = nk (mC M) := by unfold imk; rw [q27, sm_clamp (by omega)]
  have q4 : ∀ k, k < 4 → mC Z 29 k = M.1 0 k ∧ mC Z 30 k = M.1 1 k ∧ mC Z 31 k = M.1 2 k ∧ mC Z 35 k = M.1 15 k ∧ mC Z 36 k = M.1 16 k := fun k hk => by
    obtain ⟨u1, u2, u3, u4, u5⟩ := z15 k (by omega) hk
    have w29 : mC Z 29 = Z1.1 29 := (z33 29 (by omega)).trans (z23 29 (by omega))
    have w30 : mC Z 30 = Z1.1 30 := (z33 30 (by omega)).trans (z23 30 (by omega))
    have w31 : mC Z 31 = Z1.1 31 := (z33 31 (by omega)).trans (z23 31 (by omega))
    have w35 : mC Z 35 = Z1.1 35 := (z33 35 (by omega)).trans (z23 35 (by omega))
    have w36 : mC Z 36 = Z1.1 36 := (z33 36 (by omega)).trans (z23 36 (by omega))
    rw [w29, w30, w31, w35, w36]
    exact ⟨u1, u2, u3, u4, u5⟩
  have q6 : ∀ r, r < 6 → mC Z 32 r = M.1 7 r ∧ mC Z 33 r = M.1 8 r := fun r hr => by
    obtain ⟨u1, u2⟩ := z25 r (by omega) hr
    have w32 : mC Z 32 = Z2.1 32 := z33 32 (by omega)
    have w33 : mC Z 33 = Z2.1 33 := z33 33 (by omega)
    rw [w32, w33, u1, u2, z13 7 (by omega), z13 8 (by omega)]
    exact ⟨rfl, rfl⟩
  have q48 : ∀ t, t < 48 → mC Z 34 t = M.1 9 t := fun t ht => by
    have u := z35 t (by omega) ht
    have : mC Z 34 t = Z.1 34 t := rfl
    rw [this, u, z23 9 (by omega), z13 9 (by omega)]
    rfl
  have hz2 : Z.2 = M.2 := z32.trans (z22.trans z12)
  have hi0 : mf_image N M = some (Z.1 3 0, Z) := by
    show bd1 (mf_image_L31 N N (ms (ms (ms (ms M 25 0 1) 26 0 (M.1 3 0)) 27 0 (M.1 14 0)) 28 0 (M.1 22 0)) 0) _ = _
    rw [z11, bs1, z21, bs1, z31, bs1]
  unfold xf_X_image
  rw [hkeep, bs1, hi0, fk 16 (by omega), e16, zk 3 (by omega), e3]
  obtain ⟨p1, p2, p3, p4, p5, p6, p7⟩ := h4
  obtain ⟨t1, t2, t3, t4⟩ := h2
  refine ⟨_, _, Z, rfl, rfl, h1.cg (fun j hj hj2 => fk j (by omega)) ?_ (fun j hj => zC j (by omega)), ⟨?_, ?_, ⟨?_, fun _ => ⟨?_, ?_, ?_, fun k hk => ?_, fun r hr => ?_, fun k hk => ?_⟩⟩, ?_⟩, h3.cg (fun j hj => zC j (by omega)), ⟨?_, ?_, ?_, p4.cg (zC 18 (by omega)) (zC 17 (by omega)), fun _ => ⟨?_, ?_, ?_, ?_, ?_, ?_, fun k hk => ?_, fun r hr => ?_, fun k hk => ?_⟩, p6.cg (zC 37 (by omega)) (zC 38 (by omega)), ?_⟩, by rw [hz2]; exact h5⟩
  · show Y.2.2 = X.2.2
    rw [y3]
    rfl
  · unfold RZ at t1 ⊢
    rw [fk 20 (by omega), fk 21 (by omega), fk 24 (by omega)]
    exact t1
  · have e18t : tp (mC Z) = tp (mC M) := by unfold tp; rw [zC 18 (by omega)]
    unfold RT_tape at t2 ⊢
    rw [fk 2 (by omega), fk 3 (by omega), e18t, zC 18 (by omega), zC 17 (by omega)]
    exact t2
  · rw [q25]
    show Y.1 26 0 = 1
    rw [y2 26 (by omega) (by omega)]
    rfl
  · rw [q26]
    show Y.1 28 0 = _
    rw [y2 28 (by omega) (by omega)]
    exact e16
  · rw [q27]
    exact e29
  · rw [q28]
    show Y.1 27 0 = _
    rw [y2 27 (by omega) (by omega)]
    exact e1
  · obtain ⟨u1, u2, u3, _, _⟩ := q4 k hk
    have c4 : (4 : Int32).toNatClampNeg = 4 := rfl
    rw [u1, u2, u3]
    refine ⟨?_, ?_, ?_⟩
    · show va_cpy (Y.1 8) (Y.1 32) (0 : Int32).toNatClampNeg (0 : Int32).toNatClampNeg (4 : Int32).toNatClampNeg k = _
      rw [cl_0, c4, pk_cpy_in (by omega) (by omega), yk 8 (by omega), h1.2.1.1, show 0 + (k - 0) = k by omega]
      rfl
    · show va_cpy (Y.1 9) (Y.1 33) (0 : Int32).toNatClampNeg (0 : Int32).toNatClampNeg (4 : Int32).toNatClampNeg k = _
      rw [cl_0, c4, pk_cpy_in (by omega) (by omega), yk 9 (by omega), h1.2.1.2.1, show 0 + (k - 0) = k by omega]
      rfl
    · show va_cpy (Y.1 10) (Y.1 34) (0 : Int32).toNatClampNeg (0 : Int32).toNatClampNeg (4 : Int32).toNatClampNeg k = _
      rw [cl_0, c4, pk_cpy_in (by omega) (by omega), yk 10 (by omega), h1.2.1.2.2, show 0 + (k - 0) = k by omega]
      rfl
  · rw [r26] at hr
    obtain ⟨u1, u2⟩ := y4 r hr
    obtain ⟨v1, v2⟩ := q6 r (by omega)
    obtain ⟨r1, r2, r3, r4, r5, r6, r7, r8, r9, r10⟩ := h1.2.2.1 r hr
    refine ⟨?_, ?_, fun c hc => ?_⟩
    · rw [v1]
      show Y.1 30 r = _
      rw [u1, xs_ne (by omega), kk 57 (by omega), r4]
      rfl
    · rw [v2]
      show bitOf (Y.1 37 0) r = _
      rw [y2 37 (by omega) (by omega), xs_same, pk_us]
      exact sh_bits h6 (fun q hq => (h3.2.2.1 q hq).2.2.2.2.2.2) hr
    · rw [q48 _ (by omega)]
      show Y.1 31 (8 * r + c) = _
      rw [u2 c hc, xs_ne (by omega), kk (80 + 4 * r) (by omega)]
      have := h1.2.2.2.1 r hr c hc
      rw [if_pos t1.1] at this
      exact this.symm
  · rw [r27] at hk
    obtain ⟨_, _, _, u4, u5⟩ := q4 k (by omega)
    obtain ⟨o1, o2⟩ := h1.2.2.2.2.2.1 k hk
    rw [u4, u5]
    refine ⟨?_, ?_⟩
    · show va_cpy (Y.1 14) (Y.1 35) (0 : Int32).toNatClampNeg (0 : Int32).toNatClampNeg (Y.1 29 0).toNatClampNeg k = _
      rw [cl_0, e29, sm_clamp (by omega), pk_cpy_in (by omega) (by omega), yk 14 (by omega), show 0 + (k - 0) = k by omega]
      exact o1
    · show va_cpy (Y.1 15) (Y.1 36) (0 : Int32).toNatClampNeg (0 : Int32).toNatClampNeg (Y.1 29 0).toNatClampNeg k = _
      rw [cl_0, e29, sm_clamp (by omega), pk_cpy_in (by omega) (by omega), yk 15 (by omega), show 0 + (k - 0) = k by omega]
      exact o2
  · intro s hs
    have ess : ss (mC Z) s = ss (mC M) s := by unfold ss; rw [zC 38 (by omega)]
    rw [fk 4 (by omega), fk 5 (by omega), fk (70 + s) (by omega), zC 37 (by omega), zC 38 (by omega), zC 39 (by omega), ess]
    exact t4 s hs
  · have := nr_cg (zC 3 (by omega))
    rw [this, zC 7 (by omega)]
    exact p1
  · have := np_cg (zC 10 (by omega))
    rw [this, zC 12 (by omega)]
    exact p2
  · rw [zC 23 (by omega)]
    exact p3
  · rw [q26, r26]
  · rw [r26, nr_cg (zC 3 (by omega))]
    exact Nat.le_refl _
  · rw [q27, r27]
  · rw [r27, nk_cg (zC 14 (by omega))]
    exact Nat.le_refl _
  · have h22 := h3.2.2.2.2.2.2.2.2.2.2.1
    have : iml (mC Z) = rl (mC M) := by unfold iml rl; rw [q28]; rfl
    rw [q28, this]
    exact h22
  · have h22 := h3.2.2.2.2.2.2.2.2.2.2.2.1
    have : iml (mC Z) = rl (mC M) := by unfold iml rl; rw [q28]; rfl
    rw [this, nt_cg (zC 21 (by omega))]
    exact h22
  · obtain ⟨u1, u2, u3, _, _⟩ := q4 k hk
    rw [u1, u2, u3]
    exact h3.2.1 k hk
  · rw [r26] at hr
    obtain ⟨v1, v2⟩ := q6 r (by omega)
    rw [v1, v2]
    refine ⟨p1 r hr, (h3.2.2.1 r hr).2.2.2.2.2.2, fun c hc => ?_⟩
    rw [q48 _ (by omega)]
    exact h3.2.2.2.1 r hr c hc
  · rw [r27] at hk
    obtain ⟨_, _, _, u4, u5⟩ := q4 k (by omega)
    rw [u4, u5]
    exact h3.2.2.2.2.2.1 k hk
  · unfold IP_z at p7 ⊢
    rw [nr_cg (zC 3 (by omega)), zC 7 (by omega), zC 8 (by omega), zC 9 (by omega)]
    exact p7
end A
end PSET3
