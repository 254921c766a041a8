section PBACK
section A
variable {N : Nat} {X : xS} {M : mS}
/-! back -/
def rF (S : xS) : xS := xf (xf (xf (xf (xf S 8 (va_cpy (S.1 32) (S.1 8) ((0 : Int32).toNatClampNeg) ((0 : Int32).toNatClampNeg) ((4 : Int32).toNatClampNeg))) 9 (va_cpy (S.1 33) (S.1 9) ((0 : Int32).toNatClampNeg) ((0 : Int32).toNatClampNeg) ((4 : Int32).toNatClampNeg))) 10 (va_cpy (S.1 34) (S.1 10) ((0 : Int32).toNatClampNeg) ((0 : Int32).toNatClampNeg) ((4 : Int32).toNatClampNeg))) 14 (va_cpy (S.1 35) (S.1 14) ((0 : Int32).toNatClampNeg) ((0 : Int32).toNatClampNeg) ((S.1 29 0).toNatClampNeg))) 15 (va_cpy (S.1 36) (S.1 15) ((0 : Int32).toNatClampNeg) ((0 : Int32).toNatClampNeg) ((S.1 29 0).toNatClampNeg))
theorem rest_eq (N : Nat) (S : xS) : xf_I_restore N S = bd1 (xf_I_restore_L2 N N S 0) fun S7 => (if cpok 0 0 4 4 4 = true then (if cpok 0 0 4 4 4 = true then (if cpok 0 0 4 4 4 = true then (if cpok 0 0 (S7.1 29 0) 4 4 = true then (if cpok 0 0 (S7.1 29 0) 4 4 = true then some (rF S7) else none) else none) else none) else none) else none) := rfl
theorem px_backIL {S : xS} {m : Nat} (hm : m ≤ 6) (hn : m ≤ S.2.2.1) (h28 : S.1 28 0 = nI m) : ∀ (k i n : Nat) (Y : xS), i + k = m → k < n → (∀ j, j ≠ 57 → j ≠ 58 → (∀ r, r < m → j ≠ 80 + 4 * r) → Y.1 j = S.1 j) → Y.2 = S.2 → (∀ r, Y.1 57 r = if r < i then S.1 30 r else S.1 57 r) → (∀ r, Y.1 58 r = if r < i then bitOf (S.1 37 0) r else S.1 58 r) → (∀ r, r < m → ∀ c, c < 8 → Y.1 (80 + 4 * r) c = if r < i then S.1 31 (8 * r + c) else S.1 (80 + 4 * r) c) → ∃ Z, xf_I_restore_L2 N n Y (nI i) = some Z ∧ (∀ j, j ≠ 57 → j ≠ 58 → (∀ r, r < m → j ≠ 80 + 4 * r) → Z.1 j = S.1 j) ∧ Z.2 = S.2 ∧ (∀ r, Z.1 57 r = if r < m then S.1 30 r else S.1 57 r) ∧ (∀ r, Z.1 58 r = if r < m then bitOf (S.1 37 0) r else S.1 58 r) ∧ (∀ r, r < m → ∀ c, c < 8 → Z.1 (80 + 4 * r) c = S.1 31 (8 * r + c))
  | 0, i, n + 1, Y, hk, _, hY, hY2, f1, f2, f3 => by
    have hi : i = m := by omega
    subst hi
    refine ⟨Y, ?_, hY, hY2, f1, f2, fun r hr c hc => by rw [f3 r hr c hc, if_pos hr]⟩
    rw [xf_I_restore_L2, hY 28 (by omega) (by omega) (fun r _ => by omega), h28, if_pos (sm_len (Nat.le_refl _) (by omega))]
  | k + 1, i, n + 1, Y, hk, hn2, hY, hY2, f1, f2, f3 => by
    have e8 : nI i * 8 = nI (i * 8) := by rw [show (8 : Int32) = nI 8 from rfl, pk_mul]
    have hcp : cpok (nI (i * 8)) 0 8 48 8 = true := cpok_nI (d := 0) (n := 8) (by omega) (by omega) (by omega) (by omega) (by omega)
    have hlt : i < Y.2.2.1 := by rw [hY2]; omega
    have c8 : (8 : Int32).toNatClampNeg = 8 := rfl
    have hne : ∀ r, r < m → (80 + 4 * r) ≠ 57 ∧ (80 + 4 * r) ≠ 58 := fun r _ => ⟨by omega, by omega⟩
    have e31 : Y.1 31 = S.1 31 := hY 31 (by omega) (by omega) (fun r _ => by omega)
    have e30 : Y.1 30 = S.1 30 := hY 30 (by omega) (by omega) (fun r _ => by omega)
    have e37 : Y.1 37 = S.1 37 := hY 37 (by omega) (by omega) (fun r _ => by omega)
    rw [xf_I_restore_L2, hY 28 (by omega) (by omega) (fun r _ => by omega), h28, if_neg (sm_nle (by omega) (by omega)), if_pos (sm_ok (show i < 6 by omega) (by omega)), e8, sm_clamp (show i < 100000000 by omega), sm_clamp (show i * 8 < 100000000 by omega), if_pos hlt, if_pos hcp, cl_0, c8, ← nI_succ]
    refine px_backIL hm hn h28 k (i + 1) n _ (by omega) (by omega) (fun j g1 g2 g3 => ?_) hY2 (fun r => ?_) (fun r => ?_) (fun r hr c hc => ?_)
    · rw [xf_ne (g3 i (by omega)), xs_ne g2, xs_ne g1]
      exact hY j g1 g2 g3
    · rw [xf_ne (by omega), xs_ne (by omega), xs_same, upd_at, e30, f1 r]
      by_cases e : r = i
      · subst e
        rw [if_pos rfl, if_pos (by omega)]
      · rw [if_neg e]
        by_cases h2 : r < i
        · rw [if_pos h2, if_pos (by omega)]
        · rw [if_neg h2, if_neg (by omega)]
    · rw [xf_ne (by omega), xs_same, upd_at, xs_ne (show 37 ≠ 57 by omega), e37, xs_ne (show 58 ≠ 57 by omega), f2 r]
      by_cases e : r = i
      · subst e
        rw [if_pos rfl, if_pos (by omega)]
        rfl
      · rw [if_neg e]
        by_cases h2 : r < i
        · rw [if_pos h2, if_pos (by omega)]
        · rw [if_neg h2, if_neg (by omega)]
    · by_cases e : r = i
      · subst e
        rw [xf_same, pk_cpy_in (by omega) (by omega), xs_ne (by omega), xs_ne (by omega), e31, if_pos (by omega), show r * 8 + (c - 0) = 8 * r + c by omega]
      · rw [xf_ne (by omega), xs_ne (by omega), xs_ne (by omega), f3 r hr c hc]
        by_cases h2 : r < i
        · rw [if_pos h2, if_pos (by omega)]
        · rw [if_neg h2, if_neg (by omega)]
theorem md_backL1 {kq : Nat} (hkq : kq ≤ 4) : ∀ (k i n : Nat) (Y : mS), Y.1 27 0 = nI kq → i + k = 4 → k < n → ∃ Z, mf_back_L20 N n Y (nI i) = some Z ∧ Z.2 = Y.2 ∧ (∀ j, ¬ (j = 0 ∨ j = 1 ∨ j = 2 ∨ j = 15 ∨ j = 16) → Z.1 j = Y.1 j) ∧ (∀ t, t < i ∨ 4 ≤ t → Z.1 0 t = Y.1 0 t ∧ Z.1 1 t = Y.1 1 t ∧ Z.1 2 t = Y.1 2 t ∧ Z.1 15 t = Y.1 15 t ∧ Z.1 16 t = Y.1 16 t) ∧ ∀ t, i ≤ t → t < 4 → Z.1 0 t = Y.1 29 t ∧ Z.1 1 t = Y.1 30 t ∧ Z.1 2 t = Y.1 31 t ∧ (Z.1 15 t = if t < kq then Y.1 35 t else Y.1 15 t) ∧ (Z.1 16 t = if t < kq then Y.1 36 t else Y.1 16 t)
  | 0, i, n + 1, Y, h27, hk, _ => by
    have hi : i = 4 := by omega
    subst hi
    refine ⟨Y, ?_, rfl, fun _ _ => rfl, fun _ _ => ⟨rfl, rfl, rfl, rfl, rfl⟩, fun t h1 h2 => by omega⟩
    rw [mf_back_L20, if_pos (show (4 : Int32) ≤ nI 4 from sm_len (n := 4) (m := 4) (by omega) (by omega))]
  | k + 1, i, n + 1, Y, h27, hk, hn => by
    have hle : nI kq ≤ nI i ↔ kq ≤ i := sm_le (by omega) (by omega)
    have hstep : ∃ u v : Int32, (u = if i < kq then Y.1 35 i else Y.1 15 i) ∧ (v = if i < kq then Y.1 36 i else Y.1 16 i) ∧ mf_back_L20 N (n + 1) Y (nI i) = mf_back_L20 N n (ms (ms (ms (ms (ms Y 0 i (Y.1 29 i)) 1 i (Y.1 30 i)) 2 i (Y.1 31 i)) 15 i u) 16 i v) (nI (i + 1)) := by
      refine ⟨_, _, rfl, rfl, ?_⟩
      have e271 : ∀ u, (ms (ms (ms (ms Y 0 i (Y.1 29 i)) 1 i (Y.1 30 i)) 2 i (Y.1 31 i)) 15 i u).1 27 0 = nI kq := fun _ => h27
      have e272 : (ms (ms (ms Y 0 i (Y.1 29 i)) 1 i (Y.1 30 i)) 2 i (Y.1 31 i)).1 27 0 = nI kq := h27
      rw [mf_back_L20, if_neg (show ¬ (4 : Int32) ≤ nI i from sm_nle (n := 4) (by omega) (by omega)), if_pos (sm_ok (show i < 4 by omega) (by omega)), sm_clamp (show i < 100000000 by omega), ← nI_succ]
      have e1 : (ms Y 0 i (Y.1 29 i)).1 30 i = Y.1 30 i := rfl
      have e2 : (ms (ms Y 0 i (Y.1 29 i)) 1 i (Y.1 30 i)).1 31 i = Y.1 31 i := rfl
      rw [e1, e2, e272, e271]
      by_cases h : kq ≤ i
      · rw [if_pos (hle.mpr h), if_pos (hle.mpr h), if_neg (by omega), if_neg (by omega)]
        rfl
      · rw [if_neg (fun hh => h (hle.mp hh)), if_neg (fun hh => h (hle.mp hh)), if_pos (by omega), if_pos (by omega)]
        rfl
    obtain ⟨u, v, hu, hv, hst⟩ := hstep
    obtain ⟨Z, z1, z2, z3, z4, z5⟩ := md_backL1 hkq k (i + 1) n (ms (ms (ms (ms (ms Y 0 i (Y.1 29 i)) 1 i (Y.1 30 i)) 2 i (Y.1 31 i)) 15 i u) 16 i v) h27 (by omega) (by omega)
    have r0 : ∀ t, (ms (ms (ms (ms (ms Y 0 i (Y.1 29 i)) 1 i (Y.1 30 i)) 2 i (Y.1 31 i)) 15 i u) 16 i v).1 0 t = upd (Y.1 0) i (Y.1 29 i) t := fun _ => rfl
    have r1 : ∀ t, (ms (ms (ms (ms (ms Y 0 i (Y.1 29 i)) 1 i (Y.1 30 i)) 2 i (Y.1 31 i)) 15 i u) 16 i v).1 1 t = upd (Y.1 1) i (Y.1 30 i) t := fun _ => rfl
    have r2 : ∀ t, (ms (ms (ms (ms (ms Y 0 i (Y.1 29 i)) 1 i (Y.1 30 i)) 2 i (Y.1 31 i)) 15 i u) 16 i v).1 2 t = upd (Y.1 2) i (Y.1 31 i) t := fun _ => rfl
    have r3 : ∀ t, (ms (ms (ms (ms (ms Y 0 i (Y.1 29 i)) 1 i (Y.1 30 i)) 2 i (Y.1 31 i)) 15 i u) 16 i v).1 15 t = upd (Y.1 15) i u t := fun _ => rfl
    have r4 : ∀ t, (ms (ms (ms (ms (ms Y 0 i (Y.1 29 i)) 1 i (Y.1 30 i)) 2 i (Y.1 31 i)) 15 i u) 16 i v).1 16 t = upd (Y.1 16) i v t := fun _ => rfl
    refine ⟨Z, hst.trans z1, z2, fun j hj => ?_, fun t ht => ?_, fun t h1 h2 => ?_⟩
    · rw [z3 j hj, ms_ne (by omega), ms_ne (by omega), ms_ne (by omega), ms_ne (by omega), ms_ne (by omega)]
    · obtain ⟨u1, u2, u3, u4, u5⟩ := z4 t (by omega)
      rw [u1, u2, u3, u4, u5, r0, r1, r2, r3, r4]
      simp only [upd_at, if_neg (show ¬ t = i by omega)]
      exact ⟨trivial, trivial, trivial, trivial, trivial⟩
    · by_cases e : t = i
      · subst e
        obtain ⟨u1, u2, u3, u4, u5⟩ := z4 t (by omega)
        rw [u1, u2, u3, u4, u5, r0, r1, r2, r3, r4]
        simp only [pk_us]
        exact ⟨trivial, trivial, trivial, hu, hv⟩
      · obtain ⟨u1, u2, u3, u4, u5⟩ := z5 t (by omega) h2
        rw [u1, u2, u3, u4, u5, r3, r4]
        simp only [upd_at, if_neg e]
        exact ⟨rfl, rfl, rfl, rfl, rfl⟩
theorem md_backL3 {r : Nat} (hr : r < 6) : ∀ (k i n : Nat) (Y : mS), i + k = 8 → k < n → ∃ Z, mf_back_L161 N (nI r) n Y (nI i) = some Z ∧ Z.2 = Y.2 ∧ (∀ j, j ≠ 9 → Z.1 j = Y.1 j) ∧ ∀ t, Z.1 9 t = if 8 * r + i ≤ t ∧ t < 8 * r + 8 then Y.1 34 t else Y.1 9 t
  | 0, i, n + 1, Y, hk, _ => by
    have hi : i = 8 := by omega
    subst hi
    refine ⟨Y, ?_, rfl, fun _ _ => rfl, fun t => by rw [if_neg (by omega)]⟩
    rw [mf_back_L161, if_pos (show (8 : Int32) ≤ nI 8 from sm_len (n := 8) (m := 8) (by omega) (by omega))]
  | k + 1, i, n + 1, Y, hk, hn => by
    obtain ⟨Z, z1, z2, z3, z4⟩ := md_backL3 hr k (i + 1) n (ms Y 9 (8 * r + i) (Y.1 34 (8 * r + i))) (by omega) (by omega)
    refine ⟨Z, ?_, z2, fun j hj => by rw [z3 j hj, ms_ne hj], fun t => ?_⟩
    · rw [mf_back_L161, if_neg (show ¬ (8 : Int32) ≤ nI i from sm_nle (n := 8) (by omega) (by omega)), ix8, if_pos (sm_ok (show 8 * r + i < 48 by omega) (by omega)), sm_clamp (show 8 * r + i < 100000000 by omega), ← nI_succ]
      exact z1
    · rw [z4 t, ms_same, upd_at, ms_ne (show 34 ≠ 9 by omega)]
      by_cases e : t = 8 * r + i
      · subst e
        rw [if_neg (by omega), if_pos rfl, if_pos (by omega)]
      · by_cases h2 : 8 * r + (i + 1) ≤ t ∧ t < 8 * r + 8
        · rw [if_pos h2, if_pos (by omega)]
        · rw [if_neg h2, if_neg e, if_neg (by omega)]
theorem md_backL2 (hN : 2000 ≤ N) {m : Nat} (hm : m ≤ 6) : ∀ (k i n : Nat) (Y : mS), Y.1 26 0 = nI m → i + k = m → k < n → ∃ Z, mf_back_L127 N n Y (nI i) = some Z ∧ Z.2 = Y.2 ∧ (∀ j, ¬ (j = 7 ∨ j = 8 ∨ j = 9) → Z.1 j = Y.1 j) ∧ (∀ t, Z.1 7 t = if i ≤ t ∧ t < m then Y.1 32 t else Y.1 7 t) ∧ (∀ t, Z.1 8 t = if i ≤ t ∧ t < m then Y.1 33 t else Y.1 8 t) ∧ ∀ t, Z.1 9 t = if 8 * i ≤ t ∧ t < 8 * m then Y.1 34 t else Y.1 9 t
  | 0, i, n + 1, Y, h26, hk, _ => by
    have hi : i = m := by omega
    subst hi
    refine ⟨Y, ?_, rfl, fun _ _ => rfl, fun t => by rw [if_neg (by omega)], fun t => by rw [if_neg (by omega)], fun t => by rw [if_neg (by omega)]⟩
    rw [mf_back_L127, h26, if_pos (sm_len (Nat.le_refl _) (by omega))]
  | k + 1, i, n + 1, Y, h26, hk, hn => by
    obtain ⟨V, v1, v2, v3, v4⟩ := md_backL3 (N := N) (show i < 6 by omega) 8 0 N (ms (ms Y 7 i (Y.1 32 i)) 8 i (Y.1 33 i)) (by omega) (by omega)
    rw [nI_0] at v1
    have h26v : V.1 26 0 = nI m := by
      rw [v3 26 (by omega)]
      exact h26
    obtain ⟨Z, z1, z2, z3, z4, z5, z6⟩ := md_backL2 hN hm k (i + 1) n V h26v (by omega) (by omega)
    have e33 : (ms Y 7 i (Y.1 32 i)).1 33 i = Y.1 33 i := rfl
    refine ⟨Z, ?_, z2.trans v2, fun j hj => ?_, fun t => ?_, fun t => ?_, fun t => ?_⟩
    · rw [mf_back_L127, h26, if_neg (sm_nle (by omega) (by omega)), if_pos (sm_ok (show i < 6 by omega) (by omega)), sm_clamp (show i < 100000000 by omega), e33, v1, bs1, ← nI_succ]
      exact z1
    · rw [z3 j hj, v3 j (by omega), ms_ne (by omega), ms_ne (by omega)]
    · rw [z4 t, v3 32 (by omega), v3 7 (by omega)]
      show (if i + 1 ≤ t ∧ t < m then Y.1 32 t else upd (Y.1 7) i (Y.1 32 i) t) = _
      rw [upd_at]
      by_cases e : t = i
      · subst e
        rw [if_neg (by omega), if_pos rfl, if_pos (by omega)]
      · by_cases h2 : i + 1 ≤ t ∧ t < m
        · rw [if_pos h2, if_pos (by omega)]
        · rw [if_neg h2, if_neg e, if_neg (by omega)]
    · rw [z5 t, v3 33 (by omega), v3 8 (by omega)]
      show (if i + 1 ≤ t ∧ t < m then Y.1 33 t else upd (Y.1 8) i (Y.1 33 i) t) = _
      rw [upd_at]
      by_cases e : t = i
      · subst e
        rw [if_neg (by omega), if_pos rfl, if_pos (by omega)]
      · by_cases h2 : i + 1 ≤ t ∧ t < m
        · rw [if_pos h2, if_pos (by omega)]
        · rw [if_neg h2, if_neg e, if_neg (by omega)]
    · rw [z6 t, v3 34 (by omega), v4 t]
      show (if 8 * (i + 1) ≤ t ∧ t < 8 * m then Y.1 34 t else if 8 * i + 0 ≤ t ∧ t < 8 * i + 8 then Y.1 34 t else Y.1 9 t) = _
      by_cases h1 : 8 * (i + 1) ≤ t ∧ t < 8 * m
      · rw [if_pos h1, if_pos (by omega)]
      · rw [if_neg h1]
        by_cases h2 : 8 * i + 0 ≤ t ∧ t < 8 * i + 8
        · rw [if_pos h2, if_pos (by omega)]
        · rw [if_neg h2, if_neg (by omega)]
/-- what comes back, without the law -/
theorem back_Rl {Y : xS} {Z : mS} (h : Rl X M) (hi : ¬ mC M 25 0 = 0)
    (yk : ∀ j, ¬ (j = 8 ∨ j = 9 ∨ j = 10 ∨ j = 14 ∨ j = 15 ∨ j = 57 ∨ j = 58) → (∀ r, r < imr (mC M) → j ≠ 80 + 4 * r) → Y.1 j = X.1 j) (y2 : Y.2 = X.2)
    (y8 : Y.1 8 = Z.1 0) (y9 : Y.1 9 = Z.1 1) (y10 : Y.1 10 = Z.1 2)
    (y14 : ∀ k, k < nk (mC M) → Y.1 14 k = Z.1 15 k ∧ Y.1 15 k = Z.1 16 k)
    (y57 : ∀ r, r < nr (mC M) → Y.1 57 r = Z.1 7 r ∧ Y.1 58 r = Z.1 8 r)
    (ys : ∀ r, r < nr (mC M) → ∀ c, c < 8 → Y.1 (80 + 4 * r) c = Z.1 9 (8 * r + c))
    (zk : ∀ j, ¬ (j = 0 ∨ j = 1 ∨ j = 2 ∨ j = 15 ∨ j = 16 ∨ j = 7 ∨ j = 8 ∨ j = 9) → Z.1 j = M.1 j) (z2 : Z.2 = M.2)
    (i0 : ∀ k, k < 4 → iv (Z.1 0 k) 0 40 ∧ iv (Z.1 1 k) 0 40 ∧ iv (Z.1 2 k) 0 9)
    (i15 : ∀ k, k < nk (mC M) → iv (Z.1 15 k) 0 20 ∧ iv (Z.1 16 k) 1 69)
    (i7 : ∀ r, r < nr (mC M) → iv (Z.1 7 r) 0 99 ∧ iv (Z.1 8 r) 0 1 ∧ ∀ c, c < 8 → iv (Z.1 9 (8 * r + c)) 0 3)
    (iz : ∀ r, nr (mC M) ≤ r → r < 6 → Z.1 7 r = 0 ∧ Z.1 8 r = 0 ∧ ∀ c, c < 8 → Z.1 9 (8 * r + c) = 0) : Rl Y Z := by
  obtain ⟨h1, h2, h3, h4, h5⟩ := h
  have hmr := (h4.2.2.2.2.1 hi).2.1
  have zC : ∀ j, ¬ (j = 0 ∨ j = 1 ∨ j = 2 ∨ j = 15 ∨ j = 16 ∨ j = 7 ∨ j = 8 ∨ j = 9) → mC Z j = mC M j := fun j hj => by
    unfold mC
    rw [zk j hj]
  have e3 : nr (mC Z) = nr (mC M) := nr_cg (zC 3 (by omega))
  have e10 : np (mC Z) = np (mC M) := np_cg (zC 10 (by omega))
  have e14 : nk (mC Z) = nk (mC M) := nk_cg (zC 14 (by omega))
  have e21 : nt (mC Z) = nt (mC M) := nt_cg (zC 21 (by omega))
  have e5 : ∀ r, ns (mC Z) r = ns (mC M) r := fun r => by unfold ns; rw [zC 5 (by omega)]
  have k : ∀ j, ¬ (j = 8 ∨ j = 9 ∨ j = 10 ∨ j = 14 ∨ j = 15 ∨ j = 57 ∨ j = 58) → j < 80 → Y.1 j = X.1 j := fun j hj hj2 => yk j hj (fun r _ => by omega)
  obtain ⟨g1, g2, g3, g4, g5, g6, g7, g8⟩ := h1
  obtain ⟨q1, q2, q3, q4, q5, q6, q7, q8⟩ := h3
  obtain ⟨p1, p2, p3, p4, p5, p6, p7⟩ := h4
  refine ⟨⟨?_, ⟨y8, y9, y10⟩, fun r hr => ?_, fun r hr c hc => ?_, ?_, fun j hj => ?_, ?_, g8.cg (k 0 (by omega) (by omega)) (k 1 (by omega) (by omega)) (k 19 (by omega) (by omega)) (by rw [y2]) (k 76 (by omega) (by omega)) (fun t => yk _ (by omega) (fun r _ => by omega)) (fun t => yk _ (by omega) (fun r _ => by omega)) (zC 19 (by omega)) (zC 20 (by omega)) (zC 21 (by omega)) (zC 22 (by omega))⟩, h2.cg2 (fun j hj => k j (by omega) (by omega)) (fun j hj => zC j (by omega)), ⟨?_, i0, fun r hr => ?_, fun r hr c hc => ?_, ?_, fun j hj => ?_, ?_, q8.cg (zC 19 (by omega)) (zC 20 (by omega)) (zC 21 (by omega)) (zC 22 (by omega))⟩, ⟨fun r hr => ?_, ?_, ?_, p4.cg (zC 18 (by omega)) (zC 17 (by omega)), p5.cg e3 e14 e21 (fun j g1 g2 => zC j (by omega)), p6.cg (zC 37 (by omega)) (zC 38 (by omega)), fun r hr hr6 => ?_⟩, by rw [z2]; exact h5⟩
  · unfold RS_n at g1 ⊢
    rw [k 16 (by omega) (by omega), k 17 (by omega) (by omega), k 18 (by omega) (by omega), y2, e3, zC 3 (by omega), zC 10 (by omega), zC 14 (by omega)]
    exact g1
  · rw [e3] at hr
    obtain ⟨r1, r2, r3, r4, r5, r6, r7, r8, r9, r10⟩ := g3 r hr
    rw [k 54 (by omega) (by omega), k 55 (by omega) (by omega), k 56 (by omega) (by omega), k 59 (by omega) (by omega), k 60 (by omega) (by omega), k 61 (by omega) (by omega), k 62 (by omega) (by omega), k 63 (by omega) (by omega), zC 4 (by omega), zC 5 (by omega), zC 6 (by omega)]
    exact ⟨r1, r2, r3, (y57 r hr).1, (y57 r hr).2, r6, r7, r8, r9, r10⟩
  · rw [e3] at hr
    rw [k 20 (by omega) (by omega), if_pos h2.1.1]
    exact (ys r hr c hc).symm
  · unfold RS_p at g5 ⊢
    rw [k 11 (by omega) (by omega), k 12 (by omega) (by omega), k 13 (by omega) (by omega), k 21 (by omega) (by omega), e10, zC 11 (by omega), zC 12 (by omega), zC 13 (by omega)]
    exact g5
  · rw [e14] at hj
    exact y14 j hj
  · unfold RS_h at g7 ⊢
    rw [k 24 (by omega) (by omega), k 22 (by omega) (by omega), k 23 (by omega) (by omega), e3, zC 23 (by omega), zC 24 (by omega)]
    exact g7
  · unfold IS_n at q1 ⊢
    rw [e3, e10, e14, zC 3 (by omega), zC 10 (by omega), zC 14 (by omega)]
    exact q1
  · rw [e3] at hr
    obtain ⟨s1, s2, s3, s4, s5, s6, s7⟩ := q3 r hr
    rw [zC 4 (by omega), zC 5 (by omega), zC 6 (by omega), e5]
    exact ⟨s1, s2, s3, s4, s5, iv_mono (i7 r hr).1 (by omega) (by omega), (i7 r hr).2.1⟩
  · rw [e3] at hr
    exact (i7 r hr).2.2 c hc
  · unfold IS_p at q5 ⊢
    rw [e10, zC 11 (by omega), zC 12 (by omega), zC 13 (by omega)]
    exact q5
  · rw [e14] at hj
    exact i15 j hj
  · unfold IS_h at q7 ⊢
    rw [zC 23 (by omega), zC 24 (by omega)]
    exact q7
  · rw [e3] at hr
    exact (i7 r hr).1
  · rw [e10, zC 12 (by omega)]
    exact p2
  · rw [zC 23 (by omega)]
    exact p3
  · rw [e3] at hr
    exact iz r hr hr6
theorem st_back (hN : 2000 ≤ N) (h : Rl X M) : ∃ r X1 M1, xf_X_back N X = some (r, X1) ∧ mf_back N M = some (r, M1) ∧ Rl X1 M1 := by
  obtain ⟨h1, h2, h3, h4, h5⟩ := id h
  have h6 := h3.1.2.1
  have h44 := h3.1.2.2.2.2.2
  have e26 : X.1 26 0 = M.1 25 0 := h2.2.2.1.1
  unfold xf_X_back
  by_cases hi : M.1 25 0 = 0
  · rw [e26, if_pos hi]
    have : mf_back N M = some (-3, M) := by
      unfold mf_back
      rw [if_pos hi]
    rw [this]
    exact ⟨_, X, M, rfl, rfl, h⟩
  · obtain ⟨m1, m2, m3, m4, m5, m6, m7, m8, m9⟩ := h4.2.2.2.2.1 hi
    obtain ⟨x1, x2, x3, x4, x5, x6⟩ := h2.2.2.1.2 hi
    have e28 : X.1 28 0 = nI (imr (mC M)) := x1.trans m1
    have e29 : X.1 29 0 = nI (imk (mC M)) := x2.trans m3
    have e27 : X.1 27 0 = nI (iml (mC M)) := x3.trans m5
    have en : X.2.2.1 = nr (mC M) := h1.1.2.2.2
    -- the class
    obtain ⟨Y, y1, y2, y3, y4, y5, y6⟩ := px_backIL (N := N) (S := X) (m := imr (mC M)) (by omega) (by omega) e28 (imr (mC M)) 0 N X (by omega) (by omega) (fun _ _ _ _ => rfl) rfl (fun r => by rw [if_neg (Nat.not_lt_zero r)]) (fun r => by rw [if_neg (Nat.not_lt_zero r)]) (fun r _ c _ => by rw [if_neg (Nat.not_lt_zero r)])
    rw [nI_0] at y1
    have k : ∀ j, j ≠ 57 → j ≠ 58 → j < 80 → Y.1 j = X.1 j := fun j g1 g2 g3 => y2 j g1 g2 (fun r _ => by omega)
    have e29y : Y.1 29 0 = nI (imk (mC M)) := by rw [k 29 (by omega) (by omega) (by omega)]; exact e29
    have c1 : cpok 0 0 4 4 4 = true := cpok_nI (s := 0) (d := 0) (n := 4) (by omega) (by omega) (by omega) (by omega) (by omega)
    have c2 : cpok 0 0 (Y.1 29 0) 4 4 = true := by
      rw [e29y]
      exact cpok_nI (s := 0) (d := 0) (by omega) (by omega) (by omega) (by omega) (by omega)
    have hrest : xf_I_restore N X = some (rF Y) := by
      rw [rest_eq, y1, bs1, if_pos c1, if_pos c1, if_pos c1, if_pos c2, if_pos c2]
    -- the reference, its law last
    obtain ⟨Z1, z11, z12, z13, z14, z15⟩ := md_backL1 (N := N) (kq := imk (mC M)) (by omega) 4 0 N M m3 (by omega) (by omega)
    obtain ⟨Z1', w11, w12, w13, w14, w15⟩ := md_backL1 (N := N) (kq := imk (mC M)) (by omega) 4 0 N (ms M 22 0 (M.1 28 0)) m3 (by omega) (by omega)
    have h26z : Z1.1 26 0 = nI (imr (mC M)) := by rw [z13 26 (by omega)]; exact m1
    have h26w : Z1'.1 26 0 = nI (imr (mC M)) := by rw [w13 26 (by omega)]; exact m1
    obtain ⟨Z, z21, z22, z23, z24, z25, z26⟩ := md_backL2 (N := N) hN (m := imr (mC M)) (by omega) (imr (mC M)) 0 N Z1 h26z (by omega) (by omega)
    obtain ⟨Z', w21, w22, w23, w24, w25, w26⟩ := md_backL2 (N := N) hN (m := imr (mC M)) (by omega) (imr (mC M)) 0 N Z1' h26w (by omega) (by omega)
    rw [nI_0] at z11 z21 w11 w21
    have hsame : Z' = ms Z 22 0 (M.1 28 0) := by
      have l1 : ∀ j, j ≠ 22 → Z1'.1 j = Z1.1 j := fun j hj => by
        by_cases hc : j = 0 ∨ j = 1 ∨ j = 2 ∨ j = 15 ∨ j = 16
        · funext t
          by_cases ht : t < 4
          · obtain ⟨a1, a2, a3, a4, a5⟩ := z15 t (by omega) ht
            obtain ⟨b1, b2, b3, b4, b5⟩ := w15 t (by omega) ht
            rcases hc with rfl | rfl | rfl | rfl | rfl
            · exact b1.trans a1.symm
            · exact b2.trans a2.symm
            · exact b3.trans a3.symm
            · exact b4.trans a4.symm
            · exact b5.trans a5.symm
          · obtain ⟨a1, a2, a3, a4, a5⟩ := z14 t (.inr (by omega))
            obtain ⟨b1, b2, b3, b4, b5⟩ := w14 t (.inr (by omega))
            rcases hc with rfl | rfl | rfl | rfl | rfl
            · exact b1.trans a1.symm
            · exact b2.trans a2.symm
            · exact b3.trans a3.symm
            · exact b4.trans a4.symm
            · exact b5.trans a5.symm
        · rw [z13 j hc, w13 j hc, ms_ne hj]
      refine mS_ext (fun j => ?_) (by rw [w22, w12]; exact (z22.trans z12).symm)
      by_cases e22 : j = 22
      · subst e22
        rw [w23 22 (by omega), w13 22 (by omega), ms_same, ms_same, z23 22 (by omega), z13 22 (by omega)]
      · rw [ms_ne e22]
        by_cases hc : j = 7 ∨ j = 8 ∨ j = 9
        · funext t
          rcases hc with rfl | rfl | rfl
          · rw [w24 t, z24 t, l1 32 (by omega), l1 7 (by omega)]
          · rw [w25 t, z25 t, l1 33 (by omega), l1 8 (by omega)]
          · rw [w26 t, z26 t, l1 34 (by omega), l1 9 (by omega)]
        · rw [w23 j hc, z23 j hc, l1 j e22]
    have hback : mf_back N M = some (Z'.1 3 0, Z') := by
      unfold mf_back
      rw [if_neg hi, w11, bs1, w21, bs1]
    have zk : ∀ j, ¬ (j = 0 ∨ j = 1 ∨ j = 2 ∨ j = 15 ∨ j = 16 ∨ j = 7 ∨ j = 8 ∨ j = 9) → Z.1 j = M.1 j := fun j hj => by
      rw [z23 j (by omega), z13 j (by omega)]
    have c4 : (4 : Int32).toNatClampNeg = 4 := rfl
    have z4 : ∀ t, t < 4 → Z.1 0 t = M.1 29 t ∧ Z.1 1 t = M.1 30 t ∧ Z.1 2 t = M.1 31 t ∧ (Z.1 15 t = if t < imk (mC M) then M.1 35 t else M.1 15 t) ∧ (Z.1 16 t = if t < imk (mC M) then M.1 36 t else M.1 16 t) := fun t ht => by
      rw [z23 0 (by omega), z23 1 (by omega), z23 2 (by omega), z23 15 (by omega), z23 16 (by omega)]
      exact z15 t (by omega) ht
    have z4o : ∀ t, 4 ≤ t → Z.1 0 t = M.1 0 t ∧ Z.1 1 t = M.1 1 t ∧ Z.1 2 t = M.1 2 t := fun t ht => by
      rw [z23 0 (by omega), z23 1 (by omega), z23 2 (by omega)]
      obtain ⟨a1, a2, a3, _⟩ := z14 t (.inr ht)
      exact ⟨a1, a2, a3⟩
    have z7 : ∀ t, Z.1 7 t = if t < imr (mC M) then M.1 32 t else M.1 7 t := fun t => by
      rw [z24 t, z13 32 (by omega), z13 7 (by omega)]
      by_cases hc : t < imr (mC M)
      · rw [if_pos (by omega), if_pos hc]
      · rw [if_neg (by omega), if_neg hc]
    have z8 : ∀ t, Z.1 8 t = if t < imr (mC M) then M.1 33 t else M.1 8 t := fun t => by
      rw [z25 t, z13 33 (by omega), z13 8 (by omega)]
      by_cases hc : t < imr (mC M)
      · rw [if_pos (by omega), if_pos hc]
      · rw [if_neg (by omega), if_neg hc]
    have z9 : ∀ t, Z.1 9 t = if t < 8 * imr (mC M) then M.1 34 t else M.1 9 t := fun t => by
      rw [z26 t, z13 34 (by omega), z13 9 (by omega)]
      by_cases hc : t < 8 * imr (mC M)
      · rw [if_pos (by omega), if_pos hc]
      · rw [if_neg (by omega), if_neg hc]
    have fk : ∀ j, ¬ (j = 8 ∨ j = 9 ∨ j = 10 ∨ j = 14 ∨ j = 15) → (rF Y).1 j = Y.1 j := fun j hj => by
      unfold rF
      rw [xf_ne (by omega), xf_ne (by omega), xf_ne (by omega), xf_ne (by omega), xf_ne (by omega)]
    have hRl : Rl (rF Y) Z := by
      refine back_Rl h hi (fun j g1 g2 => ?_) ?_ ?_ ?_ ?_ (fun j hj => ?_) (fun r hr => ?_) (fun r hr c hc => ?_) zk (z22.trans z12) (fun j hj => ?_) (fun j hj => ?_) (fun r hr => ?_) (fun r hr hr6 => ?_)
      · rw [fk j (by omega)]
        exact y2 j (by omega) (by omega) g2
      · exact y3
      · funext t
        show va_cpy (Y.1 32) (Y.1 8) (0 : Int32).toNatClampNeg (0 : Int32).toNatClampNeg (4 : Int32).toNatClampNeg t = _
        rw [cl_0, c4, k 32 (by omega) (by omega) (by omega), k 8 (by omega) (by omega) (by omega)]
        by_cases ht : t < 4
        · rw [pk_cpy_in (by omega) (by omega), (z4 t ht).1, show 0 + (t - 0) = t by omega]
          exact (x4 t ht).1
        · rw [pk_cpy_out (by omega), (z4o t (by omega)).1, h1.2.1.1]
          rfl
      · funext t
        show va_cpy (Y.1 33) (Y.1 9) (0 : Int32).toNatClampNeg (0 : Int32).toNatClampNeg (4 : Int32).toNatClampNeg t = _
        rw [cl_0, c4, k 33 (by omega) (by omega) (by omega), k 9 (by omega) (by omega) (by omega)]
        by_cases ht : t < 4
        · rw [pk_cpy_in (by omega) (by omega), (z4 t ht).2.1, show 0 + (t - 0) = t by omega]
          exact (x4 t ht).2.1
        · rw [pk_cpy_out (by omega), (z4o t (by omega)).2.1, h1.2.1.2.1]
          rfl
      · funext t
        show va_cpy (Y.1 34) (Y.1 10) (0 : Int32).toNatClampNeg (0 : Int32).toNatClampNeg (4 : Int32).toNatClampNeg t = _
        rw [cl_0, c4, k 34 (by omega) (by omega) (by omega), k 10 (by omega) (by omega) (by omega)]
        by_cases ht : t < 4
        · rw [pk_cpy_in (by omega) (by omega), (z4 t ht).2.2.1, show 0 + (t - 0) = t by omega]
          exact (x4 t ht).2.2
        · rw [pk_cpy_out (by omega), (z4o t (by omega)).2.2, h1.2.1.2.2]
          rfl
      · obtain ⟨o1, o2⟩ := h1.2.2.2.2.2.1 j hj
        obtain ⟨_, _, _, a4, a5⟩ := z4 j (by omega)
        refine ⟨?_, ?_⟩
        · show va_cpy (Y.1 35) (Y.1 14) (0 : Int32).toNatClampNeg (0 : Int32).toNatClampNeg (Y.1 29 0).toNatClampNeg j = _
          rw [cl_0, e29y, sm_clamp (by omega), k 35 (by omega) (by omega) (by omega), k 14 (by omega) (by omega) (by omega), a4]
          by_cases hjk : j < imk (mC M)
          · rw [pk_cpy_in (by omega) (by omega), if_pos hjk, show 0 + (j - 0) = j by omega]
            exact (x6 j hjk).1
          · rw [pk_cpy_out (by omega), if_neg hjk]
            exact o1
        · show va_cpy (Y.1 36) (Y.1 15) (0 : Int32).toNatClampNeg (0 : Int32).toNatClampNeg (Y.1 29 0).toNatClampNeg j = _
          rw [cl_0, e29y, sm_clamp (by omega), k 36 (by omega) (by omega) (by omega), k 15 (by omega) (by omega) (by omega), a5]
          by_cases hjk : j < imk (mC M)
          · rw [pk_cpy_in (by omega) (by omega), if_pos hjk, show 0 + (j - 0) = j by omega]
            exact (x6 j hjk).2
          · rw [pk_cpy_out (by omega), if_neg hjk]
            exact o2
      · obtain ⟨r1, r2, r3, r4, r5, _⟩ := h1.2.2.1 r hr
        rw [fk 57 (by omega), fk 58 (by omega), y4 r, y5 r, z7 r, z8 r]
        by_cases hc : r < imr (mC M)
        · obtain ⟨a1, a2, _⟩ := x5 r hc
          rw [if_pos hc, if_pos hc, if_pos hc, if_pos hc]
          exact ⟨a1, a2⟩
        · rw [if_neg hc, if_neg hc, if_neg hc, if_neg hc]
          exact ⟨r4, r5⟩
      · rw [fk (80 + 4 * r) (by omega), z9]
        by_cases hc2 : r < imr (mC M)
        · obtain ⟨_, _, a3⟩ := x5 r hc2
          rw [if_pos (by omega), y6 r hc2 c hc]
          exact a3 c hc
        · rw [if_neg (by omega), y2 (80 + 4 * r) (by omega) (by omega) (fun q hq => by omega)]
          have := h1.2.2.2.1 r hr c hc
          rw [if_pos h2.1.1] at this
          exact this.symm
      · obtain ⟨a1, a2, a3, _⟩ := z4 j hj
        rw [a1, a2, a3]
        exact m7 j hj
      · obtain ⟨_, _, _, a4, a5⟩ := z4 j (by omega)
        rw [a4, a5]
        by_cases hjk : j < imk (mC M)
        · rw [if_pos hjk, if_pos hjk]
          exact m9 j hjk
        · rw [if_neg hjk, if_neg hjk]
          exact h3.2.2.2.2.2.1 j hj
      · rw [z7 r, z8 r]
        by_cases hc : r < imr (mC M)
        · obtain ⟨b1, b2, b3⟩ := m8 r hc
          rw [if_pos hc, if_pos hc]
          refine ⟨b1, b2, fun c hc8 => ?_⟩
          rw [z9, if_pos (by omega)]
          exact b3 c hc8
        · rw [if_neg hc, if_neg hc]
          refine ⟨h4.1 r hr, (h3.2.2.1 r hr).2.2.2.2.2.2, fun c hc8 => ?_⟩
          rw [z9, if_neg (by omega)]
          exact h3.2.2.2.1 r hr c hc8
      · obtain ⟨b1, b2, b3⟩ := h4.2.2.2.2.2.2 r hr hr6
        rw [z7 r, z8 r, if_neg (by omega), if_neg (by omega)]
        refine ⟨b1, b2, fun c hc8 => ?_⟩
        rw [z9, if_neg (by omega)]
        exact b3 c hc8
    have e27f : (rF Y).1 27 0 = nI (iml (mC M)) := by
      rw [fk 27 (by omega), k 27 (by omega) (by omega) (by omega)]
      exact e27
    have hnt : nt (mC Z) = nt (mC M) := nt_cg (by
      unfold mC
      rw [zk 21 (by omega)])
    have hlaw := hRl.law (t := iml (mC M)) (by rw [hnt]; exact m6)
    have hforce : xf_X_force N (rF Y) (nI (iml (mC M))) = some ((rF Y).1 1 0, xs (xs (rF Y) 1 0 (nI (iml (mC M)))) 19 0 (nI (iml (mC M)))) := by
      have h7 := h3.2.2.2.2.2.2.2.2.2.1
      have e0 : (rF Y).1 0 0 = nI (nt (mC M)) := by
        rw [fk 0 (by omega), k 0 (by omega) (by omega) (by omega)]
        exact h1.2.2.2.2.2.2.2.1.trans h3.2.2.2.2.2.2.2.1
      have e2 : (rF Y).2.2.2 = nt (mC M) := by
        show Y.2.2.2 = _
        rw [y3]
        exact h1.2.2.2.2.2.2.2.2.2.2.1
      unfold xf_X_force
      rw [if_neg (nI_pos (by omega)), e0, if_pos ((sm_lt (by omega) (by omega)).mpr m6), if_pos (sm_ok (show iml (mC M) < 6 by omega) (by omega)), sm_clamp (show iml (mC M) < 100000000 by omega), e2, if_pos m6]
    have e28m : M.1 28 0 = nI (iml (mC M)) := m5
    rw [e28m] at hsame
    rw [← hsame] at hlaw
    have e16 : (xs (xs (rF Y) 1 0 (nI (iml (mC M)))) 19 0 (nI (iml (mC M)))).1 16 0 = nI (nr (mC M)) := by
      rw [xs_ne (by omega), xs_ne (by omega), fk 16 (by omega), k 16 (by omega) (by omega) (by omega)]
      exact h1.1.1.trans h3.1.1
    have e3z : Z'.1 3 0 = nI (nr (mC M)) := by
      rw [w23 3 (by omega), w13 3 (by omega)]
      exact h3.1.1
    rw [e26, if_neg hi, hrest, bs1, e27f, hforce, bs2, e16, hback, e3z]
    exact ⟨_, _, _, rfl, rfl, hlaw⟩
end A
end PBACK
