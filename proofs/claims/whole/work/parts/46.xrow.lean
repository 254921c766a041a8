/-! a new row: the world under its new names -/
def xgR (g : xG) (r a u : Nat) : xG := (g.1, g.2.1, fun k => if k = 100 + 2 * r then a else if k = 100 + (2 * r + 1) then u else g.2.2 k)
def xgT (g g2 : xG) : Prop := g2.1 = g.1 ∧ g2.2.1 = g.2.1 ∧ ∀ k, k = 0 ∨ 300 ≤ k → g2.2.2 k = g.2.2 k
theorem xgT_R (g : xG) {r : Nat} (a u : Nat) (hr : r < 6) : xgT g (xgR g r a u) := ⟨rfl, rfl, fun k hk => by
  show (if k = 100 + 2 * r then a else if k = 100 + (2 * r + 1) then u else g.2.2 k) = _
  rw [if_neg (by omega), if_neg (by omega)]⟩
def xRowC (k n s m : Int32) (c : Nat) : Int32 := if c = 54 then k else if c = 55 then n else if c = 56 then s else if c = 57 then 0 else if c = 58 then 0 else if c = 59 then nrAside k m else if c = 60 then nrAbove k m else if c = 61 then nrFar k n else if c = 62 then nrLow k m else nrAmong k
def xRowNew (S : xS) (k n s m : Int32) : xS := (fun j => if j = 80 + 4 * S.2.2.1 then (fun _ => 0) else if 54 ≤ j ∧ j ≤ 63 then upd (S.1 j) S.2.2.1 (xRowC k n s m j) else S.1 j, S.2.1, S.2.2.1 + 1, S.2.2.2)
section NR
variable {g : xG} {S : xS} {k n s2 m2 : Int32} {a u r j i : Nat}
theorem xr_R (h : j ≠ 100 + 2 * r) (h2 : j ≠ 100 + (2 * r + 1)) : xr (xgR g r a u) j = xr g j := by
  show (if j = 100 + 2 * r then a else if j = 100 + (2 * r + 1) then u else g.2.2 j) = _
  rw [if_neg h, if_neg h2]
theorem xr_Ra : xr (xgR g r a u) (100 + 2 * r) = a := if_pos rfl
theorem xr_Ru : xr (xgR g r a u) (100 + (2 * r + 1)) = u := by
  show (if 100 + (2 * r + 1) = 100 + 2 * r then a else if 100 + (2 * r + 1) = 100 + (2 * r + 1) then u else _) = _
  rw [if_neg (by omega), if_pos rfl]
theorem xN_eq : (xRowNew S k n s2 m2).1 j = if j = 80 + 4 * S.2.2.1 then (fun _ => 0) else if 54 ≤ j ∧ j ≤ 63 then upd (S.1 j) S.2.2.1 (xRowC k n s2 m2 j) else S.1 j := rfl
theorem xN_lo (h : (j < 54 ∨ 63 < j) ∧ j ≠ 80 + 4 * S.2.2.1) : (xRowNew S k n s2 m2).1 j = S.1 j := by
  rw [xN_eq, if_neg h.2, if_neg (by omega)]
theorem xN_row (h : 54 ≤ j ∧ j ≤ 63) : (xRowNew S k n s2 m2).1 j = upd (S.1 j) S.2.2.1 (xRowC k n s2 m2 j) := by
  rw [xN_eq, if_neg (by omega), if_pos h]
theorem xN_rowne (h : 54 ≤ j ∧ j ≤ 63) (hi : i ≠ S.2.2.1) : (xRowNew S k n s2 m2).1 j i = S.1 j i := by
  rw [xN_row h]
  exact if_neg hi
theorem xN_rowat (h : 54 ≤ j ∧ j ≤ 63) : (xRowNew S k n s2 m2).1 j S.2.2.1 = xRowC k n s2 m2 j := by
  rw [xN_row h]
  exact if_pos rfl
theorem xN_new : (xRowNew S k n s2 m2).1 (80 + 4 * S.2.2.1) = fun _ => 0 := by rw [xN_eq, if_pos rfl]

set_option maxHeartbeats 4000000 in
set_option maxRecDepth 100000 in
theorem xA_R (hr : S.2.2.1 < 6) (hh : S.1 24 0 < 0 ∨ (S.1 24 0).toNatClampNeg < S.2.2.1) : xA (xgR g S.2.2.1 a u) (xRowNew S k n s2 m2) = (xA g S).set 29 (xr g 29, .inl (xc g 3, 6, .inr (.inr (.inr (.inr (va_up (fun j => if j < S.2.2.1 then some (xr g (100 + 2 * j)) else none) S.2.2.1 (some a)))))))  := by
  have e0 : xr (xgR g S.2.2.1 a u) 0 = xr g 0 := xr_R (by omega) (by omega)
  have e1 : xr (xgR g S.2.2.1 a u) 1 = xr g 1 := xr_R (by omega) (by omega)
  have e2 : xr (xgR g S.2.2.1 a u) 2 = xr g 2 := xr_R (by omega) (by omega)
  have e3 : xr (xgR g S.2.2.1 a u) 3 = xr g 3 := xr_R (by omega) (by omega)
  have e4 : xr (xgR g S.2.2.1 a u) 4 = xr g 4 := xr_R (by omega) (by omega)
  have e5 : xr (xgR g S.2.2.1 a u) 5 = xr g 5 := xr_R (by omega) (by omega)
  have e6 : xr (xgR g S.2.2.1 a u) 6 = xr g 6 := xr_R (by omega) (by omega)
  have e7 : xr (xgR g S.2.2.1 a u) 7 = xr g 7 := xr_R (by omega) (by omega)
  have e8 : xr (xgR g S.2.2.1 a u) 8 = xr g 8 := xr_R (by omega) (by omega)
  have e9 : xr (xgR g S.2.2.1 a u) 9 = xr g 9 := xr_R (by omega) (by omega)
  have e10 : xr (xgR g S.2.2.1 a u) 10 = xr g 10 := xr_R (by omega) (by omega)
  have e11 : xr (xgR g S.2.2.1 a u) 11 = xr g 11 := xr_R (by omega) (by omega)
  have e12 : xr (xgR g S.2.2.1 a u) 12 = xr g 12 := xr_R (by omega) (by omega)
  have e13 : xr (xgR g S.2.2.1 a u) 13 = xr g 13 := xr_R (by omega) (by omega)
  have e14 : xr (xgR g S.2.2.1 a u) 14 = xr g 14 := xr_R (by omega) (by omega)
  have e15 : xr (xgR g S.2.2.1 a u) 15 = xr g 15 := xr_R (by omega) (by omega)
  have e16 : xr (xgR g S.2.2.1 a u) 16 = xr g 16 := xr_R (by omega) (by omega)
  have e17 : xr (xgR g S.2.2.1 a u) 17 = xr g 17 := xr_R (by omega) (by omega)
  have e18 : xr (xgR g S.2.2.1 a u) 18 = xr g 18 := xr_R (by omega) (by omega)
  have e19 : xr (xgR g S.2.2.1 a u) 19 = xr g 19 := xr_R (by omega) (by omega)
  have e20 : xr (xgR g S.2.2.1 a u) 20 = xr g 20 := xr_R (by omega) (by omega)
  have e21 : xr (xgR g S.2.2.1 a u) 21 = xr g 21 := xr_R (by omega) (by omega)
  have e22 : xr (xgR g S.2.2.1 a u) 22 = xr g 22 := xr_R (by omega) (by omega)
  have e23 : xr (xgR g S.2.2.1 a u) 23 = xr g 23 := xr_R (by omega) (by omega)
  have e24 : xr (xgR g S.2.2.1 a u) 24 = xr g 24 := xr_R (by omega) (by omega)
  have e25 : xr (xgR g S.2.2.1 a u) 25 = xr g 25 := xr_R (by omega) (by omega)
  have e26 : xr (xgR g S.2.2.1 a u) 26 = xr g 26 := xr_R (by omega) (by omega)
  have e27 : xr (xgR g S.2.2.1 a u) 27 = xr g 27 := xr_R (by omega) (by omega)
  have e28 : xr (xgR g S.2.2.1 a u) 28 = xr g 28 := xr_R (by omega) (by omega)
  have e29 : xr (xgR g S.2.2.1 a u) 29 = xr g 29 := xr_R (by omega) (by omega)
  have e30 : xr (xgR g S.2.2.1 a u) 30 = xr g 30 := xr_R (by omega) (by omega)
  have e31 : xr (xgR g S.2.2.1 a u) 31 = xr g 31 := xr_R (by omega) (by omega)
  have e32 : xr (xgR g S.2.2.1 a u) 32 = xr g 32 := xr_R (by omega) (by omega)
  have e33 : xr (xgR g S.2.2.1 a u) 33 = xr g 33 := xr_R (by omega) (by omega)
  have e34 : xr (xgR g S.2.2.1 a u) 34 = xr g 34 := xr_R (by omega) (by omega)
  have e35 : xr (xgR g S.2.2.1 a u) 35 = xr g 35 := xr_R (by omega) (by omega)
  have c0 : (xRowNew S k n s2 m2).1 0 = S.1 0 := xN_lo ⟨by decide, by omega⟩
  have c1 : (xRowNew S k n s2 m2).1 1 = S.1 1 := xN_lo ⟨by decide, by omega⟩
  have c2 : (xRowNew S k n s2 m2).1 2 = S.1 2 := xN_lo ⟨by decide, by omega⟩
  have c3 : (xRowNew S k n s2 m2).1 3 = S.1 3 := xN_lo ⟨by decide, by omega⟩
  have c4 : (xRowNew S k n s2 m2).1 4 = S.1 4 := xN_lo ⟨by decide, by omega⟩
  have c5 : (xRowNew S k n s2 m2).1 5 = S.1 5 := xN_lo ⟨by decide, by omega⟩
  have c6 : (xRowNew S k n s2 m2).1 6 = S.1 6 := xN_lo ⟨by decide, by omega⟩
  have c7 : (xRowNew S k n s2 m2).1 7 = S.1 7 := xN_lo ⟨by decide, by omega⟩
  have c8 : (xRowNew S k n s2 m2).1 8 = S.1 8 := xN_lo ⟨by decide, by omega⟩
  have c9 : (xRowNew S k n s2 m2).1 9 = S.1 9 := xN_lo ⟨by decide, by omega⟩
  have c10 : (xRowNew S k n s2 m2).1 10 = S.1 10 := xN_lo ⟨by decide, by omega⟩
  have c11 : (xRowNew S k n s2 m2).1 11 = S.1 11 := xN_lo ⟨by decide, by omega⟩
  have c12 : (xRowNew S k n s2 m2).1 12 = S.1 12 := xN_lo ⟨by decide, by omega⟩
  have c13 : (xRowNew S k n s2 m2).1 13 = S.1 13 := xN_lo ⟨by decide, by omega⟩
  have c14 : (xRowNew S k n s2 m2).1 14 = S.1 14 := xN_lo ⟨by decide, by omega⟩
  have c15 : (xRowNew S k n s2 m2).1 15 = S.1 15 := xN_lo ⟨by decide, by omega⟩
  have c16 : (xRowNew S k n s2 m2).1 16 = S.1 16 := xN_lo ⟨by decide, by omega⟩
  have c17 : (xRowNew S k n s2 m2).1 17 = S.1 17 := xN_lo ⟨by decide, by omega⟩
  have c18 : (xRowNew S k n s2 m2).1 18 = S.1 18 := xN_lo ⟨by decide, by omega⟩
  have c19 : (xRowNew S k n s2 m2).1 19 = S.1 19 := xN_lo ⟨by decide, by omega⟩
  have c20 : (xRowNew S k n s2 m2).1 20 = S.1 20 := xN_lo ⟨by decide, by omega⟩
  have c21 : (xRowNew S k n s2 m2).1 21 = S.1 21 := xN_lo ⟨by decide, by omega⟩
  have c22 : (xRowNew S k n s2 m2).1 22 = S.1 22 := xN_lo ⟨by decide, by omega⟩
  have c23 : (xRowNew S k n s2 m2).1 23 = S.1 23 := xN_lo ⟨by decide, by omega⟩
  have c24 : (xRowNew S k n s2 m2).1 24 = S.1 24 := xN_lo ⟨by decide, by omega⟩
  have c25 : (xRowNew S k n s2 m2).1 25 = S.1 25 := xN_lo ⟨by decide, by omega⟩
  have c26 : (xRowNew S k n s2 m2).1 26 = S.1 26 := xN_lo ⟨by decide, by omega⟩
  have c27 : (xRowNew S k n s2 m2).1 27 = S.1 27 := xN_lo ⟨by decide, by omega⟩
  have c28 : (xRowNew S k n s2 m2).1 28 = S.1 28 := xN_lo ⟨by decide, by omega⟩
  have c29 : (xRowNew S k n s2 m2).1 29 = S.1 29 := xN_lo ⟨by decide, by omega⟩
  have c30 : (xRowNew S k n s2 m2).1 30 = S.1 30 := xN_lo ⟨by decide, by omega⟩
  have c31 : (xRowNew S k n s2 m2).1 31 = S.1 31 := xN_lo ⟨by decide, by omega⟩
  have c32 : (xRowNew S k n s2 m2).1 32 = S.1 32 := xN_lo ⟨by decide, by omega⟩
  have c33 : (xRowNew S k n s2 m2).1 33 = S.1 33 := xN_lo ⟨by decide, by omega⟩
  have c34 : (xRowNew S k n s2 m2).1 34 = S.1 34 := xN_lo ⟨by decide, by omega⟩
  have c35 : (xRowNew S k n s2 m2).1 35 = S.1 35 := xN_lo ⟨by decide, by omega⟩
  have c36 : (xRowNew S k n s2 m2).1 36 = S.1 36 := xN_lo ⟨by decide, by omega⟩
  have c37 : (xRowNew S k n s2 m2).1 37 = S.1 37 := xN_lo ⟨by decide, by omega⟩
  have c38 : (xRowNew S k n s2 m2).1 38 = S.1 38 := xN_lo ⟨by decide, by omega⟩
  have c39 : (xRowNew S k n s2 m2).1 39 = S.1 39 := xN_lo ⟨by decide, by omega⟩
  have c40 : (xRowNew S k n s2 m2).1 40 = S.1 40 := xN_lo ⟨by decide, by omega⟩
  have c41 : (xRowNew S k n s2 m2).1 41 = S.1 41 := xN_lo ⟨by decide, by omega⟩
  have c42 : (xRowNew S k n s2 m2).1 42 = S.1 42 := xN_lo ⟨by decide, by omega⟩
  have c43 : (xRowNew S k n s2 m2).1 43 = S.1 43 := xN_lo ⟨by decide, by omega⟩
  have c44 : (xRowNew S k n s2 m2).1 44 = S.1 44 := xN_lo ⟨by decide, by omega⟩
  have c45 : (xRowNew S k n s2 m2).1 45 = S.1 45 := xN_lo ⟨by decide, by omega⟩
  have c46 : (xRowNew S k n s2 m2).1 46 = S.1 46 := xN_lo ⟨by decide, by omega⟩
  have c47 : (xRowNew S k n s2 m2).1 47 = S.1 47 := xN_lo ⟨by decide, by omega⟩
  have c48 : (xRowNew S k n s2 m2).1 48 = S.1 48 := xN_lo ⟨by decide, by omega⟩
  have c49 : (xRowNew S k n s2 m2).1 49 = S.1 49 := xN_lo ⟨by decide, by omega⟩
  have c50 : (xRowNew S k n s2 m2).1 50 = S.1 50 := xN_lo ⟨by decide, by omega⟩
  have c51 : (xRowNew S k n s2 m2).1 51 = S.1 51 := xN_lo ⟨by decide, by omega⟩
  have c52 : (xRowNew S k n s2 m2).1 52 = S.1 52 := xN_lo ⟨by decide, by omega⟩
  have c53 : (xRowNew S k n s2 m2).1 53 = S.1 53 := xN_lo ⟨by decide, by omega⟩
  have c70 : (xRowNew S k n s2 m2).1 70 = S.1 70 := xN_lo ⟨by decide, by omega⟩
  have c71 : (xRowNew S k n s2 m2).1 71 = S.1 71 := xN_lo ⟨by decide, by omega⟩
  have c72 : (xRowNew S k n s2 m2).1 72 = S.1 72 := xN_lo ⟨by decide, by omega⟩
  have c73 : (xRowNew S k n s2 m2).1 73 = S.1 73 := xN_lo ⟨by decide, by omega⟩
  have hv : xtv (xgR g S.2.2.1 a u) (S.1 19 0) = xtv g (S.1 19 0) := by unfold xtv; rw [xr_R (by omega) (by omega)]
  have hw : xrv (xgR g S.2.2.1 a u) (S.1 24 0) = xrv g (S.1 24 0) := by
    unfold xrv
    rcases hh with h | h
    · rw [if_pos h, if_pos h]
    · rw [xr_R (by omega) (by omega)]
  have hb : xbv (xgR g S.2.2.1 a u) (S.1 39 0) = xbv g (S.1 39 0) := by unfold xbv; rw [e10]
  have hf : (fun j => if j < S.2.2.1 + 1 then some (xr (xgR g S.2.2.1 a u) (100 + 2 * j)) else none) = va_up (fun j => if j < S.2.2.1 then some (xr g (100 + 2 * j)) else none) S.2.2.1 (some a) := by
    funext j
    by_cases hj : j = S.2.2.1
    · subst hj
      rw [va_up_self, if_pos (by omega), xr_Ra]
    · rw [va_up_ne _ _ hj]
      by_cases hl : j < S.2.2.1
      · rw [if_pos (by omega), if_pos hl, xr_R (by omega) (by omega)]
      · rw [if_neg (by omega), if_neg hl]
  have ht : (fun j => if j < S.2.2.2 then some (xr (xgR g S.2.2.1 a u) (200 + 4 * j)) else none) = fun j => if j < S.2.2.2 then some (xr g (200 + 4 * j)) else none := by
    funext j
    rw [xr_R (by omega) (by omega)]
  have hz : (fun j => if j < 4 then some (xr (xgR g S.2.2.1 a u) (32 + j)) else none) = fun j => if j < 4 then some (xr g (32 + j)) else none := by
    funext j
    by_cases hl : j < 4
    · rw [if_pos hl, if_pos hl, xr_R (by omega) (by omega)]
    · rw [if_neg hl, if_neg hl]
  have hn1 : (xRowNew S k n s2 m2).2.2.1 = S.2.2.1 + 1 := rfl
  have hn2 : (xRowNew S k n s2 m2).2.2.2 = S.2.2.2 := rfl
  have hn3 : (xRowNew S k n s2 m2).2.1 = S.2.1 := rfl
  unfold xA xO_this xO_hall xO_image xO_reader xO_line
  rw [e0, e1, e2, e3, e4, e5, e6, e7, e8, e9, e10, e11, e12, e13, e14, e15, e16, e17, e18, e19, e20, e21, e22, e23, e24, e25, e26, e27, e28, e29, e30, e31, e32, e33, e34, e35]
  simp only [hn1, hn2, hn3, c0, c1, c2, c3, c4, c5, c6, c7, c8, c9, c10, c11, c12, c13, c14, c15, c16, c17, c18, c19, c20, c21, c22, c23, c24, c25, c26, c27, c28, c29, c30, c31, c32, c33, c34, c35, c36, c37, c38, c39, c40, c41, c42, c43, c44, c45, c46, c47, c48, c49, c50, c51, c52, c53, c70, c71, c72, c73, hv, hw, hb, hf, ht, hz]
  rfl
set_option maxHeartbeats 4000000 in
theorem xRw_R (hr : S.2.2.1 < 6) : xRw (xgR g S.2.2.1 a u) (xRowNew S k n s2 m2) = xRw g S ++ nrL g a u k n s2 m2 := by
  unfold xRw
  show (List.range (2 * (S.2.2.1 + 1))).map _ = _
  rw [show 2 * (S.2.2.1 + 1) = 2 * S.2.2.1 + 1 + 1 by omega, List.range_succ, List.range_succ, List.map_append, List.map_append, List.append_assoc]
  congr 1
  · refine List.map_congr_left fun i hi => ?_
    have hi : i < 2 * S.2.2.1 := List.mem_range.mp hi
    rw [xr_R (by omega) (by omega)]
    congr 1
    unfold xRc
    by_cases h : i % 2 = 0
    · rw [if_pos h, if_pos h]
      unfold xRf
      rw [xr_R (by omega) (by omega), xN_rowne (j := 54) (by decide) (by omega), xN_rowne (j := 55) (by decide) (by omega), xN_rowne (j := 56) (by decide) (by omega), xN_rowne (j := 57) (by decide) (by omega), xN_rowne (j := 58) (by decide) (by omega), xN_rowne (j := 59) (by decide) (by omega), xN_rowne (j := 60) (by decide) (by omega), xN_rowne (j := 61) (by decide) (by omega), xN_rowne (j := 62) (by decide) (by omega), xN_rowne (j := 63) (by decide) (by omega)]
    · rw [if_neg h, if_neg h, xN_lo ⟨Or.inr (by omega), by omega⟩]
      rfl
  · have h1 : xRc (xgR g S.2.2.1 a u) (xRowNew S k n s2 m2) (2 * S.2.2.1) = .inr (xci k, [.int k, .int n, .int s2, .ref u, .int 0, .int 0, .int (nrAside k m2), .int (nrAbove k m2), .int (nrFar k n), .int (nrLow k m2), .int (nrAmong k)]) := by
      unfold xRc xRf
      rw [if_pos (by omega), show 2 * S.2.2.1 / 2 = S.2.2.1 by omega, xr_Ru, xN_rowat (j := 54) (by decide), xN_rowat (j := 55) (by decide), xN_rowat (j := 56) (by decide), xN_rowat (j := 57) (by decide), xN_rowat (j := 58) (by decide), xN_rowat (j := 59) (by decide), xN_rowat (j := 60) (by decide), xN_rowat (j := 61) (by decide), xN_rowat (j := 62) (by decide), xN_rowat (j := 63) (by decide)]
      rfl
    have h2 : xRc (xgR g S.2.2.1 a u) (xRowNew S k n s2 m2) (2 * S.2.2.1 + 1) = .inl (xc g 0, 8, .inl (fun _ => 0)) := by
      unfold xRc
      rw [if_neg (by omega), show (2 * S.2.2.1 + 1) / 2 = S.2.2.1 by omega, xN_new]
      rfl
    show [(xr (xgR g S.2.2.1 a u) (100 + 2 * S.2.2.1), _)] ++ [(xr (xgR g S.2.2.1 a u) (100 + (2 * S.2.2.1 + 1)), _)] = _
    rw [xr_Ra, xr_Ru, h1, h2]
    rfl
theorem xTx_R (hr : S.2.2.1 < 6) : xTx (xgR g S.2.2.1 a u) (xRowNew S k n s2 m2) = xTx g S := by
  unfold xTx
  show (List.range (4 * S.2.2.2)).map _ = _
  refine List.map_congr_left fun i hi => ?_
  rw [xr_R (by omega) (by omega)]
  congr 1
  unfold xTc xTf
  rw [xr_R (by omega) (by omega), xr_R (by omega) (by omega), xr_R (by omega) (by omega), xN_lo (j := 76) ⟨by decide, by omega⟩, xN_lo (j := 81 + 4 * (i / 4)) ⟨Or.inr (by omega), by omega⟩, xN_lo (j := 82 + 4 * (i / 4)) ⟨Or.inr (by omega), by omega⟩, xN_lo (j := 83 + 4 * (i / 4)) ⟨Or.inr (by omega), by omega⟩]
  rfl
end NR
theorem va_D_nodup {A : Nat → Prop} {X : va_W} (h : va_D A X) : (X.map Prod.fst).Nodup := by
  rw [List.Nodup, List.pairwise_iff_getElem]
  intro i j hi hj hij
  simp only [List.getElem_map]
  intro he
  have := h.1 i j _ _ (List.getElem?_eq_getElem (by simpa using hi)) (List.getElem?_eq_getElem (by simpa using hj)) he
  omega
theorem va_D_nd {A : Nat → Prop} {X : va_W} (hn : (X.map Prod.fst).Nodup) (hA : ∀ q ∈ X, A q.1) : va_D A X := by
  refine ⟨fun i j p q hi hj he => ?_, fun k q hk => hA q (List.mem_of_getElem? hk)⟩
  obtain ⟨hi1, rfl⟩ := List.getElem?_eq_some_iff.mp hi
  obtain ⟨hj1, rfl⟩ := List.getElem?_eq_some_iff.mp hj
  rw [List.Nodup, List.pairwise_iff_getElem] at hn
  rcases Nat.lt_trichotomy i j with h | h | h
  · exact absurd (by rw [List.getElem_map, List.getElem_map]; exact he) (hn i j (by simpa using hi1) (by simpa using hj1) h)
  · exact h
  · exact absurd (by rw [List.getElem_map, List.getElem_map]; exact he.symm) (hn j i (by simpa using hj1) (by simpa using hi1) h)
theorem xJ_perm {g : xG} {A : Nat → Prop} {H0 H : Heap} {s : State} {X Y : va_W} {locs : List Loc} (hp : X.Perm Y) (h : xJ g A H0 s X H locs) : xJ g A H0 s Y H locs := by
  have hm : ∀ q ∈ Y, ∃ i, X[i]? = some q := fun q hq => List.mem_iff_getElem?.mp (hp.mem_iff.mpr hq)
  refine ⟨h.1, fun k q hk => ?_, va_D_nd ((hp.map _).nodup_iff.mp (va_D_nodup h.2.2.1)) (fun q hq => ?_), h.2.2.2⟩
  · obtain ⟨i, hi⟩ := hm q (List.mem_of_getElem? hk)
    exact h.2.1 i q hi
  · obtain ⟨i, hi⟩ := hm q hq
    exact h.2.2.1.2 i q hi
theorem xE_g {g g2 : xG} {A : Nat → Prop} {s : State} (hg : xgT g g2) (h : xE g A s) : xE g2 A s := by
  obtain ⟨h1, h2, h3, h4, h5, h6⟩ := h
  have e1 : (fun i => xr g2 (300 + i)) = fun i => xr g (300 + i) := funext fun i => hg.2.2 _ (by omega)
  have e2 : (fun i => xr g2 (320 + i)) = fun i => xr g (320 + i) := funext fun i => hg.2.2 _ (by omega)
  refine ⟨h1, h2, h3, fun i q hq => ?_, ?_, h6⟩
  · show vk_R _ _ _ (g2.2.2 (300 + i)) s
    rw [hg.2.2 _ (by omega)]
    exact h4 i q hq
  · rw [e1, e2]
    exact h5
/-- a method that makes names: its answer, the class's world under them -/
def xMix (l : Launch) (y : MethodName) (bytes : ByteArray) (maxL : Nat) (ty : FieldType) (d mc ms : Nat) (avs : xG → List Value) (S : xS) (r : Int32) (S1 : xS) : Prop := ∀ (g : xG) (sz : Nat), Met l y (Cond.code y bytes maxL (some ty) :: lw_g) { frames := d, cells := mc, slots := ms, locals := 40 * d } (xPc g avs S sz) (va_Qi (fun x (g2 : xG) => x = r ∧ xgT g g2) (fun g2 t => va_P g2.1 vwCl (xW g2 S1) t.heap ∧ va_K g2.1 vwCl (xT g2) t ∧ va_D (va_A (xW g S) sz) (xW g2 S1)) (va_A (xW g S) sz)) mc ms (va_A (xW g S) sz)
theorem xgT_rf (g : xG) : xgT g g := ⟨rfl, rfl, fun _ _ => rfl⟩
theorem xMix_of {l : Launch} {y : MethodName} {own : String} {cc : ByteArray} {n d mc ms : Nat} {ty : FieldType} {avs : xG → List Value} {S S1 : xS} {r : Int32} (hy : plainName y.cls = true) (ho : y.cls = own) (hn : narrow ty (.int r) = .int r) (hav : ∀ g, (lg_sl (avs g)).length ≤ n)
    (body : ∀ (p : Program) (e : Env) (R : Room) (s : State) (m : MethodId) (args : Array Value) (below : List Frame) (meth : Method) (c : Code) (Q : State → Prop) (g : xG) (A : Nat → Prop) (H0 H : Heap) (locs : List Loc) (ls : Array Slot), qC own cc p s m args c → qRoom R d → mc ≤ R.cells ∧ ms ≤ R.slots → c.maxLocals = n → xI g A H0 s S H locs → lv_has ls n (lv_args 0 (avs g)) →
      (∀ (g2 : xG) (H : Heap) (locs : List Loc) (pc : Nat) (ls : Array Slot), decode cc pc = .ok (.ireturn, 1) → xgT g g2 → xI g2 A H0 s S1 H locs → W p l e R s m args below meth c H locs mc ms Q (F0 m pc ls [.int r])) → W p l e R s m args below meth c H locs 0 0 Q (F0 m 0 ls [])) : xMix l y cc n ty d mc ms avs S r S1 := by
  subst ho
  intro g sz
  refine Met.ofW (cc := cc) (maxL := n) (ret := some ty) hy rfl ?_
  intro p e s m args below meth c s₁ B hml hv
  obtain ⟨rfl, hsz, hP, hK, hD0, hE⟩ := hv
  have hts := atoms_spec (ws := Cond.code y cc n (some ty) :: lw_g) B.pre
  have hown : s.vm.findClass y.cls = some m.cls := findClass_of_methodNamed B.named
  have hlocks := B.notSynchronized
  have hl := lv_entry (avs g) (n := n) (hav g)
  rw [lg_entry_eq]
  refine body p e _ s m _ below meth c _ g (va_A (xW g S) sz) s.heap s.heap [] _ ⟨B.exec, B.bytes, hown, fun w hw => hts w (List.mem_cons_of_mem _ hw)⟩ ⟨Nat.le_refl _, Nat.le_refl _⟩ ⟨Nat.le_refl _, Nat.le_refl _⟩ hml (xI_of_Pc hsz hP hK hD0 hE) hl ?_
  intro g2 H locs pc ls hd hg hw
  exact W.zret B.exec B.bytes B.returns hn (fun t ht hW => ⟨⟨r, g2, rfl, ⟨rfl, hg⟩, by rw [ht]; exact hw.2.1, va_K.moved hW.alike hw.1, hw.2.2.1⟩, hw.2.2.2.1.F ht⟩) hw.2.2.2.1.2.2 hd
theorem xci_ks (k : Int32) : xci k = 9 ∨ xci k = 6 ∨ xci k = 3 ∨ xci k = 0 ∨ xci k = 5 ∨ xci k = 8 := by
  unfold xci
  repeat' split
  all_goals simp
theorem xJ_row {g : xG} {A : Nat → Prop} {H0 H : Heap} {s : State} {S : xS} {locs : List Loc} {a u : Nat} {k n s2 m2 : Int32} (hr : S.2.2.1 < 6) (hh : S.1 24 0 < 0 ∨ (S.1 24 0).toNatClampNeg < S.2.2.1) (h : xJ g A H0 s ((xW g S ++ nrL g a u k n s2 m2).set 29 (xr g 29, .inl (xc g 3, 6, .inr (.inr (.inr (.inr (va_up (fun j => if j < S.2.2.1 then some (xr g (100 + 2 * j)) else none) S.2.2.1 (some a)))))))) H locs) : xI (xgR g S.2.2.1 a u) A H0 s (xRowNew S k n s2 m2) H locs := by
  have hset : (xW g S ++ nrL g a u k n s2 m2).set 29 (xr g 29, .inl (xc g 3, 6, .inr (.inr (.inr (.inr (va_up (fun j => if j < S.2.2.1 then some (xr g (100 + 2 * j)) else none) S.2.2.1 (some a))))))) = (xA (xgR g S.2.2.1 a u) (xRowNew S k n s2 m2) ++ (xRw g S ++ xTx g S)) ++ nrL g a u k n s2 m2 := by
    rw [xA_R hr hh]
    unfold xW
    rw [List.set_append_left _ _ (by rw [List.length_append, xA_len]; omega), List.set_append_left _ _ (by rw [xA_len]; decide)]
  rw [hset] at h
  have h := xJ_perm (Y := xW (xgR g S.2.2.1 a u) (xRowNew S k n s2 m2)) (by
    unfold xW
    rw [xRw_R hr, xTx_R hr, List.append_assoc, List.append_assoc, List.append_assoc]
    exact List.Perm.append_left _ (List.Perm.append_left _ List.perm_append_comm)) h
  exact ⟨h.1, h.2.1, h.2.2.1, h.2.2.2.1, h.2.2.2.2.1, h.2.2.2.2.2.1, xE_g (xgT_R g a u hr) h.2.2.2.2.2.2⟩
theorem xq_11_X_newRow : qCs RX11 120 yX11_newRow cX11_newRow 4 (some (.object "OverTheHeads$Row")) 4 := ⟨⟨(mem_g 537 (by decide +kernel) rfl), (mem_g 538 (by decide +kernel) rfl), (mem_g 77 (by decide +kernel) rfl), (mem_g 539 (by decide +kernel) rfl)⟩, by decide, by decide +kernel, by decide⟩
section NS
variable {p : Program} {l : Launch} {e : Env} {R : Room} {s : State} {m : MethodId} {args : Array Value} {below : List Frame} {meth : Method} {c : Code} {H : Heap} {locs : List Loc} {cells slots : Nat} {Q : State → Prop} {cc : ByteArray} {pc : Nat} {ls : Array Slot} {rest : List Value} {g : xG} {S : xS} {A : Nat → Prop} {H0 : Heap} {own : String} {a u : Nat} {k n s2 m2 i : Int32}
theorem x_row_in (hc : qC own cc p s m args c) (hw : xJ g A H0 s (xW g S ++ nrL g a u k n s2 m2) H locs) (hr : S.2.2.1 < 6) (hh : S.1 24 0 < 0 ∨ (S.1 24 0).toNatClampNeg < S.2.2.1) (hi : i.toNatClampNeg = S.2.2.1) (hin : vp_in i 6) (hd : decode cc pc = .ok (.aastore, 1))
    (kk : ∀ (H1 : Heap) (locs1 : List Loc), xI (xgR g S.2.2.1 a u) A H0 s (xRowNew S k n s2 m2) H1 locs1 → W p l e R s m args below meth c H1 locs1 cells slots Q (F0 m (pc + 1) ls rest)) : W p l e R s m args below meth c H locs cells slots Q (F0 m pc ls (.ref a :: .int i :: .ref (xr g 29) :: rest)) := by
  have ha : (xW g S ++ nrL g a u k n s2 m2)[29]? = some (xr g 29, .inl (xc g 3, 6, .inr (.inr (.inr (.inr (fun j => if j < S.2.2.1 then some (xr g (100 + 2 * j)) else none)))))) := (List.getElem?_append_left (by unfold xW; rw [List.length_append, xA_len]; omega)).trans ((xW_A (by decide)).trans rfl)
  have hv : (xW g S ++ nrL g a u k n s2 m2)[(xW g S).length + 0]? = some (a, .inr (xci k, [.int k, .int n, .int s2, .ref u, .int 0, .int 0, .int (nrAside k m2), .int (nrAbove k m2), .int (nrFar k n), .int (nrLow k m2), .int (nrAmong k)])) := by rw [ap_get]; rfl
  have hk : ∀ (H1 : Heap) (locs1 : List Loc), va_P g.1 vwCl ((xW g S ++ nrL g a u k n s2 m2).set 29 (xr g 29, .inl (xc g 3, 6, .inr (.inr (.inr (.inr (va_up (fun j => if j < S.2.2.1 then some (xr g (100 + 2 * j)) else none) i.toNatClampNeg (some a)))))))) H1 → va_D A ((xW g S ++ nrL g a u k n s2 m2).set 29 (xr g 29, .inl (xc g 3, 6, .inr (.inr (.inr (.inr (va_up (fun j => if j < S.2.2.1 then some (xr g (100 + 2 * j)) else none) i.toNatClampNeg (some a)))))))) → va_S A H0 H1 locs1 → W p l e R s m args below meth c H1 locs1 cells slots Q (F0 m (pc + 1) ls rest) := by
    rw [hi]
    intro H1 locs1 h1 h2 h3
    exact kk H1 locs1 (xJ_row hr hh ⟨hw.1, h1, h2, h3, hw.2.2.2.2⟩)
  have hca : ∀ C, (C, "OverTheHeads$Row") ∈ xCast → va_Nw (.castable C "OverTheHeads$Row") s := fun C hC => hw.2.2.2.2.2.2.2.1 _ hC
  rcases xci_ks k with h | h | h | h | h | h <;> rw [h] at hv
  · exact va_astqO hc.1 hc.2.1 hw.1 hw.2.1 hw.2.2.1 hw.2.2.2.1 29 3 _ 9 (r := (RX9, TX9, 11)) ha rfl (hca _ (by decide)) hv rfl hin hd hk
  · exact va_astqO hc.1 hc.2.1 hw.1 hw.2.1 hw.2.2.1 hw.2.2.2.1 29 3 _ 6 (r := (RX6, TX6, 11)) ha rfl (hca _ (by decide)) hv rfl hin hd hk
  · exact va_astqO hc.1 hc.2.1 hw.1 hw.2.1 hw.2.2.1 hw.2.2.2.1 29 3 _ 3 (r := (RX3, TX3, 11)) ha rfl (hca _ (by decide)) hv rfl hin hd hk
  · exact va_astqO hc.1 hc.2.1 hw.1 hw.2.1 hw.2.2.1 hw.2.2.2.1 29 3 _ 0 (r := (RX0, TX0, 11)) ha rfl (hca _ (by decide)) hv rfl hin hd hk
  · exact va_astqO hc.1 hc.2.1 hw.1 hw.2.1 hw.2.2.1 hw.2.2.2.1 29 3 _ 5 (r := (RX5, TX5, 11)) ha rfl (hca _ (by decide)) hv rfl hin hd hk
  · exact va_astq hc.1 hc.2.1 hw.1 hw.2.1 hw.2.2.1 hw.2.2.2.1 29 3 _ 8 (r := (RX8, TX8, 11)) ha rfl hv rfl hin hd hk
end NS
def rcok (S : xS) : Bool := ok (S.1 16 0) 6 && decide ((S.1 16 0).toNatClampNeg = S.2.2.1) && (decide (S.1 24 0 < 0) || decide ((S.1 24 0).toNatClampNeg < S.2.2.1))
def xf_X_row (S : xS) (a1 a2 a3 : Int32) : Option (Int32 × xS) := if (xf_X_isIn a1 0 5) = true then (if (xf_X_isIn a2 1 8) = true then (if (xf_X_isIn a3 0 20) = true then (if S.1 16 0 < 6 then (if rcok S = true then some (S.1 16 0, xs (xRowNew S a1 (S.1 16 0) a2 a3) 16 0 ((xRowNew S a1 (S.1 16 0) a2 a3).1 16 0 + 1)) else none) else some (-4, S)) else some (-2, S)) else some (-2, S)) else some (-2, S)
set_option maxRecDepth 100000 in
theorem cx_X_row (l : Launch) (S : xS) (a1 a2 a3 : Int32) (res : Int32) (S1 : xS) (hf : xf_X_row S a1 a2 a3 = some (res, S1)) : xMix l yX11_row cX11_row 4 .int 5 2 19 (fun g => [.ref (xr g 0), .int a1, .int a2, .int a3]) S res S1 := by
  refine xMix_of (own := RX11) (by decide) rfl rfl (fun g => Nat.le_of_ble_eq_true rfl) ?_
  intro p e R s m args below meth c Q g A H0 H locs ls hc hR hRc hml hw hl hQ
  have hl : lv_has ls 4 [(0, .ref (xr g 0)), (1, .int a1), (2, .int a2), (3, .int a3)] := hl
  have hx := hc.1
  have hb := hc.2.1
  unfold xf_X_row at hf
  have hq0 : ∀ (H : Heap) (locs : List Loc) (pc : Nat) (ls : Array Slot), S = S1 → decode cX11_row pc = .ok (.ireturn, 1) → xI g A H0 s S H locs → W p l e R s m args below meth c H locs 0 0 Q (F0 m pc ls [.int res]) := fun H locs pc ls h hd hw => W.widen (Nat.zero_le _) (Nat.zero_le _) (hQ g H locs pc ls hd (xgT_rf g) (h ▸ hw))
  refine lv_iload_n hx hb dX11_row_0 rfl (lv_at hl 1 rfl) ?_
  refine lv_iconst (v := 0) hx hb dX11_row_1 (by decide) ?_
  refine lv_iconst (v := 5) hx hb dX11_row_2 (by decide) ?_
  refine x_csi (As := [.int a1, .int 0, .int 5]) (rest := []) hc hw hR (hml.trans hl.1.symm) (cx_X_isIn l S a1 0 5 _ rfl) xq_11_X_isIn (by decide) rfl rfl rfl (Nat.le_of_ble_eq_true rfl) dX11_row_3 (fun H locs hw => ?_) ⟨Nat.zero_le _, Nat.zero_le _⟩
  refine lv_if_eqb (tgt := 29) hx hb dX11_row_6 (by decide) (fun cn1 => ?_) (fun cn1 => ?_)
  · have hf := (if_neg cn1).symm.trans hf
    refine lv_bipush (v := (-2)) hx hb dX11_row_29 (by decide) ?_
    obtain ⟨rfl, h⟩ := pr2_some hf
    exact hq0 _ _ _ _ h dX11_row_31 hw
  have hf := (if_pos cn1).symm.trans hf
  refine lv_iload_n hx hb dX11_row_9 rfl (lv_at hl 2 rfl) ?_
  refine lv_iconst (v := 1) hx hb dX11_row_10 (by decide) ?_
  refine lv_bipush (v := 8) hx hb dX11_row_11 (by decide) ?_
  refine x_csi (As := [.int a2, .int 1, .int 8]) (rest := []) hc hw hR (hml.trans hl.1.symm) (cx_X_isIn l S a2 1 8 _ rfl) xq_11_X_isIn (by decide) rfl rfl rfl (Nat.le_of_ble_eq_true rfl) dX11_row_13 (fun H locs hw => ?_) ⟨Nat.zero_le _, Nat.zero_le _⟩
  refine lv_if_eqb (tgt := 29) hx hb dX11_row_16 (by decide) (fun cn2 => ?_) (fun cn2 => ?_)
  · have hf := (if_neg cn2).symm.trans hf
    refine lv_bipush (v := (-2)) hx hb dX11_row_29 (by decide) ?_
    obtain ⟨rfl, h⟩ := pr2_some hf
    exact hq0 _ _ _ _ h dX11_row_31 hw
  have hf := (if_pos cn2).symm.trans hf
  refine lv_iload_n hx hb dX11_row_19 rfl (lv_at hl 3 rfl) ?_
  refine lv_iconst (v := 0) hx hb dX11_row_20 (by decide) ?_
  refine lv_bipush (v := 20) hx hb dX11_row_21 (by decide) ?_
  refine x_csi (As := [.int a3, .int 0, .int 20]) (rest := []) hc hw hR (hml.trans hl.1.symm) (cx_X_isIn l S a3 0 20 _ rfl) xq_11_X_isIn (by decide) rfl rfl rfl (Nat.le_of_ble_eq_true rfl) dX11_row_23 (fun H locs hw => ?_) ⟨Nat.zero_le _, Nat.zero_le _⟩
  refine lv_if_neb (tgt := 32) hx hb dX11_row_26 (by decide) (fun cn3 => ?_) (fun cn3 => ?_)
  · have hf := (if_pos cn3).symm.trans hf
    refine lv_aload_n hx hb dX11_row_32 rfl (lv_at hl 0 rfl) ?_
    refine x_g_this_hall hc hw fl_11_10 dX11_row_33 ?_
    refine x_g_hall_rowCount hc hw fl_11_113 dX11_row_36 ?_
    refine lv_bipush (v := 6) hx hb dX11_row_39 (by decide) ?_
    refine lv_icmp_lt (tgt := 47) hx hb dX11_row_41 (by decide) (fun cn4 => ?_) (fun cn4 => ?_)
    · have hf := (if_pos cn4).symm.trans hf
      obtain ⟨hrc, hf⟩ := gd_some hf
      obtain ⟨hrc, hh⟩ := Bool.and_eq_true_iff.mp hrc
      obtain ⟨hok, hnr⟩ := Bool.and_eq_true_iff.mp hrc
      have hnr := of_decide_eq_true hnr
      have hr6 : S.2.2.1 < 6 := hnr ▸ ok_nat hok
      have hh : S.1 24 0 < 0 ∨ (S.1 24 0).toNatClampNeg < S.2.2.1 := (Bool.or_eq_true_iff.mp hh).imp of_decide_eq_true of_decide_eq_true
      refine lv_aload_n hx hb dX11_row_47 rfl (lv_at hl 0 rfl) ?_
      refine x_g_this_hall hc hw fl_11_10 dX11_row_48 ?_
      refine x_g_hall_rows hc hw fl_11_116 dX11_row_51 ?_
      refine lv_aload_n hx hb dX11_row_54 rfl (lv_at hl 0 rfl) ?_
      refine x_g_this_hall hc hw fl_11_10 dX11_row_55 ?_
      refine x_g_hall_rowCount hc hw fl_11_113 dX11_row_58 ?_
      refine lv_iload_n hx hb dX11_row_61 rfl (lv_at hl 1 rfl) ?_
      refine lv_aload_n hx hb dX11_row_62 rfl (lv_at hl 0 rfl) ?_
      refine x_g_this_hall hc hw fl_11_10 dX11_row_63 ?_
      refine x_g_hall_rowCount hc hw fl_11_113 dX11_row_66 ?_
      refine lv_iload_n hx hb dX11_row_69 rfl (lv_at hl 2 rfl) ?_
      refine lv_iload_n hx hb dX11_row_70 rfl (lv_at hl 3 rfl) ?_
      refine e_csr (As := [.int a1, .int (S.1 16 0), .int a2, .int a3]) (rest := [.int (S.1 16 0), .ref (xr g 29)]) hc hw hR (hml.trans hl.1.symm) (cx_newRow l g (xW g S) a1 (S.1 16 0) a2 a3) xq_11_X_newRow (by decide) rfl rfl rfl (Nat.le_of_ble_eq_true rfl) dX11_row_71 ⟨by have := hRc.1; omega, by have := hRc.2; omega⟩ (fun q u H locs hw => ?_)
      refine x_row_in hc hw hr6 hh hnr (ok_in hok) dX11_row_74 (fun H locs hw => ?_)
      have e0 : xr (xgR g S.2.2.1 q (u 0)) 0 = xr g 0 := xr_R (by omega) (by omega)
      rw [← e0] at hl
      have e16 : (xRowNew S a1 (S.1 16 0) a2 a3).1 16 = S.1 16 := xN_lo ⟨by decide, by omega⟩
      obtain ⟨rfl, rfl⟩ := pr2_some hf
      refine lv_aload_n hx hb dX11_row_75 rfl (lv_at hl 0 rfl) ?_
      refine x_g_this_hall hc hw fl_11_10 dX11_row_76 ?_
      refine lv_dup hx hb dX11_row_79 rfl ?_
      refine x_g_hall_rowCount hc hw fl_11_113 dX11_row_80 ?_
      refine lv_dup_x1 hx hb dX11_row_83 rfl rfl ?_
      refine lv_iconst (v := 1) hx hb dX11_row_84 (by decide) ?_
      refine lv_iadd hx hb dX11_row_85 ?_
      refine x_p_hall_rowCount hc hw fl_11_113 dX11_row_86 (fun H locs hw => ?_)
      rw [show (xRowNew S a1 (S.1 16 0) a2 a3).1 16 0 = S.1 16 0 by rw [e16]] at hw ⊢
      exact hQ _ H locs _ _ dX11_row_89 (xgT_R g q (u 0) hr6) (by rw [e16]; exact hw)
    · have hf := (if_neg cn4).symm.trans hf
      refine lv_bipush (v := (-4)) hx hb dX11_row_44 (by decide) ?_
      obtain ⟨rfl, h⟩ := pr2_some hf
      exact hq0 _ _ _ _ h dX11_row_46 hw
  · have hf := (if_neg cn3).symm.trans hf
    refine lv_bipush (v := (-2)) hx hb dX11_row_29 (by decide) ?_
    obtain ⟨rfl, h⟩ := pr2_some hf
    exact hq0 _ _ _ _ h dX11_row_31 hw
