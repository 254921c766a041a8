/-! a new text: the world under its new names -/
def xgX (g : xG) (t h a b u : Nat) : xG := (g.1, g.2.1, fun k => if k = 200 + 4 * t then h else if k = 200 + (4 * t + 1) then a else if k = 200 + (4 * t + 2) then b else if k = 200 + (4 * t + 3) then u else g.2.2 k)
theorem xgT_X (g : xG) {t : Nat} (h a b u : Nat) (ht : t < 6) : xgT g (xgX g t h a b u) := ⟨rfl, rfl, fun k hk => by
  show (if k = 200 + 4 * t then h else if k = 200 + (4 * t + 1) then a else if k = 200 + (4 * t + 2) then b else if k = 200 + (4 * t + 3) then u else g.2.2 k) = _
  rw [if_neg (by omega), if_neg (by omega), if_neg (by omega), if_neg (by omega)]⟩
def xTextNew (S : xS) : xS := (fun j => if j = 76 then upd (S.1 76) S.2.2.2 (S.1 48 0) else if j = 81 + 4 * S.2.2.2 then va_cpy (S.1 46) (fun _ => 0) 0 0 (S.1 48 0).toNatClampNeg else if j = 82 + 4 * S.2.2.2 then va_cpy (S.1 47) (fun _ => 0) 0 0 3 else if j = 83 + 4 * S.2.2.2 then (fun _ => 0) else S.1 j, S.2.1, S.2.2.1, S.2.2.2 + 1)
section NT
variable {g : xG} {S : xS} {h a b u t j i : Nat}
theorem xr_X (h0 : ¬ (200 + 4 * t ≤ j ∧ j < 204 + 4 * t)) : xr (xgX g t h a b u) j = xr g j := by
  show (if j = 200 + 4 * t then h else if j = 200 + (4 * t + 1) then a else if j = 200 + (4 * t + 2) then b else if j = 200 + (4 * t + 3) then u else g.2.2 j) = _
  rw [if_neg (by omega), if_neg (by omega), if_neg (by omega), if_neg (by omega)]
theorem xr_X0 : xr (xgX g t h a b u) (200 + 4 * t) = h := if_pos rfl
theorem xr_X1 : xr (xgX g t h a b u) (200 + (4 * t + 1)) = a := by
  show (if 200 + (4 * t + 1) = 200 + 4 * t then h else if 200 + (4 * t + 1) = 200 + (4 * t + 1) then a else _) = _
  rw [if_neg (by omega), if_pos rfl]
theorem xr_X2 : xr (xgX g t h a b u) (200 + (4 * t + 2)) = b := by
  show (if 200 + (4 * t + 2) = 200 + 4 * t then h else if 200 + (4 * t + 2) = 200 + (4 * t + 1) then a else if 200 + (4 * t + 2) = 200 + (4 * t + 2) then b else _) = _
  rw [if_neg (by omega), if_neg (by omega), if_pos rfl]
theorem xr_X3 : xr (xgX g t h a b u) (200 + (4 * t + 3)) = u := by
  show (if 200 + (4 * t + 3) = 200 + 4 * t then h else if 200 + (4 * t + 3) = 200 + (4 * t + 1) then a else if 200 + (4 * t + 3) = 200 + (4 * t + 2) then b else if 200 + (4 * t + 3) = 200 + (4 * t + 3) then u else _) = _
  rw [if_neg (by omega), if_neg (by omega), if_neg (by omega), if_pos rfl]
theorem xX_eq : (xTextNew S).1 j = if j = 76 then upd (S.1 76) S.2.2.2 (S.1 48 0) else if j = 81 + 4 * S.2.2.2 then va_cpy (S.1 46) (fun _ => 0) 0 0 (S.1 48 0).toNatClampNeg else if j = 82 + 4 * S.2.2.2 then va_cpy (S.1 47) (fun _ => 0) 0 0 3 else if j = 83 + 4 * S.2.2.2 then (fun _ => 0) else S.1 j := rfl
theorem xX_lo (h : j ≠ 76 ∧ j ≠ 81 + 4 * S.2.2.2 ∧ j ≠ 82 + 4 * S.2.2.2 ∧ j ≠ 83 + 4 * S.2.2.2) : (xTextNew S).1 j = S.1 j := by
  rw [xX_eq, if_neg h.1, if_neg h.2.1, if_neg h.2.2.1, if_neg h.2.2.2]
theorem xX_len : (xTextNew S).1 76 i = if i = S.2.2.2 then S.1 48 0 else S.1 76 i := by rw [xX_eq, if_pos rfl]; rfl
theorem xX_1 : (xTextNew S).1 (81 + 4 * S.2.2.2) = va_cpy (S.1 46) (fun _ => 0) 0 0 (S.1 48 0).toNatClampNeg := by
  rw [xX_eq, if_neg (by omega), if_pos rfl]
theorem xX_2 : (xTextNew S).1 (82 + 4 * S.2.2.2) = va_cpy (S.1 47) (fun _ => 0) 0 0 3 := by
  rw [xX_eq, if_neg (by omega), if_neg (by omega), if_pos rfl]
theorem xX_3 : (xTextNew S).1 (83 + 4 * S.2.2.2) = fun _ => 0 := by
  rw [xX_eq, if_neg (by omega), if_neg (by omega), if_neg (by omega), if_pos rfl]

set_option maxHeartbeats 4000000 in
set_option maxRecDepth 100000 in
theorem xA_X (hr : S.2.2.1 ≤ 6) (ht : S.2.2.2 < 6) (hq : S.1 19 0 < 0 ∨ (S.1 19 0).toNatClampNeg < S.2.2.2) (hh : S.1 24 0 < 0 ∨ (S.1 24 0).toNatClampNeg < S.2.2.1) : xA (xgX g S.2.2.2 h a b u) (xTextNew S) = (xA g S).set 30 (xr g 30, .inl (xc g 4, 6, .inr (.inr (.inr (.inr (va_up (fun j => if j < S.2.2.2 then some (xr g (200 + 4 * j)) else none) S.2.2.2 (some h)))))))  := by
  have e0 : xr (xgX g S.2.2.2 h a b u) 0 = xr g 0 := xr_X (by omega)
  have e1 : xr (xgX g S.2.2.2 h a b u) 1 = xr g 1 := xr_X (by omega)
  have e2 : xr (xgX g S.2.2.2 h a b u) 2 = xr g 2 := xr_X (by omega)
  have e3 : xr (xgX g S.2.2.2 h a b u) 3 = xr g 3 := xr_X (by omega)
  have e4 : xr (xgX g S.2.2.2 h a b u) 4 = xr g 4 := xr_X (by omega)
  have e5 : xr (xgX g S.2.2.2 h a b u) 5 = xr g 5 := xr_X (by omega)
  have e6 : xr (xgX g S.2.2.2 h a b u) 6 = xr g 6 := xr_X (by omega)
  have e7 : xr (xgX g S.2.2.2 h a b u) 7 = xr g 7 := xr_X (by omega)
  have e8 : xr (xgX g S.2.2.2 h a b u) 8 = xr g 8 := xr_X (by omega)
  have e9 : xr (xgX g S.2.2.2 h a b u) 9 = xr g 9 := xr_X (by omega)
  have e10 : xr (xgX g S.2.2.2 h a b u) 10 = xr g 10 := xr_X (by omega)
  have e11 : xr (xgX g S.2.2.2 h a b u) 11 = xr g 11 := xr_X (by omega)
  have e12 : xr (xgX g S.2.2.2 h a b u) 12 = xr g 12 := xr_X (by omega)
  have e13 : xr (xgX g S.2.2.2 h a b u) 13 = xr g 13 := xr_X (by omega)
  have e14 : xr (xgX g S.2.2.2 h a b u) 14 = xr g 14 := xr_X (by omega)
  have e15 : xr (xgX g S.2.2.2 h a b u) 15 = xr g 15 := xr_X (by omega)
  have e16 : xr (xgX g S.2.2.2 h a b u) 16 = xr g 16 := xr_X (by omega)
  have e17 : xr (xgX g S.2.2.2 h a b u) 17 = xr g 17 := xr_X (by omega)
  have e18 : xr (xgX g S.2.2.2 h a b u) 18 = xr g 18 := xr_X (by omega)
  have e19 : xr (xgX g S.2.2.2 h a b u) 19 = xr g 19 := xr_X (by omega)
  have e20 : xr (xgX g S.2.2.2 h a b u) 20 = xr g 20 := xr_X (by omega)
  have e21 : xr (xgX g S.2.2.2 h a b u) 21 = xr g 21 := xr_X (by omega)
  have e22 : xr (xgX g S.2.2.2 h a b u) 22 = xr g 22 := xr_X (by omega)
  have e23 : xr (xgX g S.2.2.2 h a b u) 23 = xr g 23 := xr_X (by omega)
  have e24 : xr (xgX g S.2.2.2 h a b u) 24 = xr g 24 := xr_X (by omega)
  have e25 : xr (xgX g S.2.2.2 h a b u) 25 = xr g 25 := xr_X (by omega)
  have e26 : xr (xgX g S.2.2.2 h a b u) 26 = xr g 26 := xr_X (by omega)
  have e27 : xr (xgX g S.2.2.2 h a b u) 27 = xr g 27 := xr_X (by omega)
  have e28 : xr (xgX g S.2.2.2 h a b u) 28 = xr g 28 := xr_X (by omega)
  have e29 : xr (xgX g S.2.2.2 h a b u) 29 = xr g 29 := xr_X (by omega)
  have e30 : xr (xgX g S.2.2.2 h a b u) 30 = xr g 30 := xr_X (by omega)
  have e31 : xr (xgX g S.2.2.2 h a b u) 31 = xr g 31 := xr_X (by omega)
  have e32 : xr (xgX g S.2.2.2 h a b u) 32 = xr g 32 := xr_X (by omega)
  have e33 : xr (xgX g S.2.2.2 h a b u) 33 = xr g 33 := xr_X (by omega)
  have e34 : xr (xgX g S.2.2.2 h a b u) 34 = xr g 34 := xr_X (by omega)
  have e35 : xr (xgX g S.2.2.2 h a b u) 35 = xr g 35 := xr_X (by omega)
  have c0 : (xTextNew S).1 0 = S.1 0 := xX_lo (by omega)
  have c1 : (xTextNew S).1 1 = S.1 1 := xX_lo (by omega)
  have c2 : (xTextNew S).1 2 = S.1 2 := xX_lo (by omega)
  have c3 : (xTextNew S).1 3 = S.1 3 := xX_lo (by omega)
  have c4 : (xTextNew S).1 4 = S.1 4 := xX_lo (by omega)
  have c5 : (xTextNew S).1 5 = S.1 5 := xX_lo (by omega)
  have c6 : (xTextNew S).1 6 = S.1 6 := xX_lo (by omega)
  have c7 : (xTextNew S).1 7 = S.1 7 := xX_lo (by omega)
  have c8 : (xTextNew S).1 8 = S.1 8 := xX_lo (by omega)
  have c9 : (xTextNew S).1 9 = S.1 9 := xX_lo (by omega)
  have c10 : (xTextNew S).1 10 = S.1 10 := xX_lo (by omega)
  have c11 : (xTextNew S).1 11 = S.1 11 := xX_lo (by omega)
  have c12 : (xTextNew S).1 12 = S.1 12 := xX_lo (by omega)
  have c13 : (xTextNew S).1 13 = S.1 13 := xX_lo (by omega)
  have c14 : (xTextNew S).1 14 = S.1 14 := xX_lo (by omega)
  have c15 : (xTextNew S).1 15 = S.1 15 := xX_lo (by omega)
  have c16 : (xTextNew S).1 16 = S.1 16 := xX_lo (by omega)
  have c17 : (xTextNew S).1 17 = S.1 17 := xX_lo (by omega)
  have c18 : (xTextNew S).1 18 = S.1 18 := xX_lo (by omega)
  have c19 : (xTextNew S).1 19 = S.1 19 := xX_lo (by omega)
  have c20 : (xTextNew S).1 20 = S.1 20 := xX_lo (by omega)
  have c21 : (xTextNew S).1 21 = S.1 21 := xX_lo (by omega)
  have c22 : (xTextNew S).1 22 = S.1 22 := xX_lo (by omega)
  have c23 : (xTextNew S).1 23 = S.1 23 := xX_lo (by omega)
  have c24 : (xTextNew S).1 24 = S.1 24 := xX_lo (by omega)
  have c25 : (xTextNew S).1 25 = S.1 25 := xX_lo (by omega)
  have c26 : (xTextNew S).1 26 = S.1 26 := xX_lo (by omega)
  have c27 : (xTextNew S).1 27 = S.1 27 := xX_lo (by omega)
  have c28 : (xTextNew S).1 28 = S.1 28 := xX_lo (by omega)
  have c29 : (xTextNew S).1 29 = S.1 29 := xX_lo (by omega)
  have c30 : (xTextNew S).1 30 = S.1 30 := xX_lo (by omega)
  have c31 : (xTextNew S).1 31 = S.1 31 := xX_lo (by omega)
  have c32 : (xTextNew S).1 32 = S.1 32 := xX_lo (by omega)
  have c33 : (xTextNew S).1 33 = S.1 33 := xX_lo (by omega)
  have c34 : (xTextNew S).1 34 = S.1 34 := xX_lo (by omega)
  have c35 : (xTextNew S).1 35 = S.1 35 := xX_lo (by omega)
  have c36 : (xTextNew S).1 36 = S.1 36 := xX_lo (by omega)
  have c37 : (xTextNew S).1 37 = S.1 37 := xX_lo (by omega)
  have c38 : (xTextNew S).1 38 = S.1 38 := xX_lo (by omega)
  have c39 : (xTextNew S).1 39 = S.1 39 := xX_lo (by omega)
  have c40 : (xTextNew S).1 40 = S.1 40 := xX_lo (by omega)
  have c41 : (xTextNew S).1 41 = S.1 41 := xX_lo (by omega)
  have c42 : (xTextNew S).1 42 = S.1 42 := xX_lo (by omega)
  have c43 : (xTextNew S).1 43 = S.1 43 := xX_lo (by omega)
  have c44 : (xTextNew S).1 44 = S.1 44 := xX_lo (by omega)
  have c45 : (xTextNew S).1 45 = S.1 45 := xX_lo (by omega)
  have c46 : (xTextNew S).1 46 = S.1 46 := xX_lo (by omega)
  have c47 : (xTextNew S).1 47 = S.1 47 := xX_lo (by omega)
  have c48 : (xTextNew S).1 48 = S.1 48 := xX_lo (by omega)
  have c49 : (xTextNew S).1 49 = S.1 49 := xX_lo (by omega)
  have c50 : (xTextNew S).1 50 = S.1 50 := xX_lo (by omega)
  have c51 : (xTextNew S).1 51 = S.1 51 := xX_lo (by omega)
  have c52 : (xTextNew S).1 52 = S.1 52 := xX_lo (by omega)
  have c53 : (xTextNew S).1 53 = S.1 53 := xX_lo (by omega)
  have c70 : (xTextNew S).1 70 = S.1 70 := xX_lo (by omega)
  have c71 : (xTextNew S).1 71 = S.1 71 := xX_lo (by omega)
  have c72 : (xTextNew S).1 72 = S.1 72 := xX_lo (by omega)
  have c73 : (xTextNew S).1 73 = S.1 73 := xX_lo (by omega)
  have hv : xtv (xgX g S.2.2.2 h a b u) (S.1 19 0) = xtv g (S.1 19 0) := by
    unfold xtv
    rcases hq with h | h
    · rw [if_pos h, if_pos h]
    · rw [xr_X (by omega)]
  have hw : xrv (xgX g S.2.2.2 h a b u) (S.1 24 0) = xrv g (S.1 24 0) := by
    unfold xrv
    rcases hh with h | h
    · rw [if_pos h, if_pos h]
    · rw [xr_X (by omega)]
  have hb : xbv (xgX g S.2.2.2 h a b u) (S.1 39 0) = xbv g (S.1 39 0) := by unfold xbv; rw [e10]
  have hf : (fun j => if j < S.2.2.2 + 1 then some (xr (xgX g S.2.2.2 h a b u) (200 + 4 * j)) else none) = va_up (fun j => if j < S.2.2.2 then some (xr g (200 + 4 * j)) else none) S.2.2.2 (some h) := by
    funext j
    by_cases hj : j = S.2.2.2
    · subst hj
      rw [va_up_self, if_pos (by omega), xr_X0]
    · rw [va_up_ne _ _ hj]
      by_cases hl : j < S.2.2.2
      · rw [if_pos (by omega), if_pos hl, xr_X (by omega)]
      · rw [if_neg (by omega), if_neg hl]
  have hto : (fun j => if j < S.2.2.1 then some (xr (xgX g S.2.2.2 h a b u) (100 + 2 * j)) else none) = fun j => if j < S.2.2.1 then some (xr g (100 + 2 * j)) else none := by
    funext j
    by_cases hl : j < S.2.2.1
    · rw [if_pos hl, if_pos hl, xr_X (by omega)]
    · rw [if_neg hl, if_neg hl]
  have hz : (fun j => if j < 4 then some (xr (xgX g S.2.2.2 h a b u) (32 + j)) else none) = fun j => if j < 4 then some (xr g (32 + j)) else none := by
    funext j
    by_cases hl : j < 4
    · rw [if_pos hl, if_pos hl, xr_X (by omega)]
    · rw [if_neg hl, if_neg hl]
  have hn1 : (xTextNew S).2.2.1 = S.2.2.1 := rfl
  have hn2 : (xTextNew S).2.2.2 = S.2.2.2 + 1 := rfl
  have hn3 : (xTextNew S).2.1 = S.2.1 := rfl
  unfold xA xO_this xO_hall xO_image xO_reader xO_line
  rw [e0, e1, e2, e3, e4, e5, e6, e7, e8, e9, e10, e11, e12, e13, e14, e15, e16, e17, e18, e19, e20, e21, e22, e23, e24, e25, e26, e27, e28, e29, e30, e31, e32, e33, e34, e35]
  simp only [hn1, hn2, hn3, c0, c1, c2, c3, c4, c5, c6, c7, c8, c9, c10, c11, c12, c13, c14, c15, c16, c17, c18, c19, c20, c21, c22, c23, c24, c25, c26, c27, c28, c29, c30, c31, c32, c33, c34, c35, c36, c37, c38, c39, c40, c41, c42, c43, c44, c45, c46, c47, c48, c49, c50, c51, c52, c53, c70, c71, c72, c73, hv, hw, hb, hf, hto, hz]
  rfl
theorem xRw_X (hr : S.2.2.1 ≤ 6) : xRw (xgX g S.2.2.2 h a b u) (xTextNew S) = xRw g S := by
  unfold xRw
  show (List.range (2 * S.2.2.1)).map _ = _
  refine List.map_congr_left fun i hi => ?_
  have hi : i < 2 * S.2.2.1 := List.mem_range.mp hi
  rw [xr_X (by omega)]
  congr 1
  unfold xRc xRf
  rw [xr_X (by omega), xX_lo (j := 54) (by omega), xX_lo (j := 55) (by omega), xX_lo (j := 56) (by omega), xX_lo (j := 57) (by omega), xX_lo (j := 58) (by omega), xX_lo (j := 59) (by omega), xX_lo (j := 60) (by omega), xX_lo (j := 61) (by omega), xX_lo (j := 62) (by omega), xX_lo (j := 63) (by omega), xX_lo (j := 80 + 4 * (i / 2)) (by omega)]
  rfl
theorem xTx_X : xTx (xgX g S.2.2.2 h a b u) (xTextNew S) = xTx g S ++ [(h, .inr (10, [.ref a, .ref b, .ref u])), (a, .inl (xc g 0, (S.1 48 0).toNatClampNeg, .inl (va_cpy (S.1 46) (fun _ => 0) 0 0 (S.1 48 0).toNatClampNeg))), (b, .inl (xc g 0, 3, .inl (va_cpy (S.1 47) (fun _ => 0) 0 0 3))), (u, .inl (xc g 0, 32, .inl (fun _ => 0)))] := by
  unfold xTx
  show (List.range (4 * (S.2.2.2 + 1))).map _ = _
  rw [show 4 * (S.2.2.2 + 1) = 4 * S.2.2.2 + 1 + 1 + 1 + 1 by omega, List.range_succ, List.range_succ, List.range_succ, List.range_succ, List.map_append, List.map_append, List.map_append, List.map_append, List.append_assoc, List.append_assoc, List.append_assoc]
  congr 1
  · refine List.map_congr_left fun i hi => ?_
    have hi : i < 4 * S.2.2.2 := List.mem_range.mp hi
    rw [xr_X (by omega)]
    congr 1
    unfold xTc xTf
    have hx : (xTextNew S).1 76 (i / 4) = S.1 76 (i / 4) := by rw [xX_len, if_neg (by omega)]
    rw [xr_X (by omega), xr_X (by omega), xr_X (by omega), hx, xX_lo (j := 81 + 4 * (i / 4)) (by omega), xX_lo (j := 82 + 4 * (i / 4)) (by omega), xX_lo (j := 83 + 4 * (i / 4)) (by omega)]
    rfl
  · have h0 : xTc (xgX g S.2.2.2 h a b u) (xTextNew S) (4 * S.2.2.2) = .inr (10, [.ref a, .ref b, .ref u]) := by
      unfold xTc xTf
      rw [if_pos (by omega), show 4 * S.2.2.2 / 4 = S.2.2.2 by omega, xr_X1, xr_X2, xr_X3]
    have h1 : xTc (xgX g S.2.2.2 h a b u) (xTextNew S) (4 * S.2.2.2 + 1) = .inl (xc g 0, (S.1 48 0).toNatClampNeg, .inl (va_cpy (S.1 46) (fun _ => 0) 0 0 (S.1 48 0).toNatClampNeg)) := by
      unfold xTc
      rw [if_neg (by omega), if_pos (by omega), show (4 * S.2.2.2 + 1) / 4 = S.2.2.2 by omega, xX_len, if_pos rfl, xX_1]
      rfl
    have h2 : xTc (xgX g S.2.2.2 h a b u) (xTextNew S) (4 * S.2.2.2 + 1 + 1) = .inl (xc g 0, 3, .inl (va_cpy (S.1 47) (fun _ => 0) 0 0 3)) := by
      unfold xTc
      rw [if_neg (by omega), if_neg (by omega), if_pos (by omega), show (4 * S.2.2.2 + 1 + 1) / 4 = S.2.2.2 by omega, xX_2]
      rfl
    have h3 : xTc (xgX g S.2.2.2 h a b u) (xTextNew S) (4 * S.2.2.2 + 1 + 1 + 1) = .inl (xc g 0, 32, .inl (fun _ => 0)) := by
      unfold xTc
      rw [if_neg (by omega), if_neg (by omega), if_neg (by omega), show (4 * S.2.2.2 + 1 + 1 + 1) / 4 = S.2.2.2 by omega, xX_3]
      rfl
    show [(xr (xgX g S.2.2.2 h a b u) (200 + 4 * S.2.2.2), _)] ++ ([(xr (xgX g S.2.2.2 h a b u) (200 + (4 * S.2.2.2 + 1)), _)] ++ ([(xr (xgX g S.2.2.2 h a b u) (200 + (4 * S.2.2.2 + 2)), _)] ++ [(xr (xgX g S.2.2.2 h a b u) (200 + (4 * S.2.2.2 + 3)), _)])) = _
    rw [xr_X0, xr_X1, xr_X2, xr_X3, h0, h1, h2, h3]
    rfl
end NT
theorem xJ_text {g : xG} {A : Nat → Prop} {H0 H : Heap} {s : State} {S : xS} {locs : List Loc} {h a b u : Nat} (hr : S.2.2.1 ≤ 6) (ht : S.2.2.2 < 6) (hq : S.1 19 0 < 0 ∨ (S.1 19 0).toNatClampNeg < S.2.2.2) (hh : S.1 24 0 < 0 ∨ (S.1 24 0).toNatClampNeg < S.2.2.1) (hj : xJ g A H0 s ((xW g S ++ txL g S (S.1 48 0).toNatClampNeg h a b u).set 30 (xr g 30, .inl (xc g 4, 6, .inr (.inr (.inr (.inr (va_up (fun j => if j < S.2.2.2 then some (xr g (200 + 4 * j)) else none) S.2.2.2 (some h)))))))) H locs) : xI (xgX g S.2.2.2 h a b u) A H0 s (xTextNew S) H locs := by
  have hset : (xW g S ++ txL g S (S.1 48 0).toNatClampNeg h a b u).set 30 (xr g 30, .inl (xc g 4, 6, .inr (.inr (.inr (.inr (va_up (fun j => if j < S.2.2.2 then some (xr g (200 + 4 * j)) else none) S.2.2.2 (some h))))))) = (xA (xgX g S.2.2.2 h a b u) (xTextNew S) ++ (xRw g S ++ xTx g S)) ++ txL g S (S.1 48 0).toNatClampNeg h a b u := by
    rw [xA_X hr ht hq hh]
    unfold xW
    rw [List.set_append_left _ _ (by rw [List.length_append, xA_len]; omega), List.set_append_left _ _ (by rw [xA_len]; decide)]
  rw [hset] at hj
  have hj := xJ_perm (Y := xW (xgX g S.2.2.2 h a b u) (xTextNew S)) (by
    unfold xW
    rw [xRw_X hr, xTx_X, List.append_assoc, List.append_assoc]
    refine List.Perm.append_left _ (List.Perm.append_left _ (List.Perm.append_left _ ?_))
    exact ((List.Perm.swap _ _ _).cons _).trans (List.Perm.swap _ _ _)) hj
  exact ⟨hj.1, hj.2.1, hj.2.2.1, hj.2.2.2.1, hj.2.2.2.2.1, hj.2.2.2.2.2.1, xE_g (xgT_X g h a b u ht) hj.2.2.2.2.2.2⟩
