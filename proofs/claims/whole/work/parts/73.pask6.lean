section PASK6
section A
variable {N : Nat} {a : aS}
/-! settle -/
def fSettle1 (a : aS) (r : Nat) : aS := asw a (8 * r + ((fFind a r).1 / 10).toNatClampNeg) (8 * r + ((fFind a r).1 - (fFind a r).1 / 10 * 10).toNatClampNeg)
def fSettle (r : Nat) : Nat → Nat → aS → Nat × aS
  | 0, i, a => (i, a)
  | k + 1, i, a => if (fFind a r).1 = -1 then (i, a) else fSettle r k (i + 1) (fSettle1 a r)
theorem px_settleL (hN : 2000 ≤ N) {r m : Nat} (hm : m ≤ 5) : ∀ (k i n : Nat) (X : xS) (a : aS), RS X a → IS a → X.1 20 0 = -1 → r < nr a → i + k = m → k < n → ∃ Y, (xf_X_settle_L31 N (nI m) (nI r) n X (nI i) = some (.inr Y) ∧ (fSettle r k i a).1 = m ∨ xf_X_settle_L31 N (nI m) (nI r) n X (nI i) = some (.inl (nI (fSettle r k i a).1, Y))) ∧ RS Y (fSettle r k i a).2 ∧ IS (fSettle r k i a).2 ∧ (∀ j, xcore j = true → (∀ q, j ≠ 80 + 4 * q) → Y.1 j = X.1 j) ∧ Y.2.2 = X.2.2 ∧ (∀ j, j ≠ 9 → (fSettle r k i a).2 j = a j) ∧ ∀ j, nr a * 8 ≤ j → (fSettle r k i a).2 9 j = a 9 j
  | 0, i, n + 1, X, a, hR, hI, hz, hr, hk, _ => by
    refine ⟨X, .inl ⟨?_, by rw [fSettle]; omega⟩, hR, hI, fun _ _ _ => rfl, rfl, fun _ _ => rfl, fun _ _ => rfl⟩
    rw [xf_X_settle_L31, if_pos (sm_len (by omega) (by omega))]
  | k + 1, i, n + 1, X, a, hR, hI, hz, hr, hk, hn => by
    obtain ⟨X1, w1, w2⟩ := px_all hN hI hR
    have hz1 : X1.1 20 0 = -1 := by rw [w2.1 20 rfl]; exact hz
    obtain ⟨X2, w3, w4⟩ := px_best hN hI hr (hR.frame w2) hz1
    have hz2 : X2.1 20 0 = -1 := by rw [w4.1 20 rfl]; exact hz1
    have hR2 := (hR.frame w2).frame w4
    have hq := w2.trans w4
    have hok := fFind_ok hI hr
    rw [xf_X_settle_L31, if_neg (sm_nle (by omega) (by omega)), w1, bs2, w3, bs2, fSettle]
    rcases hok.1 with ⟨o1, o2⟩ | ⟨c, e, o1, o2, o3, o4⟩
    · rw [if_pos o1, if_pos o1]
      exact ⟨X2, .inr rfl, hR2, hI, fun j hj _ => hq.1 j hj, hq.2, fun _ _ => rfl, fun _ _ => rfl⟩
    · have e8 := (hI.2.2.1 r hr).2.2.2.1
      obtain ⟨d1, d2⟩ := dig (c := c) (e := e) (by omega) (by omega)
      have es : fSettle1 a r = asw a (8 * r + c) (8 * r + e) := by
        unfold fSettle1
        rw [o3, d2, d1, sm_clamp (show c < 100000000 by omega), sm_clamp (show e < 100000000 by omega)]
      have hne : ¬ (fFind a r).1 = -1 := by rw [o3]; exact nI_ne_m1 (by omega)
      rw [if_neg hne, if_neg hne, o3, d2, d1, px_change hI hR2.1.2.2.2 hr (show c < 8 by omega) hr (show e < 8 by omega), bs1, ← nI_succ, es]
      have hzs : (xsw X2 r c r e).1 20 0 = -1 := by
        unfold xsw
        rw [xs_ne (by omega), xs_ne (by omega)]
        exact hz2
      obtain ⟨Y, y1, y2, y3, y4, y5, y6, y7⟩ := px_settleL hN hm k (i + 1) n (xsw X2 r c r e) (asw a (8 * r + c) (8 * r + e)) (hR2.sw hz2 hr (by omega) hr (by omega)) (hI.sw hr (by omega) hr (by omega)) hzs hr (by omega) (by omega)
      refine ⟨Y, y1, y2, y3, fun j hj hj2 => ?_, y5.trans hq.2, fun j hj => ?_, fun j hj => ?_⟩
      · rw [y4 j hj hj2]
        unfold xsw
        rw [xs_ne (hj2 r), xs_ne (hj2 r)]
        exact hq.1 j hj
      · rw [y6 j hj]
        unfold asw
        rw [aw_ne (beqF hj), aw_ne (beqF hj)]
      · rw [y7 j hj]
        unfold asw
        rw [aw_same, upd_at, if_neg (by omega), aw_same, upd_at, if_neg (by omega)]
theorem md_settleL (hN : 2000 ≤ N) {r m : Nat} (hm : m ≤ 5) : ∀ (k i n : Nat) (M Y : mS) (a : aS), mC M = a → mF M Y (fFind a r).1 (fFind a r).2 → IS a → r < nr a → i + k = m → k < n → ∃ Z, mf_settle_L30 N (nI r) (nI m) n Y (nI i) = some (nI (fSettle r k i a).1, Z) ∧ mC Z = (fSettle r k i a).2 ∧ Z.2 44 = M.2 44
  | 0, i, n + 1, M, Y, a, hA, hF, hI, hr, hk, _ => by
    refine ⟨Y, ?_, hF.1.trans hA, hF.2.1⟩
    rw [mf_settle_L30, if_pos (sm_len (by omega) (by omega))]
    rfl
  | k + 1, i, n + 1, M, Y, a, hA, hF, hI, hr, hk, hn => by
    have h6 := hI.hr6 hr
    have hok := fFind_ok hI hr
    rw [mf_settle_L30, if_neg (sm_nle (by omega) (by omega)), hF.2.2.1, fSettle]
    rcases hok.1 with ⟨o1, o2⟩ | ⟨c, e, o1, o2, o3, o4⟩
    · rw [if_pos o1, if_pos o1]
      exact ⟨Y, rfl, hF.1.trans hA, hF.2.1⟩
    · have e8 := (hI.2.2.1 r hr).2.2.2.1
      obtain ⟨d1, d2⟩ := dig (c := c) (e := e) (by omega) (by omega)
      have es : fSettle1 a r = asw a (8 * r + c) (8 * r + e) := by
        unfold fSettle1
        rw [o3, d2, d1, sm_clamp (show c < 100000000 by omega), sm_clamp (show e < 100000000 by omega)]
      have hne : ¬ (fFind a r).1 = -1 := by rw [o3]; exact nI_ne_m1 (by omega)
      have hI2 := hI.sw hr (show c < 8 by omega) hr (show e < 8 by omega)
      have hA2 : mC (msw Y (8 * r + c) (8 * r + e)) = asw a (8 * r + c) (8 * r + e) := by rw [mC_sw, hF.1, hA]
      obtain ⟨V, v1, v2⟩ := md_finds hN hA2 hI2 (r := r) hr
      obtain ⟨Z, z1, z2, z3⟩ := md_settleL hN hm k (i + 1) n (msw Y (8 * r + c) (8 * r + e)) V (asw a (8 * r + c) (8 * r + e)) hA2 v2 hI2 hr (by omega) (by omega)
      rw [if_neg hne, if_neg hne, o3, d2, d1, ix8, ix8, md_change (by omega) (by omega), bs1, v1, bs1, ← nI_succ, es]
      exact ⟨Z, z1, z2, z3.trans hF.2.1⟩
theorem RT.cg {X Y : xS} {a b : aS} (h : RT X a) (h1 : ∀ j, j < 80 → xcoreL j = true → Y.1 j = X.1 j) (h2 : ∀ j, 17 ≤ j → j ≠ 19 → j ≠ 20 → b j = a j) : RT Y b := by
  obtain ⟨g1, g2, g3, g4⟩ := h
  have k := h1
  have e18 : tp b = tp a := by unfold tp; rw [h2 18 (by omega) (by omega) (by omega)]
  have e26 : imr b = imr a := by unfold imr; rw [h2 26 (by omega) (by omega) (by omega)]
  have e27 : imk b = imk a := by unfold imk; rw [h2 27 (by omega) (by omega) (by omega)]
  have e38 : ∀ s, ss b s = ss a s := fun s => by unfold ss; rw [h2 38 (by omega) (by omega) (by omega)]
  refine ⟨?_, ?_, ?_, ?_⟩
  · unfold RZ at g1 ⊢
    rw [k 20 (by omega) rfl, k 21 (by omega) rfl, k 24 (by omega) rfl]
    exact g1
  · unfold RT_tape at g2 ⊢
    rw [k 2 (by omega) rfl, k 3 (by omega) rfl, e18, h2 18 (by omega) (by omega) (by omega), h2 17 (by omega) (by omega) (by omega)]
    exact g2
  · unfold RT_img at g3 ⊢
    rw [k 26 (by omega) rfl, k 27 (by omega) rfl, k 28 (by omega) rfl, k 29 (by omega) rfl, k 30 (by omega) rfl, k 31 (by omega) rfl, k 32 (by omega) rfl, k 33 (by omega) rfl, k 34 (by omega) rfl, k 35 (by omega) rfl, k 36 (by omega) rfl, k 37 (by omega) rfl, e26, e27, h2 25 (by omega) (by omega) (by omega), h2 26 (by omega) (by omega) (by omega), h2 27 (by omega) (by omega) (by omega), h2 28 (by omega) (by omega) (by omega), h2 29 (by omega) (by omega) (by omega), h2 30 (by omega) (by omega) (by omega), h2 31 (by omega) (by omega) (by omega), h2 32 (by omega) (by omega) (by omega), h2 33 (by omega) (by omega) (by omega), h2 34 (by omega) (by omega) (by omega), h2 35 (by omega) (by omega) (by omega), h2 36 (by omega) (by omega) (by omega)]
    exact g3
  · intro s hs
    have e : Y.1 (70 + s) = X.1 (70 + s) := by
      have : s = 0 ∨ s = 1 ∨ s = 2 ∨ s = 3 := by omega
      rcases this with rfl | rfl | rfl | rfl
      · exact k 70 (by omega) rfl
      · exact k 71 (by omega) rfl
      · exact k 72 (by omega) rfl
      · exact k 73 (by omega) rfl
    rw [k 4 (by omega) rfl, k 5 (by omega) rfl, e, e38, h2 37 (by omega) (by omega) (by omega), h2 38 (by omega) (by omega) (by omega), h2 39 (by omega) (by omega) (by omega)]
    exact g4 s hs
/-- what holds between two calls, but for rises, heights, hats -/
theorem IP_img.cg {a b : aS} (h : IP_img a) (h1 : nr b = nr a) (h2 : nk b = nk a) (h3 : nt b = nt a) (h4 : ∀ j, 25 ≤ j → j ≤ 36 → b j = a j) : IP_img b := by
  have e26 : imr b = imr a := by unfold imr; rw [h4 26 (by omega) (by omega)]
  have e27 : imk b = imk a := by unfold imk; rw [h4 27 (by omega) (by omega)]
  have e28 : iml b = iml a := by unfold iml; rw [h4 28 (by omega) (by omega)]
  unfold IP_img at h ⊢
  rw [h1, h2, h3, e26, e27, e28, h4 25 (by omega) (by omega), h4 26 (by omega) (by omega), h4 27 (by omega) (by omega), h4 28 (by omega) (by omega), h4 29 (by omega) (by omega), h4 30 (by omega) (by omega), h4 31 (by omega) (by omega), h4 32 (by omega) (by omega), h4 33 (by omega) (by omega), h4 34 (by omega) (by omega), h4 35 (by omega) (by omega), h4 36 (by omega) (by omega)]
  exact h
theorem IP_tape.cg {a b : aS} (h : IP_tape a) (h1 : b 18 = a 18) (h2 : b 17 = a 17) : IP_tape b := by
  have e18 : tp b = tp a := by unfold tp; rw [h1]
  unfold IP_tape at h ⊢
  rw [e18, h1, h2]
  exact h
theorem IP_sh.cg {a b : aS} (h : IP_sh a) (h1 : b 37 = a 37) (h2 : b 38 = a 38) : IP_sh b := by
  have e38 : ∀ s, ss b s = ss a s := fun s => by unfold ss; rw [h2]
  intro s hs
  rw [h1, h2, e38]
  exact h s hs
theorem IP.cg9 {a b : aS} (h : IP a) (hb : ∀ j, j ≠ 9 → b j = a j) (hb9 : ∀ j, nr a * 8 ≤ j → b 9 j = a 9 j) : IP b := by
  have e3 : nr b = nr a := by unfold nr; rw [hb 3 (by omega)]
  have e10 : np b = np a := by unfold np; rw [hb 10 (by omega)]
  have e14 : nk b = nk a := by unfold nk; rw [hb 14 (by omega)]
  have e21 : nt b = nt a := by unfold nt; rw [hb 21 (by omega)]
  obtain ⟨h1, h2, h3, h4, h5, h6, h7⟩ := h
  refine ⟨?_, ?_, ?_, h4.cg (hb 18 (by omega)) (hb 17 (by omega)), h5.cg e3 e14 e21 (fun j h1 h2 => hb j (by omega)), h6.cg (hb 37 (by omega)) (hb 38 (by omega)), ?_⟩
  · rw [e3, hb 7 (by omega)]
    exact h1
  · rw [e10, hb 12 (by omega)]
    exact h2
  · rw [hb 23 (by omega)]
    exact h3
  · intro r hr h6
    rw [e3] at hr
    rw [hb 7 (by omega), hb 8 (by omega)]
    obtain ⟨z1, z2, z3⟩ := h7 r hr h6
    refine ⟨z1, z2, fun c hc => ?_⟩
    rw [hb9 _ (by omega)]
    exact z3 c hc
theorem st_settle {X : xS} {M : mS} (hN : 2000 ≤ N) (h : Rl X M) (x y : Int32) : ∃ r X1 M1, xf_X_settle N X x y = some (r, X1) ∧ mf_settle N M x y = some (r, M1) ∧ Rl X1 M1 := by
  have hh := rowAt_cases (N := N) h x
  obtain ⟨h1, h2, h3, h4, h5⟩ := id h
  unfold xf_X_settle mf_settle
  rcases hh with ⟨r, hr, rfl, q1, q2⟩ | ⟨q1, q2⟩
  · have h6 := h3.hr6 hr
    rw [q1, q2, bs1, if_neg (nI_pos (by omega)), if_pos rfl, isIn_in]
    cases hy : mf_in y 0 5 with
    | false => exact ⟨_, X, M, rfl, rfl, h⟩
    | true =>
      obtain ⟨m, hm, rfl⟩ := in_nat (n := 5) (by omega) hy
      obtain ⟨Y, y1, y2, y3, y4, y5, y6, y7⟩ := px_settleL hN hm m 0 N X (mC M) h1 h3 h2.1.1 hr (by omega) (by omega)
      obtain ⟨V, v1, v2⟩ := md_finds hN (M := M) rfl h3 hr
      obtain ⟨Z, z1, z2, z3⟩ := md_settleL hN hm m 0 N M V (mC M) rfl v2 h3 hr (by omega) (by omega)
      rw [nI_0] at y1 z1
      have hR : Rl Y Z := by
        unfold Rl
        rw [z2]
        exact ⟨y2, h2.cg (fun j hj hj2 => y4 j (xcoreL_core hj2) (fun q => by omega)) (fun j hj _ _ => y6 j (by omega)), y3, h4.cg9 y6 y7, z3.trans h5⟩
      rw [if_pos rfl, if_pos rfl, v1, bs1, z1, bs2]
      rcases y1 with ⟨y1, yv⟩ | y1
      · rw [y1, yv]
        exact ⟨_, Y, Z, rfl, rfl, hR⟩
      · rw [y1]
        exact ⟨_, Y, Z, rfl, rfl, hR⟩
  · rw [q1, q2]
    exact ⟨_, X, M, rfl, rfl, h⟩
/-! shifts -/
def bitOf (v : Int32) (r : Nat) : Int32 := (v >>> (nI r &&& 31)) &&& 1
def fShL (s : Nat → Int32) : Nat → Nat → Int32 → Int32
  | 0, _, v => v
  | k + 1, r, v => fShL s k (r + 1) (v ||| (s r <<< (nI r &&& 31)))
theorem sh_dec : ∀ b0 b1 b2 b3 b4 b5 : Bool, ∀ r, r < 6 → bitOf (fShL (fun r => if r = 0 then bi b0 else if r = 1 then bi b1 else if r = 2 then bi b2 else if r = 3 then bi b3 else if r = 4 then bi b4 else bi b5) 6 0 0) r = (if r = 0 then bi b0 else if r = 1 then bi b1 else if r = 2 then bi b2 else if r = 3 then bi b3 else if r = 4 then bi b4 else bi b5) := by decide +kernel
theorem fShL_cong {s t : Nat → Int32} : ∀ {k i : Nat} {v : Int32}, (∀ j, i ≤ j → j < i + k → s j = t j) → fShL s k i v = fShL t k i v
  | 0, _, _, _ => rfl
  | k + 1, i, v, h => by
    rw [fShL, fShL, h i (Nat.le_refl _) (by omega)]
    exact fShL_cong (k := k) (i := i + 1) fun j h1 h2 => h j (by omega) (by omega)
theorem fShL_more {s : Nat → Int32} : ∀ {k i d : Nat} {v : Int32}, (∀ j, i + k ≤ j → s j = 0) → fShL s (k + d) i v = fShL s k i v
  | 0, i, d, v, h => by
    induction d generalizing i v with
    | zero => rfl
    | succ d ih =>
      rw [Nat.zero_add]
      show fShL s d (i + 1) (v ||| (s i <<< (nI i &&& 31))) = v
      rw [h i (by omega)]
      have e0 : (0 : Int32) <<< (nI i &&& 31) = 0 := Int32.zero_shiftLeft
      rw [e0, Int32.or_zero]
      have := ih (i := i + 1) (v := v) (fun j hj => h j (by omega))
      rw [Nat.zero_add] at this
      exact this
  | k + 1, i, d, v, h => by
    rw [show k + 1 + d = (k + d) + 1 by omega, fShL, fShL]
    exact fShL_more (k := k) (i := i + 1) fun j hj => h j (by omega)
theorem bi_of {x : Int32} (h : iv x 0 1) : ∃ b, x = bi b := by
  obtain ⟨j, hj, e, _⟩ := iv_ex (hi := 1) h
  have : j = 0 ∨ j = 1 := by omega
  rcases this with rfl | rfl
  · exact ⟨false, e⟩
  · exact ⟨true, e⟩
/-- the bits of all shifts tell each -/
theorem sh_bits {s : Nat → Int32} {n : Nat} (hn : n ≤ 6) (hs : ∀ r, r < n → iv (s r) 0 1) {r : Nat} (hr : r < n) : bitOf (fShL s n 0 0) r = s r := by
  have hb : ∀ j, ∃ b, (j < n → s j = bi b) ∧ (¬ j < n → bi b = 0) := fun j => by
    by_cases h : j < n
    · obtain ⟨b, e⟩ := bi_of (hs j h)
      exact ⟨b, fun _ => e, fun hh => absurd h hh⟩
    · exact ⟨false, fun hh => absurd hh h, fun _ => rfl⟩
  obtain ⟨b0, p0, n0⟩ := hb 0
  obtain ⟨b1, p1, n1⟩ := hb 1
  obtain ⟨b2, p2, n2⟩ := hb 2
  obtain ⟨b3, p3, n3⟩ := hb 3
  obtain ⟨b4, p4, n4⟩ := hb 4
  obtain ⟨b5, p5, n5⟩ := hb 5
  have hd := sh_dec b0 b1 b2 b3 b4 b5 r (by omega)
  have hdef : ∀ j, j < n → (if j = 0 then bi b0 else if j = 1 then bi b1 else if j = 2 then bi b2 else if j = 3 then bi b3 else if j = 4 then bi b4 else bi b5) = s j := by
    intro j hj
    have : j = 0 ∨ j = 1 ∨ j = 2 ∨ j = 3 ∨ j = 4 ∨ j = 5 := by omega
    rcases this with rfl | rfl | rfl | rfl | rfl | rfl
    · exact (p0 hj).symm
    · exact (p1 hj).symm
    · exact (p2 hj).symm
    · exact (p3 hj).symm
    · exact (p4 hj).symm
    · exact (p5 hj).symm
  have hsum : fShL (fun r => if r = 0 then bi b0 else if r = 1 then bi b1 else if r = 2 then bi b2 else if r = 3 then bi b3 else if r = 4 then bi b4 else bi b5) 6 0 0 = fShL s n 0 0 := by
    rw [show fShL s n 0 0 = fShL (fun r => if r < n then s r else 0) n 0 0 from fShL_cong (fun j _ h2 => by simp only [if_pos (show j < n by omega)])]
    rw [← fShL_more (s := fun r => if r < n then s r else 0) (k := n) (i := 0) (d := 6 - n) (v := 0) (fun j hj => by simp only [if_neg (show ¬ j < n by omega)]), show n + (6 - n) = 6 by omega]
    refine fShL_cong (fun j _ h2 => ?_)
    by_cases hj : j < n
    · simp only [if_pos hj]
      exact hdef j hj
    · simp only [if_neg hj]
      have : j = 0 ∨ j = 1 ∨ j = 2 ∨ j = 3 ∨ j = 4 ∨ j = 5 := by omega
      rcases this with rfl | rfl | rfl | rfl | rfl | rfl
      · exact n0 hj
      · exact n1 hj
      · exact n2 hj
      · exact n3 hj
      · exact n4 hj
      · exact n5 hj
  rw [hsum] at hd
  rw [hd]
  exact hdef r hr
theorem bitOf_iv (v : Int32) (r : Nat) : iv (bitOf v r) 0 1 := by
  unfold bitOf
  obtain ⟨j, hj, e⟩ := pk_andE (v >>> (nI r &&& 31)) (m := 1) 1 (by decide)
  rw [e]
  exact iv_nI (by omega) (by omega)
theorem px_allShL {X : xS} (hI : IS a) (hR : RS X a) : ∀ (k i n : Nat) (v : Int32), i + k = nr a → k < n → xf_H_allShifts_L4 N n X v (nI i) = some (fShL (a 8) k i v)
  | 0, i, n + 1, v, hk, _ => by
    have e : X.1 16 0 = nI (nr a) := hR.1.1.trans hI.1.1
    have h6 := hI.1.2.1
    rw [xf_H_allShifts_L4, e, if_pos (sm_len (by omega) (by omega))]
    rfl
  | k + 1, i, n + 1, v, hk, hn => by
    have e : X.1 16 0 = nI (nr a) := hR.1.1.trans hI.1.1
    have h6 := hI.1.2.1
    have hi : i < nr a := by omega
    have e8 := (hR.2.2.1 i hi).2.2.2.2.1
    rw [xf_H_allShifts_L4, e, if_neg (sm_nle (by omega) (by omega)), if_pos (sm_ok (show i < 6 by omega) (by omega)), sm_clamp (show i < 100000000 by omega), if_pos (by rw [hR.1.2.2.2]; exact hi), e8, ← nI_succ, fShL]
    exact px_allShL hI hR k (i + 1) n _ (by omega) (by omega)
theorem px_allSh {X : xS} (hN : 2000 ≤ N) (hI : IS a) (hR : RS X a) : xf_H_allShifts N X = some (fShL (a 8) (nr a) 0 0) := by
  have h6 := hI.1.2.1
  have h := px_allShL (N := N) hI hR (nr a) 0 N 0 (by omega) (by omega)
  rw [nI_0] at h
  unfold xf_H_allShifts
  rw [h]
  rfl
theorem px_shiftL {X : xS} (hn3 : X.1 16 0 = nI (nr a)) (hn : X.2.2.1 = nr a) (h6 : nr a ≤ 6) {v : Int32} {g : Nat → Int32} : ∀ (k i n : Nat), i + k = nr a → k < n → xf_H_shiftAll_L2 N v n (xf X 58 (fill (bitOf v) g i)) (nI i) = some (xf X 58 (fill (bitOf v) g (nr a)))
  | 0, i, n + 1, hk, _ => by
    have e : (xf X 58 (fill (bitOf v) g i)).1 16 0 = nI (nr a) := hn3
    have hi : i = nr a := by omega
    rw [xf_H_shiftAll_L2, e, if_pos (sm_len (by omega) (by omega)), hi]
  | k + 1, i, n + 1, hk, hn2 => by
    have e : (xf X 58 (fill (bitOf v) g i)).1 16 0 = nI (nr a) := hn3
    have ih := px_shiftL hn3 hn h6 (v := v) (g := g) k (i + 1) n (by omega) (by omega)
    have hlt : i < (xf X 58 (fill (bitOf v) g i)).2.2.1 := by
      show i < X.2.2.1
      omega
    have eb : (v >>> (nI i &&& 31)) &&& 1 = bitOf v i := rfl
    rw [xf_H_shiftAll_L2, e, if_neg (sm_nle (by omega) (by omega)), if_pos (sm_ok (show i < 6 by omega) (by omega)), sm_clamp (show i < 100000000 by omega), if_pos hlt, eb, xs_xf, fill_succ, ← nI_succ]
    exact ih
theorem px_shift {X : xS} (hN : 2000 ≤ N) (hn3 : X.1 16 0 = nI (nr a)) (hn : X.2.2.1 = nr a) (h6 : nr a ≤ 6) {v : Int32} : xf_H_shiftAll N X v = some (xf X 58 (fill (bitOf v) (X.1 58) (nr a))) := by
  have h := px_shiftL (N := N) hn3 hn h6 (v := v) (g := X.1 58) (nr a) 0 N (by omega) (by omega)
  rw [fill_0, xf_self, nI_0] at h
  unfold xf_H_shiftAll
  rw [h]
  rfl
def fShift (a : aS) (v : Int32) : aS := af a 8 (fill (bitOf v) (a 8) (nr a))
theorem fShift_ok (hI : IS a) (v : Int32) : IS (fShift a v) := hI.shift (fun r hr => by
  rw [fill_in hr]
  exact bitOf_iv v r)
theorem fill_fill {f f2 g : Nat → Int32} {n : Nat} : fill f (fill f2 g n) n = fill f g n := by
  funext k
  unfold fill
  by_cases h : k < n
  · rw [if_pos h, if_pos h]
  · rw [if_neg h, if_neg h, if_neg h]
theorem pow_sh : ∀ n, n ≤ 6 → ((1 : Int32) <<< (nI n &&& 31)) = nI (2 ^ n) := by decide
theorem px_shiftsL (hN : 2000 ≤ N) {X : xS} (hI : IS a) (hR : RS X a) {c2 c3 : Int32} : ∀ (k i n : Nat) (Y : xS) (v b m : Int32), xQ (xf X 58 (fill (bitOf v) (X.1 58) (nr a))) Y → i + k = 2 ^ nr a → k < n → ∃ Z w, xf_X_shifts_L28 N c2 c3 n Y b m (nI i) = some ((fBest (fun u => fAll (fShift a (nI u))) k i b m).1, (fBest (fun u => fAll (fShift a (nI u))) k i b m).2, Z) ∧ xQ (xf X 58 (fill (bitOf w) (X.1 58) (nr a))) Z
  | 0, i, n + 1, Y, v, b, m, hq, hk, _ => by
    have h6 := hI.1.2.1
    have h64 : 2 ^ nr a ≤ 64 := Nat.pow_le_pow_right (n := 2) (by omega) h6
    have e : Y.1 16 0 = nI (nr a) := (congrFun (hq.1 16 rfl) 0).trans (hR.1.1.trans hI.1.1)
    refine ⟨Y, v, ?_, hq⟩
    rw [xf_X_shifts_L28, e, pow_sh _ h6, if_pos (sm_len (by omega) (by omega))]
    rfl
  | k + 1, i, n + 1, Y, v, b, m, hq, hk, hn => by
    have h6 := hI.1.2.1
    have h64 : 2 ^ nr a ≤ 64 := Nat.pow_le_pow_right (n := 2) (by omega) h6
    have e : Y.1 16 0 = nI (nr a) := (congrFun (hq.1 16 rfl) 0).trans (hR.1.1.trans hI.1.1)
    have en : Y.2.2.1 = nr a := by rw [hq.2]; exact hR.1.2.2.2
    have e58 : Y.1 58 = fill (bitOf v) (X.1 58) (nr a) := hq.1 58 rfl
    have s1 := px_shift (N := N) hN e en h6 (v := nI i)
    rw [e58, fill_fill] at s1
    have hq1 : xQ (xf X 58 (fill (bitOf (nI i)) (X.1 58) (nr a))) (xf Y 58 (fill (bitOf (nI i)) (X.1 58) (nr a))) := by
      have := q_xf (k := 58) (f := fill (bitOf (nI i)) (X.1 58) (nr a)) hq
      rw [xf_xf] at this
      exact this
    have hR1 : RS (xf X 58 (fill (bitOf (nI i)) (X.1 58) (nr a))) (fShift a (nI i)) := hR.shift (fun r hr => by
      rw [fill_in hr, fill_in hr])
    obtain ⟨Y2, y1, y2⟩ := px_all hN (fShift_ok hI (nI i)) (hR1.frame hq1)
    rw [xf_X_shifts_L28, e, pow_sh _ h6, if_neg (sm_nle (by omega) (by omega)), s1, bs1, y1, bs2, ← nI_succ, fBest]
    by_cases hm : fAll (fShift a (nI i)) ≤ m
    · obtain ⟨Z, w, z1, z2⟩ := px_shiftsL hN hI hR k (i + 1) n Y2 (nI i) b m (hq1.trans y2) (by omega) (by omega)
      exact ⟨Z, w, by rw [if_pos hm, if_pos hm]; exact z1, z2⟩
    · obtain ⟨Z, w, z1, z2⟩ := px_shiftsL hN hI hR k (i + 1) n Y2 (nI i) (nI i) (fAll (fShift a (nI i))) (hq1.trans y2) (by omega) (by omega)
      exact ⟨Z, w, by rw [if_neg hm, if_neg hm]; exact z1, z2⟩
theorem md_keepShL {M : mS} {x : Int32} {g : Nat → Int32} : ∀ (k i n : Nat), i + k = 6 → k < n → mf_shifts_L14 N x n (mset M 55 (fill (M.1 8) g i)) (nI i) = some (mset M 55 (fill (M.1 8) g 6))
  | 0, i, n + 1, hk, _ => by
    have hi : i = 6 := by omega
    subst hi
    rw [mf_shifts_L14, if_pos (show (6 : Int32) ≤ nI 6 from sm_len (n := 6) (m := 6) (by omega) (by omega))]
  | k + 1, i, n + 1, hk, hn2 => by
    have ih := md_keepShL (M := M) (x := x) (g := g) k (i + 1) n (by omega) (by omega)
    have e57 : (mset M 55 (fill (M.1 8) g i)).1 8 i = M.1 8 i := rfl
    rw [mf_shifts_L14, if_neg (show ¬ (6 : Int32) ≤ nI i from sm_nle (n := 6) (by omega) (by omega)), if_pos (sm_ok (show i < 6 by omega) (by omega)), sm_clamp (show i < 100000000 by omega), e57, ms_mset, fill_succ, ← nI_succ]
    exact ih
theorem md_layShL {M : mS} {x y z : Int32} {g : Nat → Int32} : ∀ (k i n : Nat), i + k = 6 → k < n → mf_shifts_L115 N x y z n (mset M 8 (fill (M.1 55) g i)) (nI i) = some (mset M 8 (fill (M.1 55) g 6))
  | 0, i, n + 1, hk, _ => by
    have hi : i = 6 := by omega
    subst hi
    rw [mf_shifts_L115, if_pos (show (6 : Int32) ≤ nI 6 from sm_len (n := 6) (m := 6) (by omega) (by omega))]
  | k + 1, i, n + 1, hk, hn2 => by
    have ih := md_layShL (M := M) (x := x) (y := y) (z := z) (g := g) k (i + 1) n (by omega) (by omega)
    have e57 : (mset M 8 (fill (M.1 55) g i)).1 55 i = M.1 55 i := rfl
    rw [mf_shifts_L115, if_neg (show ¬ (6 : Int32) ≤ nI i from sm_nle (n := 6) (by omega) (by omega)), if_pos (sm_ok (show i < 6 by omega) (by omega)), sm_clamp (show i < 100000000 by omega), e57, ms_mset, fill_succ, ← nI_succ]
    exact ih
theorem md_setShL {M : mS} {m : Nat} (h3 : M.1 3 0 = nI m) (h6 : m ≤ 6) {x y z v : Int32} {g : Nat → Int32} : ∀ (k i n : Nat), i + k = m → k < n → mf_shifts_L59 N x y z v n (mset M 8 (fill (bitOf v) g i)) (nI i) = some (mset M 8 (fill (bitOf v) g m))
  | 0, i, n + 1, hk, _ => by
    have e : (mset M 8 (fill (bitOf v) g i)).1 3 0 = nI m := h3
    have hi : i = m := by omega
    rw [mf_shifts_L59, e, if_pos (sm_len (by omega) (by omega)), hi]
  | k + 1, i, n + 1, hk, hn2 => by
    have e : (mset M 8 (fill (bitOf v) g i)).1 3 0 = nI m := h3
    have ih := md_setShL h3 h6 (x := x) (y := y) (z := z) (v := v) (g := g) k (i + 1) n (by omega) (by omega)
    have eb : (v >>> (nI i &&& 31)) &&& 1 = bitOf v i := rfl
    rw [mf_shifts_L59, e, if_neg (sm_nle (by omega) (by omega)), if_pos (sm_ok (show i < 6 by omega) (by omega)), sm_clamp (show i < 100000000 by omega), eb, ms_mset, fill_succ, ← nI_succ]
    exact ih
theorem md_shiftsL (hN : 2000 ≤ N) {M : mS} (hA : mC M = a) (hI : IS a) {x : Int32} : ∀ (k i n : Nat) (Y : mS) (v b m : Int32), mE (mset M 8 (fill (bitOf v) (M.1 8) (nr a))) Y → i + k = 2 ^ nr a → k < n → ∃ Z w, mf_shifts_L45 N x n Y b m (nI i) = some ((fBest (fun u => fAll (fShift a (nI u))) k i b m).1, (fBest (fun u => fAll (fShift a (nI u))) k i b m).2, Z) ∧ mE (mset M 8 (fill (bitOf w) (M.1 8) (nr a))) Z
  | 0, i, n + 1, Y, v, b, m, hq, hk, _ => by
    have h6 := hI.1.2.1
    have h64 : 2 ^ nr a ≤ 64 := Nat.pow_le_pow_right (n := 2) (by omega) h6
    have e : Y.1 3 0 = nI (nr a) := by
      have : Y.1 3 = M.1 3 := (e_at hq rfl).trans (mset_ne (by omega))
      rw [this, mA hA 3 rfl]
      exact hI.1.1
    refine ⟨Y, v, ?_, hq⟩
    rw [mf_shifts_L45, e, pow_sh _ h6, if_pos (sm_len (by omega) (by omega))]
    rfl
  | k + 1, i, n + 1, Y, v, b, m, hq, hk, hn => by
    have h6 := hI.1.2.1
    have h64 : 2 ^ nr a ≤ 64 := Nat.pow_le_pow_right (n := 2) (by omega) h6
    have e : Y.1 3 0 = nI (nr a) := by
      have : Y.1 3 = M.1 3 := (e_at hq rfl).trans (mset_ne (by omega))
      rw [this, mA hA 3 rfl]
      exact hI.1.1
    have e8 : Y.1 8 = fill (bitOf v) (M.1 8) (nr a) := (e_at hq rfl).trans mset_same
    have s1 := md_setShL (N := N) (M := Y) e h6 (x := x) (y := b) (z := m) (v := nI i) (g := Y.1 8) (nr a) 0 N (by omega) (by omega)
    rw [fill_0, mset_self, nI_0, e8, fill_fill] at s1
    have hq1 : mE (mset M 8 (fill (bitOf (nI i)) (M.1 8) (nr a))) (mset Y 8 (fill (bitOf (nI i)) (M.1 8) (nr a))) := by
      have := e_mset (k := 8) (f := fill (bitOf (nI i)) (M.1 8) (nr a)) rfl hq
      rw [mset_mset] at this
      exact this
    have hA1 : mC (mset Y 8 (fill (bitOf (nI i)) (M.1 8) (nr a))) = fShift a (nI i) := by
      rw [hq1.1, mC_mset rfl, hA, mA hA 8 rfl]
      rfl
    obtain ⟨Y2, y1, y2⟩ := md_all hN (fShift_ok hI (nI i)) hA1
    rw [mf_shifts_L45, e, pow_sh _ h6, if_neg (sm_nle (by omega) (by omega)), s1, bs1, y1, bs2, ← nI_succ, fBest]
    by_cases hm : fAll (fShift a (nI i)) ≤ m
    · obtain ⟨Z, w, z1, z2⟩ := md_shiftsL hN hA hI k (i + 1) n Y2 (nI i) b m (hq1.trans y2) (by omega) (by omega)
      exact ⟨Z, w, by rw [if_pos hm, if_pos hm]; exact z1, z2⟩
    · obtain ⟨Z, w, z1, z2⟩ := md_shiftsL hN hA hI k (i + 1) n Y2 (nI i) (nI i) (fAll (fShift a (nI i))) (hq1.trans y2) (by omega) (by omega)
      exact ⟨Z, w, by rw [if_neg hm, if_neg hm]; exact z1, z2⟩
theorem st_shifts {X : xS} {M : mS} (hN : 2000 ≤ N) (h : Rl X M) (x : Int32) : ∃ r X1 M1, xf_X_shifts N X x = some (r, X1) ∧ mf_shifts N M x = some (r, M1) ∧ Rl X1 M1 := by
  obtain ⟨h1, h2, h3, h4, h5⟩ := id h
  have h6 := h3.1.2.1
  have h64 : 2 ^ nr (mC M) ≤ 64 := Nat.pow_le_pow_right (n := 2) (by omega) h6
  unfold xf_X_shifts mf_shifts
  rw [isIn_in]
  cases hx : mf_in x 0 1 with
  | false => exact ⟨_, X, M, rfl, rfl, h⟩
  | true =>
    have hsv : ∀ r, r < nr (mC M) → bitOf (fShL (mC M 8) (nr (mC M)) 0 0) r = mC M 8 r := fun r hr => sh_bits h6 (fun r hr => (h3.2.2.1 r hr).2.2.2.2.2.2) hr
    have hxs : ∀ r, r < nr (mC M) → X.1 58 r = mC M 8 r := fun r hr => (h1.2.2.1 r hr).2.2.2.2.1
    have hself : xf X 58 (fill (bitOf (fShL (mC M 8) (nr (mC M)) 0 0)) (X.1 58) (nr (mC M))) = X := by
      rw [fill_same (fun k hk => (hsv k hk).trans (hxs k hk).symm), xf_self]
    obtain ⟨Z, w, z1, z2⟩ := px_shiftsL hN h3 h1 (c2 := x) (c3 := fShL (mC M 8) (nr (mC M)) 0 0) (2 ^ nr (mC M)) 0 N X (fShL (mC M 8) (nr (mC M)) 0 0) 0 (-1) (by rw [hself]; exact xQ.refl X) (by omega) (by omega)
    have zn3 : Z.1 16 0 = nI (nr (mC M)) := (congrFun (z2.1 16 rfl) 0).trans (h1.1.1.trans h3.1.1)
    have zn : Z.2.2.1 = nr (mC M) := by rw [z2.2]; exact h1.1.2.2.2
    have z3 := px_shift (N := N) hN zn3 zn h6 (v := fShL (mC M 8) (nr (mC M)) 0 0)
    have z58 : Z.1 58 = fill (bitOf w) (X.1 58) (nr (mC M)) := z2.1 58 rfl
    rw [z58, fill_fill, fill_same (fun k hk => (hsv k hk).trans (hxs k hk).symm)] at z3
    -- the reference
    have k1 := md_keepShL (N := N) (M := M) (x := x) (g := M.1 55) 6 0 N (by omega) (by omega)
    rw [fill_0, mset_self, nI_0] at k1
    have hself2 : mset (mset M 55 (fill (M.1 8) (M.1 55) 6)) 8 (fill (bitOf (fShL (mC M 8) (nr (mC M)) 0 0)) ((mset M 55 (fill (M.1 8) (M.1 55) 6)).1 8) (nr (mC M))) = mset M 55 (fill (M.1 8) (M.1 55) 6) := by
      have hsame : fill (bitOf (fShL (mC M 8) (nr (mC M)) 0 0)) ((mset M 55 (fill (M.1 8) (M.1 55) 6)).1 8) (nr (mC M)) = (mset M 55 (fill (M.1 8) (M.1 55) 6)).1 8 := fill_same (fun k hk => hsv k hk)
      rw [hsame, mset_self]
    obtain ⟨V, w2, v1, v2⟩ := md_shiftsL hN (M := mset M 55 (fill (M.1 8) (M.1 55) 6)) (mL_mset (by omega)).1 h3 (x := x) (2 ^ nr (mC M)) 0 N _ (fShL (mC M 8) (nr (mC M)) 0 0) 0 (-1) (by rw [hself2]; exact mE.refl _) (by omega) (by omega)
    have k2 := fun y z => md_layShL (N := N) (M := V) (x := x) (y := y) (z := z) (g := V.1 8) 6 0 N (by omega) (by omega)
    rw [nI_0] at z1 v1
    have k3 := k2 (fBest (fun u => fAll (fShift (mC M) (nI u))) (2 ^ nr (mC M)) 0 0 (-1)).1 (fBest (fun u => fAll (fShift (mC M) (nI u))) (2 ^ nr (mC M)) 0 0 (-1)).2
    rw [fill_0, mset_self, nI_0] at k3
    have e55 : V.1 55 = fill (M.1 8) (M.1 55) 6 := v2.2.2 55 (by omega) (by omega)
    have e8 : V.1 8 = fill (bitOf w2) (M.1 8) (nr (mC M)) := (e_at v2 rfl).trans mset_same
    have hfin : fill (V.1 55) (V.1 8) 6 = mC M 8 := by
      funext k
      unfold fill at e55 e8 ⊢
      by_cases hk : k < 6
      · rw [if_pos hk, e55]
        simp only [if_pos hk]
        rfl
      · rw [if_neg hk, e8]
        simp only [if_neg (show ¬ k < nr (mC M) by omega)]
        rfl
    have hML : mL M (mset V 8 (fill (V.1 55) (V.1 8) 6)) := by
      refine ⟨?_, v2.2.1⟩
      rw [mC_mset rfl, v2.1, mC_mset rfl, (mL_mset (by omega)).1, af_af, hfin, af_self]
    have hXL : xL X (xf Z 58 (X.1 58)) := (xf_back z2).l
    rw [if_pos rfl, if_pos rfl, px_allSh hN h3 h1, bs1, z1, bs3, z3, bs1, k1, bs1, v1, bs3, k3, bs1]
    by_cases hx0 : x = 0
    · rw [if_pos hx0, if_pos hx0]
      exact ⟨_, _, _, rfl, rfl, h.sameL hXL hML⟩
    · rw [if_neg hx0, if_neg hx0]
      exact ⟨_, _, _, rfl, rfl, h.sameL hXL hML⟩
end A
end PASK6
