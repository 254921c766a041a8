section PCLS
variable {N : Nat} {X : xS} {a : aS} {r c p q e : Nat}
theorem IS.k6 (hI : IS a) : nr a ≤ 6 := hI.1.2.1
theorem px_place {c : Int32} (hR : RS X a) (hI : IS a) (hr : r < nr a) : xf_W_placeOf N X (nI r) c = some (fPlace a r c) := by
  have h6 := hI.hr6 hr
  obtain ⟨r1, r2, r3, r4, r5, r6, r7, r8, r9, r10⟩ := hR.2.2.1 r hr
  unfold xf_W_placeOf fPlace
  rw [sm_clamp (show r < 100000000 by omega), if_pos (by rw [hR.1.2.2.2]; exact hr), r5, r6]
  unfold nrAside
  by_cases h1 : a 4 r = 1
  · simp only [if_pos h1]
    rfl
  · simp only [if_neg h1]
    by_cases h3 : a 4 r = 3
    · simp only [if_pos h3]
      rfl
    · simp only [if_neg h3]
theorem px_floor (hR : RS X a) (hI : IS a) (hr : r < nr a) : xf_W_floor N X (nI r) = some (fFloor a r) := by
  have h6 := hI.hr6 hr
  obtain ⟨r1, r2, r3, r4, r5, r6, r7, r8, r9, r10⟩ := hR.2.2.1 r hr
  unfold xf_W_floor fFloor
  rw [sm_clamp (show r < 100000000 by omega), if_pos (by rw [hR.1.2.2.2]; exact hr), r4, r7]
  unfold nrAbove
  by_cases h1 : a 4 r = 2
  · simp only [if_pos h1, Int32.zero_add]
  · simp only [if_neg h1]
    by_cases h3 : a 4 r = 4
    · simp only [if_pos h3, Int32.zero_add]
      have : a 6 r + 2 * a 6 r = 3 * a 6 r := by grind
      rw [this]
    · simp only [if_neg h3]
theorem px_far (hR : RS X a) (hr : r < nr a) : X.1 61 r = fFar a r := by
  obtain ⟨r1, r2, r3, r4, r5, r6, r7, r8, r9, r10⟩ := hR.2.2.1 r hr
  rw [r8]
  unfold nrFar fFar
  by_cases h1 : a 4 r = 3
  · simp only [if_pos h1]
  · simp only [if_neg h1, Int32.sub_zero]
theorem px_among (hR : RS X a) (hr : r < nr a) : (X.1 63 r = 0 ↔ fAmong a r = false) := by
  obtain ⟨r1, r2, r3, r4, r5, r6, r7, r8, r9, r10⟩ := hR.2.2.1 r hr
  rw [r10]
  unfold nrAmong fAmong
  by_cases h1 : a 4 r = 4
  · simp [h1]
  · simp [h1]
theorem px_height {v : Int32} (hR : RS X a) (hI : IS a) (hr : r < nr a) : xf_W_heightOf N X (nI r) v = some (fAbove a r v) := by
  have h6 := hI.hr6 hr
  obtain ⟨r1, r2, r3, r4, r5, r6, r7, r8, r9, r10⟩ := hR.2.2.1 r hr
  have hf := px_floor (N := N) hR hI hr
  unfold xf_W_floor at hf
  rw [sm_clamp (show r < 100000000 by omega), if_pos (by rw [hR.1.2.2.2]; exact hr), Option.some.injEq] at hf
  have hl : X.1 62 r = fLow a r := by
    rw [r9]
    unfold nrLow fLow
    by_cases h1 : a 4 r = 5
    · simp only [if_pos h1, Int32.zero_add]
    · simp only [if_neg h1]
  unfold xf_W_heightOf fAbove
  rw [sm_clamp (show r < 100000000 by omega), if_pos (by rw [hR.1.2.2.2]; exact hr), hf, hl]
  by_cases h1 : v ≤ fLow a r
  · rw [if_pos h1, if_pos h1]
  · rw [if_neg h1, if_neg h1]
theorem px_sort (hR : RS X a) (hI : IS a) (hr : r < nr a) (hc : c < 8) : xf_H_sortOf N X (nI r) (nI c) = some (fSort a r c) := by
  have h6 := hI.hr6 hr
  have h := hR.2.2.2.1 r hr c hc
  unfold xf_H_sortOf fSort
  rw [sm_clamp (show r < 100000000 by omega), sm_clamp (show c < 100000000 by omega), h]
  by_cases h1 : X.1 20 0 = -1
  · rw [if_pos h1, if_pos (by rw [hR.1.2.2.2]; exact hr), if_pos (sm_ok hc (by omega)), if_pos h1]
  · rw [if_neg h1, if_neg h1]
theorem px_eyes (hR : RS X a) (hI : IS a) (hr : r < nr a) (hc : c < 8) : xf_H_eyesOf N X (nI r) (nI c) = some (fEyes a r c) := by
  have h6 := hI.hr6 hr
  have hs := hI.sort hr hc
  unfold xf_H_eyesOf fEyes
  rw [px_sort hR hI hr hc, bs1, if_pos hs, sm_clamp (show r < 100000000 by omega), if_pos (by rw [hR.1.2.2.2]; exact hr), px_height hR hI hr, bs1, hR.2.1.1]
theorem px_top (hR : RS X a) (hI : IS a) (hr : r < nr a) (hc : c < 8) : xf_H_topOf N X (nI r) (nI c) = some (fTop a r c) := by
  have h6 := hI.hr6 hr
  have hs := hI.sort hr hc
  have hrr : r < X.2.2.1 := by rw [hR.1.2.2.2]; exact hr
  unfold xf_H_topOf fTop
  rw [px_sort hR hI hr hc, bs1, sm_clamp (show r < 100000000 by omega), if_pos hrr, if_pos hs, px_height hR hI hr, bs1, hR.2.1.2.1]
  rcases hR.2.2.2.2.2.2.1 with ⟨h1, h2⟩ | ⟨r2, c2, g1, g2, g3, g4, g5, g6⟩
  · rw [if_pos h1, if_neg]
    rw [h2, fa_eq, nI_toInt (by omega)]
    show ¬ ((8 * r + c : Nat) : Int) = -1
    omega
  · have h62 := hI.hr6 g1
    rw [g3, g4, g5, g6, if_neg (nI_pos (by omega)), sm_clamp (show r2 < 100000000 by omega), if_pos hrr, if_pos (by rw [hR.1.2.2.2]; exact g1)]
    by_cases e1 : r = r2
    · rw [if_pos e1]
      by_cases e2 : c = c2
      · subst e1 e2
        rw [if_pos rfl, bs1, if_pos rfl]
        simp only [bs1, if_pos hs, if_pos hrr, px_height hR hI hr]
      · have n1 : ¬ nI c = nI c2 := fun hh => e2 ((sm_eq (by omega) (by omega)).mp hh)
        have n2 : ¬ nI (8 * r + c) = nI (8 * r2 + c2) := fun hh => by
          have := (sm_eq (by omega) (by omega)).mp hh
          omega
        rw [if_neg n1, bs1, if_neg n2]
        simp only [bs1, if_pos hs, if_pos hrr, px_height hR hI hr]
    · have n2 : ¬ nI (8 * r + c) = nI (8 * r2 + c2) := fun hh => by
        have := (sm_eq (by omega) (by omega)).mp hh
        omega
      rw [if_neg e1, bs1, if_neg n2]
      simp only [bs1, if_pos hs, if_pos hrr, px_height hR hI hr]
/-- the line is laid -/
def LN (X : xS) (a : aS) (r c p : Nat) : Prop := X.1 49 0 = fFar a r ∧ X.1 50 0 = a 11 p ∧ X.1 51 0 = fPlace a r (nI c) - a 11 p ∧ X.1 52 0 = a 12 p ∧ X.1 53 0 = fEyes a r c - a 12 p
theorem px_lay (hR : RS X a) (hI : IS a) (hr : r < nr a) (hc : c < 8) (hp : p < np a) : ∃ X1, xf_H_layLine N X (nI r) (nI c) (nI p) = some X1 ∧ xQ X X1 ∧ LN X1 a r c p := by
  have h6 := hI.hr6 hr
  have hp6 := hI.hp6 hp
  obtain ⟨p1, p2, p3⟩ := hR.2.2.2.2.1 p hp
  refine ⟨xf_L_lay X (fFar a r) (fPlace a r (nI c)) (fEyes a r c) (a 11 p) (a 12 p), ?_, ?_, ?_⟩
  · unfold xf_H_layLine
    rw [sm_clamp (show r < 100000000 by omega), if_pos (by rw [hR.1.2.2.2]; exact hr), px_place hR hI hr, bs1, px_eyes hR hI hr hc, bs1, if_pos (sm_ok hp6 (by omega)), sm_clamp (show p < 100000000 by omega), px_far hR hr, p1, p2]
  · unfold xf_L_lay
    exact (((((xQ.refl X).xs rfl).xs rfl).xs rfl).xs rfl).xs rfl
  · exact ⟨rfl, rfl, rfl, rfl, rfl⟩
theorem px_besides {d pl : Int32} (hL : LN X a r c p) : xf_L_besides X d pl = fBes a r c p pl d := by
  unfold xf_L_besides fBes
  rw [hL.1, hL.2.1, hL.2.2.1]
  generalize fFar a r = f
  generalize fPlace a r (nI c) = l
  generalize a 11 p = w
  grind
theorem px_touched {d t : Int32} (hL : LN X a r c p) : xf_L_isTouchedBy X d t = fHigh a r c p t d := by
  unfold xf_L_isTouchedBy fHigh
  rw [hL.1, hL.2.2.2.1, hL.2.2.2.2]
  by_cases h1 : t * fFar a r < a 12 p * fFar a r + (fEyes a r c - a 12 p) * d
  · rw [if_pos h1, decide_eq_true h1]; rfl
  · rw [if_neg h1, decide_eq_false h1]; rfl
theorem zsub (x : Int32) : 0 - x = -x := Int32.zero_sub x
theorem px_postL (hR : RS X a) (hI : IS a) (hL : LN X a r c p) : ∀ (k i n : Nat), i + k = nk a → k < n → xf_H_hidingPost_L2 N n X (nI i) = some (match fFirst (fPosts a r c p) k i with | some x => .inl (nI x) | none => .inr ())
  | 0, i, n + 1, hk, _ => by
    have e : X.1 18 0 = nI (nk a) := hR.1.2.2.1.trans hI.1.2.2.2.2.1
    have h4 := hI.1.2.2.2.2.2
    rw [xf_H_hidingPost_L2, e, if_pos (sm_len (by omega) (by omega))]
    rfl
  | k + 1, i, n + 1, hk, hn => by
    have e : X.1 18 0 = nI (nk a) := hR.1.2.2.1.trans hI.1.2.2.2.2.1
    have h4 := hI.1.2.2.2.2.2
    obtain ⟨o1, o2⟩ := hR.2.2.2.2.2.1 i (by omega)
    have ih := px_postL hR hI hL k (i + 1) n (by omega) (by omega)
    rw [xf_H_hidingPost_L2, e, if_neg (sm_nle (by omega) (by omega)), if_pos (sm_ok (show i < 4 by omega) (by omega)), fFirst]
    simp only [sm_clamp (show i < 100000000 by omega), o1, o2, hL.1, px_besides hL, ← nI_succ, ih, zsub]
    have ea : (if 0 ≤ fBes a r c p (a 15 i) (a 16 i) then fBes a r c p (a 15 i) (a 16 i) else -fBes a r c p (a 15 i) (a 16 i)) = fAbs (fBes a r c p (a 15 i) (a 16 i)) := rfl
    rw [ea]
    unfold fPosts
    by_cases h1 : fFar a r ≤ a 16 i
    · have h2 : ¬ a 16 i < fFar a r := by rw [fa_lt]; rw [fa_le] at h1; omega
      simp [h1, h2]
    · have h2 : a 16 i < fFar a r := by rw [fa_lt]; rw [fa_le] at h1; omega
      by_cases h3 : fFar a r ≤ fAbs (fBes a r c p (a 15 i) (a 16 i))
      · have h5 : ¬ fAbs (fBes a r c p (a 15 i) (a 16 i)) < fFar a r := by rw [fa_lt]; rw [fa_le] at h3; omega
        simp [h1, h2, h3, h5]
      · have h5 : fAbs (fBes a r c p (a 15 i) (a 16 i)) < fFar a r := by rw [fa_lt]; rw [fa_le] at h3; omega
        simp [h1, h2, h3, h5]
theorem px_post (hN : 2000 ≤ N) (hR : RS X a) (hI : IS a) (hL : LN X a r c p) : xf_H_hidingPost N X = some (fPostI a r c p) := by
  unfold xf_H_hidingPost fPostI fPost
  have h4 := hI.1.2.2.2.2.2
  have h := px_postL (N := N) hR hI hL (nk a) 0 N (by omega) (by omega)
  rw [nI_0] at h
  rw [h]
  cases fFirst (fPosts a r c p) (nk a) 0 with
  | none => rfl
  | some x => rfl
/-! how large the numbers of a line are -/
theorem fFar_iv (hI : IS a) (hr : r < nr a) : iv (fFar a r) 7 60 := by
  have h6 := hI.hr6 hr
  unfold fFar
  have e : (10 : Int32) + 10 * nI r = nI (10 + 10 * r) := by
    rw [show (10 : Int32) = nI 10 from rfl, pk_mul, nI_add]
  have h1 : iv (nI (10 + 10 * r)) 10 60 := by
    unfold iv
    rw [nI_toInt (by omega)]
    omega
  rw [e]
  by_cases h3 : a 4 r = 3
  · rw [if_pos h3]
    have h2 : iv (3 : Int32) 3 3 := ⟨Int.le_refl _, Int.le_refl _⟩
    exact iv_mono (iv_sub h1 h2 (by omega) (by omega)).1 (by omega) (by omega)
  · rw [if_neg h3, Int32.sub_zero]
    exact iv_mono h1 (by omega) (by omega)
theorem fPlace_iv (hI : IS a) (hr : r < nr a) : ∃ K : Int, 0 ≤ K ∧ K ≤ 11 ∧ ∀ c, c < 8 → (fPlace a r (nI c)).toInt = 2 * c + K := by
  have h6 := hI.hr6 hr
  obtain ⟨i1, i2, i3, i4, i5, i6, i7⟩ := hI.2.2.1 r hr
  have hx : ∃ x : Int32, iv x 0 10 ∧ ∀ c, fPlace a r c = (2 * c + a 8 r) + x := by
    unfold fPlace
    by_cases h1 : a 4 r = 1
    · refine ⟨1, ⟨by decide, by decide⟩, fun c => ?_⟩
      rw [if_pos h1]
    · by_cases h3 : a 4 r = 3
      · obtain ⟨m, hm, em, hm2⟩ := iv_ex (hi := 20) i5
        refine ⟨1 + (a 6 r - a 6 r / 10 * 10), ?_, fun c => ?_⟩
        · rw [em, show (10 : Int32) = nI 10 from rfl, pk_rem (by omega) (by omega) (by omega), show (1 : Int32) = nI 1 from rfl, nI_add]
          exact iv_nI (by omega) (by omega)
        · rw [if_neg h1, if_pos h3]
      · refine ⟨0, ⟨by decide, by decide⟩, fun c => ?_⟩
        rw [if_neg h1, if_neg h3]
  obtain ⟨x, hx1, hx2⟩ := hx
  obtain ⟨s, hs, es, hs2⟩ := iv_ex (hi := 1) i7
  obtain ⟨y, hy, ey, hy2⟩ := iv_ex (hi := 10) hx1
  refine ⟨s + y, by omega, by omega, fun c hc => ?_⟩
  rw [hx2, es, ey, show (2 : Int32) = nI 2 from rfl, pk_mul, nI_add, nI_add, nI_toInt (by omega)]
  omega
/-- how far beside it passes, as a whole number -/
theorem fBes_int (hI : IS a) (hr : r < nr a) (hc : c < 8) (hp : p < np a) (hq : q < nr a) : ∃ G K D : Int, D = (fFar a r).toInt ∧ 0 < D ∧ -4000 ≤ G ∧ G ≤ 4000 ∧ ∀ e, e < 8 → (fBes a r c p (fPlace a q (nI e)) (fFar a q)).toInt = G - (2 * e + K) * D := by
  have hD := fFar_iv hI hr
  have hF := fFar_iv hI hq
  obtain ⟨K, k1, k2, k3⟩ := fPlace_iv hI hq
  obtain ⟨K2, m1, m2, m3⟩ := fPlace_iv hI hr
  obtain ⟨P1, P2, P3⟩ := hI.2.2.2.2.1 p hp
  have hl : iv (fPlace a r (nI c)) 0 25 := by
    unfold iv
    rw [m3 c hc]
    omega
  have t1 := iv_mul (x := a 11 p) (y := fFar a r) (b := 20) (d := 60) (iv_mono P1 (by omega) (by omega)) (iv_mono hD (by omega) (by omega)) (by omega)
  have t2 := iv_sub hl P1 (by omega) (by omega)
  have t3 := iv_mul (x := fPlace a r (nI c) - a 11 p) (y := fFar a q) (b := 25) (d := 60) (iv_mono t2.1 (by omega) (by omega)) (iv_mono hF (by omega) (by omega)) (by omega)
  have t4 := iv_add t1.1 t3.1 (by omega) (by omega)
  refine ⟨(a 11 p * fFar a r + (fPlace a r (nI c) - a 11 p) * fFar a q).toInt, K, (fFar a r).toInt, rfl, by have := hD.1; omega, by have := t4.1.1; omega, by have := t4.1.2; omega, fun e he => ?_⟩
  have hs : iv (fPlace a q (nI e)) 0 25 := by
    unfold iv
    rw [k3 e he]
    omega
  have t5 := iv_mul (x := fPlace a q (nI e)) (y := fFar a r) (b := 25) (d := 60) (iv_mono hs (by omega) (by omega)) (iv_mono hD (by omega) (by omega)) (by omega)
  have t6 := iv_sub t4.1 t5.1 (by omega) (by omega)
  unfold fBes
  rw [t6.2, t5.2, k3 e he]
theorem fAbs_le {x d : Int32} (hx : -1000000 ≤ x.toInt) (hx2 : x.toInt ≤ 1000000) : fAbs x ≤ d ↔ x.toInt ≤ d.toInt ∧ -x.toInt ≤ d.toInt := by
  have hn : (-x).toInt = -x.toInt := fb_negI (by omega)
  unfold fAbs
  by_cases h1 : 0 ≤ x
  · rw [if_pos h1, fa_le]
    rw [fa_le, toI_0] at h1
    omega
  · rw [if_neg h1, fa_le, hn]
    rw [fa_le, toI_0] at h1
    omega
theorem px_seatL (hR : RS X a) (hI : IS a) (hr : r < nr a) (hc : c < 8) (hp : p < np a) (hq : q < nr a) (hL : LN X a r c p) (ha : fAmong a r = true) (hb : fAmong a q = true) : ∀ (k i n : Nat), i + k = ns a q → k < n → xf_H_hidingSeat_L37 N (nI q) (fFar a r) n X (fBes a r c p (fPlace a q (nI i)) (fFar a q)) (nI i) = some (match fFirst (fHid a r c p q) k i with | some x => .inl (nI x) | none => .inr ())
  | 0, i, n + 1, hk, _ => by
    have h6 := hI.hr6 hq
    have e := hI.2.2.1 q hq
    have e2 := (hR.2.2.1 q hq).2.2.1
    rw [xf_H_hidingSeat_L37, sm_clamp (show q < 100000000 by omega), if_pos (by rw [hR.1.2.2.2]; exact hq), e2, e.2.1, if_pos (sm_len (by omega) (by omega))]
    rfl
  | k + 1, i, n + 1, hk, hn => by
    have h6 := hI.hr6 hq
    have e := hI.2.2.1 q hq
    have e2 := (hR.2.2.1 q hq).2.2.1
    have hi8 : i < 8 := by omega
    have ih := px_seatL hR hI hr hc hp hq hL ha hb k (i + 1) n (by omega) (by omega)
    obtain ⟨G, K, D, d1, d2, g1, g2, g3⟩ := fBes_int hI hr hc hp hq
    have hD := fFar_iv hI hr
    obtain ⟨K3, k1, k2, k3⟩ := fPlace_iv hI hq
    have hneg : (-fFar a r).toInt = -D := by
      rw [d1]
      exact fb_negI (by have := hD.1; omega)
    have hmono : ∀ j, i ≤ j → j < 8 → (2 * (i : Int) + K) * D ≤ (2 * j + K) * D := fun j h1 h2 => Int.mul_le_mul_of_nonneg_right (by omega) (by omega)
    have hstep : fBes a r c p (fPlace a q (nI i)) (fFar a q) - 2 * fFar a r = fBes a r c p (fPlace a q (nI (i + 1))) (fFar a q) := by
      have hpl : fPlace a q (nI (i + 1)) = fPlace a q (nI i) + 2 := by
        unfold fPlace
        rw [nI_succ]
        generalize (if a 4 q = 1 then (1 : Int32) else if a 4 q = 3 then 1 + (a 6 q - a 6 q / 10 * 10) else 0) = z
        grind
      rw [hpl]
      unfold fBes
      generalize fFar a r = f
      generalize fPlace a q (nI i) = z
      generalize (a 11 p * f + (fPlace a r (nI c) - a 11 p) * fFar a q) = y
      grind
    have hrng : ∀ j, j < 8 → -1000000 ≤ (fBes a r c p (fPlace a q (nI j)) (fFar a q)).toInt ∧ (fBes a r c p (fPlace a q (nI j)) (fFar a q)).toInt ≤ 1000000 := by
      intro j hj
      have hs : iv (fPlace a q (nI j)) 0 25 := by
        unfold iv
        rw [k3 j hj]
        omega
      have t5 := iv_mul (x := fPlace a q (nI j)) (y := fFar a r) (b := 25) (d := 60) (iv_mono hs (by omega) (by omega)) (iv_mono hD (by omega) (by omega)) (by omega)
      obtain ⟨P1, P2, P3⟩ := hI.2.2.2.2.1 p hp
      obtain ⟨K2, m1, m2, m3⟩ := fPlace_iv hI hr
      have hF := fFar_iv hI hq
      have hl : iv (fPlace a r (nI c)) 0 25 := by
        unfold iv
        rw [m3 c hc]
        omega
      have t1 := iv_mul (x := a 11 p) (y := fFar a r) (b := 20) (d := 60) (iv_mono P1 (by omega) (by omega)) (iv_mono hD (by omega) (by omega)) (by omega)
      have t2 := iv_sub hl P1 (by omega) (by omega)
      have t3 := iv_mul (x := fPlace a r (nI c) - a 11 p) (y := fFar a q) (b := 25) (d := 60) (iv_mono t2.1 (by omega) (by omega)) (iv_mono hF (by omega) (by omega)) (by omega)
      have t4 := iv_add t1.1 t3.1 (by omega) (by omega)
      have t6 := iv_sub t4.1 t5.1 (by omega) (by omega)
      have u1 := t6.1.1
      have u2 := t6.1.2
      unfold fBes
      omega
    have hnear : ∀ j, j < 8 → fNear a r c p q j = decide ((G - (2 * j + K) * D) ≤ D ∧ -(G - (2 * j + K) * D) ≤ D) := by
      intro j hj
      unfold fNear
      rw [ha, hb]
      simp only [Bool.true_and]
      have := fAbs_le (d := fFar a r) (hrng j hj).1 (hrng j hj).2
      rw [g3 j hj, ← d1] at this
      by_cases h : fAbs (fBes a r c p (fPlace a q (nI j)) (fFar a q)) ≤ fFar a r
      · rw [decide_eq_true h, decide_eq_true (this.mp h)]
      · rw [decide_eq_false h, decide_eq_false (fun hh => h (this.mpr hh))]
    rw [xf_H_hidingSeat_L37, sm_clamp (show q < 100000000 by omega), if_pos (by rw [hR.1.2.2.2]; exact hq), e2, e.2.1, if_neg (sm_nle (by omega) (by omega))]
    by_cases hlt : fBes a r c p (fPlace a q (nI i)) (fFar a q) < -fFar a r
    · rw [if_pos hlt]
      rw [fa_lt, g3 i hi8, hneg] at hlt
      rw [fFirst_none]
      intro j h1 h2
      unfold fHid
      rw [hnear j (by omega)]
      have := hmono j h1 (by omega)
      rw [decide_eq_false (by omega)]
      rfl
    · rw [if_neg hlt]
      rw [fa_lt, g3 i hi8, hneg] at hlt
      rw [hL.1, hstep, ← nI_succ, ih, fFirst]
      by_cases hgt : fFar a r < fBes a r c p (fPlace a q (nI i)) (fFar a q)
      · rw [if_pos hgt, bm0_inr]
        rw [fa_lt, g3 i hi8, ← d1] at hgt
        have hh : fHid a r c p q i = false := by
          unfold fHid
          rw [hnear i hi8, decide_eq_false (by omega)]
          rfl
        rw [hh]
        rfl
      · rw [if_neg hgt, px_top hR hI hq hi8, bs1, px_touched hL, px_far hR hq]
        rw [fa_lt, g3 i hi8, ← d1] at hgt
        have hh : fHid a r c p q i = fHigh a r c p (fTop a q i) (fFar a q) := by
          unfold fHid
          rw [hnear i hi8, decide_eq_true (by omega)]
          rfl
        rw [hh]
        cases fHigh a r c p (fTop a q i) (fFar a q) with
        | true => rfl
        | false => rfl
theorem px_seat (hN : 2000 ≤ N) (hR : RS X a) (hI : IS a) (hr : r < nr a) (hc : c < 8) (hp : p < np a) (hq : q < nr a) (hL : LN X a r c p) (ha : fAmong a r = true) : xf_H_hidingSeat N X (nI q) = some (match fFirst (fHid a r c p q) (ns a q) 0 with | some x => nI x | none => -1) := by
  have h6 := hI.hr6 hq
  have e8 := (hI.2.2.1 q hq).2.2.2.1
  unfold xf_H_hidingSeat
  rw [sm_clamp (show q < 100000000 by omega), if_pos (by rw [hR.1.2.2.2]; exact hq)]
  cases hb : fAmong a q with
  | false =>
    rw [if_pos ((px_among hR hq).mpr hb), fFirst_none]
    intro j _ _
    unfold fHid fNear
    rw [hb]
    simp
  | true =>
    have hnb : ¬ X.1 63 q = 0 := fun hh => by
      have := (px_among hR hq).mp hh
      rw [hb] at this
      exact nomatch this
    have h := px_seatL (N := N) hR hI hr hc hp hq hL ha hb (ns a q) 0 N (by omega) (by omega)
    rw [nI_0] at h
    rw [if_neg hnb, px_place hR hI hq, bs1, hL.1, px_besides hL, px_far hR hq, h]
    cases fFirst (fHid a r c p q) (ns a q) 0 with
    | none => rfl
    | some x => rfl
theorem px_headsL (hN : 2000 ≤ N) (hR : RS X a) (hI : IS a) (hr : r < nr a) (hc : c < 8) (hp : p < np a) (hL : LN X a r c p) : ∀ (k i n : Nat), i + k = r → k < n → xf_H_hiderOf_L10 N (nI r) n X (nI i) = some (match fHeads a r c p k i with | some x => .inl (x, X) | none => .inr ())
  | 0, i, n + 1, hk, _ => by
    have h6 := hI.hr6 hr
    obtain ⟨r1, r2, r3, r4, r5, r6, r7, r8, r9, r10⟩ := hR.2.2.1 r hr
    rw [xf_H_hiderOf_L10, sm_clamp (show r < 100000000 by omega), if_pos (by rw [hR.1.2.2.2]; exact hr), r2]
    have : nI r ≤ nI i := sm_len (by omega) (by omega)
    rw [if_pos this]
    by_cases h1 : X.1 63 r = 0
    · rw [if_pos h1]
      rfl
    · rw [if_neg h1]
      rfl
  | k + 1, i, n + 1, hk, hn => by
    have h6 := hI.hr6 hr
    have hq : i < nr a := by omega
    have e := hI.2.2.1 i hq
    obtain ⟨r1, r2, r3, r4, r5, r6, r7, r8, r9, r10⟩ := hR.2.2.1 r hr
    rw [xf_H_hiderOf_L10, sm_clamp (show r < 100000000 by omega), if_pos (by rw [hR.1.2.2.2]; exact hr), r2]
    cases ha : fAmong a r with
    | false =>
      rw [if_pos ((px_among hR hr).mpr ha)]
      have hno : ∀ (k i : Nat), fHeads a r c p k i = none := by
        intro k
        induction k with
        | zero => intro i; rfl
        | succ k ihk =>
          intro i
          rw [fHeads, fFirst_none, ihk]
          intro j _ _
          unfold fHid fNear
          rw [ha]
          simp
      rw [hno]
    | true =>
      have hnb : ¬ X.1 63 r = 0 := fun hh => by
        have := (px_among hR hr).mp hh
        rw [ha] at this
        exact nomatch this
      have ih := px_headsL hN hR hI hr hc hp hL k (i + 1) n (by omega) (by omega)
      rw [if_neg hnb, if_neg (sm_nle (by omega) (by omega)), if_pos (sm_ok (show i < 6 by omega) (by omega)), sm_clamp (show i < 100000000 by omega), if_pos (by rw [hR.1.2.2.2]; exact hq), px_seat hN hR hI hr hc hp hq hL ha, bs1, fHeads, ← nI_succ]
      cases hx : fFirst (fHid a r c p i) (ns a i) 0 with
      | some x =>
        have := (fFirst_some hx).2.1
        have hne : ¬ nI x = -1 := by
          rw [fa_eq, nI_toInt (by omega)]
          show ¬ (x : Int) = -1
          omega
        simp only [if_neg hne]
      | none =>
        simp only [if_true]
        exact ih
theorem px_hider (hN : 2000 ≤ N) (hR : RS X a) (hI : IS a) (hr : r < nr a) (hc : c < 8) (hp : p < np a) : ∃ X1, xf_H_hiderOf N X (nI r) (nI c) (nI p) = some (fHider a r c p, X1) ∧ xQ X X1 := by
  have h6 := hI.hr6 hr
  obtain ⟨X1, l1, l2, l3⟩ := px_lay (N := N) hR hI hr hc hp
  have hR1 := hR.frame l2
  have h := px_headsL hN hR1 hI hr hc hp l3 r 0 N (by omega) (by omega)
  rw [nI_0] at h
  refine ⟨X1, ?_, l2⟩
  unfold xf_H_hiderOf fHider
  rw [l1, bs1, h]
  cases fHeads a r c p r 0 with
  | some x => rfl
  | none =>
    show bd1 (xf_H_hidingPost N X1) _ = _
    rw [px_post hN hR1 hI l3]
    unfold fPostI fPost
    cases hx : fFirst (fPosts a r c p) (nk a) 0 with
    | none => rfl
    | some x =>
      have := (fFirst_some hx).2.1
      have h4 := hI.1.2.2.2.2.2
      have hne : ¬ nI x = -1 := by
        rw [fa_eq, nI_toInt (by omega)]
        show ¬ (x : Int) = -1
        omega
      simp only [bs1, if_neg hne]
end PCLS
