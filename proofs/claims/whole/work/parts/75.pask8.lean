section PASK8
/-! floors from which all see all -/
section A
variable {N : Nat} {a : aS} {r c p : Nat}
def fUp (a : aS) (r v : Nat) : aS := aw a 7 r (nI v)
def seen (a : aS) (r v c p : Nat) : Prop := fHider (fUp a r v) r c p = -1
theorem fUp_ok (hI : IS a) {v : Nat} (hv : v ≤ 100) : IS (fUp a r v) := by
  unfold fUp
  rw [aw_af]
  refine hI.rise (fun q hq => ?_)
  rw [upd_at]
  by_cases e : q = r
  · rw [if_pos e]
    exact iv_mono (iv_nI (n := v) (hi := 100) (by omega) (by omega)) (by omega) (by omega)
  · rw [if_neg e]
    exact (hI.2.2.1 q hq).2.2.2.2.2.1
theorem RS.up {X : xS} (hR : RS X a) {v : Nat} : RS (xs X 57 r (nI v)) (fUp a r v) := by
  unfold fUp
  rw [xs_as, aw_af]
  refine hR.rise (fun q hq => ?_)
  rw [upd_at, upd_at]
  by_cases e : q = r
  · rw [if_pos e, if_pos e]
  · rw [if_neg e, if_neg e]
    exact (hR.2.2.1 q hq).2.2.2.1
theorem fHider_m1 (hI : IS a) (hr : r < nr a) (hc : c < 8) : fHider a r c p = -1 ↔ (fHeads a r c p r 0 = none ∧ fPost a r c p = none) := by
  have h6 := hI.1.2.1
  have h4 := hI.1.2.2.2.2.2
  have hh : ∀ (k i : Nat) (x : Int32), i + k = r → fHeads a r c p k i = some x → ∃ z : Nat, z < 1000 ∧ x = nI z := by
    intro k
    induction k with
    | zero => intro i x _ h; exact nomatch h
    | succ k ih =>
      intro i x hk h
      rw [fHeads] at h
      cases hf : fFirst (fHid a r c p i) (ns a i) 0 with
      | some e =>
        rw [hf] at h
        have h2 : 10 * nI i + nI e = x := Option.some.inj h
        have e8 := (hI.2.2.1 i (by omega)).2.2.2.1
        have e1 := (fFirst_some hf).2.1
        refine ⟨10 * i + e, by omega, ?_⟩
        rw [← h2, show (10 : Int32) = nI 10 from rfl, pk_mul, nI_add]
      | none =>
        rw [hf] at h
        exact ih (i + 1) x (by omega) h
  unfold fHider
  cases hx : fHeads a r c p r 0 with
  | some x =>
    obtain ⟨z, hz, e⟩ := hh r 0 x (by omega) hx
    constructor
    · intro hm
      have hm2 : x = -1 := hm
      rw [e] at hm2
      exact absurd hm2 (nI_ne_m1 (by omega))
    · intro hm
      exact nomatch hm.1
  | none =>
    cases hp : fPost a r c p with
    | none => exact ⟨fun _ => ⟨rfl, rfl⟩, fun _ => rfl⟩
    | some k =>
      unfold fPost at hp
      have e1 := (fFirst_some hp).2.1
      constructor
      · intro hm
        have hm2 : 100 + nI k = -1 := hm
        rw [show (100 : Int32) = nI 100 from rfl, nI_add] at hm2
        exact absurd hm2 (nI_ne_m1 (by omega))
      · intro hm
        exact nomatch hm.2
theorem fHeads_none : ∀ (k i : Nat), fHeads a r c p k i = none ↔ ∀ q, i ≤ q → q < i + k → ∀ e, e < ns a q → fHid a r c p q e = false
  | 0, i => ⟨fun _ q h1 h2 => by omega, fun _ => rfl⟩
  | k + 1, i => by
    rw [fHeads]
    cases hf : fFirst (fHid a r c p i) (ns a i) 0 with
    | some e =>
      refine ⟨fun h => (nomatch h), fun h => ?_⟩
      have h1 := fFirst_some hf
      have := h i (Nat.le_refl _) (by omega) e (by omega)
      rw [this] at h1
      exact nomatch h1.2.2
    | none =>
      have ih := fHeads_none k (i + 1)
      constructor
      · intro h q h1 h2 e he
        by_cases eq : q = i
        · subst eq
          exact fFirst_no hf e (by omega) (by omega)
        · exact ih.mp h q (by omega) (by omega) e he
      · intro h
        exact ih.mpr fun q h1 h2 e he => h q (by omega) (by omega) e he
theorem up_ne {v q : Nat} (h : q ≠ r) : fUp a r v 7 q = a 7 q := by
  unfold fUp
  rw [aw_same, upd_at, if_neg h]
theorem up_eq {v : Nat} : fUp a r v 7 r = nI v := by
  unfold fUp
  rw [aw_same, pk_us]
theorem fTop_up {v q e : Nat} (h : q ≠ r) : fTop (fUp a r v) q e = fTop a q e := by
  unfold fTop fAbove fFloor
  rw [up_ne h]
  rfl
theorem fNear_up {v q e : Nat} : fNear (fUp a r v) r c p q e = fNear a r c p q e := rfl
theorem fPost_up {v : Nat} : fPost (fUp a r v) r c p = fPost a r c p := rfl
/-- how high his eyes are, by his row's rise -/
theorem fEyes_up (hI : IS a) (hr : r < nr a) (hc : c < 8) : ∃ E : Int, 0 ≤ E ∧ E ≤ 200 ∧ ∀ v, v ≤ 100 → (fEyes (fUp a r v) r c).toInt = v + E := by
  obtain ⟨i1, i2, i3, i4, i5, i6, i7⟩ := hI.2.2.1 r hr
  obtain ⟨m, hm, em, hm2⟩ := iv_ex (hi := 20) i5
  obtain ⟨s, hs, es, hs2⟩ := iv_ex (hi := 3) (hI.2.2.2.1 r hr c hc)
  obtain ⟨y, hy, ey, hy2⟩ := iv_ex (hi := 40) (hI.2.1 s (by omega)).1
  have h1 : ∃ x, x ≤ 60 ∧ (if a 4 r = 2 then a 6 r else if a 4 r = 4 then 3 * a 6 r else 0) = nI x := by
    by_cases e2 : a 4 r = 2
    · exact ⟨m, by omega, by rw [if_pos e2, em]⟩
    · by_cases e4 : a 4 r = 4
      · exact ⟨3 * m, by omega, by rw [if_neg e2, if_pos e4, em, show (3 : Int32) = nI 3 from rfl, pk_mul]⟩
      · exact ⟨0, by omega, by rw [if_neg e2, if_neg e4]; rfl⟩
  obtain ⟨x, hx, ex⟩ := h1
  have h2 : ∃ l, l ≤ 20 ∧ fLow a r = nI l := by
    unfold fLow
    by_cases e5 : a 4 r = 5
    · exact ⟨m, by omega, by rw [if_pos e5, em]⟩
    · exact ⟨0, by omega, by rw [if_neg e5]; rfl⟩
  obtain ⟨l, hl, el⟩ := h2
  have h3 : ∃ z, z ≤ 40 ∧ (if a 0 (fSort a r c).toNatClampNeg ≤ fLow a r then 0 else a 0 (fSort a r c).toNatClampNeg - fLow a r) = nI z := by
    have e9 : fSort a r c = nI s := es
    rw [e9, sm_clamp (by omega), ey, el]
    by_cases hle : nI y ≤ nI l
    · exact ⟨0, by omega, by rw [if_pos hle]; rfl⟩
    · have : l < y := by
        rcases Nat.lt_or_ge l y with h | h
        · exact h
        · exact absurd (sm_len h (by omega)) hle
      exact ⟨y - l, by omega, by rw [if_neg hle, pk_sub (by omega)]⟩
  obtain ⟨z, hz, ez⟩ := h3
  refine ⟨x + z, by omega, by omega, fun v hv => ?_⟩
  have e : fEyes (fUp a r v) r c = nI (v + x + z) := by
    have ee : fEyes (fUp a r v) r c = ((fUp a r v) 7 r + (if a 4 r = 2 then a 6 r else if a 4 r = 4 then 3 * a 6 r else 0)) + (if a 0 (fSort a r c).toNatClampNeg ≤ fLow a r then 0 else a 0 (fSort a r c).toNatClampNeg - fLow a r) := rfl
    rw [ee, up_eq, ex, ez, nI_add, nI_add]
  rw [e, nI_toInt (by omega)]
  omega
theorem fTop_iv (hI : IS a) {q e : Nat} (hq : q < nr a) (he : e < 8) : iv (fTop a q e) (-100) 400 := by
  obtain ⟨i1, i2, i3, i4, i5, i6, i7⟩ := hI.2.2.1 q hq
  obtain ⟨m, hm, em, hm2⟩ := iv_ex (hi := 20) i5
  obtain ⟨s, hs, es, hs2⟩ := iv_ex (hi := 3) (hI.2.2.2.1 q hq e he)
  have hy := (hI.2.1 s (by omega)).2.1
  have e9 : fSort a q e = nI s := es
  have h1 : iv (if a 4 q = 2 then a 6 q else if a 4 q = 4 then 3 * a 6 q else 0) 0 60 := by
    by_cases e2 : a 4 q = 2
    · rw [if_pos e2]
      exact iv_mono i5 (by omega) (by omega)
    · by_cases e4 : a 4 q = 4
      · rw [if_neg e2, if_pos e4, em, show (3 : Int32) = nI 3 from rfl, pk_mul]
        exact iv_nI (by omega) (by omega)
      · rw [if_neg e2, if_neg e4]
        exact iv_0 (by omega)
  have h2 : iv (fLow a q) 0 20 := by
    unfold fLow
    by_cases e5 : a 4 q = 5
    · rw [if_pos e5]; exact i5
    · rw [if_neg e5]; exact iv_0 (by omega)
  have h3 : iv (if a 1 (fSort a q e).toNatClampNeg ≤ fLow a q then 0 else a 1 (fSort a q e).toNatClampNeg - fLow a q) (-20) 40 := by
    rw [e9, sm_clamp (by omega)]
    by_cases hle : a 1 s ≤ fLow a q
    · rw [if_pos hle]; exact iv_mono (iv_0 (b := 40) (by omega)) (by omega) (by omega)
    · rw [if_neg hle]
      exact iv_mono (iv_sub hy h2 (by omega) (by omega)).1 (by omega) (by omega)
  have h4 : iv (if nI (8 * q + e) = a 23 0 then a 24 0 else 0) 0 40 := by
    have h6 := hI.1.2.1
    by_cases hh : nI (8 * q + e) = a 23 0
    · rw [if_pos hh]
      rcases hI.2.2.2.2.2.2.1 with g | g
      · rw [g] at hh
        exact absurd hh (nI_ne_m1 (by omega))
      · exact g
    · rw [if_neg hh]; exact iv_0 (by omega)
  unfold fTop fAbove fFloor
  have t1 := (iv_add i6 h1 (by omega) (by omega)).1
  have t2 := (iv_add t1 h3 (by omega) (by omega)).1
  exact iv_mono (iv_add t2 h4 (by omega) (by omega)).1 (by omega) (by omega)
/-- who sees a point from so high sees it from higher -/
theorem seen_up (hI : IS a) (hr : r < nr a) (hc : c < 8) (hp : p < np a) {v : Nat} (hv : v < 100) (h : seen a r v c p) : seen a r (v + 1) c p := by
  unfold seen at h ⊢
  have h6 := hI.1.2.1
  have hIv := fUp_ok (r := r) hI (show v ≤ 100 by omega)
  have hIv1 := fUp_ok (r := r) hI (show v + 1 ≤ 100 by omega)
  rw [fHider_m1 hIv hr hc] at h
  rw [fHider_m1 hIv1 hr hc]
  refine ⟨?_, h.2⟩
  have h1 := (fHeads_none (a := fUp a r v) r 0).mp h.1
  refine (fHeads_none (a := fUp a r (v + 1)) r 0).mpr fun q q1 q2 e he => ?_
  have h2 := h1 q q1 q2 e he
  unfold fHid at h2 ⊢
  rw [fTop_up (by omega)] at h2 ⊢
  have hn : fNear (fUp a r (v + 1)) r c p q e = fNear (fUp a r v) r c p q e := rfl
  rw [hn]
  cases hne : fNear (fUp a r v) r c p q e with
  | false => rfl
  | true =>
    rw [hne] at h2
    have hq : q < nr a := by omega
    have he8 : e < 8 := by
      have he2 : e < ns a q := he
      have := (hI.2.2.1 q hq).2.2.2.1
      omega
    have h3 : fHigh (fUp a r v) r c p (fTop a q e) (fFar (fUp a r v) q) = false := h2
    show fHigh (fUp a r (v + 1)) r c p (fTop a q e) (fFar (fUp a r (v + 1)) q) = false
    unfold fHigh at h3 ⊢
    obtain ⟨E, E1, E2, E3⟩ := fEyes_up hI hr hc
    have hT := fTop_iv hI hq he8
    have hD : iv (fFar a r) 7 60 := fFar_iv hI hr
    have hF : iv (fFar a q) 7 60 := fFar_iv hI hq
    have hA := (hI.2.2.2.2.1 p hp).2.1
    have t1 := iv_mul (x := fTop a q e) (y := fFar a r) (b := 400) (d := 60) (iv_mono hT (by omega) (by omega)) (iv_mono hD (by omega) (by omega)) (by omega)
    have t2 := iv_mul (x := a 12 p) (y := fFar a r) (b := 70) (d := 60) (iv_mono hA (by omega) (by omega)) (iv_mono hD (by omega) (by omega)) (by omega)
    have ev : ∀ w, w ≤ 100 → iv (fEyes (fUp a r w) r c) 0 300 := fun w hw => by
      unfold iv
      rw [E3 w hw]
      omega
    have t3 : ∀ w, w ≤ 100 → (a 12 p * fFar a r + (fEyes (fUp a r w) r c - a 12 p) * fFar a q).toInt = (a 12 p).toInt * (fFar a r).toInt + ((w : Int) + E - (a 12 p).toInt) * (fFar a q).toInt := fun w hw => by
      have s1 := iv_sub (ev w hw) hA (by omega) (by omega)
      have s2 := iv_mul (x := fEyes (fUp a r w) r c - a 12 p) (y := fFar a q) (b := 300) (d := 60) (iv_mono s1.1 (by omega) (by omega)) (iv_mono hF (by omega) (by omega)) (by omega)
      have s3 := iv_add t2.1 s2.1 (by omega) (by omega)
      rw [s3.2, t2.2, s2.2, s1.2, E3 w hw]
    have hlt : ∀ w, w ≤ 100 → (fTop a q e * fFar a r < a 12 p * fFar a r + (fEyes (fUp a r w) r c - a 12 p) * fFar a q ↔ (fTop a q e).toInt * (fFar a r).toInt < (a 12 p).toInt * (fFar a r).toInt + ((w : Int) + E - (a 12 p).toInt) * (fFar a q).toInt) := fun w hw => by
      rw [fa_lt, t1.2, t3 w hw]
    have hlow : fTop a q e * fFar a r < a 12 p * fFar a r + (fEyes (fUp a r v) r c - a 12 p) * fFar a q := by
      by_cases hh : fTop a q e * fFar a r < a 12 p * fFar a r + (fEyes (fUp a r v) r c - a 12 p) * fFar a q
      · exact hh
      · have h4 : (!decide (fTop a q e * fFar a r < a 12 p * fFar a r + (fEyes (fUp a r v) r c - a 12 p) * fFar a q)) = false := h3
        rw [decide_eq_false hh] at h4
        exact nomatch h4
    have hhigh : fTop a q e * fFar a r < a 12 p * fFar a r + (fEyes (fUp a r (v + 1)) r c - a 12 p) * fFar a q := by
      rw [hlt (v + 1) (by omega)]
      have := (hlt v (by omega)).mp hlow
      have hmul : (((v + 1 : Nat) : Int) + E - (a 12 p).toInt) * (fFar a q).toInt = ((v : Int) + E - (a 12 p).toInt) * (fFar a q).toInt + (fFar a q).toInt := by
        rw [show ((v + 1 : Nat) : Int) + E - (a 12 p).toInt = ((v : Int) + E - (a 12 p).toInt) + 1 by omega, Int.add_mul, Int.one_mul]
      rw [hmul]
      have := hF.1
      omega
    show (!decide (fTop a q e * fFar a r < a 12 p * fFar a r + (fEyes (fUp a r (v + 1)) r c - a 12 p) * fFar a q)) = false
    rw [decide_eq_true hhigh]
    rfl
theorem seen_ups (hI : IS a) (hr : r < nr a) (hc : c < 8) (hp : p < np a) {v w : Nat} (hvw : v ≤ w) (hw : w ≤ 100) (h : seen a r v c p) : seen a r w c p := by
  induction w with
  | zero =>
    have : v = 0 := by omega
    subst this
    exact h
  | succ w ih =>
    by_cases e : v = w + 1
    · subst e; exact h
    · exact seen_up hI hr hc hp (by omega) (ih (by omega) (by omega))
/-! who sees all: the bits -/
def bF (b : Nat → Bool) : Nat → Nat → Int32 → Int32
  | 0, _, v => v
  | k + 1, p, v => bF b k (p + 1) (v ||| (if b p then (1 : Int32) <<< (nI p &&& 31) else 0))
theorem bF_cong {b b2 : Nat → Bool} : ∀ {k i : Nat} {v : Int32}, (∀ j, i ≤ j → j < i + k → b j = b2 j) → bF b k i v = bF b2 k i v
  | 0, _, _, _ => rfl
  | k + 1, i, v, h => by
    rw [bF, bF, h i (Nat.le_refl _) (by omega)]
    exact bF_cong fun j h1 h2 => h j (by omega) (by omega)
theorem bF_dec : ∀ n, n ≤ 6 → ∀ b0 b1 b2 b3 b4 b5 : Bool, (bF (fun p => if p = 0 then b0 else if p = 1 then b1 else if p = 2 then b2 else if p = 3 then b3 else if p = 4 then b4 else b5) n 0 0 = ((1 : Int32) <<< (nI n &&& 31)) - 1 ↔ ∀ p, p < n → (if p = 0 then b0 else if p = 1 then b1 else if p = 2 then b2 else if p = 3 then b3 else if p = 4 then b4 else b5) = true) := by decide +kernel
theorem bF_all {b : Nat → Bool} {n : Nat} (hn : n ≤ 6) : bF b n 0 0 = ((1 : Int32) <<< (nI n &&& 31)) - 1 ↔ ∀ p, p < n → b p = true := by
  have h := bF_dec n hn (b 0) (b 1) (b 2) (b 3) (b 4) (b 5)
  have e : ∀ p, p < 6 → (if p = 0 then b 0 else if p = 1 then b 1 else if p = 2 then b 2 else if p = 3 then b 3 else if p = 4 then b 4 else b 5) = b p := by
    intro p hp
    have : p = 0 ∨ p = 1 ∨ p = 2 ∨ p = 3 ∨ p = 4 ∨ p = 5 := by omega
    rcases this with rfl | rfl | rfl | rfl | rfl | rfl <;> rfl
  rw [bF_cong (b2 := b) (fun j _ h2 => e j (by omega))] at h
  rw [h]
  constructor
  · intro hh p hp
    rw [← e p (by omega)]
    exact hh p hp
  · intro hh p hp
    rw [e p (by omega)]
    exact hh p hp
theorem fSeesL_bF : ∀ (k i : Nat) (v : Int32), fSeesL a r c k i v = bF (fun p => decide (fHider a r c p = -1)) k i v
  | 0, _, _ => rfl
  | k + 1, i, v => by
    rw [fSeesL, bF, fSeesL_bF k]
    by_cases h : fHider a r c i = -1
    · rw [if_pos h, decide_eq_true h, if_pos rfl]
    · rw [if_neg h, decide_eq_false h, if_neg (by decide)]
theorem sees_all (hI : IS a) : fSees a r c = fAllBits a ↔ ∀ p, p < np a → fHider a r c p = -1 := by
  have h6 := hI.1.2.2.2.1
  unfold fSees fAllBits
  rw [fSeesL_bF, hI.1.2.2.1, bF_all h6]
  constructor
  · intro h p hp
    exact of_decide_eq_true (h p hp)
  · intro h p hp
    exact decide_eq_true (h p hp)
theorem fMiss_iff (hI : IS a) : fMiss a r = false ↔ ∀ c, c < ns a r → ∀ p, p < np a → fHider a r c p = -1 := by
  unfold fMiss
  cases hf : fFirst (fun c => !decide (fSees a r c = fAllBits a)) (ns a r) 0 with
  | some x =>
    have h1 := fFirst_some hf
    constructor
    · intro h; exact nomatch h
    · intro h
      have h2 := (sees_all (c := x) hI).mpr (h x (by omega))
      have h3 := h1.2.2
      rw [decide_eq_true h2] at h3
      exact nomatch h3
  | none =>
    constructor
    · intro _ c hc
      have h1 := fFirst_no hf c (by omega) (by omega)
      have h2 : fSees a r c = fAllBits a := by simpa using h1
      exact (sees_all hI).mp h2
    · intro _; rfl
def fLeast (a : aS) (r v : Nat) : Option Nat := fFirst (fun w => !fMiss (fUp a r w) r) (100 - v) v
def fLeastI (a : aS) (r v : Nat) : Int32 := match fLeast a r v with
  | some w => nI w
  | none => -1
theorem xQ_up {X Y : xS} {v w : Nat} (h : xQ (xs X 57 r (nI v)) Y) : xQ (xs X 57 r (nI w)) (xs Y 57 r (nI w)) := by
  have := q_xs (k := 57) (i := r) (x := nI w) rfl h
  rw [xs_xs] at this
  exact this
theorem px_climb (hN : 2000 ≤ N) {X : xS} (hI : IS a) (hR : RS X a) (hr : r < nr a) (hc : c < 8) (hp : p < np a) {c13 : Int32} : ∀ (k v n : Nat) (Y : xS), v + k = 100 → k < n → xQ (xs X 57 r (nI v)) Y → ∃ Z w, xf_H_leastFloor_L34 N (nI r) c13 (nI c) (nI p) n Y = some Z ∧ xQ (xs X 57 r (nI w)) Z ∧ v ≤ w ∧ w ≤ 100 ∧ (w ≤ 99 → seen a r w c p) ∧ ∀ u, v ≤ u → u < w → ¬ seen a r u c p
  | 0, v, n + 1, Y, hk, _, hq => by
    have h6 := hI.hr6 hr
    have hv : v = 100 := by omega
    subst hv
    have e57 : Y.1 57 r = nI 100 := by rw [hq.1 57 rfl, xs_same, pk_us]
    refine ⟨Y, 100, ?_, hq, by omega, by omega, fun h => by omega, fun u h1 h2 => by omega⟩
    rw [xf_H_leastFloor_L34, sm_clamp (show r < 100000000 by omega), if_pos (by rw [hq.2]; show r < X.2.2.1; rw [hR.1.2.2.2]; exact hr), e57, if_pos (show (99 : Int32) < nI 100 by decide)]
  | k + 1, v, n + 1, Y, hk, hn, hq => by
    have h6 := hI.hr6 hr
    have e57 : Y.1 57 r = nI v := by rw [hq.1 57 rfl, xs_same, pk_us]
    have hlt : ¬ (99 : Int32) < nI v := fun hh => by
      have := (sm_lt (n := 99) (by omega) (by omega)).mp hh
      omega
    have hIv := fUp_ok (r := r) hI (show v ≤ 100 by omega)
    obtain ⟨Y1, y1, y2⟩ := px_hider hN ((hR.up (r := r) (v := v)).frame hq) hIv (r := r) hr hc (p := p) hp
    have hrr : r < Y.2.2.1 := by rw [hq.2]; show r < X.2.2.1; rw [hR.1.2.2.2]; exact hr
    have hrr1 : r < Y1.2.2.1 := by rw [y2.2]; exact hrr
    rw [xf_H_leastFloor_L34, sm_clamp (show r < 100000000 by omega), if_pos hrr, e57, if_neg hlt, y1, bs2]
    by_cases hs : fHider (fUp a r v) r c p = -1
    · rw [if_pos hs]
      exact ⟨Y1, v, rfl, hq.trans y2, Nat.le_refl _, by omega, fun _ => hs, fun u h1 h2 => by omega⟩
    · have e571 : Y1.1 57 r = nI v := by rw [y2.1 57 rfl]; exact e57
      obtain ⟨Z, w, z1, z2, z3, z4, z5, z6⟩ := px_climb hN hI hR hr hc hp (c13 := c13) k (v + 1) n (xs Y1 57 r (nI (v + 1))) (by omega) (by omega) (xQ_up (hq.trans y2))
      refine ⟨Z, w, ?_, z2, by omega, z4, z5, fun u h1 h2 => ?_⟩
      · rw [if_neg hs, if_pos hrr1, e571, ← nI_succ]
        exact z1
      · by_cases e : u = v
        · subst e; exact hs
        · exact z6 u (by omega) h2
theorem px_climbP (hN : 2000 ≤ N) {X : xS} (hI : IS a) (hR : RS X a) (hr : r < nr a) (hc : c < 8) {c8 : Int32} : ∀ (k j v n : Nat) (Y : xS), j + k = np a → k < n → v ≤ 100 → xQ (xs X 57 r (nI v)) Y → ∃ Z w, xf_H_leastFloor_L25 N (nI r) c8 (nI c) n Y (nI j) = some Z ∧ xQ (xs X 57 r (nI w)) Z ∧ v ≤ w ∧ w ≤ 100 ∧ (w ≤ 99 → ∀ p, j ≤ p → p < np a → seen a r w c p) ∧ ∀ u, v ≤ u → u < w → ∃ p, p < np a ∧ ¬ seen a r u c p
  | 0, j, v, n + 1, Y, hk, _, hv, hq => by
    have h6 := hI.1.2.2.2.1
    have e : Y.1 17 0 = nI (np a) := (congrFun (hq.1 17 rfl) 0).trans (hR.1.2.1.trans hI.1.2.2.1)
    refine ⟨Y, v, ?_, hq, Nat.le_refl _, hv, fun _ p h1 h2 => by omega, fun u h1 h2 => by omega⟩
    rw [xf_H_leastFloor_L25, e, if_pos (sm_len (by omega) (by omega))]
  | k + 1, j, v, n + 1, Y, hk, hn, hv, hq => by
    have h6 := hI.1.2.2.2.1
    have e : Y.1 17 0 = nI (np a) := (congrFun (hq.1 17 rfl) 0).trans (hR.1.2.1.trans hI.1.2.2.1)
    obtain ⟨Y1, w1, y1, y2, y3, y4, y5, y6⟩ := px_climb hN hI hR hr hc (show j < np a by omega) (c13 := c8) (100 - v) v N Y (by omega) (by omega) hq
    obtain ⟨Z, w, z1, z2, z3, z4, z5, z6⟩ := px_climbP hN hI hR hr hc (c8 := c8) k (j + 1) w1 n Y1 (by omega) (by omega) y4 y2
    refine ⟨Z, w, ?_, z2, by omega, z4, fun hw p h1 h2 => ?_, fun u h1 h2 => ?_⟩
    · rw [xf_H_leastFloor_L25, e, if_neg (sm_nle (by omega) (by omega)), y1, bs1, ← nI_succ]
      exact z1
    · by_cases e : p = j
      · subst e
        exact seen_ups hI hr hc h2 z3 (by omega) (y5 (by omega))
      · exact z5 hw p (by omega) h2
    · by_cases hu : u < w1
      · exact ⟨j, by omega, y6 u h1 hu⟩
      · exact z6 u (by omega) h2
theorem px_climbC (hN : 2000 ≤ N) {X : xS} (hI : IS a) (hR : RS X a) (hr : r < nr a) {c3 : Int32} : ∀ (k j v n : Nat) (Y : xS), j + k = ns a r → k < n → v ≤ 100 → xQ (xs X 57 r (nI v)) Y → ∃ Z w, xf_H_leastFloor_L13 N (nI r) c3 n Y (nI j) = some Z ∧ xQ (xs X 57 r (nI w)) Z ∧ v ≤ w ∧ w ≤ 100 ∧ (w ≤ 99 → ∀ c, j ≤ c → c < ns a r → ∀ p, p < np a → seen a r w c p) ∧ ∀ u, v ≤ u → u < w → ∃ c, c < ns a r ∧ ∃ p, p < np a ∧ ¬ seen a r u c p
  | 0, j, v, n + 1, Y, hk, _, hv, hq => by
    have h6 := hI.hr6 hr
    have e8 := hI.2.2.1 r hr
    have hrr : r < Y.2.2.1 := by rw [hq.2]; show r < X.2.2.1; rw [hR.1.2.2.2]; exact hr
    have e56 : Y.1 56 r = nI (ns a r) := (congrFun (hq.1 56 rfl) r).trans ((hR.2.2.1 r hr).2.2.1.trans e8.2.1)
    refine ⟨Y, v, ?_, hq, Nat.le_refl _, hv, fun _ p h1 h2 => by omega, fun u h1 h2 => by omega⟩
    rw [xf_H_leastFloor_L13, sm_clamp (show r < 100000000 by omega), if_pos hrr, e56, if_pos (sm_len (by omega) (by omega))]
  | k + 1, j, v, n + 1, Y, hk, hn, hv, hq => by
    have h6 := hI.hr6 hr
    have hp6 := hI.1.2.2.2.1
    have e8 := hI.2.2.1 r hr
    have hrr : r < Y.2.2.1 := by rw [hq.2]; show r < X.2.2.1; rw [hR.1.2.2.2]; exact hr
    have e56 : Y.1 56 r = nI (ns a r) := (congrFun (hq.1 56 rfl) r).trans ((hR.2.2.1 r hr).2.2.1.trans e8.2.1)
    obtain ⟨Y1, w1, y1, y2, y3, y4, y5, y6⟩ := px_climbP hN hI hR hr (show j < 8 by omega) (c8 := c3) (np a) 0 v N Y (by omega) (by omega) hv hq
    obtain ⟨Z, w, z1, z2, z3, z4, z5, z6⟩ := px_climbC hN hI hR hr (c3 := c3) k (j + 1) w1 n Y1 (by omega) (by omega) y4 y2
    rw [nI_0] at y1
    refine ⟨Z, w, ?_, z2, by omega, z4, fun hw c h1 h2 p hp => ?_, fun u h1 h2 => ?_⟩
    · rw [xf_H_leastFloor_L13, sm_clamp (show r < 100000000 by omega), if_pos hrr, e56, if_neg (sm_nle (by omega) (by omega)), y1, bs1, ← nI_succ]
      exact z1
    · by_cases e : c = j
      · subst e
        exact seen_ups hI hr (by omega) hp z3 (by omega) (y5 (by omega) p (by omega) hp)
      · exact z5 hw c (by omega) h2 p hp
    · by_cases hu : u < w1
      · exact ⟨j, by omega, y6 u h1 hu⟩
      · exact z6 u (by omega) h2
theorem px_leastFloor (hN : 2000 ≤ N) {X : xS} (hI : IS a) (hR : RS X a) (hr : r < nr a) {v : Nat} (hv : v ≤ 99) : ∃ Z, xf_H_leastFloor N X (nI r) (nI v) = some (fLeastI a r v, Z) ∧ xQ X Z := by
  have h6 := hI.hr6 hr
  have e8 := hI.2.2.1 r hr
  have hrr : r < X.2.2.1 := by rw [hR.1.2.2.2]; exact hr
  obtain ⟨Z, w, z1, z2, z3, z4, z5, z6⟩ := px_climbC hN hI hR hr (c3 := X.1 57 r) (ns a r) 0 v N (xs X 57 r (nI v)) (by omega) (by omega) (by omega) (xQ.refl _)
  rw [nI_0] at z1
  have hrz : r < Z.2.2.1 := by rw [z2.2]; exact hrr
  have e57 : Z.1 57 r = nI w := by rw [z2.1 57 rfl, xs_same, pk_us]
  have hback := xs_back (k := 57) rfl z2 (w := X.1 57 r) rfl
  have hmiss : ∀ u, u ≤ 100 → (fMiss (fUp a r u) r = false ↔ ∀ c, c < ns a r → ∀ p, p < np a → seen a r u c p) := fun u hu => fMiss_iff (fUp_ok hI hu)
  unfold xf_H_leastFloor fLeastI fLeast
  rw [sm_clamp (show r < 100000000 by omega), if_pos hrr, z1, bs1, if_pos hrz, e57]
  by_cases hw : w ≤ 99
  · have hlt : ¬ (99 : Int32) < nI w := fun hh => by
      have := (sm_lt (n := 99) (by omega) (by omega)).mp hh
      omega
    have hfirst : fFirst (fun w => !fMiss (fUp a r w) r) (100 - v) v = some w := by
      cases hf : fFirst (fun w => !fMiss (fUp a r w) r) (100 - v) v with
      | none =>
        have := fFirst_no hf w (by omega) (by omega)
        rw [(hmiss w (by omega)).mpr (fun c hc p hp => z5 hw c (by omega) hc p hp)] at this
        exact nomatch this
      | some u =>
        obtain ⟨f1, f2, f3⟩ := fFirst_some hf
        have hu : fMiss (fUp a r u) r = false := by simpa using f3
        have hall := (hmiss u (by omega)).mp hu
        have hge : w ≤ u := by
          rcases Nat.lt_or_ge u w with hlt2 | hge
          · obtain ⟨c, hc, p, hp, hn⟩ := z6 u f1 hlt2
            exact absurd (hall c hc p hp) hn
          · exact hge
        by_cases e : u = w
        · rw [e]
        · exfalso
          have hfw : ∀ (k i : Nat), fFirst (fun w => !fMiss (fUp a r w) r) k i = some u → i ≤ w → w < u → fMiss (fUp a r w) r = true := by
            intro k
            induction k with
            | zero => intro i h; exact nomatch h
            | succ k ih =>
              intro i h h1 h2
              rw [fFirst] at h
              split at h
              · cases h; omega
              · rename_i hn
                by_cases e2 : i = w
                · subst e2
                  simpa using hn
                · exact ih (i + 1) h (by omega) h2
          have := hfw (100 - v) v hf z3 (by omega)
          rw [(hmiss w (by omega)).mpr (fun c hc p hp => z5 hw c (by omega) hc p hp)] at this
          exact nomatch this
    rw [if_neg hlt, hfirst]
    exact ⟨_, rfl, hback⟩
  · have hw100 : w = 100 := by omega
    have hlt : (99 : Int32) < nI w := by rw [hw100]; decide
    have hfirst : fFirst (fun w => !fMiss (fUp a r w) r) (100 - v) v = none := by
      refine fFirst_none (fun u h1 h2 => ?_)
      obtain ⟨c, hc, p, hp, hn⟩ := z6 u h1 (by omega)
      cases hm : fMiss (fUp a r u) r with
      | true => rfl
      | false => exact absurd ((hmiss u (by omega)).mp hm c hc p hp) hn
    rw [if_pos hlt, hfirst]
    exact ⟨_, rfl, hback⟩
end A
end PASK8
