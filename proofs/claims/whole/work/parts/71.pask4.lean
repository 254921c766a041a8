section PASK4
theorem upd_self {f : Nat → Int32} {i : Nat} {x : Int32} (h : f i = x) : upd f i x = f := by
  funext j
  rw [upd_at]
  by_cases e : j = i
  · rw [if_pos e, e, h]
  · rw [if_neg e]
theorem upd_upd {f : Nat → Int32} {i : Nat} {x y : Int32} : upd (upd f i x) i y = upd f i y := by
  funext j
  rw [upd_at, upd_at, upd_at]
  by_cases e : j = i
  · rw [if_pos e, if_pos e]
  · rw [if_neg e, if_neg e, if_neg e]
theorem xs_back {X Y : xS} {k i : Nat} {v w : Int32} (hk : xcore k = true) (h : xQ (xs X k i v) Y) (hw : X.1 k i = w) : xQ X (xs Y k i w) := by
  have := q_xs (i := i) (x := w) hk h
  rw [xs_xs, xs_as (X := X), upd_self hw, xf_self] at this
  exact this
theorem xf_back {X Y : xS} {k : Nat} {f : Nat → Int32} (h : xQ (xf X k f) Y) : xQ X (xf Y k (X.1 k)) := by
  have := q_xf (k := k) (f := X.1 k) h
  rw [xf_xf, xf_self] at this
  exact this
theorem aw_af {a : aS} {k i : Nat} {x : Int32} : aw a k i x = af a k (upd (a k) i x) := by
  funext j
  by_cases h : j = k
  · subst h
    rw [aw_same, af_same]
  · rw [aw_ne (beqF h), af_ne h]
theorem e_ms {M Y : mS} {k i : Nat} {x : Int32} (hk : Nat.blt k 40 = true) (h : mE M Y) : mE (ms M k i x) (ms Y k i x) := by
  rw [ms_as, ms_as, e_at h hk]
  exact e_mset hk h
theorem ms_ms {M : mS} {k i : Nat} {x y : Int32} : ms (ms M k i x) k i y = ms M k i y := by
  rw [ms_as, ms_as, ms_as, mset_mset, mset_same, upd_upd]
section A
variable {N : Nat} {a : aS}
/-! all of one sort -/
theorem md_keepSL {M : mS} {g : Nat → Int32} : ∀ (k i n : Nat), i + k = 48 → k < n → mf_keepsSorts_L2 N n (mset M 54 (fill (M.1 9) g i)) (nI i) = some (mset M 54 (fill (M.1 9) g 48))
  | 0, i, n + 1, hk, _ => by
    have hi : i = 48 := by omega
    subst hi
    rw [mf_keepsSorts_L2, if_pos (show (48 : Int32) ≤ nI 48 from sm_len (n := 48) (m := 48) (by omega) (by omega))]
  | k + 1, i, n + 1, hk, hn2 => by
    have ih := md_keepSL (M := M) (g := g) k (i + 1) n (by omega) (by omega)
    have e57 : (mset M 54 (fill (M.1 9) g i)).1 9 i = M.1 9 i := rfl
    rw [mf_keepsSorts_L2, if_neg (show ¬ (48 : Int32) ≤ nI i from sm_nle (n := 48) (by omega) (by omega)), if_pos (sm_ok (show i < 48 by omega) (by omega)), sm_clamp (show i < 100000000 by omega), e57, ms_mset, fill_succ, ← nI_succ]
    exact ih
theorem md_laySL {M : mS} {g : Nat → Int32} : ∀ (k i n : Nat), i + k = 48 → k < n → mf_laysSorts_L2 N n (mset M 9 (fill (M.1 54) g i)) (nI i) = some (mset M 9 (fill (M.1 54) g 48))
  | 0, i, n + 1, hk, _ => by
    have hi : i = 48 := by omega
    subst hi
    rw [mf_laysSorts_L2, if_pos (show (48 : Int32) ≤ nI 48 from sm_len (n := 48) (m := 48) (by omega) (by omega))]
  | k + 1, i, n + 1, hk, hn2 => by
    have ih := md_laySL (M := M) (g := g) k (i + 1) n (by omega) (by omega)
    have e57 : (mset M 9 (fill (M.1 54) g i)).1 54 i = M.1 54 i := rfl
    rw [mf_laysSorts_L2, if_neg (show ¬ (48 : Int32) ≤ nI i from sm_nle (n := 48) (by omega) (by omega)), if_pos (sm_ok (show i < 48 by omega) (by omega)), sm_clamp (show i < 100000000 by omega), e57, ms_mset, fill_succ, ← nI_succ]
    exact ih
theorem md_tallL {M : mS} {x : Int32} {g : Nat → Int32} : ∀ (k i n : Nat), i + k = 48 → k < n → mf_tall_L18 N x n (mset M 9 (fill (fun _ => x) g i)) (nI i) = some (mset M 9 (fill (fun _ => x) g 48))
  | 0, i, n + 1, hk, _ => by
    have hi : i = 48 := by omega
    subst hi
    rw [mf_tall_L18, if_pos (show (48 : Int32) ≤ nI 48 from sm_len (n := 48) (m := 48) (by omega) (by omega))]
  | k + 1, i, n + 1, hk, hn2 => by
    have ih := md_tallL (M := M) (x := x) (g := g) k (i + 1) n (by omega) (by omega)
    rw [mf_tall_L18, if_neg (show ¬ (48 : Int32) ≤ nI i from sm_nle (n := 48) (by omega) (by omega)), if_pos (sm_ok (show i < 48 by omega) (by omega)), sm_clamp (show i < 100000000 by omega), ms_mset, fill_succ (fun _ => x), ← nI_succ]
    exact ih
theorem st_tall {X : xS} {M : mS} (hN : 2000 ≤ N) (h : Rl X M) (x : Int32) : ∃ r X1 M1, xf_X_tall N X x = some (r, X1) ∧ mf_tall N M x = some (r, M1) ∧ Rl X1 M1 := by
  obtain ⟨h1, h2, h3, h4, h5⟩ := id h
  unfold xf_X_tall mf_tall xf_X_isSort
  rw [isIn_in]
  cases hx : mf_in x 0 3 with
  | false => exact ⟨_, X, M, rfl, rfl, h⟩
  | true =>
    obtain ⟨j, hj, rfl⟩ := in_nat (n := 3) (by omega) hx
    have hR1 : RS (xs X 20 0 (nI j)) (af (mC M) 9 (fill (fun _ => nI j) (M.1 9) 48)) := h1.tall (by
      rw [fa_eq, nI_toInt (by omega)]
      show ¬ (j : Int) = -1
      omega) (fun k hk => fill_in hk) h3.1.2.1
    have hI1 : IS (af (mC M) 9 (fill (fun _ => nI j) (M.1 9) 48)) := h3.sorts (fun r hr c hc => by
      have := h3.1.2.1
      rw [fill_in (by omega)]
      exact iv_nI (by omega) (by omega))
    obtain ⟨Y, y1, y2⟩ := px_all hN hI1 hR1
    have k1 := md_keepSL (N := N) (M := M) (g := M.1 54) 48 0 N (by omega) (by omega)
    rw [fill_0, mset_self, nI_0] at k1
    have k2 := md_tallL (N := N) (M := mset M 54 (fill (M.1 9) (M.1 54) 48)) (x := nI j) (g := M.1 9) 48 0 N (by omega) (by omega)
    rw [fill_0, show mset (mset M 54 (fill (M.1 9) (M.1 54) 48)) 9 (M.1 9) = mset M 54 (fill (M.1 9) (M.1 54) 48) from mset_self (M := mset M 54 (fill (M.1 9) (M.1 54) 48)) (k := 9), nI_0] at k2
    have hA1 : mC (mset (mset M 54 (fill (M.1 9) (M.1 54) 48)) 9 (fill (fun _ => nI j) (M.1 9) 48)) = af (mC M) 9 (fill (fun _ => nI j) (M.1 9) 48) := by
      rw [mC_mset rfl, (mL_mset (by omega)).1]
    obtain ⟨M2, m1, m2⟩ := md_all hN hI1 hA1
    have k3 := md_laySL (N := N) (M := M2) (g := M2.1 9) 48 0 N (by omega) (by omega)
    rw [fill_0, mset_self, nI_0] at k3
    unfold mf_keepsSorts mf_laysSorts
    rw [if_pos rfl, if_pos rfl, y1, bs2, k1, bs1, bs1, k2, bs1, m1, bs2, k3, bs1, bs1]
    refine ⟨_, _, _, rfl, rfl, h.sameL (xs_back rfl y2 h2.1.1).l ⟨?_, m2.2.1⟩⟩
    have e54 : M2.1 54 = fill (M.1 9) (M.1 54) 48 := m2.2.2 54 (by omega) (by omega)
    have e9 : M2.1 9 = fill (fun _ => nI j) (M.1 9) 48 := e_at m2 rfl
    rw [mC_mset rfl, m2.1, hA1, af_af]
    have : fill (M2.1 54) (M2.1 9) 48 = mC M 9 := by
      funext k
      unfold fill
      by_cases hk : k < 48
      · rw [if_pos hk, e54, fill_in hk]
        rfl
      · rw [if_neg hk, e9, fill_out (by omega)]
        rfl
    rw [this, af_self]
/-! the best of several -/
theorem fBest_ge {W : Nat → Int32} : ∀ {k i : Nat} {b m : Int32}, m.toInt ≤ (fBest W k i b m).2.toInt
  | 0, _, _, m => Int.le_refl _
  | k + 1, i, b, m => by
    rw [fBest]
    by_cases h : W i ≤ m
    · rw [if_pos h]
      exact fBest_ge
    · rw [if_neg h]
      rw [fa_le] at h
      exact Int.le_trans (by omega) (fBest_ge (k := k) (i := i + 1) (b := nI i) (m := W i))
/-! a higher stage -/
def fLift (a : aS) (u : Nat) : aS := af a 12 (fun p => if p < np a then a 12 p + nI u else a 12 p)
theorem fLift_ok (hI : IS a) (h60 : ∀ p, p < np a → iv (a 12 p) 0 60) {u : Nat} (hu : u ≤ 10) : IS (fLift a u) := hI.lift (fun p hp => by
  simp only [if_pos hp]
  have := (iv_add (h60 p hp) (iv_nI (n := u) (hi := 10) (by omega) (by omega)) (by omega) (by omega)).1
  exact iv_mono this (by omega) (by omega))
theorem px_stageL (hN : 2000 ≤ N) {X : xS} (hI : IS a) (hR : RS X a) (h60 : ∀ p, p < np a → iv (a 12 p) 0 60) (hz : X.1 21 0 = 0) : ∀ (k i n : Nat) (Y : xS) (v b m : Int32), xQ (xs X 21 0 v) Y → i + k = 11 → k < n → ∃ Z w, xf_X_stage_L6 N n Y b m (nI i) = some ((fBest (fun u => fAll (fLift a u)) k i b m).1, Z) ∧ xQ (xs X 21 0 w) Z
  | 0, i, n + 1, Y, v, b, m, hq, hk, _ => by
    have hi : i = 11 := by omega
    subst hi
    refine ⟨Y, v, ?_, hq⟩
    rw [xf_X_stage_L6, if_pos (show (10 : Int32) < nI 11 by decide)]
    rfl
  | k + 1, i, n + 1, Y, v, b, m, hq, hk, hn => by
    have hlt : ¬ (10 : Int32) < nI i := fun hh => by
      have := (sm_lt (n := 10) (by omega) (by omega)).mp hh
      omega
    have hq1 : xQ (xs X 21 0 (nI i)) (xs Y 21 0 (nI i)) := by
      have := q_xs (k := 21) (i := 0) (x := nI i) rfl hq
      rw [xs_xs] at this
      exact this
    have hR1 : RS (xs X 21 0 (nI i)) (fLift a i) := hR.lift (fun p hp => by
      simp only [if_pos hp]
      have := (hR.2.2.2.2.1 p hp).2.1
      rw [hz, Int32.add_zero] at this
      rw [this])
    obtain ⟨Y2, y1, y2⟩ := px_all hN (fLift_ok hI h60 (show i ≤ 10 by omega)) (hR1.frame hq1)
    rw [xf_X_stage_L6, if_neg hlt, y1, bs2, ← nI_succ, fBest]
    by_cases hm : fAll (fLift a i) ≤ m
    · obtain ⟨Z, w, z1, z2⟩ := px_stageL hN hI hR h60 hz k (i + 1) n Y2 (nI i) b m (hq1.trans y2) (by omega) (by omega)
      exact ⟨Z, w, by rw [if_pos hm, if_pos hm]; exact z1, z2⟩
    · obtain ⟨Z, w, z1, z2⟩ := px_stageL hN hI hR h60 hz k (i + 1) n Y2 (nI i) (nI i) (fAll (fLift a i)) (hq1.trans y2) (by omega) (by omega)
      exact ⟨Z, w, by rw [if_neg hm, if_neg hm]; exact z1, z2⟩
theorem md_stageL1 {M : mS} {n2 : Nat} (h10 : M.1 10 0 = nI n2) (h6 : n2 ≤ 6) {x y z : Int32} {g : Nat → Int32} : ∀ (k i n : Nat), i + k = n2 → k < n → mf_stage_L18 N x y z n (mset M 12 (fill (fun p => g p + 1) g i)) (nI i) = some (mset M 12 (fill (fun p => g p + 1) g n2))
  | 0, i, n + 1, hk, _ => by
    have e : (mset M 12 (fill (fun p => g p + 1) g i)).1 10 0 = nI n2 := h10
    have hi : i = n2 := by omega
    rw [mf_stage_L18, e, if_pos (sm_len (by omega) (by omega)), hi]
  | k + 1, i, n + 1, hk, hn => by
    have e : (mset M 12 (fill (fun p => g p + 1) g i)).1 10 0 = nI n2 := h10
    have ih := md_stageL1 h10 h6 (x := x) (y := y) (z := z) (g := g) k (i + 1) n (by omega) (by omega)
    have e12 : (mset M 12 (fill (fun p => g p + 1) g i)).1 12 i + 1 = (fun p => g p + 1) i := by
      rw [mset_same, fill_out (Nat.le_refl i)]
    rw [mf_stage_L18, e, if_neg (sm_nle (by omega) (by omega)), if_pos (sm_ok (show i < 6 by omega) (by omega)), sm_clamp (show i < 100000000 by omega), e12, ms_mset, fill_succ (fun p => g p + 1), ← nI_succ]
    exact ih
theorem md_stageL2 {M : mS} {n2 : Nat} (h10 : M.1 10 0 = nI n2) (h6 : n2 ≤ 6) {x : Int32} {g : Nat → Int32} : ∀ (k i n : Nat), i + k = n2 → k < n → mf_stage_L69 N x n (mset M 12 (fill (fun p => g p - 10) g i)) (nI i) = some (mset M 12 (fill (fun p => g p - 10) g n2))
  | 0, i, n + 1, hk, _ => by
    have e : (mset M 12 (fill (fun p => g p - 10) g i)).1 10 0 = nI n2 := h10
    have hi : i = n2 := by omega
    rw [mf_stage_L69, e, if_pos (sm_len (by omega) (by omega)), hi]
  | k + 1, i, n + 1, hk, hn => by
    have e : (mset M 12 (fill (fun p => g p - 10) g i)).1 10 0 = nI n2 := h10
    have ih := md_stageL2 h10 h6 (x := x) (g := g) k (i + 1) n (by omega) (by omega)
    have e12 : (mset M 12 (fill (fun p => g p - 10) g i)).1 12 i - 10 = (fun p => g p - 10) i := by
      rw [mset_same, fill_out (Nat.le_refl i)]
    rw [mf_stage_L69, e, if_neg (sm_nle (by omega) (by omega)), if_pos (sm_ok (show i < 6 by omega) (by omega)), sm_clamp (show i < 100000000 by omega), e12, ms_mset, fill_succ (fun p => g p - 10), ← nI_succ]
    exact ih
/-- the stage, so much higher, in the reference's cells -/
def gLift (a : aS) (u : Nat) : Nat → Int32 := fun p => if p < np a then a 12 p + nI u else a 12 p
theorem gLift_succ {u : Nat} : fill (fun p => gLift a u p + 1) (gLift a u) (np a) = gLift a (u + 1) := by
  funext p
  unfold fill gLift
  by_cases hp : p < np a
  · simp only [if_pos hp, nI_succ, Int32.add_assoc]
  · simp only [if_neg hp]
theorem gLift_10 : fill (fun p => gLift a 10 p - 10) (gLift a 10) (np a) = a 12 := by
  funext p
  unfold fill gLift
  by_cases hp : p < np a
  · simp only [if_pos hp]
    have : nI 10 = (10 : Int32) := rfl
    rw [this]
    generalize a 12 p = z
    grind
  · simp only [if_neg hp]
theorem md_stageL (hN : 2000 ≤ N) {M : mS} (hA : mC M = a) (hI : IS a) (h60 : ∀ p, p < np a → iv (a 12 p) 0 60) : ∀ (k i n : Nat) (Y : mS) (b m : Int32), mE (mset M 12 (gLift a i)) Y → i + k = 10 → k < n → ∃ Z, mf_stage_L9 N n Y b m (nI (i + 1)) = some ((fBest (fun u => fAll (fLift a u)) k (i + 1) b m).1, Z) ∧ mE (mset M 12 (gLift a 10)) Z
  | 0, i, n + 1, Y, b, m, hq, hk, _ => by
    have hi : i = 10 := by omega
    subst hi
    refine ⟨Y, ?_, hq⟩
    rw [mf_stage_L9, if_pos (show (10 : Int32) < nI (10 + 1) by decide)]
    rfl
  | k + 1, i, n + 1, Y, b, m, hq, hk, hn => by
    have hlt : ¬ (10 : Int32) < nI (i + 1) := fun hh => by
      have := (sm_lt (n := 10) (by omega) (by omega)).mp hh
      omega
    have h6 := hI.1.2.2.2.1
    have h10 : Y.1 10 0 = nI (np a) := by
      have e10 : Y.1 10 = M.1 10 := (e_at hq rfl).trans (mset_ne (by omega))
      rw [e10, mA hA 10 rfl]
      exact hI.1.2.2.1
    have e12 : Y.1 12 = gLift a i := (e_at hq rfl).trans mset_same
    have l1 := md_stageL1 (N := N) h10 h6 (x := b) (y := m) (z := nI (i + 1)) (g := gLift a i) (np a) 0 N (by omega) (by omega)
    rw [fill_0, ← e12, mset_self, nI_0, e12, gLift_succ] at l1
    have hq1 : mE (mset M 12 (gLift a (i + 1))) (mset Y 12 (gLift a (i + 1))) := by
      have := e_mset (k := 12) (f := gLift a (i + 1)) rfl hq
      rw [mset_mset] at this
      exact this
    have hA1 : mC (mset Y 12 (gLift a (i + 1))) = fLift a (i + 1) := by
      rw [hq1.1, mC_mset rfl, hA]
      rfl
    obtain ⟨Y2, y1, y2⟩ := md_all hN (fLift_ok hI h60 (show i + 1 ≤ 10 by omega)) hA1
    rw [mf_stage_L9, if_neg hlt, l1, bs1, y1, bs2, ← nI_succ, fBest]
    by_cases hm : fAll (fLift a (i + 1)) ≤ m
    · obtain ⟨Z, z1, z2⟩ := md_stageL hN hA hI h60 k (i + 1) n Y2 b m (hq1.trans y2) (by omega) (by omega)
      exact ⟨Z, by rw [if_pos hm, if_pos hm]; exact z1, z2⟩
    · obtain ⟨Z, z1, z2⟩ := md_stageL hN hA hI h60 k (i + 1) n Y2 (nI (i + 1)) (fAll (fLift a (i + 1))) (hq1.trans y2) (by omega) (by omega)
      exact ⟨Z, by rw [if_neg hm, if_neg hm]; exact z1, z2⟩
theorem fLift_0 : fLift a 0 = a := by
  unfold fLift
  have : (fun p => if p < np a then a 12 p + nI 0 else a 12 p) = a 12 := by
    funext p
    rw [nI_0, Int32.add_zero]
    by_cases hp : p < np a
    · rw [if_pos hp]
    · rw [if_neg hp]
  rw [this, af_self]
theorem not_le_m1 {x : Int32} {b : Int} (h : iv x 0 b) : ¬ x ≤ -1 := by
  rw [fa_le, toI_m1]
  have := h.1
  omega
theorem st_stage {X : xS} {M : mS} (hN : 2000 ≤ N) (h : Rl X M) : ∃ r X1 M1, xf_X_stage N X = some (r, X1) ∧ mf_stage N M = some (r, M1) ∧ Rl X1 M1 := by
  obtain ⟨h1, h2, h3, h4, h5⟩ := id h
  have h6 := h3.1.2.2.2.1
  have hself : xs X 21 0 0 = X := by rw [xs_as, upd_self h2.1.2.1, xf_self]
  obtain ⟨Z, w, z1, z2⟩ := px_stageL hN h3 h1 h4.2.1 h2.1.2.1 11 0 N X 0 0 (-1) (by rw [hself]; exact xQ.refl X) (by omega) (by omega)
  obtain ⟨M2, m1, m2⟩ := md_all hN h3 (M := M) rfl
  have hg0 : mset M 12 (gLift (mC M) 0) = M := by
    have : gLift (mC M) 0 = M.1 12 := by
      have := congrFun (fLift_0 (a := mC M)) 12
      unfold fLift at this
      rw [af_same] at this
      exact this
    rw [this, mset_self]
  obtain ⟨M3, n1, n2⟩ := md_stageL hN (M := M) rfl h3 h4.2.1 10 0 N M2 0 (fAll (mC M)) (by rw [hg0]; exact m2) (by omega) (by omega)
  have h10 : M3.1 10 0 = nI (np (mC M)) := by
    have e10 : M3.1 10 = M.1 10 := (e_at n2 rfl).trans (mset_ne (by omega))
    rw [e10]
    exact h3.1.2.2.1
  have e12 : M3.1 12 = gLift (mC M) 10 := (e_at n2 rfl).trans mset_same
  have n3 := fun x => md_stageL2 (N := N) h10 h6 (x := x) (g := gLift (mC M) 10) (np (mC M)) 0 N (by omega) (by omega)
  have hb : fBest (fun u => fAll (fLift (mC M) u)) 11 0 0 (-1) = fBest (fun u => fAll (fLift (mC M) u)) 10 1 0 (fAll (mC M)) := by
    rw [fBest, fLift_0, if_neg (not_le_m1 (fAll_iv h3)), nI_0]
  rw [nI_0] at z1
  unfold xf_X_stage mf_stage
  have e1 : nI (0 + 1) = (1 : Int32) := rfl
  rw [e1] at n1
  rw [z1, bs2, m1, bs2, n1, bs2]
  have n4 := n3 (fBest (fun u => fAll (fLift (mC M) u)) 10 (0 + 1) 0 (fAll (mC M))).1
  rw [fill_0, ← e12, mset_self, nI_0, e12, gLift_10] at n4
  rw [n4, bs1, hb]
  refine ⟨_, _, _, rfl, rfl, h.sameL (xs_back rfl z2 h2.1.2.1).l ⟨?_, n2.2.1⟩⟩
  rw [mC_mset rfl, n2.1, mC_mset rfl, af_af, af_self]
/-! a post elsewhere -/
def fMove (a : aS) (k x : Nat) : aS := aw a 15 k (nI x)
theorem px_leastL (hN : 2000 ≤ N) {X : xS} (hI : IS a) (hR : RS X a) {p : Nat} (hp : p < nk a) {c3 : Int32} : ∀ (k i n : Nat) (Y : xS) (v b m : Int32), xQ (xs X 14 p v) Y → i + k = 21 → k < n → ∃ Z w, xf_X_least_L29 N (nI p) c3 n Y b m (nI i) = some ((fBest (fun u => fAll (fMove a p u)) k i b m).1, Z) ∧ xQ (xs X 14 p w) Z
  | 0, i, n + 1, Y, v, b, m, hq, hk, _ => by
    have hi : i = 21 := by omega
    subst hi
    refine ⟨Y, v, ?_, hq⟩
    rw [xf_X_least_L29, if_pos (show (20 : Int32) < nI 21 by decide)]
    rfl
  | k + 1, i, n + 1, Y, v, b, m, hq, hk, hn => by
    have h4 := hI.1.2.2.2.2.2
    have hlt : ¬ (20 : Int32) < nI i := fun hh => by
      have := (sm_lt (n := 20) (by omega) (by omega)).mp hh
      omega
    have hq1 : xQ (xs X 14 p (nI i)) (xs Y 14 p (nI i)) := by
      have := q_xs (k := 14) (i := p) (x := nI i) rfl hq
      rw [xs_xs] at this
      exact this
    have hR1 : RS (xs X 14 p (nI i)) (fMove a p i) := by
      unfold fMove
      rw [xs_as, aw_af]
      refine hR.place (fun j hj => ?_)
      rw [upd_at, upd_at]
      by_cases e : j = p
      · rw [if_pos e, if_pos e]
      · rw [if_neg e, if_neg e]
        exact (hR.2.2.2.2.2.1 j hj).1
    have hI1 : IS (fMove a p i) := by
      unfold fMove
      rw [aw_af]
      refine hI.place (fun j hj => ?_)
      rw [upd_at]
      by_cases e : j = p
      · rw [if_pos e]
        exact iv_nI (by omega) (by omega)
      · rw [if_neg e]
        exact (hI.2.2.2.2.2.1 j hj).1
    obtain ⟨Y2, y1, y2⟩ := px_all hN hI1 (hR1.frame hq1)
    rw [xf_X_least_L29, if_neg hlt, if_pos (sm_ok (show p < 4 by omega) (by omega)), sm_clamp (show p < 100000000 by omega), y1, bs2, ← nI_succ, fBest]
    by_cases hm : fAll (fMove a p i) ≤ m
    · obtain ⟨Z, w, z1, z2⟩ := px_leastL hN hI hR hp k (i + 1) n Y2 (nI i) b m (hq1.trans y2) (by omega) (by omega)
      exact ⟨Z, w, by rw [if_pos hm, if_pos hm]; exact z1, z2⟩
    · obtain ⟨Z, w, z1, z2⟩ := px_leastL hN hI hR hp k (i + 1) n Y2 (nI i) (nI i) (fAll (fMove a p i)) (hq1.trans y2) (by omega) (by omega)
      exact ⟨Z, w, by rw [if_neg hm, if_neg hm]; exact z1, z2⟩
theorem md_leastL (hN : 2000 ≤ N) {M : mS} (hA : mC M = a) (hI : IS a) {p : Nat} (hp : p < nk a) {c3 : Int32} : ∀ (k i n : Nat) (Y : mS) (v b m : Int32), mE (ms M 15 p v) Y → i + k = 21 → k < n → ∃ Z w, mf_least_L32 N (nI p) c3 n Y b m (nI i) = some ((fBest (fun u => fAll (fMove a p u)) k i b m).1, Z) ∧ mE (ms M 15 p w) Z
  | 0, i, n + 1, Y, v, b, m, hq, hk, _ => by
    have hi : i = 21 := by omega
    subst hi
    refine ⟨Y, v, ?_, hq⟩
    rw [mf_least_L32, if_pos (show (20 : Int32) < nI 21 by decide)]
    rfl
  | k + 1, i, n + 1, Y, v, b, m, hq, hk, hn => by
    have h4 := hI.1.2.2.2.2.2
    have hlt : ¬ (20 : Int32) < nI i := fun hh => by
      have := (sm_lt (n := 20) (by omega) (by omega)).mp hh
      omega
    have hq1 : mE (ms M 15 p (nI i)) (ms Y 15 p (nI i)) := by
      have := e_ms (k := 15) (i := p) (x := nI i) rfl hq
      rw [ms_ms] at this
      exact this
    have hA1 : mC (ms Y 15 p (nI i)) = fMove a p i := by
      rw [hq1.1, mC_aw rfl, hA]
      rfl
    have hI1 : IS (fMove a p i) := by
      unfold fMove
      rw [aw_af]
      refine hI.place (fun j hj => ?_)
      rw [upd_at]
      by_cases e : j = p
      · rw [if_pos e]
        exact iv_nI (by omega) (by omega)
      · rw [if_neg e]
        exact (hI.2.2.2.2.2.1 j hj).1
    obtain ⟨Y2, y1, y2⟩ := md_all hN hI1 hA1
    rw [mf_least_L32, if_neg hlt, if_pos (sm_ok (show p < 4 by omega) (by omega)), sm_clamp (show p < 100000000 by omega), y1, bs2, ← nI_succ, fBest]
    by_cases hm : fAll (fMove a p i) ≤ m
    · obtain ⟨Z, w, z1, z2⟩ := md_leastL hN hA hI hp k (i + 1) n Y2 (nI i) b m (hq1.trans y2) (by omega) (by omega)
      exact ⟨Z, w, by rw [if_pos hm, if_pos hm]; exact z1, z2⟩
    · obtain ⟨Z, w, z1, z2⟩ := md_leastL hN hA hI hp k (i + 1) n Y2 (nI i) (nI i) (fAll (fMove a p i)) (hq1.trans y2) (by omega) (by omega)
      exact ⟨Z, w, by rw [if_neg hm, if_neg hm]; exact z1, z2⟩
theorem ms_back {M Y : mS} {k i : Nat} {v w : Int32} (hk : Nat.blt k 40 = true) (h : mE (ms M k i v) Y) (hw : M.1 k i = w) : mE M (ms Y k i w) := by
  have := e_ms (i := i) (x := w) hk h
  rw [ms_ms, ms_as (M := M), upd_self hw, mset_self] at this
  exact this
theorem st_least {X : xS} {M : mS} (hN : 2000 ≤ N) (h : Rl X M) (x : Int32) : ∃ r X1 M1, xf_X_least N X x = some (r, X1) ∧ mf_least N M x = some (r, M1) ∧ Rl X1 M1 := by
  have hc := post_cases h x
  obtain ⟨h1, h2, h3, h4, h5⟩ := id h
  have h44 := h3.1.2.2.2.2.2
  unfold xf_X_least mf_least
  rcases hc with ⟨p, hp, rfl, q1, q2⟩ | ⟨q1, q2⟩
  · have hself : xs X 14 p (X.1 14 p) = X := by rw [xs_as, upd_self rfl, xf_self]
    have hself2 : ms M 15 p (M.1 15 p) = M := by rw [ms_as, upd_self rfl, mset_self]
    obtain ⟨Z, w, z1, z2⟩ := px_leastL hN h3 h1 hp (c3 := X.1 14 p) 21 0 N X (X.1 14 p) 0 (-1) (by rw [hself]; exact xQ.refl X) (by omega) (by omega)
    obtain ⟨M2, w2, m1, m2⟩ := md_leastL hN (M := M) rfl h3 hp (c3 := M.1 15 p) 21 0 N M (M.1 15 p) 0 (-1) (by rw [hself2]; exact mE.refl M) (by omega) (by omega)
    rw [nI_0] at z1 m1
    rw [q1, q2, if_pos rfl, if_pos rfl, if_pos (sm_ok (show p < 4 by omega) (by omega)), if_pos (sm_ok (show p < 4 by omega) (by omega)), sm_clamp (show p < 100000000 by omega), z1, bs2, m1, bs2]
    exact ⟨_, _, _, rfl, rfl, h.same (xs_back rfl z2 rfl) (ms_back rfl m2 rfl)⟩
  · rw [q1, q2]
    exact ⟨_, X, M, rfl, rfl, h⟩
/-! a hat -/
theorem RS.unhat {X Y : xS} (h : RS X a) (h24 : a 23 0 = -1) (hy : Y.1 24 0 = -1) (hq : ∀ j, xcoreL j = true → j ≠ 22 → j ≠ 23 → j ≠ 24 → Y.1 j = X.1 j) (q2 : Y.2.2 = X.2.2) (v : Int32) : RS Y (aw a 24 0 v) := by
  obtain ⟨h1, h2, h3, h4, h5, h6, h7, h8⟩ := h
  have k : ∀ j, xcoreL j = true → j ≠ 22 → j ≠ 23 → j ≠ 24 → Y.1 j = X.1 j := hq
  refine ⟨?_, ?_, ?_, ?_, ?_, ?_, ?_, ?_⟩
  · unfold RS_n at h1 ⊢
    rw [k 16 rfl (by omega) (by omega) (by omega), k 17 rfl (by omega) (by omega) (by omega), k 18 rfl (by omega) (by omega) (by omega), q2]
    exact h1
  · unfold RS_k at h2 ⊢
    rw [k 8 rfl (by omega) (by omega) (by omega), k 9 rfl (by omega) (by omega) (by omega), k 10 rfl (by omega) (by omega) (by omega)]
    exact h2
  · unfold RS_r at h3 ⊢
    rw [k 54 rfl (by omega) (by omega) (by omega), k 55 rfl (by omega) (by omega) (by omega), k 56 rfl (by omega) (by omega) (by omega), k 57 rfl (by omega) (by omega) (by omega), k 58 rfl (by omega) (by omega) (by omega), k 59 rfl (by omega) (by omega) (by omega), k 60 rfl (by omega) (by omega) (by omega), k 61 rfl (by omega) (by omega) (by omega), k 62 rfl (by omega) (by omega) (by omega), k 63 rfl (by omega) (by omega) (by omega)]
    exact h3
  · exact RS_s.cg h4 (by rw [k 20 rfl (by omega) (by omega) (by omega)]) (fun r => k _ (xcoreL_row r) (by omega) (by omega) (by omega)) rfl rfl
  · unfold RS_p at h5 ⊢
    rw [k 11 rfl (by omega) (by omega) (by omega), k 12 rfl (by omega) (by omega) (by omega), k 13 rfl (by omega) (by omega) (by omega), k 21 rfl (by omega) (by omega) (by omega)]
    exact h5
  · unfold RS_o at h6 ⊢
    rw [k 14 rfl (by omega) (by omega) (by omega), k 15 rfl (by omega) (by omega) (by omega)]
    exact h6
  · exact .inl ⟨by rw [hy]; decide, h24⟩
  · exact RS_t.cg h8 (k 0 rfl (by omega) (by omega) (by omega)) (k 1 rfl (by omega) (by omega) (by omega)) (k 19 rfl (by omega) (by omega) (by omega)) (by rw [q2]) (k 76 rfl (by omega) (by omega) (by omega)) (fun t => k _ (xcoreL_ends t) (by omega) (by omega) (by omega)) (fun t => k _ (xcoreL_steps t) (by omega) (by omega) (by omega)) rfl rfl rfl rfl
theorem RT.unhat {X Y : xS} (h : RT X a) (hy : Y.1 24 0 = -1) (hq : ∀ j, xcoreL j = true → j ≠ 22 → j ≠ 23 → j ≠ 24 → Y.1 j = X.1 j) (v : Int32) : RT Y (aw a 24 0 v) := by
  obtain ⟨h1, h2, h3, h4⟩ := h
  have k : ∀ j, xcoreL j = true → j ≠ 22 → j ≠ 23 → j ≠ 24 → Y.1 j = X.1 j := hq
  refine ⟨?_, ?_, ?_, ?_⟩
  · unfold RZ at h1 ⊢
    rw [k 20 rfl (by omega) (by omega) (by omega), k 21 rfl (by omega) (by omega) (by omega)]
    exact ⟨h1.1, h1.2.1, hy⟩
  · unfold RT_tape at h2 ⊢
    rw [k 2 rfl (by omega) (by omega) (by omega), k 3 rfl (by omega) (by omega) (by omega)]
    exact h2
  · unfold RT_img at h3 ⊢
    rw [k 26 rfl (by omega) (by omega) (by omega), k 27 rfl (by omega) (by omega) (by omega), k 28 rfl (by omega) (by omega) (by omega), k 29 rfl (by omega) (by omega) (by omega), k 30 rfl (by omega) (by omega) (by omega), k 31 rfl (by omega) (by omega) (by omega), k 32 rfl (by omega) (by omega) (by omega), k 33 rfl (by omega) (by omega) (by omega), k 34 rfl (by omega) (by omega) (by omega), k 35 rfl (by omega) (by omega) (by omega), k 36 rfl (by omega) (by omega) (by omega), k 37 rfl (by omega) (by omega) (by omega)]
    exact h3
  · intro s hs
    have e : Y.1 (70 + s) = X.1 (70 + s) := by
      have : s = 0 ∨ s = 1 ∨ s = 2 ∨ s = 3 := by omega
      rcases this with rfl | rfl | rfl | rfl
      · exact k 70 rfl (by omega) (by omega) (by omega)
      · exact k 71 rfl (by omega) (by omega) (by omega)
      · exact k 72 rfl (by omega) (by omega) (by omega)
      · exact k 73 rfl (by omega) (by omega) (by omega)
    rw [k 4 rfl (by omega) (by omega) (by omega), k 5 rfl (by omega) (by omega) (by omega), e]
    exact h4 s hs
theorem st_hat {X : xS} {M : mS} (hN : 2000 ≤ N) (h : Rl X M) (x y z : Int32) : ∃ r X1 M1, xf_X_hat N X x y z = some (r, X1) ∧ mf_hat N M x y z = some (r, M1) ∧ Rl X1 M1 := by
  have hh := seat_cases (N := N) h x y
  obtain ⟨h1, h2, h3, h4, h5⟩ := id h
  unfold xf_X_hat mf_hat
  rcases hh with ⟨r, c, hr, hc, hc8, rfl, rfl, q1, q2⟩ | ⟨q1, q2⟩
  · have h6 := h3.hr6 hr
    rw [q1, q2, bs1, bs1, if_neg (nI_pos (by omega)), if_pos rfl, isIn_in]
    cases hz : mf_in z 0 40 with
    | false => exact ⟨_, X, M, rfl, rfl, h⟩
    | true =>
      obtain ⟨X1, w1, w2⟩ := px_all hN h3 h1
      obtain ⟨M1, m1, m2⟩ := md_all hN h3 (M := M) rfl
      have hR2 := (h1.frame w2).hat (v := z) hr hc8
      have hI2 := h3.hat (r := r) (c := c) (v := z) (in_iff.mp hz)
      have hA2 : mC (ms (ms M1 23 0 (nI (8 * r + c))) 24 0 z) = aw (aw (mC M) 23 0 (nI (8 * r + c))) 24 0 z := by
        rw [mC_aw rfl, mC_aw rfl, m2.1]
      obtain ⟨X2, w3, w4⟩ := px_all hN hI2 hR2
      obtain ⟨M2, m3, m4⟩ := md_all hN hI2 hA2
      rw [if_pos rfl, if_pos rfl, w1, bs2, w3, bs2, m1, bs2, ix8, m3, bs2]
      have hq : ∀ j, xcoreL j = true → j ≠ 22 → j ≠ 23 → j ≠ 24 → (xs X2 24 0 (-1)).1 j = X.1 j := fun j hj e1 e2 e3 => by
        rw [xs_ne e3, w4.1 j (xcoreL_core hj), xs_ne e2, xs_ne e1, xs_ne e3]
        exact w2.1 j (xcoreL_core hj)
      have h24 : (xs X2 24 0 (-1)).1 24 0 = -1 := by rw [xs_same, pk_us]
      have hC : mC (ms M2 23 0 (-1)) = aw (mC M) 24 0 z := by
        rw [mC_aw rfl, m4.1, hA2]
        funext j
        by_cases e : j = 23
        · subst e
          rw [aw_same, aw_ne rfl, aw_same, upd_upd, upd_self h4.2.2.1, aw_ne rfl]
        · rw [aw_ne (beqF e)]
          by_cases e2 : j = 24
          · subst e2
            rw [aw_same, aw_same, aw_ne rfl]
          · rw [aw_ne (beqF e2), aw_ne (beqF e), aw_ne (beqF e2)]
      refine ⟨_, _, _, rfl, rfl, ?_⟩
      unfold Rl
      rw [hC]
      refine ⟨h1.unhat h4.2.2.1 h24 hq (w4.2.trans w2.2) z, h2.unhat h24 hq z, ?_, h4, m4.2.1.trans (m2.2.1.trans h5)⟩
      obtain ⟨g1, g2, g3, g4, g5, g6, g7, g8⟩ := h3
      exact ⟨g1, g2, g3, g4, g5, g6, .inl h4.2.2.1, g8.cg rfl rfl rfl rfl⟩
  · rw [q1, q2]
    exact ⟨_, X, M, rfl, rfl, h⟩
end A
end PASK4
