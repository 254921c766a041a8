section PREAD
/-! the class's reader: while it reads, and after its fault -/
variable {N : Nat} {b : Nat → Nat} {sz : Nat}
def XL : List Nat := [38, 41, 42, 43, 44, 45, 46, 48]
def hE (f : Nat → Int32) : List Nat → Prop
  | [] => True
  | x :: r => f r.length = enc (nI x) ∧ hE f r
theorem hE_congr {f g : Nat → Int32} : ∀ {l : List Nat}, (∀ j, j < l.length → g j = f j) → hE f l → hE g l
  | [], _, _ => True.intro
  | x :: r, h, hs => ⟨(h r.length (Nat.lt_succ_self _)).trans hs.1, hE_congr (fun j hj => h j (Nat.lt_succ_of_lt hj)) hs.2⟩
def XE (b : Nat → Nat) (sz s : Nat) (O : List Nat) (o : Nat) (X : xS) : Prop := XT b sz X ∧ X.1 38 0 = -1 ∧ XA b sz s X ∧ X.1 45 0 = nI o ∧ X.1 48 0 = nI O.length ∧ hE (X.1 46) O ∧ s ≤ sz
def XF (s : Nat) (X : xS) : Prop := X.1 38 0 = nI s ∧ s ≤ 160 ∧ X.1 43 0 = 10 ∧ ∃ m, m ≤ 160 ∧ X.1 48 0 = nI m
theorem xr_put {s o x : Nat} {O : List Nat} {X : xS} {a1 a2 : Int32} (h : XE b sz s O o X) (hO : O.length < 160) (hx : (a1 <<< (14 &&& 31)) ||| a2 = enc (nI x)) : ∃ X1, xf_R_put N X a1 a2 = some X1 ∧ XE b sz s (x :: O) o X1 ∧ xU XL X X1 := by
  obtain ⟨h1, h2, h3, h4, h5, h6, h7⟩ := h
  unfold xf_R_put
  rw [h5, if_neg (show ¬ (160 : Int32) ≤ nI O.length from sm_nle (n := 160) (by omega) (by omega)), if_pos (sm_ok (by omega) (by omega)), sm_clamp (by omega), hx]
  have e48 : (xs X 46 O.length (enc (nI x))).1 48 0 + 1 = nI (O.length + 1) := by
    rw [xs_ne (by decide), h5]; exact nI_add _ 1
  rw [e48]
  have hU : xU [46, 48] X (xs (xs X 46 O.length (enc (nI x))) 48 0 (nI (O.length + 1))) := ((xU.refl _ _).xs (by decide)).xs (by decide)
  have e46 : ∀ j, (xs (xs X 46 O.length (enc (nI x))) 48 0 (nI (O.length + 1))).1 46 j = if j = O.length then enc (nI x) else X.1 46 j := fun j => by
    rw [xs_ne (by decide), xs_same]; rfl
  refine ⟨_, rfl, ⟨h1.frame hU (by decide) (by decide) (by decide), ?_, ?_, ?_, rfl, ⟨?_, ?_⟩, h7⟩, hU.mono (by decide)⟩
  · rw [hU.1 38 (by decide)]; exact h2
  · unfold XA
    rw [hU.1 41 (by decide), hU.1 42 (by decide), hU.1 43 (by decide), hU.1 44 (by decide)]
    exact h3
  · rw [hU.1 45 (by decide)]; exact h4
  · rw [e46, if_pos rfl]
  · refine hE_congr (fun j hj => ?_) h6
    rw [e46, if_neg (by omega)]
theorem xr_putF {s : Nat} {X : xS} {a1 a2 : Int32} (h : XF s X) : ∃ X1, xf_R_put N X a1 a2 = some X1 ∧ XF s X1 ∧ xU XL X X1 := by
  obtain ⟨h1, h2, h3, m, h4, h5⟩ := h
  unfold xf_R_put
  rw [h5]
  by_cases hm : m = 160
  · rw [hm, if_pos (show (160 : Int32) ≤ nI 160 from sm_len (n := 160) (by omega) (by omega))]
    exact ⟨X, rfl, ⟨h1, h2, h3, m, h4, h5⟩, xU.refl _ _⟩
  · rw [if_neg (show ¬ (160 : Int32) ≤ nI m from sm_nle (n := 160) (by omega) (by omega)), if_pos (sm_ok (by omega) (by omega)), sm_clamp (by omega)]
    have e48 : (xs X 46 m ((a1 <<< (14 &&& 31)) ||| a2)).1 48 0 + 1 = nI (m + 1) := by
      rw [xs_ne (by decide), h5]; exact nI_add _ 1
    rw [e48]
    have hU : xU [46, 48] X (xs (xs X 46 m ((a1 <<< (14 &&& 31)) ||| a2)) 48 0 (nI (m + 1))) := ((xU.refl _ _).xs (by decide)).xs (by decide)
    refine ⟨_, rfl, ⟨?_, h2, ?_, m + 1, by omega, rfl⟩, hU.mono (by decide)⟩
    · rw [hU.1 38 (by decide)]; exact h1
    · rw [hU.1 43 (by decide)]; exact h3
theorem xr_adv {s o : Nat} {O : List Nat} {X : xS} (hN : 2000 ≤ N) (h : XE b sz s O o X) : ∃ X1, xf_R_advance N X = some X1 ∧ XE b sz (tB b sz (tE b sz s)) O o X1 ∧ xU XL X X1 := by
  obtain ⟨h1, h2, h3, h4, h5, h6, h7⟩ := h
  have hle := (tE_le (b := b) h7).2.1
  obtain ⟨X1, a1, a2, a3⟩ := px_adv (N := N) hN h1 h2 h3.1 hle
  refine ⟨X1, a1, ⟨h1.frame a2 (by decide) (by decide) (by decide), ?_, a3, ?_, ?_, ?_, (tB_le hle).2⟩, a2.mono (by decide)⟩
  · rw [a2.1 38 (by decide)]; exact h2
  · rw [a2.1 45 (by decide)]; exact h4
  · rw [a2.1 48 (by decide)]; exact h5
  · rw [a2.1 46 (by decide)]; exact h6
theorem xr_advF {s : Nat} {X : xS} (h : XF s X) : xf_R_advance N X = some X := by
  unfold xf_R_advance
  rw [h.1, if_neg (nI_ne_m1 (by have := h.2.1; omega))]
theorem xr_refuseF {s : Nat} {X : xS} (h : XF s X) : xf_R_refuse X = X := by
  unfold xf_R_refuse
  rw [h.1, if_neg (nI_ne_m1 (by have := h.2.1; omega))]
theorem xr_refuse {s o : Nat} {O : List Nat} {X : xS} (h : XE b sz s O o X) (hO : O.length ≤ 160) : XF s (xf_R_refuse X) ∧ xU XL X (xf_R_refuse X) := by
  obtain ⟨h1, h2, h3, h4, h5, h6, h7⟩ := h
  have h160 := h1.2.1
  unfold xf_R_refuse
  rw [if_pos h2]
  have hU : xU [38, 43] X (xs (xs X 38 0 (X.1 42 0)) 43 0 10) := ((xU.refl _ _).xs (by decide)).xs (by decide)
  refine ⟨⟨?_, by omega, rfl, O.length, hO, ?_⟩, hU.mono (by decide)⟩
  · rw [xs_ne (by decide)]; exact h3.2.1
  · rw [hU.1 48 (by decide)]; exact h5
theorem xr_expect {s o : Nat} {O : List Nat} {X : xS} {a : Int32} (hN : 2000 ≤ N) (h : XE b sz s O o X) (ha : kX (tK b sz s) (tV b sz s) = a) : ∃ X1, xf_R_expect N X a = some X1 ∧ XE b sz (tB b sz (tE b sz s)) O o X1 ∧ xU XL X X1 := by
  obtain ⟨X1, a1, a2, a3⟩ := xr_adv (N := N) hN h
  unfold xf_R_expect
  rw [if_pos (h.2.2.1.2.2.1.trans ha), a1, bs1]
  exact ⟨X1, rfl, a2, a3⟩
theorem xr_expectN {s o : Nat} {O : List Nat} {X : xS} {a : Int32} (h : XE b sz s O o X) (hO : O.length ≤ 160) (ha : ¬ kX (tK b sz s) (tV b sz s) = a) : ∃ X1, xf_R_expect N X a = some X1 ∧ XF s X1 ∧ xU XL X X1 := by
  have hr := xr_refuse h hO
  unfold xf_R_expect
  rw [if_neg (fun hh => ha (h.2.2.1.2.2.1.symm.trans hh))]
  exact ⟨_, rfl, hr.1, hr.2⟩
theorem xr_expectF {s : Nat} {X : xS} {a : Int32} (h : XF s X) (ha : ¬ (10 : Int32) = a) : xf_R_expect N X a = some X := by
  unfold xf_R_expect
  rw [h.2.2.1, if_neg ha, xr_refuseF h]
theorem xr_opens {s o : Nat} {O : List Nat} {X : xS} (hN : 2000 ≤ N) (h : XE b sz s O o X) (ho : o < 5) : ∃ X1, xf_R_opens N X = some (true, X1) ∧ XE b sz (tB b sz (tE b sz s)) O (o + 1) X1 ∧ xU XL X X1 := by
  obtain ⟨h1, h2, h3, h4, h5, h6, h7⟩ := h
  unfold xf_R_opens
  rw [h4, if_pos (show nI o < (5 : Int32) from (sm_lt (m := 5) (by omega) (by omega)).mpr ho), show nI o + 1 = nI (o + 1) from nI_add o 1]
  have hU : xU [45] X (xs X 45 0 (nI (o + 1))) := (xU.refl _ _).xs (by decide)
  have hE2 : XE b sz s O (o + 1) (xs X 45 0 (nI (o + 1))) := by
    refine ⟨h1.frame hU (by decide) (by decide) (by decide), ?_, ?_, rfl, ?_, ?_, h7⟩
    · rw [hU.1 38 (by decide)]; exact h2
    · unfold XA
      rw [hU.1 41 (by decide), hU.1 42 (by decide), hU.1 43 (by decide), hU.1 44 (by decide)]
      exact h3
    · rw [hU.1 48 (by decide)]; exact h5
    · rw [hU.1 46 (by decide)]; exact h6
  obtain ⟨X1, a1, a2, a3⟩ := xr_adv (N := N) hN hE2
  rw [a1, bs1]
  exact ⟨X1, rfl, a2, (hU.mono (by decide)).trans a3⟩
theorem xr_opens5 {s o : Nat} {O : List Nat} {X : xS} (h : XE b sz s O o X) (hO : O.length ≤ 160) (ho : o = 5) : ∃ X1, xf_R_opens N X = some (false, X1) ∧ XF s X1 ∧ xU XL X X1 := by
  have hr := xr_refuse h hO
  unfold xf_R_opens
  rw [h.2.2.2.1, ho, if_neg (show ¬ nI 5 < (5 : Int32) from by decide)]
  exact ⟨_, rfl, hr.1, hr.2⟩
/-- one less open -/
theorem XE.close {s o : Nat} {O : List Nat} {X : xS} (h : XE b sz s O (o + 1) X) : XE b sz s O o (xs X 45 0 (X.1 45 0 - 1)) ∧ xU XL X (xs X 45 0 (X.1 45 0 - 1)) := by
  obtain ⟨h1, h2, h3, h4, h5, h6, h7⟩ := h
  have hU : xU [45] X (xs X 45 0 (X.1 45 0 - 1)) := (xU.refl _ _).xs (by decide)
  refine ⟨⟨h1.frame hU (by decide) (by decide) (by decide), ?_, ?_, ?_, ?_, ?_, h7⟩, hU.mono (by decide)⟩
  · rw [hU.1 38 (by decide)]; exact h2
  · unfold XA
    rw [hU.1 41 (by decide), hU.1 42 (by decide), hU.1 43 (by decide), hU.1 44 (by decide)]
    exact h3
  · show X.1 45 0 - 1 = nI o
    rw [h4]; exact nI_pred o
  · rw [hU.1 48 (by decide)]; exact h5
  · rw [hU.1 46 (by decide)]; exact h6
theorem XF.close {s : Nat} {X : xS} {x : Int32} (h : XF s X) : XF s (xs X 45 0 x) ∧ xU XL X (xs X 45 0 x) := by
  have hU : xU [45] X (xs X 45 0 x) := (xU.refl _ _).xs (by decide)
  obtain ⟨h1, h2, h3, m, h4, h5⟩ := h
  refine ⟨⟨?_, h2, ?_, m, h4, ?_⟩, hU.mono (by decide)⟩
  · rw [hU.1 38 (by decide)]; exact h1
  · rw [hU.1 43 (by decide)]; exact h3
  · rw [hU.1 48 (by decide)]; exact h5
/-- after the fault nothing more is read -/
theorem xr_inert {s : Nat} (hN : 2000 ≤ N) : ∀ (D k : Nat) (X : xS), XF s X → 7 ≤ D + min k 6 → ∃ X1, xr_all N D k X = some X1 ∧ XF s X1 ∧ xU XL X X1 := by
  obtain ⟨m, hm⟩ : ∃ m, N = m + 1 := ⟨N - 1, by omega⟩
  intro D
  induction D with
  | zero => intro k X h hd; omega
  | succ D ih =>
    intro k X h hd
    have c : ∀ (X : xS), XF s X → X.1 43 0 = 10 := fun X h => h.2.2.1
    match k, hd with
    | 0, hd =>
      obtain ⟨X1, a1, a2, a3⟩ := ih 1 X h (by omega)
      show ∃ X1, xf_R_readOr N (xr_all N D) X = some X1 ∧ _
      rw [xf_R_readOr, a1, bs1]
      conv => enter [1, X1, 1, 1, 1]; rw [hm]
      rw [xf_R_readOr_L6, if_neg (by decide), c X1 a2, if_neg (by decide), bs1]
      exact ⟨X1, rfl, a2, a3⟩
    | 1, hd =>
      obtain ⟨X1, a1, a2, a3⟩ := ih 2 X h (by omega)
      show ∃ X1, xf_R_readAnd N (xr_all N D) X = some X1 ∧ _
      rw [xf_R_readAnd, a1, bs1]
      conv => enter [1, X1, 1, 1, 1]; rw [hm]
      rw [xf_R_readAnd_L6, if_neg (by decide), c X1 a2, if_neg (by decide), bs1]
      exact ⟨X1, rfl, a2, a3⟩
    | 2, hd =>
      obtain ⟨X1, a1, a2, a3⟩ := ih 3 X h (by omega)
      show ∃ X1, xf_R_readNot N (xr_all N D) X = some X1 ∧ _
      rw [xf_R_readNot, c X h, if_neg (by decide), a1, bs1]
      exact ⟨X1, rfl, a2, a3⟩
    | 3, hd =>
      obtain ⟨X1, a1, a2, a3⟩ := ih 4 X h (by omega)
      show ∃ X1, xf_R_readComparison N (xr_all N D) X = some X1 ∧ _
      rw [xf_R_readComparison, a1, bs1, c X1 a2, if_neg (by decide), if_neg (by decide)]
      exact ⟨X1, rfl, a2, a3⟩
    | 4, hd =>
      obtain ⟨X1, a1, a2, a3⟩ := ih 5 X h (by omega)
      show ∃ X1, xf_R_readSum N (xr_all N D) X = some X1 ∧ _
      rw [xf_R_readSum, a1, bs1]
      conv => enter [1, X1, 1, 1, 1]; rw [hm]
      rw [xf_R_readSum_L6, if_neg (by decide), c X1 a2, if_neg (by decide), if_neg (by decide), bm0_inl, bs1]
      exact ⟨X1, rfl, a2, a3⟩
    | 5, hd =>
      obtain ⟨X1, a1, a2, a3⟩ := ih 6 X h (by omega)
      show ∃ X1, xf_R_readTerm N (xr_all N D) X = some X1 ∧ _
      rw [xf_R_readTerm, a1, bs1]
      conv => enter [1, X1, 1, 1, 1]; rw [hm]
      rw [xf_R_readTerm_L6, if_neg (by decide), c X1 a2, if_neg (by decide), bs1]
      exact ⟨X1, rfl, a2, a3⟩
    | k + 6, hd =>
      show ∃ X1, xf_R_readOne N (xr_all N D) X = some X1 ∧ _
      rw [xf_R_readOne, c X h, if_neg (by decide), if_neg (by decide), if_neg (by decide), if_neg (by decide), xr_refuseF h]
      exact ⟨X, rfl, h, xU.refl _ _⟩
end PREAD
