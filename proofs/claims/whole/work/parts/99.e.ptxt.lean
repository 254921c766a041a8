section PTXT
/-! what holds between two calls, after a text was read or refused -/
variable {a a1 : aS} {X X1 : xS} {M M1 : mS}
theorem dRun_congr {f g : Nat → Int32} : ∀ {k i d : Nat}, (∀ j, i ≤ j → j < i + k → g j = f j) → dRun g k i d = dRun f k i d
  | 0, _, _, _ => rfl
  | k + 1, i, d, h => by
    rw [dRun, dRun, h i (Nat.le_refl _) (by omega)]
    cases dStep (f i) d with
    | none => rfl
    | some e => exact dRun_congr (fun j h1 h2 => h j (by omega) (by omega))
theorem dRun_snoc {f : Nat → Int32} : ∀ {k i d e : Nat}, dRun f k i d = some e → dRun f (k + 1) i d = dStep (f (i + k)) e
  | 0, i, d, e, h => by
    have e1 : d = e := Option.some.inj h
    subst e1
    rw [dRun, Nat.add_zero]
    cases dStep (f i) d with
    | none => rfl
    | some _ => rfl
  | k + 1, i, d, e, h => by
    rw [dRun] at h
    rw [dRun]
    cases hd : dStep (f i) d with
    | none => rw [hd] at h; exact nomatch h
    | some d1 =>
      rw [hd] at h
      have := dRun_snoc (k := k) (i := i + 1) h
      rw [show i + (k + 1) = i + 1 + k by omega]
      exact this
theorem dR_run {n0 : Nat} {f : Nat → Int32} : ∀ {O : List Nat} {d : Nat}, dR n0 O = some d → hS f O → dRun f (O.length - n0) n0 0 = some d
  | [], d, h, _ => by
    rw [dR] at h
    by_cases h0 : n0 = 0
    · rw [if_pos h0] at h
      rw [h0]
      exact h
    · rw [if_neg h0] at h; exact nomatch h
  | x :: r, d, h, hs => by
    rw [dR] at h
    by_cases h0 : r.length + 1 = n0
    · rw [if_pos h0] at h
      rw [List.length_cons, h0, Nat.sub_self]
      exact h
    · rw [if_neg h0] at h
      cases hr : dR n0 r with
      | none => rw [hr] at h; exact nomatch h
      | some e =>
        rw [hr] at h
        have hl := dR_len hr
        have ih := dRun_snoc (dR_run hr hs.2)
        rw [show n0 + (r.length - n0) = r.length by omega, hs.1] at ih
        rw [List.length_cons, show r.length + 1 - n0 = r.length - n0 + 1 by omega, ih]
        exact h
theorem hS_suf {f : Nat → Int32} {O1 : List Nat} : ∀ (P : List Nat), hS f (P ++ O1) → hS f O1
  | [], h => h
  | _ :: r, h => hS_suf r h.2
theorem hSE {f g : Nat → Int32} : ∀ {O : List Nat}, hS f O → hE g O → ∀ i, i < O.length → g i = enc (f i)
  | [], _, _, i, h => absurd h (Nat.not_lt_zero _)
  | x :: r, hs, he, i, h => by
    by_cases e : i = r.length
    · rw [e, hs.1]; exact he.1
    · exact hSE hs.2 he.2 i (by rw [List.length_cons] at h; omega)
theorem hSok {f : Nat → Int32} : ∀ {O : List Nat}, hS f O → (∀ x ∈ O, okc x) → ∀ i, i < O.length → cOK (f i)
  | [], _, _, i, h => absurd h (Nat.not_lt_zero _)
  | x :: r, hs, he, i, h => by
    by_cases e : i = r.length
    · rw [e]; exact ⟨x, hs.1, he x (List.mem_cons_self ..)⟩
    · exact hSok hs.2 (fun y hy => he y (List.mem_cons_of_mem _ hy)) i (by rw [List.length_cons] at h; omega)
theorem tOK_congr {t : Nat} (h20 : ∀ j, j < 4 → a1 20 (4 * t + j) = a 20 (4 * t + j)) (h19 : ∀ i, i < 200 → a1 19 (200 * t + i) = a 19 (200 * t + i)) (h : tOK a t) : tOK a1 t ∧ (∀ j, j < 4 → st a1 t j = st a t j) ∧ ∀ i, i < 200 → cd a1 t i = cd a t i := by
  have hst : ∀ j, j < 4 → st a1 t j = st a t j := fun j hj => by unfold st; rw [h20 j hj]
  have hcd : ∀ i, i < 200 → cd a1 t i = cd a t i := fun i hi => h19 i hi
  have h160 : ∀ j, j < 3 → st a t (j + 1) ≤ 160 := fun j hj => h.h160 hj
  refine ⟨⟨fun j hj => by rw [h20 j hj, hst j hj]; exact h.1 j hj, ?_, fun j hj => ?_, ?_, fun i hi => ?_, fun j hj => ?_⟩, hst, hcd⟩
  · rw [hst 0 (by omega)]; exact h.2.1
  · rw [hst j (by omega), hst (j + 1) (by omega)]; exact h.2.2.1 j hj
  · rw [hst 3 (by omega)]; exact h.2.2.2.1
  · rw [hst 3 (by omega)] at hi
    have := h.2.2.2.1
    rw [hcd i (by omega)]
    exact h.2.2.2.2.1 i hi
  · rw [hst j (by omega), hst (j + 1) (by omega)]
    have h1 := h160 j hj
    have h2 := h.2.2.1 j hj
    rw [dRun_congr (f := cd a t) (fun i _ hi => hcd i (by omega))]
    exact h.2.2.2.2.2 j hj
theorem tOK_new {t : Nat} {O : List Nat} {q : Nat → Nat} (h20 : ∀ j, j < 4 → a 20 (4 * t + j) = nI (q j)) (hq0 : q 0 = 0) (hq3 : q 3 = O.length) (hO : O.length ≤ 160) (hs : hS (fun k => a 19 (200 * t + k)) O) (hok : ∀ x ∈ O, okc x) (hd : ∀ j, j < 3 → q j ≤ q (j + 1) ∧ ∃ P O1, P ++ O1 = O ∧ O1.length = q (j + 1) ∧ dR (q j) O1 = some 1) : tOK a t ∧ ∀ j, j < 4 → st a t j = q j := by
  have d0 : q 0 ≤ q 1 := (hd 0 (by omega)).1
  have d1 : q 1 ≤ q 2 := (hd 1 (by omega)).1
  have d2 : q 2 ≤ q 3 := (hd 2 (by omega)).1
  have hq : ∀ j, j < 4 → q j ≤ 160 := fun j hj => by
    have : j = 0 ∨ j = 1 ∨ j = 2 ∨ j = 3 := by omega
    rcases this with rfl | rfl | rfl | rfl <;> omega
  have hst : ∀ j, j < 4 → st a t j = q j := fun j hj => by
    have := hq j hj
    unfold st
    rw [h20 j hj, sm_clamp (by omega)]
  refine ⟨⟨fun j hj => by rw [h20 j hj, hst j hj], ?_, fun j hj => ?_, ?_, fun i hi => ?_, fun j hj => ?_⟩, hst⟩
  · rw [hst 0 (by omega)]; exact hq0
  · rw [hst j (by omega), hst (j + 1) (by omega)]; exact (hd j hj).1
  · rw [hst 3 (by omega)]; omega
  · rw [hst 3 (by omega), hq3] at hi
    exact hSok hs hok i hi
  · rw [hst j (by omega), hst (j + 1) (by omega)]
    obtain ⟨P, O1, e1, e2, e3⟩ := (hd j hj).2
    have h := dR_run e3 (hS_suf P (by rw [e1]; exact hs))
    rw [e2] at h
    exact h
theorem mC_eq {k : Nat} (h : k < 40 → M1.1 k = M.1 k) : mC M1 k = mC M k := by
  unfold mC
  cases hk : Nat.blt k 40 with
  | true => exact h (by simpa [Nat.blt_eq] using hk)
  | false => rfl
theorem Rl_txt {n1 : Nat} (h : Rl X M) (hn1 : nt (mC M) ≤ n1) (hn6 : n1 ≤ 6)
    (hx : ∀ j, j ≠ 0 → j ≠ 2 → (∀ t, j ≠ 81 + 4 * t ∧ j ≠ 82 + 4 * t) → j ≠ 76 → xcore j = true → X1.1 j = X.1 j) (hx0 : X1.1 0 0 = nI n1) (hx2 : X1.1 2 0 = 0) (hxr : X1.2.2.1 = X.2.2.1) (hxt : X1.2.2.2 = n1)
    (hm : ∀ k, k < 40 → k ≠ 18 → k ≠ 19 → k ≠ 20 → k ≠ 21 → M1.1 k = M.1 k) (h18 : M1.1 18 0 = 0) (h21 : M1.1 21 0 = nI n1) (h44 : M1.2 44 = M.2 44)
    (ht : ∀ t, t < n1 → tOK (mC M1) t ∧ X1.1 76 t = nI (st (mC M1) t 3) ∧ (∀ j, j < 3 → X1.1 (82 + 4 * t) j = mC M1 20 (4 * t + (j + 1))) ∧ ∀ i, i < st (mC M1) t 3 → X1.1 (81 + 4 * t) i = enc (cd (mC M1) t i)) : Rl X1 M1 := by
  have hb : ∀ k, k ≠ 18 → k ≠ 19 → k ≠ 20 → k ≠ 21 → mC M1 k = mC M k := fun k h1 h2 h3 h4 => mC_eq fun hk => hm k hk h1 h2 h3 h4
  have k : ∀ j, j ≠ 0 → j ≠ 2 → j < 76 → xcore j = true → X1.1 j = X.1 j := fun j h1 h2 h3 h4 => hx j h1 h2 (fun t => ⟨by omega, by omega⟩) (by omega) h4
  have kr : ∀ r, X1.1 (80 + 4 * r) = X.1 (80 + 4 * r) := fun r => hx _ (by omega) (by omega) (fun t => ⟨by omega, by omega⟩) (by omega) (xcore_row r)
  have b18 : mC M1 18 0 = 0 := h18
  have b21 : mC M1 21 0 = nI n1 := h21
  have etp : tp (mC M1) = 0 := by unfold tp; rw [b18]; rfl
  have ent : nt (mC M1) = n1 := by unfold nt; rw [b21, sm_clamp (by omega)]
  unfold Rl at h ⊢
  generalize mC M1 = a1 at hb b18 b21 etp ent ht ⊢
  obtain ⟨h1, h2, h3, h4, h5⟩ := h
  generalize mC M = a at h1 h2 h3 h4 hb hn1
  have b : ∀ k, (k < 18 ∨ 21 < k) → a1 k = a k := fun k hk => hb k (by omega) (by omega) (by omega) (by omega)
  have e3 : nr a1 = nr a := nr_cg (b 3 (by omega))
  have e10 : np a1 = np a := np_cg (b 10 (by omega))
  have e14 : nk a1 = nk a := nk_cg (b 14 (by omega))
  have e5 : ∀ r, ns a1 r = ns a r := fun r => by unfold ns; rw [b 5 (by omega)]
  have e22 : rl a1 = rl a := by unfold rl; rw [b 22 (by omega)]
  have e26 : imr a1 = imr a := by unfold imr; rw [b 26 (by omega)]
  have e27 : imk a1 = imk a := by unfold imk; rw [b 27 (by omega)]
  have e28 : iml a1 = iml a := by unfold iml; rw [b 28 (by omega)]
  have e38 : ∀ s, ss a1 s = ss a s := fun s => by unfold ss; rw [b 38 (by omega)]
  refine ⟨?_, ?_, ?_, ?_, h44.trans h5⟩
  · obtain ⟨g1, g2, g3, g4, g5, g6, g7, g8⟩ := h1
    refine ⟨?_, ?_, ?_, ?_, ?_, ?_, ?_, ?_⟩
    · unfold RS_n at g1 ⊢
      rw [k 16 (by omega) (by omega) (by omega) rfl, k 17 (by omega) (by omega) (by omega) rfl, k 18 (by omega) (by omega) (by omega) rfl, hxr, e3, b 3 (by omega), b 10 (by omega), b 14 (by omega)]
      exact g1
    · unfold RS_k at g2 ⊢
      rw [k 8 (by omega) (by omega) (by omega) rfl, k 9 (by omega) (by omega) (by omega) rfl, k 10 (by omega) (by omega) (by omega) rfl, b 0 (by omega), b 1 (by omega), b 2 (by omega)]
      exact g2
    · unfold RS_r at g3 ⊢
      rw [k 54 (by omega) (by omega) (by omega) rfl, k 55 (by omega) (by omega) (by omega) rfl, k 56 (by omega) (by omega) (by omega) rfl, k 57 (by omega) (by omega) (by omega) rfl, k 58 (by omega) (by omega) (by omega) rfl, k 59 (by omega) (by omega) (by omega) rfl, k 60 (by omega) (by omega) (by omega) rfl, k 61 (by omega) (by omega) (by omega) rfl, k 62 (by omega) (by omega) (by omega) rfl, k 63 (by omega) (by omega) (by omega) rfl, e3, b 4 (by omega), b 5 (by omega), b 6 (by omega), b 7 (by omega), b 8 (by omega)]
      exact g3
    · exact g4.cg (by rw [k 20 (by omega) (by omega) (by omega) rfl]) kr (b 9 (by omega)) e3
    · unfold RS_p at g5 ⊢
      rw [k 11 (by omega) (by omega) (by omega) rfl, k 12 (by omega) (by omega) (by omega) rfl, k 13 (by omega) (by omega) (by omega) rfl, k 21 (by omega) (by omega) (by omega) rfl, e10, b 11 (by omega), b 12 (by omega), b 13 (by omega)]
      exact g5
    · unfold RS_o at g6 ⊢
      rw [k 14 (by omega) (by omega) (by omega) rfl, k 15 (by omega) (by omega) (by omega) rfl, e14, b 15 (by omega), b 16 (by omega)]
      exact g6
    · unfold RS_h at g7 ⊢
      rw [k 24 (by omega) (by omega) (by omega) rfl, k 22 (by omega) (by omega) (by omega) rfl, k 23 (by omega) (by omega) (by omega) rfl, e3, b 23 (by omega), b 24 (by omega)]
      exact g7
    · refine ⟨hx0.trans b21.symm, ?_, ?_, hxt.trans ent.symm, fun u hu => (ht u (by rw [← ent]; exact hu)).2⟩
      · rw [k 1 (by omega) (by omega) (by omega) rfl, b 22 (by omega)]; exact g8.2.1
      · rw [k 19 (by omega) (by omega) (by omega) rfl, b 22 (by omega)]; exact g8.2.2.1
  · obtain ⟨g1, g2, g3, g4⟩ := h2
    refine ⟨?_, ⟨hx2.trans b18.symm, fun i hi => ?_⟩, ?_, fun s hs => ?_⟩
    · unfold RZ at g1 ⊢
      rw [k 20 (by omega) (by omega) (by omega) rfl, k 21 (by omega) (by omega) (by omega) rfl, k 24 (by omega) (by omega) (by omega) rfl]
      exact g1
    · rw [etp] at hi
      exact absurd hi (by omega)
    · unfold RT_img at g3 ⊢
      rw [k 26 (by omega) (by omega) (by omega) rfl, k 27 (by omega) (by omega) (by omega) rfl, k 28 (by omega) (by omega) (by omega) rfl, k 29 (by omega) (by omega) (by omega) rfl, k 30 (by omega) (by omega) (by omega) rfl, k 31 (by omega) (by omega) (by omega) rfl, k 32 (by omega) (by omega) (by omega) rfl, k 33 (by omega) (by omega) (by omega) rfl, k 34 (by omega) (by omega) (by omega) rfl, k 35 (by omega) (by omega) (by omega) rfl, k 36 (by omega) (by omega) (by omega) rfl, k 37 (by omega) (by omega) (by omega) rfl, e26, e27, b 25 (by omega), b 26 (by omega), b 27 (by omega), b 28 (by omega), b 29 (by omega), b 30 (by omega), b 31 (by omega), b 32 (by omega), b 33 (by omega), b 34 (by omega), b 35 (by omega), b 36 (by omega)]
      exact g3
    · have e : X1.1 (70 + s) = X.1 (70 + s) := by
        have : s = 0 ∨ s = 1 ∨ s = 2 ∨ s = 3 := by omega
        rcases this with rfl | rfl | rfl | rfl
        · exact k 70 (by omega) (by omega) (by omega) rfl
        · exact k 71 (by omega) (by omega) (by omega) rfl
        · exact k 72 (by omega) (by omega) (by omega) rfl
        · exact k 73 (by omega) (by omega) (by omega) rfl
      rw [k 4 (by omega) (by omega) (by omega) rfl, k 5 (by omega) (by omega) (by omega) rfl, e, e38, b 37 (by omega), b 38 (by omega), b 39 (by omega)]
      exact g4 s hs
  · obtain ⟨g1, g2, g3, g4, g5, g6, g7, g8⟩ := h3
    refine ⟨?_, ?_, fun r hr => ?_, ?_, ?_, ?_, ?_, ⟨b21.trans (by rw [ent]), ?_, ?_, ?_, ?_, fun u hu => (ht u (by rw [← ent]; exact hu)).1⟩⟩
    · unfold IS_n at g1 ⊢
      rw [e3, e10, e14, b 3 (by omega), b 10 (by omega), b 14 (by omega)]
      exact g1
    · unfold IS_k at g2 ⊢
      rw [b 0 (by omega), b 1 (by omega), b 2 (by omega)]
      exact g2
    · rw [b 4 (by omega), b 5 (by omega), b 6 (by omega), b 7 (by omega), b 8 (by omega), e5]
      exact g3 r (by rw [← e3]; exact hr)
    · unfold IS_s at g4 ⊢
      rw [e3, b 9 (by omega)]
      exact g4
    · unfold IS_p at g5 ⊢
      rw [e10, b 11 (by omega), b 12 (by omega), b 13 (by omega)]
      exact g5
    · unfold IS_o at g6 ⊢
      rw [e14, b 15 (by omega), b 16 (by omega)]
      exact g6
    · unfold IS_h at g7 ⊢
      rw [b 23 (by omega), b 24 (by omega)]
      exact g7
    · have := g8.2.1
      omega
    · omega
    · rw [b 22 (by omega), e22]; exact g8.2.2.2.1
    · have := g8.2.2.2.2.1
      omega
  · obtain ⟨g1, g2, g3, g4, g5, g6, g7⟩ := h4
    refine ⟨fun r hr => ?_, fun p hp => ?_, ?_, ⟨?_, ?_, fun i hi => ?_⟩, fun hi => ?_, g6.cg (b 37 (by omega)) (b 38 (by omega)), fun r hr h6 => ?_⟩
    · rw [b 7 (by omega)]; exact g1 r (by rw [← e3]; exact hr)
    · rw [b 12 (by omega)]; exact g2 p (by rw [← e10]; exact hp)
    · rw [b 23 (by omega)]; exact g3
    · rw [b18, etp]; rfl
    · rw [etp]; omega
    · rw [etp] at hi; exact absurd hi (by omega)
    · rw [b 25 (by omega)] at hi
      have g := g5 hi
      rw [e3, e14, e26, e27, e28, ent, b 26 (by omega), b 27 (by omega), b 28 (by omega), b 29 (by omega), b 30 (by omega), b 31 (by omega), b 32 (by omega), b 33 (by omega), b 34 (by omega), b 35 (by omega), b 36 (by omega)]
      exact ⟨g.1, g.2.1, g.2.2.1, g.2.2.2.1, g.2.2.2.2.1, Nat.lt_of_lt_of_le g.2.2.2.2.2.1 hn1, g.2.2.2.2.2.2⟩
    · rw [e3] at hr
      rw [b 7 (by omega), b 8 (by omega), b 9 (by omega)]
      exact g7 r hr h6
end PTXT
