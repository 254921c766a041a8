section PTOK5
variable {N : Nat} {b : Nat → Nat} {sz : Nat}
/-- a kind as the class writes it -/
def kX (k v : Nat) : Int32 := if k = 0 then 0 else if k = 1 then 1 else if k = 2 then 2 else if k = 3 then nI (7 + v) else if k = 4 then 3 else if k = 5 then 4 else if k = 6 then 5 else if k = 99 then 10 else nI k
/-- the class stands after the token that begins at s -/
def XA (b : Nat → Nat) (sz s : Nat) (X : xS) : Prop := X.1 41 0 = nI (tE b sz s) ∧ X.1 42 0 = nI s ∧ X.1 43 0 = kX (tK b sz s) (tV b sz s) ∧ (1 ≤ tK b sz s → tK b sz s ≤ 2 → X.1 44 0 = nI (tV b sz s))
def xW1 (w : Nat) : Nat := if 3 ≤ w ∧ w ≤ 8 then w - 3 else 6
def xW2 (w : Nat) : Int32 := if 3 ≤ w ∧ w ≤ 8 then 2 else if w = 0 then 7 else if w = 1 then 8 else if w = 2 then 9 else if w = 9 then 3 else if w = 10 then 4 else if w = 11 then 5 else 10
theorem bt {α : Type} (x y : α) : (if (true : Bool) = true then x else y) = x := rfl
theorem bf {α : Type} (x y : α) : (if (false : Bool) = true then x else y) = y := rfl
theorem px_readWord {s e w : Nat} {X : xS} (hN : 2000 ≤ N) (h : XT b sz X) (h41 : X.1 41 0 = nI s) (h42 : X.1 42 0 = nI s) (hs : s ≤ sz) (he : e = lRun pLe b (sz - s) s) (hw : w = wIdx (rr b s (e - s))) : ∃ X1, xf_R_readWord N X = some X1 ∧ xU [41, 43, 44] X X1 ∧ X1.1 41 0 = nI e ∧ X1.1 44 0 = nI (xW1 w) ∧ X1.1 43 0 = xW2 w := by
  have h160 := h.2.1
  have hle := lRun_le (p := pLe) (b := b) (sz - s) s
  obtain ⟨S4, a1, a2, a3⟩ := px_letL (N := N) (sz - s) s X N h h41 (by omega) (by omega)
  rw [← he] at a3 hle
  have e42 : S4.1 42 0 = nI s := (congrFun (a2.1 42 (by decide)) 0).trans h42
  have hT4 := h.frame a2 (by decide) (by decide) (by decide)
  have hw12 : w ≤ 12 := by rw [hw]; exact wIdx_le _
  have iw : ∀ k, k < 13 → 1 ≤ k → xf_R_isWord N S4 k = some (decide (w = wx k)) := fun k hk h1 => by
    rw [hw]; exact px_isWord hN hk h1 hT4 a3 e42 (by omega) (by omega)
  have iw2 : ∀ v : Int32, ∀ k, k < 13 → 1 ≤ k → xf_R_isWord N (xs S4 44 0 v) k = some (decide (w = wx k)) := fun v k hk h1 => by
    rw [hw]
    refine px_isWord hN hk h1 (hT4.frame (l := [44]) ((xU.refl _ _).xs (by decide)) (by decide) (by decide) (by decide)) ?_ ?_ (by omega) (by omega)
    · rw [xs_ne (by decide)]; exact a3
    · rw [xs_ne (by decide)]; exact e42
  have fin : ∀ (v : Int32) (u : Int32), v = nI (xW1 w) → u = xW2 w → ∃ X1, some (xs (xs S4 44 0 v) 43 0 u) = some X1 ∧ xU [41, 43, 44] X X1 ∧ X1.1 41 0 = nI e ∧ X1.1 44 0 = nI (xW1 w) ∧ X1.1 43 0 = xW2 w := fun v u hv hu => by
    refine ⟨_, rfl, ((a2.mono (by decide)).xs (by decide)).xs (by decide), ?_, ?_, ?_⟩
    · rw [xs_ne (by decide), xs_ne (by decide)]; exact a3
    · rw [xs_ne (by decide)]; exact hv
    · exact hu
  have e44 : ∀ v : Int32, (xs S4 44 0 v).1 44 0 = v := fun v => rfl
  unfold xf_R_readWord
  rw [a1, bs1]
  simp only [iw 1 (by decide) (by decide), iw 2 (by decide) (by decide), iw 3 (by decide) (by decide), iw 4 (by decide) (by decide), iw 5 (by decide) (by decide), iw 6 (by decide) (by decide), iw2 _ 7 (by decide) (by decide), iw2 _ 8 (by decide) (by decide), iw2 _ 9 (by decide) (by decide), iw2 _ 10 (by decide) (by decide), iw2 _ 11 (by decide) (by decide), iw2 _ 12 (by decide) (by decide), bs1, e44]
  clear iw iw2 hw
  match w, hw12, fin with
  | 0, _, fin => exact fin 6 7 rfl rfl
  | 1, _, fin => exact fin 6 8 rfl rfl
  | 2, _, fin => exact fin 6 9 rfl rfl
  | 3, _, fin => exact fin 0 2 rfl rfl
  | 4, _, fin => exact fin 1 2 rfl rfl
  | 5, _, fin => exact fin 2 2 rfl rfl
  | 6, _, fin => exact fin 3 2 rfl rfl
  | 7, _, fin => exact fin 4 2 rfl rfl
  | 8, _, fin => exact fin 5 2 rfl rfl
  | 9, _, fin => exact fin 6 3 rfl rfl
  | 10, _, fin => exact fin 6 4 rfl rfl
  | 11, _, fin => exact fin 6 5 rfl rfl
  | 12, _, fin => exact fin 6 10 rfl rfl
theorem px_adv {i : Nat} {X : xS} (hN : 2000 ≤ N) (h : XT b sz X) (h38 : X.1 38 0 = -1) (hi : X.1 41 0 = nI i) (hle : i ≤ sz) : ∃ X1, xf_R_advance N X = some X1 ∧ xU [41, 42, 43, 44] X X1 ∧ XA b sz (tB b sz i) X1 := by
  have h160 := h.2.1
  obtain ⟨S4, a1, a2, a3⟩ := px_skip (N := N) (sz - i) i X N h hi (by omega) (by omega)
  have hs := tB_le (b := b) hle
  have a3 : S4.1 41 0 = nI (tB b sz i) := a3
  generalize hse : tB b sz i = s at *
  unfold xf_R_advance
  rw [if_pos h38, a1, bs1]
  have e41 : (xs S4 42 0 (S4.1 41 0)).1 41 0 = nI s := (congrFun (xs_ne (by decide)) 0).trans a3
  have e42 : (xs S4 42 0 (S4.1 41 0)).1 42 0 = nI s := a3
  have hU : xU [41, 42, 43, 44] X (xs S4 42 0 (S4.1 41 0)) := (a2.mono (by decide)).xs (by decide)
  have hT := h.frame hU (by decide) (by decide) (by decide)
  generalize hX3 : xs S4 42 0 (S4.1 41 0) = X3 at *
  rw [e41, hT.1]
  by_cases hz : s = sz
  · have k1 : tE b sz s = s := by unfold tE; rw [if_pos hz]
    have k2 : tK b sz s = 0 := by unfold tK; rw [if_pos hz]
    rw [if_pos (show nI sz ≤ nI s from sm_len (by omega) (by omega)), bs1, if_neg (show ¬ nI s < nI sz from fun hh => absurd ((sm_lt (by omega) (by omega)).mp hh) (by omega))]
    refine ⟨_, rfl, hU.xs (by decide), ?_⟩
    unfold XA
    rw [k1, k2]
    refine ⟨?_, ?_, rfl, fun hh => absurd hh (by omega)⟩
    · rw [xs_ne (by decide)]; exact e41
    · rw [xs_ne (by decide)]; exact e42
  · have hb := hT.2.2.1 s (by omega)
    have hc := cB_all (b s) hb.2
    rw [if_neg (show ¬ nI sz ≤ nI s from sm_nle (by omega) (by omega)), if_neg hT.2.2.2, if_pos (sm_ok (by omega) (by omega)), bs1, sm_clamp (by omega), hb.1, if_pos (show nI s < nI sz from (sm_lt (by omega) (by omega)).mpr (by omega)), hc.1, hc.2.1, hc.2.2.1]
    unfold XA tE tK tV
    rw [if_neg hz, if_neg hz]
    cases hl : pLe (b s) with
    | true =>
      rw [if_pos rfl]
      simp only [cond_true]
      obtain ⟨X5, c1, c2, c3, c4, c5⟩ := px_readWord (N := N) (w := tW b sz s) hN hT e41 e42 (by omega) rfl rfl
      rw [c1, bs1]
      have hw12 : tW b sz s ≤ 12 := wIdx_le _
      refine ⟨X5, rfl, hU.trans (c2.mono (by decide)), c3, (congrFun (c2.1 42 (by decide)) 0).trans e42, ?_, ?_⟩
      · rw [c5]
        generalize tW b sz s = w at hw12 ⊢
        revert w
        decide
      · rw [c4]
        generalize tW b sz s = w at hw12 ⊢
        revert w
        decide
    | false =>
      rw [if_neg (by decide)]
      simp only [cond_false]
      cases hd : pDi (b s) with
      | true =>
        rw [if_pos rfl]
        simp only [cond_true]
        obtain ⟨w, X5, c1, c2, c3, c4⟩ := px_digL (N := N) (b := b) (s := s) (sz - s) 0 X3 0 N hT e41 e42 (by omega) (fun j hj => absurd hj (by omega)) (fun _ => rfl) (by omega)
        rw [show s + 0 = s from rfl] at c3 c4
        have hle4 := lRun_le (p := pDi) (b := b) (sz - s) s
        have e42' : X5.1 42 0 = nI s := (congrFun (c2.1 42 (by decide)) 0).trans e42
        unfold xf_R_readNumber
        rw [c1, bs2, bs1, c3, e42', nI_subn (by omega) (by omega)]
        refine ⟨_, rfl, ((hU.trans (c2.mono (by decide))).xs (by decide)).xs (by decide), ?_, ?_, ?_, ?_⟩
        · rw [xs_ne (by decide), xs_ne (by decide)]; exact c3
        · rw [xs_ne (by decide), xs_ne (by decide)]; exact e42'
        · rw [xs_ne (by decide)]
          by_cases h4 : lRun pDi b (sz - s) s - s ≤ 4
          · show (if (4 : Int32) < nI (lRun pDi b (sz - s) s - s) then (10 : Int32) else 1) = _
            rw [if_pos h4, if_neg (show ¬ (4 : Int32) < nI (lRun pDi b (sz - s) s - s) from fun hh => absurd ((sm_lt (n := 4) (by omega) (by omega)).mp hh) (by omega))]
            rfl
          · show (if (4 : Int32) < nI (lRun pDi b (sz - s) s - s) then (10 : Int32) else 1) = _
            rw [if_neg h4, if_pos (show (4 : Int32) < nI (lRun pDi b (sz - s) s - s) from (sm_lt (n := 4) (by omega) (by omega)).mpr (by omega))]
            rfl
        · intro h1 h2
          by_cases h4 : lRun pDi b (sz - s) s - s ≤ 4
          · exact c4 h4
          · rw [if_neg h4] at h2
            exact absurd h2 (by omega)
      | false =>
        rw [if_neg (by decide)]
        simp only [cond_false]
        have hs1 : nI s + 1 = nI (s + 1) := nI_add s 1
        rw [hs1]
        have hsi : pSi (b s) = true → b s < 128 ∧ 40 ≤ b s ∧ b s ≠ 99 := fun hp => by
          unfold pSi at hp
          simp only [Bool.or_eq_true, decide_eq_true_eq] at hp
          omega
        cases hp : pSi (b s) with
        | true =>
          have h128 := hsi hp
          rw [if_pos rfl, hc.2.2.2.2.2.1 h128.1]
          refine ⟨_, rfl, (hU.xs (by decide)).xs (by decide), ?_, ?_, ?_, ?_⟩
          · rw [xs_ne (by decide)]; rfl
          · rw [xs_ne (by decide), xs_ne (by decide)]; exact e42
          · show nI (b s) = kX (b s) _
            unfold kX
            rw [if_neg (by omega), if_neg (by omega), if_neg (by omega), if_neg (by omega), if_neg (by omega), if_neg (by omega), if_neg (by omega), if_neg (by omega)]
          · intro h1 h2
            exact absurd (show b s ≤ 2 from h2) (by omega)
        | false =>
          rw [if_neg (by decide)]
          refine ⟨_, rfl, (hU.xs (by decide)).xs (by decide), ?_, ?_, rfl, ?_⟩
          · rw [xs_ne (by decide)]; rfl
          · rw [xs_ne (by decide), xs_ne (by decide)]; exact e42
          · intro h1 h2
            exact absurd (show 99 ≤ 2 from h2) (by omega)
end PTOK5
