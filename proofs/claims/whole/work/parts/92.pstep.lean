section PSTEP
/-! one token of the reference's loop -/
variable {N : Nat} {b : Nat → Nat} {sz t : Nat}
def sg (k : Nat) : Nat := if k = 4 then 11 else if k = 5 then 12 else if k = 60 then 14 else if k = 61 then 15 else if k = 43 then 16 else if k = 45 then 17 else if k = 42 then 18 else 99
def hd4 : List Nat → Bool
  | [] => false
  | x :: _ => decide (rk x = 4)
def lv (x : Nat) : Nat := if rk x = 4 then 5 else rk x
def aStep (k v : Nat) (H O : List Nat) : Bool → Bool → (Bool × List Nat × List Nat) ⊕ (List Nat × List Nat × Bool × Bool)
  | false, may => if k = 59 then .inl (decide ((aU 1 H O).1 = []), (aU 1 H O).1, (aU 1 H O).2) else if k = 41 then (if (aU 1 H O).1 = [] then .inl (false, (aU 1 H O).1, (aU 1 H O).2) else .inr ((aU 7 (aU 1 H O).1.tail (aU 1 H O).2).1, (aU 7 (aU 1 H O).1.tail (aU 1 H O).2).2, false, may)) else if sg k = 99 then .inl (false, H, O) else if (decide (rk (sg k) = 4) && hd4 (aU (lv (sg k)) H O).1) = true then .inl (false, (aU (lv (sg k)) H O).1, (aU (lv (sg k)) H O).2) else .inr (sg k :: (aU (lv (sg k)) H O).1, (aU (lv (sg k)) H O).2, true, decide (sg k ≤ 12))
  | true, may => if k = 1 then .inr ((aU 7 H ((100000 + v) :: O)).1, (aU 7 H ((100000 + v) :: O)).2, false, may) else if k = 2 then .inr ((aU 7 H (v :: O)).1, (aU 7 H (v :: O)).2, false, may) else if k = 6 ∧ may = true then (if cO H = 5 then .inl (false, H, O) else .inr (13 :: H, O, true, may)) else if k = 45 then (if cO H = 5 then .inl (false, H, O) else .inr (19 :: H, O, true, false)) else if k = 40 then (if cO H = 5 then .inl (false, H, O) else .inr (0 :: H, O, true, true)) else .inl (false, H, O)
theorem tK_le (s : Nat) : tK b sz s ≤ 99 := by
  unfold tK
  by_cases hz : s = sz
  · rw [if_pos hz]
    omega
  · rw [if_neg hz]
    have hw : tW b sz s ≤ 12 := wIdx_le _
    cases pLe (b s) with
    | true =>
      simp only [cond_true]
      split
      · split
        · split <;> omega
        · omega
      · omega
    | false =>
      simp only [cond_false]
      cases pDi (b s) with
      | true =>
        simp only [cond_true]
        split <;> omega
      | false =>
        simp only [cond_false]
        cases hp : pSi (b s) with
        | true =>
          unfold pSi at hp
          simp only [Bool.or_eq_true, decide_eq_true_eq] at hp
          simp only [cond_true]
          omega
        | false => exact Nat.le_refl _
theorem kI_eq {k j : Nat} (hk : k ≤ 99) (hj : j < 99) : kI k = nI j ↔ k = j := by
  unfold kI
  by_cases h : k = 99
  · rw [if_pos h]
    refine ⟨fun e => ?_, fun e => absurd e (by omega)⟩
    exact absurd e.symm (nI_ne_m1 (by omega))
  · rw [if_neg h]
    exact sm_eq (by omega) (by omega)
def bI (w : Bool) : Int32 := bif w then 1 else 0
def MS (b : Nat → Nat) (sz t s : Nat) (H O : List Nat) (M : mS) : Prop := MH t H (cO H) O M ∧ M.1 40 0 = nI (tE b sz s) ∧ M.1 41 0 = nI s
def LL : List Nat := [19, 40, 41, 42, 43, 45, 46, 47, 48]
theorem md_open {x : Nat} {H O : List Nat} {M : mS} (hx : x = 0 ∨ x = 13 ∨ x = 19) (h : MH t H (cO H) O M) (hl : H.length < 200) (h5 : ¬ cO H = 5) : ∃ M1, mf_opensOne N M (nI x) = some (true, M1) ∧ MH t (x :: H) (cO (x :: H)) O M1 ∧ mV t [45, 46, 47] M M1 := by
  have hc := cO_le H
  have h' := h
  obtain ⟨h1, h2, h3, h4, h5', h6, h7⟩ := h
  have ec : cO (x :: H) = cO H + 1 := by
    rw [cO]
    rcases hx with e | e | e <;> rw [e] <;> exact Nat.add_comm 1 _
  unfold mf_opensOne
  rw [h4, if_neg (show ¬ nI (cO H) = (5 : Int32) from fun hh => h5 ((sm_eq (m := 5) (by omega) (by omega)).mp hh)), show nI (cO H) + 1 = nI (cO H + 1) from nI_add _ 1]
  have hU : mU [47] M (ms M 47 0 (nI (cO H + 1))) := (mU.refl _ _).ms (by decide)
  have hM : MH t H (cO H + 1) O (ms M 47 0 (nI (cO H + 1))) := by
    refine ⟨?_, ?_, ?_, rfl, ?_, ?_, h7⟩
    · rw [hU.1 21 (by decide)]; exact h1
    · rw [hU.1 46 (by decide)]; exact h2
    · rw [hU.1 45 (by decide)]; exact h3
    · rw [hU.1 48 (by decide)]; exact h5'
    · rw [hU.1 19 (by decide)]; exact h6
  obtain ⟨M1, p1, p2, p3⟩ := md_holds (N := N) (x := x) hM hl (by omega)
  rw [p1, bs1, ec]
  exact ⟨M1, rfl, p2, ((hU.v (by decide)).mono (by decide)).trans (p3.mono (by decide))⟩
theorem md_open5 {x : Int32} {H O : List Nat} {M : mS} (h : MH t H (cO H) O M) (h5 : cO H = 5) : mf_opensOne N M x = some (false, M) := by
  unfold mf_opensOne
  rw [h.2.2.2.1, h5]
  exact if_pos rfl
theorem lv_ok : ∀ x, x ≤ 18 → 11 ≤ x → x ≠ 13 → 1 ≤ lv x ∧ lv x ≤ 7 := by decide
theorem md_betw {x : Nat} {H O : List Nat} {M : mS} (hN : 2000 ≤ N) (ht : t < 6) (hx : 11 ≤ x ∧ x ≤ 18 ∧ x ≠ 13) (h : MH t H (cO H) O M) (hl : H.length + O.length < 199) : ∃ M1, mf_between N M (nI x) = some (!(decide (rk x = 4) && hd4 (aU (lv x) H O).1), M1) ∧ MH t (bif (decide (rk x = 4) && hd4 (aU (lv x) H O).1) then (aU (lv x) H O).1 else x :: (aU (lv x) H O).1) (cO (aU (lv x) H O).1) (aU (lv x) H O).2 M1 ∧ mV t [19, 45, 46, 47, 48] M M1 := by
  have hlv := lv_ok x hx.2.1 hx.1 hx.2.2
  obtain ⟨M2, a1, a2, a3⟩ := md_unw (N := N) hN hlv.1 hlv.2 ht h (by omega)
  have hlen := aU_len (least := lv x) H O
  have hrk := rk_le x (by omega)
  have e4 : (nI (rk x) = 4) ↔ rk x = 4 := sm_eq (m := 4) (by omega) (by omega)
  have elv : (if nI (rk x) = 4 then (5 : Int32) else nI (rk x)) = nI (lv x) := by
    unfold lv
    by_cases h4 : rk x = 4
    · rw [if_pos (e4.mpr h4), if_pos h4]; rfl
    · rw [if_neg (fun hh => h4 (e4.mp hh)), if_neg h4]
  unfold mf_between
  rw [rk_m x (by omega), elv, a1, bs1]
  generalize hA : aU (lv x) H O = A at *
  obtain ⟨H1, O1⟩ := A
  have a2 : MH t H1 (cO H1) O1 M2 := a2
  have hlen : H1.length + O1.length = H.length + O.length := hlen
  have hold : ∃ M1, (bd1 (mf_holds N M2 (nI x)) fun S4 => some (true, S4)) = some (true, M1) ∧ MH t (x :: H1) (cO H1) O1 M1 ∧ mV t [19, 45, 46, 47, 48] M M1 := by
    obtain ⟨M3, p1, p2, p3⟩ := md_holds (N := N) (x := x) a2 (by omega) (by omega)
    rw [p1, bs1]
    exact ⟨M3, rfl, p2, (a3.mono (by decide)).trans (p3.mono (by decide))⟩
  show ∃ M1, _ = some (!(decide (rk x = 4) && hd4 H1), M1) ∧ MH t (bif (decide (rk x = 4) && hd4 H1) then H1 else x :: H1) (cO H1) O1 M1 ∧ mV t [19, 45, 46, 47, 48] M M1
  by_cases h4 : rk x = 4
  · rw [if_pos (e4.mpr h4), decide_eq_true h4]
    cases H1 with
    | nil =>
      rw [a2.2.1, if_pos (show nI ([] : List Nat).length ≤ (0 : Int32) from sm_len (n := 0) (m := 0) (by omega) (by omega)), bm0_inr]
      exact hold
    | cons y r =>
      have hy19 : y ≤ 19 := a2.2.2.2.2.2.2 y (List.mem_cons_self ..)
      have hry := rk_le y hy19
      have hll : (y :: r).length = r.length + 1 := rfl
      have e46 : M2.1 46 0 = nI (r.length + 1) := a2.2.1
      have e45 : M2.1 45 r.length = nI y := a2.2.2.1.1
      rw [e46, if_neg (show ¬ nI (r.length + 1) ≤ (0 : Int32) from sm_nle (m := 0) (by omega) (by omega)), nI_pred, if_pos (sm_ok (by omega) (by omega)), sm_clamp (by omega), e45, rk_m y hy19]
      by_cases hy : rk y = 4
      · rw [if_pos (show nI (rk y) = (4 : Int32) from by rw [hy]; rfl), bm0_inl]
        have e : hd4 (y :: r) = true := decide_eq_true hy
        rw [e]
        exact ⟨M2, rfl, a2, a3.mono (by decide)⟩
      · rw [if_neg (show ¬ nI (rk y) = (4 : Int32) from fun hh => hy ((sm_eq (m := 4) (by omega) (by omega)).mp hh)), bm0_inr]
        have e : hd4 (y :: r) = false := decide_eq_false hy
        rw [e]
        exact hold
  · rw [if_neg (fun hh => h4 (e4.mp hh)), bm0_inr, decide_eq_false h4]
    exact hold
theorem sg_m {k : Nat} {M : mS} (hk : k ≤ 99) (h : M.1 42 0 = kI k) : mf_signOf M = kI (sg k) := by
  unfold mf_signOf sg
  rw [h]
  have e : ∀ j : Nat, j < 99 → (kI k = nI j ↔ k = j) := fun j hj => kI_eq hk hj
  by_cases h4 : k = 4
  · rw [if_pos (show kI k = (4 : Int32) from (e 4 (by omega)).mpr h4), if_pos h4]; rfl
  rw [if_neg (show ¬ kI k = (4 : Int32) from fun hh => h4 ((e 4 (by omega)).mp hh)), if_neg h4]
  by_cases h5 : k = 5
  · rw [if_pos (show kI k = (5 : Int32) from (e 5 (by omega)).mpr h5), if_pos h5]; rfl
  rw [if_neg (show ¬ kI k = (5 : Int32) from fun hh => h5 ((e 5 (by omega)).mp hh)), if_neg h5]
  by_cases h60 : k = 60
  · rw [if_pos (show kI k = (60 : Int32) from (e 60 (by omega)).mpr h60), if_pos h60]; rfl
  rw [if_neg (show ¬ kI k = (60 : Int32) from fun hh => h60 ((e 60 (by omega)).mp hh)), if_neg h60]
  by_cases h61 : k = 61
  · rw [if_pos (show kI k = (61 : Int32) from (e 61 (by omega)).mpr h61), if_pos h61]; rfl
  rw [if_neg (show ¬ kI k = (61 : Int32) from fun hh => h61 ((e 61 (by omega)).mp hh)), if_neg h61]
  by_cases h43 : k = 43
  · rw [if_pos (show kI k = (43 : Int32) from (e 43 (by omega)).mpr h43), if_pos h43]; rfl
  rw [if_neg (show ¬ kI k = (43 : Int32) from fun hh => h43 ((e 43 (by omega)).mp hh)), if_neg h43]
  by_cases h45 : k = 45
  · rw [if_pos (show kI k = (45 : Int32) from (e 45 (by omega)).mpr h45), if_pos h45]; rfl
  rw [if_neg (show ¬ kI k = (45 : Int32) from fun hh => h45 ((e 45 (by omega)).mp hh)), if_neg h45]
  by_cases h42 : k = 42
  · rw [if_pos (show kI k = (42 : Int32) from (e 42 (by omega)).mpr h42), if_pos h42]; rfl
  rw [if_neg (show ¬ kI k = (42 : Int32) from fun hh => h42 ((e 42 (by omega)).mp hh)), if_neg h42]
  rfl
theorem sg_ok (k : Nat) : sg k = 99 ∨ (11 ≤ sg k ∧ sg k ≤ 18 ∧ sg k ≠ 13) := by
  unfold sg
  repeat' split
  all_goals first | exact .inl rfl | exact .inr (by decide)
end PSTEP
