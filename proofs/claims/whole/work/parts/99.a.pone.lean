section PONE
variable {n0 N : Nat} {b : Nat → Nat} {sz : Nat}
def n19 (m : Nat) : List Nat := List.replicate m 19
theorem n19_cons (m : Nat) (H : List Nat) : 19 :: (n19 m ++ H) = n19 (m + 1) ++ H := by
  unfold n19
  rw [List.replicate_succ]; rfl
theorem n19_out (m : Nat) (O : List Nat) : n19 (m + 1) ++ O = n19 m ++ 19 :: O := by
  unfold n19
  rw [List.replicate_succ', List.append_assoc]; rfl
theorem n19_flush {H : List Nat} (h : tLt 7 H) (m : Nat) (O : List Nat) : aU 7 (n19 m ++ H) O = (H, n19 m ++ O) := by
  rw [aU_flush h (n19 m) O (fun x hx => by rw [List.eq_of_mem_replicate hx]; exact (by decide))]
  unfold n19
  rw [List.reverse_replicate]
theorem n19_cO (m : Nat) (H : List Nat) : cO (n19 m ++ H) = m + cO H := by
  induction m with
  | zero => exact (Nat.zero_add _).symm
  | succ m ih =>
    rw [← n19_cons]
    have e : cO (19 :: (n19 m ++ H)) = 1 + cO (n19 m ++ H) := rfl
    rw [e, ih]
    omega
def oG (n0 : Nat) (b : Nat → Nat) (sz : Nat) (r : Option xS) (X : xS) (c : aC) (m : Nat) (H : List Nat) (o d : Nat) : Prop := ∃ X1 i1 may1 O1, r = some X1 ∧ xU XL X X1 ∧ aTo b sz c (i1, H, n19 m ++ O1, false, may1) ∧ XE b sz (tB b sz i1) O1 o X1 ∧ dR n0 O1 = some (d + 1)
def xO (n0 N : Nat) (b : Nat → Nat) (sz D : Nat) : Prop := ∀ i o d m H O may X, i ≤ sz → XE b sz (tB b sz i) O o X → o = cO (n19 m ++ H) → o ≤ 5 → dR n0 O = some d → d ≤ 5 * o + 5 → 7 * (5 - o) + 7 ≤ D + 6 → (may = false ∨ tK b sz (tB b sz i) ≠ 6) → (n19 m ++ H).length + O.length ≤ i → tLt 7 H → tF b sz (xr_all N D 6 X) X (i, n19 m ++ H, O, true, may) ∨ oG n0 b sz (xr_all N D 6 X) X (i, n19 m ++ H, O, true, may) m H o d
theorem tV2 {s : Nat} : tK b sz s = 2 → tV b sz s ≤ 5 := by
  unfold tK tV
  by_cases hz : s = sz
  · rw [if_pos hz]
    intro h
    exact absurd h (by decide)
  · rw [if_neg hz]
    cases hl : pLe (b s) with
    | true =>
      simp only [cond_true]
      by_cases h3 : 3 ≤ tW b sz s
      · rw [if_pos h3, if_pos h3]
        by_cases h9 : 9 ≤ tW b sz s
        · rw [if_pos h9]
          by_cases h12 : tW b sz s = 12
          · rw [if_pos h12]
            intro h
            exact absurd h (by decide)
          · rw [if_neg h12]
            intro h
            omega
        · intro _
          omega
      · rw [if_neg h3]
        intro h
        exact absurd h (by decide)
    | false =>
      simp only [cond_false]
      cases pDi (b s) with
      | true =>
        simp only [cond_true]
        intro h
        split at h
        · exact absurd h (by decide)
        · exact absurd h (by decide)
      | false =>
        simp only [cond_false]
        cases hp : pSi (b s) with
        | true =>
          unfold pSi at hp
          simp only [Bool.or_eq_true, decide_eq_true_eq] at hp
          simp only [cond_true]
          intro h
          omega
        | false =>
          intro h
          exact absurd (show (99 : Nat) = 2 from h) (by decide)
theorem tV1 {s : Nat} : tK b sz s = 1 → tV b sz s < 10000 := by
  unfold tK tV
  by_cases hz : s = sz
  · rw [if_pos hz]
    intro h
    exact absurd h (by decide)
  · rw [if_neg hz]
    cases hl : pLe (b s) with
    | true =>
      simp only [cond_true]
      intro h
      exfalso
      split at h
      · split at h
        · split at h <;> omega
        · omega
      · omega
    | false =>
      simp only [cond_false]
      cases hd : pDi (b s) with
      | true =>
        simp only [cond_true]
        by_cases h4 : lRun pDi b (sz - s) s - s ≤ 4
        · intro _
          have h1 := nv_lt (b := b) (s := s) (lRun pDi b (sz - s) s - s) (fun j hj => lRun_in (sz - s) s (s + j) (by omega) (by omega))
          have h2 : (10 : Nat) ^ (lRun pDi b (sz - s) s - s) ≤ 10 ^ 4 := Nat.pow_le_pow_right (by omega) h4
          omega
        · rw [if_neg h4]
          intro h
          exact absurd h (by decide)
      | false =>
        simp only [cond_false]
        cases hp : pSi (b s) with
        | true =>
          unfold pSi at hp
          simp only [Bool.or_eq_true, decide_eq_true_eq] at hp
          simp only [cond_true]
          intro h
          omega
        | false =>
          intro h
          exact absurd (show (99 : Nat) = 1 from h) (by decide)
theorem enc_num {v : Nat} (hv : v < 10000) : (((1 : Int32) <<< (14 &&& 31)) ||| nI v) = enc (nI (100000 + v)) := by
  have h1 : (100000 : Int32) ≤ nI (100000 + v) := sm_len (n := 100000) (by omega) (by omega)
  unfold enc encW encA
  rw [if_pos h1, if_pos h1, show (100000 : Int32) = nI 100000 from rfl, nI_subn (by omega) (by omega), show 100000 + v - 100000 = v by omega]
theorem enc_name {v : Nat} (hv : v ≤ 5) : (((2 : Int32) <<< (14 &&& 31)) ||| nI v) = enc (nI v) := by
  have h1 : ¬ (100000 : Int32) ≤ nI v := sm_nle (n := 100000) (by omega) (by omega)
  have h2 : ¬ (11 : Int32) ≤ nI v := sm_nle (n := 11) (by omega) (by omega)
  unfold enc encW encA
  rw [if_neg h1, if_neg h1, if_neg h2, if_neg h2]
theorem aStep_end {K v : Nat} {W O : List Nat} {may : Bool} (hq : q0 K W) (h41 : K ≠ 41) (h59 : K = 59 → (aU 1 W O).1 ≠ []) : ∃ H1 O1, aStep K v W O false may = .inl (false, H1, O1) := by
  rw [aStep]
  by_cases h5 : K = 59
  · rw [if_pos h5, decide_eq_false (h59 h5)]
    exact ⟨_, _, rfl⟩
  rw [if_neg h5, if_neg h41]
  by_cases h99 : sg K = 99
  · rw [if_pos h99]
    exact ⟨_, _, rfl⟩
  rw [if_neg h99]
  obtain ⟨⟨⟨⟨n42, n43, n45⟩, hh⟩, n5⟩, n4⟩ := hq
  have hk : K = 60 ∨ K = 61 := by
    by_cases e0 : K = 60
    · exact .inl e0
    by_cases e1 : K = 61
    · exact .inr e1
    exfalso
    apply h99
    unfold sg
    rw [if_neg n4, if_neg n5, if_neg e0, if_neg e1, if_neg n43, if_neg n45, if_neg n42]
  obtain ⟨_, hlv, hrk, _⟩ := cmp_k K hk
  have h4 : hd4 (aU 5 W O).1 = true := by
    rw [aU_fst W O []]
    exact hh hk
  rw [hlv, h4, decide_eq_true hrk, if_pos (show (true && true) = true from rfl)]
  exact ⟨_, _, rfl⟩
end PONE
