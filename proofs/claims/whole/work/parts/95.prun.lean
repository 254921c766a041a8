section PRUN
/-! the reference's loop as a run of configurations: position, held, out, wants, may -/
variable {b : Nat → Nat} {sz : Nat}
abbrev aC : Type := Nat × List Nat × List Nat × Bool × Bool
def aNext (b : Nat → Nat) (sz : Nat) (c : aC) : (Bool × Nat × List Nat × List Nat) ⊕ aC := match aStep (tK b sz (tB b sz c.1)) (tV b sz (tB b sz c.1)) c.2.1 c.2.2.1 c.2.2.2.1 c.2.2.2.2 with
  | .inl q => .inl (q.1, tB b sz c.1, q.2.1, q.2.2)
  | .inr q => .inr (tE b sz (tB b sz c.1), q)
def aRun (b : Nat → Nat) (sz : Nat) : Nat → aC → (Bool × Nat × List Nat × List Nat) ⊕ aC
  | 0, c => .inr c
  | n + 1, c => match aNext b sz c with
    | .inl q => .inl q
    | .inr c1 => aRun b sz n c1
def aTo (b : Nat → Nat) (sz : Nat) (c c1 : aC) : Prop := ∃ n, aRun b sz n c = .inr c1
def aFail (b : Nat → Nat) (sz : Nat) (c : aC) (s : Nat) : Prop := ∃ n H O, aRun b sz n c = .inl (false, s, H, O)
theorem aTo.refl (c : aC) : aTo b sz c c := ⟨0, rfl⟩
theorem aRun_step {n : Nat} {c c1 : aC} (h : aNext b sz c = .inr c1) : aRun b sz (n + 1) c = aRun b sz n c1 := by
  rw [aRun, h]
theorem aRun_trans : ∀ (n m : Nat) (c c1 : aC), aRun b sz n c = .inr c1 → aRun b sz (n + m) c = aRun b sz m c1
  | 0, m, c, c1, h => by
    have e : c = c1 := Sum.inr.inj h
    rw [e, Nat.zero_add]
  | n + 1, m, c, c1, h => by
    rw [Nat.add_right_comm, aRun]
    rw [aRun] at h
    cases hn : aNext b sz c with
    | inl q => rw [hn] at h; exact nomatch h
    | inr c2 =>
      rw [hn] at h
      exact aRun_trans n m c2 c1 h
theorem aTo.trans {c c1 c2 : aC} (h : aTo b sz c c1) (h2 : aTo b sz c1 c2) : aTo b sz c c2 := by
  obtain ⟨n, hn⟩ := h
  obtain ⟨m, hm⟩ := h2
  exact ⟨n + m, (aRun_trans n m c c1 hn).trans hm⟩
theorem aTo.fail {c c1 : aC} {s : Nat} (h : aTo b sz c c1) (h2 : aFail b sz c1 s) : aFail b sz c s := by
  obtain ⟨n, hn⟩ := h
  obtain ⟨m, H, O, hm⟩ := h2
  exact ⟨n + m, H, O, (aRun_trans n m c c1 hn).trans hm⟩
theorem aTo.one {i s : Nat} {H O : List Nat} {w may : Bool} {q : List Nat × List Nat × Bool × Bool} (hs : s = tB b sz i) (h : aStep (tK b sz s) (tV b sz s) H O w may = .inr q) : aTo b sz (i, H, O, w, may) (tE b sz s, q) := by
  subst hs
  refine ⟨1, ?_⟩
  have hn : aNext b sz (i, H, O, w, may) = .inr (tE b sz (tB b sz i), q) := by
    unfold aNext
    dsimp only
    rw [h]
  rw [aRun_step hn]
  rfl
theorem aFail.one {i s : Nat} {H O H1 O1 : List Nat} {w may : Bool} (hs : s = tB b sz i) (h : aStep (tK b sz s) (tV b sz s) H O w may = .inl (false, H1, O1)) : aFail b sz (i, H, O, w, may) s := by
  subst hs
  refine ⟨1, H1, O1, ?_⟩
  have hn : aNext b sz (i, H, O, w, may) = .inl (false, tB b sz i, H1, O1) := by
    unfold aNext
    dsimp only
    rw [h]
  rw [aRun, hn]
theorem aStep_len {k v : Nat} {H O : List Nat} {w may : Bool} {q : List Nat × List Nat × Bool × Bool} (h : aStep k v H O w may = .inr q) : k ≠ 0 ∧ q.1.length + q.2.1.length ≤ H.length + O.length + 1 := by
  have hs0 : sg 0 = 99 := rfl
  cases w with
  | false =>
    rw [aStep] at h
    by_cases h59 : k = 59
    · rw [if_pos h59] at h; exact nomatch h
    rw [if_neg h59] at h
    by_cases h41 : k = 41
    · rw [if_pos h41] at h
      by_cases he : (aU 1 H O).1 = []
      · rw [if_pos he] at h; exact nomatch h
      · rw [if_neg he] at h
        have e := Sum.inr.inj h
        have h1 := aU_len (least := 7) (aU 1 H O).1.tail (aU 1 H O).2
        have h2 := aU_len (least := 1) H O
        have h3 : (aU 1 H O).1.tail.length ≤ (aU 1 H O).1.length := by rw [List.length_tail]; omega
        rw [← e]
        show k ≠ 0 ∧ (aU 7 (aU 1 H O).1.tail (aU 1 H O).2).1.length + (aU 7 (aU 1 H O).1.tail (aU 1 H O).2).2.length ≤ _
        omega
    rw [if_neg h41] at h
    by_cases h99 : sg k = 99
    · rw [if_pos h99] at h; exact nomatch h
    rw [if_neg h99] at h
    by_cases hc : (decide (rk (sg k) = 4) && hd4 (aU (lv (sg k)) H O).1) = true
    · rw [if_pos hc] at h; exact nomatch h
    rw [if_neg hc] at h
    have e := Sum.inr.inj h
    have h1 := aU_len (least := lv (sg k)) H O
    rw [← e]
    refine ⟨fun hk => h99 (by rw [hk]; rfl), ?_⟩
    show (sg k :: (aU (lv (sg k)) H O).1).length + (aU (lv (sg k)) H O).2.length ≤ _
    rw [List.length_cons]
    omega
  | true =>
    rw [aStep] at h
    have op : ∀ c : Nat, (Sum.inr ((aU 7 H (c :: O)).1, (aU 7 H (c :: O)).2, false, may) : (Bool × List Nat × List Nat) ⊕ (List Nat × List Nat × Bool × Bool)) = .inr q → q.1.length + q.2.1.length ≤ H.length + O.length + 1 := fun c h => by
      have e := Sum.inr.inj h
      have h1 := aU_len (least := 7) H (c :: O)
      rw [List.length_cons] at h1
      rw [← e]
      show (aU 7 H (c :: O)).1.length + (aU 7 H (c :: O)).2.length ≤ _
      omega
    have pu : ∀ (c : Nat) (m : Bool), (if cO H = 5 then .inl (false, H, O) else .inr (c :: H, O, true, m) : (Bool × List Nat × List Nat) ⊕ (List Nat × List Nat × Bool × Bool)) = .inr q → q.1.length + q.2.1.length ≤ H.length + O.length + 1 := fun c m h => by
      by_cases h5 : cO H = 5
      · rw [if_pos h5] at h; exact nomatch h
      · rw [if_neg h5] at h
        have e := Sum.inr.inj h
        rw [← e]
        show (c :: H).length + O.length ≤ _
        rw [List.length_cons]
        omega
    by_cases h1 : k = 1
    · rw [if_pos h1] at h; exact ⟨by omega, op _ h⟩
    rw [if_neg h1] at h
    by_cases h2 : k = 2
    · rw [if_pos h2] at h; exact ⟨by omega, op _ h⟩
    rw [if_neg h2] at h
    by_cases h6 : k = 6 ∧ may = true
    · rw [if_pos h6] at h; exact ⟨by omega, pu _ _ h⟩
    rw [if_neg h6] at h
    by_cases h45 : k = 45
    · rw [if_pos h45] at h; exact ⟨by omega, pu _ _ h⟩
    rw [if_neg h45] at h
    by_cases h40 : k = 40
    · rw [if_pos h40] at h; exact ⟨by omega, pu _ _ h⟩
    rw [if_neg h40] at h
    exact nomatch h
theorem tK_end (b : Nat → Nat) (sz : Nat) : tK b sz sz = 0 := if_pos rfl
theorem aRun_len : ∀ (n : Nat) (c c1 : aC), aRun b sz n c = .inr c1 → c.1 ≤ sz → c.2.1.length + c.2.2.1.length ≤ c.1 → c1.1 ≤ sz ∧ c1.2.1.length + c1.2.2.1.length ≤ c1.1 ∧ c.1 ≤ c1.1
  | 0, c, c1, h, h1, h2 => by
    have e : c = c1 := Sum.inr.inj h
    rw [← e]
    exact ⟨h1, h2, Nat.le_refl _⟩
  | n + 1, c, c1, h, h1, h2 => by
    rw [aRun] at h
    unfold aNext at h
    cases hs : aStep (tK b sz (tB b sz c.1)) (tV b sz (tB b sz c.1)) c.2.1 c.2.2.1 c.2.2.2.1 c.2.2.2.2 with
    | inl q => rw [hs] at h; exact nomatch h
    | inr q =>
      rw [hs] at h
      obtain ⟨k0, hl⟩ := aStep_len hs
      have hb := tB_le (b := b) h1
      have hne : tB b sz c.1 ≠ sz := fun e => k0 (by rw [e]; exact tK_end b sz)
      have he := tE_le (b := b) hb.2
      have := he.2.2 (by omega)
      have r := aRun_len n (tE b sz (tB b sz c.1), q) c1 h he.2.1 (by show q.1.length + q.2.1.length ≤ tE b sz (tB b sz c.1); omega)
      have r3 : tE b sz (tB b sz c.1) ≤ c1.1 := r.2.2
      exact ⟨r.1, r.2.1, by omega⟩
theorem aTo.len {i i1 : Nat} {H O H1 O1 : List Nat} {w may w1 may1 : Bool} (h : aTo b sz (i, H, O, w, may) (i1, H1, O1, w1, may1)) (hi : i ≤ sz) (hl : H.length + O.length ≤ i) : i1 ≤ sz ∧ H1.length + O1.length ≤ i1 ∧ i ≤ i1 := by
  obtain ⟨n, hn⟩ := h
  exact aRun_len n _ _ hn hi hl
/-! what the ranks do -/
def tLt (l : Nat) : List Nat → Prop
  | [] => True
  | x :: _ => rk x < l
theorem tLt.mono {l m : Nat} {H : List Nat} (h : tLt l H) (hm : l ≤ m) : tLt m H := by
  cases H with
  | nil => exact True.intro
  | cons x r => exact Nat.lt_of_lt_of_le h hm
theorem aU_stop {l : Nat} {H O : List Nat} (h : tLt l H) : aU l H O = (H, O) := by
  cases H with
  | nil => rfl
  | cons x r => exact if_pos h
theorem aU_flush {l : Nat} {H : List Nat} (h : tLt l H) : ∀ (P O : List Nat), (∀ x ∈ P, l ≤ rk x) → aU l (P ++ H) O = (H, P.reverse ++ O)
  | [], O, _ => aU_stop h
  | x :: r, O, hp => by
    rw [List.cons_append, aU, if_neg (Nat.not_lt.mpr (hp x (List.mem_cons_self ..))), aU_flush h r (x :: O) (fun y hy => hp y (List.mem_cons_of_mem _ hy)), List.reverse_cons, List.append_assoc]
    rfl
theorem aU_fst {l : Nat} : ∀ (H O O2 : List Nat), (aU l H O).1 = (aU l H O2).1
  | [], _, _ => rfl
  | x :: r, O, O2 => by
    rw [aU, aU]
    by_cases h : rk x < l
    · rw [if_pos h, if_pos h]
    · rw [if_neg h, if_neg h]
      exact aU_fst r _ _
theorem hd4_lt {H : List Nat} (h : tLt 4 H) : hd4 H = false := by
  cases H with
  | nil => rfl
  | cons x r => exact decide_eq_false (by have : rk x < 4 := h; omega)
/-! how deep the pile gets -/
def dR (n0 : Nat) : List Nat → Option Nat
  | [] => if n0 = 0 then some 0 else none
  | x :: r => if r.length + 1 = n0 then some 0 else match dR n0 r with
    | none => none
    | some d => dStep (nI x) d
theorem dR_len {n0 : Nat} : ∀ {r : List Nat} {d : Nat}, dR n0 r = some d → n0 ≤ r.length
  | [], d, h => by
    rw [dR] at h
    by_cases h0 : n0 = 0
    · rw [h0]; exact Nat.le_refl _
    · rw [if_neg h0] at h; exact nomatch h
  | x :: r, d, h => by
    rw [dR] at h
    rw [List.length_cons]
    by_cases h0 : r.length + 1 = n0
    · omega
    · rw [if_neg h0] at h
      cases hr : dR n0 r with
      | none => rw [hr] at h; exact nomatch h
      | some e =>
        have := dR_len hr
        omega
theorem dR_cons {n0 x d : Nat} {r : List Nat} (h : dR n0 r = some d) : dR n0 (x :: r) = dStep (nI x) d := by
  have := dR_len h
  rw [dR, if_neg (by omega), h]
theorem dR_base : ∀ l : List Nat, dR l.length l = some 0
  | [] => rfl
  | x :: r => if_pos rfl
theorem dS_val {x d : Nat} (hx : x ≤ 5 ∨ (100000 ≤ x ∧ x < 110000)) (hd : d < 32) : dStep (nI x) d = some (d + 1) := by
  unfold dStep
  rcases hx with hx | hx
  · rw [if_neg (show ¬ (100000 : Int32) ≤ nI x from sm_nle (n := 100000) (by omega) (by omega)), if_neg (show ¬ (11 : Int32) ≤ nI x from sm_nle (n := 11) (by omega) (by omega)), if_pos hd]
  · rw [if_pos (show (100000 : Int32) ≤ nI x from sm_len (n := 100000) (by omega) (by omega)), if_pos hd]
theorem dS_bin {x d : Nat} (hx : 11 ≤ x ∧ x ≤ 18 ∧ x ≠ 13) : dStep (nI x) (d + 2) = some (d + 1) := by
  unfold dStep
  rw [if_neg (show ¬ (100000 : Int32) ≤ nI x from sm_nle (n := 100000) (by omega) (by omega)), if_pos (show (11 : Int32) ≤ nI x from sm_len (n := 11) (by omega) (by omega)), if_neg (show ¬ nI x = (13 : Int32) from fun hh => hx.2.2 ((sm_eq (m := 13) (by omega) (by omega)).mp hh)), if_neg (show ¬ nI x = (19 : Int32) from fun hh => by have := (sm_eq (m := 19) (by omega) (by omega)).mp hh; omega), if_pos (by omega)]
  rfl
theorem dS_un {x d : Nat} (hx : x = 13 ∨ x = 19) : dStep (nI x) (d + 1) = some (d + 1) := by
  unfold dStep
  rcases hx with hx | hx
  · rw [hx, if_neg (show ¬ (100000 : Int32) ≤ nI 13 from by decide), if_pos (show (11 : Int32) ≤ nI 13 from by decide), if_pos (show nI 13 = (13 : Int32) from rfl), if_pos (by omega)]
  · rw [hx, if_neg (show ¬ (100000 : Int32) ≤ nI 19 from by decide), if_pos (show (11 : Int32) ≤ nI 19 from by decide), if_neg (show ¬ nI 19 = (13 : Int32) from by decide), if_pos (show nI 19 = (19 : Int32) from rfl), if_pos (by omega)]
end PRUN
