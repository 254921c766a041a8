section PEXP
variable {N : Nat} {b : Nat → Nat} {sz t : Nat}
/-- the reference follows its run -/
theorem md_run (hN : 2000 ≤ N) (ht : t < 6) : ∀ (n i : Nat) (H O : List Nat) (w may : Bool) (M : mS) (r : Bool) (s : Nat) (H1 O1 : List Nat), MT b sz M → M.1 40 0 = nI i → i ≤ sz → MH t H (cO H) O M → H.length + O.length ≤ i → aRun b sz n (i, H, O, w, may) = .inl (r, s, H1, O1) → ∀ f, sz - i < f → ∃ M1, mf_eRead_L14 N f M (bI w) (bI may) = some (.inl (r, M1)) ∧ MS b sz t s H1 O1 M1 ∧ mV t LL M M1
  | 0, i, H, O, w, may, M, r, s, H1, O1, _, _, _, _, _, h, _, _ => nomatch h
  | n + 1, i, H, O, w, may, M, r, s, H1, O1, hT, hi, hle, hM, hlen, h, f, hf => by
    have h160 := hT.2.1
    obtain ⟨f, rfl⟩ : ∃ m, f = m + 1 := ⟨f - 1, by omega⟩
    have hs := md_tstep (N := N) (w := w) (may := may) hN ht hT hi hle rfl hM (by omega)
    rw [aRun] at h
    unfold aNext at h
    dsimp only at h
    cases ha : aStep (tK b sz (tB b sz i)) (tV b sz (tB b sz i)) H O w may with
    | inl q =>
      rw [ha] at h hs
      have e := Sum.inl.inj h
      obtain ⟨M1, g1, g2, g3⟩ := hs
      obtain ⟨q1, q2, q3⟩ := q
      have e1 : q1 = r := congrArg Prod.fst e
      have e2 : tB b sz i = s := congrArg (fun z => z.2.1) e
      have e3 : q2 = H1 := congrArg (fun z => z.2.2.1) e
      have e4 : q3 = O1 := congrArg (fun z => z.2.2.2) e
      subst e1 e2 e3 e4
      exact ⟨M1, g1 f, g2, g3⟩
    | inr q =>
      rw [ha] at h hs
      obtain ⟨M1, g1, g2, g3⟩ := hs
      obtain ⟨k0, hl⟩ := aStep_len ha
      have hb := tB_le (b := b) hle
      have hne : tB b sz i ≠ sz := fun e => k0 (by rw [e]; exact tK_end b sz)
      have hE := tE_le (b := b) hb.2
      have hE3 := hE.2.2 (by omega)
      obtain ⟨q1, q2, q3, q4⟩ := q
      have hl : q1.length + q2.length ≤ H.length + O.length + 1 := hl
      have hT1 : MT b sz M1 := hT.frame g3.1 (by decide) (by decide)
      obtain ⟨M2, c1, c2, c3⟩ := md_run hN ht n (tE b sz (tB b sz i)) q1 q2 q3 q4 M1 r s H1 O1 hT1 g2.2.1 hE.2.1 g2.1 (by omega) h f (by omega)
      exact ⟨M2, (g1 f).trans c1, c2, g3.trans c3⟩
def okc (x : Nat) : Prop := x ≤ 5 ∨ (11 ≤ x ∧ x ≤ 19) ∨ (100000 ≤ x ∧ x < 110000)
def okH (x : Nat) : Prop := x = 0 ∨ (11 ≤ x ∧ x ≤ 19)
/-- what is held and put out, with O0 the oldest -/
def aI (O0 H O : List Nat) : Prop := (∀ x ∈ H, okH x) ∧ (∀ x ∈ O, okc x) ∧ O0 <:+ O
theorem aI.out {O0 H O : List Nat} {x : Nat} (h : aI O0 H O) (hx : okc x) : aI O0 H (x :: O) := ⟨h.1, fun y hy => by
  rcases List.mem_cons.mp hy with hy | hy
  · rw [hy]; exact hx
  · exact h.2.1 y hy, h.2.2.trans (List.suffix_cons x O)⟩
theorem aI.hold {O0 H O : List Nat} {x : Nat} (h : aI O0 H O) (hx : okH x) : aI O0 (x :: H) O := ⟨fun y hy => by
  rcases List.mem_cons.mp hy with hy | hy
  · rw [hy]; exact hx
  · exact h.1 y hy, h.2⟩
theorem aI.tail {O0 H O : List Nat} (h : aI O0 H O) : aI O0 H.tail O := ⟨fun y hy => h.1 y (List.mem_of_mem_tail hy), h.2⟩
theorem aU_I {O0 : List Nat} {l : Nat} (hl : 1 ≤ l) : ∀ (H O : List Nat), aI O0 H O → aI O0 (aU l H O).1 (aU l H O).2
  | [], O, h => h
  | x :: r, O, h => by
    rw [aU]
    by_cases hx : rk x < l
    · rw [if_pos hx]; exact h
    · rw [if_neg hx]
      have hx0 : x ≠ 0 := fun e => by rw [e] at hx; exact hx (show 0 < l by omega)
      have ho : okc x := by
        rcases h.1 x (List.mem_cons_self ..) with e | e
        · exact absurd e hx0
        · exact .inr (.inl e)
      exact aU_I hl r (x :: O) (h.tail.out ho)
theorem aStep_I {O0 H O : List Nat} {k v : Nat} {w may : Bool} {q : List Nat × List Nat × Bool × Bool} (h : aI O0 H O) (h1 : k = 1 → v < 10000) (h2 : k = 2 → v ≤ 5) (ha : aStep k v H O w may = .inr q) : aI O0 q.1 q.2.1 := by
  cases w with
  | false =>
    rw [aStep] at ha
    by_cases h59 : k = 59
    · rw [if_pos h59] at ha; exact nomatch ha
    rw [if_neg h59] at ha
    by_cases h41 : k = 41
    · rw [if_pos h41] at ha
      by_cases he : (aU 1 H O).1 = []
      · rw [if_pos he] at ha; exact nomatch ha
      · rw [if_neg he] at ha
        have e := Sum.inr.inj ha
        rw [← e]
        exact aU_I (by omega) _ _ (aU_I (by omega) H O h).tail
    rw [if_neg h41] at ha
    by_cases h99 : sg k = 99
    · rw [if_pos h99] at ha; exact nomatch ha
    rw [if_neg h99] at ha
    by_cases hc : (decide (rk (sg k) = 4) && hd4 (aU (lv (sg k)) H O).1) = true
    · rw [if_pos hc] at ha; exact nomatch ha
    rw [if_neg hc] at ha
    have e := Sum.inr.inj ha
    have hx := (sg_ok k).resolve_left h99
    rw [← e]
    exact (aU_I (lv_ok _ hx.2.1 hx.1 hx.2.2).1 H O h).hold (.inr ⟨hx.1, by omega⟩)
  | true =>
    rw [aStep] at ha
    have op : ∀ c : Nat, okc c → (Sum.inr ((aU 7 H (c :: O)).1, (aU 7 H (c :: O)).2, false, may) : (Bool × List Nat × List Nat) ⊕ (List Nat × List Nat × Bool × Bool)) = .inr q → aI O0 q.1 q.2.1 := fun c hc ha => by
      have e := Sum.inr.inj ha
      rw [← e]
      exact aU_I (by omega) H (c :: O) (h.out hc)
    have pu : ∀ (c : Nat) (m : Bool), okH c → (if cO H = 5 then .inl (false, H, O) else .inr (c :: H, O, true, m) : (Bool × List Nat × List Nat) ⊕ (List Nat × List Nat × Bool × Bool)) = .inr q → aI O0 q.1 q.2.1 := fun c m hc ha => by
      by_cases h5 : cO H = 5
      · rw [if_pos h5] at ha; exact nomatch ha
      · rw [if_neg h5] at ha
        have e := Sum.inr.inj ha
        rw [← e]
        exact h.hold hc
    by_cases k1 : k = 1
    · rw [if_pos k1] at ha
      have := h1 k1
      exact op _ (.inr (.inr ⟨by omega, by omega⟩)) ha
    rw [if_neg k1] at ha
    by_cases k2 : k = 2
    · rw [if_pos k2] at ha
      exact op _ (.inl (h2 k2)) ha
    rw [if_neg k2] at ha
    by_cases h6 : k = 6 ∧ may = true
    · rw [if_pos h6] at ha; exact pu _ _ (.inr ⟨by omega, by omega⟩) ha
    rw [if_neg h6] at ha
    by_cases h45 : k = 45
    · rw [if_pos h45] at ha; exact pu _ _ (.inr ⟨by omega, by omega⟩) ha
    rw [if_neg h45] at ha
    by_cases h40 : k = 40
    · rw [if_pos h40] at ha; exact pu _ _ (.inl rfl) ha
    rw [if_neg h40] at ha
    exact nomatch ha
theorem aRun_I {O0 : List Nat} : ∀ (n : Nat) (c c1 : aC), aRun b sz n c = .inr c1 → aI O0 c.2.1 c.2.2.1 → aI O0 c1.2.1 c1.2.2.1
  | 0, c, c1, h, h1 => by
    have e : c = c1 := Sum.inr.inj h
    rw [← e]
    exact h1
  | n + 1, c, c1, h, h1 => by
    rw [aRun] at h
    unfold aNext at h
    cases hs : aStep (tK b sz (tB b sz c.1)) (tV b sz (tB b sz c.1)) c.2.1 c.2.2.1 c.2.2.2.1 c.2.2.2.2 with
    | inl q => rw [hs] at h; exact nomatch h
    | inr q =>
      rw [hs] at h
      exact aRun_I n (tE b sz (tB b sz c.1), q) c1 h (aStep_I h1 tV1 tV2 hs)
end PEXP
