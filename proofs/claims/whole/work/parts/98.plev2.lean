section PLEV2
variable {n0 N : Nat} {b : Nat → Nat} {sz : Nat}
theorem kX_all : ∀ K, K ≤ 99 → ∀ v, v ≤ 2 → ((decide (kX K v = 1) == decide (K = 1)) && ((decide (kX K v = 2) == decide (K = 2)) && ((decide (kX K v = 5) == decide (K = 6)) && ((decide (kX K v = 40) == decide (K = 40)) && ((decide (kX K v = 41) == decide (K = 41)) && ((decide (kX K v = 45) == decide (K = 45)) && ((decide (kX K v = 59) == decide (K = 59)) && ((decide (kX K v = 60) == decide (K = 60)) && (decide (kX K v = 61) == decide (K = 61)))))))))) = true := by decide +kernel
theorem dd {p q : Prop} [Decidable p] [Decidable q] (h : (decide p == decide q) = true) : p ↔ q := by
  have h := eq_of_beq h
  constructor
  · intro hp
    rw [decide_eq_true hp] at h
    exact of_decide_eq_true h.symm
  · intro hq
    rw [decide_eq_true hq] at h
    exact of_decide_eq_true h
theorem kX_iff {K v : Nat} (hK : K ≤ 99) (hv : K = 3 → v ≤ 2) : (kX K v = 1 ↔ K = 1) ∧ (kX K v = 2 ↔ K = 2) ∧ (kX K v = 5 ↔ K = 6) ∧ (kX K v = 40 ↔ K = 40) ∧ (kX K v = 41 ↔ K = 41) ∧ (kX K v = 45 ↔ K = 45) ∧ (kX K v = 59 ↔ K = 59) ∧ (kX K v = 60 ↔ K = 60) ∧ (kX K v = 61 ↔ K = 61) := by
  obtain ⟨w, hw, e⟩ : ∃ w, w ≤ 2 ∧ kX K v = kX K w := by
    by_cases h3 : K = 3
    · exact ⟨v, hv h3, rfl⟩
    · exact ⟨0, by omega, kX_v h3⟩
  rw [e]
  have h := kX_all K hK w hw
  simp only [Bool.and_eq_true] at h
  exact ⟨dd h.1, dd h.2.1, dd h.2.2.1, dd h.2.2.2.1, dd h.2.2.2.2.1, dd h.2.2.2.2.2.1, dd h.2.2.2.2.2.2.1, dd h.2.2.2.2.2.2.2.1, dd h.2.2.2.2.2.2.2.2⟩
theorem cmp_k : ∀ K, K = 60 ∨ K = 61 → (11 ≤ sg K ∧ sg K ≤ 18 ∧ sg K ≠ 13) ∧ lv (sg K) = 5 ∧ rk (sg K) = 4 ∧ K ≠ 59 ∧ K ≠ 41 ∧ ∀ v, ((kX K v <<< (14 &&& 31)) ||| 0) = enc (nI (sg K)) := by
  intro K hK
  rcases hK with e | e <;> subst e <;> exact ⟨by decide, by decide, by decide, by decide, by decide, fun v => rfl⟩
theorem lv_Cmp {D : Nat} (hN : 2000 ≤ N) (h : xC n0 N b sz D 4) : xC n0 N b sz (D + 1) 3 := by
  intro i o d H O may X hi hX ho ho5 hd hdl hD hm1 hm3 hlen hlim
  have h160 := hX.1.2.1
  have hdl : d ≤ 5 * o + 2 := hdl
  have hlim : tLt 4 H := hlim
  show tR n0 b sz (xf_R_readComparison N (xr_all N D) X) X _ H o d 4 q3
  have h0 := h i o d H O may X hi hX ho ho5 hd (by show d ≤ 5 * o + 3; omega) (by omega) (fun hh => absurd hh (by omega)) (fun _ => hm3 (by omega)) hlen (hlim.mono (by decide))
  rw [xf_R_readComparison]
  rcases h0 with ⟨X1, s1, a1, a2, a3, a4⟩ | ⟨X1, i1, may1, P, O1, a1, a2, a3, a4, a5, a6, a7⟩
  · rw [a1, bs1, a2.2.2.1, if_neg (by decide), if_neg (by decide)]
    exact .inl ⟨X1, s1, rfl, a2, a3, a4⟩
  · have a6 : ∀ x ∈ P, 5 ≤ rk x := a6
    have a7 : q4 (tK b sz (tB b sz i1)) (P ++ H) := a7
    have hle := a3.len hi hlen
    have hb := tB_le (b := b) hle.1
    have hk := tK_le (b := b) (sz := sz) (tB b sz i1)
    have hiff := kX_iff hk (tV3 (b := b) (sz := sz) (s := tB b sz i1))
    have e43 := a4.2.2.1.2.2.1
    have key : (tK b sz (tB b sz i1) = 60 ∨ tK b sz (tB b sz i1) = 61) → tR n0 b sz (bd1 (xf_R_advance N X1) fun S2 => bd1 (xr_all N D 4 S2) fun S3 => bd1 (xf_R_put N S3 (X1.1 43 0) 0) fun S4 => some S4) X (i, H, O, true, may) H o d 4 q3 := fun hK => by
      obtain ⟨hx, hlv, hrk, h59, h41, henc⟩ := cmp_k _ hK
      have hsne : tB b sz i1 ≠ sz := fun e => by
        rw [e, tK_end] at hK
        omega
      have hE := tE_le (b := b) hb.2
      have hE3 := hE.2.2 (by omega)
      have hst : aStep (tK b sz (tB b sz i1)) (tV b sz (tB b sz i1)) (P ++ H) O1 false may1 = .inr (sg (tK b sz (tB b sz i1)) :: H, P.reverse ++ O1, true, decide (sg (tK b sz (tB b sz i1)) ≤ 12)) := by
        rw [aStep, if_neg h59, if_neg h41, if_neg (by omega), hlv, aU_flush (hlim.mono (by decide)) P O1 a6]
        dsimp only
        rw [hd4_lt hlim, Bool.and_false, if_neg (by decide)]
      have hto := a3.trans (aTo.one (b := b) (sz := sz) (i := i1) rfl hst)
      have henc := henc (tV b sz (tB b sz i1))
      generalize hxx : sg (tK b sz (tB b sz i1)) = x at *
      have hlen2 : (x :: H).length + (P.reverse ++ O1).length ≤ tE b sz (tB b sz i1) := by
        have := hle.2.1
        rw [List.length_append] at this ⊢
        rw [List.length_cons, List.length_reverse]
        omega
      obtain ⟨X4, c1, c2, c3⟩ := xr_adv (N := N) hN a4
      rw [c1, bs1, e43]
      rcases h (tE b sz (tB b sz i1)) o (d + 1) (x :: H) (P.reverse ++ O1) (decide (x ≤ 12)) X4 hE.2.1 c2 (by rw [cO_op hx]; exact ho) ho5 a5 (by show d + 1 ≤ 5 * o + 3; omega) (by omega) (fun hh => absurd hh (by omega)) (fun _ => .inl (may_hi x hx.2.1 hx.1 (by omega))) hlen2 (show rk x < 5 from by omega) with ⟨X5, s5, r1, r2, r3, r4⟩ | ⟨X5, i5, may5, P5, O5, r1, r2, r3, r4, r5, r6, r7⟩
      · obtain ⟨X6, p1, p2, p3⟩ := xr_putF (N := N) (a1 := kX (tK b sz (tB b sz i1)) (tV b sz (tB b sz i1))) (a2 := 0) r2
        rw [r1, bs1, p1, bs1]
        exact .inl ⟨X6, s5, rfl, p2, a2.trans (c3.trans (r3.trans p3)), hto.fail r4⟩
      · have r6 : ∀ y ∈ P5, 5 ≤ rk y := r6
        have r7 : q4 (tK b sz (tB b sz i5)) (P5 ++ x :: H) := r7
        have hlen5 := r3.len hE.2.1 hlen2
        have hl5 : (P5 ++ x :: H).length + O5.length ≤ i5 := hlen5.2.1
        rw [List.length_append, List.length_cons] at hl5
        obtain ⟨X6, p1, p2, p3⟩ := xr_put (N := N) (x := x) r4 (by rw [List.length_append, List.length_reverse]; omega) henc
        rw [r1, bs1, p1, bs1]
        refine .inr ⟨X6, i5, may5, P5 ++ [x], O5, rfl, a2.trans (c3.trans (r2.trans p3)), by rw [ap_one]; exact hto.trans r3, by rw [rev_one]; exact p2, by rw [rev_one]; exact (dR_cons r5).trans (dS_bin hx), fun y hy => ?_, r7, fun _ => ?_⟩
        · rcases List.mem_append.mp hy with hy | hy
          · have := r6 y hy
            omega
          · rw [List.mem_singleton.mp hy, hrk]
            exact Nat.le_refl _
        · rw [ap_one, aU_flush (show tLt 5 (x :: H) from (by show rk x < 5; omega)) P5 [] r6]
          exact decide_eq_true hrk
    rw [a1, bs1]
    by_cases h60 : tK b sz (tB b sz i1) = 60
    · rw [if_pos (e43.trans (hiff.2.2.2.2.2.2.2.1.mpr h60))]
      exact key (.inl h60)
    · rw [if_neg (fun hh => h60 (hiff.2.2.2.2.2.2.2.1.mp (e43.symm.trans hh)))]
      by_cases h61 : tK b sz (tB b sz i1) = 61
      · rw [if_pos (e43.trans (hiff.2.2.2.2.2.2.2.2.mpr h61))]
        exact key (.inr h61)
      · rw [if_neg (fun hh => h61 (hiff.2.2.2.2.2.2.2.2.mp (e43.symm.trans hh)))]
        exact .inr ⟨X1, i1, may1, P, O1, rfl, a2, a3, a4, a5, fun y hy => by have := a6 y hy; omega, a7, fun hh => absurd hh (by omega)⟩
theorem lv_Not {D : Nat} (hN : 2000 ≤ N) (h2 : xC n0 N b sz D 2) (h3 : xC n0 N b sz D 3) : xC n0 N b sz (D + 1) 2 := by
  intro i o d H O may X hi hX ho ho5 hd hdl hD hm1 hm3 hlen hlim
  have h160 := hX.1.2.1
  have hdl : d ≤ 5 * o + 2 := hdl
  have hlim : tLt 4 H := hlim
  have hmay : may = true := hm1 (by omega)
  show tR n0 b sz (xf_R_readNot N (xr_all N D) X) X _ H o d 3 q3
  have hb := tB_le (b := b) hi
  have hk := tK_le (b := b) (sz := sz) (tB b sz i)
  have hiff := kX_iff hk (tV3 (b := b) (sz := sz) (s := tB b sz i))
  have e43 := hX.2.2.1.2.2.1
  rw [xf_R_readNot]
  by_cases h6 : tK b sz (tB b sz i) = 6
  · rw [if_pos (e43.trans (hiff.2.2.1.mpr h6))]
    by_cases h5 : o = 5
    · obtain ⟨X1, p1, p2, p3⟩ := xr_opens5 (N := N) hX (by omega) h5
      rw [p1, bs2, if_neg (by decide)]
      refine .inl ⟨X1, _, rfl, p2, p3, aFail.one (H1 := H) (O1 := O) rfl ?_⟩
      rw [aStep, if_neg (by omega), if_neg (by omega), if_pos ⟨h6, hmay⟩, if_pos (by omega)]
    · have hsne : tB b sz i ≠ sz := fun e => by
        rw [e, tK_end] at h6
        omega
      have hE := tE_le (b := b) hb.2
      have hE3 := hE.2.2 (by omega)
      obtain ⟨X1, p1, p2, p3⟩ := xr_opens (N := N) hN hX (by omega)
      have hst : aStep (tK b sz (tB b sz i)) (tV b sz (tB b sz i)) H O true may = .inr (13 :: H, O, true, may) := by
        rw [aStep, if_neg (by omega), if_neg (by omega), if_pos ⟨h6, hmay⟩, if_neg (by omega)]
      have hto := aTo.one (b := b) (sz := sz) (i := i) rfl hst
      have hlen2 : (13 :: H).length + O.length ≤ tE b sz (tB b sz i) := by
        rw [List.length_cons]
        omega
      rw [p1, bs2, if_pos rfl]
      rcases h2 (tE b sz (tB b sz i)) (o + 1) d (13 :: H) O may X1 hE.2.1 p2 (by rw [ho]; exact Nat.add_comm _ 1) (by omega) hd (by show d ≤ 5 * (o + 1) + 2; omega) (by omega) (fun _ => hmay) (fun hh => absurd hh (by omega)) hlen2 (show rk 13 < 4 from by decide) with ⟨X5, s5, r1, r2, r3, r4⟩ | ⟨X5, i5, may5, P5, O5, r1, r2, r3, r4, r5, r6, r7⟩
      · obtain ⟨X6, u1, u2, u3⟩ := xr_putF (N := N) (a1 := 5) (a2 := 0) r2
        rw [r1, bs1, u1, bs1]
        have hc := u2.close (x := X6.1 45 0 - 1)
        exact .inl ⟨_, s5, rfl, hc.1, p3.trans (r3.trans (u3.trans hc.2)), hto.fail r4⟩
      · have r6 : ∀ y ∈ P5, 3 ≤ rk y := r6
        have hlen5 := r3.len hE.2.1 hlen2
        have hl5 : (P5 ++ 13 :: H).length + O5.length ≤ i5 := hlen5.2.1
        rw [List.length_append, List.length_cons] at hl5
        obtain ⟨X6, u1, u2, u3⟩ := xr_put (N := N) (x := 13) (a1 := 5) (a2 := 0) r4 (by rw [List.length_append, List.length_reverse]; omega) (by decide)
        rw [r1, bs1, u1, bs1]
        have hc := u2.close
        refine .inr ⟨_, i5, may5, P5 ++ [13], O5, rfl, p3.trans (r2.trans (u3.trans hc.2)), by rw [ap_one]; exact hto.trans r3, by rw [rev_one]; exact hc.1, by rw [rev_one]; exact (dR_cons r5).trans (dS_un (.inl rfl)), fun y hy => ?_, by rw [ap_one]; exact r7⟩
        rcases List.mem_append.mp hy with hy | hy
        · exact r6 y hy
        · rw [List.mem_singleton.mp hy]
          exact (by decide)
  · rw [if_neg (fun hh => h6 (hiff.2.2.1.mp (e43.symm.trans hh)))]
    rcases h3 i o d H O may X hi hX ho ho5 hd (by show d ≤ 5 * o + 2; omega) (by omega) (fun hh => absurd hh (by omega)) (fun _ => .inr h6) hlen hlim with ⟨X5, s5, r1, r2, r3, r4⟩ | ⟨X5, i5, may5, P5, O5, r1, r2, r3, r4, r5, r6, r7⟩
    · rw [r1, bs1]
      exact .inl ⟨X5, s5, rfl, r2, r3, r4⟩
    · rw [r1, bs1]
      exact .inr ⟨X5, i5, may5, P5, O5, rfl, r2, r3, r4, r5, fun y hy => Nat.le_trans (by decide) (r6 y hy), r7⟩
end PLEV2
