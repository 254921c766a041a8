section PONE2
variable {n0 N : Nat} {b : Nat → Nat} {sz : Nat}
theorem lv_One {D : Nat} (hN : 2000 ≤ N) (h0 : xC n0 N b sz D 0) (h6 : xO n0 N b sz D) : xO n0 N b sz (D + 1) := by
  intro i o d m H O may X hi hX ho ho5 hd hdl hD hmay hlen hlim
  have h160 := hX.1.2.1
  have hb := tB_le (b := b) hi
  have hk := tK_le (b := b) (sz := sz) (tB b sz i)
  have hiff := kX_iff hk (tV3 (b := b) (sz := sz) (s := tB b sz i))
  have e43 := hX.2.2.1.2.2.1
  have e44 := hX.2.2.1.2.2.2
  show tF b sz (xf_R_readOne N (xr_all N D) X) X _ ∨ oG n0 b sz (xf_R_readOne N (xr_all N D) X) X _ m H o d
  have hO : O.length ≤ 160 := by omega
  have hE := tE_le (b := b) hb.2
  have hlt : tK b sz (tB b sz i) ≠ 0 → tB b sz i < sz := fun hne => by
    have : tB b sz i ≠ sz := fun e => hne (by rw [e]; exact tK_end b sz)
    omega
  have oper : ∀ c : Nat, (c ≤ 5 ∨ (100000 ≤ c ∧ c < 110000)) → tK b sz (tB b sz i) ≠ 0 → ((X.1 43 0 <<< (14 &&& 31)) ||| X.1 44 0) = enc (nI c) → aStep (tK b sz (tB b sz i)) (tV b sz (tB b sz i)) (n19 m ++ H) O true may = .inr ((aU 7 (n19 m ++ H) (c :: O)).1, (aU 7 (n19 m ++ H) (c :: O)).2, false, may) → tF b sz (bd1 (xf_R_put N X (X.1 43 0) (X.1 44 0)) fun S1 => bd1 (xf_R_advance N S1) fun S2 => some S2) X (i, n19 m ++ H, O, true, may) ∨ oG n0 b sz (bd1 (xf_R_put N X (X.1 43 0) (X.1 44 0)) fun S1 => bd1 (xf_R_advance N S1) fun S2 => some S2) X (i, n19 m ++ H, O, true, may) m H o d := fun c hc hne henc hst => by
    have hs := hlt hne
    rw [n19_flush hlim] at hst
    obtain ⟨X1, p1, p2, p3⟩ := xr_put (N := N) (x := c) hX (by omega) henc
    obtain ⟨X2, u1, u2, u3⟩ := xr_adv (N := N) hN p2
    rw [p1, bs1, u1, bs1]
    exact .inr ⟨X2, tE b sz (tB b sz i), may, c :: O, rfl, p3.trans u3, aTo.one rfl hst, u2, (dR_cons hd).trans (dS_val hc (by omega))⟩
  rw [xf_R_readOne]
  by_cases k1 : tK b sz (tB b sz i) = 1
  · rw [if_pos (e43.trans (hiff.1.mpr k1))]
    have hv := tV1 k1
    refine oper (100000 + tV b sz (tB b sz i)) (.inr ⟨by omega, by omega⟩) (by omega) ?_ ?_
    · rw [e43, hiff.1.mpr k1, e44 (by omega) (by omega)]
      exact enc_num hv
    · rw [aStep, if_pos k1]
  rw [if_neg (fun hh => k1 (hiff.1.mp (e43.symm.trans hh)))]
  by_cases k2 : tK b sz (tB b sz i) = 2
  · rw [if_pos (e43.trans (hiff.2.1.mpr k2))]
    have hv := tV2 k2
    refine oper (tV b sz (tB b sz i)) (.inl hv) (by omega) ?_ ?_
    · rw [e43, hiff.2.1.mpr k2, e44 (by omega) (by omega)]
      exact enc_name hv
    · rw [aStep, if_neg k1, if_pos k2]
  rw [if_neg (fun hh => k2 (hiff.2.1.mp (e43.symm.trans hh)))]
  clear oper
  have n6 : ¬ (tK b sz (tB b sz i) = 6 ∧ may = true) := fun hh => by
    rcases hmay with e | e
    · rw [e] at hh
      exact Bool.noConfusion hh.2
    · exact e hh.1
  by_cases k45 : tK b sz (tB b sz i) = 45
  · rw [if_pos (e43.trans (hiff.2.2.2.2.2.1.mpr k45))]
    have hs := hlt (by omega)
    have hE3 := hE.2.2 hs
    by_cases h5 : o = 5
    · obtain ⟨X1, p1, p2, p3⟩ := xr_opens5 (N := N) hX hO h5
      rw [p1, bs2, if_neg (by decide)]
      refine .inl ⟨X1, _, rfl, p2, p3, aFail.one (H1 := n19 m ++ H) (O1 := O) rfl ?_⟩
      rw [aStep, if_neg k1, if_neg k2, if_neg n6, if_pos k45, if_pos (by omega)]
    · obtain ⟨X1, p1, p2, p3⟩ := xr_opens (N := N) hN hX (by omega)
      have hst : aStep (tK b sz (tB b sz i)) (tV b sz (tB b sz i)) (n19 m ++ H) O true may = .inr (n19 (m + 1) ++ H, O, true, false) := by
        rw [aStep, if_neg k1, if_neg k2, if_neg n6, if_pos k45, if_neg (by omega), n19_cons]
      have hto := aTo.one (b := b) (sz := sz) (i := i) rfl hst
      have hlen2 : (n19 (m + 1) ++ H).length + O.length ≤ tE b sz (tB b sz i) := by
        rw [← n19_cons, List.length_cons]
        omega
      rw [p1, bs2, if_pos rfl]
      rcases h6 (tE b sz (tB b sz i)) (o + 1) d (m + 1) H O false X1 hE.2.1 p2 (by rw [n19_cO] at ho ⊢; omega) (by omega) hd (by omega) (by omega) (.inl rfl) hlen2 hlim with ⟨X5, s5, r1, r2, r3, r4⟩ | ⟨X5, i5, may5, O5, r1, r2, r3, r4, r5⟩
      · obtain ⟨X6, u1, u2, u3⟩ := xr_putF (N := N) (a1 := 6) (a2 := 0) r2
        rw [r1, bs1, u1, bs1]
        have hc := u2.close (x := X6.1 45 0 - 1)
        exact .inl ⟨_, s5, rfl, hc.1, p3.trans (r3.trans (u3.trans hc.2)), hto.fail r4⟩
      · have hlen5 := r3.len hE.2.1 hlen2
        have hl5 : H.length + (n19 (m + 1) ++ O5).length ≤ i5 := hlen5.2.1
        rw [List.length_append, show (n19 (m + 1)).length = m + 1 from List.length_replicate] at hl5
        obtain ⟨X6, u1, u2, u3⟩ := xr_put (N := N) (x := 19) (a1 := 6) (a2 := 0) r4 (by omega) (by decide)
        rw [r1, bs1, u1, bs1]
        have hc := u2.close
        exact .inr ⟨_, i5, may5, 19 :: O5, rfl, p3.trans (r2.trans (u3.trans hc.2)), by rw [← n19_out]; exact hto.trans r3, hc.1, (dR_cons r5).trans (dS_un (.inr rfl))⟩
  rw [if_neg (fun hh => k45 (hiff.2.2.2.2.2.1.mp (e43.symm.trans hh)))]
  by_cases k40 : tK b sz (tB b sz i) = 40
  · rw [if_pos (e43.trans (hiff.2.2.2.1.mpr k40))]
    have hs := hlt (by omega)
    have hE3 := hE.2.2 hs
    by_cases h5 : o = 5
    · obtain ⟨X1, p1, p2, p3⟩ := xr_opens5 (N := N) hX hO h5
      rw [p1, bs2, if_neg (by decide)]
      refine .inl ⟨X1, _, rfl, p2, p3, aFail.one (H1 := n19 m ++ H) (O1 := O) rfl ?_⟩
      rw [aStep, if_neg k1, if_neg k2, if_neg n6, if_neg k45, if_pos k40, if_pos (by omega)]
    · obtain ⟨X1, p1, p2, p3⟩ := xr_opens (N := N) hN hX (by omega)
      have hst : aStep (tK b sz (tB b sz i)) (tV b sz (tB b sz i)) (n19 m ++ H) O true may = .inr (0 :: (n19 m ++ H), O, true, true) := by
        rw [aStep, if_neg k1, if_neg k2, if_neg n6, if_neg k45, if_pos k40, if_neg (by omega)]
      have hto := aTo.one (b := b) (sz := sz) (i := i) rfl hst
      have hlen2 : (0 :: (n19 m ++ H)).length + O.length ≤ tE b sz (tB b sz i) := by
        rw [List.length_cons]
        omega
      rw [p1, bs2, if_pos rfl]
      rcases h0 (tE b sz (tB b sz i)) (o + 1) d (0 :: (n19 m ++ H)) O true X1 hE.2.1 p2 (by rw [ho]; exact Nat.add_comm _ 1) (by omega) hd (by show d ≤ 5 * (o + 1) + 0; omega) (by omega) (fun _ => rfl) (fun hh => absurd hh (by omega)) hlen2 (show rk 0 < 1 from by decide) with ⟨X5, s5, r1, r2, r3, r4⟩ | ⟨X5, i5, may5, P5, O5, r1, r2, r3, r4, r5, r6, r7⟩
      · rw [r1, bs1, xr_expectF r2 (by decide), bs1]
        have hc := r2.close (x := X5.1 45 0 - 1)
        exact .inl ⟨_, s5, rfl, hc.1, p3.trans (r3.trans hc.2), hto.fail r4⟩
      · have r6 : ∀ y ∈ P5, 1 ≤ rk y := r6
        have r7 : q0 (tK b sz (tB b sz i5)) (P5 ++ 0 :: (n19 m ++ H)) := r7
        have hlen5 := r3.len hE.2.1 hlen2
        have hl5 : (P5 ++ 0 :: (n19 m ++ H)).length + O5.length ≤ i5 := hlen5.2.1
        rw [List.length_append, List.length_cons] at hl5
        have hk5 := tK_le (b := b) (sz := sz) (tB b sz i5)
        have hiff5 := kX_iff hk5 (tV3 (b := b) (sz := sz) (s := tB b sz i5))
        have hfl : aU 1 (P5 ++ 0 :: (n19 m ++ H)) O5 = (0 :: (n19 m ++ H), P5.reverse ++ O5) := aU_flush (show tLt 1 (0 :: (n19 m ++ H)) from (show rk 0 < 1 from by decide)) P5 O5 r6
        rw [r1, bs1]
        by_cases k41 : tK b sz (tB b sz i5) = 41
        · obtain ⟨X6, u1, u2, u3⟩ := xr_expect (N := N) (a := 41) hN r4 (hiff5.2.2.2.2.1.mpr k41)
          rw [u1, bs1]
          have hc := u2.close
          have hst5 : aStep (tK b sz (tB b sz i5)) (tV b sz (tB b sz i5)) (P5 ++ 0 :: (n19 m ++ H)) O5 false may5 = .inr (H, n19 m ++ (P5.reverse ++ O5), false, may5) := by
            rw [aStep, if_neg (by omega), if_pos k41, hfl]
            dsimp only
            rw [if_neg (by intro hh; exact nomatch hh), List.tail_cons, n19_flush hlim]
          exact .inr ⟨_, _, may5, P5.reverse ++ O5, rfl, p3.trans (r2.trans (u3.trans hc.2)), (hto.trans r3).trans (aTo.one rfl hst5), hc.1, r5⟩
        · obtain ⟨X6, u1, u2, u3⟩ := xr_expectN (N := N) (a := 41) r4 (by rw [List.length_append, List.length_reverse]; omega) (fun hh => k41 (hiff5.2.2.2.2.1.mp hh))
          rw [u1, bs1]
          have hc := u2.close (x := X6.1 45 0 - 1)
          obtain ⟨H1, O1, he⟩ := aStep_end (v := tV b sz (tB b sz i5)) (O := O5) (may := may5) r7 k41 (fun _ => by rw [hfl]; intro hh; exact nomatch hh)
          exact .inl ⟨_, _, rfl, hc.1, p3.trans (r2.trans (u3.trans hc.2)), (hto.trans r3).fail (aFail.one rfl he)⟩
  rw [if_neg (fun hh => k40 (hiff.2.2.2.1.mp (e43.symm.trans hh)))]
  have hr := xr_refuse hX hO
  refine .inl ⟨_, _, rfl, hr.1, hr.2, aFail.one (H1 := n19 m ++ H) (O1 := O) rfl ?_⟩
  rw [aStep, if_neg k1, if_neg k2, if_neg n6, if_neg k45, if_neg k40]
/-- One where nothing is to be put out before it -/
theorem lv_One0 {D i o d : Nat} {H O : List Nat} {may : Bool} {X : xS} (h : xO n0 N b sz D) (hi : i ≤ sz) (hX : XE b sz (tB b sz i) O o X) (ho : o = cO H) (ho5 : o ≤ 5) (hd : dR n0 O = some d) (hdl : d ≤ 5 * o + 5) (hD : 7 * (5 - o) + 7 ≤ D + 6) (hmay : may = false ∨ tK b sz (tB b sz i) ≠ 6) (hlen : H.length + O.length ≤ i) (hlim : tLt 7 H) : tR n0 b sz (xr_all N D 6 X) X (i, H, O, true, may) H o d 6 q6 := by
  rcases h i o d 0 H O may X hi hX ho ho5 hd hdl hD hmay hlen hlim with h | ⟨X1, i1, may1, O1, h1, h2, h3, h4, h5⟩
  · exact .inl h
  · exact .inr ⟨X1, i1, may1, [], O1, h1, h2, h3, h4, h5, fun x hx => (nomatch hx), True.intro⟩
theorem lv_Term {D : Nat} (hN : 2000 ≤ N) (h : xO n0 N b sz D) : xC n0 N b sz (D + 1) 5 := by
  intro i o d H O may X hi hX ho ho5 hd hdl hD hm1 hm3 hlen hlim
  have h160 := hX.1.2.1
  have hdl : d ≤ 5 * o + 4 := hdl
  have hlim : tLt 6 H := hlim
  show tR n0 b sz (bd1 (xr_all N D 6 X) fun S1 => bd1 (xf_R_readTerm_L6 N (xr_all N D) N S1 0) fun S7 => some S7) X _ H o d 6 q5
  have hsub : subOK n0 b sz (xr_all N D 6) H o d 6 6 q6 := fun i2 x O2 X2 hx hr hi2 hX2 hdR hlen2 => lv_One0 h hi2 hX2 (by rw [cO_op hx]; exact ho) ho5 hdR (by omega) (by omega) (.inl (may_hi x hx.2.1 hx.1 (by omega))) hlen2 (show rk x < 7 from by omega)
  exact lvl (l2 := 6) (Qs := q6) (Q := q5) hN (hlTerm (xr_all N D)) rfl op42 (inert_of hN (by omega)) hsub (Nat.le_refl _) (fun K v W _ _ hop e => by rw [e] at hop; exact Bool.noConfusion hop) hlim h160 hi hlen (lv_One0 h hi hX ho ho5 hd (by omega) (by omega) (hm3 (by omega)) hlen (hlim.mono (by decide)))
theorem xC_all (hN : 2000 ≤ N) : ∀ D, (∀ k, k ≤ 5 → xC n0 N b sz D k) ∧ xO n0 N b sz D
  | 0 => by
    refine ⟨fun k hk i o d H O may X hi hX ho ho5 hd hdl hD => ?_, fun i o d m H O may X hi hX ho ho5 hd hdl hD => ?_⟩
    · omega
    · omega
  | D + 1 => by
    obtain ⟨h, h6⟩ := xC_all hN D
    refine ⟨fun k hk => ?_, lv_One hN (h 0 (by omega)) h6⟩
    match k, hk with
    | 0, _ => exact lv_Or hN (h 1 (by omega))
    | 1, _ => exact lv_And hN (h 2 (by omega))
    | 2, _ => exact lv_Not hN (h 2 (by omega)) (h 3 (by omega))
    | 3, _ => exact lv_Cmp hN (h 4 (by omega))
    | 4, _ => exact lv_Sum hN (h 5 (by omega))
    | 5, _ => exact lv_Term hN h6
    | k + 6, hk => omega
end PONE2
