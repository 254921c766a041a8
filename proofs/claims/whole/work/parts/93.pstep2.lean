section PSTEP2
variable {N : Nat} {b : Nat → Nat} {sz t : Nat}
def sOK (N : Nat) (b : Nat → Nat) (sz t s : Nat) (M : mS) (w may : Bool) : (Bool × List Nat × List Nat) ⊕ (List Nat × List Nat × Bool × Bool) → Prop
  | .inl q => ∃ M1, (∀ n, mf_eRead_L14 N (n + 1) M (bI w) (bI may) = some (.inl (q.1, M1))) ∧ MS b sz t s q.2.1 q.2.2 M1 ∧ mV t LL M M1
  | .inr q => ∃ M1, (∀ n, mf_eRead_L14 N (n + 1) M (bI w) (bI may) = mf_eRead_L14 N n M1 (bI q.2.2.1) (bI q.2.2.2)) ∧ MS b sz t s q.1 q.2.1 M1 ∧ mV t LL M M1
theorem rk_0 : ∀ x, x ≤ 19 → rk x < 1 → x = 0 := by decide
theorem md_tstep {i s : Nat} {H O : List Nat} {w may : Bool} {M : mS} (hN : 2000 ≤ N) (ht : t < 6) (hT : MT b sz M) (hi : M.1 40 0 = nI i) (hle : i ≤ sz) (hs : s = tB b sz i) (h : MH t H (cO H) O M) (hl : H.length + O.length < 190) : sOK N b sz t s M w may (aStep (tK b sz s) (tV b sz s) H O w may) := by
  obtain ⟨M2, a1, a2, a3⟩ := md_next (N := N) hN hT hi hle
  rw [← hs] at a3
  obtain ⟨e40, e41, e42, e43⟩ := a3
  have h2 : MH t H (cO H) O M2 := h.frame a2 (by decide) (by decide) (by decide) (by decide) (by decide) (by decide)
  have hV2 : mV t LL M M2 := (a2.v (by decide)).mono (by decide)
  have hk := tK_le (b := b) (sz := sz) s
  have fin : ∀ (H1 O1 : List Nat) (M3 : mS), MH t H1 (cO H1) O1 M3 → mV t [19, 45, 46, 47, 48] M2 M3 → MS b sz t s H1 O1 M3 ∧ mV t LL M M3 := fun H1 O1 M3 hM hv => ⟨⟨hM, (congrFun (hv.1.1 40 (by decide)) 0).trans e40, (congrFun (hv.1.1 41 (by decide)) 0).trans e41⟩, hV2.trans (hv.mono (by decide))⟩
  have unf : ∀ (n : Nat) (v1 v2 : Int32), mf_eRead_L14 N (n + 1) M v1 v2 = mf_eRead_L14 N (n + 1) M v1 v2 := fun _ _ _ => rfl
  generalize hkk : tK b sz s = k at *
  generalize hvv : tV b sz s = v at *
  have ke : ∀ j : Nat, j < 99 → (kI k = nI j ↔ k = j) := fun j hj => kI_eq hk hj
  cases w with
  | false =>
    have b0 : (bI false) = 0 := rfl
    rw [aStep]
    by_cases h59 : k = 59
    · rw [if_pos h59]
      obtain ⟨M3, u1, u2, u3⟩ := md_unw (N := N) (least := 1) hN (by omega) (by omega) ht h2 (by omega)
      have u1 : mf_unwinds N M2 1 = some M3 := u1
      have hlen := aU_len (least := 1) H O
      refine ⟨M3, fun n => ?_, fin _ _ _ u2 (u3.mono (by decide))⟩
      rw [mf_eRead_L14, a1, bs1, if_pos b0, e42, if_pos (show kI k = (59 : Int32) from (ke 59 (by omega)).mpr h59), u1, bs1, u2.2.1]
      cases hA : (aU 1 H O).1 with
      | nil => exact if_pos rfl
      | cons x r =>
        rw [hA, List.length_cons] at hlen
        rw [if_neg (show ¬ nI (x :: r).length = (0 : Int32) from fun hh => absurd ((sm_eq (m := 0) (by rw [List.length_cons]; omega) (by omega)).mp hh) (by rw [List.length_cons]; omega))]
        rfl
    rw [if_neg h59]
    have n59 : ¬ kI k = (59 : Int32) := fun hh => h59 ((ke 59 (by omega)).mp hh)
    by_cases h41 : k = 41
    · rw [if_pos h41]
      obtain ⟨M3, u1, u2, u3⟩ := md_unw (N := N) (least := 1) hN (by omega) (by omega) ht h2 (by omega)
      have u1 : mf_unwinds N M2 1 = some M3 := u1
      have hlen := aU_len (least := 1) H O
      have htop := aU_top (least := 1) H O
      have p41 : kI k = (41 : Int32) := (ke 41 (by omega)).mpr h41
      generalize hA : aU 1 H O = A at *
      obtain ⟨H1, O1⟩ := A
      have u2 : MH t H1 (cO H1) O1 M3 := u2
      have hlen : H1.length + O1.length = H.length + O.length := hlen
      show sOK N b sz t s M false may (if H1 = [] then .inl (false, H1, O1) else .inr ((aU 7 H1.tail O1).1, (aU 7 H1.tail O1).2, false, may))
      cases H1 with
      | nil =>
        rw [if_pos rfl]
        refine ⟨M3, fun n => ?_, fin _ _ _ u2 (u3.mono (by decide))⟩
        rw [mf_eRead_L14, a1, bs1, if_pos b0, e42, if_neg n59, if_pos p41, u1, bs1, u2.2.1]
        exact if_pos rfl
      | cons x r =>
        rw [List.length_cons] at hlen
        rw [if_neg (by intro hh; exact nomatch hh)]
        have hx : x = 0 := rk_0 x (u2.2.2.2.2.2.2 x (List.mem_cons_self ..)) (htop x r rfl)
        have e46 : M3.1 46 0 = nI (r.length + 1) := u2.2.1
        have e47 : M3.1 47 0 = nI (cO r + 1) := u2.2.2.2.1.trans (by rw [cO, if_pos hx, Nat.add_comm])
        have hU : mU [46, 47] M3 (ms (ms M3 46 0 (nI r.length)) 47 0 (nI (cO r))) := ((mU.refl _ _).ms (by decide)).ms (by decide)
        have hM : MH t r (cO r) O1 (ms (ms M3 46 0 (nI r.length)) 47 0 (nI (cO r))) := by
          obtain ⟨q1, q2, q3, q4, q5, q6, q7⟩ := u2
          refine ⟨?_, rfl, ?_, rfl, ?_, ?_, fun y hy => q7 y (List.mem_cons_of_mem _ hy)⟩
          · rw [hU.1 21 (by decide)]; exact q1
          · rw [hU.1 45 (by decide)]; exact q3.2
          · rw [hU.1 48 (by decide)]; exact q5
          · rw [hU.1 19 (by decide)]; exact q6
        obtain ⟨M4, v1, v2, v3⟩ := md_unw (N := N) (least := 7) hN (by omega) (by omega) ht hM (by omega)
        have v1 : mf_unwinds N (ms (ms M3 46 0 (nI r.length)) 47 0 (nI (cO r))) 7 = some M4 := v1
        refine ⟨M4, fun n => ?_, fin _ _ _ v2 ((u3.mono (by decide)).trans (((hU.v (by decide)).mono (by decide)).trans (v3.mono (by decide))))⟩
        have e47b : (ms M3 46 0 (nI r.length)).1 47 0 = nI (cO r + 1) := (congrFun (ms_ne (by decide)) 0).trans e47
        rw [mf_eRead_L14, a1, bs1, if_pos b0, e42, if_neg n59, if_pos p41, u1, bs1, e46, if_neg (show ¬ nI (r.length + 1) = (0 : Int32) from fun hh => absurd ((sm_eq (m := 0) (by omega) (by omega)).mp hh) (by omega)), nI_pred, e47b, nI_pred, v1, bs1]
    rw [if_neg h41]
    have n41 : ¬ kI k = (41 : Int32) := fun hh => h41 ((ke 41 (by omega)).mp hh)
    have hsg := sg_m (k := k) (M := M2) hk e42
    by_cases h99 : sg k = 99
    · rw [if_pos h99]
      rw [h99] at hsg
      refine ⟨M2, fun n => ?_, fin _ _ _ h2 (mV.refl _ _)⟩
      rw [mf_eRead_L14, a1, bs1, if_pos b0, e42, if_neg n59, if_neg n41, hsg]
      exact if_pos rfl
    rw [if_neg h99]
    have hx := (sg_ok k).resolve_left h99
    generalize hxx : sg k = x at *
    obtain ⟨M3, p1, p2, p3⟩ := md_betw (N := N) (x := x) hN ht hx h2 (by omega)
    have hsg : mf_signOf M2 = nI x := hsg.trans (by unfold kI; rw [if_neg h99])
    have hlx : ¬ nI x = -1 := nI_ne_m1 (by omega)
    have hcx : cO (x :: (aU (lv x) H O).1) = cO (aU (lv x) H O).1 := by
      rw [cO, if_neg (by omega), if_neg (by omega), if_neg (by omega), Nat.zero_add]
    cases hc : (decide (rk x = 4) && hd4 (aU (lv x) H O).1) with
    | true =>
      rw [hc] at p1 p2
      rw [if_pos rfl]
      refine ⟨M3, fun n => ?_, fin _ _ _ p2 p3⟩
      rw [mf_eRead_L14, a1, bs1, if_pos b0, e42, if_neg n59, if_neg n41, hsg, if_neg hlx, p1]
      rfl
    | false =>
      rw [hc] at p1 p2
      rw [if_neg (by decide)]
      refine ⟨M3, fun n => ?_, fin _ _ _ (by rw [hcx]; exact p2) p3⟩
      rw [mf_eRead_L14, a1, bs1, if_pos b0, e42, if_neg n59, if_neg n41, hsg, if_neg hlx, p1, bs2]
      rw [show (!false) = true from rfl, if_pos rfl]
      by_cases h12 : x ≤ 12
      · rw [if_neg (show ¬ (12 : Int32) < nI x from fun hh => absurd ((sm_lt (n := 12) (by omega) (by omega)).mp hh) (by omega)), decide_eq_true h12]
        rfl
      · rw [if_pos (show (12 : Int32) < nI x from (sm_lt (n := 12) (by omega) (by omega)).mpr (by omega)), decide_eq_false h12]
        rfl
  | true =>
    have b1 : ¬ (bI true) = 0 := by decide
    rw [aStep]
    have oper : ∀ c : Nat, (if kI k = 1 then 100000 + M2.1 43 0 else M2.1 43 0) = nI c → (k = 1 ∨ k = 2) → sOK N b sz t s M true may (.inr ((aU 7 H (c :: O)).1, (aU 7 H (c :: O)).2, false, may)) := fun c hc hk12 => by
      obtain ⟨M3, p1, p2, p3⟩ := md_puts (N := N) (x := c) h2 ht (by omega)
      obtain ⟨M4, v1, v2, v3⟩ := md_unw (N := N) (least := 7) hN (by omega) (by omega) ht p2 (by rw [List.length_cons]; omega)
      have v1 : mf_unwinds N M3 7 = some M4 := v1
      refine ⟨M4, fun n => ?_, fin _ _ _ v2 ((p3.mono (by decide)).trans (v3.mono (by decide)))⟩
      rw [mf_eRead_L14, a1, bs1, if_neg b1, e42, hc]
      by_cases h1 : k = 1
      · rw [if_pos (show kI k = (1 : Int32) from (ke 1 (by omega)).mpr h1), bm0_inr, p1, bs1, v1, bs1]
        rfl
      · have h2' : k = 2 := by omega
        rw [if_neg (show ¬ kI k = (1 : Int32) from fun hh => h1 ((ke 1 (by omega)).mp hh)), if_pos (show kI k = (2 : Int32) from (ke 2 (by omega)).mpr h2'), bm0_inr, p1, bs1, v1, bs1]
        rfl
    by_cases h1 : k = 1
    · rw [if_pos h1]
      refine oper _ ?_ (.inl h1)
      rw [if_pos (show kI k = (1 : Int32) from (ke 1 (by omega)).mpr h1), e43 (by omega) (by omega)]
      exact nI_add 100000 v
    rw [if_neg h1]
    have n1 : ¬ kI k = (1 : Int32) := fun hh => h1 ((ke 1 (by omega)).mp hh)
    by_cases h2k : k = 2
    · rw [if_pos h2k]
      refine oper _ ?_ (.inr h2k)
      rw [if_neg n1, e43 (by omega) (by omega)]
    rw [if_neg h2k]
    have n2 : ¬ kI k = (2 : Int32) := fun hh => h2k ((ke 2 (by omega)).mp hh)
    clear oper
    by_cases h6 : k = 6 ∧ may = true
    · rw [if_pos h6]
      have p6 : kI k = (6 : Int32) := (ke 6 (by omega)).mpr h6.1
      have hm : may = true := h6.2
      subst hm
      by_cases h5 : cO H = 5
      · rw [if_pos h5]
        have ho : mf_opensOne N M2 13 = some (false, M2) := md_open5 h2 h5
        refine ⟨M2, fun n => ?_, fin _ _ _ h2 (mV.refl _ _)⟩
        rw [mf_eRead_L14, a1, bs1, if_neg b1, e42, if_neg n1, if_neg n2, if_pos p6, if_neg b1, ho]
        rfl
      · rw [if_neg h5]
        obtain ⟨M3, p1, p2, p3⟩ := md_open (N := N) (x := 13) (.inr (.inl rfl)) h2 (by omega) h5
        have p1 : mf_opensOne N M2 13 = some (true, M3) := p1
        refine ⟨M3, fun n => ?_, fin _ _ _ p2 (p3.mono (by decide))⟩
        rw [mf_eRead_L14, a1, bs1, if_neg b1, e42, if_neg n1, if_neg n2, if_pos p6, if_neg b1, p1]
        rfl
    rw [if_neg h6]
    have nb : ∀ (n : Nat) (K : Unit → Option (Option ((Bool × mS) ⊕ Unit) ⊕ Unit)), bm0 (if kI k = (6 : Int32) then (if (bI may) = 0 then some (.inr ()) else (bd2 (mf_opensOne N M2 13) fun v10 S11 => (if v10 = true then some (.inl (some (.inl (mf_eRead_L14 N n S11 (bI true) (bI may))))) else some (.inl (some (.inl (some (.inl (false, S11))))))))) else some (.inr ())) K = K () := fun n K => by
      by_cases h6k : k = 6
      · rw [if_pos (show kI k = (6 : Int32) from (ke 6 (by omega)).mpr h6k)]
        cases may with
        | true => exact absurd ⟨h6k, rfl⟩ h6
        | false => rfl
      · rw [if_neg (show ¬ kI k = (6 : Int32) from fun hh => h6k ((ke 6 (by omega)).mp hh))]
        rfl
    by_cases h45 : k = 45
    · rw [if_pos h45]
      have p45 : kI k = (45 : Int32) := (ke 45 (by omega)).mpr h45
      by_cases h5 : cO H = 5
      · rw [if_pos h5]
        have ho : mf_opensOne N M2 19 = some (false, M2) := md_open5 h2 h5
        refine ⟨M2, fun n => ?_, fin _ _ _ h2 (mV.refl _ _)⟩
        rw [mf_eRead_L14, a1, bs1, if_neg b1, e42, if_neg n1, if_neg n2, nb, if_pos p45, ho]
        rfl
      · rw [if_neg h5]
        obtain ⟨M3, p1, p2, p3⟩ := md_open (N := N) (x := 19) (.inr (.inr rfl)) h2 (by omega) h5
        have p1 : mf_opensOne N M2 19 = some (true, M3) := p1
        refine ⟨M3, fun n => ?_, fin _ _ _ p2 (p3.mono (by decide))⟩
        rw [mf_eRead_L14, a1, bs1, if_neg b1, e42, if_neg n1, if_neg n2, nb, if_pos p45, p1]
        rfl
    rw [if_neg h45]
    have n45 : ¬ kI k = (45 : Int32) := fun hh => h45 ((ke 45 (by omega)).mp hh)
    by_cases h40 : k = 40
    · rw [if_pos h40]
      have p40 : kI k = (40 : Int32) := (ke 40 (by omega)).mpr h40
      by_cases h5 : cO H = 5
      · rw [if_pos h5]
        have ho : mf_opensOne N M2 0 = some (false, M2) := md_open5 h2 h5
        refine ⟨M2, fun n => ?_, fin _ _ _ h2 (mV.refl _ _)⟩
        rw [mf_eRead_L14, a1, bs1, if_neg b1, e42, if_neg n1, if_neg n2, nb, if_neg n45, if_pos p40, ho]
        rfl
      · rw [if_neg h5]
        obtain ⟨M3, p1, p2, p3⟩ := md_open (N := N) (x := 0) (.inl rfl) h2 (by omega) h5
        have p1 : mf_opensOne N M2 0 = some (true, M3) := p1
        refine ⟨M3, fun n => ?_, fin _ _ _ p2 (p3.mono (by decide))⟩
        rw [mf_eRead_L14, a1, bs1, if_neg b1, e42, if_neg n1, if_neg n2, nb, if_neg n45, if_pos p40, p1]
        rfl
    rw [if_neg h40]
    have n40 : ¬ kI k = (40 : Int32) := fun hh => h40 ((ke 40 (by omega)).mp hh)
    refine ⟨M2, fun n => ?_, fin _ _ _ h2 (mV.refl _ _)⟩
    rw [mf_eRead_L14, a1, bs1, if_neg b1, e42, if_neg n1, if_neg n2, nb, if_neg n45, if_neg n40]
    rfl
end PSTEP2
