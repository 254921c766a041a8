section PTOK3
variable {N : Nat} {b : Nat → Nat} {sz : Nat}
theorem nI_subn {n m : Nat} (h : m ≤ n) (hn : n < 100000000) : nI n - nI m = nI (n - m) := by
  rw [← Int32.toInt_inj, fb_subI (by rw [nI_toInt (by omega), nI_toInt (by omega)]; omega) (by rw [nI_toInt (by omega), nI_toInt (by omega)]; omega), nI_toInt (by omega), nI_toInt (by omega), nI_toInt (by omega)]
  omega
theorem md_digL {s : Nat} : ∀ (d c : Nat) (M : mS) (n : Nat), MT b sz M → M.1 40 0 = nI (s + c) → s + c + d = sz → (∀ j, j < c → pDi (b (s + j)) = true) → (c ≤ 4 → M.1 43 0 = nI (nv b s c)) → d < n → ∃ M1, mf_next_L214 N n M (nI c) = some (nI (lRun pDi b d (s + c) - s), M1) ∧ mU [40, 43] M M1 ∧ M1.1 40 0 = nI (lRun pDi b d (s + c)) ∧ (lRun pDi b d (s + c) - s ≤ 4 → M1.1 43 0 = nI (nv b s (lRun pDi b d (s + c) - s))) := by
  intro d
  induction d with
  | zero =>
    intro c M n h hi he hj hv hn
    obtain ⟨n, rfl⟩ : ∃ m, n = m + 1 := ⟨n - 1, by omega⟩
    rw [mf_next_L214, h.1, hi, if_pos (sm_len (by omega) (by have := h.2.1; omega))]
    have e : lRun pDi b 0 (s + c) - s = c := by rw [lRun]; omega
    rw [e]
    exact ⟨M, rfl, mU.refl _ _, hi, hv⟩
  | succ d ih =>
    intro c M n h hi he hj hv hn
    obtain ⟨n, rfl⟩ : ∃ m, n = m + 1 := ⟨n - 1, by omega⟩
    have h160 := h.2.1
    have hb := h.2.2.1 (s + c) (by omega)
    rw [mf_next_L214, h.1, hi, if_neg (sm_nle (by omega) (by omega)), if_pos (sm_ok (by omega) (by omega)), sm_clamp (by omega), hb.1, pDi_in hb.2, lRun]
    cases hp : pDi (b (s + c)) with
    | true =>
      rw [if_pos rfl, show nI c + 1 = nI (c + 1) from nI_add c 1]
      have hx := hp
      unfold pDi at hx
      rw [Bool.and_eq_true, decide_eq_true_eq, decide_eq_true_eq] at hx
      obtain ⟨w, hw, hw4⟩ : ∃ w : Int32, w = (if (4 : Int32) ≤ nI c then 0 else ((10 * (M.1 43 0)) + nI (b (s + c))) - 48) ∧ (c + 1 ≤ 4 → w = nI (nv b s (c + 1))) := by
        refine ⟨_, rfl, fun hc => ?_⟩
        rw [if_neg (show ¬ (4 : Int32) ≤ nI c from sm_nle (n := 4) (by omega) (by omega)), hv (by omega)]
        have h1 : (10 : Int32) * nI (nv b s c) = nI (10 * nv b s c) := (pk_mul 10 (nv b s c))
        have hlt := nv_lt c hj
        have h104 : (10 : Nat) ^ c ≤ 10 ^ 4 := Nat.pow_le_pow_right (by omega) (by omega)
        rw [h1, nI_add, show (48 : Int32) = nI 48 from rfl, nI_subn (by omega) (by omega)]
        rfl
      rw [← hw]
      have e40 : (ms M 43 0 w).1 40 0 = nI (s + c) := (congrFun (ms_ne (by decide)) 0).trans hi
      rw [e40, show nI (s + c) + 1 = nI (s + (c + 1)) from nI_add (s + c) 1]
      have hU : mU [40, 43] M (ms (ms M 43 0 w) 40 0 (nI (s + (c + 1)))) := ((mU.refl _ _).ms (by decide)).ms (by decide)
      obtain ⟨M1, g1, g2, g3⟩ := ih (c + 1) (ms (ms M 43 0 w) 40 0 (nI (s + (c + 1)))) n (h.frame hU (by decide) (by decide)) rfl (by omega) (fun j hjc => by
        by_cases e : j = c
        · rw [e]; exact hp
        · exact hj j (by omega)) (fun hc => hw4 hc) (by omega)
      exact ⟨M1, g1, hU.trans g2, g3⟩
    | false =>
      rw [if_neg (by decide)]
      have e : s + c - s = c := by omega
      show ∃ M1, some (nI c, M) = some (nI (s + c - s), M1) ∧ mU [40, 43] M M1 ∧ M1.1 40 0 = nI (s + c) ∧ (s + c - s ≤ 4 → M1.1 43 0 = nI (nv b s (s + c - s)))
      rw [e]
      exact ⟨M, rfl, mU.refl _ _, hi, hv⟩
/-- a kind as the reference writes it -/
def kI (k : Nat) : Int32 := if k = 99 then -1 else nI k
/-- the reference stands after the token that begins at s -/
def MA (b : Nat → Nat) (sz s : Nat) (M : mS) : Prop := M.1 40 0 = nI (tE b sz s) ∧ M.1 41 0 = nI s ∧ M.1 42 0 = kI (tK b sz s) ∧ (1 ≤ tK b sz s → tK b sz s ≤ 3 → M.1 43 0 = nI (tV b sz s))
theorem pSi_m {x : Nat} (hx : x < 256) : (if ((if nI x = 40 then 1 else (if nI x = 41 then 1 else (if nI x = 59 then 1 else (if nI x = 43 then 1 else (if nI x = 45 then 1 else (if nI x = 42 then 1 else (if nI x = 60 then 1 else (if nI x = 61 then 1 else 0)))))))) : Int32) = 0 then (-1 : Int32) else nI x) = kI (bif pSi x then x else 99) := by
  have e : ∀ m : Nat, m < 256 → (nI x = nI m ↔ x = m) := fun m hm => sm_eq (by omega) (by omega)
  unfold pSi
  by_cases h0 : x = 40
  · rw [h0]; rfl
  by_cases h1 : x = 41
  · rw [h1]; rfl
  by_cases h2 : x = 59
  · rw [h2]; rfl
  by_cases h3 : x = 43
  · rw [h3]; rfl
  by_cases h4 : x = 45
  · rw [h4]; rfl
  by_cases h5 : x = 42
  · rw [h5]; rfl
  by_cases h6 : x = 60
  · rw [h6]; rfl
  by_cases h7 : x = 61
  · rw [h7]; rfl
  rw [if_neg (show ¬ nI x = (40 : Int32) from fun h => h0 ((e 40 (by omega)).mp h)), if_neg (show ¬ nI x = (41 : Int32) from fun h => h1 ((e 41 (by omega)).mp h)), if_neg (show ¬ nI x = (59 : Int32) from fun h => h2 ((e 59 (by omega)).mp h)), if_neg (show ¬ nI x = (43 : Int32) from fun h => h3 ((e 43 (by omega)).mp h)), if_neg (show ¬ nI x = (45 : Int32) from fun h => h4 ((e 45 (by omega)).mp h)), if_neg (show ¬ nI x = (42 : Int32) from fun h => h5 ((e 42 (by omega)).mp h)), if_neg (show ¬ nI x = (60 : Int32) from fun h => h6 ((e 60 (by omega)).mp h)), if_neg (show ¬ nI x = (61 : Int32) from fun h => h7 ((e 61 (by omega)).mp h)), if_pos rfl]
  rw [decide_eq_false h0, decide_eq_false h1, decide_eq_false h2, decide_eq_false h3, decide_eq_false h4, decide_eq_false h5, decide_eq_false h6, decide_eq_false h7]
  rfl
theorem md_next {i : Nat} {M : mS} (hN : 2000 ≤ N) (h : MT b sz M) (hi : M.1 40 0 = nI i) (hle : i ≤ sz) : ∃ M1, mf_next N M = some M1 ∧ mU [40, 41, 42, 43] M M1 ∧ MA b sz (tB b sz i) M1 := by
  have h160 := h.2.1
  obtain ⟨S3, a1, a2, a3⟩ := md_skip (N := N) (sz - i) i M N h hi (by omega) (by omega)
  have hs := tB_le (b := b) hle
  have a3 : S3.1 40 0 = nI (tB b sz i) := a3
  generalize hse : tB b sz i = s at *
  unfold mf_next
  rw [a1, bs1]
  have e40 : (ms (ms (ms S3 41 0 (S3.1 40 0)) 42 0 0) 43 0 0).1 40 0 = nI s := by
    rw [ms_ne (by decide), ms_ne (by decide), ms_ne (by decide)]; exact a3
  have e41 : (ms (ms (ms S3 41 0 (S3.1 40 0)) 42 0 0) 43 0 0).1 41 0 = nI s := by
    rw [ms_ne (by decide), ms_ne (by decide)]; exact a3
  have hU : mU [40, 41, 42, 43] M (ms (ms (ms S3 41 0 (S3.1 40 0)) 42 0 0) 43 0 0) := (((a2.mono (by decide)).ms (by decide)).ms (by decide)).ms (by decide)
  have hT := h.frame hU (by decide) (by decide)
  have e42 : (ms (ms (ms S3 41 0 (S3.1 40 0)) 42 0 0) 43 0 0).1 42 0 = 0 := by
    rw [ms_ne (by decide)]; rfl
  have e43 : (ms (ms (ms S3 41 0 (S3.1 40 0)) 42 0 0) 43 0 0).1 43 0 = 0 := rfl
  generalize hM3 : ms (ms (ms S3 41 0 (S3.1 40 0)) 42 0 0) 43 0 0 = M3 at *
  rw [e40, hT.1]
  by_cases hz : s = sz
  · rw [if_pos (by rw [hz])]
    refine ⟨M3, rfl, hU, ?_⟩
    have k1 : tE b sz s = s := by unfold tE; rw [if_pos hz]
    have k2 : tK b sz s = 0 := by unfold tK; rw [if_pos hz]
    unfold MA
    rw [k1, k2]
    exact ⟨e40, e41, e42, fun hh => absurd hh (by omega)⟩
  · have hb := hT.2.2.1 s (by omega)
    rw [if_neg (fun hh => hz ((sm_eq (by omega) (by omega)).mp hh)), if_pos (sm_ok (by omega) (by omega)), sm_clamp (by omega), hb.1, pLe_in hb.2, pDi_in hb.2]
    unfold MA tE tK tV
    rw [if_neg hz, if_neg hz]
    cases hl : pLe (b s) with
    | true =>
      rw [if_pos rfl]
      simp only [cond_true]
      obtain ⟨v, M4, c1, c2, c3, c4⟩ := md_let (N := N) (s := s) (M := M3) hN hT e40 (by omega)
      have hpos := lRun_pos (p := pLe) (b := b) (k := sz - s) (i := s) (by omega) hl
      have hU4 : mU [40, 41, 42, 43] M M4 := hU.trans (c2.mono (by decide))
      have hw := md_word (N := N) (b := b) (s := s) (e := lRun pLe b (sz - s) s) (v := v) (M := M4) hN ((h.frame hU4 (by decide) (by decide)).2.2.2) hpos (fun j h1 h2 => lRun_in (sz - s) s j h1 h2) c4
      rw [c1, bs2, hw, bs1]
      have e41' : M4.1 41 0 = nI s := (congrFun (c2.1 41 (by decide)) 0).trans e41
      have htw : wIdx (rr b s (lRun pLe b (sz - s) s - s)) = tW b sz s := rfl
      rw [htw]
      have hw12 : tW b sz s ≤ 12 := wIdx_le _
      by_cases h3 : 3 ≤ tW b sz s
      · have i3 : (3 : Int32) ≤ nI (tW b sz s) := sm_len (n := 3) h3 (by omega)
        rw [if_pos i3, if_pos i3, if_pos h3]
        refine ⟨_, rfl, (hU4.ms (by decide)).ms (by decide), ?_⟩
        refine ⟨?_, ?_, ?_, ?_⟩
        · rw [ms_ne (by decide), ms_ne (by decide)]; exact c3
        · rw [ms_ne (by decide), ms_ne (by decide)]; exact e41'
        · rw [ms_ne (by decide)]
          show (if (9 : Int32) ≤ nI (tW b sz s) then (if nI (tW b sz s) = 12 then (-1 : Int32) else (4 + nI (tW b sz s)) - 9) else 2) = _
          by_cases h9 : 9 ≤ tW b sz s
          · rw [if_pos (show (9 : Int32) ≤ nI (tW b sz s) from sm_len (n := 9) h9 (by omega)), if_pos h9]
            by_cases h12 : tW b sz s = 12
            · rw [h12]; rfl
            · rw [if_neg (show ¬ nI (tW b sz s) = 12 from fun hh => h12 ((sm_eq (m := 12) (by omega) (by omega)).mp hh)), if_neg h12]
              rw [show (4 : Int32) + nI (tW b sz s) = nI (4 + tW b sz s) from nI_add 4 _, show (9 : Int32) = nI 9 from rfl, nI_subn (by omega) (by omega)]
              unfold kI
              rw [if_neg (by omega)]
              congr 1
              omega
          · rw [if_neg (show ¬ (9 : Int32) ≤ nI (tW b sz s) from sm_nle (n := 9) (by omega) (by omega)), if_neg h9]
            rfl
        · intro _ _
          show nI (tW b sz s) - 3 = _
          rw [if_pos h3, show (3 : Int32) = nI 3 from rfl, nI_subn h3 (by omega)]
      · have i3 : ¬ (3 : Int32) ≤ nI (tW b sz s) := sm_nle (n := 3) (by omega) (by omega)
        rw [if_neg i3, if_neg i3, if_neg h3]
        refine ⟨_, rfl, (hU4.ms (by decide)).ms (by decide), ?_⟩
        refine ⟨?_, ?_, ?_, ?_⟩
        · rw [ms_ne (by decide), ms_ne (by decide)]; exact c3
        · rw [ms_ne (by decide), ms_ne (by decide)]; exact e41'
        · rw [ms_ne (by decide)]
          rfl
        · intro _ _
          rw [if_neg h3]
          rfl
    | false =>
      rw [if_neg (by decide)]
      simp only [cond_false]
      cases hd : pDi (b s) with
      | true =>
        rw [if_pos rfl]
        simp only [cond_true]
        obtain ⟨M4, c1, c2, c3, c4⟩ := md_digL (N := N) (b := b) (s := s) (sz - s) 0 M3 N hT e40 (by omega) (fun j hj => absurd hj (by omega)) (fun _ => e43) (by omega)
        rw [show s + 0 = s from rfl] at c1 c3 c4
        have hle4 := lRun_le (p := pDi) (b := b) (sz - s) s
        have e41' : M4.1 41 0 = nI s := (congrFun (c2.1 41 (by decide)) 0).trans e41
        have hU4 : mU [40, 41, 42, 43] M M4 := hU.trans (c2.mono (by decide))
        rw [show (0 : Int32) = nI 0 from rfl, c1, bs2]
        by_cases h4 : lRun pDi b (sz - s) s - s ≤ 4
        · rw [if_pos (show nI (lRun pDi b (sz - s) s - s) ≤ (4 : Int32) from sm_len (m := 4) h4 (by omega)), if_pos h4]
          refine ⟨_, rfl, hU4.ms (by decide), ?_, ?_, rfl, fun _ _ => ?_⟩
          · rw [ms_ne (by decide)]; exact c3
          · rw [ms_ne (by decide)]; exact e41'
          · rw [ms_ne (by decide)]; exact c4 h4
        · rw [if_neg (show ¬ nI (lRun pDi b (sz - s) s - s) ≤ (4 : Int32) from sm_nle (m := 4) (by omega) (by omega)), if_neg h4]
          refine ⟨_, rfl, hU4.ms (by decide), ?_, ?_, rfl, fun _ h99 => absurd h99 (by omega)⟩
          · rw [ms_ne (by decide)]; exact c3
          · rw [ms_ne (by decide)]; exact e41'
      | false =>
        rw [if_neg (by decide), pSi_m hb.2]
        simp only [cond_false]
        have e40b : (ms M3 42 0 (kI (bif pSi (b s) then b s else 99))).1 40 0 = nI s := (congrFun (ms_ne (by decide)) 0).trans e40
        rw [e40b]
        refine ⟨_, rfl, (hU.ms (by decide)).ms (by decide), ?_, ?_, ?_, ?_⟩
        · show nI s + 1 = nI (s + 1)
          exact nI_add s 1
        · rw [ms_ne (by decide), ms_ne (by decide)]; exact e41
        · rw [ms_ne (by decide)]; rfl
        · intro h1 h3
          exfalso
          cases hp : pSi (b s) with
          | true =>
            rw [hp] at h1 h3
            have h1 : 1 ≤ b s := h1
            have h3 : b s ≤ 3 := h3
            unfold pSi at hp
            simp only [Bool.or_eq_true, decide_eq_true_eq] at hp
            omega
          | false =>
            rw [hp] at h3
            exact absurd (show 99 ≤ 3 from h3) (by omega)
end PTOK3
