section PTOK2
/-! the reference's tokens -/
variable {N : Nat} {b : Nat → Nat} {sz : Nat}
theorem lN_pack {p x : Nat} (hp : p < 2 ^ 32) (hx : x < 256) : (lN p <<< ((8 : Int32).toInt64 &&& 63)) ||| (nI x).toInt64 = lN (256 * p + x) := by
  have e8 : ((8 : Int32).toInt64 &&& 63) = 8 := rfl
  have ex : (nI x).toInt64 = lN x := by
    rw [← Int64.toInt_inj, Int32.toInt_toInt64, nI_toInt (by omega)]
    unfold lN
    rw [Int64.toInt_ofNat_of_lt (by omega)]
  rw [e8, ex, ← Int64.toBitVec_inj, Int64.toBitVec_or, Int64.toBitVec_shiftLeft]
  have e1 : ∀ q : Nat, (lN q).toBitVec = BitVec.ofNat 64 q := fun q => rfl
  rw [e1, e1, e1]
  have es : (Int64.toBitVec 8).smod 64 = 8#64 := by decide
  rw [es]
  apply BitVec.eq_of_toNat_eq
  rw [BitVec.toNat_or, BitVec.toNat_ofNat, BitVec.toNat_ofNat, BitVec.shiftLeft_eq', BitVec.toNat_shiftLeft, BitVec.toNat_ofNat]
  have h8 : (8#64).toNat = 8 := rfl
  rw [h8, Nat.mod_eq_of_lt (by omega : p < 2 ^ 64), Nat.mod_eq_of_lt (by omega : x < 2 ^ 64), Nat.mod_eq_of_lt (by omega : 256 * p + x < 2 ^ 64), Nat.shiftLeft_eq, Nat.mod_eq_of_lt (by omega), ← Nat.shiftLeft_eq, ← Nat.shiftLeft_add_eq_or_of_lt (by omega : x < 2 ^ 8), Nat.shiftLeft_eq]
  omega
theorem pLe_in {x : Nat} (hx : x < 256) : mf_in (nI x) 97 122 = pLe x := mf_in_n (x := x) (lo := 97) (hi := 122) (by omega) (by omega) (by omega)
theorem pDi_in {x : Nat} (hx : x < 256) : mf_in (nI x) 48 57 = pDi x := mf_in_n (x := x) (lo := 48) (hi := 57) (by omega) (by omega) (by omega)
theorem md_letL {s : Nat} : ∀ (d c : Nat) (M : mS) (v : Int64) (n : Nat), MT b sz M → M.1 40 0 = nI (s + c) → s + c + d = sz → (c ≤ 5 → v = lN (pkr (rr b s c))) → d < n → ∃ v1 M1, mf_letters_L4 N n M v (nI c) = some (v1, nI (lRun pLe b d (s + c) - s), M1) ∧ mU [40] M M1 ∧ M1.1 40 0 = nI (lRun pLe b d (s + c)) ∧ (lRun pLe b d (s + c) - s ≤ 5 → v1 = lN (pkr (rr b s (lRun pLe b d (s + c) - s)))) := by
  intro d
  induction d with
  | zero =>
    intro c M v n h hi he hv hn
    obtain ⟨n, rfl⟩ : ∃ m, n = m + 1 := ⟨n - 1, by omega⟩
    rw [mf_letters_L4, h.1, hi, if_pos (sm_len (by omega) (by have := h.2.1; omega))]
    have e : lRun pLe b 0 (s + c) - s = c := by rw [lRun]; omega
    rw [e]
    exact ⟨v, M, rfl, mU.refl _ _, hi, hv⟩
  | succ d ih =>
    intro c M v n h hi he hv hn
    obtain ⟨n, rfl⟩ : ∃ m, n = m + 1 := ⟨n - 1, by omega⟩
    have h160 := h.2.1
    have hb := h.2.2.1 (s + c) (by omega)
    rw [mf_letters_L4, h.1, hi, if_neg (sm_nle (by omega) (by omega)), if_pos (sm_ok (by omega) (by omega)), sm_clamp (by omega), hb.1, pLe_in hb.2, lRun]
    cases hp : pLe (b (s + c)) with
    | true =>
      rw [if_pos rfl, show nI (s + c) + 1 = nI (s + (c + 1)) from nI_add (s + c) 1, show nI c + 1 = nI (c + 1) from nI_add c 1]
      refine ih (c + 1) (ms M 40 0 (nI (s + (c + 1)))) _ n (h.frame (l := [40]) ((mU.refl _ _).ms (by decide)) (by decide) (by decide)) rfl (by omega) (fun hc => ?_) (by omega) |>.elim fun v1 hr => hr.elim fun M1 hr => ⟨v1, M1, hr.1, ((mU.refl _ _).ms (by decide)).trans hr.2.1, hr.2.2⟩
      have hpk : pkr (rr b s c) < 256 ^ (rr b s c).length := pkr_lt _ fun x hx => by
        obtain ⟨j, hj, rfl⟩ := rr_mem c x hx
        exact (h.2.2.1 (s + j) (by omega)).2
      rw [rr_len] at hpk
      have h5 : (256 : Nat) ^ c ≤ 256 ^ 4 := Nat.pow_le_pow_right (by omega) (by omega)
      rw [if_neg (show ¬ (8 : Int32) ≤ nI c from sm_nle (n := 8) (by omega) (by omega)), hv (by omega), lN_pack (by omega) hb.2]
      rfl
    | false =>
      rw [if_neg (by decide)]
      have e : s + c - s = c := by omega
      show ∃ v1 M1, some (v, nI c, M) = some (v1, nI (s + c - s), M1) ∧ mU [40] M M1 ∧ M1.1 40 0 = nI (s + c) ∧ (s + c - s ≤ 5 → v1 = lN (pkr (rr b s (s + c - s))))
      rw [e]
      exact ⟨v, M, rfl, mU.refl _ _, hi, hv⟩
theorem md_let {s : Nat} {M : mS} (hN : 2000 ≤ N) (h : MT b sz M) (hi : M.1 40 0 = nI s) (he : s ≤ sz) : ∃ v M1, mf_letters N M = some (v, M1) ∧ mU [40] M M1 ∧ M1.1 40 0 = nI (lRun pLe b (sz - s) s) ∧ v = if lRun pLe b (sz - s) s - s ≤ 5 then lN (pkr (rr b s (lRun pLe b (sz - s) s - s))) else 0 := by
  have h160 := h.2.1
  obtain ⟨v, M1, h1, h2, h3, h4⟩ := md_letL (N := N) (s := s) (sz - s) 0 M 0 N h hi (by omega) (fun _ => rfl) (by omega)
  have hle := lRun_le (p := pLe) (b := b) (sz - s) s
  rw [show s + 0 = s from rfl] at h1 h3 h4
  rw [mf_letters, show (0 : Int32) = nI 0 from rfl, h1, bs3]
  by_cases h5 : lRun pLe b (sz - s) s - s ≤ 5
  · rw [if_pos (show nI (lRun pLe b (sz - s) s - s) ≤ (5 : Int32) from sm_len (m := 5) h5 (by omega)), if_pos h5]
    exact ⟨v, M1, rfl, h2, h3, h4 h5⟩
  · rw [if_neg (show ¬ nI (lRun pLe b (sz - s) s - s) ≤ (5 : Int32) from sm_nle (m := 5) (by omega) (by omega)), if_neg h5]
    exact ⟨0, M1, rfl, h2, h3, rfl⟩
theorem md_table : ∀ k, k < 12 → mM0.2 44 k = lN (pkr (wr k)) := by
  intro k hk
  match k, hk with
  | 0, _ => rfl
  | 1, _ => rfl
  | 2, _ => rfl
  | 3, _ => rfl
  | 4, _ => rfl
  | 5, _ => rfl
  | 6, _ => rfl
  | 7, _ => rfl
  | 8, _ => rfl
  | 9, _ => rfl
  | 10, _ => rfl
  | 11, _ => rfl
def fIdx (P : Nat → Bool) (k i : Nat) : Nat := match fFirst P k i with
  | some j => j
  | none => 12
theorem md_wordL {c : Int64} {P : Nat → Bool} {M : mS} (hP : ∀ k, k < 12 → (M.2 44 k = c ↔ P k = true)) : ∀ (d i n : Nat), i + d = 12 → d < n → mf_next_L111 N c n M (nI i) = some (nI (fIdx P d i)) := by
  intro d
  induction d with
  | zero =>
    intro i n he hn
    obtain ⟨n, rfl⟩ : ∃ m, n = m + 1 := ⟨n - 1, by omega⟩
    have e : i = 12 := by omega
    rw [mf_next_L111, e, if_pos (show (12 : Int32) ≤ nI 12 from sm_len (n := 12) (by omega) (by omega))]
    rfl
  | succ d ih =>
    intro i n he hn
    obtain ⟨n, rfl⟩ : ∃ m, n = m + 1 := ⟨n - 1, by omega⟩
    rw [mf_next_L111, if_neg (show ¬ (12 : Int32) ≤ nI i from sm_nle (n := 12) (by omega) (by omega)), if_pos (sm_ok (by omega) (by omega)), sm_clamp (by omega)]
    have e := hP i (by omega)
    unfold fIdx
    rw [fFirst]
    cases hp : P i with
    | true =>
      rw [if_pos ((lg_cmp_eq _ _).mpr (e.mpr hp)), if_pos rfl]
    | false =>
      rw [if_neg (fun hh => by have := e.mp ((lg_cmp_eq _ _).mp hh); rw [hp] at this; exact Bool.noConfusion this), if_neg (by decide), show nI i + 1 = nI (i + 1) from nI_add i 1]
      exact ih (i + 1) n (by omega) (by omega)
theorem md_word {s e : Nat} {v : Int64} {M : mS} (hN : 2000 ≤ N) (hM : M.2 44 = mM0.2 44) (hs : s < e) (hl : ∀ j, s ≤ j → j < e → pLe (b j) = true) (hv : v = if e - s ≤ 5 then lN (pkr (rr b s (e - s))) else 0) : mf_next_L111 N v N M 0 = some (nI (wIdx (rr b s (e - s)))) := by
  have hmem : ∀ x ∈ rr b s (e - s), 97 ≤ x ∧ x ≤ 122 := fun x hx => by
    obtain ⟨j, hj, rfl⟩ := rr_mem _ x hx
    have := hl (s + j) (by omega) (by omega)
    unfold pLe at this
    simpa using this
  have lt63 : ∀ l : List Nat, l.length ≤ 5 → (∀ x ∈ l, 97 ≤ x ∧ x ≤ 122) → pkr l < 2 ^ 63 := fun l h5 h => by
    have h1 := pkr_lt l fun x hx => by have := h x hx; omega
    have h2 : (256 : Nat) ^ l.length ≤ 256 ^ 5 := Nat.pow_le_pow_right (by omega) h5
    omega
  have hlen : ∀ k, k < 12 → (wr k).length ≤ 5 := fun k hk => by rw [wr, rr_len]; exact (wr_ok k hk).1
  refine md_wordL (P := fun k => decide (wr k = rr b s (e - s))) (fun k hk => ?_) 12 0 N (by omega) (by omega)
  have hw := (wr_ok k hk).2.2
  rw [hM, md_table k hk, hv, decide_eq_true_eq]
  by_cases h5 : e - s ≤ 5
  · rw [if_pos h5, pk_lEQ (lt63 _ (hlen k hk) hw) (lt63 _ (by rw [rr_len]; exact h5) hmem)]
    exact ⟨fun h => pkr_inj _ _ (fun x hx => by have := hw x hx; omega) (fun x hx => by have := hmem x hx; omega) h, fun h => by rw [h]⟩
  · rw [if_neg h5]
    refine ⟨fun h => ?_, fun h => ?_⟩
    · rw [show (0 : Int64) = lN 0 from rfl, pk_lEQ (lt63 _ (hlen k hk) hw) (by omega)] at h
      have h1 := (wr_ok k hk).2.1
      have hne : ∃ x r, wr k = x :: r := by
        cases hq : wr k with
        | nil => have := congrArg List.length hq; rw [wr, rr_len] at this; exact absurd (show wl k = 0 from this) (by omega)
        | cons x r => exact ⟨x, r, rfl⟩
      obtain ⟨x, r, hx⟩ := hne
      rw [hx] at h
      have := hw x (by rw [hx]; exact List.mem_cons_self ..)
      have h : 256 * pkr r + x = 0 := h
      omega
    · have := congrArg List.length h
      rw [rr_len] at this
      have := hlen k hk
      omega
end PTOK2
