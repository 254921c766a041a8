section PTOK4
/-! the class's tokens -/
variable {N : Nat} {b : Nat → Nat} {sz : Nat}
def cB (x : Nat) : Int32 := (nI x).toInt8.toInt32
theorem cB_all : ∀ x, x < 256 → xf_R_isLetter (cB x) = pLe x ∧ xf_R_isDigit (cB x) = pDi x ∧ xf_R_isSign (cB x) = pSi x ∧ (cB x = 32 ↔ x = 32) ∧ (cB x = 10 ↔ x = 10) ∧ (x < 128 → cB x = nI x) ∧ (128 ≤ x → cB x < 0) := by decide +kernel
theorem cB_eq {x c : Nat} (hx : x < 256) (hc : c < 128) : cB x = nI c ↔ x = c := by
  have h := (cB_all x hx).2.2.2.2.2
  by_cases h1 : x < 128
  · rw [h.1 h1]
    exact sm_eq (by omega) (by omega)
  · have h2 := h.2 (by omega)
    refine ⟨fun e => ?_, fun e => absurd e (by omega)⟩
    rw [e] at h2
    exact absurd ((sm_lt (n := c) (m := 0) (by omega) (by omega)).mp h2) (by omega)
/-! what a method writes of the class's cells -/
def xU (l : List Nat) (X X1 : xS) : Prop := (∀ k, k ∉ l → X1.1 k = X.1 k) ∧ X1.2 = X.2
theorem xU.refl (l : List Nat) (X : xS) : xU l X X := ⟨fun _ _ => rfl, rfl⟩
theorem xU.trans {l : List Nat} {X X1 X2 : xS} (h : xU l X X1) (h2 : xU l X1 X2) : xU l X X2 := ⟨fun k hk => (h2.1 k hk).trans (h.1 k hk), h2.2.trans h.2⟩
theorem xU.xs {l : List Nat} {X X1 : xS} {k i : Nat} {x : Int32} (h : xU l X X1) (hk : k ∈ l) : xU l X (xs X1 k i x) := ⟨fun j hj => (xs_ne (fun e => hj (by rw [e]; exact hk))).trans (h.1 j hj), h.2⟩
theorem xU.mono {l q : List Nat} {X X1 : xS} (h : xU l X X1) (hs : ∀ k, k ∈ l → k ∈ q) : xU q X X1 := ⟨fun k hk => h.1 k fun hh => hk (hs k hh), h.2⟩
def XT (b : Nat → Nat) (sz : Nat) (X : xS) : Prop := X.1 40 0 = nI sz ∧ sz ≤ 160 ∧ (∀ j, j < sz → X.1 3 j = cB (b j) ∧ b j < 256) ∧ ¬ X.1 39 0 < 0
theorem XT.frame {X X1 : xS} {l : List Nat} (h : XT b sz X) (hf : xU l X X1) (h7 : 3 ∉ l) (h8 : 39 ∉ l) (h9 : 40 ∉ l) : XT b sz X1 := by
  refine ⟨?_, h.2.1, fun j hj => ?_, ?_⟩
  · rw [hf.1 40 h9]; exact h.1
  · rw [hf.1 3 h7]; exact h.2.2.1 j hj
  · rw [hf.1 39 h8]; exact h.2.2.2
theorem px_skip : ∀ (d i : Nat) (X : xS) (n : Nat), XT b sz X → X.1 41 0 = nI i → i + d = sz → d < n → ∃ X1, xf_R_advance_L9 N n X = some X1 ∧ xU [41] X X1 ∧ X1.1 41 0 = nI (lRun pBl b d i) := by
  intro d
  induction d with
  | zero =>
    intro i X n h hi he hn
    obtain ⟨n, rfl⟩ : ∃ m, n = m + 1 := ⟨n - 1, by omega⟩
    rw [xf_R_advance_L9, h.1, hi, if_pos (sm_len (by omega) (by have := h.2.1; omega))]
    exact ⟨X, rfl, xU.refl _ _, hi⟩
  | succ d ih =>
    intro i X n h hi he hn
    obtain ⟨n, rfl⟩ : ∃ m, n = m + 1 := ⟨n - 1, by omega⟩
    have h160 := h.2.1
    have hb := h.2.2.1 i (by omega)
    have hc := cB_all (b i) hb.2
    rw [xf_R_advance_L9, h.1, hi, if_neg (sm_nle (by omega) (by omega)), if_neg h.2.2.2, if_pos (sm_ok (by omega) (by omega)), sm_clamp (by omega), hb.1, lRun]
    have go : xf_R_advance_L9 N n (xs X 41 0 (nI i + 1)) = xf_R_advance_L9 N n (xs X 41 0 (nI (i + 1))) := by rw [show nI i + 1 = nI (i + 1) from nI_add i 1]
    obtain ⟨X1, g1, g2, g3⟩ := ih (i + 1) (xs X 41 0 (nI (i + 1))) n (h.frame (l := [41]) ((xU.refl _ _).xs (by decide)) (by decide) (by decide) (by decide)) rfl (by omega) (by omega)
    have hgo : ∃ X1, xf_R_advance_L9 N n (xs X 41 0 (nI i + 1)) = some X1 ∧ xU [41] X X1 ∧ X1.1 41 0 = nI (lRun pBl b d (i + 1)) := ⟨X1, go.trans g1, ((xU.refl _ _).xs (by decide)).trans g2, g3⟩
    by_cases h32 : b i = 32
    · rw [if_pos (hc.2.2.2.1.mpr h32), bm0_inr, show pBl (b i) = true from by rw [h32]; rfl]
      exact hgo
    · rw [if_neg (fun hh => h32 (hc.2.2.2.1.mp hh))]
      by_cases h10 : b i = 10
      · rw [if_pos (hc.2.2.2.2.1.mpr h10), bm0_inr, show pBl (b i) = true from by rw [h10]; rfl]
        exact hgo
      · rw [if_neg (fun hh => h10 (hc.2.2.2.2.1.mp hh)), bm0_inl, show pBl (b i) = false from by unfold pBl; rw [decide_eq_false h32, decide_eq_false h10]; rfl]
        exact ⟨X, rfl, xU.refl _ _, hi⟩
theorem px_letL : ∀ (d i : Nat) (X : xS) (n : Nat), XT b sz X → X.1 41 0 = nI i → i + d = sz → d < n → ∃ X1, xf_R_readWord_L0 N n X = some X1 ∧ xU [41] X X1 ∧ X1.1 41 0 = nI (lRun pLe b d i) := by
  intro d
  induction d with
  | zero =>
    intro i X n h hi he hn
    obtain ⟨n, rfl⟩ : ∃ m, n = m + 1 := ⟨n - 1, by omega⟩
    rw [xf_R_readWord_L0, h.1, hi, if_pos (sm_len (by omega) (by have := h.2.1; omega))]
    exact ⟨X, rfl, xU.refl _ _, hi⟩
  | succ d ih =>
    intro i X n h hi he hn
    obtain ⟨n, rfl⟩ : ∃ m, n = m + 1 := ⟨n - 1, by omega⟩
    have h160 := h.2.1
    have hb := h.2.2.1 i (by omega)
    have hc := cB_all (b i) hb.2
    rw [xf_R_readWord_L0, h.1, hi, if_neg (sm_nle (by omega) (by omega)), if_neg h.2.2.2, if_pos (sm_ok (by omega) (by omega)), sm_clamp (by omega), hb.1, lRun, hc.1]
    cases hp : pLe (b i) with
    | true =>
      rw [if_pos rfl, show nI i + 1 = nI (i + 1) from nI_add i 1]
      obtain ⟨X1, g1, g2, g3⟩ := ih (i + 1) (xs X 41 0 (nI (i + 1))) n (h.frame (l := [41]) ((xU.refl _ _).xs (by decide)) (by decide) (by decide) (by decide)) rfl (by omega) (by omega)
      exact ⟨X1, g1, ((xU.refl _ _).xs (by decide)).trans g2, g3⟩
    | false =>
      rw [if_neg (by decide)]
      exact ⟨X, rfl, xU.refl _ _, hi⟩
theorem px_digL {s : Nat} : ∀ (d c : Nat) (X : xS) (v : Int32) (n : Nat), XT b sz X → X.1 41 0 = nI (s + c) → X.1 42 0 = nI s → s + c + d = sz → (∀ j, j < c → pDi (b (s + j)) = true) → (c ≤ 4 → v = nI (nv b s c)) → d < n → ∃ w X1, xf_R_readNumber_L2 N n X v = some (w, X1) ∧ xU [41] X X1 ∧ X1.1 41 0 = nI (lRun pDi b d (s + c)) ∧ (lRun pDi b d (s + c) - s ≤ 4 → w = nI (nv b s (lRun pDi b d (s + c) - s))) := by
  intro d
  induction d with
  | zero =>
    intro c X v n h hi h42 he hj hv hn
    obtain ⟨n, rfl⟩ : ∃ m, n = m + 1 := ⟨n - 1, by omega⟩
    rw [xf_R_readNumber_L2, h.1, hi, if_pos (sm_len (by omega) (by have := h.2.1; omega))]
    have e : lRun pDi b 0 (s + c) - s = c := by rw [lRun]; omega
    rw [e]
    exact ⟨v, X, rfl, xU.refl _ _, hi, hv⟩
  | succ d ih =>
    intro c X v n h hi h42 he hj hv hn
    obtain ⟨n, rfl⟩ : ∃ m, n = m + 1 := ⟨n - 1, by omega⟩
    have h160 := h.2.1
    have hb := h.2.2.1 (s + c) (by omega)
    have hc := cB_all (b (s + c)) hb.2
    rw [xf_R_readNumber_L2, h.1, hi, h42, if_neg (sm_nle (by omega) (by omega)), if_neg h.2.2.2, if_pos (sm_ok (by omega) (by omega)), sm_clamp (by omega), hb.1, hc.2.1, lRun]
    cases hp : pDi (b (s + c)) with
    | true =>
      rw [if_pos rfl, show nI (s + c) + 1 = nI (s + (c + 1)) from nI_add (s + c) 1, nI_subn (by omega) (by omega), show s + c - s = c by omega]
      have hx := hp
      unfold pDi at hx
      rw [Bool.and_eq_true, decide_eq_true_eq, decide_eq_true_eq] at hx
      obtain ⟨w, hw, hw4⟩ : ∃ w : Int32, w = (if (4 : Int32) ≤ nI c then v else ((10 * v) + cB (b (s + c))) - 48) ∧ (c + 1 ≤ 4 → w = nI (nv b s (c + 1))) := by
        refine ⟨_, rfl, fun hc4 => ?_⟩
        rw [if_neg (show ¬ (4 : Int32) ≤ nI c from sm_nle (n := 4) (by omega) (by omega)), hv (by omega), hc.2.2.2.2.2.1 (by omega)]
        have h1 : (10 : Int32) * nI (nv b s c) = nI (10 * nv b s c) := (pk_mul 10 (nv b s c))
        have hlt := nv_lt c hj
        have h104 : (10 : Nat) ^ c ≤ 10 ^ 4 := Nat.pow_le_pow_right (by omega) (by omega)
        rw [h1, nI_add, show (48 : Int32) = nI 48 from rfl, nI_subn (by omega) (by omega)]
        rfl
      rw [← hw]
      have hU : xU [41] X (xs X 41 0 (nI (s + (c + 1)))) := (xU.refl _ _).xs (by decide)
      obtain ⟨w2, X1, g1, g2, g3⟩ := ih (c + 1) (xs X 41 0 (nI (s + (c + 1)))) w n (h.frame hU (by decide) (by decide) (by decide)) rfl ((congrFun (hU.1 42 (by decide)) 0).trans h42) (by omega) (fun j hjc => by
        by_cases e : j = c
        · rw [e]; exact hp
        · exact hj j (by omega)) hw4 (by omega)
      exact ⟨w2, X1, g1, hU.trans g2, g3⟩
    | false =>
      rw [if_neg (by decide)]
      have e : s + c - s = c := by omega
      show ∃ w X1, some (v, X) = some (w, X1) ∧ xU [41] X X1 ∧ X1.1 41 0 = nI (s + c) ∧ (s + c - s ≤ 4 → w = nI (nv b s (s + c - s)))
      rw [e]
      exact ⟨v, X, rfl, xU.refl _ _, hi, hv⟩
/-- the class's word k is the word wx k -/
def wx (k : Nat) : Nat := [12, 3, 4, 5, 6, 7, 8, 0, 1, 2, 9, 10, 11].getD k 12
theorem wx_ok : ∀ k, k < 13 → 1 ≤ k → wx k < 12 ∧ xlen k = nI (wl (wx k)) ∧ xLen.getD k 0 = wl (wx k) ∧ ∀ j, j < 5 → j < wl (wx k) → xch k j = nI (wc (wx k) j) ∧ wc (wx k) j < 128 := by decide +kernel
theorem wr_inj : ∀ k, k < 12 → ∀ j, j < 12 → wr k = wr j → k = j := by decide
theorem wIdx_iff {k : Nat} {l : List Nat} (hk : k < 12) : wr k = l ↔ wIdx l = k := by
  unfold wIdx
  cases h : fFirst (fun k => decide (wr k = l)) 12 0 with
  | none =>
    have := fFirst_no h k (by omega) (by omega)
    rw [decide_eq_false_iff_not] at this
    exact ⟨fun e => absurd e this, fun e => absurd (show 12 = k from e) (by omega)⟩
  | some j =>
    have hj := fFirst_some h
    have h3 := hj.2.2
    rw [decide_eq_true_eq] at h3
    refine ⟨fun e => ?_, fun e => ?_⟩
    · exact (wr_inj k hk j (by omega) (by rw [e, h3])).symm
    · have e : j = k := e
      rw [← e]
      exact h3
theorem px_wordL {s k : Nat} {X : xS} (hk : k < 13) (h1 : 1 ≤ k) (h : XT b sz X) (h42 : X.1 42 0 = nI s) (hs : s + wl (wx k) ≤ sz) : ∀ (d j n : Nat), j + d = wl (wx k) → (∀ i, i < j → b (s + i) = wc (wx k) i) → d + 1 < n → xf_R_isWord_L24 N k n X 1 (nI j) = some (if rr b s (wl (wx k)) = wr (wx k) then 1 else 0) := by
  obtain ⟨w12, wlen, wLen, wch⟩ := wx_ok k hk h1
  have w5 := (wr_ok (wx k) w12).1
  have h160 := h.2.1
  intro d
  induction d with
  | zero =>
    intro j n hj hm hn
    obtain ⟨n, rfl⟩ : ∃ m, n = m + 1 := ⟨n - 1, by omega⟩
    rw [xf_R_isWord_L24, if_neg (by decide), if_pos hk, wlen, if_pos (sm_len (by omega) (by omega)), if_pos]
    have e : j = wl (wx k) := by omega
    subst e
    exact (rr_eq _ _).mpr ⟨rfl, fun i hi => by rw [hm i hi, Nat.zero_add]⟩
  | succ d ih =>
    intro j n hj hm hn
    obtain ⟨n, rfl⟩ : ∃ m, n = m + 1 := ⟨n - 1, by omega⟩
    have hb := h.2.2.1 (s + j) (by omega)
    obtain ⟨c1, c2⟩ := wch j (by omega) (by omega)
    rw [xf_R_isWord_L24, if_neg (by decide), if_pos hk, wlen, if_neg (sm_nle (by omega) (by omega)), if_neg h.2.2.2, h42, nI_add, if_pos (sm_ok (by omega) (by omega)), wLen, if_pos (sm_ok (by omega) (by omega)), sm_clamp (by omega), sm_clamp (by omega), hb.1, c1, show nI j + 1 = nI (j + 1) from nI_add j 1]
    by_cases he : b (s + j) = wc (wx k) j
    · rw [if_pos ((cB_eq hb.2 c2).mpr he)]
      exact ih (j + 1) n (by omega) (fun i hi => by
        by_cases e : i = j
        · rw [e]; exact he
        · exact hm i (by omega)) (by omega)
    · rw [if_neg (fun hh => he ((cB_eq hb.2 c2).mp hh))]
      obtain ⟨n, rfl⟩ : ∃ m, n = m + 1 := ⟨n - 1, by omega⟩
      rw [xf_R_isWord_L24, if_pos rfl, if_neg]
      intro hh
      have := ((rr_eq _ _).mp hh).2 j (by omega)
      rw [Nat.zero_add] at this
      exact he this
theorem px_isWord {s e k : Nat} {X : xS} (hN : 2000 ≤ N) (hk : k < 13) (h1 : 1 ≤ k) (h : XT b sz X) (h41 : X.1 41 0 = nI e) (h42 : X.1 42 0 = nI s) (hs : s ≤ e) (he : e ≤ sz) : xf_R_isWord N X k = some (decide (wIdx (rr b s (e - s)) = wx k)) := by
  obtain ⟨w12, wlen, wLen, wch⟩ := wx_ok k hk h1
  have w5 := (wr_ok (wx k) w12).1
  have h160 := h.2.1
  have hif := wIdx_iff (k := wx k) (l := rr b s (e - s)) w12
  rw [xf_R_isWord, if_pos hk, h41, h42, nI_subn hs (by omega), wlen]
  by_cases hl : e - s = wl (wx k)
  · rw [if_pos (by rw [hl]), show (0 : Int32) = nI 0 from rfl, px_wordL hk h1 h h42 (by omega) (wl (wx k)) 0 N (by omega) (fun i hi => absurd hi (by omega)) (by omega), bs1]
    rw [hl] at hif ⊢
    by_cases hq : rr b s (wl (wx k)) = wr (wx k)
    · rw [if_pos hq, decide_eq_true (hif.mp hq.symm)]
      rfl
    · rw [if_neg hq, decide_eq_false (fun hh => hq (hif.mpr hh).symm)]
      rfl
  · rw [if_neg (fun hh => hl ((sm_eq (by omega) (by omega)).mp hh))]
    obtain ⟨m, hm⟩ : ∃ m, N = m + 1 := ⟨N - 1, by omega⟩
    have e0 : xf_R_isWord_L24 N k N X 0 0 = some 0 := by
      conv => lhs; arg 3; rw [hm]
      rw [xf_R_isWord_L24, if_pos rfl]
    rw [e0, bs1, if_pos rfl, decide_eq_false]
    intro hh
    have := congrArg List.length (hif.mpr hh)
    rw [rr_len, wr, rr_len] at this
    exact hl this.symm
end PTOK4
