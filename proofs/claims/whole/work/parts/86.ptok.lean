section PTOK
/-! the tokens of a text: runs of bytes, words, numbers -/
def lRun (p : Nat → Bool) (b : Nat → Nat) : Nat → Nat → Nat
  | 0, i => i
  | k + 1, i => bif p (b i) then lRun p b k (i + 1) else i
theorem lRun_le {p : Nat → Bool} {b : Nat → Nat} : ∀ (k i : Nat), i ≤ lRun p b k i ∧ lRun p b k i ≤ i + k
  | 0, i => ⟨Nat.le_refl _, Nat.le_refl _⟩
  | k + 1, i => by
    rw [lRun]
    cases p (b i) with
    | true =>
      have h : i + 1 ≤ lRun p b k (i + 1) ∧ lRun p b k (i + 1) ≤ i + 1 + k := lRun_le k (i + 1)
      show i ≤ lRun p b k (i + 1) ∧ lRun p b k (i + 1) ≤ i + (k + 1)
      omega
    | false => exact ⟨Nat.le_refl _, Nat.le_add_right _ _⟩
theorem lRun_in {p : Nat → Bool} {b : Nat → Nat} : ∀ (k i j : Nat), i ≤ j → j < lRun p b k i → p (b j) = true
  | 0, i, j, h1, h2 => absurd (show j < i from h2) (by omega)
  | k + 1, i, j, h1, h2 => by
    rw [lRun] at h2
    cases hp : p (b i) with
    | true =>
      rw [hp] at h2
      by_cases hj : j = i
      · rw [hj]; exact hp
      · exact lRun_in k (i + 1) j (by omega) h2
    | false =>
      rw [hp] at h2
      exact absurd (show j < i from h2) (by omega)
theorem lRun_out {p : Nat → Bool} {b : Nat → Nat} : ∀ (k i : Nat), lRun p b k i < i + k → p (b (lRun p b k i)) = false
  | 0, i, h => absurd (show i < i from h) (by omega)
  | k + 1, i, h => by
    rw [lRun] at h ⊢
    cases hp : p (b i) with
    | true =>
      rw [hp] at h
      exact lRun_out k (i + 1) (by have : lRun p b k (i + 1) < i + (k + 1) := h; omega)
    | false => exact hp
def pBl (x : Nat) : Bool := decide (x = 32) || decide (x = 10)
def pLe (x : Nat) : Bool := decide (97 ≤ x) && decide (x ≤ 122)
def pDi (x : Nat) : Bool := decide (48 ≤ x) && decide (x ≤ 57)
def pSi (x : Nat) : Bool := decide (x = 40) || (decide (x = 41) || (decide (x = 59) || (decide (x = 43) || (decide (x = 45) || (decide (x = 42) || (decide (x = 60) || decide (x = 61)))))))
/-- n bytes from s, the last one first -/
def rr (b : Nat → Nat) (s : Nat) : Nat → List Nat
  | 0 => []
  | n + 1 => b (s + n) :: rr b s n
theorem rr_len {b : Nat → Nat} {s : Nat} : ∀ n, (rr b s n).length = n
  | 0 => rfl
  | n + 1 => by rw [rr, List.length_cons, rr_len n]
theorem rr_eq {b c : Nat → Nat} {s t : Nat} : ∀ n m, rr b s n = rr c t m ↔ (n = m ∧ ∀ j, j < n → b (s + j) = c (t + j))
  | 0, 0 => ⟨fun _ => ⟨rfl, fun j h => absurd h (by omega)⟩, fun _ => rfl⟩
  | 0, m + 1 => ⟨fun h => (nomatch (show [] = c (t + m) :: rr c t m from h)), fun h => absurd h.1 (by omega)⟩
  | n + 1, 0 => ⟨fun h => (nomatch (show b (s + n) :: rr b s n = [] from h)), fun h => absurd h.1 (by omega)⟩
  | n + 1, m + 1 => by
    rw [rr, rr, List.cons.injEq, rr_eq n m]
    constructor
    · rintro ⟨h1, rfl, h2⟩
      refine ⟨rfl, fun j hj => ?_⟩
      by_cases hjn : j = n
      · rw [hjn]; exact h1
      · exact h2 j (by omega)
    · rintro ⟨h1, h2⟩
      have e : n = m := by omega
      subst e
      exact ⟨h2 n (by omega), rfl, fun j hj => h2 j (by omega)⟩
theorem rr_mem {b : Nat → Nat} {s : Nat} : ∀ n x, x ∈ rr b s n → ∃ j, j < n ∧ x = b (s + j)
  | 0, x, h => nomatch h
  | n + 1, x, h => by
    rw [rr] at h
    rcases List.mem_cons.mp h with h | h
    · exact ⟨n, by omega, h⟩
    · obtain ⟨j, hj, e⟩ := rr_mem n x h
      exact ⟨j, by omega, e⟩
def pkr : List Nat → Nat
  | [] => 0
  | x :: r => 256 * pkr r + x
theorem pkr_inj : ∀ l l2 : List Nat, (∀ x ∈ l, 1 ≤ x ∧ x < 256) → (∀ x ∈ l2, 1 ≤ x ∧ x < 256) → pkr l = pkr l2 → l = l2
  | [], [], _, _, _ => rfl
  | [], x :: r, _, h, e => by
    have := h x (List.mem_cons_self ..)
    have e : 0 = 256 * pkr r + x := e
    omega
  | x :: r, [], h, _, e => by
    have := h x (List.mem_cons_self ..)
    have e : 256 * pkr r + x = 0 := e
    omega
  | x :: r, y :: q, h, g, e => by
    have h1 := h x (List.mem_cons_self ..)
    have h2 := g y (List.mem_cons_self ..)
    have e : 256 * pkr r + x = 256 * pkr q + y := e
    have e1 : x = y := by omega
    have e2 : pkr r = pkr q := by omega
    rw [e1, pkr_inj r q (fun z hz => h z (List.mem_cons_of_mem _ hz)) (fun z hz => g z (List.mem_cons_of_mem _ hz)) e2]
theorem pkr_lt : ∀ l : List Nat, (∀ x ∈ l, x < 256) → pkr l < 256 ^ l.length
  | [], _ => by decide
  | x :: r, h => by
    have h1 := h x (List.mem_cons_self ..)
    have h2 := pkr_lt r fun z hz => h z (List.mem_cons_of_mem _ hz)
    show 256 * pkr r + x < 256 ^ (r.length + 1)
    rw [Nat.pow_succ]
    omega
/-- the words: like price cost value high row place rise sort or and not -/
def lWords : List (List Nat) := [[108, 105, 107, 101], [112, 114, 105, 99, 101], [99, 111, 115, 116], [118, 97, 108, 117, 101], [104, 105, 103, 104], [114, 111, 119], [112, 108, 97, 99, 101], [114, 105, 115, 101], [115, 111, 114, 116], [111, 114], [97, 110, 100], [110, 111, 116]]
def wl (k : Nat) : Nat := (lWords.getD k []).length
def wc (k j : Nat) : Nat := (lWords.getD k []).getD j 0
def wr (k : Nat) : List Nat := rr (wc k) 0 (wl k)
theorem wr_ok : ∀ k, k < 12 → wl k ≤ 5 ∧ 1 ≤ wl k ∧ ∀ x ∈ wr k, 97 ≤ x ∧ x ≤ 122 := by decide
/-- which word it is, or 12 -/
def wIdx (l : List Nat) : Nat := match fFirst (fun k => decide (wr k = l)) 12 0 with
  | some k => k
  | none => 12
theorem wIdx_le (l : List Nat) : wIdx l ≤ 12 := by
  unfold wIdx
  cases h : fFirst (fun k => decide (wr k = l)) 12 0 with
  | none => exact Nat.le_refl _
  | some k =>
    have := fFirst_some h
    show k ≤ 12
    omega
def nv (b : Nat → Nat) (s : Nat) : Nat → Nat
  | 0 => 0
  | n + 1 => 10 * nv b s n + b (s + n) - 48
theorem nv_lt {b : Nat → Nat} {s : Nat} : ∀ n, (∀ j, j < n → pDi (b (s + j)) = true) → nv b s n < 10 ^ n
  | 0, _ => show 0 < 1 from Nat.one_pos
  | n + 1, h => by
    have h1 := nv_lt n fun j hj => h j (by omega)
    have h2 := h n (by omega)
    unfold pDi at h2
    rw [Bool.and_eq_true, decide_eq_true_eq, decide_eq_true_eq] at h2
    rw [nv, Nat.pow_succ]
    omega
/-! the token at i: it begins at tB, ends before tE, its kind and its number -/
def tB (b : Nat → Nat) (sz i : Nat) : Nat := lRun pBl b (sz - i) i
def tE (b : Nat → Nat) (sz s : Nat) : Nat := if s = sz then s else bif pLe (b s) then lRun pLe b (sz - s) s else bif pDi (b s) then lRun pDi b (sz - s) s else s + 1
def tW (b : Nat → Nat) (sz s : Nat) : Nat := wIdx (rr b s (lRun pLe b (sz - s) s - s))
def tK (b : Nat → Nat) (sz s : Nat) : Nat := if s = sz then 0 else bif pLe (b s) then (if 3 ≤ tW b sz s then (if 9 ≤ tW b sz s then (if tW b sz s = 12 then 99 else tW b sz s - 5) else 2) else 3) else bif pDi (b s) then (if lRun pDi b (sz - s) s - s ≤ 4 then 1 else 99) else bif pSi (b s) then b s else 99
def tV (b : Nat → Nat) (sz s : Nat) : Nat := bif pLe (b s) then (if 3 ≤ tW b sz s then tW b sz s - 3 else tW b sz s) else nv b s (lRun pDi b (sz - s) s - s)
theorem tB_le {b : Nat → Nat} {sz i : Nat} (h : i ≤ sz) : i ≤ tB b sz i ∧ tB b sz i ≤ sz := by
  have := lRun_le (p := pBl) (b := b) (sz - i) i
  unfold tB
  omega
theorem lRun_pos {p : Nat → Bool} {b : Nat → Nat} {k i : Nat} (hk : 0 < k) (hp : p (b i) = true) : i < lRun p b k i := by
  obtain ⟨m, rfl⟩ : ∃ m, k = m + 1 := ⟨k - 1, by omega⟩
  rw [lRun, hp]
  have := (lRun_le (p := p) (b := b) m (i + 1)).1
  show i < lRun p b m (i + 1)
  omega
theorem tE_le {b : Nat → Nat} {sz s : Nat} (h : s ≤ sz) : s ≤ tE b sz s ∧ tE b sz s ≤ sz ∧ (s < sz → s < tE b sz s) := by
  unfold tE
  by_cases h1 : s = sz
  · rw [if_pos h1]
    omega
  · rw [if_neg h1]
    have h2 := lRun_le (p := pLe) (b := b) (sz - s) s
    have h3 := lRun_le (p := pDi) (b := b) (sz - s) s
    cases hl : pLe (b s) with
    | true =>
      have := lRun_pos (p := pLe) (b := b) (k := sz - s) (i := s) (by omega) hl
      show s ≤ lRun pLe b (sz - s) s ∧ lRun pLe b (sz - s) s ≤ sz ∧ (s < sz → s < lRun pLe b (sz - s) s)
      omega
    | false =>
      cases hd : pDi (b s) with
      | true =>
        have := lRun_pos (p := pDi) (b := b) (k := sz - s) (i := s) (by omega) hd
        show s ≤ lRun pDi b (sz - s) s ∧ lRun pDi b (sz - s) s ≤ sz ∧ (s < sz → s < lRun pDi b (sz - s) s)
        omega
      | false =>
        show s ≤ s + 1 ∧ s + 1 ≤ sz ∧ (s < sz → s < s + 1)
        omega
/-! what a method writes of the reference's cells -/
def mU (l : List Nat) (M M1 : mS) : Prop := (∀ k, k ∉ l → M1.1 k = M.1 k) ∧ M1.2 = M.2
theorem mU.refl (l : List Nat) (M : mS) : mU l M M := ⟨fun _ _ => rfl, rfl⟩
theorem mU.trans {l : List Nat} {M M1 M2 : mS} (h : mU l M M1) (h2 : mU l M1 M2) : mU l M M2 := ⟨fun k hk => (h2.1 k hk).trans (h.1 k hk), h2.2.trans h.2⟩
theorem mU.ms {l : List Nat} {M M1 : mS} {k i : Nat} {x : Int32} (h : mU l M M1) (hk : k ∈ l) : mU l M (ms M1 k i x) := ⟨fun j hj => (ms_ne (fun e => hj (by rw [e]; exact hk))).trans (h.1 j hj), h.2⟩
theorem mU.mono {l q : List Nat} {M M1 : mS} (h : mU l M M1) (hs : ∀ k, k ∈ l → k ∈ q) : mU q M M1 := ⟨fun k hk => h.1 k fun hh => hk (hs k hh), h.2⟩
def MT (b : Nat → Nat) (sz : Nat) (M : mS) : Prop := M.1 18 0 = nI sz ∧ sz ≤ 160 ∧ (∀ j, j < sz → M.1 17 j = nI (b j) ∧ b j < 256) ∧ M.2 44 = mM0.2 44
theorem MT.frame {b : Nat → Nat} {sz : Nat} {M M1 : mS} {l : List Nat} (h : MT b sz M) (hf : mU l M M1) (h7 : 17 ∉ l) (h8 : 18 ∉ l) : MT b sz M1 := by
  refine ⟨?_, h.2.1, fun j hj => ?_, ?_⟩
  · rw [hf.1 18 h8]; exact h.1
  · rw [hf.1 17 h7]; exact h.2.2.1 j hj
  · rw [hf.2]; exact h.2.2.2
variable {N : Nat} {b : Nat → Nat} {sz : Nat}
theorem mf_in_n {x lo hi : Nat} (hx : x < 100000000) (hl : lo < 100000000) (hh : hi < 100000000) : mf_in (nI x) (nI lo) (nI hi) = (decide (lo ≤ x) && decide (x ≤ hi)) := by
  unfold mf_in
  by_cases h1 : x < lo
  · rw [if_pos ((sm_lt hx hl).mpr h1), decide_eq_false (by omega)]
    rfl
  · rw [if_neg (fun hh => h1 ((sm_lt hx hl).mp hh)), decide_eq_true (by omega : lo ≤ x)]
    by_cases h2 : hi < x
    · rw [if_pos ((sm_lt hh hx).mpr h2), decide_eq_false (by omega)]
      rfl
    · rw [if_neg (fun hq => h2 ((sm_lt hh hx).mp hq)), decide_eq_true (by omega : x ≤ hi)]
      rfl
theorem md_skip : ∀ (d i : Nat) (M : mS) (n : Nat), MT b sz M → M.1 40 0 = nI i → i + d = sz → d < n → ∃ M1, mf_next_L0 N n M = some M1 ∧ mU [40] M M1 ∧ M1.1 40 0 = nI (lRun pBl b d i) := by
  intro d
  induction d with
  | zero =>
    intro i M n h hi he hn
    obtain ⟨n, rfl⟩ : ∃ m, n = m + 1 := ⟨n - 1, by omega⟩
    rw [mf_next_L0, h.1, hi, if_pos (sm_len (by omega) (by have := h.2.1; omega))]
    exact ⟨M, rfl, mU.refl _ _, hi⟩
  | succ d ih =>
    intro i M n h hi he hn
    obtain ⟨n, rfl⟩ : ∃ m, n = m + 1 := ⟨n - 1, by omega⟩
    have h160 := h.2.1
    have hb := h.2.2.1 i (by omega)
    have e32 : (nI (b i) = 32) ↔ b i = 32 := sm_eq (n := b i) (m := 32) (by omega) (by omega)
    have e10 : (nI (b i) = 10) ↔ b i = 10 := sm_eq (n := b i) (m := 10) (by omega) (by omega)
    rw [mf_next_L0, h.1, hi, if_neg (sm_nle (by omega) (by omega)), if_pos (sm_ok (by omega) (by omega)), sm_clamp (by omega), hb.1, lRun]
    have go : mf_next_L0 N n (ms M 40 0 (nI i + 1)) = mf_next_L0 N n (ms M 40 0 (nI (i + 1))) := by rw [show nI i + 1 = nI (i + 1) from nI_add i 1]
    have rest := ih (i + 1) (ms M 40 0 (nI (i + 1))) n (h.frame (l := [40]) ((mU.refl _ _).ms (by decide)) (by decide) (by decide)) rfl (by omega) (by omega)
    obtain ⟨M1, g1, g2, g3⟩ := rest
    have hgo : ∃ M1, mf_next_L0 N n (ms M 40 0 (nI i + 1)) = some M1 ∧ mU [40] M M1 ∧ M1.1 40 0 = nI (lRun pBl b d (i + 1)) := ⟨M1, go.trans g1, ((mU.refl _ _).ms (by decide)).trans g2, g3⟩
    by_cases h32 : b i = 32
    · rw [if_pos (e32.mpr h32), bm0_inr, show pBl (b i) = true from by rw [h32]; rfl]
      exact hgo
    · rw [if_neg (fun hh => h32 (e32.mp hh))]
      by_cases h10 : b i = 10
      · rw [if_pos (e10.mpr h10), bm0_inr, show pBl (b i) = true from by rw [h10]; rfl]
        exact hgo
      · rw [if_neg (fun hh => h10 (e10.mp hh)), bm0_inl, show pBl (b i) = false from by unfold pBl; rw [decide_eq_false h32, decide_eq_false h10]; rfl]
        exact ⟨M, rfl, mU.refl _ _, hi⟩
end PTOK
