section PMACH
/-! the reference's way to read an expression: signs held back, codes put out (lists, the last one first) -/
variable {N : Nat} {b : Nat → Nat} {sz t : Nat}
def hS (f : Nat → Int32) : List Nat → Prop
  | [] => True
  | x :: r => f r.length = nI x ∧ hS f r
theorem hS_congr {f g : Nat → Int32} : ∀ {l : List Nat}, (∀ j, j < l.length → g j = f j) → hS f l → hS g l
  | [], _, _ => True.intro
  | x :: r, h, hs => ⟨(h r.length (Nat.lt_succ_self _)).trans hs.1, hS_congr (fun j hj => h j (Nat.lt_succ_of_lt hj)) hs.2⟩
def cO : List Nat → Nat
  | [] => 0
  | x :: r => (if x = 0 then 1 else if x = 13 then 1 else if x = 19 then 1 else 0) + cO r
theorem cO_le : ∀ l : List Nat, cO l ≤ l.length
  | [] => Nat.le_refl _
  | x :: r => by
    have := cO_le r
    rw [cO, List.length_cons]
    split
    · omega
    · split
      · omega
      · split <;> omega
def rk (x : Nat) : Nat := if x = 0 then 0 else if x = 11 then 1 else if x = 12 then 2 else if x = 13 then 3 else if 15 < x then (if 17 < x then (if x = 18 then 6 else 7) else 5) else 4
theorem rk_m : ∀ x, x ≤ 19 → mf_rank (nI x) = nI (rk x) := by decide +kernel
theorem rk_le : ∀ x, x ≤ 19 → rk x ≤ 7 := by decide
/-- pops the signs of at least this rank -/
def aU (least : Nat) : List Nat → List Nat → List Nat × List Nat
  | [], O => ([], O)
  | x :: r, O => if rk x < least then (x :: r, O) else aU least r (x :: O)
theorem aU_len {least : Nat} : ∀ (H O : List Nat), (aU least H O).1.length + (aU least H O).2.length = H.length + O.length
  | [], O => rfl
  | x :: r, O => by
    rw [aU]
    by_cases h : rk x < least
    · rw [if_pos h]
    · rw [if_neg h, aU_len r (x :: O), List.length_cons, List.length_cons]
      omega
theorem aU_sub {least : Nat} : ∀ (H O : List Nat) (x : Nat), x ∈ (aU least H O).1 → x ∈ H
  | [], O, x, h => h
  | y :: r, O, x, h => by
    rw [aU] at h
    by_cases hy : rk y < least
    · rw [if_pos hy] at h
      exact h
    · rw [if_neg hy] at h
      exact List.mem_cons_of_mem _ (aU_sub r (y :: O) x h)
theorem aU_out {least : Nat} : ∀ (H O : List Nat) (x : Nat), x ∈ (aU least H O).2 → x ∈ H ∨ x ∈ O
  | [], O, x, h => .inr h
  | y :: r, O, x, h => by
    rw [aU] at h
    by_cases hy : rk y < least
    · rw [if_pos hy] at h
      exact .inr h
    · rw [if_neg hy] at h
      rcases aU_out r (y :: O) x h with h | h
      · exact .inl (List.mem_cons_of_mem _ h)
      · rcases List.mem_cons.mp h with h | h
        · exact .inl (h ▸ List.mem_cons_self ..)
        · exact .inr h
theorem aU_top {least : Nat} : ∀ (H O : List Nat) (x : Nat) (r : List Nat), (aU least H O).1 = x :: r → rk x < least
  | [], O, x, r, h => nomatch (show [] = x :: r from h)
  | y :: q, O, x, r, h => by
    rw [aU] at h
    by_cases hy : rk y < least
    · rw [if_pos hy] at h
      have e : y = x := (List.cons.inj h).1
      rw [← e]
      exact hy
    · rw [if_neg hy] at h
      exact aU_top q (y :: O) x r h
/-- the reference holds H, o of them opened, and has put O out for text t -/
def MH (t : Nat) (H : List Nat) (o : Nat) (O : List Nat) (M : mS) : Prop := M.1 21 0 = nI t ∧ M.1 46 0 = nI H.length ∧ hS (M.1 45) H ∧ M.1 47 0 = nI o ∧ M.1 48 0 = nI O.length ∧ hS (fun k => M.1 19 (200 * t + k)) O ∧ ∀ x ∈ H, x ≤ 19
def mV (t : Nat) (l : List Nat) (M M1 : mS) : Prop := mU l M M1 ∧ ∀ j, j < 200 * t → M1.1 19 j = M.1 19 j
theorem mV.refl (l : List Nat) (M : mS) : mV t l M M := ⟨mU.refl _ _, fun _ _ => rfl⟩
theorem mV.trans {l : List Nat} {M M1 M2 : mS} (h : mV t l M M1) (h2 : mV t l M1 M2) : mV t l M M2 := ⟨h.1.trans h2.1, fun j hj => (h2.2 j hj).trans (h.2 j hj)⟩
theorem mV.mono {l q : List Nat} {M M1 : mS} (h : mV t l M M1) (hs : ∀ k, k ∈ l → k ∈ q) : mV t q M M1 := ⟨h.1.mono hs, h.2⟩
theorem mU.v {l : List Nat} {M M1 : mS} (h : mU l M M1) (h19 : 19 ∉ l) : mV t l M M1 := ⟨h, fun j _ => congrFun (h.1 19 h19) j⟩
theorem MH.frame {H O : List Nat} {o : Nat} {M M1 : mS} {l : List Nat} (h : MH t H o O M) (hf : mU l M M1) (h1 : 19 ∉ l) (h2 : 21 ∉ l) (h3 : 45 ∉ l) (h4 : 46 ∉ l) (h5 : 47 ∉ l) (h6 : 48 ∉ l) : MH t H o O M1 := by
  unfold MH
  rw [hf.1 19 h1, hf.1 21 h2, hf.1 45 h3, hf.1 46 h4, hf.1 47 h5, hf.1 48 h6]
  exact h
theorem md_puts {H O : List Nat} {o x : Nat} {M : mS} (h : MH t H o O M) (ht : t < 6) (hO : O.length < 200) : ∃ M1, mf_puts N M (nI x) = some M1 ∧ MH t H o (x :: O) M1 ∧ mV t [19, 48] M M1 := by
  obtain ⟨h1, h2, h3, h4, h5, h6, h7⟩ := h
  unfold mf_puts
  have e : 200 * M.1 21 0 + M.1 48 0 = nI (200 * t + O.length) := by
    rw [h1, h5, show (200 : Int32) = nI 200 from rfl, pk_mul, nI_add]
  rw [e, if_pos (sm_ok (by omega) (by omega)), sm_clamp (by omega)]
  have e48 : (ms M 19 (200 * t + O.length) (nI x)).1 48 0 + 1 = nI (O.length + 1) := by
    rw [ms_ne (by decide), h5]; exact nI_add _ 1
  rw [e48]
  have hU : mU [19, 48] M (ms (ms M 19 (200 * t + O.length) (nI x)) 48 0 (nI (O.length + 1))) := ((mU.refl _ _).ms (by decide)).ms (by decide)
  have e19 : ∀ j, (ms (ms M 19 (200 * t + O.length) (nI x)) 48 0 (nI (O.length + 1))).1 19 j = if j = 200 * t + O.length then nI x else M.1 19 j := fun j => by
    rw [ms_ne (by decide), ms_same]; rfl
  refine ⟨_, rfl, ⟨?_, ?_, ?_, ?_, rfl, ⟨?_, ?_⟩, h7⟩, hU, fun j hj => ?_⟩
  · rw [hU.1 21 (by decide)]; exact h1
  · rw [hU.1 46 (by decide)]; exact h2
  · rw [hU.1 45 (by decide)]; exact h3
  · rw [hU.1 47 (by decide)]; exact h4
  · show (ms (ms M 19 (200 * t + O.length) (nI x)) 48 0 (nI (O.length + 1))).1 19 (200 * t + O.length) = nI x
    rw [e19, if_pos rfl]
  · refine hS_congr (fun j hj => ?_) h6
    show (ms (ms M 19 (200 * t + O.length) (nI x)) 48 0 (nI (O.length + 1))).1 19 (200 * t + j) = M.1 19 (200 * t + j)
    rw [e19, if_neg (by omega)]
  · rw [e19, if_neg (by omega)]
theorem md_holds {H O : List Nat} {o x : Nat} {M : mS} (h : MH t H o O M) (hH : H.length < 200) (hx : x ≤ 19) : ∃ M1, mf_holds N M (nI x) = some M1 ∧ MH t (x :: H) o O M1 ∧ mV t [45, 46] M M1 := by
  obtain ⟨h1, h2, h3, h4, h5, h6, h7⟩ := h
  unfold mf_holds
  rw [h2, if_pos (sm_ok (by omega) (by omega)), sm_clamp (by omega)]
  have e46 : (ms M 45 H.length (nI x)).1 46 0 + 1 = nI (H.length + 1) := by
    rw [ms_ne (by decide), h2]; exact nI_add _ 1
  rw [e46]
  have hU : mU [45, 46] M (ms (ms M 45 H.length (nI x)) 46 0 (nI (H.length + 1))) := ((mU.refl _ _).ms (by decide)).ms (by decide)
  have e45 : ∀ j, (ms (ms M 45 H.length (nI x)) 46 0 (nI (H.length + 1))).1 45 j = if j = H.length then nI x else M.1 45 j := fun j => by
    rw [ms_ne (by decide), ms_same]; rfl
  refine ⟨_, rfl, ⟨?_, rfl, ⟨?_, ?_⟩, ?_, ?_, ?_, ?_⟩, hU.v (by decide)⟩
  · rw [hU.1 21 (by decide)]; exact h1
  · rw [e45, if_pos rfl]
  · refine hS_congr (fun j hj => ?_) h3
    rw [e45, if_neg (by omega)]
  · rw [hU.1 47 (by decide)]; exact h4
  · rw [hU.1 48 (by decide)]; exact h5
  · rw [hU.1 19 (by decide)]; exact h6
  · intro y hy
    rcases List.mem_cons.mp hy with hy | hy
    · rw [hy]; exact hx
    · exact h7 y hy
theorem md_unwL {least : Nat} (h0 : 1 ≤ least) (h8 : least ≤ 7) (ht : t < 6) : ∀ (H O : List Nat) (M : mS) (n : Nat), MH t H (cO H) O M → H.length + O.length < 200 → H.length < n → ∃ M1, mf_unwinds_L0 N (nI least) n M = some M1 ∧ MH t (aU least H O).1 (cO (aU least H O).1) (aU least H O).2 M1 ∧ mV t [19, 46, 47, 48] M M1
  | [], O, M, n, h, hl, hn => by
    obtain ⟨n, rfl⟩ : ∃ m, n = m + 1 := ⟨n - 1, by omega⟩
    rw [mf_unwinds_L0, h.2.1, if_pos (show nI ([] : List Nat).length ≤ (0 : Int32) from sm_len (n := 0) (m := 0) (by omega) (by omega))]
    exact ⟨M, rfl, h, mV.refl _ _⟩
  | x :: r, O, M, n, h, hl, hn => by
    rw [List.length_cons] at hl hn
    obtain ⟨n, rfl⟩ : ∃ m, n = m + 1 := ⟨n - 1, by omega⟩
    have h' := h
    obtain ⟨h1, h2, h3, h4, h5, h6, h7⟩ := h
    have hx19 : x ≤ 19 := h7 x (List.mem_cons_self ..)
    have h2 : M.1 46 0 = nI (r.length + 1) := h2
    have hx : M.1 45 r.length = nI x := h3.1
    have e46 : (ms M 46 0 (nI r.length)).1 46 0 = nI r.length := rfl
    have e45 : (ms M 46 0 (nI r.length)).1 45 r.length = nI x := (congrFun (ms_ne (by decide)) _).trans hx
    have e47 : (ms M 46 0 (nI r.length)).1 47 0 = nI (cO (x :: r)) := (congrFun (ms_ne (by decide)) 0).trans h4
    have hrk := rk_le x hx19
    rw [mf_unwinds_L0, h2, if_neg (show ¬ nI (r.length + 1) ≤ (0 : Int32) from sm_nle (m := 0) (by omega) (by omega)), nI_pred, if_pos (sm_ok (by omega) (by omega)), sm_clamp (by omega), hx, rk_m x hx19, aU]
    by_cases hlt : rk x < least
    · rw [if_pos ((sm_lt (by omega) (by omega)).mpr hlt), if_pos hlt]
      exact ⟨M, rfl, h', mV.refl _ _⟩
    · rw [if_neg (fun hh => hlt ((sm_lt (by omega) (by omega)).mp hh)), if_neg hlt, e46, if_pos (sm_ok (by omega) (by omega)), sm_clamp (by omega), e45, e47]
      have hx0 : x ≠ 0 := fun e => by rw [e] at hlt; exact hlt (show 0 < least by omega)
      have eo : nI (cO (x :: r)) - (if nI x = 13 then 1 else if nI x = 19 then 1 else 0) = nI (cO r) := by
        rw [cO, if_neg hx0]
        by_cases h13 : x = 13
        · rw [if_pos h13, h13, if_pos (show nI 13 = (13 : Int32) from rfl), Nat.add_comm]
          exact nI_pred _
        · rw [if_neg h13, if_neg (show ¬ nI x = (13 : Int32) from fun hh => h13 ((sm_eq (m := 13) (by omega) (by omega)).mp hh))]
          by_cases h19 : x = 19
          · rw [if_pos h19, h19, if_pos (show nI 19 = (19 : Int32) from rfl), Nat.add_comm]
            exact nI_pred _
          · rw [if_neg h19, if_neg (show ¬ nI x = (19 : Int32) from fun hh => h19 ((sm_eq (m := 19) (by omega) (by omega)).mp hh)), Nat.zero_add]
            exact Int32.sub_zero _
      rw [eo]
      have hU : mU [46, 47] M (ms (ms M 46 0 (nI r.length)) 47 0 (nI (cO r))) := ((mU.refl _ _).ms (by decide)).ms (by decide)
      have hM2 : MH t r (cO r) O (ms (ms M 46 0 (nI r.length)) 47 0 (nI (cO r))) := by
        refine ⟨?_, rfl, ?_, rfl, ?_, ?_, fun y hy => h7 y (List.mem_cons_of_mem _ hy)⟩
        · rw [hU.1 21 (by decide)]; exact h1
        · rw [hU.1 45 (by decide)]; exact h3.2
        · rw [hU.1 48 (by decide)]; exact h5
        · rw [hU.1 19 (by decide)]; exact h6
      obtain ⟨M3, p1, p2, p3⟩ := md_puts (N := N) (x := x) hM2 ht (by omega)
      rw [p1, bs1]
      obtain ⟨M4, q1, q2, q3⟩ := md_unwL h0 h8 ht r (x :: O) M3 n p2 (by rw [List.length_cons]; omega) (by omega)
      exact ⟨M4, q1, q2, ((hU.v (by decide)).mono (by decide)).trans ((p3.mono (by decide)).trans q3)⟩
theorem md_unw {least : Nat} {H O : List Nat} {M : mS} (hN : 2000 ≤ N) (h0 : 1 ≤ least) (h8 : least ≤ 7) (ht : t < 6) (h : MH t H (cO H) O M) (hl : H.length + O.length < 200) : ∃ M1, mf_unwinds N M (nI least) = some M1 ∧ MH t (aU least H O).1 (cO (aU least H O).1) (aU least H O).2 M1 ∧ mV t [19, 46, 47, 48] M M1 := by
  obtain ⟨M1, h1, h2, h3⟩ := md_unwL (N := N) h0 h8 ht H O M N h hl (by omega)
  unfold mf_unwinds
  rw [h1, bs1]
  exact ⟨M1, rfl, h2, h3⟩
end PMACH
