section PMOD
theorem bs1 {α σ : Type} (x : α) (f : α → Option σ) : bd1 (some x) f = f x := rfl
theorem bs2 {α β σ : Type} (x : α) (y : β) (f : α → β → Option σ) : bd2 (some (x, y)) f = f x y := rfl
theorem bs3 {α β γ σ : Type} (x : α) (y : β) (z : γ) (f : α → β → γ → Option σ) : bd3 (some (x, y, z)) f = f x y z := rfl
theorem br0_inl {ρ σ : Type} (x : ρ) (k : ρ → Option σ) (f : Unit → Option σ) : br0 (some (.inl x)) k f = k x := rfl
theorem br0_inr {ρ σ : Type} (k : ρ → Option σ) (f : Unit → Option σ) : br0 (some (.inr ())) k f = f () := rfl
theorem br1_inl {α ρ σ : Type} (x : ρ) (k : ρ → Option σ) (f : α → Option σ) : br1 (some (.inl x)) k f = k x := rfl
theorem br1_inr {α ρ σ : Type} (x : α) (k : ρ → Option σ) (f : α → Option σ) : br1 (some (.inr x)) k f = f x := rfl
theorem br2_inl {α β ρ σ : Type} (x : ρ) (k : ρ → Option σ) (f : α → β → Option σ) : br2 (some (.inl x)) k f = k x := rfl
theorem br2_inr {α β ρ σ : Type} (x : α) (y : β) (k : ρ → Option σ) (f : α → β → Option σ) : br2 (some (.inr (x, y))) k f = f x y := rfl
theorem bm0_inl {σ : Type} (r : Option σ) (f : Unit → Option σ) : bm0 (some (.inl r)) f = r := rfl
theorem bm0_inr {σ : Type} (f : Unit → Option σ) : bm0 (some (.inr ())) f = f () := rfl
theorem cl_0 : (0 : Int32).toNatClampNeg = 0 := rfl
theorem cl_1 : (1 : Int32).toNatClampNeg = 1 := rfl
theorem cl_2 : (2 : Int32).toNatClampNeg = 2 := rfl
theorem cl_3 : (3 : Int32).toNatClampNeg = 3 := rfl
theorem cl_4 : (4 : Int32).toNatClampNeg = 4 := rfl
theorem cl_5 : (5 : Int32).toNatClampNeg = 5 := rfl
theorem mA {M : mS} {a : aS} (h : mC M = a) (k : Nat) (hk : Nat.blt k 40 = true) : M.1 k = a k := by
  rw [← h]
  unfold mC
  rw [hk]
  rfl
theorem ix8 (r c : Nat) : 8 * nI r + nI c = nI (8 * r + c) := by
  rw [show (8 : Int32) = nI 8 from rfl, pk_mul, nI_add]
theorem ix4 (r c : Nat) : 4 * nI r + nI c = nI (4 * r + c) := by
  rw [show (4 : Int32) = nI 4 from rfl, pk_mul, nI_add]
theorem ix200 (r c : Nat) : 200 * nI r + nI c = nI (200 * r + c) := by
  rw [show (200 : Int32) = nI 200 from rfl, pk_mul, nI_add]
theorem ix60 (r c : Nat) : 60 * nI r + nI c = nI (60 * r + c) := by
  rw [show (60 : Int32) = nI 60 from rfl, pk_mul, nI_add]
theorem sm_clamp {n : Nat} (h : n < 100000000) : (nI n).toNatClampNeg = n := nI_clamp (by omega)
theorem sm_ok {n m : Nat} (h : n < m) (hm : m < 100000000) : ok (nI n) m = true := ok_nI h (by omega)
theorem sm_le {n m : Nat} (hn : n < 100000000) (hm : m < 100000000) : nI n ≤ nI m ↔ n ≤ m := nI_leI (by omega) (by omega)
theorem sm_lt {n m : Nat} (hn : n < 100000000) (hm : m < 100000000) : nI n < nI m ↔ n < m := nI_ltI (by omega) (by omega)
theorem sm_eq {n m : Nat} (hn : n < 100000000) (hm : m < 100000000) : nI n = nI m ↔ n = m := nI_eq (by omega) (by omega)
theorem sm_len {n m : Nat} (h : n ≤ m) (hm : m < 100000000) : nI n ≤ nI m := (sm_le (by omega) hm).mpr h
theorem sm_nle {n m : Nat} (h : m < n) (hn : n < 100000000) : ¬ nI n ≤ nI m := fun hh => absurd ((sm_le hn (by omega)).mp hh) (by omega)
section A
variable {N : Nat} {M : mS} {a : aS} {r c p q e : Nat}
theorem md_place {c : Int32} (hA : mC M = a) (hr : r < 6) : mf_placeOf N M (nI r) c = some (fPlace a r c) := by
  unfold mf_placeOf fPlace
  simp only [if_pos (sm_ok hr (by omega)), sm_clamp (show r < 100000000 by omega), mA hA 4 rfl, mA hA 6 rfl, mA hA 8 rfl]
  by_cases h1 : a 4 r = 1
  · simp only [if_pos h1]
  · simp only [if_neg h1]
    by_cases h3 : a 4 r = 3
    · simp only [if_pos h3]
    · simp only [if_neg h3]
theorem md_floor (hA : mC M = a) (hr : r < 6) : mf_floorOf N M (nI r) = some (fFloor a r) := by
  unfold mf_floorOf fFloor
  simp only [if_pos (sm_ok hr (by omega)), sm_clamp (show r < 100000000 by omega), mA hA 4 rfl, mA hA 6 rfl, mA hA 7 rfl]
  by_cases h1 : a 4 r = 2
  · simp only [if_pos h1]
  · simp only [if_neg h1]
    by_cases h3 : a 4 r = 4
    · simp only [if_pos h3]
    · simp only [if_neg h3]
theorem md_far (hA : mC M = a) (hr : r < 6) : mf_farOf N M (nI r) = some (fFar a r) := by
  unfold mf_farOf fFar
  simp only [if_pos (sm_ok hr (by omega)), sm_clamp (show r < 100000000 by omega), mA hA 4 rfl]
  by_cases h1 : a 4 r = 3
  · simp only [if_pos h1]
  · simp only [if_neg h1]
theorem md_among (hA : mC M = a) (hr : r < 6) : mf_isAmong N M (nI r) = some (fAmong a r) := by
  unfold mf_isAmong fAmong
  simp only [if_pos (sm_ok hr (by omega)), sm_clamp (show r < 100000000 by omega), mA hA 4 rfl]
  by_cases h1 : a 4 r = 4
  · rw [if_pos h1, decide_eq_true h1]; rfl
  · rw [if_neg h1, decide_eq_false h1]; rfl
theorem md_above {v : Int32} (hA : mC M = a) (hr : r < 6) : mf_above N M (nI r) v = some (fAbove a r v) := by
  unfold mf_above fAbove fLow
  simp only [if_pos (sm_ok hr (by omega)), sm_clamp (show r < 100000000 by omega), mA hA 4 rfl, mA hA 6 rfl, md_floor hA hr, bs1]
  by_cases h1 : v ≤ (if a 4 r = 5 then a 6 r else 0)
  · rw [if_pos h1, if_pos h1]
  · rw [if_neg h1, if_neg h1]
theorem IS.hr6 (hI : IS a) (hr : r < nr a) : r < 6 := by
  have := hI.1.2.1
  omega
theorem IS.hc8 (hI : IS a) (hr : r < nr a) (hc : c < ns a r) : c < 8 := by
  have := (hI.2.2.1 r hr).2.2.2.1
  omega
theorem IS.hp6 (hI : IS a) (hp : p < np a) : p < 6 := by
  have := hI.1.2.2.2.1
  omega
theorem IS.sort (hI : IS a) (hr : r < nr a) (hc : c < 8) : ok (fSort a r c) 4 = true := by
  obtain ⟨h1, h2⟩ := hI.2.2.2.1 r hr c hc
  exact (ok_of h1 (by omega) (by omega)).1
theorem md_eyes (hA : mC M = a) (hI : IS a) (hr : r < nr a) (hc : c < 8) : mf_eyesOf N M (nI r) (nI c) = some (fEyes a r c) := by
  have h6 := hI.hr6 hr
  have hs := hI.sort hr hc
  unfold mf_eyesOf fEyes
  unfold fSort at hs ⊢
  simp only [ix8, if_pos (sm_ok (show 8 * r + c < 48 by omega) (by omega)), sm_clamp (show 8 * r + c < 100000000 by omega), mA hA 9 rfl, mA hA 0 rfl, if_pos hs, md_above hA h6, bs1]
theorem md_top (hA : mC M = a) (hI : IS a) (hr : r < nr a) (hc : c < 8) : mf_topOf N M (nI r) (nI c) = some (fTop a r c) := by
  have h6 := hI.hr6 hr
  have hs := hI.sort hr hc
  unfold mf_topOf fTop
  unfold fSort at hs ⊢
  simp only [ix8, if_pos (sm_ok (show 8 * r + c < 48 by omega) (by omega)), sm_clamp (show 8 * r + c < 100000000 by omega), mA hA 9 rfl, mA hA 1 rfl, mA hA 23 rfl, mA hA 24 rfl, if_pos hs, md_above hA h6, bs1]
  by_cases h1 : nI (8 * r + c) = a 23 0
  · simp only [if_pos h1]
  · simp only [if_neg h1]
theorem md_beside {pl fr : Int32} (hA : mC M = a) (hr : r < 6) (hp : p < 6) : mf_beside N M (nI r) (nI c) (nI p) pl fr = some (fAbs (fBes a r c p pl fr)) := by
  unfold mf_beside fAbs fBes
  simp only [md_far hA hr, md_place hA hr, bs1, if_pos (sm_ok hp (by omega)), sm_clamp (show p < 100000000 by omega), mA hA 11 rfl]
  by_cases h1 : 0 ≤ ((a 11 p * fFar a r + (fPlace a r (nI c) - a 11 p) * fr) - pl * fFar a r)
  · rw [if_pos h1, if_pos h1]
  · rw [if_neg h1, if_neg h1]
theorem md_high {hi fr : Int32} (hA : mC M = a) (hI : IS a) (hr : r < nr a) (hc : c < 8) (hp : p < 6) : mf_isAsHigh N M (nI r) (nI c) (nI p) hi fr = some (fHigh a r c p hi fr) := by
  unfold mf_isAsHigh fHigh
  simp only [md_far hA (hI.hr6 hr), md_eyes hA hI hr hc, bs1, if_pos (sm_ok hp (by omega)), sm_clamp (show p < 100000000 by omega), mA hA 12 rfl]
  by_cases h1 : hi * fFar a r < a 12 p * fFar a r + (fEyes a r c - a 12 p) * fr
  · rw [if_pos h1, decide_eq_true h1]; rfl
  · rw [if_neg h1, decide_eq_false h1]; rfl
theorem md_near (hA : mC M = a) (hr : r < 6) (hp : p < 6) (hq : q < 6) : mf_isNear N M (nI r) (nI c) (nI p) (nI q) (nI e) = some (fNear a r c p q e) := by
  unfold mf_isNear fNear
  simp only [md_among hA hr, md_among hA hq, md_far hA hr, md_far hA hq, md_place hA hq, md_beside hA hr hp, bs1]
  cases h1 : fAmong a r with
  | false => simp
  | true =>
    cases h2 : fAmong a q with
    | false => simp
    | true =>
      simp only [if_true, Bool.true_and, Bool.and_self]
      by_cases h3 : fFar a r < fAbs (fBes a r c p (fPlace a q (nI e)) (fFar a q))
      · have h4 : ¬ fAbs (fBes a r c p (fPlace a q (nI e)) (fFar a q)) ≤ fFar a r := by rw [fa_le]; rw [fa_lt] at h3; omega
        simp [h3, h4]
      · have h4 : fAbs (fBes a r c p (fPlace a q (nI e)) (fFar a q)) ≤ fFar a r := by rw [fa_le]; rw [fa_lt] at h3; omega
        simp [h3, h4]
theorem md_postL (hA : mC M = a) (hI : IS a) (hr : r < 6) (hp : p < 6) : ∀ (k i n : Nat), i + k = nk a → k < n → mf_postBefore_L3 N (nI r) (nI c) (nI p) n M (nI i) = some (match fFirst (fPosts a r c p) k i with | some x => .inl (nI x) | none => .inr ())
  | 0, i, n + 1, hk, _ => by
    have e : M.1 14 0 = nI (nk a) := by rw [mA hA 14 rfl]; exact hI.1.2.2.2.2.1
    have h4 := hI.1.2.2.2.2.2
    rw [mf_postBefore_L3, e, if_pos (sm_len (by omega) (by omega))]
    rfl
  | k + 1, i, n + 1, hk, hn => by
    have e : M.1 14 0 = nI (nk a) := by rw [mA hA 14 rfl]; exact hI.1.2.2.2.2.1
    have h4 := hI.1.2.2.2.2.2
    have ih := md_postL hA hI hr hp k (i + 1) n (by omega) (by omega)
    rw [mf_postBefore_L3, e, if_neg (sm_nle (by omega) (by omega)), if_pos (sm_ok (show i < 4 by omega) (by omega)), fFirst]
    simp only [md_far hA hr, md_beside hA hr hp, bs1, sm_clamp (show i < 100000000 by omega), mA hA 15 rfl, mA hA 16 rfl, ← nI_succ, ih]
    unfold fPosts
    by_cases h1 : fFar a r ≤ a 16 i
    · have h2 : ¬ a 16 i < fFar a r := by rw [fa_lt]; rw [fa_le] at h1; omega
      simp [h1, h2]
    · have h2 : a 16 i < fFar a r := by rw [fa_lt]; rw [fa_le] at h1; omega
      by_cases h3 : fFar a r ≤ fAbs (fBes a r c p (a 15 i) (a 16 i))
      · have h5 : ¬ fAbs (fBes a r c p (a 15 i) (a 16 i)) < fFar a r := by rw [fa_lt]; rw [fa_le] at h3; omega
        simp [h1, h2, h3, h5]
      · have h5 : fAbs (fBes a r c p (a 15 i) (a 16 i)) < fFar a r := by rw [fa_lt]; rw [fa_le] at h3; omega
        simp [h1, h2, h3, h5]
theorem md_post (hN : 2000 ≤ N) (hA : mC M = a) (hI : IS a) (hr : r < 6) (hp : p < 6) : mf_postBefore N M (nI r) (nI c) (nI p) = some (fPostI a r c p) := by
  unfold mf_postBefore fPostI fPost
  have h4 := hI.1.2.2.2.2.2
  have h := md_postL (N := N) (c := c) hA hI hr hp (nk a) 0 N (by omega) (by omega)
  rw [nI_0] at h
  rw [h]
  cases fFirst (fPosts a r c p) (nk a) 0 with
  | none => rfl
  | some x => rfl
theorem md_seatL (hA : mC M = a) (hI : IS a) (hr : r < nr a) (hc : c < 8) (hp : p < 6) (hq : q < nr a) : ∀ (k i n : Nat), i + k = ns a q → k < n → mf_hiderOf_L12 N (nI r) (nI c) (nI p) (nI q) n M (nI i) = some (match fFirst (fHid a r c p q) k i with | some x => .inl (10 * nI q + nI x) | none => .inr ())
  | 0, i, n + 1, hk, _ => by
    have h6 := hI.hr6 hq
    have e := hI.2.2.1 q hq
    rw [mf_hiderOf_L12, if_pos (sm_ok h6 (by omega)), sm_clamp (show q < 100000000 by omega), mA hA 5 rfl, e.2.1, if_pos (sm_len (by omega) (by omega))]
    rfl
  | k + 1, i, n + 1, hk, hn => by
    have h6 := hI.hr6 hq
    have e := hI.2.2.1 q hq
    have hi8 : i < 8 := by omega
    have ih := md_seatL hA hI hr hc hp hq k (i + 1) n (by omega) (by omega)
    rw [mf_hiderOf_L12, if_pos (sm_ok h6 (by omega)), sm_clamp (show q < 100000000 by omega), mA hA 5 rfl, e.2.1, if_neg (sm_nle (by omega) (by omega)), fFirst]
    simp only [md_near hA (hI.hr6 hr) hp h6, md_top hA hI hq hi8, md_far hA h6, md_high hA hI hr hc hp, bs1, ← nI_succ, ih]
    unfold fHid
    cases fNear a r c p q i with
    | false => simp
    | true =>
      cases fHigh a r c p (fTop a q i) (fFar a q) with
      | false => simp
      | true => simp
theorem md_headsL (hN : 2000 ≤ N) (hA : mC M = a) (hI : IS a) (hr : r < nr a) (hc : c < 8) (hp : p < 6) : ∀ (k i n : Nat), i + k = r → k < n → mf_hiderOf_L3 N (nI r) (nI c) (nI p) n M (nI i) = some (match fHeads a r c p k i with | some x => .inl x | none => .inr ())
  | 0, i, n + 1, hk, _ => by
    have h6 := hI.hr6 hr
    rw [mf_hiderOf_L3, if_pos (sm_len (by omega) (by omega))]
    rfl
  | k + 1, i, n + 1, hk, hn => by
    have h6 := hI.hr6 hr
    have hq : i < nr a := by omega
    have e := hI.2.2.1 i hq
    have ih := md_headsL hN hA hI hr hc hp k (i + 1) n (by omega) (by omega)
    have hs := md_seatL (N := N) hA hI hr hc hp hq (ns a i) 0 N (by omega) (by omega)
    rw [nI_0] at hs
    rw [mf_hiderOf_L3, if_neg (sm_nle (by omega) (by omega)), hs, fHeads, ← nI_succ]
    cases fFirst (fHid a r c p i) (ns a i) 0 with
    | some x => rfl
    | none => exact ih
theorem md_hider (hN : 2000 ≤ N) (hA : mC M = a) (hI : IS a) (hr : r < nr a) (hc : c < 8) (hp : p < 6) : mf_hiderOf N M (nI r) (nI c) (nI p) = some (fHider a r c p) := by
  have h6 := hI.hr6 hr
  have h := md_headsL hN hA hI hr hc hp r 0 N (by omega) (by omega)
  rw [nI_0] at h
  unfold mf_hiderOf fHider
  rw [h]
  cases fHeads a r c p r 0 with
  | some x => rfl
  | none =>
    show bd1 (mf_postBefore N M (nI r) (nI c) (nI p)) _ = _
    rw [md_post hN hA hI h6 hp]
    unfold fPostI fPost
    cases hx : fFirst (fPosts a r c p) (nk a) 0 with
    | none => rfl
    | some x =>
      have := (fFirst_some hx).2.1
      have h4 := hI.1.2.2.2.2.2
      have hne : ¬ nI x = -1 := by
        rw [fa_eq, nI_toInt (by omega)]
        show ¬ (x : Int) = -1
        omega
      simp only [bs1, if_neg hne]
end A
end PMOD
