section PASK5
/-! two sitters change places -/
def xsw (X : xS) (r c q e : Nat) : xS := xs (xs X (80 + 4 * r) c (X.1 (80 + 4 * q) e)) (80 + 4 * q) e (X.1 (80 + 4 * r) c)
def msw (M : mS) (i j : Nat) : mS := ms (ms M 9 i (M.1 9 j)) 9 j (M.1 9 i)
def asw (a : aS) (i j : Nat) : aS := aw (aw a 9 i (a 9 j)) 9 j (a 9 i)
theorem xsw_at (X : xS) (r c q e j i : Nat) : (xsw X r c q e).1 j i = if j = 80 + 4 * q ∧ i = e then X.1 (80 + 4 * r) c else if j = 80 + 4 * r ∧ i = c then X.1 (80 + 4 * q) e else X.1 j i := by
  unfold xsw
  by_cases h1 : j = 80 + 4 * q
  · subst h1
    rw [xs_same, upd_at]
    by_cases h2 : i = e
    · rw [if_pos h2, if_pos ⟨rfl, h2⟩]
    · rw [if_neg h2, if_neg (fun hh => h2 hh.2)]
      by_cases h3 : 80 + 4 * q = 80 + 4 * r
      · rw [h3, xs_same, upd_at]
        by_cases h4 : i = c
        · rw [if_pos h4, if_pos ⟨rfl, h4⟩]
        · rw [if_neg h4, if_neg (fun hh => h4 hh.2)]
      · rw [xs_ne h3, if_neg (fun hh => h3 hh.1)]
  · rw [xs_ne h1, if_neg (fun hh => h1 hh.1)]
    by_cases h3 : j = 80 + 4 * r
    · subst h3
      rw [xs_same, upd_at]
      by_cases h4 : i = c
      · rw [if_pos h4, if_pos ⟨rfl, h4⟩]
      · rw [if_neg h4, if_neg (fun hh => h4 hh.2)]
    · rw [xs_ne h3, if_neg (fun hh => h3 hh.1)]
theorem msw_at (M : mS) (i j k l : Nat) : (msw M i j).1 k l = if k = 9 ∧ l = j then M.1 9 i else if k = 9 ∧ l = i then M.1 9 j else M.1 k l := by
  unfold msw
  by_cases h1 : k = 9
  · subst h1
    simp only [ms_same, upd_at, true_and]
  · rw [ms_ne h1, ms_ne h1, if_neg (fun hh => h1 hh.1), if_neg (fun hh => h1 hh.1)]
theorem xsw_xsw {X : xS} {r c q e : Nat} : xsw (xsw X r c q e) r c q e = X := by
  refine xS_ext (fun j => ?_) rfl
  funext i
  rw [xsw_at, xsw_at, xsw_at, xsw_at]
  by_cases h1 : j = 80 + 4 * q ∧ i = e
  · rw [if_pos h1]
    obtain ⟨rfl, rfl⟩ := h1
    by_cases h2 : 80 + 4 * r = 80 + 4 * q ∧ c = i
    · rw [if_pos h2, h2.1, h2.2]
    · rw [if_neg h2, if_pos ⟨rfl, rfl⟩]
  · rw [if_neg h1]
    by_cases h2 : j = 80 + 4 * r ∧ i = c
    · rw [if_pos h2, if_pos ⟨rfl, rfl⟩]
      obtain ⟨rfl, rfl⟩ := h2
      rfl
    · rw [if_neg h2, if_neg h1, if_neg h2]
theorem msw_msw {M : mS} {i j : Nat} : msw (msw M i j) i j = M := by
  refine mS_ext (fun k => ?_) rfl
  funext l
  rw [msw_at, msw_at, msw_at, msw_at]
  by_cases h1 : k = 9 ∧ l = j
  · rw [if_pos h1]
    obtain ⟨rfl, rfl⟩ := h1
    by_cases h2 : 9 = 9 ∧ i = l
    · rw [if_pos h2, h2.2]
    · rw [if_neg h2, if_pos ⟨rfl, rfl⟩]
  · rw [if_neg h1]
    by_cases h2 : k = 9 ∧ l = i
    · rw [if_pos h2, if_pos ⟨rfl, rfl⟩]
      obtain ⟨rfl, rfl⟩ := h2
      rfl
    · rw [if_neg h2, if_neg h1, if_neg h2]
theorem q_sw {X Y : xS} {r c q e : Nat} (h : xQ X Y) : xQ (xsw X r c q e) (xsw Y r c q e) := by
  unfold xsw
  rw [h.1 _ (xcore_row r), h.1 _ (xcore_row q)]
  exact q_xs (xcore_row q) (q_xs (xcore_row r) h)
theorem e_sw {M Y : mS} {i j : Nat} (h : mE M Y) : mE (msw M i j) (msw Y i j) := by
  unfold msw
  rw [e_at h (k := 9) rfl]
  exact e_ms rfl (e_ms rfl h)
theorem sw_back {X Y : xS} {r c q e : Nat} (h : xQ (xsw X r c q e) Y) : xQ X (xsw Y r c q e) := by
  have := q_sw (r := r) (c := c) (q := q) (e := e) h
  rw [xsw_xsw] at this
  exact this
theorem sw_backM {M Y : mS} {i j : Nat} (h : mE (msw M i j) Y) : mE M (msw Y i j) := by
  have := e_sw (i := i) (j := j) h
  rw [msw_msw] at this
  exact this
theorem mC_sw {M : mS} {i j : Nat} : mC (msw M i j) = asw (mC M) i j := by
  unfold msw asw
  rw [mC_aw rfl, mC_aw rfl]
  rfl
section A
variable {N : Nat} {a : aS} {X : xS} {r c q e : Nat}
theorem RS.sw (h : RS X a) (hz : X.1 20 0 = -1) (hr : r < nr a) (hc : c < 8) (hq : q < nr a) (he : e < 8) : RS (xsw X r c q e) (asw a (8 * r + c) (8 * q + e)) := by
  have e1 := h.2.2.2.1 q hq e he
  have e2 := h.2.2.2.1 r hr c hc
  rw [if_pos hz] at e1 e2
  unfold xsw asw
  rw [e1, e2]
  exact (h.sit hz hc).sit (by rw [xs_ne (by omega)]; exact hz) he
theorem IS.sw (h : IS a) (hr : r < nr a) (hc : c < 8) (hq : q < nr a) (he : e < 8) : IS (asw a (8 * r + c) (8 * q + e)) := by
  unfold asw
  exact (h.sit hc (h.2.2.2.1 q hq e he)).sit he (h.2.2.2.1 r hr c hc)
theorem px_change (hI : IS a) (hn : X.2.2.1 = nr a) (hr : r < nr a) (hc : c < 8) (hq : q < nr a) (he : e < 8) : xf_X_changePlaces N X (nI r) (nI c) (nI q) (nI e) = some (xsw X r c q e) := by
  have h6 := hI.1.2.1
  unfold xf_X_changePlaces xsw
  rw [sm_clamp (show r < 100000000 by omega), sm_clamp (show c < 100000000 by omega), sm_clamp (show q < 100000000 by omega), sm_clamp (show e < 100000000 by omega), if_pos (by omega), if_pos (sm_ok hc (by omega)), if_pos (by omega), if_pos (sm_ok he (by omega))]
theorem md_change {M : mS} {i j : Nat} (hi : i < 48) (hj : j < 48) : mf_changes N M (nI i) (nI j) = some (msw M i j) := by
  unfold mf_changes msw
  rw [sm_clamp (show i < 100000000 by omega), sm_clamp (show j < 100000000 by omega), if_pos (sm_ok hi (by omega)), if_pos (sm_ok hj (by omega))]
/-- ALL WORTH, did these change places -/
def fSw (a : aS) (i j : Nat) : Int32 := fAll (asw a i j)
theorem px_swapped (hN : 2000 ≤ N) (hI : IS a) (hR : RS X a) (hz : X.1 20 0 = -1) (hr : r < nr a) (hc : c < 8) (hq : q < nr a) (he : e < 8) : ∃ Y, xf_X_worthSwapped N X (nI r) (nI c) (nI q) (nI e) = some (fSw a (8 * r + c) (8 * q + e), Y) ∧ xQ X Y := by
  obtain ⟨Y, y1, y2⟩ := px_all hN (hI.sw hr hc hq he) (hR.sw hz hr hc hq he)
  unfold xf_X_worthSwapped
  have hn : Y.2.2.1 = nr a := by rw [y2.2]; exact hR.1.2.2.2
  rw [px_change hI hR.1.2.2.2 hr hc hq he, bs1, y1, bs2, px_change hI hn hr hc hq he, bs1]
  exact ⟨_, rfl, sw_back y2⟩
theorem md_gain (hN : 2000 ≤ N) {M : mS} (hA : mC M = a) (hI : IS a) (hr : r < nr a) (hc : c < 8) (hq : q < nr a) (he : e < 8) : ∃ Y, mf_gainBy N M (nI (8 * r + c)) (nI (8 * q + e)) = some (fSw a (8 * r + c) (8 * q + e) - fAll a, Y) ∧ mE M Y := by
  have h6 := hI.1.2.1
  obtain ⟨M1, m1, m2⟩ := md_all hN hI hA
  have hA1 := m2.1.trans hA
  obtain ⟨M2, m3, m4⟩ := md_all hN (hI.sw hr hc hq he) (show mC (msw M1 (8 * r + c) (8 * q + e)) = _ by rw [mC_sw, hA1])
  unfold mf_gainBy
  rw [m1, bs2, md_change (by omega) (by omega), bs1, m3, bs2, md_change (by omega) (by omega), bs1]
  exact ⟨_, rfl, m2.trans (sw_backM m4)⟩
theorem st_swap {X : xS} {M : mS} (hN : 2000 ≤ N) (h : Rl X M) (x y z w : Int32) : ∃ r X1 M1, xf_X_swap N X x y z w = some (r, X1) ∧ mf_swap N M x y z w = some (r, M1) ∧ Rl X1 M1 := by
  have hh := seat_cases (N := N) h x y
  have hh2 := seat_cases (N := N) h z w
  obtain ⟨h1, h2, h3, h4, h5⟩ := id h
  unfold xf_X_swap mf_swap
  rcases hh with ⟨r, c, hr, hc, hc8, rfl, rfl, q1, q2⟩ | ⟨q1, q2⟩
  · have h6 := h3.hr6 hr
    rw [q1, q2, bs1, bs1, if_neg (nI_pos (by omega)), if_pos rfl]
    rcases hh2 with ⟨q, e, hq, he, he8, rfl, rfl, q3, q4⟩ | ⟨q3, q4⟩
    · have h62 := h3.hr6 hq
      obtain ⟨X1, w1, w2⟩ := px_all hN h3 h1
      obtain ⟨X2, w3, w4⟩ := px_swapped hN h3 (h1.frame w2) (by rw [w2.1 20 rfl]; exact h2.1.1) hr hc8 hq he8
      obtain ⟨M2, m1, m2⟩ := md_gain hN (M := M) rfl h3 hr hc8 hq he8
      rw [q3, q4, bs1, bs1, if_neg (nI_pos (by omega)), if_pos rfl, w1, bs2, w3, bs2, ix8, ix8, m1, bs2]
      exact ⟨_, _, _, rfl, rfl, h.same (w2.trans w4) m2⟩
    · rw [q3, q4]
      exact ⟨_, X, M, rfl, rfl, h⟩
  · rw [q1, q2]
    rcases hh2 with ⟨q, e, hq, he, he8, rfl, rfl, q3, q4⟩ | ⟨q3, q4⟩
    · have h62 := h3.hr6 hq
      rw [bs1, if_pos (show (-1 : Int32) < 0 by decide), q3, bs1, if_neg (nI_pos (by omega))]
      exact ⟨_, X, M, rfl, rfl, h⟩
    · rw [bs1, if_pos (show (-1 : Int32) < 0 by decide), q3, bs1, if_pos (show (-1 : Int32) < 0 by decide)]
      exact ⟨_, X, M, rfl, rfl, h⟩
/-! the best two of a row -/
def fPair2 (a : aS) (r c : Nat) : Nat → Nat → Int32 → Int32 → Int32 × Int32
  | 0, _, b, m => (b, m)
  | k + 1, e, b, m => if a 9 (8 * r + c) = a 9 (8 * r + e) then fPair2 a r c k (e + 1) b m else if fSw a (8 * r + c) (8 * r + e) ≤ m then fPair2 a r c k (e + 1) b m else fPair2 a r c k (e + 1) (10 * nI c + nI e) (fSw a (8 * r + c) (8 * r + e))
def fPair (a : aS) (r : Nat) : Nat → Nat → Int32 → Int32 → Int32 × Int32
  | 0, _, b, m => (b, m)
  | k + 1, c, b, m => fPair a r k (c + 1) (fPair2 a r c (ns a r - (c + 1)) (c + 1) b m).1 (fPair2 a r c (ns a r - (c + 1)) (c + 1) b m).2
/-- what is found so far -/
def pOK (a : aS) (r : Nat) (b m : Int32) : Prop := ((b = -1 ∧ m = fAll a) ∨ ∃ c e, c < e ∧ e < ns a r ∧ b = nI (10 * c + e) ∧ m = fSw a (8 * r + c) (8 * r + e)) ∧ iv m 0 28512 ∧ (fAll a).toInt ≤ m.toInt
theorem fSw_iv (hI : IS a) (hr : r < nr a) (hc : c < 8) (hq : q < nr a) (he : e < 8) : iv (fSw a (8 * r + c) (8 * q + e)) 0 28512 := fAll_iv (hI.sw hr hc hq he)
theorem pOK_2 (hI : IS a) (hr : r < nr a) : ∀ (k e c : Nat) (b m : Int32), c < e → e + k = ns a r → pOK a r b m → pOK a r (fPair2 a r c k e b m).1 (fPair2 a r c k e b m).2
  | 0, _, _, _, _, _, _, h => h
  | k + 1, e, c, b, m, hce, hk, h => by
    have e8 := (hI.2.2.1 r hr).2.2.2.1
    rw [fPair2]
    by_cases h1 : a 9 (8 * r + c) = a 9 (8 * r + e)
    · rw [if_pos h1]
      exact pOK_2 hI hr k (e + 1) c b m (by omega) (by omega) h
    · rw [if_neg h1]
      by_cases h2 : fSw a (8 * r + c) (8 * r + e) ≤ m
      · rw [if_pos h2]
        exact pOK_2 hI hr k (e + 1) c b m (by omega) (by omega) h
      · rw [if_neg h2]
        refine pOK_2 hI hr k (e + 1) c _ _ (by omega) (by omega) ⟨.inr ⟨c, e, hce, by omega, ?_, rfl⟩, fSw_iv hI hr (by omega) hr (by omega), ?_⟩
        · rw [show (10 : Int32) = nI 10 from rfl, pk_mul, nI_add]
        · rw [fa_le] at h2
          have := h.2.2
          omega
theorem pOK_1 (hI : IS a) (hr : r < nr a) : ∀ (k c : Nat) (b m : Int32), c + k = ns a r → pOK a r b m → pOK a r (fPair a r k c b m).1 (fPair a r k c b m).2
  | 0, _, _, _, _, h => h
  | k + 1, c, b, m, hk, h => by
    rw [fPair]
    exact pOK_1 hI hr k (c + 1) _ _ (by omega) (pOK_2 hI hr _ _ _ _ _ (by omega) (by omega) h)
theorem px_pairL2 (hN : 2000 ≤ N) (hI : IS a) (hr : r < nr a) (hc : c < 8) : ∀ (k e n : Nat) (X : xS) (b m : Int32), RS X a → X.1 20 0 = -1 → e + k = ns a r → k < n → ∃ Y, xf_X_bestSwap_L23 N (nI r) (nI c) n X b m (nI e) = some ((fPair2 a r c k e b m).1, (fPair2 a r c k e b m).2, Y) ∧ xQ X Y
  | 0, e, n + 1, X, b, m, hR, hz, hk, _ => by
    have h6 := hI.hr6 hr
    have e1 := hI.2.2.1 r hr
    have e2 := (hR.2.2.1 r hr).2.2.1
    refine ⟨X, ?_, xQ.refl X⟩
    rw [xf_X_bestSwap_L23, sm_clamp (show r < 100000000 by omega), if_pos (by rw [hR.1.2.2.2]; exact hr), e2, e1.2.1, if_pos (sm_len (by omega) (by omega))]
    rfl
  | k + 1, e, n + 1, X, b, m, hR, hz, hk, hn => by
    have h6 := hI.hr6 hr
    have e1 := hI.2.2.1 r hr
    have e2 := (hR.2.2.1 r hr).2.2.1
    have he8 : e < 8 := by omega
    have s1 := hR.2.2.2.1 r hr c hc
    have s2 := hR.2.2.2.1 r hr e he8
    rw [if_pos hz] at s1 s2
    rw [xf_X_bestSwap_L23, sm_clamp (show r < 100000000 by omega), if_pos (by rw [hR.1.2.2.2]; exact hr), e2, e1.2.1, if_neg (sm_nle (by omega) (by omega)), if_pos (sm_ok hc (by omega)), if_pos (sm_ok he8 (by omega)), sm_clamp (show c < 100000000 by omega), sm_clamp (show e < 100000000 by omega), ← s1, ← s2, ← nI_succ, fPair2]
    by_cases h1 : a 9 (8 * r + c) = a 9 (8 * r + e)
    · obtain ⟨Y, y1, y2⟩ := px_pairL2 hN hI hr hc k (e + 1) n X b m hR hz (by omega) (by omega)
      refine ⟨Y, ?_, y2⟩
      rw [if_pos h1, if_pos h1]
      exact y1
    · obtain ⟨Z, z1, z2⟩ := px_all hN (hI.sw hr hc hr he8) (hR.sw hz hr hc hr he8)
      have hq := sw_back z2
      have hn2 : Z.2.2.1 = nr a := by rw [z2.2]; exact hR.1.2.2.2
      have hz2 : (xsw Z r c r e).1 20 0 = -1 := by rw [hq.1 20 rfl]; exact hz
      rw [if_neg h1, if_neg h1, px_change hI hR.1.2.2.2 hr hc hr he8, bs1, z1, bs2, px_change hI hn2 hr hc hr he8, bs1]
      by_cases h2 : fSw a (8 * r + c) (8 * r + e) ≤ m
      · obtain ⟨Y, y1, y2⟩ := px_pairL2 hN hI hr hc k (e + 1) n _ b m (hR.frame hq) hz2 (by omega) (by omega)
        refine ⟨Y, ?_, hq.trans y2⟩
        rw [if_pos h2]
        unfold fSw at h2
        rw [if_pos h2]
        exact y1
      · obtain ⟨Y, y1, y2⟩ := px_pairL2 hN hI hr hc k (e + 1) n _ (10 * nI c + nI e) (fSw a (8 * r + c) (8 * r + e)) (hR.frame hq) hz2 (by omega) (by omega)
        refine ⟨Y, ?_, hq.trans y2⟩
        rw [if_neg h2]
        unfold fSw at h2 y1 ⊢
        rw [if_neg h2]
        exact y1
theorem px_pairL (hN : 2000 ≤ N) (hI : IS a) (hr : r < nr a) : ∀ (k c n : Nat) (X : xS) (b m : Int32), RS X a → X.1 20 0 = -1 → c + k = ns a r → k < n → ∃ Y, xf_X_bestSwap_L8 N (nI r) n X b m (nI c) = some ((fPair a r k c b m).1, Y) ∧ xQ X Y
  | 0, c, n + 1, X, b, m, hR, hz, hk, _ => by
    have h6 := hI.hr6 hr
    have e1 := hI.2.2.1 r hr
    have e2 := (hR.2.2.1 r hr).2.2.1
    refine ⟨X, ?_, xQ.refl X⟩
    rw [xf_X_bestSwap_L8, sm_clamp (show r < 100000000 by omega), if_pos (by rw [hR.1.2.2.2]; exact hr), e2, e1.2.1, if_pos (sm_len (by omega) (by omega))]
    rfl
  | k + 1, c, n + 1, X, b, m, hR, hz, hk, hn => by
    have h6 := hI.hr6 hr
    have e1 := hI.2.2.1 r hr
    have e2 := (hR.2.2.1 r hr).2.2.1
    obtain ⟨Y, y1, y2⟩ := px_pairL2 hN hI hr (show c < 8 by omega) (ns a r - (c + 1)) (c + 1) N X b m hR hz (by omega) (by omega)
    obtain ⟨Z, z1, z2⟩ := px_pairL hN hI hr k (c + 1) n Y (fPair2 a r c (ns a r - (c + 1)) (c + 1) b m).1 (fPair2 a r c (ns a r - (c + 1)) (c + 1) b m).2 (hR.frame y2) (by rw [y2.1 20 rfl]; exact hz) (by omega) (by omega)
    refine ⟨Z, ?_, y2.trans z2⟩
    rw [xf_X_bestSwap_L8, sm_clamp (show r < 100000000 by omega), if_pos (by rw [hR.1.2.2.2]; exact hr), e2, e1.2.1, if_neg (sm_nle (by omega) (by omega)), ← nI_succ, y1, bs3, fPair]
    exact z1
/-- the best two, and what ALL WORTH is with them -/
def fFind (a : aS) (r : Nat) : Int32 × Int32 := fPair a r (ns a r) 0 (-1) (fAll a)
theorem pOK_0 (hI : IS a) : pOK a r (-1) (fAll a) := ⟨.inl ⟨rfl, rfl⟩, fAll_iv hI, Int.le_refl _⟩
theorem fFind_ok (hI : IS a) (hr : r < nr a) : pOK a r (fFind a r).1 (fFind a r).2 := pOK_1 hI hr _ _ _ _ (by omega) (pOK_0 hI)
theorem px_best (hN : 2000 ≤ N) (hI : IS a) (hr : r < nr a) (hR : RS X a) (hz : X.1 20 0 = -1) : ∃ Y, xf_X_bestSwap N X (nI r) (fAll a) = some ((fFind a r).1, Y) ∧ xQ X Y := by
  have e8 := (hI.2.2.1 r hr).2.2.2.1
  obtain ⟨Y, y1, y2⟩ := px_pairL hN hI hr (ns a r) 0 N X (-1) (fAll a) hR hz (by omega) (by omega)
  rw [nI_0] at y1
  unfold xf_X_bestSwap
  rw [y1, bs2]
  exact ⟨Y, rfl, y2⟩
/-- what the reference keeps of it -/
def mF (M Y : mS) (b m : Int32) : Prop := mC Y = mC M ∧ Y.2 44 = M.2 44 ∧ Y.1 56 0 = b ∧ Y.1 57 0 = m - fAll (mC M)
theorem sub_le {x y z : Int32} (hx : iv x 0 28512) (hy : iv y 0 28512) (hz : iv z 0 28512) : (x - z ≤ y - z) ↔ x ≤ y := by
  have h1 := (iv_sub hx hz (by omega) (by omega)).2
  have h2 := (iv_sub hy hz (by omega) (by omega)).2
  rw [fa_le, fa_le, h1, h2]
  omega
theorem md_pairL2 (hN : 2000 ≤ N) {M : mS} (hA : mC M = a) (hI : IS a) (hr : r < nr a) (hc : c < 8) : ∀ (k e n : Nat) (Y : mS) (b m : Int32), c < e → mF M Y b m → pOK a r b m → e + k = ns a r → k < n → ∃ Z, mf_finds_L26 N (nI r) (nI c) n Y (nI e) = some Z ∧ mF M Z (fPair2 a r c k e b m).1 (fPair2 a r c k e b m).2
  | 0, e, n + 1, Y, b, m, hce, hF, hP, hk, _ => by
    have h6 := hI.hr6 hr
    have e1 := hI.2.2.1 r hr
    have hAY := hF.1.trans hA
    refine ⟨Y, ?_, hF⟩
    rw [mf_finds_L26, if_pos (sm_ok h6 (by omega)), sm_clamp (show r < 100000000 by omega), mA hAY 5 rfl, e1.2.1, if_pos (sm_len (by omega) (by omega))]
  | k + 1, e, n + 1, Y, b, m, hce, hF, hP, hk, hn => by
    have h6 := hI.hr6 hr
    have e1 := hI.2.2.1 r hr
    have hAY := hF.1.trans hA
    have he8 : e < 8 := by omega
    have hW := fAll_iv hI
    rw [mf_finds_L26, if_pos (sm_ok h6 (by omega)), sm_clamp (show r < 100000000 by omega), mA hAY 5 rfl, e1.2.1, if_neg (sm_nle (by omega) (by omega)), ix8, ix8, if_pos (sm_ok (show 8 * r + c < 48 by omega) (by omega)), if_pos (sm_ok (show 8 * r + e < 48 by omega) (by omega)), sm_clamp (show 8 * r + c < 100000000 by omega), sm_clamp (show 8 * r + e < 100000000 by omega), mA hAY 9 rfl, ← nI_succ, fPair2]
    by_cases h1 : a 9 (8 * r + c) = a 9 (8 * r + e)
    · have h0 : (0 : Int32) ≤ Y.1 57 0 := by
        rw [hF.2.2.2, hA, fa_le, (iv_sub hP.2.1 hW (by omega) (by omega)).2, toI_0]
        have := hP.2.2
        omega
      rw [if_pos h1, if_pos h1, bs2, if_pos h0]
      exact md_pairL2 hN hA hI hr hc k (e + 1) n Y b m (by omega) hF hP (by omega) (by omega)
    · obtain ⟨Z, z1, z2⟩ := md_gain hN hAY hI hr hc hr he8
      have hFZ : mF M Z b m := ⟨z2.1.trans hF.1, z2.2.1.trans hF.2.1, by rw [z2.2.2 56 (by omega) (by omega)]; exact hF.2.2.1, by rw [z2.2.2 57 (by omega) (by omega)]; exact hF.2.2.2⟩
      have hs := fSw_iv hI hr hc hr he8
      have hle : fSw a (8 * r + c) (8 * r + e) - fAll a ≤ Z.1 57 0 ↔ fSw a (8 * r + c) (8 * r + e) ≤ m := by
        rw [hFZ.2.2.2, hA]
        exact sub_le hs hP.2.1 hW
      rw [if_neg h1, if_neg h1, z1, bs2, bs2]
      by_cases h2 : fSw a (8 * r + c) (8 * r + e) ≤ m
      · rw [if_pos (hle.mpr h2), if_pos h2]
        exact md_pairL2 hN hA hI hr hc k (e + 1) n Z b m (by omega) hFZ hP (by omega) (by omega)
      · rw [if_neg (fun hh => h2 (hle.mp hh)), if_neg h2]
        refine md_pairL2 hN hA hI hr hc k (e + 1) n _ _ _ (by omega) ⟨?_, hFZ.2.1, ?_, ?_⟩ ⟨.inr ⟨c, e, hce, by omega, ?_, rfl⟩, hs, ?_⟩ (by omega) (by omega)
        · rw [mC_ms (by omega), mC_ms (by omega)]
          exact hFZ.1
        · rw [ms_ne (by omega), ms_same, pk_us]
        · rw [ms_same, pk_us, hA]
        · rw [show (10 : Int32) = nI 10 from rfl, pk_mul, nI_add]
        · rw [fa_le] at h2
          have := hP.2.2
          omega
theorem md_pairL (hN : 2000 ≤ N) {M : mS} (hA : mC M = a) (hI : IS a) (hr : r < nr a) : ∀ (k c n : Nat) (Y : mS) (b m : Int32), mF M Y b m → pOK a r b m → c + k = ns a r → k < n → ∃ Z, mf_finds_L12 N (nI r) n Y (nI c) = some Z ∧ mF M Z (fPair a r k c b m).1 (fPair a r k c b m).2
  | 0, c, n + 1, Y, b, m, hF, hP, hk, _ => by
    have h6 := hI.hr6 hr
    have e1 := hI.2.2.1 r hr
    have hAY := hF.1.trans hA
    refine ⟨Y, ?_, hF⟩
    rw [mf_finds_L12, if_pos (sm_ok h6 (by omega)), sm_clamp (show r < 100000000 by omega), mA hAY 5 rfl, e1.2.1, if_pos (sm_len (by omega) (by omega))]
  | k + 1, c, n + 1, Y, b, m, hF, hP, hk, hn => by
    have h6 := hI.hr6 hr
    have e1 := hI.2.2.1 r hr
    have hAY := hF.1.trans hA
    obtain ⟨Z, z1, z2⟩ := md_pairL2 hN hA hI hr (show c < 8 by omega) (ns a r - (c + 1)) (c + 1) N Y b m (by omega) hF hP (by omega) (by omega)
    obtain ⟨V, v1, v2⟩ := md_pairL hN hA hI hr k (c + 1) n Z _ _ z2 (pOK_2 hI hr _ _ _ _ _ (by omega) (by omega) hP) (by omega) (by omega)
    refine ⟨V, ?_, v2⟩
    rw [mf_finds_L12, if_pos (sm_ok h6 (by omega)), sm_clamp (show r < 100000000 by omega), mA hAY 5 rfl, e1.2.1, if_neg (sm_nle (by omega) (by omega)), ← nI_succ, z1, bs1]
    exact v1
theorem md_finds (hN : 2000 ≤ N) {M : mS} (hA : mC M = a) (hI : IS a) (hr : r < nr a) : ∃ Z, mf_finds N M (nI r) = some Z ∧ mF M Z (fFind a r).1 (fFind a r).2 := by
  have e8 := (hI.2.2.1 r hr).2.2.2.1
  obtain ⟨Z, z1, z2⟩ := md_pairL hN hA hI hr (ns a r) 0 N (ms (ms M 56 0 (-1)) 57 0 0) (-1) (fAll a) ⟨by rw [mC_ms (by omega), mC_ms (by omega)], rfl, by rw [ms_ne (by omega), ms_same, pk_us], by rw [ms_same, pk_us, hA, Int32.sub_self]⟩ (pOK_0 hI) (by omega) (by omega)
  rw [nI_0] at z1
  unfold mf_finds
  rw [z1, bs1]
  exact ⟨Z, rfl, z2⟩
theorem mF.l {M Y : mS} {b m : Int32} (h : mF M Y b m) : mL M Y := ⟨h.1, h.2.1⟩
theorem dig {c e : Nat} (he : e < 8) (hc : c < 8) : nI (10 * c + e) / 10 = nI c ∧ nI (10 * c + e) - nI (10 * c + e) / 10 * 10 = nI e := by
  rw [show (10 : Int32) = nI 10 from rfl]
  refine ⟨?_, ?_⟩
  · rw [pk_div (by omega) (by omega) (by omega), show (10 * c + e) / 10 = c by omega]
  · rw [pk_rem (by omega) (by omega) (by omega), show (10 * c + e) % 10 = e by omega]
theorem nI_ne_m1 {n : Nat} (h : n < 100000000) : ¬ nI n = -1 := by
  rw [fa_eq, nI_toInt (by omega)]
  show ¬ (n : Int) = -1
  omega
theorem st_people {X : xS} {M : mS} (hN : 2000 ≤ N) (h : Rl X M) (x y : Int32) : ∃ r X1 M1, xf_X_people N X x y = some (r, X1) ∧ mf_people N M x y = some (r, M1) ∧ Rl X1 M1 := by
  have hh := rowAt_cases (N := N) h x
  obtain ⟨h1, h2, h3, h4, h5⟩ := id h
  unfold xf_X_people mf_people
  rcases hh with ⟨r, hr, rfl, q1, q2⟩ | ⟨q1, q2⟩
  · have h6 := h3.hr6 hr
    rw [q1, q2, bs1, if_neg (nI_pos (by omega)), if_pos rfl, isIn_in]
    cases hy : mf_in y 0 1 with
    | false => exact ⟨_, X, M, rfl, rfl, h⟩
    | true =>
      obtain ⟨X1, w1, w2⟩ := px_all hN h3 h1
      have hz1 : X1.1 20 0 = -1 := by rw [w2.1 20 rfl]; exact h2.1.1
      obtain ⟨X2, w3, w4⟩ := px_best hN h3 hr (h1.frame w2) hz1
      obtain ⟨Z, z1, z2⟩ := md_finds hN (M := M) rfl h3 hr
      have hok := fFind_ok h3 hr
      rw [if_pos rfl, if_pos rfl, w1, bs2, w3, bs2, z1, bs1, z2.2.2.1, z2.2.2.2]
      by_cases hy0 : y = 0
      · rw [if_pos hy0, if_pos hy0]
        exact ⟨_, _, _, rfl, rfl, h.sameL (w2.trans w4).l z2.l⟩
      · rw [if_neg hy0, if_neg hy0]
        rcases hok.1 with ⟨o1, o2⟩ | ⟨c, e, o1, o2, o3, o4⟩
        · rw [if_pos o1, o2, Int32.sub_self]
          exact ⟨_, _, _, rfl, rfl, h.sameL (w2.trans w4).l z2.l⟩
        · have e8 := (h3.2.2.1 r hr).2.2.2.1
          obtain ⟨d1, d2⟩ := dig (c := c) (e := e) (by omega) (by omega)
          obtain ⟨X3, w5, w6⟩ := px_swapped hN h3 ((h1.frame w2).frame w4) (by rw [w4.1 20 rfl]; exact hz1) hr (show c < 8 by omega) hr (show e < 8 by omega)
          rw [o3, if_neg (nI_ne_m1 (by omega)), d2, d1, w5, bs2, o4]
          exact ⟨_, _, _, rfl, rfl, h.sameL ((w2.trans w4).trans w6).l z2.l⟩
  · rw [q1, q2]
    exact ⟨_, X, M, rfl, rfl, h⟩
end A
end PASK5
