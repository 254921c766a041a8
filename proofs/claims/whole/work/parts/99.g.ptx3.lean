section PTX3
/-! a text, on both sides -/
variable {N : Nat} {X : xS} {M : mS}
def XLa : List Nat := [38, 39, 40, 41, 42, 43, 44, 45, 46, 47, 48]
theorem XLa_core : ∀ j ∈ XLa, xcore j = false := by decide
theorem xU_core {X X1 : xS} (h : xU XLa X X1) {j : Nat} (hj : xcore j = true) : X1.1 j = X.1 j := h.1 j fun hh => by
  rw [XLa_core j hh] at hj
  exact Bool.noConfusion hj
theorem mWl : ∀ k ∈ [19, 20, 40, 41, 42, 43, 45, 46, 47, 48], k = 19 ∨ k = 20 ∨ 40 ≤ k := by decide
theorem mW_k {t : Nat} {M M1 : mS} (h : mZ t M M1) {k : Nat} (hk : k < 40) (h19 : k ≠ 19) (h20 : k ≠ 20) : M1.1 k = M.1 k := h.1.1 k fun hh => by
  have := mWl k hh
  omega
theorem tx_old {X1 : xS} {M1 : mS} {t : Nat} (h : Rl X M) (ht : t < nt (mC M)) (h20 : ∀ j, j < 4 * nt (mC M) → M1.1 20 j = M.1 20 j) (h19 : ∀ j, j < 200 * nt (mC M) → M1.1 19 j = M.1 19 j) (x76 : X1.1 76 t = X.1 76 t) (x82 : X1.1 (82 + 4 * t) = X.1 (82 + 4 * t)) (x81 : X1.1 (81 + 4 * t) = X.1 (81 + 4 * t)) : tOK (mC M1) t ∧ X1.1 76 t = nI (st (mC M1) t 3) ∧ (∀ j, j < 3 → X1.1 (82 + 4 * t) j = mC M1 20 (4 * t + (j + 1))) ∧ ∀ i, i < st (mC M1) t 3 → X1.1 (81 + 4 * t) i = enc (cd (mC M1) t i) := by
  obtain ⟨h1, h2, h3, h4, h5⟩ := h
  have hok := h3.2.2.2.2.2.2.2.2.2.2.2.2 t ht
  obtain ⟨r1, r2, r3⟩ := h1.2.2.2.2.2.2.2.2.2.2.2 t ht
  have g20 : ∀ j, j < 4 → mC M1 20 (4 * t + j) = mC M 20 (4 * t + j) := fun j hj => h20 _ (by omega)
  obtain ⟨c1, c2, c3⟩ := tOK_congr (a1 := mC M1) g20 (fun i hi => h19 _ (by omega)) hok
  have hs := hok.2.2.2.1
  refine ⟨c1, ?_, fun j hj => ?_, fun i hi => ?_⟩
  · rw [x76, r1, c2 3 (by omega)]
  · rw [x82, r2 j hj, g20 (j + 1) (by omega)]
  · rw [c2 3 (by omega)] at hi
    rw [x81, r3 i hi, c3 i (by omega)]
theorem tx_fail {X2 : xS} {M2 : mS} {x : Int32} (h : Rl X M) (hX : xU XLa X X2) (hM : mZ (nt (mC M)) M M2) : Rl (xs X2 2 0 0) (ms (ms M2 20 (4 * nt (mC M) + 3) x) 18 0 0) := by
  obtain ⟨h1, h2, h3, h4, h5⟩ := id h
  have h6 := h3.2.2.2.2.2.2.2.2.2.1
  obtain ⟨t1, t2, t3, t4, t5⟩ := h1.2.2.2.2.2.2.2
  have i1 := h3.2.2.2.2.2.2.2.1
  have kx : ∀ j, j ≠ 2 → xcore j = true → (xs X2 2 0 0).1 j = X.1 j := fun j e hj => (xs_ne e).trans (xU_core hX hj)
  have km : ∀ k, k ≠ 18 → k ≠ 20 → (ms (ms M2 20 (4 * nt (mC M) + 3) x) 18 0 0).1 k = M2.1 k := fun k e1 e2 => (ms_ne e1).trans (ms_ne e2)
  have kk : ∀ k, k < 40 → k ≠ 18 → k ≠ 19 → k ≠ 20 → (ms (ms M2 20 (4 * nt (mC M) + 3) x) 18 0 0).1 k = M.1 k := fun k hk e1 e2 e3 => (km k e1 e3).trans (mW_k hM hk e2 e3)
  refine Rl_txt h (n1 := nt (mC M)) (Nat.le_refl _) h6 (fun j _ e2 _ _ hj => kx j e2 hj) ?_ rfl ?_ ?_ (fun k hk e1 e2 e3 _ => kk k hk e1 e2 e3) rfl ?_ ?_ (fun t ht => tx_old h ht (fun j hj => ?_) (fun j hj => ?_) ?_ ?_ ?_)
  · rw [kx 0 (by decide) rfl]; exact t1.trans i1
  · show X2.2.2.1 = X.2.2.1
    rw [hX.2]
  · show X2.2.2.2 = nt (mC M)
    rw [hX.2]; exact t4
  · rw [kk 21 (by decide) (by decide) (by decide) (by decide)]; exact i1
  · show M2.2 44 = M.2 44
    rw [hM.1.2]
  · rw [ms_ne (by decide), ms_same, upd_at, if_neg (by omega)]
    exact hM.2.2 j hj
  · rw [km 19 (by decide) (by decide)]
    exact hM.2.1 j hj
  · rw [kx 76 (by decide) rfl]
  · exact kx _ (by omega) (xcore_ends t)
  · exact kx _ (by omega) (xcore_steps t)
theorem tx_good {X3 : xS} {M3 : mS} {b : Nat → Nat} {sz s : Nat} {O : List Nat} {q : Nat → Nat} (h : Rl X M) (h6 : nt (mC M) < 6) (hX : xU XLa X X3) (hM : mZ (nt (mC M)) M M3) (hE : XE b sz s O 0 X3) (hO : O.length ≤ 160) (hs : hS (fun k => M3.1 19 (200 * nt (mC M) + k)) O) (hok : ∀ x ∈ O, okc x) (hq0 : q 0 = 0) (hq3 : q 3 = O.length) (hj : ∀ j, j < 3 → q j ≤ q (j + 1) ∧ M3.1 20 (4 * nt (mC M) + j) = nI (q j) ∧ X3.1 47 j = nI (q (j + 1)) ∧ ∃ P O1, P ++ O1 = O ∧ O1.length = q (j + 1) ∧ dR (q j) O1 = some 1) : txok X3 = true ∧ (xTextIn X3).1 0 0 = nI (nt (mC M)) + 1 ∧ Rl (xTextIn X3) (ms (ms (ms M3 20 (4 * nt (mC M) + 3) (nI O.length)) 18 0 0) 21 0 (nI (nt (mC M)) + 1)) := by
  obtain ⟨h1, h2, h3, h4, h5⟩ := id h
  obtain ⟨t1, t2, t3, t4, t5⟩ := h1.2.2.2.2.2.2.2
  obtain ⟨i1, i2, i3, i4, i5, i6⟩ := h3.2.2.2.2.2.2.2
  have e22 : X3.2.2.2 = nt (mC M) := by rw [hX.2]; exact t4
  have e21 : X3.2.2.1 = nr (mC M) := by rw [hX.2]; exact h1.1.2.2.2
  have k0 : X3.1 0 0 = nI (nt (mC M)) := by rw [xU_core hX (j := 0) rfl]; exact t1.trans i1
  have k19 : X3.1 19 0 = nI (rl (mC M)) := by rw [xU_core hX (j := 19) rfl]; exact t3.trans i4
  have k24 : X3.1 24 0 = -1 := by rw [xU_core hX (j := 24) rfl]; exact h2.1.2.2
  have k48 : X3.1 48 0 = nI O.length := hE.2.2.2.2.1
  have hr6 := h3.1.2.1
  have en1 : nI (nt (mC M)) + 1 = nI (nt (mC M) + 1) := nI_add _ 1
  have es : (xs X3 2 0 0).2.2.2 = nt (mC M) := e22
  have lo : ∀ j, j ≠ 0 → j ≠ 2 → j ≠ 76 → j ≠ 81 + 4 * nt (mC M) → j ≠ 82 + 4 * nt (mC M) → j ≠ 83 + 4 * nt (mC M) → (xTextIn X3).1 j = X3.1 j := fun j e0 e2 e3 e4 e5 e6 => by
    unfold xTextIn
    rw [xs_ne e0, xX_lo (by rw [es]; exact ⟨e3, e4, e5, e6⟩), xs_ne e2]
  have kx : ∀ j, j ≠ 0 → j ≠ 2 → j ≠ 76 → j ≠ 81 + 4 * nt (mC M) → j ≠ 82 + 4 * nt (mC M) → xcore j = true → (xTextIn X3).1 j = X.1 j := fun j e0 e2 e3 e4 e5 hc => by
    rw [lo j e0 e2 e3 e4 e5 (fun e => by rw [e, xcore_pile] at hc; exact Bool.noConfusion hc)]
    exact xU_core hX hc
  have x0 : (xTextIn X3).1 0 0 = nI (nt (mC M)) + 1 := by
    unfold xTextIn
    rw [xs_same, pk_us, xX_lo (by omega), xs_ne (by decide), k0]
  have x76 : ∀ u, (xTextIn X3).1 76 u = if u = nt (mC M) then nI O.length else X3.1 76 u := fun u => by
    unfold xTextIn
    rw [xs_ne (by decide), xX_len, es, xs_ne (by decide), xs_ne (by decide), k48]
  have x81 : ∀ i, i < O.length → (xTextIn X3).1 (81 + 4 * nt (mC M)) i = X3.1 46 i := fun i hi => by
    unfold xTextIn
    rw [xs_ne (by omega), show 81 + 4 * nt (mC M) = 81 + 4 * (xs X3 2 0 0).2.2.2 by rw [es], xX_1, xs_ne (by decide), xs_ne (by decide), k48, sm_clamp (by omega)]
    unfold va_cpy
    rw [if_pos ⟨Nat.zero_le _, by omega⟩, Nat.zero_add, Nat.sub_zero]
  have x82 : ∀ i, i < 3 → (xTextIn X3).1 (82 + 4 * nt (mC M)) i = X3.1 47 i := fun i hi => by
    unfold xTextIn
    rw [xs_ne (by omega), show 82 + 4 * nt (mC M) = 82 + 4 * (xs X3 2 0 0).2.2.2 by rw [es], xX_2, xs_ne (by decide)]
    unfold va_cpy
    rw [if_pos ⟨Nat.zero_le _, by omega⟩, Nat.zero_add, Nat.sub_zero]
  refine ⟨?_, x0, ?_⟩
  · unfold txok
    rw [k48, k0, k19, k24, e22, e21, sm_ok (by omega) (by omega), sm_ok (by omega) (by omega), sm_clamp (by omega), sm_clamp (by omega), decide_eq_true rfl, decide_eq_true hr6, decide_eq_true i5, decide_eq_true (show (-1 : Int32) < 0 from by decide)]
    rw [Bool.or_true]
    rfl
  · have km : ∀ k, k ≠ 18 → k ≠ 20 → k ≠ 21 → (ms (ms (ms M3 20 (4 * nt (mC M) + 3) (nI O.length)) 18 0 0) 21 0 (nI (nt (mC M)) + 1)).1 k = M3.1 k := fun k e1 e2 e3 => (ms_ne e3).trans ((ms_ne e1).trans (ms_ne e2))
    have k20 : ∀ j, (ms (ms (ms M3 20 (4 * nt (mC M) + 3) (nI O.length)) 18 0 0) 21 0 (nI (nt (mC M)) + 1)).1 20 j = if j = 4 * nt (mC M) + 3 then nI O.length else M3.1 20 j := fun j => by
      rw [ms_ne (by decide), ms_ne (by decide), ms_same, upd_at]
    refine Rl_txt h (n1 := nt (mC M) + 1) (Nat.le_succ _) h6 (fun j e0 e2 e3 e4 hc => kx j e0 e2 e4 (e3 _).1 (e3 _).2 hc) (x0.trans en1) ?_ ?_ ?_ (fun k hk e1 e2 e3 e4 => (km k e1 e3 e4).trans (mW_k hM hk e2 e3)) ?_ ?_ ?_ (fun t ht => ?_)
    · unfold xTextIn
      rw [xs_ne (by decide), xX_lo (by omega)]
      rfl
    · show X3.2.2.1 = X.2.2.1
      rw [hX.2]
    · show X3.2.2.2 + 1 = nt (mC M) + 1
      rw [e22]
    · rfl
    · exact en1
    · show M3.2 44 = M.2 44
      rw [hM.1.2]
    · by_cases htt : t < nt (mC M)
      · refine tx_old h htt (fun j hj => ?_) (fun j hj => ?_) ?_ ?_ ?_
        · rw [k20, if_neg (by omega)]; exact hM.2.2 j hj
        · rw [km 19 (by decide) (by decide) (by decide)]; exact hM.2.1 j hj
        · rw [x76, if_neg (by omega), xU_core hX (j := 76) rfl]
        · exact kx _ (by omega) (by omega) (by omega) (by omega) (by omega) (xcore_ends t)
        · exact kx _ (by omega) (by omega) (by omega) (by omega) (by omega) (xcore_steps t)
      · have e : t = nt (mC M) := by omega
        subst e
        have g20 : ∀ j, j < 4 → mC (ms (ms (ms M3 20 (4 * nt (mC M) + 3) (nI O.length)) 18 0 0) 21 0 (nI (nt (mC M)) + 1)) 20 (4 * nt (mC M) + j) = nI (q j) := fun j hj4 => by
          refine (k20 _).trans ?_
          by_cases e : j = 3
          · rw [if_pos (by omega), e, hq3]
          · rw [if_neg (by omega)]
            exact (hj j (by omega)).2.1
        have g19 : ∀ i, mC (ms (ms (ms M3 20 (4 * nt (mC M) + 3) (nI O.length)) 18 0 0) 21 0 (nI (nt (mC M)) + 1)) 19 i = M3.1 19 i := fun i => congrFun (km 19 (by decide) (by decide) (by decide)) i
        have hs2 : hS (fun k => mC (ms (ms (ms M3 20 (4 * nt (mC M) + 3) (nI O.length)) 18 0 0) 21 0 (nI (nt (mC M)) + 1)) 19 (200 * nt (mC M) + k)) O := hS_congr (fun j _ => g19 _) hs
        obtain ⟨p1, p2⟩ := tOK_new g20 hq0 hq3 hO hs2 hok (fun j hj3 => ⟨(hj j hj3).1, (hj j hj3).2.2.2⟩)
        refine ⟨p1, ?_, fun j hj3 => ?_, fun i hi => ?_⟩
        · rw [x76, if_pos rfl, p2 3 (by omega), hq3]
        · rw [x82 j hj3, (hj j hj3).2.2.1, g20 (j + 1) (by omega)]
        · rw [p2 3 (by omega), hq3] at hi
          rw [x81 i hi]
          exact hSE hs2 hE.2.2.2.2.2.1 i hi
theorem st_text (hN : 2000 ≤ N) (h : Rl X M) : ∃ r X1 M1, xf_X_text N X = some (r, X1) ∧ mf_text N M = some (r, M1) ∧ Rl X1 M1 := by
  obtain ⟨h1, h2, h3, h4, h5⟩ := id h
  have e21 : M.1 21 0 = nI (nt (mC M)) := h3.2.2.2.2.2.2.2.1
  have e0 : X.1 0 0 = nI (nt (mC M)) := h1.2.2.2.2.2.2.2.1.trans e21
  have h6 := h3.2.2.2.2.2.2.2.2.2.1
  by_cases ht : nt (mC M) = 6
  · unfold xf_X_text mf_text
    rw [e21, e0, ht, if_neg (show ¬ nI 6 < (6 : Int32) from by decide), if_pos (show nI 6 = (6 : Int32) from rfl)]
    exact ⟨_, X, M, rfl, rfl, h⟩
  have ht : nt (mC M) < 6 := by omega
  obtain ⟨p18, p160, p17⟩ := h4.2.2.2.1
  have e18 : M.1 18 0 = nI (tp (mC M)) := p18
  have x2 : X.1 2 0 = nI (tp (mC M)) := h2.2.1.1.trans p18
  obtain ⟨b, hb⟩ : ∃ b : Nat → Nat, b = fun j => (M.1 17 j).toNatClampNeg := ⟨_, rfl⟩
  have hbb : ∀ j, j < tp (mC M) → M.1 17 j = nI (b j) ∧ b j < 256 := fun j hj => by
    obtain ⟨n, hn, e, _⟩ := iv_ex (hi := 255) (p17 j hj)
    have e : M.1 17 j = nI n := e
    rw [hb]
    show M.1 17 j = nI (M.1 17 j).toNatClampNeg ∧ (M.1 17 j).toNatClampNeg < 256
    rw [e, sm_clamp (by omega)]
    exact ⟨rfl, by omega⟩
  have hT : MT b (tp (mC M)) M := ⟨e18, p160, hbb, h5⟩
  have hUm : mU [40, 48] M (ms (ms M 40 0 0) 48 0 0) := ((mU.refl _ _).ms (by decide)).ms (by decide)
  have hUx : xU [38, 39, 40, 41, 45, 48] X (xs (xs (xs (xs (xs (xs X 39 0 0) 40 0 (nI (tp (mC M)))) 41 0 0) 45 0 0) 48 0 0) 38 0 (-1)) := ((((((xU.refl _ _).xs (by decide)).xs (by decide)).xs (by decide)).xs (by decide)).xs (by decide)).xs (by decide)
  obtain ⟨X0, hX0⟩ : ∃ Y : xS, Y = xs (xs (xs (xs (xs (xs X 39 0 0) 40 0 (nI (tp (mC M)))) 41 0 0) 45 0 0) 48 0 0) 38 0 (-1) := ⟨_, rfl⟩
  have hT0 : XT b (tp (mC M)) X0 := by
    subst hX0
    refine ⟨rfl, p160, fun j hj => ?_, ?_⟩
    · rw [hUx.1 3 (by decide), h2.2.1.2 j hj]
      show (M.1 17 j).toInt8.toInt32 = cB (b j) ∧ _
      rw [(hbb j hj).1]
      exact ⟨rfl, (hbb j hj).2⟩
    · show ¬ (0 : Int32) < 0
      decide
  have z38 : X0.1 38 0 = -1 := by subst hX0; rfl
  have z41 : X0.1 41 0 = nI 0 := by subst hX0; rfl
  have z45 : X0.1 45 0 = nI 0 := by subst hX0; rfl
  have z48 : X0.1 48 0 = nI 0 := by subst hX0; rfl
  obtain ⟨X1, a1, a2, a3⟩ := px_adv (N := N) hN hT0 z38 z41 (Nat.zero_le _)
  have hbz := tB_le (b := b) (Nat.zero_le (tp (mC M)))
  have hXE : XE b (tp (mC M)) (tB b (tp (mC M)) 0) [] 0 X1 := by
    refine ⟨hT0.frame a2 (by decide) (by decide) (by decide), ?_, a3, ?_, ?_, True.intro, hbz.2⟩
    · rw [a2.1 38 (by decide)]; exact z38
    · rw [a2.1 45 (by decide)]; exact z45
    · rw [a2.1 48 (by decide)]; exact z48
  have hP : eP b (tp (mC M)) (nt (mC M)) 0 [] X1 (ms (ms M 40 0 0) 48 0 0) := by
    refine ⟨hT.frame hUm (by decide) (by decide), rfl, Nat.zero_le _, ?_, rfl, True.intro, hXE, Nat.le_refl _, fun x hx => (nomatch hx)⟩
    rw [hUm.1 21 (by decide)]; exact e21
  obtain ⟨X2, g, M2, c1, c2, c3, c4, c5⟩ := tx_parts (N := N) hN ht 3 0 N N 0 [] (fun _ => 0) X1 _ rfl (by omega) (by omega) ⟨hP, rfl, rfl, fun j hj => absurd hj (by omega)⟩
  have c1 : xf_R_read_L41 N N X1 0 = some X2 := c1
  have c2 : mf_text_L26 N N (ms (ms M 40 0 0) 48 0 0) 1 0 = some (g, M2) := c2
  have hX2 : xU XLa X X2 := by
    refine (xU.trans (hUx.mono (by decide)) ?_).trans (c3.mono (by decide))
    rw [← hX0]
    exact a2.mono (by decide)
  have hM2 : mZ (nt (mC M)) M M2 := (hUm.w (by decide)).trans c4
  have hrd : xf_R_read N X (X.1 2 0) = bd1 (xf_R_expect N X2 0) fun S10 => (if (S10.1 38 0) = (-1) then some (1, S10) else some (0, S10)) := by
    unfold xf_R_read
    rw [x2, if_neg (show ¬ (160 : Int32) < nI (tp (mC M)) from fun hh => absurd ((sm_lt (n := 160) (by omega) (by omega)).mp hh) (by omega)), ← hX0, a1, bs1, c1, bs1]
  have e43 : ∀ {M' : mS}, M'.1 21 0 = nI (nt (mC M)) → 4 * M'.1 21 0 + 3 = nI (4 * nt (mC M) + 3) := fun e => by
    rw [e, show (4 : Int32) = nI 4 from rfl, pk_mul]
    exact nI_add _ 3
  have fail : ∀ (s : Nat) (X5 : xS) (M5 : mS), XF s X5 → M5.1 41 0 = nI s → xU XLa X X5 → mZ (nt (mC M)) M M5 → xf_R_read N X (X.1 2 0) = some (0, X5) → mf_text N M = (if ok ((4 * (M5.1 21 0)) + 3) 24 then (if (0 : Int32) = 0 then some ((-100) - ((ms (ms M5 20 ((4 * (M5.1 21 0)) + 3).toNatClampNeg (M5.1 48 0)) 18 0 0).1 41 0), ms (ms M5 20 ((4 * (M5.1 21 0)) + 3).toNatClampNeg (M5.1 48 0)) 18 0 0) else some (((ms (ms (ms M5 20 ((4 * (M5.1 21 0)) + 3).toNatClampNeg (M5.1 48 0)) 18 0 0) 21 0 (((ms (ms M5 20 ((4 * (M5.1 21 0)) + 3).toNatClampNeg (M5.1 48 0)) 18 0 0).1 21 0) + 1)).1 21 0) - 1, ms (ms (ms M5 20 ((4 * (M5.1 21 0)) + 3).toNatClampNeg (M5.1 48 0)) 18 0 0) 21 0 (((ms (ms M5 20 ((4 * (M5.1 21 0)) + 3).toNatClampNeg (M5.1 48 0)) 18 0 0).1 21 0) + 1))) else none) → ∃ r X1 M1, xf_X_text N X = some (r, X1) ∧ mf_text N M = some (r, M1) ∧ Rl X1 M1 := fun s X5 M5 f1 f2 f3 f4 f5 f6 => by
    have m21 : M5.1 21 0 = nI (nt (mC M)) := by rw [mW_k f4 (k := 21) (by decide) (by decide) (by decide)]; exact e21
    have m41 : (ms (ms M5 20 (4 * nt (mC M) + 3) (M5.1 48 0)) 18 0 0).1 41 0 = nI s := by
      rw [ms_ne (by decide), ms_ne (by decide)]; exact f2
    rw [e43 m21, if_pos (sm_ok (by omega) (by omega)), sm_clamp (by omega), if_pos rfl, m41] at f6
    refine ⟨-100 - nI s, _, _, ?_, f6, tx_fail h f3 f4⟩
    unfold xf_X_text
    rw [e0, if_pos (show nI (nt (mC M)) < (6 : Int32) from (sm_lt (m := 6) (by omega) (by omega)).mpr ht), f5, bs2, if_neg (show ¬ (0 : Int32) = 1 from by decide), if_pos rfl, f1.1]
  rcases c5 with ⟨rfl, s, f1, f2, f3⟩ | ⟨rfl, i1, O1, q1, ⟨w1, w2, w3, w4, w5, w6, w7, w8, w9⟩, q0, q3, qj⟩
  · refine fail s X2 M2 f1 f2 hX2 hM2 ?_ ?_
    · rw [hrd, xr_expectF f1 (by decide), bs1, f1.1, if_neg (nI_ne_m1 (by have := f1.2.1; omega))]
    · unfold mf_text
      rw [e21, if_neg (show ¬ nI (nt (mC M)) = (6 : Int32) from fun hh => by have := (sm_eq (m := 6) (by omega) (by omega)).mp hh; omega), c2, bs2, if_pos rfl, bs2]
  · have hbi := tB_le (b := b) w3
    have hk := tK_le (b := b) (sz := tp (mC M)) (tB b (tp (mC M)) i1)
    have hkey := (kX_key hk tK_v (tV3 (b := b) (sz := tp (mC M)) (s := tB b (tp (mC M)) i1)) (show 0 < 3 by omega)).2
    obtain ⟨M3, n1, n2, n3⟩ := md_next (N := N) hN w1 w2 w3
    have hM3 : mZ (nt (mC M)) M M3 := hM2.trans (n2.w (by decide))
    have h42 : M3.1 42 0 = 0 ↔ tK b (tp (mC M)) (tB b (tp (mC M)) i1) = 0 := by rw [n3.2.2.1]; exact kI_eq (j := 0) hk (by omega)
    have hmt : ∀ v : Int32, (if M3.1 42 0 = 0 then some ((1 : Int32), M3) else some (0, M3)) = some (v, M3) → mf_text N M = (if ok ((4 * (M3.1 21 0)) + 3) 24 then (if v = 0 then some ((-100) - ((ms (ms M3 20 ((4 * (M3.1 21 0)) + 3).toNatClampNeg (M3.1 48 0)) 18 0 0).1 41 0), ms (ms M3 20 ((4 * (M3.1 21 0)) + 3).toNatClampNeg (M3.1 48 0)) 18 0 0) else some (((ms (ms (ms M3 20 ((4 * (M3.1 21 0)) + 3).toNatClampNeg (M3.1 48 0)) 18 0 0) 21 0 (((ms (ms M3 20 ((4 * (M3.1 21 0)) + 3).toNatClampNeg (M3.1 48 0)) 18 0 0).1 21 0) + 1)).1 21 0) - 1, ms (ms (ms M3 20 ((4 * (M3.1 21 0)) + 3).toNatClampNeg (M3.1 48 0)) 18 0 0) 21 0 (((ms (ms M3 20 ((4 * (M3.1 21 0)) + 3).toNatClampNeg (M3.1 48 0)) 18 0 0).1 21 0) + 1))) else none) := fun v hv => by
      unfold mf_text
      rw [e21, if_neg (show ¬ nI (nt (mC M)) = (6 : Int32) from fun hh => by have := (sm_eq (m := 6) (by omega) (by omega)).mp hh; omega), c2, bs2, if_neg (show ¬ (1 : Int32) = 0 from by decide), n1, bs1, hv, bs2]
    by_cases hk0 : tK b (tp (mC M)) (tB b (tp (mC M)) i1) = 0
    · obtain ⟨X3, u1, u2, u3⟩ := xr_expect (N := N) (a := 0) hN w7 (hkey.mpr hk0)
      have hX3 : xU XLa X X3 := hX2.trans (u3.mono (by decide))
      have m21 : M3.1 21 0 = nI (nt (mC M)) := by rw [mW_k hM3 (k := 21) (by decide) (by decide) (by decide)]; exact e21
      have m48 : M3.1 48 0 = nI O1.length := by rw [n2.1 48 (by decide)]; exact w5
      obtain ⟨v1, v2, v3⟩ := tx_good (q := q1) h ht hX3 hM3 u2 (by omega) (by rw [n2.1 19 (by decide)]; exact w6) w9 q0 q3 (fun j hj => by
        rw [n2.1 20 (by decide), u3.1 47 (by decide)]
        exact qj j hj)
      have f6 := hmt 1 (by rw [if_pos (h42.mpr hk0)])
      have m21' : (ms (ms M3 20 (4 * nt (mC M) + 3) (nI O1.length)) 18 0 0).1 21 0 = nI (nt (mC M)) := by
        rw [ms_ne (by decide), ms_ne (by decide)]; exact m21
      rw [e43 m21, if_pos (sm_ok (by omega) (by omega)), sm_clamp (by omega), if_neg (show ¬ (1 : Int32) = 0 from by decide), m48, m21'] at f6
      refine ⟨_, xTextIn X3, _, ?_, f6, v3⟩
      unfold xf_X_text
      rw [e0, if_pos (show nI (nt (mC M)) < (6 : Int32) from (sm_lt (m := 6) (by omega) (by omega)).mpr ht), hrd, u1, bs1, u2.2.1, if_pos rfl, bs2, if_pos rfl, if_pos v1, v2]
      rfl
    · obtain ⟨X3, u1, u2, u3⟩ := xr_expectN (N := N) (a := 0) w7 (by omega) (fun hh => hk0 (hkey.mp hh))
      refine fail (tB b (tp (mC M)) i1) X3 M3 u2 n3.2.1 (hX2.trans (u3.mono (by decide))) hM3 ?_ (hmt 0 (by rw [if_neg (fun hh => hk0 (h42.mp hh))]))
      rw [hrd, u1, bs1, u2.1, if_neg (nI_ne_m1 (by have := u2.2.1; omega))]
end PTX3
