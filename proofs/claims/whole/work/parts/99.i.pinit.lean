section PINIT
/-- the state of a new hall before its first text -/
def xS0 : xS := (fun k => bif Nat.beq k 4 then (upd (upd (upd (upd (fun _ => 0) (0 : Int32).toNatClampNeg (-1)) (1 : Int32).toNatClampNeg (-1)) (2 : Int32).toNatClampNeg (-1)) (3 : Int32).toNatClampNeg (-1)) else bif Nat.beq k 8 then (upd (upd (upd (upd (fun _ => 0) (0 : Int32).toNatClampNeg 10) (1 : Int32).toNatClampNeg 12) (2 : Int32).toNatClampNeg 14) (3 : Int32).toNatClampNeg 7) else bif Nat.beq k 9 then (upd (upd (upd (upd (fun _ => 0) (0 : Int32).toNatClampNeg 14) (1 : Int32).toNatClampNeg 16) (2 : Int32).toNatClampNeg 19) (3 : Int32).toNatClampNeg 9) else bif Nat.beq k 10 then (upd (upd (upd (upd (fun _ => 0) (0 : Int32).toNatClampNeg 1) (1 : Int32).toNatClampNeg 1) (2 : Int32).toNatClampNeg 1) (3 : Int32).toNatClampNeg 1) else bif Nat.beq k 19 then (fun _ => (-1)) else bif Nat.beq k 20 then (fun _ => (-1)) else bif Nat.beq k 24 then (fun _ => (-1)) else bif Nat.beq k 38 then (fun _ => (-1)) else bif Nat.beq k 39 then (fun _ => (-1)) else (fun _ => 0), fun _ _ => 0, (0, 0))
/-- with the first bytes of its first text -/
def lawS : Nat → xS
  | 0 => xS0
  | i + 1 => xs (xs (lawS i) 3 i (cB (b0 i))) 2 0 (nI (i + 1))
theorem lawS_ok : ∀ i, (lawS i).1 2 0 = nI i ∧ (∀ j, j < i → (lawS i).1 3 j = cB (b0 j)) ∧ (∀ k, k ≠ 2 → k ≠ 3 → (lawS i).1 k = xS0.1 k) ∧ (lawS i).2 = xS0.2
  | 0 => ⟨rfl, fun j hj => absurd hj (Nat.not_lt_zero j), fun _ _ _ => rfl, rfl⟩
  | i + 1 => by
    obtain ⟨h1, h2, h3, h4⟩ := lawS_ok i
    refine ⟨rfl, fun j hj => ?_, fun k k2 k3 => ?_, h4⟩
    · rw [lawS, xs_ne (by decide), xs_same, upd_at]
      by_cases e : j = i
      · rw [if_pos e, e]
      · rw [if_neg e]
        exact h2 j (by omega)
    · rw [lawS, xs_ne k2, xs_ne k3]
      exact h3 k k2 k3
/-- and with the text read -/
def xFin (S1 : xS) : xS := xs (xTextNew (xs (xs S1 19 0 0) 2 0 0)) 0 0 1
def mF1 : mS := ms (ms (ms (ms mM0 19 (0 : Int32).toNatClampNeg 0) 19 ((0 : Int32) + 1).toNatClampNeg 0) 19 ((0 : Int32) + 2).toNatClampNeg 100002) 19 ((0 : Int32) + 3).toNatClampNeg 18
def mF2 : mS := ms (ms (ms (ms mF1 19 (4 : Int32).toNatClampNeg 2) 19 ((4 : Int32) + 1).toNatClampNeg 17) 19 ((4 : Int32) + 2).toNatClampNeg 1) 19 ((4 : Int32) + 3).toNatClampNeg 100003
def mF3 : mS := ms (ms (ms (ms mF2 19 (8 : Int32).toNatClampNeg 18) 19 ((8 : Int32) + 1).toNatClampNeg 4) 19 ((8 : Int32) + 2).toNatClampNeg 16) 19 ((8 : Int32) + 3).toNatClampNeg 0
def mFin : mS := ms (ms (ms mF3 20 1 1) 20 2 6) 20 3 11
theorem mf_first1 (N : Nat) : mf_first N mM0 0 0 0 100002 18 = some mF1 := by
  unfold mf_first
  rw [if_pos (by decide), if_pos (by decide), if_pos (by decide), if_pos (by decide)]
  rfl
theorem mf_first2 (N : Nat) : mf_first N mF1 4 2 17 1 100003 = some mF2 := by
  unfold mf_first
  rw [if_pos (by decide), if_pos (by decide), if_pos (by decide), if_pos (by decide)]
  rfl
theorem mf_first3 (N : Nat) : mf_first N mF2 8 18 4 16 0 = some mF3 := by
  unfold mf_first
  rw [if_pos (by decide), if_pos (by decide), if_pos (by decide), if_pos (by decide)]
  rfl
theorem mFin_n : mC mFin 3 0 = 0 ∧ mC mFin 10 0 = 0 ∧ mC mFin 14 0 = 0 ∧ nr (mC mFin) = 0 ∧ np (mC mFin) = 0 ∧ nk (mC mFin) = 0 := by decide +kernel
theorem mFin_t : mC mFin 21 0 = 1 ∧ mC mFin 22 0 = 0 ∧ nt (mC mFin) = 1 ∧ rl (mC mFin) = 0 ∧ mC mFin 18 0 = 0 ∧ tp (mC mFin) = 0 ∧ mC mFin 25 0 = 0 ∧ mC mFin 23 0 = -1 := by decide +kernel
theorem mFin_s : ∀ s, s < 4 → mC mFin 37 s = -1 ∧ xS0.1 4 s = -1 := by decide +kernel
theorem mFin_20 : ∀ j, j < 4 → mC mFin 20 (4 * 0 + j) = nI ([0, 1, 6, 11].getD j 0) := by decide +kernel
theorem mFin_19 : hS (fun k => mC mFin 19 (200 * 0 + k)) OL2 := ⟨by decide +kernel, by decide +kernel, by decide +kernel, by decide +kernel, by decide +kernel, by decide +kernel, by decide +kernel, by decide +kernel, by decide +kernel, by decide +kernel, by decide +kernel, True.intro⟩
theorem okc_all : ∀ x ∈ OL2, x ≤ 5 ∨ (11 ≤ x ∧ x ≤ 19) ∨ (100000 ≤ x ∧ x < 110000) := by decide +kernel
theorem mFin_d : dR 0 [0] = some 1 ∧ dR 1 OL1 = some 1 ∧ dR 6 OL2 = some 1 := by decide +kernel
theorem tOK_init : tOK (mC mFin) 0 ∧ ∀ j, j < 4 → st (mC mFin) 0 j = [0, 1, 6, 11].getD j 0 := tOK_new (O := OL2) (q := fun j => [0, 1, 6, 11].getD j 0) mFin_20 rfl rfl (by decide) mFin_19 okc_all (fun j hj => by
  have : j = 0 ∨ j = 1 ∨ j = 2 := by omega
  rcases this with rfl | rfl | rfl
  · exact ⟨by decide, [16, 4, 18, 100003, 1, 17, 2, 18, 100002, 0], [0], rfl, rfl, mFin_d.1⟩
  · exact ⟨by decide, [16, 4, 18, 100003, 1], OL1, rfl, rfl, mFin_d.2.1⟩
  · exact ⟨by decide, [], OL2, rfl, rfl, mFin_d.2.2⟩)
theorem mFin_k : ∀ k, k < 4 → (0 ≤ (mC mFin 0 k).toInt ∧ (mC mFin 0 k).toInt ≤ 40) ∧ (0 ≤ (mC mFin 1 k).toInt ∧ (mC mFin 1 k).toInt ≤ 40) ∧ (0 ≤ (mC mFin 2 k).toInt ∧ (mC mFin 2 k).toInt ≤ 9) := by decide +kernel
theorem xS0_v : xS0.1 16 0 = 0 ∧ xS0.1 17 0 = 0 ∧ xS0.1 18 0 = 0 ∧ xS0.1 1 0 = 0 ∧ xS0.1 20 0 = -1 ∧ xS0.1 21 0 = 0 ∧ xS0.1 24 0 = -1 ∧ xS0.1 26 0 = 0 := by decide +kernel
theorem Rl_init {S1 : xS} (h : xU XLa (lawS 59) S1) (h48 : S1.1 48 0 = 11) (he : hE (S1.1 46) OL2) (h0 : S1.1 47 0 = 1) (h1 : S1.1 47 1 = 6) (h2 : S1.1 47 2 = 11) : Rl (xFin S1) mFin := by
  have hS2 : S1.2 = xS0.2 := h.2.trans (lawS_ok 59).2.2.2
  have es : (xs (xs S1 19 0 0) 2 0 0).2.2.2 = 0 := by
    show S1.2.2.2 = 0
    rw [hS2]; rfl
  have lo : ∀ j, j ≠ 0 → j ≠ 2 → j ≠ 19 → j ≠ 76 → j ≠ 81 → j ≠ 82 → j ≠ 83 → (xFin S1).1 j = S1.1 j := fun j e0 e2 e19 e3 e4 e5 e6 => by
    unfold xFin
    rw [xs_ne e0, xX_lo (by rw [es]; omega), xs_ne e2, xs_ne e19]
  have kx : ∀ j, j ∉ XLa → j ∉ [0, 2, 3, 19, 76, 81, 82, 83] → (xFin S1).1 j = xS0.1 j := fun j hj hl => by
    have n : ∀ k ∈ [0, 2, 3, 19, 76, 81, 82, 83], j ≠ k := fun k hk e => hl (by rw [e]; exact hk)
    rw [lo j (n 0 (by decide)) (n 2 (by decide)) (n 19 (by decide)) (n 76 (by decide)) (n 81 (by decide)) (n 82 (by decide)) (n 83 (by decide)), h.1 j hj]
    exact (lawS_ok 59).2.2.1 j (n 2 (by decide)) (n 3 (by decide))
  have x19 : (xFin S1).1 19 0 = 0 := by
    unfold xFin
    rw [xs_ne (by decide), xX_lo (by rw [es]; omega), xs_ne (by decide), xs_same, pk_us]
  have x2 : (xFin S1).1 2 0 = 0 := by
    unfold xFin
    rw [xs_ne (by decide), xX_lo (by rw [es]; omega), xs_same, pk_us]
  have x76 : (xFin S1).1 76 0 = 11 := by
    unfold xFin
    rw [xs_ne (by decide), xX_len, es, if_pos rfl, xs_ne (by decide), xs_ne (by decide), h48]
  have x81 : ∀ i, i < 11 → (xFin S1).1 81 i = S1.1 46 i := fun i hi => by
    unfold xFin
    rw [xs_ne (by decide), show 81 = 81 + 4 * (xs (xs S1 19 0 0) 2 0 0).2.2.2 by rw [es], xX_1, xs_ne (by decide), xs_ne (by decide), xs_ne (by decide), xs_ne (by decide), h48]
    unfold va_cpy
    rw [if_pos ⟨Nat.zero_le _, hi⟩, Nat.zero_add, Nat.sub_zero]
  have x82 : ∀ i, i < 3 → (xFin S1).1 82 i = S1.1 47 i := fun i hi => by
    unfold xFin
    rw [xs_ne (by decide), show 82 = 82 + 4 * (xs (xs S1 19 0 0) 2 0 0).2.2.2 by rw [es], xX_2, xs_ne (by decide), xs_ne (by decide)]
    unfold va_cpy
    rw [if_pos ⟨Nat.zero_le _, by omega⟩, Nat.zero_add, Nat.sub_zero]
  obtain ⟨m3, m10, m14, mr, mp, mk⟩ := mFin_n
  obtain ⟨m21, m22, mt, ml, m18, mtp, m25, m23⟩ := mFin_t
  obtain ⟨v16, v17, v18, v1, v20, v21, v24, v26⟩ := xS0_v
  obtain ⟨t1, t2⟩ := tOK_init
  have tr : (xFin S1).2.2.1 = 0 := by
    show S1.2.2.1 = 0
    rw [hS2]; rfl
  have tt : (xFin S1).2.2.2 = 1 := by
    show S1.2.2.2 + 1 = 1
    rw [hS2]; rfl
  have nor : ∀ {r : Nat} {P : Prop}, r < nr (mC mFin) → P := fun hr => by
    rw [mr] at hr
    exact absurd hr (Nat.not_lt_zero _)
  have nop : ∀ {r : Nat} {P : Prop}, r < np (mC mFin) → P := fun hr => by
    rw [mp] at hr
    exact absurd hr (Nat.not_lt_zero _)
  have nok : ∀ {r : Nat} {P : Prop}, r < nk (mC mFin) → P := fun hr => by
    rw [mk] at hr
    exact absurd hr (Nat.not_lt_zero _)
  refine ⟨⟨⟨?_, ?_, ?_, ?_⟩, ⟨?_, ?_, ?_⟩, fun r hr => nor hr, fun r hr => nor hr, fun p hp => nop hp, fun k hk => nok hk, .inl ⟨?_, m23⟩, ⟨?_, ?_, ?_, ?_, fun t ht => ?_⟩⟩, ⟨⟨?_, ?_, ?_⟩, ⟨?_, fun i hi => ?_⟩, ⟨?_, fun hh => absurd m25 hh⟩, fun s hs => ⟨?_, fun hh => absurd (mFin_s s hs).1 hh⟩⟩, ⟨⟨?_, ?_, ?_, ?_, ?_, ?_⟩, mFin_k, fun r hr => nor hr, fun r hr => nor hr, fun p hp => nop hp, fun k hk => nok hk, .inl m23, ⟨?_, ?_, ?_, ?_, ?_, fun t ht => ?_⟩⟩, ⟨fun r hr => nor hr, fun p hp => nop hp, m23, ⟨?_, ?_, fun i hi => ?_⟩, fun hh => absurd m25 hh, fun s hs => ⟨?_, fun hh => absurd (mFin_s s hs).1 hh⟩, fun r _ _ => ⟨rfl, rfl, fun c _ => rfl⟩⟩, rfl⟩
  · rw [kx 16 (by decide) (by decide), v16, m3]
  · rw [kx 17 (by decide) (by decide), v17, m10]
  · rw [kx 18 (by decide) (by decide), v18, m14]
  · rw [tr, mr]
  · rw [kx 8 (by decide) (by decide)]; rfl
  · rw [kx 9 (by decide) (by decide)]; rfl
  · rw [kx 10 (by decide) (by decide)]; rfl
  · rw [kx 24 (by decide) (by decide), v24]; decide
  · rw [m21]
    unfold xFin
    rw [xs_same, pk_us]
  · rw [kx 1 (by decide) (by decide), v1, m22]
  · rw [x19, m22]
  · rw [tt, mt]
  · have e : t = 0 := by omega
    subst e
    have s3 : st (mC mFin) 0 3 = 11 := t2 3 (by omega)
    refine ⟨?_, fun j hj => ?_, fun i hi => ?_⟩
    · rw [x76, s3]; rfl
    · show (xFin S1).1 82 j = _
      rw [x82 j hj, mFin_20 (j + 1) (by omega)]
      have : j = 0 ∨ j = 1 ∨ j = 2 := by omega
      rcases this with rfl | rfl | rfl
      · exact h0
      · exact h1
      · exact h2
    · rw [s3] at hi
      show (xFin S1).1 81 i = _
      rw [x81 i hi]
      exact hSE mFin_19 he i hi
  · rw [kx 20 (by decide) (by decide), v20]
  · rw [kx 21 (by decide) (by decide), v21]
  · rw [kx 24 (by decide) (by decide), v24]
  · rw [x2, m18]
  · rw [mtp] at hi
    exact absurd hi (Nat.not_lt_zero _)
  · rw [kx 26 (by decide) (by decide), v26, m25]
  · rw [kx 4 (by decide) (by decide), (mFin_s s hs).1, (mFin_s s hs).2]
  · rw [m3, mr]; rfl
  · omega
  · rw [m10, mp]; rfl
  · omega
  · rw [m14, mk]; rfl
  · omega
  · rw [m21, mt]; rfl
  · omega
  · omega
  · rw [m22, ml]; rfl
  · omega
  · have e : t = 0 := by omega
    subst e
    exact t1
  · rw [m18, mtp]; rfl
  · omega
  · rw [mtp] at hi
    exact absurd hi (Nat.not_lt_zero _)
  · rw [(mFin_s s hs).1]
    exact ⟨by decide, by decide⟩
end PINIT
