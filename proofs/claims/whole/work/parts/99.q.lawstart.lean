section LAWSTART
/-- string i of the class, as the statement's words name it -/
def tmS (i : Nat) : Term := Term.string (xStr.getD i ("", 0, "")).1 (xStr.getD i ("", 0, "")).2.1
def lawF : List Cond := flatC (Jvm.Cond.and given_1 narrow_1)
theorem nar {args : Array Value} {s : State} (h : (Jvm.Cond.and given_1 narrow_1).before args s = true) (i : Nat) {w : Cond} (hi : lawF[i]? = some w) : w.before args s = true := flat_of_before _ h _ (List.mem_of_getElem? hi)
theorem tbw {args : Array Value} {s : State} (h : ∀ w ∈ lw_tbl, w.before args s = true) (i : Nat) {w : Cond} (hi : lw_tbl[i]? = some w) : w.before args s = true := h _ (List.mem_of_getElem? hi)
def lawE (i : Nat) : Nat := [123, 186, 196, 206, 216, 229, 242, 256, 271, 288, 305, 321, 339].getD i 0
def lawSI (i : Nat) : Nat := [313, 384, 391, 392, 393, 394, 395, 396, 397, 398, 399, 400, 401].getD i 0
def lawNI (i : Nat) : Nat := [106, 114, 225, 272, 970].getD i 0
def lawCI (i : Nat) : Nat := [1691, 1692, 1693, 1694, 1695, 1696, 1697].getD i 0
def lawXI (i : Nat) : Nat := [27, 38, 50, 62, 16, 39, 51, 63, 28, 52, 64, 17, 40, 65, 18, 29, 41, 53, 19, 30, 42, 54, 66].getD i 0
theorem nar_ex : ∀ i, i < 13 → lawF[lawE i]? = some (Cond.exactly (tmS i) "java/lang/String") ∧ lawF[lawE i + 1]? = some (Cond.eq (.field (tmS i) "java/lang/String" "coder" "B") (.int 0)) ∧ lawF[lawE i + 2]? = some (Cond.arrayOf (.field (tmS i) "java/lang/String" "value" "[B") .byte) ∧ lawF[lawE i + 3]? = some (Cond.eq (.length (.field (tmS i) "java/lang/String" "value" "[B")) (.int (Int32.ofNat (xLen.getD i 0)))) := by decide +kernel
theorem nar_el : ∀ i, i < 13 → ∀ j, j < xLen.getD i 0 → lawF[lawE i + 4 + j]? = some (Cond.eq (.elem (.field (tmS i) "java/lang/String" "value" "[B") (.int (Int32.ofNat j))) (.int ((xByt.getD i []).getD j 0))) := by decide +kernel
theorem nar_ne : ∀ k, k < 13 → ∀ i, i < k → lawF[lawE k + 4 + xLen.getD k 0 + i]? = some (Cond.not (Cond.eq (tmS i) (tmS k))) := by decide +kernel
theorem nar_len : ∀ i, i < 13 → xLen.getD i 0 < 2 ^ 31 := by decide +kernel
theorem tb_str : ∀ i, i < 13 → lw_tbl[lawSI i]? = some (Cond.stringRef (xStr.getD i ("", 0, "")).1 (xStr.getD i ("", 0, "")).2.1 (xStr.getD i ("", 0, "")).2.2) := by decide +kernel
theorem tb_nest : ∀ i, i < 5 → lw_tbl[lawNI i]? = (xNest[i]?).map (fun q => Cond.methodLinkNest q.1 q.2.1 q.2.2 "OverTheHeads") := by decide +kernel
theorem tb_cast : ∀ i, i < 7 → lw_tbl[lawCI i]? = (xCast[i]?).map (fun q => Cond.castable q.1 q.2) := by decide +kernel
theorem tb_nc : ∀ i, i < 23 → lawF[lawXI i]? = (xNc[i]?).map (fun q => Cond.not (Cond.castable q.1 q.2)) := by decide +kernel
theorem law_E {b : Nat} {s : State} (hts : ∀ w ∈ lw_tbl, w.before #[Value.ref b] s = true) (hgv : (Jvm.Cond.and given_1 narrow_1).before #[Value.ref b] s = true) : ∃ r : Nat → Nat, ∀ g : xG, (∀ k, 300 ≤ k → g.2.2 k = r k) → xE g (fun q : Nat => s.heap.size ≤ q) s := by
  have hA : ∀ a : Nat, a < s.heap.size → ¬ (fun q : Nat => s.heap.size ≤ q) a := fun a ha => Nat.not_le.mpr ha
  obtain ⟨adK, adV, hS, hT⟩ := vk_Sof (args := #[Value.ref b]) (s := s) (N := 13) (tm := tmS) (len := xLen) (byt := xByt) (A := fun q : Nat => s.heap.size ≤ q) nar_len (fun i hi => nar hgv _ (nar_ex i hi).1) (fun i hi => nar hgv _ (nar_ex i hi).2.1) (fun i hi => nar hgv _ (nar_ex i hi).2.2.1) (fun i hi => nar hgv _ (nar_ex i hi).2.2.2) (fun i hi j hj => nar hgv _ (nar_el i hi j hj)) (fun i j hi hj hne => by
    by_cases h : i < j
    · exact .inl (nar hgv _ (nar_ne j hj i h))
    · exact .inr (nar hgv _ (nar_ne i hi j (by omega)))) hA
  refine ⟨fun k => if k < 320 then adK (k - 300) else adV (k - 320), fun g hg => ?_⟩
  have gK : ∀ i, i < 13 → xr g (300 + i) = adK i := fun i hi => by
    refine (hg (300 + i) (by omega)).trans ?_
    show (if 300 + i < 320 then adK (300 + i - 300) else adV (300 + i - 320)) = adK i
    rw [if_pos (by omega), Nat.add_sub_cancel_left]
  have gV : ∀ i, i < 13 → xr g (320 + i) = adV i := fun i hi => by
    refine (hg (320 + i) (by omega)).trans ?_
    show (if 320 + i < 320 then adK (320 + i - 300) else adV (320 + i - 320)) = adV i
    rw [if_neg (by omega), Nat.add_sub_cancel_left]
  refine ⟨fun q hq => ?_, fun q hq => ?_, fun q hq => ?_, fun i q hq => ?_, ⟨fun i hi => ?_, fun i j hi hj he => ?_⟩, ?_, ?_, ?_, ?_, ?_⟩
  · obtain ⟨i, hi⟩ := List.mem_iff_getElem?.mp hq
    have hl : i < 5 := (List.getElem?_eq_some_iff.mp hi).1
    have h := tb_nest i hl
    rw [hi] at h
    exact va_Nw.of rfl (tbw hts _ h)
  · obtain ⟨i, hi⟩ := List.mem_iff_getElem?.mp hq
    have hl : i < 7 := (List.getElem?_eq_some_iff.mp hi).1
    have h := tb_cast i hl
    rw [hi] at h
    exact va_Nw.of rfl (tbw hts _ h)
  · obtain ⟨i, hi⟩ := List.mem_iff_getElem?.mp hq
    have hl : i < 23 := (List.getElem?_eq_some_iff.mp hi).1
    have h := tb_nc i hl
    rw [hi] at h
    exact va_Nc.of (nar hgv _ h)
  · have hl : i < 13 := (List.getElem?_eq_some_iff.mp hq).1
    have e : xStr.getD i ("", 0, "") = q := by rw [List.getD_eq_getElem?_getD, hq]; rfl
    have h1 := tbw hts _ (tb_str i hl)
    have h2 := hT i hl
    unfold tmS at h2
    rw [e] at h1 h2
    rw [gK i hl]
    exact vk_R.of h1 h2
  · have h := hS.1 i hi
    show va_O _ (xr g (300 + i)) _ _ _ ∧ va_OF _ _ _ _ (xr g (300 + i)) _ _ _ ∧ va_OF _ _ _ (.ref (xr g (320 + i))) (xr g (300 + i)) _ _ _ ∧ va_T _ (xr g (320 + i)) _ _ _ _ _
    rw [gK i hi, gV i hi]
    exact h
  · have he : xr g (300 + i) = xr g (300 + j) := he
    rw [gK i hi, gK j hj] at he
    exact hS.2 i j hi hj he
  · exact va_Zof (tbw hts 323 (by decide +kernel)) (tbw hts 82 (by decide +kernel)) (va_eqt (nar hgv 4 (by decide +kernel))) hA
  · exact va_Zqof (tbw hts 339 (by decide +kernel)) (tbw hts 84 (by decide +kernel)) (nar hgv 5 (by decide +kernel)) hA
  · exact va_AO.of (tbw hts 111 (by decide +kernel))
  · exact va_AO.of (tbw hts 269 (by decide +kernel))
  · exact (tbw hts 312 (by decide +kernel) : (Cond.arrayOver (.array .int)).before #[Value.ref b] s = true)
set_option maxHeartbeats 4000000 in
set_option maxRecDepth 100000 in
theorem law_K {b : Nat} {s : State} (hts : ∀ w ∈ lw_tbl, w.before #[Value.ref b] s = true) : ∃ (D : va_G) (cs : Nat → ClassId), va_K D vwCl [(cs 0, .int), (cs 1, .byte), (cs 2, .long), (cs 3, .object RX8), (cs 4, .object RX10), (cs 5, .array .int)] s := by
  have htg : ∀ w ∈ lw_g, w.before #[Value.ref b] s = true := fun w hw => hts w (List.mem_filter.mp hw).1
  obtain ⟨c0, i0, h0⟩ := u_known (C := RX0) (T := TX0) (N := 11) (n := 11) htg inG0 (tbw hts 652 (by decide +kernel))
  obtain ⟨c1, i1, h1⟩ := u_known (C := RX1) (T := TX1) (N := 20) (n := 20) htg inG1 (tbw hts 105 (by decide +kernel))
  obtain ⟨c2, i2, h2⟩ := u_known (C := RX2) (T := TX2) (N := 12) (n := 12) htg inG2 (tbw hts 224 (by decide +kernel))
  obtain ⟨c3, i3, h3⟩ := u_known (C := RX3) (T := TX3) (N := 11) (n := 11) htg inG3 (tbw hts 634 (by decide +kernel))
  obtain ⟨c4, i4, h4⟩ := u_known (C := RX4) (T := TX4) (N := 5) (n := 5) htg inG4 (tbw hts 113 (by decide +kernel))
  obtain ⟨c5, i5, h5⟩ := u_known (C := RX5) (T := TX5) (N := 11) (n := 11) htg inG5 (tbw hts 670 (by decide +kernel))
  obtain ⟨c6, i6, h6⟩ := u_known (C := RX6) (T := TX6) (N := 11) (n := 11) htg inG6 (tbw hts 616 (by decide +kernel))
  obtain ⟨c7, i7, h7⟩ := u_known (C := RX7) (T := TX7) (N := 11) (n := 11) htg inG7 (tbw hts 271 (by decide +kernel))
  obtain ⟨c8, i8, h8⟩ := u_known (C := RX8) (T := TX8) (N := 11) (n := 11) htg inG8 (tbw hts 688 (by decide +kernel))
  obtain ⟨c9, i9, h9⟩ := u_known (C := RX9) (T := TX9) (N := 11) (n := 11) htg inG9 (tbw hts 541 (by decide +kernel))
  obtain ⟨c10, i10, h10⟩ := u_known (C := RX10) (T := TX10) (N := 3) (n := 3) htg inG10 (tbw hts 457 (by decide +kernel))
  obtain ⟨c11, i11, h11⟩ := u_known (C := RX11) (T := TX11) (N := 14) (n := 14) htg inG11 (tbw hts 97 (by decide +kernel))
  obtain ⟨c12, i12, h12⟩ := u_known (C := RX12) (T := TX12) (N := 59) (n := 59) htg inG12 (tbw hts 1124 (by decide +kernel))
  obtain ⟨a0, k0, m0, p0, q0, r0⟩ := Cond.arrayClass_spec (tbw hts 135 (by decide +kernel) : (Cond.arrayClass .int).before #[Value.ref b] s = true)
  obtain ⟨a1, k1, m1, p1, q1, r1⟩ := Cond.arrayClass_spec (tbw hts 478 (by decide +kernel) : (Cond.arrayClass .byte).before #[Value.ref b] s = true)
  obtain ⟨a2, k2, m2, p2, q2, r2⟩ := Cond.arrayClass_spec (tbw hts 479 (by decide +kernel) : (Cond.arrayClass .long).before #[Value.ref b] s = true)
  obtain ⟨m3, a3, k3, s3, -, q3, r3, p3⟩ := Cond.arrayOver_spec (tbw hts 111 (by decide +kernel) : (Cond.arrayOver (.object "OverTheHeads$Row")).before #[Value.ref b] s = true)
  obtain ⟨m4, a4, k4, s4, -, q4, r4, p4⟩ := Cond.arrayOver_spec (tbw hts 269 (by decide +kernel) : (Cond.arrayOver (.object "OverTheHeads$Text")).before #[Value.ref b] s = true)
  obtain ⟨m5, a5, k5, s5, -, q5, r5, p5⟩ := aoa_spec (show va_AOA .int s from (tbw hts 312 (by decide +kernel) : (Cond.arrayOver (.array .int)).before #[Value.ref b] s = true))
  refine ⟨(fun k => if k = 0 then c0 else if k = 1 then c1 else if k = 2 then c2 else if k = 3 then c3 else if k = 4 then c4 else if k = 5 then c5 else if k = 6 then c6 else if k = 7 then c7 else if k = 8 then c8 else if k = 9 then c9 else if k = 10 then c10 else if k = 11 then c11 else c12, fun k => if k = 0 then i0 else if k = 1 then i1 else if k = 2 then i2 else if k = 3 then i3 else if k = 4 then i4 else if k = 5 then i5 else if k = 6 then i6 else if k = 7 then i7 else if k = 8 then i8 else if k = 9 then i9 else if k = 10 then i10 else if k = 11 then i11 else i12), fun k => if k = 0 then a0 else if k = 1 then a1 else if k = 2 then a2 else if k = 3 then a3 else if k = 4 then a4 else a5, fun k q hq => ?_, fun k q hq => ?_⟩
  · match k, hq with
    | 0, hq => cases hq; exact h0
    | 1, hq => cases hq; exact h1
    | 2, hq => cases hq; exact h2
    | 3, hq => cases hq; exact h3
    | 4, hq => cases hq; exact h4
    | 5, hq => cases hq; exact h5
    | 6, hq => cases hq; exact h6
    | 7, hq => cases hq; exact h7
    | 8, hq => cases hq; exact h8
    | 9, hq => cases hq; exact h9
    | 10, hq => cases hq; exact h10
    | 11, hq => cases hq; exact h11
    | 12, hq => cases hq; exact h12
    | k + 13, hq => exact nomatch hq
  · match k, hq with
    | 0, hq => cases hq; exact ⟨fun n z => ⟨(fun k h => by cases h), k0, q0, m0, r0⟩, p0⟩
    | 1, hq => cases hq; exact ⟨fun n z => ⟨(fun k h => by cases h), k1, q1, m1, r1⟩, p1⟩
    | 2, hq => cases hq; exact ⟨fun n z => ⟨(fun k h => by cases h), k2, q2, m2, r2⟩, p2⟩
    | 3, hq => cases hq; exact ⟨fun n z => ⟨(fun k h => by cases h), k3, q3, m3, r3⟩, k3, m3, q3, r3, s3, p3⟩
    | 4, hq => cases hq; exact ⟨fun n z => ⟨(fun k h => by cases h), k4, q4, m4, r4⟩, k4, m4, q4, r4, s4, p4⟩
    | 5, hq => cases hq; exact ⟨fun n z => ⟨(fun k h => by cases h), k5, q5, m5, r5⟩, p5⟩
    | k + 6, hq => exact nomatch hq
end LAWSTART
