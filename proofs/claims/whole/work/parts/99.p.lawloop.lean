section LAWLOOP
theorem and63 (y : Int32) : ∃ n : Nat, n < 64 ∧ y &&& 63 = nI n := by
  refine ⟨(y &&& 63).toBitVec.toNat, ?_, ?_⟩
  · rw [Int32.toBitVec_and, BitVec.toNat_and]
    exact Nat.lt_of_le_of_lt Nat.and_le_right (by decide)
  · rw [← Int32.toBitVec_inj]
    show (y &&& 63).toBitVec = BitVec.ofNat 32 (y &&& 63).toBitVec.toNat
    rw [BitVec.ofNat_toNat, BitVec.setWidth_eq]
theorem law_le {j L : Nat} (hL : L ≤ 384) (hj : j ≤ 65) (h : ¬ (Int32.ofNat L - 6) < nI (6 * j)) : 6 * j + 6 ≤ L := by
  have e : (Int32.ofNat L - 6).toInt = (L : Int) - 6 := by
    have h6 : (6 : Int32) = nI 6 := rfl
    have hl : Int32.ofNat L = nI L := rfl
    rw [h6, hl, pk_sub_toInt (by omega) (by omega)]
    rfl
  rw [fa_lt, e, nI_toInt (by omega)] at h
  omega
set_option maxHeartbeats 4000000 in
set_option maxRecDepth 100000 in
theorem law_body {p : Program} {l : Launch} {e : Env} {s : State} {m : MethodId} {below : List Frame} {meth : Method} {c : Code} {cells slots b L j : Nat} {xs : Nat → Int32} {g : xG} {ρ : Nat → Nat} {X : xS} {M : mS} {H : Heap} {locs : List Loc} {ls : Array Slot} (hc : qC R_law code p s m #[Value.ref b] c) (hr : meth.sig.returnType = ret) (hlocks : meth.locks = false) (hml : c.maxLocals = 4) (hX : va_X b L xs s s.heap) (hbl : b < s.heap.size) (hL : L ≤ 384) (hj : j ≤ 65) (hR : Rl X M) (hw : xJ g (fun q : Nat => s.heap.size ≤ q) s.heap s (mW (mgX g ρ) M ++ xW g X) H locs) (hl : lv_has ls 4 [(0, .ref b), (1, .ref (xr g 0)), (2, .ref (ρ 0)), (3, .int (nI (6 * j)))]) (hcs : cells + 4 ≤ 600000 ∧ slots + 198 ≤ 7302250)
    (kx : 6 * j + 6 ≤ L → ∀ (g : xG) (X : xS) (M : mS) (H : Heap) (locs : List Loc) (ls : Array Slot), Rl X M → xJ g (fun q : Nat => s.heap.size ≤ q) s.heap s (mW (mgX g ρ) M ++ xW g X) H locs → lv_has ls 4 [(0, .ref b), (1, .ref (xr g 0)), (2, .ref (ρ 0)), (3, .int (nI (6 * (j + 1))))] → W p l e room_1 s m #[Value.ref b] below meth c H locs (cells + 4) (slots + 198) (lw_Z below #[Value.ref b] s) (F0 m 18 ls [])) : W p l e room_1 s m #[Value.ref b] below meth c H locs cells slots (lw_Z below #[Value.ref b] s) (F0 m 18 ls []) := by
  have hx := hc.1
  have hb := hc.2.1
  have hbA : ¬ (fun q : Nat => s.heap.size ≤ q) b := Nat.not_le.mpr hbl
  refine lv_iload_n hx hb dL_18 rfl (lv_at hl 3 rfl) ?_
  refine lv_aload_n hx hb dL_19 rfl (lv_at hl 0 rfl) ?_
  refine va_slen hx hb hX hbl hbA hw.2.2.2.1 dL_20 ?_
  refine lv_bipush (v := 6) hx hb dL_21 (by decide) ?_
  refine lv_isub hx hb dL_23 ?_
  refine lv_icmp_gt (tgt := 1647) hx hb dL_24 (by decide) (fun _ => ?_) (fun cn => ?_)
  · refine lv_iconst (v := 1) hx hb dL_1647 (by decide) ?_
    refine va_forget (fun q hq => hw.2.2.2.1.2.2 q hq) ?_
    refine W.widen (k := 600000) (n := 7302250) (by omega) (by omega) ?_
    exact lw_ret hx hb hr hlocks dL_1648
  have h6 := law_le hL hj cn
  have kx2 : ∀ (g : xG) (X : xS) (M : mS) (H : Heap) (locs : List Loc) (ls : Array Slot), Rl X M → xJ g (fun q : Nat => s.heap.size ≤ q) s.heap s (mW (mgX g ρ) M ++ xW g X) H locs → lv_has ls 4 [(0, .ref b), (1, .ref (xr g 0)), (2, .ref (ρ 0)), (3, .int (nI (6 * j)))] → W p l e room_1 s m #[Value.ref b] below meth c H locs (cells + 4) (slots + 198) (lw_Z below #[Value.ref b] s) (F0 m 1641 ls []) := fun g X M H locs ls hR hw hl => by
    refine lv_iinc (lv' := [(3, .int (nI (6 * j) + 6)), (0, .ref b), (1, .ref (xr g 0)), (2, .ref (ρ 0))]) hx hb dL_1641 hl (k := 3) rfl rfl (by decide) rfl (fun ls hl => ?_)
    refine lv_goto (tgt := 18) hx hb dL_1644 (by decide) ?_
    rw [show nI (6 * j) + 6 = nI (6 * (j + 1)) from nI_add (6 * j) 6] at hl
    exact kx h6 g X M H locs ls hR hw (lv_sub hl [1, 2, 3, 0] rfl)
  refine lv_aload_n hx hb dL_27 rfl (lv_at hl 0 rfl) ?_
  refine lv_iload_n hx hb dL_28 rfl (lv_at hl 3 rfl) ?_
  refine va_sld hx hb hX hbl hbA hw.2.2.2.1 (vp_in_nI (by omega) (by omega)) dL_29 ?_
  refine lv_bipush (v := 63) hx hb dL_30 (by decide) ?_
  refine lv_iand hx hb dL_32 ?_
  obtain ⟨n, hn, e0⟩ := and63 (xs (nI (6 * j)).toNatClampNeg)
  rw [e0]
  clear e0
  match n, hn with
  | 0, _ =>
    refine lv_tableIn (tgt := 220) (off := 187) hx hb dL_33 (by decide) (by decide) (by decide) (by decide) ?_
    exact lc_sort hc hml hX hbl hbA hL h6 hR hw hl hcs kx2
  | 1, _ =>
    refine lv_tableIn (tgt := 263) (off := 230) hx hb dL_33 (by decide) (by decide) (by decide) (by decide) ?_
    exact lc_row hc hml hX hbl hbA hL h6 hR hw hl hcs kx2
  | 2, _ =>
    refine lv_tableIn (tgt := 306) (off := 273) hx hb dL_33 (by decide) (by decide) (by decide) (by decide) ?_
    exact lc_set hc hml hX hbl hbA hL h6 hR hw hl hcs kx2
  | 3, _ =>
    refine lv_tableIn (tgt := 349) (off := 316) hx hb dL_33 (by decide) (by decide) (by decide) (by decide) ?_
    exact lc_sit hc hml hX hbl hbA hL h6 hR hw hl hcs kx2
  | 4, _ =>
    refine lv_tableIn (tgt := 392) (off := 359) hx hb dL_33 (by decide) (by decide) (by decide) (by decide) ?_
    exact lc_told hc hml hX hbl hbA hL h6 hR hw hl hcs kx2
  | 5, _ =>
    refine lv_tableIn (tgt := 435) (off := 402) hx hb dL_33 (by decide) (by decide) (by decide) (by decide) ?_
    exact lc_point hc hml hX hbl hbA hL h6 hR hw hl hcs kx2
  | 6, _ =>
    refine lv_tableIn (tgt := 478) (off := 445) hx hb dL_33 (by decide) (by decide) (by decide) (by decide) ?_
    exact lc_post hc hml hX hbl hbA hL h6 hR hw hl hcs kx2
  | 7, _ =>
    refine lv_tableIn (tgt := 511) (off := 478) hx hb dL_33 (by decide) (by decide) (by decide) (by decide) ?_
    exact lc_moves hc hml hX hbl hbA hL h6 hR hw hl hcs kx2
  | 8, _ =>
    refine lv_tableIn (tgt := 554) (off := 521) hx hb dL_33 (by decide) (by decide) (by decide) (by decide) ?_
    exact lc_count hc hml hX hbl hbA hL h6 hR hw hl hcs kx2
  | 9, _ =>
    refine lv_tableIn (tgt := 577) (off := 544) hx hb dL_33 (by decide) (by decide) (by decide) (by decide) ?_
    exact lc_feed hc hml hX hbl hbA hL h6 hR hw hl hcs kx2
  | 10, _ =>
    refine lv_tableIn (tgt := 640) (off := 607) hx hb dL_33 (by decide) (by decide) (by decide) (by decide) ?_
    exact lc_text hc hml hX hbl hbA hL h6 hR hw hl hcs kx2
  | 11, _ =>
    refine lv_tableIn (tgt := 653) (off := 620) hx hb dL_33 (by decide) (by decide) (by decide) (by decide) ?_
    exact lc_force hc hml hX hbl hbA hL h6 hR hw hl hcs kx2
  | 12, _ =>
    refine lv_tableIn (tgt := 676) (off := 643) hx hb dL_33 (by decide) (by decide) (by decide) (by decide) ?_
    exact lc_hidden hc hml hX hbl hbA hL h6 hR hw hl hcs kx2
  | 13, _ =>
    refine lv_tableIn (tgt := 719) (off := 686) hx hb dL_33 (by decide) (by decide) (by decide) (by decide) ?_
    exact lc_sees hc hml hX hbl hbA hL h6 hR hw hl hcs kx2
  | 14, _ =>
    refine lv_tableIn (tgt := 752) (off := 719) hx hb dL_33 (by decide) (by decide) (by decide) (by decide) ?_
    exact lc_worth hc hml hX hbl hbA hL h6 hR hw hl hcs kx2
  | 15, _ =>
    refine lv_tableIn (tgt := 785) (off := 752) hx hb dL_33 (by decide) (by decide) (by decide) (by decide) ?_
    exact lc_price hc hml hX hbl hbA hL h6 hR hw hl hcs kx2
  | 16, _ =>
    refine lv_tableIn (tgt := 818) (off := 785) hx hb dL_33 (by decide) (by decide) (by decide) (by decide) ?_
    exact lc_all hc hml hX hbl hbA hL h6 hR hw hl hcs kx2
  | 17, _ =>
    refine lv_tableIn (tgt := 841) (off := 808) hx hb dL_33 (by decide) (by decide) (by decide) (by decide) ?_
    exact lc_cost hc hml hX hbl hbA hL h6 hR hw hl hcs kx2
  | 18, _ =>
    refine lv_tableIn (tgt := 854) (off := 821) hx hb dL_33 (by decide) (by decide) (by decide) (by decide) ?_
    exact lc_lawful hc hml hX hbl hbA hL h6 hR hw hl hcs kx2
  | 19, _ =>
    refine lv_tableIn (tgt := 877) (off := 844) hx hb dL_33 (by decide) (by decide) (by decide) (by decide) ?_
    exact lc_judge hc hml hX hbl hbA hL h6 hR hw hl hcs kx2
  | 20, _ =>
    refine lv_tableIn (tgt := 900) (off := 867) hx hb dL_33 (by decide) (by decide) (by decide) (by decide) ?_
    exact lc_chance hc hml hX hbl hbA hL h6 hR hw hl hcs kx2
  | 21, _ =>
    refine lv_tableIn (tgt := 954) (off := 921) hx hb dL_33 (by decide) (by decide) (by decide) (by decide) ?_
    exact lc_mean hc hml hX hbl hbA hL h6 hR hw hl hcs kx2
  | 22, _ =>
    refine lv_tableIn (tgt := 998) (off := 965) hx hb dL_33 (by decide) (by decide) (by decide) (by decide) ?_
    exact lc_tall hc hml hX hbl hbA hL h6 hR hw hl hcs kx2
  | 23, _ =>
    refine lv_tableIn (tgt := 1021) (off := 988) hx hb dL_33 (by decide) (by decide) (by decide) (by decide) ?_
    exact lc_needs hc hml hX hbl hbA hL h6 hR hw hl hcs kx2
  | 24, _ =>
    refine lv_tableIn (tgt := 1044) (off := 1011) hx hb dL_33 (by decide) (by decide) (by decide) (by decide) ?_
    exact lc_proof hc hml hX hbl hbA hL h6 hR hw hl hcs kx2
  | 25, _ =>
    refine lv_tableIn (tgt := 1067) (off := 1034) hx hb dL_33 (by decide) (by decide) (by decide) (by decide) ?_
    exact lc_shifts hc hml hX hbl hbA hL h6 hR hw hl hcs kx2
  | 26, _ =>
    refine lv_tableIn (tgt := 1090) (off := 1057) hx hb dL_33 (by decide) (by decide) (by decide) (by decide) ?_
    exact lc_coin hc hml hX hbl hbA hL h6 hR hw hl hcs kx2
  | 27, _ =>
    refine lv_tableIn (tgt := 1123) (off := 1090) hx hb dL_33 (by decide) (by decide) (by decide) (by decide) ?_
    exact lc_stage hc hml hX hbl hbA hL h6 hR hw hl hcs kx2
  | 28, _ =>
    refine lv_tableIn (tgt := 1136) (off := 1103) hx hb dL_33 (by decide) (by decide) (by decide) (by decide) ?_
    exact lc_swap hc hml hX hbl hbA hL h6 hR hw hl hcs kx2
  | 29, _ =>
    refine lv_tableIn (tgt := 1189) (off := 1156) hx hb dL_33 (by decide) (by decide) (by decide) (by decide) ?_
    exact lc_people hc hml hX hbl hbA hL h6 hR hw hl hcs kx2
  | 30, _ =>
    refine lv_tableIn (tgt := 1222) (off := 1189) hx hb dL_33 (by decide) (by decide) (by decide) (by decide) ?_
    exact lc_settle hc hml hX hbl hbA hL h6 hR hw hl hcs kx2
  | 31, _ =>
    refine lv_tableIn (tgt := 1255) (off := 1222) hx hb dL_33 (by decide) (by decide) (by decide) (by decide) ?_
    exact lc_hat hc hml hX hbl hbA hL h6 hR hw hl hcs kx2
  | 32, _ =>
    refine lv_tableIn (tgt := 1298) (off := 1265) hx hb dL_33 (by decide) (by decide) (by decide) (by decide) ?_
    exact lc_least hc hml hX hbl hbA hL h6 hR hw hl hcs kx2
  | 33, _ =>
    refine lv_tableIn (tgt := 1321) (off := 1288) hx hb dL_33 (by decide) (by decide) (by decide) (by decide) ?_
    exact lc_sell hc hml hX hbl hbA hL h6 hR hw hl hcs kx2
  | 34, _ =>
    refine lv_tableIn (tgt := 1344) (off := 1311) hx hb dL_33 (by decide) (by decide) (by decide) (by decide) ?_
    exact lc_flat hc hml hX hbl hbA hL h6 hR hw hl hcs kx2
  | 35, _ =>
    refine lv_tableIn (tgt := 1357) (off := 1324) hx hb dL_33 (by decide) (by decide) (by decide) (by decide) ?_
    exact lc_thursday hc hml hX hbl hbA hL h6 hR hw hl hcs kx2
  | 36, _ =>
    refine lv_tableIn (tgt := 1380) (off := 1347) hx hb dL_33 (by decide) (by decide) (by decide) (by decide) ?_
    exact lc_image hc hml hX hbl hbA hL h6 hR hw hl hcs kx2
  | 37, _ =>
    refine lv_tableIn (tgt := 1393) (off := 1360) hx hb dL_33 (by decide) (by decide) (by decide) (by decide) ?_
    exact lc_back hc hml hX hbl hbA hL h6 hR hw hl hcs kx2
  | 38, _ =>
    refine lv_tableIn (tgt := 1406) (off := 1373) hx hb dL_33 (by decide) (by decide) (by decide) (by decide) ?_
    exact lc_sheet hc hml hX hbl hbA hL h6 hR hw hl hcs kx2
  | 39, _ =>
    refine lv_tableIn (tgt := 1449) (off := 1416) hx hb dL_33 (by decide) (by decide) (by decide) (by decide) ?_
    exact lc_cell hc hml hX hbl hbA hL h6 hR hw hl hcs kx2
  | 40, _ =>
    refine lv_tableIn (tgt := 1492) (off := 1459) hx hb dL_33 (by decide) (by decide) (by decide) (by decide) ?_
    exact lc_copy hc hml hX hbl hbA hL h6 hR hw hl hcs kx2
  | 41, _ =>
    refine lv_tableIn (tgt := 1555) (off := 1522) hx hb dL_33 (by decide) (by decide) (by decide) (by decide) ?_
    exact lc_sitters hc hml hX hbl hbA hL h6 hR hw hl hcs kx2
  | 42, _ =>
    refine lv_tableIn (tgt := 1608) (off := 1575) hx hb dL_33 (by decide) (by decide) (by decide) (by decide) ?_
    exact lc_taken hc hml hX hbl hbA hL h6 hR hw hl hcs kx2
  | n + 43, hn =>
    refine lv_tableOut (tgt := 1641) hx hb dL_33 (.inr (by rw [nI_toInt (by omega)]; omega)) (by decide) ?_
    exact W.widen (k := cells + 4) (n := slots + 198) (by omega) (by omega) (kx2 g X M H locs ls hR hw hl)
set_option maxRecDepth 100000 in
theorem law_loop {p : Program} {l : Launch} {e : Env} {s : State} {m : MethodId} {below : List Frame} {meth : Method} {c : Code} {b L : Nat} {xs : Nat → Int32} {ρ : Nat → Nat} (hc : qC R_law code p s m #[Value.ref b] c) (hr : meth.sig.returnType = ret) (hlocks : meth.locks = false) (hml : c.maxLocals = 4) (hX : va_X b L xs s s.heap) (hbl : b < s.heap.size) (hL : L ≤ 384) : ∀ (k j cells slots : Nat) (g : xG) (X : xS) (M : mS) (H : Heap) (locs : List Loc) (ls : Array Slot), j + k = 65 → cells + 4 * (k + 1) ≤ 600000 → slots + 198 * (k + 1) ≤ 7302250 → Rl X M → xJ g (fun q : Nat => s.heap.size ≤ q) s.heap s (mW (mgX g ρ) M ++ xW g X) H locs → lv_has ls 4 [(0, .ref b), (1, .ref (xr g 0)), (2, .ref (ρ 0)), (3, .int (nI (6 * j)))] → W p l e room_1 s m #[Value.ref b] below meth c H locs cells slots (lw_Z below #[Value.ref b] s) (F0 m 18 ls []) := by
  intro k
  induction k with
  | zero =>
    intro j cells slots g X M H locs ls hk h1 h2 hR hw hl
    exact law_body hc hr hlocks hml hX hbl hL (by omega) hR hw hl ⟨by omega, by omega⟩ (fun h6 => absurd h6 (by omega))
  | succ k ih =>
    intro j cells slots g X M H locs ls hk h1 h2 hR hw hl
    exact law_body hc hr hlocks hml hX hbl hL (by omega) hR hw hl ⟨by omega, by omega⟩ (fun _ g X M H locs ls hR hw hl => ih (j + 1) (cells + 4) (slots + 198) g X M H locs ls (by omega) (by omega) (by omega) hR hw hl)
end LAWLOOP
