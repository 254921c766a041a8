theorem dJ0_length_8abf5_0 : decode cJ0_length_8abf5 0 = .ok (.aload_n 0, 1) := by decide +kernel
theorem dJ0_length_8abf5_1 : decode cJ0_length_8abf5 1 = .ok (.getfield 9, 3) := by decide +kernel
theorem dJ0_length_8abf5_4 : decode cJ0_length_8abf5 4 = .ok (.arraylength, 1) := by decide +kernel
theorem dJ0_length_8abf5_5 : decode cJ0_length_8abf5 5 = .ok (.aload_n 0, 1) := by decide +kernel
theorem dJ0_length_8abf5_6 : decode cJ0_length_8abf5 6 = .ok (.invokevirtual 335, 3) := by decide +kernel
theorem dJ0_length_8abf5_9 : decode cJ0_length_8abf5 9 = .ok (.ishr, 1) := by decide +kernel
theorem dJ0_length_8abf5_10 : decode cJ0_length_8abf5 10 = .ok (.ireturn, 1) := by decide +kernel
theorem dJ0_charAt_5068e_0 : decode cJ0_charAt_5068e 0 = .ok (.aload_n 0, 1) := by decide +kernel
theorem dJ0_charAt_5068e_1 : decode cJ0_charAt_5068e 1 = .ok (.invokevirtual 492, 3) := by decide +kernel
theorem dJ0_charAt_5068e_4 : decode cJ0_charAt_5068e 4 = .ok (.ifCond .eq 12, 3) := by decide +kernel
theorem dJ0_charAt_5068e_7 : decode cJ0_charAt_5068e 7 = .ok (.aload_n 0, 1) := by decide +kernel
theorem dJ0_charAt_5068e_8 : decode cJ0_charAt_5068e 8 = .ok (.getfield 9, 3) := by decide +kernel
theorem dJ0_charAt_5068e_11 : decode cJ0_charAt_5068e 11 = .ok (.iload_n 1, 1) := by decide +kernel
theorem dJ0_charAt_5068e_12 : decode cJ0_charAt_5068e 12 = .ok (.invokestatic 495, 3) := by decide +kernel
theorem dJ0_charAt_5068e_15 : decode cJ0_charAt_5068e 15 = .ok (.ireturn, 1) := by decide +kernel
theorem dJ0_charAt_5068e_16 : decode cJ0_charAt_5068e 16 = .ok (.aload_n 0, 1) := by decide +kernel
theorem dJ0_charAt_5068e_17 : decode cJ0_charAt_5068e 17 = .ok (.getfield 9, 3) := by decide +kernel
theorem dJ0_charAt_5068e_20 : decode cJ0_charAt_5068e 20 = .ok (.iload_n 1, 1) := by decide +kernel
theorem dJ0_charAt_5068e_21 : decode cJ0_charAt_5068e 21 = .ok (.invokestatic 498, 3) := by decide +kernel
theorem dJ0_charAt_5068e_24 : decode cJ0_charAt_5068e 24 = .ok (.ireturn, 1) := by decide +kernel
theorem dJ0_coder_7d493_0 : decode cJ0_coder_7d493 0 = .ok (.getstatic 38, 3) := by decide +kernel
theorem dJ0_coder_7d493_3 : decode cJ0_coder_7d493 3 = .ok (.ifCond .eq 10, 3) := by decide +kernel
theorem dJ0_coder_7d493_6 : decode cJ0_coder_7d493 6 = .ok (.aload_n 0, 1) := by decide +kernel
theorem dJ0_coder_7d493_7 : decode cJ0_coder_7d493 7 = .ok (.getfield 15, 3) := by decide +kernel
theorem dJ0_coder_7d493_10 : decode cJ0_coder_7d493 10 = .ok (.goto 4, 3) := by decide +kernel
theorem dJ0_coder_7d493_13 : decode cJ0_coder_7d493 13 = .ok (.iconst 1, 1) := by decide +kernel
theorem dJ0_coder_7d493_14 : decode cJ0_coder_7d493 14 = .ok (.ireturn, 1) := by decide +kernel
theorem dJ0_isLatin1_aae02_0 : decode cJ0_isLatin1_aae02 0 = .ok (.getstatic 38, 3) := by decide +kernel
theorem dJ0_isLatin1_aae02_3 : decode cJ0_isLatin1_aae02 3 = .ok (.ifCond .eq 14, 3) := by decide +kernel
theorem dJ0_isLatin1_aae02_6 : decode cJ0_isLatin1_aae02 6 = .ok (.aload_n 0, 1) := by decide +kernel
theorem dJ0_isLatin1_aae02_7 : decode cJ0_isLatin1_aae02 7 = .ok (.getfield 15, 3) := by decide +kernel
theorem dJ0_isLatin1_aae02_10 : decode cJ0_isLatin1_aae02 10 = .ok (.ifCond .ne 7, 3) := by decide +kernel
theorem dJ0_isLatin1_aae02_13 : decode cJ0_isLatin1_aae02 13 = .ok (.iconst 1, 1) := by decide +kernel
theorem dJ0_isLatin1_aae02_14 : decode cJ0_isLatin1_aae02 14 = .ok (.goto 4, 3) := by decide +kernel
theorem dJ0_isLatin1_aae02_17 : decode cJ0_isLatin1_aae02 17 = .ok (.iconst 0, 1) := by decide +kernel
theorem dJ0_isLatin1_aae02_18 : decode cJ0_isLatin1_aae02 18 = .ok (.ireturn, 1) := by decide +kernel
theorem dJ0_checkIndex_df160_0 : decode cJ0_checkIndex_df160 0 = .ok (.iload_n 0, 1) := by decide +kernel
theorem dJ0_checkIndex_df160_1 : decode cJ0_checkIndex_df160 1 = .ok (.iload_n 1, 1) := by decide +kernel
theorem dJ0_checkIndex_df160_2 : decode cJ0_checkIndex_df160 2 = .ok (.getstatic 1053, 3) := by decide +kernel
theorem dJ0_checkIndex_df160_5 : decode cJ0_checkIndex_df160 5 = .ok (.invokestatic 1059, 3) := by decide +kernel
theorem dJ0_checkIndex_df160_8 : decode cJ0_checkIndex_df160 8 = .ok (.pop, 1) := by decide +kernel
theorem dJ0_checkIndex_df160_9 : decode cJ0_checkIndex_df160 9 = .ok (.return_, 1) := by decide +kernel
theorem dJ1_charAt_3b067_0 : decode cJ1_charAt_3b067 0 = .ok (.iload_n 1, 1) := by decide +kernel
theorem dJ1_charAt_3b067_1 : decode cJ1_charAt_3b067 1 = .ok (.aload_n 0, 1) := by decide +kernel
theorem dJ1_charAt_3b067_2 : decode cJ1_charAt_3b067 2 = .ok (.arraylength, 1) := by decide +kernel
theorem dJ1_charAt_3b067_3 : decode cJ1_charAt_3b067 3 = .ok (.invokestatic 9, 3) := by decide +kernel
theorem dJ1_charAt_3b067_6 : decode cJ1_charAt_3b067 6 = .ok (.aload_n 0, 1) := by decide +kernel
theorem dJ1_charAt_3b067_7 : decode cJ1_charAt_3b067 7 = .ok (.iload_n 1, 1) := by decide +kernel
theorem dJ1_charAt_3b067_8 : decode cJ1_charAt_3b067 8 = .ok (.baload, 1) := by decide +kernel
theorem dJ1_charAt_3b067_9 : decode cJ1_charAt_3b067 9 = .ok (.sipush 255, 3) := by decide +kernel
theorem dJ1_charAt_3b067_12 : decode cJ1_charAt_3b067 12 = .ok (.iand, 1) := by decide +kernel
theorem dJ1_charAt_3b067_13 : decode cJ1_charAt_3b067 13 = .ok (.i2c, 1) := by decide +kernel
theorem dJ1_charAt_3b067_14 : decode cJ1_charAt_3b067 14 = .ok (.ireturn, 1) := by decide +kernel
theorem dJ3_checkIndex_8e157_0 : decode cJ3_checkIndex_8e157 0 = .ok (.iload_n 0, 1) := by decide +kernel
theorem dJ3_checkIndex_8e157_1 : decode cJ3_checkIndex_8e157 1 = .ok (.ifCond .lt 8, 3) := by decide +kernel
theorem dJ3_checkIndex_8e157_4 : decode cJ3_checkIndex_8e157 4 = .ok (.iload_n 0, 1) := by decide +kernel
theorem dJ3_checkIndex_8e157_5 : decode cJ3_checkIndex_8e157 5 = .ok (.iload_n 1, 1) := by decide +kernel
theorem dJ3_checkIndex_8e157_6 : decode cJ3_checkIndex_8e157 6 = .ok (.if_icmp .lt 10, 3) := by decide +kernel
theorem dJ3_checkIndex_8e157_9 : decode cJ3_checkIndex_8e157 9 = .ok (.aload_n 2, 1) := by decide +kernel
theorem dJ3_checkIndex_8e157_10 : decode cJ3_checkIndex_8e157 10 = .ok (.iload_n 0, 1) := by decide +kernel
theorem dJ3_checkIndex_8e157_11 : decode cJ3_checkIndex_8e157 11 = .ok (.iload_n 1, 1) := by decide +kernel
theorem dJ3_checkIndex_8e157_12 : decode cJ3_checkIndex_8e157 12 = .ok (.invokestatic 95, 3) := by decide +kernel
theorem dJ3_checkIndex_8e157_15 : decode cJ3_checkIndex_8e157 15 = .ok (.athrow, 1) := by decide +kernel
theorem dJ3_checkIndex_8e157_16 : decode cJ3_checkIndex_8e157 16 = .ok (.iload_n 0, 1) := by decide +kernel
theorem dJ3_checkIndex_8e157_17 : decode cJ3_checkIndex_8e157 17 = .ok (.ireturn, 1) := by decide +kernel
theorem jq_coder : qCv RJ0 335 yJ0_coder_7d493 cJ0_coder_7d493 1 (some .byte) 0 := ⟨⟨(mem_g 318 (by decide +kernel) rfl), (mem_g 319 (by decide +kernel) rfl), (mem_g 320 (by decide +kernel) rfl), (mem_g 82 (by decide +kernel) rfl), (mem_g 321 (by decide +kernel) rfl)⟩, by decide, by decide +kernel, by decide⟩
theorem jq_isLatin1 : qCv RJ0 492 yJ0_isLatin1_aae02 cJ0_isLatin1_aae02 1 (some .boolean) 0 := ⟨⟨(mem_g 328 (by decide +kernel) rfl), (mem_g 329 (by decide +kernel) rfl), (mem_g 330 (by decide +kernel) rfl), (mem_g 82 (by decide +kernel) rfl), (mem_g 331 (by decide +kernel) rfl)⟩, by decide, by decide +kernel, by decide⟩
theorem jq_length_R : qCv RX7 153 yJ0_length_8abf5 cJ0_length_8abf5 1 (some .int) 0 := ⟨⟨(mem_g 389 (by decide +kernel) rfl), (mem_g 315 (by decide +kernel) rfl), (mem_g 316 (by decide +kernel) rfl), (mem_g 82 (by decide +kernel) rfl), (mem_g 317 (by decide +kernel) rfl)⟩, by decide, by decide +kernel, by decide⟩
theorem jq_charAt_R : qCv RX7 159 yJ0_charAt_5068e cJ0_charAt_5068e 2 (some .char) 1 := ⟨⟨(mem_g 390 (by decide +kernel) rfl), (mem_g 325 (by decide +kernel) rfl), (mem_g 326 (by decide +kernel) rfl), (mem_g 82 (by decide +kernel) rfl), (mem_g 327 (by decide +kernel) rfl)⟩, by decide, by decide +kernel, by decide⟩
theorem jq_length_X : qCv RX11 74 yJ0_length_8abf5 cJ0_length_8abf5 1 (some .int) 0 := ⟨⟨(mem_g 314 (by decide +kernel) rfl), (mem_g 315 (by decide +kernel) rfl), (mem_g 316 (by decide +kernel) rfl), (mem_g 82 (by decide +kernel) rfl), (mem_g 317 (by decide +kernel) rfl)⟩, by decide, by decide +kernel, by decide⟩
theorem jq_charAt_X : qCv RX11 80 yJ0_charAt_5068e cJ0_charAt_5068e 2 (some .char) 1 := ⟨⟨(mem_g 324 (by decide +kernel) rfl), (mem_g 325 (by decide +kernel) rfl), (mem_g 326 (by decide +kernel) rfl), (mem_g 82 (by decide +kernel) rfl), (mem_g 327 (by decide +kernel) rfl)⟩, by decide, by decide +kernel, by decide⟩
theorem jq_latin1 : qCs RJ0 495 yJ1_charAt_3b067 cJ1_charAt_3b067 2 (some .char) 2 := ⟨⟨(mem_g 332 (by decide +kernel) rfl), (mem_g 333 (by decide +kernel) rfl), (mem_g 83 (by decide +kernel) rfl), (mem_g 334 (by decide +kernel) rfl)⟩, by decide, by decide +kernel, by decide⟩
theorem jq_check : qCs RJ1 9 yJ0_checkIndex_df160 cJ0_checkIndex_df160 2 none 2 := ⟨⟨(mem_g 335 (by decide +kernel) rfl), (mem_g 336 (by decide +kernel) rfl), (mem_g 82 (by decide +kernel) rfl), (mem_g 337 (by decide +kernel) rfl)⟩, by decide, by decide +kernel, by decide⟩
theorem jq_pre : qCs RJ0 1059 yJ3_checkIndex_8e157 cJ3_checkIndex_8e157 3 (some .int) 3 := ⟨⟨(mem_g 340 (by decide +kernel) rfl), (mem_g 341 (by decide +kernel) rfl), (mem_g 84 (by decide +kernel) rfl), (mem_g 342 (by decide +kernel) rfl)⟩, by decide, by decide +kernel, by decide⟩
/-- a String constant's length, and its signs -/
def xlen (i : Nat) : Int32 := Int32.ofNat (xLen.getD i 0) >>> ((0 : Int32) &&& 31)
def xch (i k : Nat) : Int32 := ((((xByt.getD i []).getD k 0) &&& 255).toUInt32 % 65536).toInt32
theorem narrow_chr (i k : Nat) : narrow .char (.int (xch i k)) = .int (xch i k) := pk_nc _
set_option maxRecDepth 100000 in
theorem cj_coder (l : Launch) (S : xS) (i : Nat) (hi : i < 13) : xMi l yJ0_coder_7d493 cJ0_coder_7d493 1 .byte 1 (fun g => [.ref (xr g (300 + i))]) S 0 S := by
  refine xMi_of (own := RJ0) (by decide) rfl rfl (fun g => Nat.le_of_ble_eq_true rfl) ?_
  intro p e R s m args below meth c Q g A H0 H locs ls hc hR hml hw hl hQ
  have hl : lv_has ls 1 [(0, .ref (xr g (300 + i)))] := hl
  have hx := hc.1
  have hb := hc.2.1
  have hH := hw.2.2.2.2.2.1
  subst hH
  have hE := hw.2.2.2.2.2.2
  refine va_gets hx hb hE.2.2.2.2.2.1 hw.2.2.2.1 hc.2.2.1 (hc.2.2.2 _ (mem_g 322 (by decide +kernel) rfl)) (fun _ h => h) dJ0_coder_7d493_0 ?_
  refine lv_if_eq (tgt := 13) hx hb dJ0_coder_7d493_3 (by decide) (fun cn => absurd cn (by decide)) (fun cn => ?_)
  refine lv_aload_n hx hb dJ0_coder_7d493_6 rfl (lv_at hl 0 rfl) ?_
  refine vk_getf hx hb (hE.2.2.2.2.1.1 i hi).2.1 hw.2.2.2.1 hc.2.2.1 (hc.2.2.2 _ (mem_g 1699 (by decide +kernel) rfl)) (fun _ h => h) dJ0_coder_7d493_7 ?_
  refine lv_goto (tgt := 14) hx hb dJ0_coder_7d493_10 (by decide) ?_
  exact hQ _ _ _ _ dJ0_coder_7d493_14 hw
set_option maxRecDepth 100000 in
theorem cj_isLatin1 (l : Launch) (S : xS) (i : Nat) (hi : i < 13) : xMi l yJ0_isLatin1_aae02 cJ0_isLatin1_aae02 1 .boolean 1 (fun g => [.ref (xr g (300 + i))]) S 1 S := by
  refine xMi_of (own := RJ0) (by decide) rfl rfl (fun g => Nat.le_of_ble_eq_true rfl) ?_
  intro p e R s m args below meth c Q g A H0 H locs ls hc hR hml hw hl hQ
  have hl : lv_has ls 1 [(0, .ref (xr g (300 + i)))] := hl
  have hx := hc.1
  have hb := hc.2.1
  have hH := hw.2.2.2.2.2.1
  subst hH
  have hE := hw.2.2.2.2.2.2
  refine va_gets hx hb hE.2.2.2.2.2.1 hw.2.2.2.1 hc.2.2.1 (hc.2.2.2 _ (mem_g 322 (by decide +kernel) rfl)) (fun _ h => h) dJ0_isLatin1_aae02_0 ?_
  refine lv_if_eq (tgt := 17) hx hb dJ0_isLatin1_aae02_3 (by decide) (fun cn => absurd cn (by decide)) (fun cn => ?_)
  refine lv_aload_n hx hb dJ0_isLatin1_aae02_6 rfl (lv_at hl 0 rfl) ?_
  refine vk_getf hx hb (hE.2.2.2.2.1.1 i hi).2.1 hw.2.2.2.1 hc.2.2.1 (hc.2.2.2 _ (mem_g 1699 (by decide +kernel) rfl)) (fun _ h => h) dJ0_isLatin1_aae02_7 ?_
  refine lv_if_ne (tgt := 17) hx hb dJ0_isLatin1_aae02_10 (by decide) (fun cn => absurd rfl cn) (fun cn => ?_)
  refine lv_iconst (v := 1) hx hb dJ0_isLatin1_aae02_13 (by decide) ?_
  refine lv_goto (tgt := 18) hx hb dJ0_isLatin1_aae02_14 (by decide) ?_
  exact hQ _ _ _ _ dJ0_isLatin1_aae02_18 hw
set_option maxRecDepth 100000 in
theorem cj_length (l : Launch) (S : xS) (i : Nat) (hi : i < 13) : xMi l yJ0_length_8abf5 cJ0_length_8abf5 1 .int 2 (fun g => [.ref (xr g (300 + i))]) S (xlen i) S := by
  refine xMi_of (own := RJ0) (by decide) rfl rfl (fun g => Nat.le_of_ble_eq_true rfl) ?_
  intro p e R s m args below meth c Q g A H0 H locs ls hc hR hml hw hl hQ
  have hl : lv_has ls 1 [(0, .ref (xr g (300 + i)))] := hl
  have hx := hc.1
  have hb := hc.2.1
  have hH := hw.2.2.2.2.2.1
  subst hH
  have hE := hw.2.2.2.2.2.2
  refine lv_aload_n hx hb dJ0_length_8abf5_0 rfl (lv_at hl 0 rfl) ?_
  refine vk_getf hx hb (hE.2.2.2.2.1.1 i hi).2.2.1 hw.2.2.2.1 hc.2.2.1 (hc.2.2.2 _ (mem_g 1698 (by decide +kernel) rfl)) (fun _ h => h) dJ0_length_8abf5_1 ?_
  refine va_tlen hx hb (hE.2.2.2.2.1.1 i hi).2.2.2 hw.2.2.2.1 rfl dJ0_length_8abf5_4 ?_
  refine lv_aload_n hx hb dJ0_length_8abf5_5 rfl (lv_at hl 0 rfl) ?_
  refine x_cvi (As := []) (rest := [.int (Int32.ofNat (xLen.getD i 0))]) hc hw hR (hml.trans hl.1.symm) (cj_coder l S i hi) jq_coder (vk_recv hE.2.2.2.2.1 hi hw.2.2.2.1) (by decide) rfl rfl rfl (Nat.le_of_ble_eq_true rfl) dJ0_length_8abf5_6 (fun H locs hw => ?_) ⟨Nat.zero_le _, Nat.zero_le _⟩
  refine lv_ishr hx hb dJ0_length_8abf5_9 ?_
  exact hQ _ _ _ _ dJ0_length_8abf5_10 hw
set_option maxRecDepth 100000 in
theorem cj_pre (l : Launch) (S : xS) (k n : Int32) (fv : Value) (hfv : fv = .null ∨ ∃ t, fv = .ref t) (h0 : ¬ k < 0) (hn : k < n) : xMi l yJ3_checkIndex_8e157 cJ3_checkIndex_8e157 3 .int 1 (fun g => [.int k, .int n, fv]) S k S := by
  refine xMi_of (own := RJ3) (by decide) rfl rfl (fun g => by rcases hfv with rfl | ⟨t, rfl⟩ <;> exact Nat.le_of_ble_eq_true rfl) ?_
  intro p e R s m args below meth c Q g A H0 H locs ls hc hR hml hw hl hQ
  have hl : lv_has ls 3 [(0, .int k), (1, .int n), (2, fv)] := by
    rcases hfv with rfl | ⟨t, rfl⟩ <;> exact hl
  have hx := hc.1
  have hb := hc.2.1
  refine lv_iload_n hx hb dJ3_checkIndex_8e157_0 rfl (lv_at hl 0 rfl) ?_
  refine lv_if_lt (tgt := 9) hx hb dJ3_checkIndex_8e157_1 (by decide) (fun cn => absurd cn h0) (fun cn => ?_)
  refine lv_iload_n hx hb dJ3_checkIndex_8e157_4 rfl (lv_at hl 0 rfl) ?_
  refine lv_iload_n hx hb dJ3_checkIndex_8e157_5 rfl (lv_at hl 1 rfl) ?_
  refine lv_icmp_lt (tgt := 16) hx hb dJ3_checkIndex_8e157_6 (by decide) (fun cn => ?_) (fun cn => absurd hn cn)
  refine lv_iload_n hx hb dJ3_checkIndex_8e157_16 rfl (lv_at hl 0 rfl) ?_
  exact hQ _ _ _ _ dJ3_checkIndex_8e157_17 hw
set_option maxRecDepth 100000 in
theorem cj_check (l : Launch) (S : xS) (k n : Int32) (h0 : ¬ k < 0) (hn : k < n) : xMv l yJ0_checkIndex_df160 cJ0_checkIndex_df160 2 2 (fun g => [.int k, .int n]) S S := by
  refine xMv_of (own := RJ0) (by decide) rfl (fun g => Nat.le_of_ble_eq_true rfl) ?_
  intro p e R s m args below meth c Q g A H0 H locs ls hc hR hml hw hl hQ
  have hl : lv_has ls 2 [(0, .int k), (1, .int n)] := hl
  have hx := hc.1
  have hb := hc.2.1
  have hH := hw.2.2.2.2.2.1
  subst hH
  have hE := hw.2.2.2.2.2.2
  refine lv_iload_n hx hb dJ0_checkIndex_df160_0 rfl (lv_at hl 0 rfl) ?_
  refine lv_iload_n hx hb dJ0_checkIndex_df160_1 rfl (lv_at hl 1 rfl) ?_
  rcases hE.2.2.2.2.2.2.1 with hz | ⟨t, hz⟩
  · refine va_gets hx hb hz hw.2.2.2.1 hc.2.2.1 (hc.2.2.2 _ (mem_g 338 (by decide +kernel) rfl)) (fun _ h => h) dJ0_checkIndex_df160_2 ?_
    refine x_csi (As := [.int k, .int n, .null]) (rest := []) hc hw hR (hml.trans hl.1.symm) (cj_pre l S k n .null (Or.inl rfl) h0 hn) jq_pre (by decide) rfl rfl rfl (Nat.le_of_ble_eq_true rfl) dJ0_checkIndex_df160_5 (fun H locs hw => ?_) ⟨Nat.zero_le _, Nat.zero_le _⟩
    refine lv_pop hx hb dJ0_checkIndex_df160_8 rfl ?_
    exact hQ _ _ _ _ dJ0_checkIndex_df160_9 hw
  · refine va_gets hx hb hz hw.2.2.2.1 hc.2.2.1 (hc.2.2.2 _ (mem_g 338 (by decide +kernel) rfl)) (fun _ h => h) dJ0_checkIndex_df160_2 ?_
    refine x_csi (As := [.int k, .int n, .ref t]) (rest := []) hc hw hR (hml.trans hl.1.symm) (cj_pre l S k n (.ref t) (Or.inr ⟨t, rfl⟩) h0 hn) jq_pre (by decide) rfl rfl rfl (Nat.le_of_ble_eq_true rfl) dJ0_checkIndex_df160_5 (fun H locs hw => ?_) ⟨Nat.zero_le _, Nat.zero_le _⟩
    refine lv_pop hx hb dJ0_checkIndex_df160_8 rfl ?_
    exact hQ _ _ _ _ dJ0_checkIndex_df160_9 hw
theorem xLen_small : ∀ i, i < 13 → xLen.getD i 0 < 1000 := by decide
theorem ok_lt {k : Int32} {n : Nat} (h : ok k n = true) (hn : n < 1000) : ¬ k < 0 ∧ k < Int32.ofNat n := by
  unfold ok at h
  simp only [Bool.and_eq_true, decide_eq_true_eq] at h
  refine ⟨Int32.not_lt.mpr h.1, Int32.lt_iff_toInt_lt.mpr ?_⟩
  have h3 : (nI n).toInt = (n : Int) := nI_toInt (by omega)
  have h4 : (Int32.ofNat n).toInt = (n : Int) := h3
  rw [h4]
  have h0 : (0 : Int) ≤ k.toInt := by simpa using Int32.le_iff_toInt_le.mp h.1
  have h5 : k.toNatClampNeg = k.toInt.toNat := rfl
  have h6 := h.2
  omega
set_option maxRecDepth 100000 in
theorem cj_latin1 (l : Launch) (S : xS) (i : Nat) (k : Int32) (hi : i < 13) (hk : ok k (xLen.getD i 0) = true) : xMi l yJ1_charAt_3b067 cJ1_charAt_3b067 2 .char 3 (fun g => [.ref (xr g (320 + i)), .int k]) S (xch i k.toNatClampNeg) S := by
  have hlt := ok_lt hk (xLen_small i hi)
  refine xMi_of (own := RJ1) (by decide) rfl (narrow_chr _ _) (fun g => Nat.le_of_ble_eq_true rfl) ?_
  intro p e R s m args below meth c Q g A H0 H locs ls hc hR hml hw hl hQ
  have hl : lv_has ls 2 [(0, .ref (xr g (320 + i))), (1, .int k)] := hl
  have hx := hc.1
  have hb := hc.2.1
  have hH := hw.2.2.2.2.2.1
  subst hH
  have hE := hw.2.2.2.2.2.2
  refine lv_iload_n hx hb dJ1_charAt_3b067_0 rfl (lv_at hl 1 rfl) ?_
  refine lv_aload_n hx hb dJ1_charAt_3b067_1 rfl (lv_at hl 0 rfl) ?_
  refine va_tlen hx hb (hE.2.2.2.2.1.1 i hi).2.2.2 hw.2.2.2.1 rfl dJ1_charAt_3b067_2 ?_
  refine x_csv (As := [.int k, .int (Int32.ofNat (xLen.getD i 0))]) (rest := []) hc hw hR (hml.trans hl.1.symm) (cj_check l S k _ hlt.1 hlt.2) jq_check (by decide) rfl rfl rfl (Nat.le_of_ble_eq_true rfl) dJ1_charAt_3b067_3 (fun H locs hw => ?_) ⟨Nat.zero_le _, Nat.zero_le _⟩
  refine lv_aload_n hx hb dJ1_charAt_3b067_6 rfl (lv_at hl 0 rfl) ?_
  refine lv_iload_n hx hb dJ1_charAt_3b067_7 rfl (lv_at hl 1 rfl) ?_
  refine va_tb hx hb (hE.2.2.2.2.1.1 i hi).2.2.2 hw.2.2.2.1 (ok_in hk) rfl dJ1_charAt_3b067_8 ?_
  refine lv_sipush (v := 255) hx hb dJ1_charAt_3b067_9 (by decide) ?_
  refine lv_iand hx hb dJ1_charAt_3b067_12 ?_
  refine lv_i2c hx hb dJ1_charAt_3b067_13 rfl ?_
  exact hQ _ _ _ _ dJ1_charAt_3b067_14 hw
set_option maxRecDepth 100000 in
theorem cj_charAt (l : Launch) (S : xS) (i : Nat) (k : Int32) (hi : i < 13) (hk : ok k (xLen.getD i 0) = true) : xMi l yJ0_charAt_5068e cJ0_charAt_5068e 2 .char 4 (fun g => [.ref (xr g (300 + i)), .int k]) S (xch i k.toNatClampNeg) S := by
  refine xMi_of (own := RJ0) (by decide) rfl (narrow_chr _ _) (fun g => Nat.le_of_ble_eq_true rfl) ?_
  intro p e R s m args below meth c Q g A H0 H locs ls hc hR hml hw hl hQ
  have hl : lv_has ls 2 [(0, .ref (xr g (300 + i))), (1, .int k)] := hl
  have hx := hc.1
  have hb := hc.2.1
  have hH := hw.2.2.2.2.2.1
  subst hH
  have hE := hw.2.2.2.2.2.2
  refine lv_aload_n hx hb dJ0_charAt_5068e_0 rfl (lv_at hl 0 rfl) ?_
  refine x_cvi (As := []) (rest := []) hc hw hR (hml.trans hl.1.symm) (cj_isLatin1 l S i hi) jq_isLatin1 (vk_recv hE.2.2.2.2.1 hi hw.2.2.2.1) (by decide) rfl rfl rfl (Nat.le_of_ble_eq_true rfl) dJ0_charAt_5068e_1 (fun H locs hw => ?_) ⟨Nat.zero_le _, Nat.zero_le _⟩
  refine lv_if_eq (tgt := 16) hx hb dJ0_charAt_5068e_4 (by decide) (fun cn => absurd cn (by decide)) (fun cn => ?_)
  refine lv_aload_n hx hb dJ0_charAt_5068e_7 rfl (lv_at hl 0 rfl) ?_
  refine vk_getf hx hb (hE.2.2.2.2.1.1 i hi).2.2.1 hw.2.2.2.1 hc.2.2.1 (hc.2.2.2 _ (mem_g 1698 (by decide +kernel) rfl)) (fun _ h => h) dJ0_charAt_5068e_8 ?_
  refine lv_iload_n hx hb dJ0_charAt_5068e_11 rfl (lv_at hl 1 rfl) ?_
  refine x_csi (As := [.ref (xr g (320 + i)), .int k]) (rest := []) hc hw hR (hml.trans hl.1.symm) (cj_latin1 l S i k hi hk) jq_latin1 (by decide) rfl rfl rfl (Nat.le_of_ble_eq_true rfl) dJ0_charAt_5068e_12 (fun H locs hw => ?_) ⟨Nat.zero_le _, Nat.zero_le _⟩
  exact hQ _ _ _ _ dJ0_charAt_5068e_15 hw
