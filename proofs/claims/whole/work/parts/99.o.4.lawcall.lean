section LAWCALL4
set_option maxRecDepth 100000 in
theorem lc_image {p : Program} {l : Launch} {e : Env} {s : State} {m : MethodId} {below : List Frame} {meth : Method} {c : Code} {Q : State → Prop} {cells slots b L j : Nat} {xs : Nat → Int32} {g : xG} {ρ : Nat → Nat} {X : xS} {M : mS} {A : Nat → Prop} {H : Heap} {locs : List Loc} {ls : Array Slot} (hc : qC R_law code p s m #[Value.ref b] c) (hml : c.maxLocals = 4) (hX : va_X b L xs s s.heap) (hbl : b < s.heap.size) (hbA : ¬ A b) (hL : L ≤ 384) (hj : 6 * j + 6 ≤ L) (hR : Rl X M) (hw : xJ g A s.heap s (mW (mgX g ρ) M ++ xW g X) H locs) (hl : lv_has ls 4 [(0, .ref b), (1, .ref (xr g 0)), (2, .ref (ρ 0)), (3, .int (nI (6 * j)))]) (hcs : cells + 4 ≤ 600000 ∧ slots + 198 ≤ 7302250) (kx : ∀ (g : xG) (X : xS) (M : mS) (H : Heap) (locs : List Loc) (ls : Array Slot), Rl X M → xJ g A s.heap s (mW (mgX g ρ) M ++ xW g X) H locs → lv_has ls 4 [(0, .ref b), (1, .ref (xr g 0)), (2, .ref (ρ 0)), (3, .int (nI (6 * j)))] → W p l e room_1 s m #[Value.ref b] below meth c H locs (cells + 4) (slots + 198) Q (F0 m 1641 ls [])) : W p l e room_1 s m #[Value.ref b] below meth c H locs cells slots Q (F0 m 1380 ls []) := by
  have hx := hc.1
  have hb := hc.2.1
  have hc1 : cells + 4 ≤ room_1.cells := hcs.1
  have hc2 : slots + 198 ≤ room_1.slots := hcs.2
  refine lv_aload_n hx hb dL_1380 rfl (lv_at hl 1 rfl) ?_
  obtain ⟨r, X1, M1, hf1, hf2, hR1⟩ := st_image (Nat.le_refl 2000) hR 
  refine e_xcvi (As := []) (rest := []) hc hw law_room (hml.trans hl.1.symm) (cx_X_image l 2000 X r X1 hf1) (⟨⟨(mem_g 1079 (by decide +kernel) rfl), (mem_g 1080 (by decide +kernel) rfl), (mem_g 1081 (by decide +kernel) rfl), (mem_g 77 (by decide +kernel) rfl), (mem_g 1082 (by decide +kernel) rfl)⟩, by decide, by decide +kernel, by decide⟩ : qCv R_law 167 yX11_image cX11_image 1 (some .int) 0) (x_recv_this (xJ_I (xJ_post hw))) (by decide) rfl rfl rfl (Nat.le_of_ble_eq_true rfl) dL_1381 (fun H locs hw => ?_) ⟨by omega, by omega⟩
  refine W.widen (k := cells + 4) (n := slots + 198) (by omega) (by omega) ?_
  have hw := xJ_perm List.perm_append_comm hw
  refine lv_aload_n hx hb dL_1384 rfl (lv_at hl 2 rfl) ?_
  refine e_mcvi (As := []) (rest := [.int r]) hc hw law_room (hml.trans hl.1.symm) (cm_image l 2000 M r M1 hf2) (⟨⟨(mem_g 1658 (by decide +kernel) rfl), (mem_g 1659 (by decide +kernel) rfl), (mem_g 1660 (by decide +kernel) rfl), (mem_g 89 (by decide +kernel) rfl), (mem_g 1661 (by decide +kernel) rfl)⟩, by decide, by decide +kernel, by decide⟩ : qCv R_law 170 yX12_image cX12_image 2 (some .int) 0) rfl (by decide) rfl rfl rfl (Nat.le_of_ble_eq_true rfl) dL_1385 (fun H locs hw => ?_) ⟨by omega, by omega⟩
  have hw := xJ_perm List.perm_append_comm hw
  refine lv_icmp_eq (tgt := 1641) hx hb dL_1388 (by decide) (fun _ => ?_) (fun cn => absurd rfl cn)
  exact kx g X1 M1 H locs ls hR1 hw hl
set_option maxRecDepth 100000 in
theorem lc_back {p : Program} {l : Launch} {e : Env} {s : State} {m : MethodId} {below : List Frame} {meth : Method} {c : Code} {Q : State → Prop} {cells slots b L j : Nat} {xs : Nat → Int32} {g : xG} {ρ : Nat → Nat} {X : xS} {M : mS} {A : Nat → Prop} {H : Heap} {locs : List Loc} {ls : Array Slot} (hc : qC R_law code p s m #[Value.ref b] c) (hml : c.maxLocals = 4) (hX : va_X b L xs s s.heap) (hbl : b < s.heap.size) (hbA : ¬ A b) (hL : L ≤ 384) (hj : 6 * j + 6 ≤ L) (hR : Rl X M) (hw : xJ g A s.heap s (mW (mgX g ρ) M ++ xW g X) H locs) (hl : lv_has ls 4 [(0, .ref b), (1, .ref (xr g 0)), (2, .ref (ρ 0)), (3, .int (nI (6 * j)))]) (hcs : cells + 4 ≤ 600000 ∧ slots + 198 ≤ 7302250) (kx : ∀ (g : xG) (X : xS) (M : mS) (H : Heap) (locs : List Loc) (ls : Array Slot), Rl X M → xJ g A s.heap s (mW (mgX g ρ) M ++ xW g X) H locs → lv_has ls 4 [(0, .ref b), (1, .ref (xr g 0)), (2, .ref (ρ 0)), (3, .int (nI (6 * j)))] → W p l e room_1 s m #[Value.ref b] below meth c H locs (cells + 4) (slots + 198) Q (F0 m 1641 ls [])) : W p l e room_1 s m #[Value.ref b] below meth c H locs cells slots Q (F0 m 1393 ls []) := by
  have hx := hc.1
  have hb := hc.2.1
  have hc1 : cells + 4 ≤ room_1.cells := hcs.1
  have hc2 : slots + 198 ≤ room_1.slots := hcs.2
  refine lv_aload_n hx hb dL_1393 rfl (lv_at hl 1 rfl) ?_
  obtain ⟨r, X1, M1, hf1, hf2, hR1⟩ := st_back (Nat.le_refl 2000) hR 
  refine e_xcvi (As := []) (rest := []) hc hw law_room (hml.trans hl.1.symm) (cx_X_back l 2000 X r X1 hf1) (⟨⟨(mem_g 1089 (by decide +kernel) rfl), (mem_g 1090 (by decide +kernel) rfl), (mem_g 1091 (by decide +kernel) rfl), (mem_g 77 (by decide +kernel) rfl), (mem_g 1092 (by decide +kernel) rfl)⟩, by decide, by decide +kernel, by decide⟩ : qCv R_law 171 yX11_back cX11_back 1 (some .int) 0) (x_recv_this (xJ_I (xJ_post hw))) (by decide) rfl rfl rfl (Nat.le_of_ble_eq_true rfl) dL_1394 (fun H locs hw => ?_) ⟨by omega, by omega⟩
  refine W.widen (k := cells + 4) (n := slots + 198) (by omega) (by omega) ?_
  have hw := xJ_perm List.perm_append_comm hw
  refine lv_aload_n hx hb dL_1397 rfl (lv_at hl 2 rfl) ?_
  refine e_mcvi (As := []) (rest := [.int r]) hc hw law_room (hml.trans hl.1.symm) (cm_back l 2000 M r M1 hf2) (⟨⟨(mem_g 1662 (by decide +kernel) rfl), (mem_g 1663 (by decide +kernel) rfl), (mem_g 1664 (by decide +kernel) rfl), (mem_g 89 (by decide +kernel) rfl), (mem_g 1665 (by decide +kernel) rfl)⟩, by decide, by decide +kernel, by decide⟩ : qCv R_law 174 yX12_back cX12_back 3 (some .int) 0) rfl (by decide) rfl rfl rfl (Nat.le_of_ble_eq_true rfl) dL_1398 (fun H locs hw => ?_) ⟨by omega, by omega⟩
  have hw := xJ_perm List.perm_append_comm hw
  refine lv_icmp_eq (tgt := 1641) hx hb dL_1401 (by decide) (fun _ => ?_) (fun cn => absurd rfl cn)
  exact kx g X1 M1 H locs ls hR1 hw hl
set_option maxRecDepth 100000 in
theorem lc_sheet {p : Program} {l : Launch} {e : Env} {s : State} {m : MethodId} {below : List Frame} {meth : Method} {c : Code} {Q : State → Prop} {cells slots b L j : Nat} {xs : Nat → Int32} {g : xG} {ρ : Nat → Nat} {X : xS} {M : mS} {A : Nat → Prop} {H : Heap} {locs : List Loc} {ls : Array Slot} (hc : qC R_law code p s m #[Value.ref b] c) (hml : c.maxLocals = 4) (hX : va_X b L xs s s.heap) (hbl : b < s.heap.size) (hbA : ¬ A b) (hL : L ≤ 384) (hj : 6 * j + 6 ≤ L) (hR : Rl X M) (hw : xJ g A s.heap s (mW (mgX g ρ) M ++ xW g X) H locs) (hl : lv_has ls 4 [(0, .ref b), (1, .ref (xr g 0)), (2, .ref (ρ 0)), (3, .int (nI (6 * j)))]) (hcs : cells + 4 ≤ 600000 ∧ slots + 198 ≤ 7302250) (kx : ∀ (g : xG) (X : xS) (M : mS) (H : Heap) (locs : List Loc) (ls : Array Slot), Rl X M → xJ g A s.heap s (mW (mgX g ρ) M ++ xW g X) H locs → lv_has ls 4 [(0, .ref b), (1, .ref (xr g 0)), (2, .ref (ρ 0)), (3, .int (nI (6 * j)))] → W p l e room_1 s m #[Value.ref b] below meth c H locs (cells + 4) (slots + 198) Q (F0 m 1641 ls [])) : W p l e room_1 s m #[Value.ref b] below meth c H locs cells slots Q (F0 m 1406 ls []) := by
  have hx := hc.1
  have hb := hc.2.1
  have hc1 : cells + 4 ≤ room_1.cells := hcs.1
  have hc2 : slots + 198 ≤ room_1.slots := hcs.2
  refine lv_aload_n hx hb dL_1406 rfl (lv_at hl 1 rfl) ?_
  refine lv_aload_n hx hb dL_1407 rfl (lv_at hl 0 rfl) ?_
  refine lv_iload_n hx hb dL_1408 rfl (lv_at hl 3 rfl) ?_
  refine lv_iconst (v := 1) hx hb dL_1409 (by decide) ?_
  refine lv_iadd hx hb dL_1410 ?_
  refine va_sld hx hb hX hbl hbA hw.2.2.2.1 (idx_in (L := L) (j := j) (k := 1) 1 rfl (by decide) hL hj) dL_1411 ?_
  refine lv_aload_n hx hb dL_1412 rfl (lv_at hl 0 rfl) ?_
  refine lv_iload_n hx hb dL_1413 rfl (lv_at hl 3 rfl) ?_
  refine lv_iconst (v := 2) hx hb dL_1414 (by decide) ?_
  refine lv_iadd hx hb dL_1415 ?_
  refine va_sld hx hb hX hbl hbA hw.2.2.2.1 (idx_in (L := L) (j := j) (k := 2) 2 rfl (by decide) hL hj) dL_1416 ?_
  refine lv_aload_n hx hb dL_1417 rfl (lv_at hl 0 rfl) ?_
  refine lv_iload_n hx hb dL_1418 rfl (lv_at hl 3 rfl) ?_
  refine lv_iconst (v := 3) hx hb dL_1419 (by decide) ?_
  refine lv_iadd hx hb dL_1420 ?_
  refine va_sld hx hb hX hbl hbA hw.2.2.2.1 (idx_in (L := L) (j := j) (k := 3) 3 rfl (by decide) hL hj) dL_1421 ?_
  obtain ⟨r, X1, M1, hf1, hf2, hR1⟩ := st_sheet (Nat.le_refl 2000) hR (xs (nI (6 * j) + 1).toNatClampNeg) (xs (nI (6 * j) + 2).toNatClampNeg) (xs (nI (6 * j) + 3).toNatClampNeg)
  refine e_xcvi (As := [.int (xs (nI (6 * j) + 1).toNatClampNeg), .int (xs (nI (6 * j) + 2).toNatClampNeg), .int (xs (nI (6 * j) + 3).toNatClampNeg)]) (rest := []) hc hw law_room (hml.trans hl.1.symm) (cx_X_sheet l 2000 X (xs (nI (6 * j) + 1).toNatClampNeg) (xs (nI (6 * j) + 2).toNatClampNeg) (xs (nI (6 * j) + 3).toNatClampNeg) r X1 hf1) (⟨⟨(mem_g 1098 (by decide +kernel) rfl), (mem_g 1099 (by decide +kernel) rfl), (mem_g 1100 (by decide +kernel) rfl), (mem_g 77 (by decide +kernel) rfl), (mem_g 1101 (by decide +kernel) rfl)⟩, by decide, by decide +kernel, by decide⟩ : qCv R_law 175 yX11_sheet cX11_sheet 5 (some .int) 3) (x_recv_this (xJ_I (xJ_post hw))) (by decide) rfl rfl rfl (Nat.le_of_ble_eq_true rfl) dL_1422 (fun H locs hw => ?_) ⟨by omega, by omega⟩
  refine W.widen (k := cells + 4) (n := slots + 198) (by omega) (by omega) ?_
  have hw := xJ_perm List.perm_append_comm hw
  refine lv_aload_n hx hb dL_1425 rfl (lv_at hl 2 rfl) ?_
  refine lv_aload_n hx hb dL_1426 rfl (lv_at hl 0 rfl) ?_
  refine lv_iload_n hx hb dL_1427 rfl (lv_at hl 3 rfl) ?_
  refine lv_iconst (v := 1) hx hb dL_1428 (by decide) ?_
  refine lv_iadd hx hb dL_1429 ?_
  refine va_sld hx hb hX hbl hbA hw.2.2.2.1 (idx_in (L := L) (j := j) (k := 1) 1 rfl (by decide) hL hj) dL_1430 ?_
  refine lv_aload_n hx hb dL_1431 rfl (lv_at hl 0 rfl) ?_
  refine lv_iload_n hx hb dL_1432 rfl (lv_at hl 3 rfl) ?_
  refine lv_iconst (v := 2) hx hb dL_1433 (by decide) ?_
  refine lv_iadd hx hb dL_1434 ?_
  refine va_sld hx hb hX hbl hbA hw.2.2.2.1 (idx_in (L := L) (j := j) (k := 2) 2 rfl (by decide) hL hj) dL_1435 ?_
  refine lv_aload_n hx hb dL_1436 rfl (lv_at hl 0 rfl) ?_
  refine lv_iload_n hx hb dL_1437 rfl (lv_at hl 3 rfl) ?_
  refine lv_iconst (v := 3) hx hb dL_1438 (by decide) ?_
  refine lv_iadd hx hb dL_1439 ?_
  refine va_sld hx hb hX hbl hbA hw.2.2.2.1 (idx_in (L := L) (j := j) (k := 3) 3 rfl (by decide) hL hj) dL_1440 ?_
  refine e_mcvi (As := [.int (xs (nI (6 * j) + 1).toNatClampNeg), .int (xs (nI (6 * j) + 2).toNatClampNeg), .int (xs (nI (6 * j) + 3).toNatClampNeg)]) (rest := [.int r]) hc hw law_room (hml.trans hl.1.symm) (cm_sheet l 2000 M (xs (nI (6 * j) + 1).toNatClampNeg) (xs (nI (6 * j) + 2).toNatClampNeg) (xs (nI (6 * j) + 3).toNatClampNeg) r M1 hf2) (⟨⟨(mem_g 1666 (by decide +kernel) rfl), (mem_g 1667 (by decide +kernel) rfl), (mem_g 1668 (by decide +kernel) rfl), (mem_g 89 (by decide +kernel) rfl), (mem_g 1669 (by decide +kernel) rfl)⟩, by decide, by decide +kernel, by decide⟩ : qCv R_law 178 yX12_sheet cX12_sheet 5 (some .int) 3) rfl (by decide) rfl rfl rfl (Nat.le_of_ble_eq_true rfl) dL_1441 (fun H locs hw => ?_) ⟨by omega, by omega⟩
  have hw := xJ_perm List.perm_append_comm hw
  refine lv_icmp_eq (tgt := 1641) hx hb dL_1444 (by decide) (fun _ => ?_) (fun cn => absurd rfl cn)
  exact kx g X1 M1 H locs ls hR1 hw hl
set_option maxRecDepth 100000 in
theorem lc_cell {p : Program} {l : Launch} {e : Env} {s : State} {m : MethodId} {below : List Frame} {meth : Method} {c : Code} {Q : State → Prop} {cells slots b L j : Nat} {xs : Nat → Int32} {g : xG} {ρ : Nat → Nat} {X : xS} {M : mS} {A : Nat → Prop} {H : Heap} {locs : List Loc} {ls : Array Slot} (hc : qC R_law code p s m #[Value.ref b] c) (hml : c.maxLocals = 4) (hX : va_X b L xs s s.heap) (hbl : b < s.heap.size) (hbA : ¬ A b) (hL : L ≤ 384) (hj : 6 * j + 6 ≤ L) (hR : Rl X M) (hw : xJ g A s.heap s (mW (mgX g ρ) M ++ xW g X) H locs) (hl : lv_has ls 4 [(0, .ref b), (1, .ref (xr g 0)), (2, .ref (ρ 0)), (3, .int (nI (6 * j)))]) (hcs : cells + 4 ≤ 600000 ∧ slots + 198 ≤ 7302250) (kx : ∀ (g : xG) (X : xS) (M : mS) (H : Heap) (locs : List Loc) (ls : Array Slot), Rl X M → xJ g A s.heap s (mW (mgX g ρ) M ++ xW g X) H locs → lv_has ls 4 [(0, .ref b), (1, .ref (xr g 0)), (2, .ref (ρ 0)), (3, .int (nI (6 * j)))] → W p l e room_1 s m #[Value.ref b] below meth c H locs (cells + 4) (slots + 198) Q (F0 m 1641 ls [])) : W p l e room_1 s m #[Value.ref b] below meth c H locs cells slots Q (F0 m 1449 ls []) := by
  have hx := hc.1
  have hb := hc.2.1
  have hc1 : cells + 4 ≤ room_1.cells := hcs.1
  have hc2 : slots + 198 ≤ room_1.slots := hcs.2
  refine lv_aload_n hx hb dL_1449 rfl (lv_at hl 1 rfl) ?_
  refine lv_aload_n hx hb dL_1450 rfl (lv_at hl 0 rfl) ?_
  refine lv_iload_n hx hb dL_1451 rfl (lv_at hl 3 rfl) ?_
  refine lv_iconst (v := 1) hx hb dL_1452 (by decide) ?_
  refine lv_iadd hx hb dL_1453 ?_
  refine va_sld hx hb hX hbl hbA hw.2.2.2.1 (idx_in (L := L) (j := j) (k := 1) 1 rfl (by decide) hL hj) dL_1454 ?_
  refine lv_aload_n hx hb dL_1455 rfl (lv_at hl 0 rfl) ?_
  refine lv_iload_n hx hb dL_1456 rfl (lv_at hl 3 rfl) ?_
  refine lv_iconst (v := 2) hx hb dL_1457 (by decide) ?_
  refine lv_iadd hx hb dL_1458 ?_
  refine va_sld hx hb hX hbl hbA hw.2.2.2.1 (idx_in (L := L) (j := j) (k := 2) 2 rfl (by decide) hL hj) dL_1459 ?_
  refine lv_aload_n hx hb dL_1460 rfl (lv_at hl 0 rfl) ?_
  refine lv_iload_n hx hb dL_1461 rfl (lv_at hl 3 rfl) ?_
  refine lv_iconst (v := 3) hx hb dL_1462 (by decide) ?_
  refine lv_iadd hx hb dL_1463 ?_
  refine va_sld hx hb hX hbl hbA hw.2.2.2.1 (idx_in (L := L) (j := j) (k := 3) 3 rfl (by decide) hL hj) dL_1464 ?_
  obtain ⟨r, X1, M1, hf1, hf2, hR1⟩ := st_cell (N := 2000) hR (xs (nI (6 * j) + 1).toNatClampNeg) (xs (nI (6 * j) + 2).toNatClampNeg) (xs (nI (6 * j) + 3).toNatClampNeg)
  refine e_xcvi (As := [.int (xs (nI (6 * j) + 1).toNatClampNeg), .int (xs (nI (6 * j) + 2).toNatClampNeg), .int (xs (nI (6 * j) + 3).toNatClampNeg)]) (rest := []) hc hw law_room (hml.trans hl.1.symm) (cx_X_cell l 2000 X (xs (nI (6 * j) + 1).toNatClampNeg) (xs (nI (6 * j) + 2).toNatClampNeg) (xs (nI (6 * j) + 3).toNatClampNeg) r X1 hf1) (⟨⟨(mem_g 1102 (by decide +kernel) rfl), (mem_g 1103 (by decide +kernel) rfl), (mem_g 1104 (by decide +kernel) rfl), (mem_g 77 (by decide +kernel) rfl), (mem_g 1105 (by decide +kernel) rfl)⟩, by decide, by decide +kernel, by decide⟩ : qCv R_law 179 yX11_cell cX11_cell 5 (some .int) 3) (x_recv_this (xJ_I (xJ_post hw))) (by decide) rfl rfl rfl (Nat.le_of_ble_eq_true rfl) dL_1465 (fun H locs hw => ?_) ⟨by omega, by omega⟩
  refine W.widen (k := cells + 4) (n := slots + 198) (by omega) (by omega) ?_
  have hw := xJ_perm List.perm_append_comm hw
  refine lv_aload_n hx hb dL_1468 rfl (lv_at hl 2 rfl) ?_
  refine lv_aload_n hx hb dL_1469 rfl (lv_at hl 0 rfl) ?_
  refine lv_iload_n hx hb dL_1470 rfl (lv_at hl 3 rfl) ?_
  refine lv_iconst (v := 1) hx hb dL_1471 (by decide) ?_
  refine lv_iadd hx hb dL_1472 ?_
  refine va_sld hx hb hX hbl hbA hw.2.2.2.1 (idx_in (L := L) (j := j) (k := 1) 1 rfl (by decide) hL hj) dL_1473 ?_
  refine lv_aload_n hx hb dL_1474 rfl (lv_at hl 0 rfl) ?_
  refine lv_iload_n hx hb dL_1475 rfl (lv_at hl 3 rfl) ?_
  refine lv_iconst (v := 2) hx hb dL_1476 (by decide) ?_
  refine lv_iadd hx hb dL_1477 ?_
  refine va_sld hx hb hX hbl hbA hw.2.2.2.1 (idx_in (L := L) (j := j) (k := 2) 2 rfl (by decide) hL hj) dL_1478 ?_
  refine lv_aload_n hx hb dL_1479 rfl (lv_at hl 0 rfl) ?_
  refine lv_iload_n hx hb dL_1480 rfl (lv_at hl 3 rfl) ?_
  refine lv_iconst (v := 3) hx hb dL_1481 (by decide) ?_
  refine lv_iadd hx hb dL_1482 ?_
  refine va_sld hx hb hX hbl hbA hw.2.2.2.1 (idx_in (L := L) (j := j) (k := 3) 3 rfl (by decide) hL hj) dL_1483 ?_
  refine e_mcvi (As := [.int (xs (nI (6 * j) + 1).toNatClampNeg), .int (xs (nI (6 * j) + 2).toNatClampNeg), .int (xs (nI (6 * j) + 3).toNatClampNeg)]) (rest := [.int r]) hc hw law_room (hml.trans hl.1.symm) (cm_cell l 2000 M (xs (nI (6 * j) + 1).toNatClampNeg) (xs (nI (6 * j) + 2).toNatClampNeg) (xs (nI (6 * j) + 3).toNatClampNeg) r M1 hf2) (⟨⟨(mem_g 1670 (by decide +kernel) rfl), (mem_g 1671 (by decide +kernel) rfl), (mem_g 1672 (by decide +kernel) rfl), (mem_g 89 (by decide +kernel) rfl), (mem_g 1673 (by decide +kernel) rfl)⟩, by decide, by decide +kernel, by decide⟩ : qCv R_law 182 yX12_cell cX12_cell 4 (some .int) 3) rfl (by decide) rfl rfl rfl (Nat.le_of_ble_eq_true rfl) dL_1484 (fun H locs hw => ?_) ⟨by omega, by omega⟩
  have hw := xJ_perm List.perm_append_comm hw
  refine lv_icmp_eq (tgt := 1641) hx hb dL_1487 (by decide) (fun _ => ?_) (fun cn => absurd rfl cn)
  exact kx g X1 M1 H locs ls hR1 hw hl
set_option maxRecDepth 100000 in
theorem lc_copy {p : Program} {l : Launch} {e : Env} {s : State} {m : MethodId} {below : List Frame} {meth : Method} {c : Code} {Q : State → Prop} {cells slots b L j : Nat} {xs : Nat → Int32} {g : xG} {ρ : Nat → Nat} {X : xS} {M : mS} {A : Nat → Prop} {H : Heap} {locs : List Loc} {ls : Array Slot} (hc : qC R_law code p s m #[Value.ref b] c) (hml : c.maxLocals = 4) (hX : va_X b L xs s s.heap) (hbl : b < s.heap.size) (hbA : ¬ A b) (hL : L ≤ 384) (hj : 6 * j + 6 ≤ L) (hR : Rl X M) (hw : xJ g A s.heap s (mW (mgX g ρ) M ++ xW g X) H locs) (hl : lv_has ls 4 [(0, .ref b), (1, .ref (xr g 0)), (2, .ref (ρ 0)), (3, .int (nI (6 * j)))]) (hcs : cells + 4 ≤ 600000 ∧ slots + 198 ≤ 7302250) (kx : ∀ (g : xG) (X : xS) (M : mS) (H : Heap) (locs : List Loc) (ls : Array Slot), Rl X M → xJ g A s.heap s (mW (mgX g ρ) M ++ xW g X) H locs → lv_has ls 4 [(0, .ref b), (1, .ref (xr g 0)), (2, .ref (ρ 0)), (3, .int (nI (6 * j)))] → W p l e room_1 s m #[Value.ref b] below meth c H locs (cells + 4) (slots + 198) Q (F0 m 1641 ls [])) : W p l e room_1 s m #[Value.ref b] below meth c H locs cells slots Q (F0 m 1492 ls []) := by
  have hx := hc.1
  have hb := hc.2.1
  have hc1 : cells + 4 ≤ room_1.cells := hcs.1
  have hc2 : slots + 198 ≤ room_1.slots := hcs.2
  refine lv_aload_n hx hb dL_1492 rfl (lv_at hl 1 rfl) ?_
  refine lv_aload_n hx hb dL_1493 rfl (lv_at hl 0 rfl) ?_
  refine lv_iload_n hx hb dL_1494 rfl (lv_at hl 3 rfl) ?_
  refine lv_iconst (v := 1) hx hb dL_1495 (by decide) ?_
  refine lv_iadd hx hb dL_1496 ?_
  refine va_sld hx hb hX hbl hbA hw.2.2.2.1 (idx_in (L := L) (j := j) (k := 1) 1 rfl (by decide) hL hj) dL_1497 ?_
  refine lv_aload_n hx hb dL_1498 rfl (lv_at hl 0 rfl) ?_
  refine lv_iload_n hx hb dL_1499 rfl (lv_at hl 3 rfl) ?_
  refine lv_iconst (v := 2) hx hb dL_1500 (by decide) ?_
  refine lv_iadd hx hb dL_1501 ?_
  refine va_sld hx hb hX hbl hbA hw.2.2.2.1 (idx_in (L := L) (j := j) (k := 2) 2 rfl (by decide) hL hj) dL_1502 ?_
  refine lv_aload_n hx hb dL_1503 rfl (lv_at hl 0 rfl) ?_
  refine lv_iload_n hx hb dL_1504 rfl (lv_at hl 3 rfl) ?_
  refine lv_iconst (v := 3) hx hb dL_1505 (by decide) ?_
  refine lv_iadd hx hb dL_1506 ?_
  refine va_sld hx hb hX hbl hbA hw.2.2.2.1 (idx_in (L := L) (j := j) (k := 3) 3 rfl (by decide) hL hj) dL_1507 ?_
  refine lv_aload_n hx hb dL_1508 rfl (lv_at hl 0 rfl) ?_
  refine lv_iload_n hx hb dL_1509 rfl (lv_at hl 3 rfl) ?_
  refine lv_iconst (v := 4) hx hb dL_1510 (by decide) ?_
  refine lv_iadd hx hb dL_1511 ?_
  refine va_sld hx hb hX hbl hbA hw.2.2.2.1 (idx_in (L := L) (j := j) (k := 4) 4 rfl (by decide) hL hj) dL_1512 ?_
  refine lv_aload_n hx hb dL_1513 rfl (lv_at hl 0 rfl) ?_
  refine lv_iload_n hx hb dL_1514 rfl (lv_at hl 3 rfl) ?_
  refine lv_iconst (v := 5) hx hb dL_1515 (by decide) ?_
  refine lv_iadd hx hb dL_1516 ?_
  refine va_sld hx hb hX hbl hbA hw.2.2.2.1 (idx_in (L := L) (j := j) (k := 5) 5 rfl (by decide) hL hj) dL_1517 ?_
  obtain ⟨r, X1, M1, hf1, hf2, hR1⟩ := st_copy (Nat.le_refl 2000) hR (xs (nI (6 * j) + 1).toNatClampNeg) (xs (nI (6 * j) + 2).toNatClampNeg) (xs (nI (6 * j) + 3).toNatClampNeg) (xs (nI (6 * j) + 4).toNatClampNeg) (xs (nI (6 * j) + 5).toNatClampNeg)
  refine e_xcvi (As := [.int (xs (nI (6 * j) + 1).toNatClampNeg), .int (xs (nI (6 * j) + 2).toNatClampNeg), .int (xs (nI (6 * j) + 3).toNatClampNeg), .int (xs (nI (6 * j) + 4).toNatClampNeg), .int (xs (nI (6 * j) + 5).toNatClampNeg)]) (rest := []) hc hw law_room (hml.trans hl.1.symm) (cx_X_copy l 2000 X (xs (nI (6 * j) + 1).toNatClampNeg) (xs (nI (6 * j) + 2).toNatClampNeg) (xs (nI (6 * j) + 3).toNatClampNeg) (xs (nI (6 * j) + 4).toNatClampNeg) (xs (nI (6 * j) + 5).toNatClampNeg) r X1 hf1) (⟨⟨(mem_g 1106 (by decide +kernel) rfl), (mem_g 1107 (by decide +kernel) rfl), (mem_g 1108 (by decide +kernel) rfl), (mem_g 77 (by decide +kernel) rfl), (mem_g 1109 (by decide +kernel) rfl)⟩, by decide, by decide +kernel, by decide⟩ : qCv R_law 183 yX11_copy cX11_copy 6 (some .int) 5) (x_recv_this (xJ_I (xJ_post hw))) (by decide) rfl rfl rfl (Nat.le_of_ble_eq_true rfl) dL_1518 (fun H locs hw => ?_) ⟨by omega, by omega⟩
  refine W.widen (k := cells + 4) (n := slots + 198) (by omega) (by omega) ?_
  have hw := xJ_perm List.perm_append_comm hw
  refine lv_aload_n hx hb dL_1521 rfl (lv_at hl 2 rfl) ?_
  refine lv_aload_n hx hb dL_1522 rfl (lv_at hl 0 rfl) ?_
  refine lv_iload_n hx hb dL_1523 rfl (lv_at hl 3 rfl) ?_
  refine lv_iconst (v := 1) hx hb dL_1524 (by decide) ?_
  refine lv_iadd hx hb dL_1525 ?_
  refine va_sld hx hb hX hbl hbA hw.2.2.2.1 (idx_in (L := L) (j := j) (k := 1) 1 rfl (by decide) hL hj) dL_1526 ?_
  refine lv_aload_n hx hb dL_1527 rfl (lv_at hl 0 rfl) ?_
  refine lv_iload_n hx hb dL_1528 rfl (lv_at hl 3 rfl) ?_
  refine lv_iconst (v := 2) hx hb dL_1529 (by decide) ?_
  refine lv_iadd hx hb dL_1530 ?_
  refine va_sld hx hb hX hbl hbA hw.2.2.2.1 (idx_in (L := L) (j := j) (k := 2) 2 rfl (by decide) hL hj) dL_1531 ?_
  refine lv_aload_n hx hb dL_1532 rfl (lv_at hl 0 rfl) ?_
  refine lv_iload_n hx hb dL_1533 rfl (lv_at hl 3 rfl) ?_
  refine lv_iconst (v := 3) hx hb dL_1534 (by decide) ?_
  refine lv_iadd hx hb dL_1535 ?_
  refine va_sld hx hb hX hbl hbA hw.2.2.2.1 (idx_in (L := L) (j := j) (k := 3) 3 rfl (by decide) hL hj) dL_1536 ?_
  refine lv_aload_n hx hb dL_1537 rfl (lv_at hl 0 rfl) ?_
  refine lv_iload_n hx hb dL_1538 rfl (lv_at hl 3 rfl) ?_
  refine lv_iconst (v := 4) hx hb dL_1539 (by decide) ?_
  refine lv_iadd hx hb dL_1540 ?_
  refine va_sld hx hb hX hbl hbA hw.2.2.2.1 (idx_in (L := L) (j := j) (k := 4) 4 rfl (by decide) hL hj) dL_1541 ?_
  refine lv_aload_n hx hb dL_1542 rfl (lv_at hl 0 rfl) ?_
  refine lv_iload_n hx hb dL_1543 rfl (lv_at hl 3 rfl) ?_
  refine lv_iconst (v := 5) hx hb dL_1544 (by decide) ?_
  refine lv_iadd hx hb dL_1545 ?_
  refine va_sld hx hb hX hbl hbA hw.2.2.2.1 (idx_in (L := L) (j := j) (k := 5) 5 rfl (by decide) hL hj) dL_1546 ?_
  refine e_mcvi (As := [.int (xs (nI (6 * j) + 1).toNatClampNeg), .int (xs (nI (6 * j) + 2).toNatClampNeg), .int (xs (nI (6 * j) + 3).toNatClampNeg), .int (xs (nI (6 * j) + 4).toNatClampNeg), .int (xs (nI (6 * j) + 5).toNatClampNeg)]) (rest := [.int r]) hc hw law_room (hml.trans hl.1.symm) (cm_copy l 2000 M (xs (nI (6 * j) + 1).toNatClampNeg) (xs (nI (6 * j) + 2).toNatClampNeg) (xs (nI (6 * j) + 3).toNatClampNeg) (xs (nI (6 * j) + 4).toNatClampNeg) (xs (nI (6 * j) + 5).toNatClampNeg) r M1 hf2) (⟨⟨(mem_g 1674 (by decide +kernel) rfl), (mem_g 1675 (by decide +kernel) rfl), (mem_g 1676 (by decide +kernel) rfl), (mem_g 89 (by decide +kernel) rfl), (mem_g 1677 (by decide +kernel) rfl)⟩, by decide, by decide +kernel, by decide⟩ : qCv R_law 187 yX12_copy cX12_copy 10 (some .int) 5) rfl (by decide) rfl rfl rfl (Nat.le_of_ble_eq_true rfl) dL_1547 (fun H locs hw => ?_) ⟨by omega, by omega⟩
  have hw := xJ_perm List.perm_append_comm hw
  refine lv_icmp_eq (tgt := 1641) hx hb dL_1550 (by decide) (fun _ => ?_) (fun cn => absurd rfl cn)
  exact kx g X1 M1 H locs ls hR1 hw hl
set_option maxRecDepth 100000 in
theorem lc_sitters {p : Program} {l : Launch} {e : Env} {s : State} {m : MethodId} {below : List Frame} {meth : Method} {c : Code} {Q : State → Prop} {cells slots b L j : Nat} {xs : Nat → Int32} {g : xG} {ρ : Nat → Nat} {X : xS} {M : mS} {A : Nat → Prop} {H : Heap} {locs : List Loc} {ls : Array Slot} (hc : qC R_law code p s m #[Value.ref b] c) (hml : c.maxLocals = 4) (hX : va_X b L xs s s.heap) (hbl : b < s.heap.size) (hbA : ¬ A b) (hL : L ≤ 384) (hj : 6 * j + 6 ≤ L) (hR : Rl X M) (hw : xJ g A s.heap s (mW (mgX g ρ) M ++ xW g X) H locs) (hl : lv_has ls 4 [(0, .ref b), (1, .ref (xr g 0)), (2, .ref (ρ 0)), (3, .int (nI (6 * j)))]) (hcs : cells + 4 ≤ 600000 ∧ slots + 198 ≤ 7302250) (kx : ∀ (g : xG) (X : xS) (M : mS) (H : Heap) (locs : List Loc) (ls : Array Slot), Rl X M → xJ g A s.heap s (mW (mgX g ρ) M ++ xW g X) H locs → lv_has ls 4 [(0, .ref b), (1, .ref (xr g 0)), (2, .ref (ρ 0)), (3, .int (nI (6 * j)))] → W p l e room_1 s m #[Value.ref b] below meth c H locs (cells + 4) (slots + 198) Q (F0 m 1641 ls [])) : W p l e room_1 s m #[Value.ref b] below meth c H locs cells slots Q (F0 m 1555 ls []) := by
  have hx := hc.1
  have hb := hc.2.1
  have hc1 : cells + 4 ≤ room_1.cells := hcs.1
  have hc2 : slots + 198 ≤ room_1.slots := hcs.2
  refine lv_aload_n hx hb dL_1555 rfl (lv_at hl 1 rfl) ?_
  refine lv_aload_n hx hb dL_1556 rfl (lv_at hl 0 rfl) ?_
  refine lv_iload_n hx hb dL_1557 rfl (lv_at hl 3 rfl) ?_
  refine lv_iconst (v := 1) hx hb dL_1558 (by decide) ?_
  refine lv_iadd hx hb dL_1559 ?_
  refine va_sld hx hb hX hbl hbA hw.2.2.2.1 (idx_in (L := L) (j := j) (k := 1) 1 rfl (by decide) hL hj) dL_1560 ?_
  refine lv_aload_n hx hb dL_1561 rfl (lv_at hl 0 rfl) ?_
  refine lv_iload_n hx hb dL_1562 rfl (lv_at hl 3 rfl) ?_
  refine lv_iconst (v := 2) hx hb dL_1563 (by decide) ?_
  refine lv_iadd hx hb dL_1564 ?_
  refine va_sld hx hb hX hbl hbA hw.2.2.2.1 (idx_in (L := L) (j := j) (k := 2) 2 rfl (by decide) hL hj) dL_1565 ?_
  refine lv_aload_n hx hb dL_1566 rfl (lv_at hl 0 rfl) ?_
  refine lv_iload_n hx hb dL_1567 rfl (lv_at hl 3 rfl) ?_
  refine lv_iconst (v := 3) hx hb dL_1568 (by decide) ?_
  refine lv_iadd hx hb dL_1569 ?_
  refine va_sld hx hb hX hbl hbA hw.2.2.2.1 (idx_in (L := L) (j := j) (k := 3) 3 rfl (by decide) hL hj) dL_1570 ?_
  refine lv_aload_n hx hb dL_1571 rfl (lv_at hl 0 rfl) ?_
  refine lv_iload_n hx hb dL_1572 rfl (lv_at hl 3 rfl) ?_
  refine lv_iconst (v := 4) hx hb dL_1573 (by decide) ?_
  refine lv_iadd hx hb dL_1574 ?_
  refine va_sld hx hb hX hbl hbA hw.2.2.2.1 (idx_in (L := L) (j := j) (k := 4) 4 rfl (by decide) hL hj) dL_1575 ?_
  obtain ⟨r, X1, M1, hf1, hf2, hR1⟩ := st_sitters (Nat.le_refl 2000) hR (xs (nI (6 * j) + 1).toNatClampNeg) (xs (nI (6 * j) + 2).toNatClampNeg) (xs (nI (6 * j) + 3).toNatClampNeg) (xs (nI (6 * j) + 4).toNatClampNeg)
  refine e_xcvi (As := [.int (xs (nI (6 * j) + 1).toNatClampNeg), .int (xs (nI (6 * j) + 2).toNatClampNeg), .int (xs (nI (6 * j) + 3).toNatClampNeg), .int (xs (nI (6 * j) + 4).toNatClampNeg)]) (rest := []) hc hw law_room (hml.trans hl.1.symm) (cx_X_sitters l 2000 X (xs (nI (6 * j) + 1).toNatClampNeg) (xs (nI (6 * j) + 2).toNatClampNeg) (xs (nI (6 * j) + 3).toNatClampNeg) (xs (nI (6 * j) + 4).toNatClampNeg) r X1 hf1) (⟨⟨(mem_g 1111 (by decide +kernel) rfl), (mem_g 1112 (by decide +kernel) rfl), (mem_g 1113 (by decide +kernel) rfl), (mem_g 77 (by decide +kernel) rfl), (mem_g 1114 (by decide +kernel) rfl)⟩, by decide, by decide +kernel, by decide⟩ : qCv R_law 188 yX11_sitters cX11_sitters 7 (some .int) 4) (x_recv_this (xJ_I (xJ_post hw))) (by decide) rfl rfl rfl (Nat.le_of_ble_eq_true rfl) dL_1576 (fun H locs hw => ?_) ⟨by omega, by omega⟩
  refine W.widen (k := cells + 4) (n := slots + 198) (by omega) (by omega) ?_
  have hw := xJ_perm List.perm_append_comm hw
  refine lv_aload_n hx hb dL_1579 rfl (lv_at hl 2 rfl) ?_
  refine lv_aload_n hx hb dL_1580 rfl (lv_at hl 0 rfl) ?_
  refine lv_iload_n hx hb dL_1581 rfl (lv_at hl 3 rfl) ?_
  refine lv_iconst (v := 1) hx hb dL_1582 (by decide) ?_
  refine lv_iadd hx hb dL_1583 ?_
  refine va_sld hx hb hX hbl hbA hw.2.2.2.1 (idx_in (L := L) (j := j) (k := 1) 1 rfl (by decide) hL hj) dL_1584 ?_
  refine lv_aload_n hx hb dL_1585 rfl (lv_at hl 0 rfl) ?_
  refine lv_iload_n hx hb dL_1586 rfl (lv_at hl 3 rfl) ?_
  refine lv_iconst (v := 2) hx hb dL_1587 (by decide) ?_
  refine lv_iadd hx hb dL_1588 ?_
  refine va_sld hx hb hX hbl hbA hw.2.2.2.1 (idx_in (L := L) (j := j) (k := 2) 2 rfl (by decide) hL hj) dL_1589 ?_
  refine lv_aload_n hx hb dL_1590 rfl (lv_at hl 0 rfl) ?_
  refine lv_iload_n hx hb dL_1591 rfl (lv_at hl 3 rfl) ?_
  refine lv_iconst (v := 3) hx hb dL_1592 (by decide) ?_
  refine lv_iadd hx hb dL_1593 ?_
  refine va_sld hx hb hX hbl hbA hw.2.2.2.1 (idx_in (L := L) (j := j) (k := 3) 3 rfl (by decide) hL hj) dL_1594 ?_
  refine lv_aload_n hx hb dL_1595 rfl (lv_at hl 0 rfl) ?_
  refine lv_iload_n hx hb dL_1596 rfl (lv_at hl 3 rfl) ?_
  refine lv_iconst (v := 4) hx hb dL_1597 (by decide) ?_
  refine lv_iadd hx hb dL_1598 ?_
  refine va_sld hx hb hX hbl hbA hw.2.2.2.1 (idx_in (L := L) (j := j) (k := 4) 4 rfl (by decide) hL hj) dL_1599 ?_
  refine e_mcvi (As := [.int (xs (nI (6 * j) + 1).toNatClampNeg), .int (xs (nI (6 * j) + 2).toNatClampNeg), .int (xs (nI (6 * j) + 3).toNatClampNeg), .int (xs (nI (6 * j) + 4).toNatClampNeg)]) (rest := [.int r]) hc hw law_room (hml.trans hl.1.symm) (cm_sitters l 2000 M (xs (nI (6 * j) + 1).toNatClampNeg) (xs (nI (6 * j) + 2).toNatClampNeg) (xs (nI (6 * j) + 3).toNatClampNeg) (xs (nI (6 * j) + 4).toNatClampNeg) r M1 hf2) (⟨⟨(mem_g 1678 (by decide +kernel) rfl), (mem_g 1679 (by decide +kernel) rfl), (mem_g 1680 (by decide +kernel) rfl), (mem_g 89 (by decide +kernel) rfl), (mem_g 1681 (by decide +kernel) rfl)⟩, by decide, by decide +kernel, by decide⟩ : qCv R_law 191 yX12_sitters cX12_sitters 7 (some .int) 4) rfl (by decide) rfl rfl rfl (Nat.le_of_ble_eq_true rfl) dL_1600 (fun H locs hw => ?_) ⟨by omega, by omega⟩
  have hw := xJ_perm List.perm_append_comm hw
  refine lv_icmp_eq (tgt := 1641) hx hb dL_1603 (by decide) (fun _ => ?_) (fun cn => absurd rfl cn)
  exact kx g X1 M1 H locs ls hR1 hw hl
set_option maxRecDepth 100000 in
theorem lc_taken {p : Program} {l : Launch} {e : Env} {s : State} {m : MethodId} {below : List Frame} {meth : Method} {c : Code} {Q : State → Prop} {cells slots b L j : Nat} {xs : Nat → Int32} {g : xG} {ρ : Nat → Nat} {X : xS} {M : mS} {A : Nat → Prop} {H : Heap} {locs : List Loc} {ls : Array Slot} (hc : qC R_law code p s m #[Value.ref b] c) (hml : c.maxLocals = 4) (hX : va_X b L xs s s.heap) (hbl : b < s.heap.size) (hbA : ¬ A b) (hL : L ≤ 384) (hj : 6 * j + 6 ≤ L) (hR : Rl X M) (hw : xJ g A s.heap s (mW (mgX g ρ) M ++ xW g X) H locs) (hl : lv_has ls 4 [(0, .ref b), (1, .ref (xr g 0)), (2, .ref (ρ 0)), (3, .int (nI (6 * j)))]) (hcs : cells + 4 ≤ 600000 ∧ slots + 198 ≤ 7302250) (kx : ∀ (g : xG) (X : xS) (M : mS) (H : Heap) (locs : List Loc) (ls : Array Slot), Rl X M → xJ g A s.heap s (mW (mgX g ρ) M ++ xW g X) H locs → lv_has ls 4 [(0, .ref b), (1, .ref (xr g 0)), (2, .ref (ρ 0)), (3, .int (nI (6 * j)))] → W p l e room_1 s m #[Value.ref b] below meth c H locs (cells + 4) (slots + 198) Q (F0 m 1641 ls [])) : W p l e room_1 s m #[Value.ref b] below meth c H locs cells slots Q (F0 m 1608 ls []) := by
  have hx := hc.1
  have hb := hc.2.1
  have hc1 : cells + 4 ≤ room_1.cells := hcs.1
  have hc2 : slots + 198 ≤ room_1.slots := hcs.2
  refine lv_aload_n hx hb dL_1608 rfl (lv_at hl 1 rfl) ?_
  refine lv_aload_n hx hb dL_1609 rfl (lv_at hl 0 rfl) ?_
  refine lv_iload_n hx hb dL_1610 rfl (lv_at hl 3 rfl) ?_
  refine lv_iconst (v := 1) hx hb dL_1611 (by decide) ?_
  refine lv_iadd hx hb dL_1612 ?_
  refine va_sld hx hb hX hbl hbA hw.2.2.2.1 (idx_in (L := L) (j := j) (k := 1) 1 rfl (by decide) hL hj) dL_1613 ?_
  refine lv_aload_n hx hb dL_1614 rfl (lv_at hl 0 rfl) ?_
  refine lv_iload_n hx hb dL_1615 rfl (lv_at hl 3 rfl) ?_
  refine lv_iconst (v := 2) hx hb dL_1616 (by decide) ?_
  refine lv_iadd hx hb dL_1617 ?_
  refine va_sld hx hb hX hbl hbA hw.2.2.2.1 (idx_in (L := L) (j := j) (k := 2) 2 rfl (by decide) hL hj) dL_1618 ?_
  obtain ⟨r, hf1, hf2⟩ := st_taken (N := 2000) hR (xs (nI (6 * j) + 1).toNatClampNeg) (xs (nI (6 * j) + 2).toNatClampNeg)
  refine e_xcvi (As := [.int (xs (nI (6 * j) + 1).toNatClampNeg), .int (xs (nI (6 * j) + 2).toNatClampNeg)]) (rest := []) hc hw law_room (hml.trans hl.1.symm) (cx_X_taken l 2000 X (xs (nI (6 * j) + 1).toNatClampNeg) (xs (nI (6 * j) + 2).toNatClampNeg) r hf1) (⟨⟨(mem_g 1116 (by decide +kernel) rfl), (mem_g 1117 (by decide +kernel) rfl), (mem_g 1118 (by decide +kernel) rfl), (mem_g 77 (by decide +kernel) rfl), (mem_g 1119 (by decide +kernel) rfl)⟩, by decide, by decide +kernel, by decide⟩ : qCv R_law 192 yX11_taken cX11_taken 5 (some .int) 2) (x_recv_this (xJ_I (xJ_post hw))) (by decide) rfl rfl rfl (Nat.le_of_ble_eq_true rfl) dL_1619 (fun H locs hw => ?_) ⟨by omega, by omega⟩
  refine W.widen (k := cells + 4) (n := slots + 198) (by omega) (by omega) ?_
  have hw := xJ_perm List.perm_append_comm hw
  refine lv_aload_n hx hb dL_1622 rfl (lv_at hl 2 rfl) ?_
  refine lv_aload_n hx hb dL_1623 rfl (lv_at hl 0 rfl) ?_
  refine lv_iload_n hx hb dL_1624 rfl (lv_at hl 3 rfl) ?_
  refine lv_iconst (v := 1) hx hb dL_1625 (by decide) ?_
  refine lv_iadd hx hb dL_1626 ?_
  refine va_sld hx hb hX hbl hbA hw.2.2.2.1 (idx_in (L := L) (j := j) (k := 1) 1 rfl (by decide) hL hj) dL_1627 ?_
  refine lv_aload_n hx hb dL_1628 rfl (lv_at hl 0 rfl) ?_
  refine lv_iload_n hx hb dL_1629 rfl (lv_at hl 3 rfl) ?_
  refine lv_iconst (v := 2) hx hb dL_1630 (by decide) ?_
  refine lv_iadd hx hb dL_1631 ?_
  refine va_sld hx hb hX hbl hbA hw.2.2.2.1 (idx_in (L := L) (j := j) (k := 2) 2 rfl (by decide) hL hj) dL_1632 ?_
  refine e_mcvi (As := [.int (xs (nI (6 * j) + 1).toNatClampNeg), .int (xs (nI (6 * j) + 2).toNatClampNeg)]) (rest := [.int r]) hc hw law_room (hml.trans hl.1.symm) (cm_taken l 2000 M (xs (nI (6 * j) + 1).toNatClampNeg) (xs (nI (6 * j) + 2).toNatClampNeg) r hf2) (⟨⟨(mem_g 1683 (by decide +kernel) rfl), (mem_g 1684 (by decide +kernel) rfl), (mem_g 1685 (by decide +kernel) rfl), (mem_g 89 (by decide +kernel) rfl), (mem_g 1686 (by decide +kernel) rfl)⟩, by decide, by decide +kernel, by decide⟩ : qCv R_law 195 yX12_taken cX12_taken 3 (some .int) 2) rfl (by decide) rfl rfl rfl (Nat.le_of_ble_eq_true rfl) dL_1633 (fun H locs hw => ?_) ⟨by omega, by omega⟩
  have hw := xJ_perm List.perm_append_comm hw
  refine lv_icmp_eq (tgt := 1641) hx hb dL_1636 (by decide) (fun _ => ?_) (fun cn => absurd rfl cn)
  exact kx g X M H locs ls hR hw hl
end LAWCALL4
