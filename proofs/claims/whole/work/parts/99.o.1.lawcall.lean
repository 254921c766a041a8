section LAWCALL1
set_option maxRecDepth 100000 in
theorem lc_feed {p : Program} {l : Launch} {e : Env} {s : State} {m : MethodId} {below : List Frame} {meth : Method} {c : Code} {Q : State → Prop} {cells slots b L j : Nat} {xs : Nat → Int32} {g : xG} {ρ : Nat → Nat} {X : xS} {M : mS} {A : Nat → Prop} {H : Heap} {locs : List Loc} {ls : Array Slot} (hc : qC R_law code p s m #[Value.ref b] c) (hml : c.maxLocals = 4) (hX : va_X b L xs s s.heap) (hbl : b < s.heap.size) (hbA : ¬ A b) (hL : L ≤ 384) (hj : 6 * j + 6 ≤ L) (hR : Rl X M) (hw : xJ g A s.heap s (mW (mgX g ρ) M ++ xW g X) H locs) (hl : lv_has ls 4 [(0, .ref b), (1, .ref (xr g 0)), (2, .ref (ρ 0)), (3, .int (nI (6 * j)))]) (hcs : cells + 4 ≤ 600000 ∧ slots + 198 ≤ 7302250) (kx : ∀ (g : xG) (X : xS) (M : mS) (H : Heap) (locs : List Loc) (ls : Array Slot), Rl X M → xJ g A s.heap s (mW (mgX g ρ) M ++ xW g X) H locs → lv_has ls 4 [(0, .ref b), (1, .ref (xr g 0)), (2, .ref (ρ 0)), (3, .int (nI (6 * j)))] → W p l e room_1 s m #[Value.ref b] below meth c H locs (cells + 4) (slots + 198) Q (F0 m 1641 ls [])) : W p l e room_1 s m #[Value.ref b] below meth c H locs cells slots Q (F0 m 577 ls []) := by
  have hx := hc.1
  have hb := hc.2.1
  have hc1 : cells + 4 ≤ room_1.cells := hcs.1
  have hc2 : slots + 198 ≤ room_1.slots := hcs.2
  refine lv_aload_n hx hb dL_577 rfl (lv_at hl 1 rfl) ?_
  refine lv_aload_n hx hb dL_578 rfl (lv_at hl 0 rfl) ?_
  refine lv_iload_n hx hb dL_579 rfl (lv_at hl 3 rfl) ?_
  refine lv_iconst (v := 1) hx hb dL_580 (by decide) ?_
  refine lv_iadd hx hb dL_581 ?_
  refine va_sld hx hb hX hbl hbA hw.2.2.2.1 (idx_in (L := L) (j := j) (k := 1) 1 rfl (by decide) hL hj) dL_582 ?_
  refine lv_i2l hx hb dL_583 rfl ?_
  refine lv_bipush (v := 32) hx hb dL_584 (by decide) ?_
  refine lv_lshl hx hb dL_586 rfl ?_
  refine lv_aload_n hx hb dL_587 rfl (lv_at hl 0 rfl) ?_
  refine lv_iload_n hx hb dL_588 rfl (lv_at hl 3 rfl) ?_
  refine lv_iconst (v := 2) hx hb dL_589 (by decide) ?_
  refine lv_iadd hx hb dL_590 ?_
  refine va_sld hx hb hX hbl hbA hw.2.2.2.1 (idx_in (L := L) (j := j) (k := 2) 2 rfl (by decide) hL hj) dL_591 ?_
  refine lv_i2l hx hb dL_592 rfl ?_
  refine lv_ldc2 (v := 4294967295) hx hb hc.2.2.1 (hc.2.2.2 _ (mem_g 1690 (by decide +kernel) rfl)) dL_593 ?_
  refine lv_land hx hb dL_596 ?_
  refine lv_lor hx hb dL_597 ?_
  refine lv_aload_n hx hb dL_598 rfl (lv_at hl 0 rfl) ?_
  refine lv_iload_n hx hb dL_599 rfl (lv_at hl 3 rfl) ?_
  refine lv_iconst (v := 3) hx hb dL_600 (by decide) ?_
  refine lv_iadd hx hb dL_601 ?_
  refine va_sld hx hb hX hbl hbA hw.2.2.2.1 (idx_in (L := L) (j := j) (k := 3) 3 rfl (by decide) hL hj) dL_602 ?_
  obtain ⟨r, X1, M1, hf1, hf2, hR1⟩ := st_feed (Nat.le_refl 2000) hR ((((xs (nI (6 * j) + 1).toNatClampNeg).toInt64 <<< ((32 : Int32).toInt64 &&& 63)) ||| ((xs (nI (6 * j) + 2).toNatClampNeg).toInt64 &&& 4294967295))) (xs (nI (6 * j) + 3).toNatClampNeg)
  refine e_xcvi (As := [.long ((((xs (nI (6 * j) + 1).toNatClampNeg).toInt64 <<< ((32 : Int32).toInt64 &&& 63)) ||| ((xs (nI (6 * j) + 2).toNatClampNeg).toInt64 &&& 4294967295))), .int (xs (nI (6 * j) + 3).toNatClampNeg)]) (rest := []) hc hw law_room (hml.trans hl.1.symm) (cx_X_feed l 2000 X ((((xs (nI (6 * j) + 1).toNatClampNeg).toInt64 <<< ((32 : Int32).toInt64 &&& 63)) ||| ((xs (nI (6 * j) + 2).toNatClampNeg).toInt64 &&& 4294967295))) (xs (nI (6 * j) + 3).toNatClampNeg) r X1 hf1) (⟨⟨(mem_g 788 (by decide +kernel) rfl), (mem_g 789 (by decide +kernel) rfl), (mem_g 790 (by decide +kernel) rfl), (mem_g 77 (by decide +kernel) rfl), (mem_g 791 (by decide +kernel) rfl)⟩, by decide, by decide +kernel, by decide⟩ : qCv R_law 54 yX11_feed cX11_feed 5 (some .int) 2) (x_recv_this (xJ_I (xJ_post hw))) (by decide) rfl rfl rfl (Nat.le_of_ble_eq_true rfl) dL_603 (fun H locs hw => ?_) ⟨by omega, by omega⟩
  refine W.widen (k := cells + 4) (n := slots + 198) (by omega) (by omega) ?_
  have hw := xJ_perm List.perm_append_comm hw
  refine lv_aload_n hx hb dL_606 rfl (lv_at hl 2 rfl) ?_
  refine lv_aload_n hx hb dL_607 rfl (lv_at hl 0 rfl) ?_
  refine lv_iload_n hx hb dL_608 rfl (lv_at hl 3 rfl) ?_
  refine lv_iconst (v := 1) hx hb dL_609 (by decide) ?_
  refine lv_iadd hx hb dL_610 ?_
  refine va_sld hx hb hX hbl hbA hw.2.2.2.1 (idx_in (L := L) (j := j) (k := 1) 1 rfl (by decide) hL hj) dL_611 ?_
  refine lv_i2l hx hb dL_612 rfl ?_
  refine lv_bipush (v := 32) hx hb dL_613 (by decide) ?_
  refine lv_lshl hx hb dL_615 rfl ?_
  refine lv_aload_n hx hb dL_616 rfl (lv_at hl 0 rfl) ?_
  refine lv_iload_n hx hb dL_617 rfl (lv_at hl 3 rfl) ?_
  refine lv_iconst (v := 2) hx hb dL_618 (by decide) ?_
  refine lv_iadd hx hb dL_619 ?_
  refine va_sld hx hb hX hbl hbA hw.2.2.2.1 (idx_in (L := L) (j := j) (k := 2) 2 rfl (by decide) hL hj) dL_620 ?_
  refine lv_i2l hx hb dL_621 rfl ?_
  refine lv_ldc2 (v := 4294967295) hx hb hc.2.2.1 (hc.2.2.2 _ (mem_g 1690 (by decide +kernel) rfl)) dL_622 ?_
  refine lv_land hx hb dL_625 ?_
  refine lv_lor hx hb dL_626 ?_
  refine lv_aload_n hx hb dL_627 rfl (lv_at hl 0 rfl) ?_
  refine lv_iload_n hx hb dL_628 rfl (lv_at hl 3 rfl) ?_
  refine lv_iconst (v := 3) hx hb dL_629 (by decide) ?_
  refine lv_iadd hx hb dL_630 ?_
  refine va_sld hx hb hX hbl hbA hw.2.2.2.1 (idx_in (L := L) (j := j) (k := 3) 3 rfl (by decide) hL hj) dL_631 ?_
  refine e_mcvi (As := [.long ((((xs (nI (6 * j) + 1).toNatClampNeg).toInt64 <<< ((32 : Int32).toInt64 &&& 63)) ||| ((xs (nI (6 * j) + 2).toNatClampNeg).toInt64 &&& 4294967295))), .int (xs (nI (6 * j) + 3).toNatClampNeg)]) (rest := [.int r]) hc hw law_room (hml.trans hl.1.symm) (cm_feed l 2000 M ((((xs (nI (6 * j) + 1).toNatClampNeg).toInt64 <<< ((32 : Int32).toInt64 &&& 63)) ||| ((xs (nI (6 * j) + 2).toNatClampNeg).toInt64 &&& 4294967295))) (xs (nI (6 * j) + 3).toNatClampNeg) r M1 hf2) (⟨⟨(mem_g 1400 (by decide +kernel) rfl), (mem_g 1401 (by decide +kernel) rfl), (mem_g 1402 (by decide +kernel) rfl), (mem_g 89 (by decide +kernel) rfl), (mem_g 1403 (by decide +kernel) rfl)⟩, by decide, by decide +kernel, by decide⟩ : qCv R_law 58 yX12_feed cX12_feed 5 (some .int) 2) rfl (by decide) rfl rfl rfl (Nat.le_of_ble_eq_true rfl) dL_632 (fun H locs hw => ?_) ⟨by omega, by omega⟩
  have hw := xJ_perm List.perm_append_comm hw
  refine lv_icmp_eq (tgt := 1641) hx hb dL_635 (by decide) (fun _ => ?_) (fun cn => absurd rfl cn)
  exact kx g X1 M1 H locs ls hR1 hw hl
set_option maxRecDepth 100000 in
theorem lc_text {p : Program} {l : Launch} {e : Env} {s : State} {m : MethodId} {below : List Frame} {meth : Method} {c : Code} {Q : State → Prop} {cells slots b L j : Nat} {xs : Nat → Int32} {g : xG} {ρ : Nat → Nat} {X : xS} {M : mS} {A : Nat → Prop} {H : Heap} {locs : List Loc} {ls : Array Slot} (hc : qC R_law code p s m #[Value.ref b] c) (hml : c.maxLocals = 4) (hX : va_X b L xs s s.heap) (hbl : b < s.heap.size) (hbA : ¬ A b) (hL : L ≤ 384) (hj : 6 * j + 6 ≤ L) (hR : Rl X M) (hw : xJ g A s.heap s (mW (mgX g ρ) M ++ xW g X) H locs) (hl : lv_has ls 4 [(0, .ref b), (1, .ref (xr g 0)), (2, .ref (ρ 0)), (3, .int (nI (6 * j)))]) (hcs : cells + 4 ≤ 600000 ∧ slots + 198 ≤ 7302250) (kx : ∀ (g : xG) (X : xS) (M : mS) (H : Heap) (locs : List Loc) (ls : Array Slot), Rl X M → xJ g A s.heap s (mW (mgX g ρ) M ++ xW g X) H locs → lv_has ls 4 [(0, .ref b), (1, .ref (xr g 0)), (2, .ref (ρ 0)), (3, .int (nI (6 * j)))] → W p l e room_1 s m #[Value.ref b] below meth c H locs (cells + 4) (slots + 198) Q (F0 m 1641 ls [])) : W p l e room_1 s m #[Value.ref b] below meth c H locs cells slots Q (F0 m 640 ls []) := by
  have hx := hc.1
  have hb := hc.2.1
  have hc1 : cells + 4 ≤ room_1.cells := hcs.1
  have hc2 : slots + 198 ≤ room_1.slots := hcs.2
  refine lv_aload_n hx hb dL_640 rfl (lv_at hl 1 rfl) ?_
  obtain ⟨r, X1, M1, hf1, hf2, hR1⟩ := st_text (Nat.le_refl 2000) hR 
  refine e_xcvix (As := []) (rest := []) hc hw law_room (hml.trans hl.1.symm) (cx_X_text l 2000 X r X1 hf1) (⟨⟨(mem_g 792 (by decide +kernel) rfl), (mem_g 793 (by decide +kernel) rfl), (mem_g 794 (by decide +kernel) rfl), (mem_g 77 (by decide +kernel) rfl), (mem_g 795 (by decide +kernel) rfl)⟩, by decide, by decide +kernel, by decide⟩ : qCv R_law 59 yX11_text cX11_text 2 (some .int) 0) (x_recv_this (xJ_I (xJ_post hw))) (by decide) rfl rfl rfl (Nat.le_of_ble_eq_true rfl) dL_641 (fun g2 H locs hg hw => ?_) ⟨by omega, by omega⟩
  rw [← mgX_g ρ hg] at hw
  have hl : lv_has ls 4 [(0, .ref b), (1, .ref (xr g2 0)), (2, .ref (ρ 0)), (3, .int (nI (6 * j)))] := by rw [show xr g2 0 = xr g 0 from hg.2.2 0 (.inl rfl)]; exact hl
  clear hg
  refine W.widen (k := cells + 4) (n := slots + 198) (by omega) (by omega) ?_
  generalize g2 = g at hw hl ⊢
  have hw := xJ_perm List.perm_append_comm hw
  refine lv_aload_n hx hb dL_644 rfl (lv_at hl 2 rfl) ?_
  refine e_mcvi (As := []) (rest := [.int r]) hc hw law_room (hml.trans hl.1.symm) (cm_text l 2000 M r M1 hf2) (⟨⟨(mem_g 1405 (by decide +kernel) rfl), (mem_g 1406 (by decide +kernel) rfl), (mem_g 1407 (by decide +kernel) rfl), (mem_g 89 (by decide +kernel) rfl), (mem_g 1408 (by decide +kernel) rfl)⟩, by decide, by decide +kernel, by decide⟩ : qCv R_law 63 yX12_text cX12_text 3 (some .int) 0) rfl (by decide) rfl rfl rfl (Nat.le_of_ble_eq_true rfl) dL_645 (fun H locs hw => ?_) ⟨by omega, by omega⟩
  have hw := xJ_perm List.perm_append_comm hw
  refine lv_icmp_eq (tgt := 1641) hx hb dL_648 (by decide) (fun _ => ?_) (fun cn => absurd rfl cn)
  exact kx g X1 M1 H locs ls hR1 hw hl
set_option maxRecDepth 100000 in
theorem lc_force {p : Program} {l : Launch} {e : Env} {s : State} {m : MethodId} {below : List Frame} {meth : Method} {c : Code} {Q : State → Prop} {cells slots b L j : Nat} {xs : Nat → Int32} {g : xG} {ρ : Nat → Nat} {X : xS} {M : mS} {A : Nat → Prop} {H : Heap} {locs : List Loc} {ls : Array Slot} (hc : qC R_law code p s m #[Value.ref b] c) (hml : c.maxLocals = 4) (hX : va_X b L xs s s.heap) (hbl : b < s.heap.size) (hbA : ¬ A b) (hL : L ≤ 384) (hj : 6 * j + 6 ≤ L) (hR : Rl X M) (hw : xJ g A s.heap s (mW (mgX g ρ) M ++ xW g X) H locs) (hl : lv_has ls 4 [(0, .ref b), (1, .ref (xr g 0)), (2, .ref (ρ 0)), (3, .int (nI (6 * j)))]) (hcs : cells + 4 ≤ 600000 ∧ slots + 198 ≤ 7302250) (kx : ∀ (g : xG) (X : xS) (M : mS) (H : Heap) (locs : List Loc) (ls : Array Slot), Rl X M → xJ g A s.heap s (mW (mgX g ρ) M ++ xW g X) H locs → lv_has ls 4 [(0, .ref b), (1, .ref (xr g 0)), (2, .ref (ρ 0)), (3, .int (nI (6 * j)))] → W p l e room_1 s m #[Value.ref b] below meth c H locs (cells + 4) (slots + 198) Q (F0 m 1641 ls [])) : W p l e room_1 s m #[Value.ref b] below meth c H locs cells slots Q (F0 m 653 ls []) := by
  have hx := hc.1
  have hb := hc.2.1
  have hc1 : cells + 4 ≤ room_1.cells := hcs.1
  have hc2 : slots + 198 ≤ room_1.slots := hcs.2
  refine lv_aload_n hx hb dL_653 rfl (lv_at hl 1 rfl) ?_
  refine lv_aload_n hx hb dL_654 rfl (lv_at hl 0 rfl) ?_
  refine lv_iload_n hx hb dL_655 rfl (lv_at hl 3 rfl) ?_
  refine lv_iconst (v := 1) hx hb dL_656 (by decide) ?_
  refine lv_iadd hx hb dL_657 ?_
  refine va_sld hx hb hX hbl hbA hw.2.2.2.1 (idx_in (L := L) (j := j) (k := 1) 1 rfl (by decide) hL hj) dL_658 ?_
  obtain ⟨r, X1, M1, hf1, hf2, hR1⟩ := st_force (N := 2000) hR (xs (nI (6 * j) + 1).toNatClampNeg)
  refine e_xcvi (As := [.int (xs (nI (6 * j) + 1).toNatClampNeg)]) (rest := []) hc hw law_room (hml.trans hl.1.symm) (cx_X_force l 2000 X (xs (nI (6 * j) + 1).toNatClampNeg) r X1 hf1) (⟨⟨(mem_g 796 (by decide +kernel) rfl), (mem_g 797 (by decide +kernel) rfl), (mem_g 798 (by decide +kernel) rfl), (mem_g 77 (by decide +kernel) rfl), (mem_g 799 (by decide +kernel) rfl)⟩, by decide, by decide +kernel, by decide⟩ : qCv R_law 64 yX11_force cX11_force 3 (some .int) 1) (x_recv_this (xJ_I (xJ_post hw))) (by decide) rfl rfl rfl (Nat.le_of_ble_eq_true rfl) dL_659 (fun H locs hw => ?_) ⟨by omega, by omega⟩
  refine W.widen (k := cells + 4) (n := slots + 198) (by omega) (by omega) ?_
  have hw := xJ_perm List.perm_append_comm hw
  refine lv_aload_n hx hb dL_662 rfl (lv_at hl 2 rfl) ?_
  refine lv_aload_n hx hb dL_663 rfl (lv_at hl 0 rfl) ?_
  refine lv_iload_n hx hb dL_664 rfl (lv_at hl 3 rfl) ?_
  refine lv_iconst (v := 1) hx hb dL_665 (by decide) ?_
  refine lv_iadd hx hb dL_666 ?_
  refine va_sld hx hb hX hbl hbA hw.2.2.2.1 (idx_in (L := L) (j := j) (k := 1) 1 rfl (by decide) hL hj) dL_667 ?_
  refine e_mcvi (As := [.int (xs (nI (6 * j) + 1).toNatClampNeg)]) (rest := [.int r]) hc hw law_room (hml.trans hl.1.symm) (cm_force l M (xs (nI (6 * j) + 1).toNatClampNeg) r M1 hf2) (⟨⟨(mem_g 1449 (by decide +kernel) rfl), (mem_g 1450 (by decide +kernel) rfl), (mem_g 1451 (by decide +kernel) rfl), (mem_g 89 (by decide +kernel) rfl), (mem_g 1452 (by decide +kernel) rfl)⟩, by decide, by decide +kernel, by decide⟩ : qCv R_law 67 yX12_force cX12_force 3 (some .int) 1) rfl (by decide) rfl rfl rfl (Nat.le_of_ble_eq_true rfl) dL_668 (fun H locs hw => ?_) ⟨by omega, by omega⟩
  have hw := xJ_perm List.perm_append_comm hw
  refine lv_icmp_eq (tgt := 1641) hx hb dL_671 (by decide) (fun _ => ?_) (fun cn => absurd rfl cn)
  exact kx g X1 M1 H locs ls hR1 hw hl
set_option maxRecDepth 100000 in
theorem lc_hidden {p : Program} {l : Launch} {e : Env} {s : State} {m : MethodId} {below : List Frame} {meth : Method} {c : Code} {Q : State → Prop} {cells slots b L j : Nat} {xs : Nat → Int32} {g : xG} {ρ : Nat → Nat} {X : xS} {M : mS} {A : Nat → Prop} {H : Heap} {locs : List Loc} {ls : Array Slot} (hc : qC R_law code p s m #[Value.ref b] c) (hml : c.maxLocals = 4) (hX : va_X b L xs s s.heap) (hbl : b < s.heap.size) (hbA : ¬ A b) (hL : L ≤ 384) (hj : 6 * j + 6 ≤ L) (hR : Rl X M) (hw : xJ g A s.heap s (mW (mgX g ρ) M ++ xW g X) H locs) (hl : lv_has ls 4 [(0, .ref b), (1, .ref (xr g 0)), (2, .ref (ρ 0)), (3, .int (nI (6 * j)))]) (hcs : cells + 4 ≤ 600000 ∧ slots + 198 ≤ 7302250) (kx : ∀ (g : xG) (X : xS) (M : mS) (H : Heap) (locs : List Loc) (ls : Array Slot), Rl X M → xJ g A s.heap s (mW (mgX g ρ) M ++ xW g X) H locs → lv_has ls 4 [(0, .ref b), (1, .ref (xr g 0)), (2, .ref (ρ 0)), (3, .int (nI (6 * j)))] → W p l e room_1 s m #[Value.ref b] below meth c H locs (cells + 4) (slots + 198) Q (F0 m 1641 ls [])) : W p l e room_1 s m #[Value.ref b] below meth c H locs cells slots Q (F0 m 676 ls []) := by
  have hx := hc.1
  have hb := hc.2.1
  have hc1 : cells + 4 ≤ room_1.cells := hcs.1
  have hc2 : slots + 198 ≤ room_1.slots := hcs.2
  refine lv_aload_n hx hb dL_676 rfl (lv_at hl 1 rfl) ?_
  refine lv_aload_n hx hb dL_677 rfl (lv_at hl 0 rfl) ?_
  refine lv_iload_n hx hb dL_678 rfl (lv_at hl 3 rfl) ?_
  refine lv_iconst (v := 1) hx hb dL_679 (by decide) ?_
  refine lv_iadd hx hb dL_680 ?_
  refine va_sld hx hb hX hbl hbA hw.2.2.2.1 (idx_in (L := L) (j := j) (k := 1) 1 rfl (by decide) hL hj) dL_681 ?_
  refine lv_aload_n hx hb dL_682 rfl (lv_at hl 0 rfl) ?_
  refine lv_iload_n hx hb dL_683 rfl (lv_at hl 3 rfl) ?_
  refine lv_iconst (v := 2) hx hb dL_684 (by decide) ?_
  refine lv_iadd hx hb dL_685 ?_
  refine va_sld hx hb hX hbl hbA hw.2.2.2.1 (idx_in (L := L) (j := j) (k := 2) 2 rfl (by decide) hL hj) dL_686 ?_
  refine lv_aload_n hx hb dL_687 rfl (lv_at hl 0 rfl) ?_
  refine lv_iload_n hx hb dL_688 rfl (lv_at hl 3 rfl) ?_
  refine lv_iconst (v := 3) hx hb dL_689 (by decide) ?_
  refine lv_iadd hx hb dL_690 ?_
  refine va_sld hx hb hX hbl hbA hw.2.2.2.1 (idx_in (L := L) (j := j) (k := 3) 3 rfl (by decide) hL hj) dL_691 ?_
  obtain ⟨r, X1, hf1, hf2, hR1⟩ := st_hidden (Nat.le_refl 2000) hR (xs (nI (6 * j) + 1).toNatClampNeg) (xs (nI (6 * j) + 2).toNatClampNeg) (xs (nI (6 * j) + 3).toNatClampNeg)
  refine e_xcvi (As := [.int (xs (nI (6 * j) + 1).toNatClampNeg), .int (xs (nI (6 * j) + 2).toNatClampNeg), .int (xs (nI (6 * j) + 3).toNatClampNeg)]) (rest := []) hc hw law_room (hml.trans hl.1.symm) (cx_X_hidden l 2000 X (xs (nI (6 * j) + 1).toNatClampNeg) (xs (nI (6 * j) + 2).toNatClampNeg) (xs (nI (6 * j) + 3).toNatClampNeg) r X1 hf1) (⟨⟨(mem_g 800 (by decide +kernel) rfl), (mem_g 801 (by decide +kernel) rfl), (mem_g 802 (by decide +kernel) rfl), (mem_g 77 (by decide +kernel) rfl), (mem_g 803 (by decide +kernel) rfl)⟩, by decide, by decide +kernel, by decide⟩ : qCv R_law 68 yX11_hidden cX11_hidden 5 (some .int) 3) (x_recv_this (xJ_I (xJ_post hw))) (by decide) rfl rfl rfl (Nat.le_of_ble_eq_true rfl) dL_692 (fun H locs hw => ?_) ⟨by omega, by omega⟩
  refine W.widen (k := cells + 4) (n := slots + 198) (by omega) (by omega) ?_
  have hw := xJ_perm List.perm_append_comm hw
  refine lv_aload_n hx hb dL_695 rfl (lv_at hl 2 rfl) ?_
  refine lv_aload_n hx hb dL_696 rfl (lv_at hl 0 rfl) ?_
  refine lv_iload_n hx hb dL_697 rfl (lv_at hl 3 rfl) ?_
  refine lv_iconst (v := 1) hx hb dL_698 (by decide) ?_
  refine lv_iadd hx hb dL_699 ?_
  refine va_sld hx hb hX hbl hbA hw.2.2.2.1 (idx_in (L := L) (j := j) (k := 1) 1 rfl (by decide) hL hj) dL_700 ?_
  refine lv_aload_n hx hb dL_701 rfl (lv_at hl 0 rfl) ?_
  refine lv_iload_n hx hb dL_702 rfl (lv_at hl 3 rfl) ?_
  refine lv_iconst (v := 2) hx hb dL_703 (by decide) ?_
  refine lv_iadd hx hb dL_704 ?_
  refine va_sld hx hb hX hbl hbA hw.2.2.2.1 (idx_in (L := L) (j := j) (k := 2) 2 rfl (by decide) hL hj) dL_705 ?_
  refine lv_aload_n hx hb dL_706 rfl (lv_at hl 0 rfl) ?_
  refine lv_iload_n hx hb dL_707 rfl (lv_at hl 3 rfl) ?_
  refine lv_iconst (v := 3) hx hb dL_708 (by decide) ?_
  refine lv_iadd hx hb dL_709 ?_
  refine va_sld hx hb hX hbl hbA hw.2.2.2.1 (idx_in (L := L) (j := j) (k := 3) 3 rfl (by decide) hL hj) dL_710 ?_
  refine e_mcvi (As := [.int (xs (nI (6 * j) + 1).toNatClampNeg), .int (xs (nI (6 * j) + 2).toNatClampNeg), .int (xs (nI (6 * j) + 3).toNatClampNeg)]) (rest := [.int r]) hc hw law_room (hml.trans hl.1.symm) (cm_hidden l 2000 M (xs (nI (6 * j) + 1).toNatClampNeg) (xs (nI (6 * j) + 2).toNatClampNeg) (xs (nI (6 * j) + 3).toNatClampNeg) r hf2) (⟨⟨(mem_g 1453 (by decide +kernel) rfl), (mem_g 1454 (by decide +kernel) rfl), (mem_g 1455 (by decide +kernel) rfl), (mem_g 89 (by decide +kernel) rfl), (mem_g 1456 (by decide +kernel) rfl)⟩, by decide, by decide +kernel, by decide⟩ : qCv R_law 71 yX12_hidden cX12_hidden 4 (some .int) 3) rfl (by decide) rfl rfl rfl (Nat.le_of_ble_eq_true rfl) dL_711 (fun H locs hw => ?_) ⟨by omega, by omega⟩
  have hw := xJ_perm List.perm_append_comm hw
  refine lv_icmp_eq (tgt := 1641) hx hb dL_714 (by decide) (fun _ => ?_) (fun cn => absurd rfl cn)
  exact kx g X1 M H locs ls hR1 hw hl
set_option maxRecDepth 100000 in
theorem lc_sees {p : Program} {l : Launch} {e : Env} {s : State} {m : MethodId} {below : List Frame} {meth : Method} {c : Code} {Q : State → Prop} {cells slots b L j : Nat} {xs : Nat → Int32} {g : xG} {ρ : Nat → Nat} {X : xS} {M : mS} {A : Nat → Prop} {H : Heap} {locs : List Loc} {ls : Array Slot} (hc : qC R_law code p s m #[Value.ref b] c) (hml : c.maxLocals = 4) (hX : va_X b L xs s s.heap) (hbl : b < s.heap.size) (hbA : ¬ A b) (hL : L ≤ 384) (hj : 6 * j + 6 ≤ L) (hR : Rl X M) (hw : xJ g A s.heap s (mW (mgX g ρ) M ++ xW g X) H locs) (hl : lv_has ls 4 [(0, .ref b), (1, .ref (xr g 0)), (2, .ref (ρ 0)), (3, .int (nI (6 * j)))]) (hcs : cells + 4 ≤ 600000 ∧ slots + 198 ≤ 7302250) (kx : ∀ (g : xG) (X : xS) (M : mS) (H : Heap) (locs : List Loc) (ls : Array Slot), Rl X M → xJ g A s.heap s (mW (mgX g ρ) M ++ xW g X) H locs → lv_has ls 4 [(0, .ref b), (1, .ref (xr g 0)), (2, .ref (ρ 0)), (3, .int (nI (6 * j)))] → W p l e room_1 s m #[Value.ref b] below meth c H locs (cells + 4) (slots + 198) Q (F0 m 1641 ls [])) : W p l e room_1 s m #[Value.ref b] below meth c H locs cells slots Q (F0 m 719 ls []) := by
  have hx := hc.1
  have hb := hc.2.1
  have hc1 : cells + 4 ≤ room_1.cells := hcs.1
  have hc2 : slots + 198 ≤ room_1.slots := hcs.2
  refine lv_aload_n hx hb dL_719 rfl (lv_at hl 1 rfl) ?_
  refine lv_aload_n hx hb dL_720 rfl (lv_at hl 0 rfl) ?_
  refine lv_iload_n hx hb dL_721 rfl (lv_at hl 3 rfl) ?_
  refine lv_iconst (v := 1) hx hb dL_722 (by decide) ?_
  refine lv_iadd hx hb dL_723 ?_
  refine va_sld hx hb hX hbl hbA hw.2.2.2.1 (idx_in (L := L) (j := j) (k := 1) 1 rfl (by decide) hL hj) dL_724 ?_
  refine lv_aload_n hx hb dL_725 rfl (lv_at hl 0 rfl) ?_
  refine lv_iload_n hx hb dL_726 rfl (lv_at hl 3 rfl) ?_
  refine lv_iconst (v := 2) hx hb dL_727 (by decide) ?_
  refine lv_iadd hx hb dL_728 ?_
  refine va_sld hx hb hX hbl hbA hw.2.2.2.1 (idx_in (L := L) (j := j) (k := 2) 2 rfl (by decide) hL hj) dL_729 ?_
  obtain ⟨r, X1, hf1, hf2, hR1⟩ := st_sees (Nat.le_refl 2000) hR (xs (nI (6 * j) + 1).toNatClampNeg) (xs (nI (6 * j) + 2).toNatClampNeg)
  refine e_xcvi (As := [.int (xs (nI (6 * j) + 1).toNatClampNeg), .int (xs (nI (6 * j) + 2).toNatClampNeg)]) (rest := []) hc hw law_room (hml.trans hl.1.symm) (cx_X_sees l 2000 X (xs (nI (6 * j) + 1).toNatClampNeg) (xs (nI (6 * j) + 2).toNatClampNeg) r X1 hf1) (⟨⟨(mem_g 842 (by decide +kernel) rfl), (mem_g 843 (by decide +kernel) rfl), (mem_g 844 (by decide +kernel) rfl), (mem_g 77 (by decide +kernel) rfl), (mem_g 845 (by decide +kernel) rfl)⟩, by decide, by decide +kernel, by decide⟩ : qCv R_law 72 yX11_sees cX11_sees 4 (some .int) 2) (x_recv_this (xJ_I (xJ_post hw))) (by decide) rfl rfl rfl (Nat.le_of_ble_eq_true rfl) dL_730 (fun H locs hw => ?_) ⟨by omega, by omega⟩
  refine W.widen (k := cells + 4) (n := slots + 198) (by omega) (by omega) ?_
  have hw := xJ_perm List.perm_append_comm hw
  refine lv_aload_n hx hb dL_733 rfl (lv_at hl 2 rfl) ?_
  refine lv_aload_n hx hb dL_734 rfl (lv_at hl 0 rfl) ?_
  refine lv_iload_n hx hb dL_735 rfl (lv_at hl 3 rfl) ?_
  refine lv_iconst (v := 1) hx hb dL_736 (by decide) ?_
  refine lv_iadd hx hb dL_737 ?_
  refine va_sld hx hb hX hbl hbA hw.2.2.2.1 (idx_in (L := L) (j := j) (k := 1) 1 rfl (by decide) hL hj) dL_738 ?_
  refine lv_aload_n hx hb dL_739 rfl (lv_at hl 0 rfl) ?_
  refine lv_iload_n hx hb dL_740 rfl (lv_at hl 3 rfl) ?_
  refine lv_iconst (v := 2) hx hb dL_741 (by decide) ?_
  refine lv_iadd hx hb dL_742 ?_
  refine va_sld hx hb hX hbl hbA hw.2.2.2.1 (idx_in (L := L) (j := j) (k := 2) 2 rfl (by decide) hL hj) dL_743 ?_
  refine e_mcvi (As := [.int (xs (nI (6 * j) + 1).toNatClampNeg), .int (xs (nI (6 * j) + 2).toNatClampNeg)]) (rest := [.int r]) hc hw law_room (hml.trans hl.1.symm) (cm_sees l 2000 M (xs (nI (6 * j) + 1).toNatClampNeg) (xs (nI (6 * j) + 2).toNatClampNeg) r hf2) (⟨⟨(mem_g 1477 (by decide +kernel) rfl), (mem_g 1478 (by decide +kernel) rfl), (mem_g 1479 (by decide +kernel) rfl), (mem_g 89 (by decide +kernel) rfl), (mem_g 1480 (by decide +kernel) rfl)⟩, by decide, by decide +kernel, by decide⟩ : qCv R_law 75 yX12_sees cX12_sees 3 (some .int) 2) rfl (by decide) rfl rfl rfl (Nat.le_of_ble_eq_true rfl) dL_744 (fun H locs hw => ?_) ⟨by omega, by omega⟩
  have hw := xJ_perm List.perm_append_comm hw
  refine lv_icmp_eq (tgt := 1641) hx hb dL_747 (by decide) (fun _ => ?_) (fun cn => absurd rfl cn)
  exact kx g X1 M H locs ls hR1 hw hl
set_option maxRecDepth 100000 in
theorem lc_worth {p : Program} {l : Launch} {e : Env} {s : State} {m : MethodId} {below : List Frame} {meth : Method} {c : Code} {Q : State → Prop} {cells slots b L j : Nat} {xs : Nat → Int32} {g : xG} {ρ : Nat → Nat} {X : xS} {M : mS} {A : Nat → Prop} {H : Heap} {locs : List Loc} {ls : Array Slot} (hc : qC R_law code p s m #[Value.ref b] c) (hml : c.maxLocals = 4) (hX : va_X b L xs s s.heap) (hbl : b < s.heap.size) (hbA : ¬ A b) (hL : L ≤ 384) (hj : 6 * j + 6 ≤ L) (hR : Rl X M) (hw : xJ g A s.heap s (mW (mgX g ρ) M ++ xW g X) H locs) (hl : lv_has ls 4 [(0, .ref b), (1, .ref (xr g 0)), (2, .ref (ρ 0)), (3, .int (nI (6 * j)))]) (hcs : cells + 4 ≤ 600000 ∧ slots + 198 ≤ 7302250) (kx : ∀ (g : xG) (X : xS) (M : mS) (H : Heap) (locs : List Loc) (ls : Array Slot), Rl X M → xJ g A s.heap s (mW (mgX g ρ) M ++ xW g X) H locs → lv_has ls 4 [(0, .ref b), (1, .ref (xr g 0)), (2, .ref (ρ 0)), (3, .int (nI (6 * j)))] → W p l e room_1 s m #[Value.ref b] below meth c H locs (cells + 4) (slots + 198) Q (F0 m 1641 ls [])) : W p l e room_1 s m #[Value.ref b] below meth c H locs cells slots Q (F0 m 752 ls []) := by
  have hx := hc.1
  have hb := hc.2.1
  have hc1 : cells + 4 ≤ room_1.cells := hcs.1
  have hc2 : slots + 198 ≤ room_1.slots := hcs.2
  refine lv_aload_n hx hb dL_752 rfl (lv_at hl 1 rfl) ?_
  refine lv_aload_n hx hb dL_753 rfl (lv_at hl 0 rfl) ?_
  refine lv_iload_n hx hb dL_754 rfl (lv_at hl 3 rfl) ?_
  refine lv_iconst (v := 1) hx hb dL_755 (by decide) ?_
  refine lv_iadd hx hb dL_756 ?_
  refine va_sld hx hb hX hbl hbA hw.2.2.2.1 (idx_in (L := L) (j := j) (k := 1) 1 rfl (by decide) hL hj) dL_757 ?_
  refine lv_aload_n hx hb dL_758 rfl (lv_at hl 0 rfl) ?_
  refine lv_iload_n hx hb dL_759 rfl (lv_at hl 3 rfl) ?_
  refine lv_iconst (v := 2) hx hb dL_760 (by decide) ?_
  refine lv_iadd hx hb dL_761 ?_
  refine va_sld hx hb hX hbl hbA hw.2.2.2.1 (idx_in (L := L) (j := j) (k := 2) 2 rfl (by decide) hL hj) dL_762 ?_
  obtain ⟨r, X1, M1, hf1, hf2, hR1⟩ := st_worth (Nat.le_refl 2000) hR (xs (nI (6 * j) + 1).toNatClampNeg) (xs (nI (6 * j) + 2).toNatClampNeg)
  refine e_xcvi (As := [.int (xs (nI (6 * j) + 1).toNatClampNeg), .int (xs (nI (6 * j) + 2).toNatClampNeg)]) (rest := []) hc hw law_room (hml.trans hl.1.symm) (cx_X_worth l 2000 X (xs (nI (6 * j) + 1).toNatClampNeg) (xs (nI (6 * j) + 2).toNatClampNeg) r X1 hf1) (⟨⟨(mem_g 851 (by decide +kernel) rfl), (mem_g 852 (by decide +kernel) rfl), (mem_g 853 (by decide +kernel) rfl), (mem_g 77 (by decide +kernel) rfl), (mem_g 854 (by decide +kernel) rfl)⟩, by decide, by decide +kernel, by decide⟩ : qCv R_law 76 yX11_worth cX11_worth 4 (some .int) 2) (x_recv_this (xJ_I (xJ_post hw))) (by decide) rfl rfl rfl (Nat.le_of_ble_eq_true rfl) dL_763 (fun H locs hw => ?_) ⟨by omega, by omega⟩
  refine W.widen (k := cells + 4) (n := slots + 198) (by omega) (by omega) ?_
  have hw := xJ_perm List.perm_append_comm hw
  refine lv_aload_n hx hb dL_766 rfl (lv_at hl 2 rfl) ?_
  refine lv_aload_n hx hb dL_767 rfl (lv_at hl 0 rfl) ?_
  refine lv_iload_n hx hb dL_768 rfl (lv_at hl 3 rfl) ?_
  refine lv_iconst (v := 1) hx hb dL_769 (by decide) ?_
  refine lv_iadd hx hb dL_770 ?_
  refine va_sld hx hb hX hbl hbA hw.2.2.2.1 (idx_in (L := L) (j := j) (k := 1) 1 rfl (by decide) hL hj) dL_771 ?_
  refine lv_aload_n hx hb dL_772 rfl (lv_at hl 0 rfl) ?_
  refine lv_iload_n hx hb dL_773 rfl (lv_at hl 3 rfl) ?_
  refine lv_iconst (v := 2) hx hb dL_774 (by decide) ?_
  refine lv_iadd hx hb dL_775 ?_
  refine va_sld hx hb hX hbl hbA hw.2.2.2.1 (idx_in (L := L) (j := j) (k := 2) 2 rfl (by decide) hL hj) dL_776 ?_
  refine e_mcvi (As := [.int (xs (nI (6 * j) + 1).toNatClampNeg), .int (xs (nI (6 * j) + 2).toNatClampNeg)]) (rest := [.int r]) hc hw law_room (hml.trans hl.1.symm) (cm_worth l 2000 M (xs (nI (6 * j) + 1).toNatClampNeg) (xs (nI (6 * j) + 2).toNatClampNeg) r M1 hf2) (⟨⟨(mem_g 1485 (by decide +kernel) rfl), (mem_g 1486 (by decide +kernel) rfl), (mem_g 1487 (by decide +kernel) rfl), (mem_g 89 (by decide +kernel) rfl), (mem_g 1488 (by decide +kernel) rfl)⟩, by decide, by decide +kernel, by decide⟩ : qCv R_law 79 yX12_worth cX12_worth 3 (some .int) 2) rfl (by decide) rfl rfl rfl (Nat.le_of_ble_eq_true rfl) dL_777 (fun H locs hw => ?_) ⟨by omega, by omega⟩
  have hw := xJ_perm List.perm_append_comm hw
  refine lv_icmp_eq (tgt := 1641) hx hb dL_780 (by decide) (fun _ => ?_) (fun cn => absurd rfl cn)
  exact kx g X1 M1 H locs ls hR1 hw hl
set_option maxRecDepth 100000 in
theorem lc_price {p : Program} {l : Launch} {e : Env} {s : State} {m : MethodId} {below : List Frame} {meth : Method} {c : Code} {Q : State → Prop} {cells slots b L j : Nat} {xs : Nat → Int32} {g : xG} {ρ : Nat → Nat} {X : xS} {M : mS} {A : Nat → Prop} {H : Heap} {locs : List Loc} {ls : Array Slot} (hc : qC R_law code p s m #[Value.ref b] c) (hml : c.maxLocals = 4) (hX : va_X b L xs s s.heap) (hbl : b < s.heap.size) (hbA : ¬ A b) (hL : L ≤ 384) (hj : 6 * j + 6 ≤ L) (hR : Rl X M) (hw : xJ g A s.heap s (mW (mgX g ρ) M ++ xW g X) H locs) (hl : lv_has ls 4 [(0, .ref b), (1, .ref (xr g 0)), (2, .ref (ρ 0)), (3, .int (nI (6 * j)))]) (hcs : cells + 4 ≤ 600000 ∧ slots + 198 ≤ 7302250) (kx : ∀ (g : xG) (X : xS) (M : mS) (H : Heap) (locs : List Loc) (ls : Array Slot), Rl X M → xJ g A s.heap s (mW (mgX g ρ) M ++ xW g X) H locs → lv_has ls 4 [(0, .ref b), (1, .ref (xr g 0)), (2, .ref (ρ 0)), (3, .int (nI (6 * j)))] → W p l e room_1 s m #[Value.ref b] below meth c H locs (cells + 4) (slots + 198) Q (F0 m 1641 ls [])) : W p l e room_1 s m #[Value.ref b] below meth c H locs cells slots Q (F0 m 785 ls []) := by
  have hx := hc.1
  have hb := hc.2.1
  have hc1 : cells + 4 ≤ room_1.cells := hcs.1
  have hc2 : slots + 198 ≤ room_1.slots := hcs.2
  refine lv_aload_n hx hb dL_785 rfl (lv_at hl 1 rfl) ?_
  refine lv_aload_n hx hb dL_786 rfl (lv_at hl 0 rfl) ?_
  refine lv_iload_n hx hb dL_787 rfl (lv_at hl 3 rfl) ?_
  refine lv_iconst (v := 1) hx hb dL_788 (by decide) ?_
  refine lv_iadd hx hb dL_789 ?_
  refine va_sld hx hb hX hbl hbA hw.2.2.2.1 (idx_in (L := L) (j := j) (k := 1) 1 rfl (by decide) hL hj) dL_790 ?_
  refine lv_aload_n hx hb dL_791 rfl (lv_at hl 0 rfl) ?_
  refine lv_iload_n hx hb dL_792 rfl (lv_at hl 3 rfl) ?_
  refine lv_iconst (v := 2) hx hb dL_793 (by decide) ?_
  refine lv_iadd hx hb dL_794 ?_
  refine va_sld hx hb hX hbl hbA hw.2.2.2.1 (idx_in (L := L) (j := j) (k := 2) 2 rfl (by decide) hL hj) dL_795 ?_
  obtain ⟨r, X1, M1, hf1, hf2, hR1⟩ := st_price (Nat.le_refl 2000) hR (xs (nI (6 * j) + 1).toNatClampNeg) (xs (nI (6 * j) + 2).toNatClampNeg)
  refine e_xcvi (As := [.int (xs (nI (6 * j) + 1).toNatClampNeg), .int (xs (nI (6 * j) + 2).toNatClampNeg)]) (rest := []) hc hw law_room (hml.trans hl.1.symm) (cx_X_price l 2000 X (xs (nI (6 * j) + 1).toNatClampNeg) (xs (nI (6 * j) + 2).toNatClampNeg) r X1 hf1) (⟨⟨(mem_g 883 (by decide +kernel) rfl), (mem_g 884 (by decide +kernel) rfl), (mem_g 885 (by decide +kernel) rfl), (mem_g 77 (by decide +kernel) rfl), (mem_g 886 (by decide +kernel) rfl)⟩, by decide, by decide +kernel, by decide⟩ : qCv R_law 80 yX11_price cX11_price 4 (some .int) 2) (x_recv_this (xJ_I (xJ_post hw))) (by decide) rfl rfl rfl (Nat.le_of_ble_eq_true rfl) dL_796 (fun H locs hw => ?_) ⟨by omega, by omega⟩
  refine W.widen (k := cells + 4) (n := slots + 198) (by omega) (by omega) ?_
  have hw := xJ_perm List.perm_append_comm hw
  refine lv_aload_n hx hb dL_799 rfl (lv_at hl 2 rfl) ?_
  refine lv_aload_n hx hb dL_800 rfl (lv_at hl 0 rfl) ?_
  refine lv_iload_n hx hb dL_801 rfl (lv_at hl 3 rfl) ?_
  refine lv_iconst (v := 1) hx hb dL_802 (by decide) ?_
  refine lv_iadd hx hb dL_803 ?_
  refine va_sld hx hb hX hbl hbA hw.2.2.2.1 (idx_in (L := L) (j := j) (k := 1) 1 rfl (by decide) hL hj) dL_804 ?_
  refine lv_aload_n hx hb dL_805 rfl (lv_at hl 0 rfl) ?_
  refine lv_iload_n hx hb dL_806 rfl (lv_at hl 3 rfl) ?_
  refine lv_iconst (v := 2) hx hb dL_807 (by decide) ?_
  refine lv_iadd hx hb dL_808 ?_
  refine va_sld hx hb hX hbl hbA hw.2.2.2.1 (idx_in (L := L) (j := j) (k := 2) 2 rfl (by decide) hL hj) dL_809 ?_
  refine e_mcvi (As := [.int (xs (nI (6 * j) + 1).toNatClampNeg), .int (xs (nI (6 * j) + 2).toNatClampNeg)]) (rest := [.int r]) hc hw law_room (hml.trans hl.1.symm) (cm_price l 2000 M (xs (nI (6 * j) + 1).toNatClampNeg) (xs (nI (6 * j) + 2).toNatClampNeg) r M1 hf2) (⟨⟨(mem_g 1508 (by decide +kernel) rfl), (mem_g 1509 (by decide +kernel) rfl), (mem_g 1510 (by decide +kernel) rfl), (mem_g 89 (by decide +kernel) rfl), (mem_g 1511 (by decide +kernel) rfl)⟩, by decide, by decide +kernel, by decide⟩ : qCv R_law 83 yX12_price cX12_price 3 (some .int) 2) rfl (by decide) rfl rfl rfl (Nat.le_of_ble_eq_true rfl) dL_810 (fun H locs hw => ?_) ⟨by omega, by omega⟩
  have hw := xJ_perm List.perm_append_comm hw
  refine lv_icmp_eq (tgt := 1641) hx hb dL_813 (by decide) (fun _ => ?_) (fun cn => absurd rfl cn)
  exact kx g X1 M1 H locs ls hR1 hw hl
set_option maxRecDepth 100000 in
theorem lc_all {p : Program} {l : Launch} {e : Env} {s : State} {m : MethodId} {below : List Frame} {meth : Method} {c : Code} {Q : State → Prop} {cells slots b L j : Nat} {xs : Nat → Int32} {g : xG} {ρ : Nat → Nat} {X : xS} {M : mS} {A : Nat → Prop} {H : Heap} {locs : List Loc} {ls : Array Slot} (hc : qC R_law code p s m #[Value.ref b] c) (hml : c.maxLocals = 4) (hX : va_X b L xs s s.heap) (hbl : b < s.heap.size) (hbA : ¬ A b) (hL : L ≤ 384) (hj : 6 * j + 6 ≤ L) (hR : Rl X M) (hw : xJ g A s.heap s (mW (mgX g ρ) M ++ xW g X) H locs) (hl : lv_has ls 4 [(0, .ref b), (1, .ref (xr g 0)), (2, .ref (ρ 0)), (3, .int (nI (6 * j)))]) (hcs : cells + 4 ≤ 600000 ∧ slots + 198 ≤ 7302250) (kx : ∀ (g : xG) (X : xS) (M : mS) (H : Heap) (locs : List Loc) (ls : Array Slot), Rl X M → xJ g A s.heap s (mW (mgX g ρ) M ++ xW g X) H locs → lv_has ls 4 [(0, .ref b), (1, .ref (xr g 0)), (2, .ref (ρ 0)), (3, .int (nI (6 * j)))] → W p l e room_1 s m #[Value.ref b] below meth c H locs (cells + 4) (slots + 198) Q (F0 m 1641 ls [])) : W p l e room_1 s m #[Value.ref b] below meth c H locs cells slots Q (F0 m 818 ls []) := by
  have hx := hc.1
  have hb := hc.2.1
  have hc1 : cells + 4 ≤ room_1.cells := hcs.1
  have hc2 : slots + 198 ≤ room_1.slots := hcs.2
  refine lv_aload_n hx hb dL_818 rfl (lv_at hl 1 rfl) ?_
  refine lv_aload_n hx hb dL_819 rfl (lv_at hl 0 rfl) ?_
  refine lv_iload_n hx hb dL_820 rfl (lv_at hl 3 rfl) ?_
  refine lv_iconst (v := 1) hx hb dL_821 (by decide) ?_
  refine lv_iadd hx hb dL_822 ?_
  refine va_sld hx hb hX hbl hbA hw.2.2.2.1 (idx_in (L := L) (j := j) (k := 1) 1 rfl (by decide) hL hj) dL_823 ?_
  obtain ⟨r, X1, M1, hf1, hf2, hR1⟩ := st_all (Nat.le_refl 2000) hR (xs (nI (6 * j) + 1).toNatClampNeg)
  refine e_xcvi (As := [.int (xs (nI (6 * j) + 1).toNatClampNeg)]) (rest := []) hc hw law_room (hml.trans hl.1.symm) (cx_X_all l 2000 X (xs (nI (6 * j) + 1).toNatClampNeg) r X1 hf1) (⟨⟨(mem_g 892 (by decide +kernel) rfl), (mem_g 893 (by decide +kernel) rfl), (mem_g 894 (by decide +kernel) rfl), (mem_g 77 (by decide +kernel) rfl), (mem_g 895 (by decide +kernel) rfl)⟩, by decide, by decide +kernel, by decide⟩ : qCv R_law 84 yX11_all cX11_all 2 (some .int) 1) (x_recv_this (xJ_I (xJ_post hw))) (by decide) rfl rfl rfl (Nat.le_of_ble_eq_true rfl) dL_824 (fun H locs hw => ?_) ⟨by omega, by omega⟩
  refine W.widen (k := cells + 4) (n := slots + 198) (by omega) (by omega) ?_
  have hw := xJ_perm List.perm_append_comm hw
  refine lv_aload_n hx hb dL_827 rfl (lv_at hl 2 rfl) ?_
  refine lv_aload_n hx hb dL_828 rfl (lv_at hl 0 rfl) ?_
  refine lv_iload_n hx hb dL_829 rfl (lv_at hl 3 rfl) ?_
  refine lv_iconst (v := 1) hx hb dL_830 (by decide) ?_
  refine lv_iadd hx hb dL_831 ?_
  refine va_sld hx hb hX hbl hbA hw.2.2.2.1 (idx_in (L := L) (j := j) (k := 1) 1 rfl (by decide) hL hj) dL_832 ?_
  refine e_mcvi (As := [.int (xs (nI (6 * j) + 1).toNatClampNeg)]) (rest := [.int r]) hc hw law_room (hml.trans hl.1.symm) (cm_all l 2000 M (xs (nI (6 * j) + 1).toNatClampNeg) r M1 hf2) (⟨⟨(mem_g 1516 (by decide +kernel) rfl), (mem_g 1517 (by decide +kernel) rfl), (mem_g 1518 (by decide +kernel) rfl), (mem_g 89 (by decide +kernel) rfl), (mem_g 1519 (by decide +kernel) rfl)⟩, by decide, by decide +kernel, by decide⟩ : qCv R_law 87 yX12_all cX12_all 6 (some .int) 1) rfl (by decide) rfl rfl rfl (Nat.le_of_ble_eq_true rfl) dL_833 (fun H locs hw => ?_) ⟨by omega, by omega⟩
  have hw := xJ_perm List.perm_append_comm hw
  refine lv_icmp_eq (tgt := 1641) hx hb dL_836 (by decide) (fun _ => ?_) (fun cn => absurd rfl cn)
  exact kx g X1 M1 H locs ls hR1 hw hl
set_option maxRecDepth 100000 in
theorem lc_cost {p : Program} {l : Launch} {e : Env} {s : State} {m : MethodId} {below : List Frame} {meth : Method} {c : Code} {Q : State → Prop} {cells slots b L j : Nat} {xs : Nat → Int32} {g : xG} {ρ : Nat → Nat} {X : xS} {M : mS} {A : Nat → Prop} {H : Heap} {locs : List Loc} {ls : Array Slot} (hc : qC R_law code p s m #[Value.ref b] c) (hml : c.maxLocals = 4) (hX : va_X b L xs s s.heap) (hbl : b < s.heap.size) (hbA : ¬ A b) (hL : L ≤ 384) (hj : 6 * j + 6 ≤ L) (hR : Rl X M) (hw : xJ g A s.heap s (mW (mgX g ρ) M ++ xW g X) H locs) (hl : lv_has ls 4 [(0, .ref b), (1, .ref (xr g 0)), (2, .ref (ρ 0)), (3, .int (nI (6 * j)))]) (hcs : cells + 4 ≤ 600000 ∧ slots + 198 ≤ 7302250) (kx : ∀ (g : xG) (X : xS) (M : mS) (H : Heap) (locs : List Loc) (ls : Array Slot), Rl X M → xJ g A s.heap s (mW (mgX g ρ) M ++ xW g X) H locs → lv_has ls 4 [(0, .ref b), (1, .ref (xr g 0)), (2, .ref (ρ 0)), (3, .int (nI (6 * j)))] → W p l e room_1 s m #[Value.ref b] below meth c H locs (cells + 4) (slots + 198) Q (F0 m 1641 ls [])) : W p l e room_1 s m #[Value.ref b] below meth c H locs cells slots Q (F0 m 841 ls []) := by
  have hx := hc.1
  have hb := hc.2.1
  have hc1 : cells + 4 ≤ room_1.cells := hcs.1
  have hc2 : slots + 198 ≤ room_1.slots := hcs.2
  refine lv_aload_n hx hb dL_841 rfl (lv_at hl 1 rfl) ?_
  obtain ⟨r, X1, M1, hf1, hf2, hR1⟩ := st_cost (Nat.le_refl 2000) hR 
  refine e_xcvi (As := []) (rest := []) hc hw law_room (hml.trans hl.1.symm) (cx_X_cost l 2000 X r X1 hf1) (⟨⟨(mem_g 910 (by decide +kernel) rfl), (mem_g 911 (by decide +kernel) rfl), (mem_g 912 (by decide +kernel) rfl), (mem_g 77 (by decide +kernel) rfl), (mem_g 913 (by decide +kernel) rfl)⟩, by decide, by decide +kernel, by decide⟩ : qCv R_law 88 yX11_cost cX11_cost 1 (some .int) 0) (x_recv_this (xJ_I (xJ_post hw))) (by decide) rfl rfl rfl (Nat.le_of_ble_eq_true rfl) dL_842 (fun H locs hw => ?_) ⟨by omega, by omega⟩
  refine W.widen (k := cells + 4) (n := slots + 198) (by omega) (by omega) ?_
  have hw := xJ_perm List.perm_append_comm hw
  refine lv_aload_n hx hb dL_845 rfl (lv_at hl 2 rfl) ?_
  refine e_mcvi (As := []) (rest := [.int r]) hc hw law_room (hml.trans hl.1.symm) (cm_cost l 2000 M r M1 hf2) (⟨⟨(mem_g 1520 (by decide +kernel) rfl), (mem_g 1521 (by decide +kernel) rfl), (mem_g 1522 (by decide +kernel) rfl), (mem_g 89 (by decide +kernel) rfl), (mem_g 1523 (by decide +kernel) rfl)⟩, by decide, by decide +kernel, by decide⟩ : qCv R_law 91 yX12_cost cX12_cost 3 (some .int) 0) rfl (by decide) rfl rfl rfl (Nat.le_of_ble_eq_true rfl) dL_846 (fun H locs hw => ?_) ⟨by omega, by omega⟩
  have hw := xJ_perm List.perm_append_comm hw
  refine lv_icmp_eq (tgt := 1641) hx hb dL_849 (by decide) (fun _ => ?_) (fun cn => absurd rfl cn)
  exact kx g X1 M1 H locs ls hR1 hw hl
end LAWCALL1
