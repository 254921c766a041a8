section LAWCALL2
set_option maxRecDepth 100000 in
theorem lc_lawful {p : Program} {l : Launch} {e : Env} {s : State} {m : MethodId} {below : List Frame} {meth : Method} {c : Code} {Q : State → Prop} {cells slots b L j : Nat} {xs : Nat → Int32} {g : xG} {ρ : Nat → Nat} {X : xS} {M : mS} {A : Nat → Prop} {H : Heap} {locs : List Loc} {ls : Array Slot} (hc : qC R_law code p s m #[Value.ref b] c) (hml : c.maxLocals = 4) (hX : va_X b L xs s s.heap) (hbl : b < s.heap.size) (hbA : ¬ A b) (hL : L ≤ 384) (hj : 6 * j + 6 ≤ L) (hR : Rl X M) (hw : xJ g A s.heap s (mW (mgX g ρ) M ++ xW g X) H locs) (hl : lv_has ls 4 [(0, .ref b), (1, .ref (xr g 0)), (2, .ref (ρ 0)), (3, .int (nI (6 * j)))]) (hcs : cells + 4 ≤ 600000 ∧ slots + 198 ≤ 7302250) (kx : ∀ (g : xG) (X : xS) (M : mS) (H : Heap) (locs : List Loc) (ls : Array Slot), Rl X M → xJ g A s.heap s (mW (mgX g ρ) M ++ xW g X) H locs → lv_has ls 4 [(0, .ref b), (1, .ref (xr g 0)), (2, .ref (ρ 0)), (3, .int (nI (6 * j)))] → W p l e room_1 s m #[Value.ref b] below meth c H locs (cells + 4) (slots + 198) Q (F0 m 1641 ls [])) : W p l e room_1 s m #[Value.ref b] below meth c H locs cells slots Q (F0 m 854 ls []) := by
  have hx := hc.1
  have hb := hc.2.1
  have hc1 : cells + 4 ≤ room_1.cells := hcs.1
  have hc2 : slots + 198 ≤ room_1.slots := hcs.2
  refine lv_aload_n hx hb dL_854 rfl (lv_at hl 1 rfl) ?_
  refine lv_aload_n hx hb dL_855 rfl (lv_at hl 0 rfl) ?_
  refine lv_iload_n hx hb dL_856 rfl (lv_at hl 3 rfl) ?_
  refine lv_iconst (v := 1) hx hb dL_857 (by decide) ?_
  refine lv_iadd hx hb dL_858 ?_
  refine va_sld hx hb hX hbl hbA hw.2.2.2.1 (idx_in (L := L) (j := j) (k := 1) 1 rfl (by decide) hL hj) dL_859 ?_
  obtain ⟨r, hf1, hf2⟩ := st_lawful (Nat.le_refl 2000) hR (xs (nI (6 * j) + 1).toNatClampNeg)
  refine e_xcvi (As := [.int (xs (nI (6 * j) + 1).toNatClampNeg)]) (rest := []) hc hw law_room (hml.trans hl.1.symm) (cx_X_lawful l 2000 X (xs (nI (6 * j) + 1).toNatClampNeg) r hf1) (⟨⟨(mem_g 922 (by decide +kernel) rfl), (mem_g 923 (by decide +kernel) rfl), (mem_g 924 (by decide +kernel) rfl), (mem_g 77 (by decide +kernel) rfl), (mem_g 925 (by decide +kernel) rfl)⟩, by decide, by decide +kernel, by decide⟩ : qCv R_law 92 yX11_lawful cX11_lawful 3 (some .int) 1) (x_recv_this (xJ_I (xJ_post hw))) (by decide) rfl rfl rfl (Nat.le_of_ble_eq_true rfl) dL_860 (fun H locs hw => ?_) ⟨by omega, by omega⟩
  refine W.widen (k := cells + 4) (n := slots + 198) (by omega) (by omega) ?_
  have hw := xJ_perm List.perm_append_comm hw
  refine lv_aload_n hx hb dL_863 rfl (lv_at hl 2 rfl) ?_
  refine lv_aload_n hx hb dL_864 rfl (lv_at hl 0 rfl) ?_
  refine lv_iload_n hx hb dL_865 rfl (lv_at hl 3 rfl) ?_
  refine lv_iconst (v := 1) hx hb dL_866 (by decide) ?_
  refine lv_iadd hx hb dL_867 ?_
  refine va_sld hx hb hX hbl hbA hw.2.2.2.1 (idx_in (L := L) (j := j) (k := 1) 1 rfl (by decide) hL hj) dL_868 ?_
  refine e_mcvi (As := [.int (xs (nI (6 * j) + 1).toNatClampNeg)]) (rest := [.int r]) hc hw law_room (hml.trans hl.1.symm) (cm_lawful l 2000 M (xs (nI (6 * j) + 1).toNatClampNeg) r hf2) (⟨⟨(mem_g 1528 (by decide +kernel) rfl), (mem_g 1529 (by decide +kernel) rfl), (mem_g 1530 (by decide +kernel) rfl), (mem_g 89 (by decide +kernel) rfl), (mem_g 1531 (by decide +kernel) rfl)⟩, by decide, by decide +kernel, by decide⟩ : qCv R_law 95 yX12_lawful cX12_lawful 3 (some .int) 1) rfl (by decide) rfl rfl rfl (Nat.le_of_ble_eq_true rfl) dL_869 (fun H locs hw => ?_) ⟨by omega, by omega⟩
  have hw := xJ_perm List.perm_append_comm hw
  refine lv_icmp_eq (tgt := 1641) hx hb dL_872 (by decide) (fun _ => ?_) (fun cn => absurd rfl cn)
  exact kx g X M H locs ls hR hw hl
set_option maxRecDepth 100000 in
theorem lc_judge {p : Program} {l : Launch} {e : Env} {s : State} {m : MethodId} {below : List Frame} {meth : Method} {c : Code} {Q : State → Prop} {cells slots b L j : Nat} {xs : Nat → Int32} {g : xG} {ρ : Nat → Nat} {X : xS} {M : mS} {A : Nat → Prop} {H : Heap} {locs : List Loc} {ls : Array Slot} (hc : qC R_law code p s m #[Value.ref b] c) (hml : c.maxLocals = 4) (hX : va_X b L xs s s.heap) (hbl : b < s.heap.size) (hbA : ¬ A b) (hL : L ≤ 384) (hj : 6 * j + 6 ≤ L) (hR : Rl X M) (hw : xJ g A s.heap s (mW (mgX g ρ) M ++ xW g X) H locs) (hl : lv_has ls 4 [(0, .ref b), (1, .ref (xr g 0)), (2, .ref (ρ 0)), (3, .int (nI (6 * j)))]) (hcs : cells + 4 ≤ 600000 ∧ slots + 198 ≤ 7302250) (kx : ∀ (g : xG) (X : xS) (M : mS) (H : Heap) (locs : List Loc) (ls : Array Slot), Rl X M → xJ g A s.heap s (mW (mgX g ρ) M ++ xW g X) H locs → lv_has ls 4 [(0, .ref b), (1, .ref (xr g 0)), (2, .ref (ρ 0)), (3, .int (nI (6 * j)))] → W p l e room_1 s m #[Value.ref b] below meth c H locs (cells + 4) (slots + 198) Q (F0 m 1641 ls [])) : W p l e room_1 s m #[Value.ref b] below meth c H locs cells slots Q (F0 m 877 ls []) := by
  have hx := hc.1
  have hb := hc.2.1
  have hc1 : cells + 4 ≤ room_1.cells := hcs.1
  have hc2 : slots + 198 ≤ room_1.slots := hcs.2
  refine lv_aload_n hx hb dL_877 rfl (lv_at hl 1 rfl) ?_
  refine lv_aload_n hx hb dL_878 rfl (lv_at hl 0 rfl) ?_
  refine lv_iload_n hx hb dL_879 rfl (lv_at hl 3 rfl) ?_
  refine lv_iconst (v := 1) hx hb dL_880 (by decide) ?_
  refine lv_iadd hx hb dL_881 ?_
  refine va_sld hx hb hX hbl hbA hw.2.2.2.1 (idx_in (L := L) (j := j) (k := 1) 1 rfl (by decide) hL hj) dL_882 ?_
  obtain ⟨r, X1, M1, hf1, hf2, hR1⟩ := st_judge (Nat.le_refl 2000) hR (xs (nI (6 * j) + 1).toNatClampNeg)
  refine e_xcvi (As := [.int (xs (nI (6 * j) + 1).toNatClampNeg)]) (rest := []) hc hw law_room (hml.trans hl.1.symm) (cx_X_judge l 2000 X (xs (nI (6 * j) + 1).toNatClampNeg) r X1 hf1) (⟨⟨(mem_g 928 (by decide +kernel) rfl), (mem_g 929 (by decide +kernel) rfl), (mem_g 930 (by decide +kernel) rfl), (mem_g 77 (by decide +kernel) rfl), (mem_g 931 (by decide +kernel) rfl)⟩, by decide, by decide +kernel, by decide⟩ : qCv R_law 96 yX11_judge cX11_judge 4 (some .int) 1) (x_recv_this (xJ_I (xJ_post hw))) (by decide) rfl rfl rfl (Nat.le_of_ble_eq_true rfl) dL_883 (fun H locs hw => ?_) ⟨by omega, by omega⟩
  refine W.widen (k := cells + 4) (n := slots + 198) (by omega) (by omega) ?_
  have hw := xJ_perm List.perm_append_comm hw
  refine lv_aload_n hx hb dL_886 rfl (lv_at hl 2 rfl) ?_
  refine lv_aload_n hx hb dL_887 rfl (lv_at hl 0 rfl) ?_
  refine lv_iload_n hx hb dL_888 rfl (lv_at hl 3 rfl) ?_
  refine lv_iconst (v := 1) hx hb dL_889 (by decide) ?_
  refine lv_iadd hx hb dL_890 ?_
  refine va_sld hx hb hX hbl hbA hw.2.2.2.1 (idx_in (L := L) (j := j) (k := 1) 1 rfl (by decide) hL hj) dL_891 ?_
  refine e_mcvi (As := [.int (xs (nI (6 * j) + 1).toNatClampNeg)]) (rest := [.int r]) hc hw law_room (hml.trans hl.1.symm) (cm_judge l 2000 M (xs (nI (6 * j) + 1).toNatClampNeg) r M1 hf2) (⟨⟨(mem_g 1532 (by decide +kernel) rfl), (mem_g 1533 (by decide +kernel) rfl), (mem_g 1534 (by decide +kernel) rfl), (mem_g 89 (by decide +kernel) rfl), (mem_g 1535 (by decide +kernel) rfl)⟩, by decide, by decide +kernel, by decide⟩ : qCv R_law 99 yX12_judge cX12_judge 5 (some .int) 1) rfl (by decide) rfl rfl rfl (Nat.le_of_ble_eq_true rfl) dL_892 (fun H locs hw => ?_) ⟨by omega, by omega⟩
  have hw := xJ_perm List.perm_append_comm hw
  refine lv_icmp_eq (tgt := 1641) hx hb dL_895 (by decide) (fun _ => ?_) (fun cn => absurd rfl cn)
  exact kx g X1 M1 H locs ls hR1 hw hl
set_option maxRecDepth 100000 in
theorem lc_chance {p : Program} {l : Launch} {e : Env} {s : State} {m : MethodId} {below : List Frame} {meth : Method} {c : Code} {Q : State → Prop} {cells slots b L j : Nat} {xs : Nat → Int32} {g : xG} {ρ : Nat → Nat} {X : xS} {M : mS} {A : Nat → Prop} {H : Heap} {locs : List Loc} {ls : Array Slot} (hc : qC R_law code p s m #[Value.ref b] c) (hml : c.maxLocals = 4) (hX : va_X b L xs s s.heap) (hbl : b < s.heap.size) (hbA : ¬ A b) (hL : L ≤ 384) (hj : 6 * j + 6 ≤ L) (hR : Rl X M) (hw : xJ g A s.heap s (mW (mgX g ρ) M ++ xW g X) H locs) (hl : lv_has ls 4 [(0, .ref b), (1, .ref (xr g 0)), (2, .ref (ρ 0)), (3, .int (nI (6 * j)))]) (hcs : cells + 4 ≤ 600000 ∧ slots + 198 ≤ 7302250) (kx : ∀ (g : xG) (X : xS) (M : mS) (H : Heap) (locs : List Loc) (ls : Array Slot), Rl X M → xJ g A s.heap s (mW (mgX g ρ) M ++ xW g X) H locs → lv_has ls 4 [(0, .ref b), (1, .ref (xr g 0)), (2, .ref (ρ 0)), (3, .int (nI (6 * j)))] → W p l e room_1 s m #[Value.ref b] below meth c H locs (cells + 4) (slots + 198) Q (F0 m 1641 ls [])) : W p l e room_1 s m #[Value.ref b] below meth c H locs cells slots Q (F0 m 900 ls []) := by
  have hx := hc.1
  have hb := hc.2.1
  have hc1 : cells + 4 ≤ room_1.cells := hcs.1
  have hc2 : slots + 198 ≤ room_1.slots := hcs.2
  refine lv_aload_n hx hb dL_900 rfl (lv_at hl 1 rfl) ?_
  refine lv_aload_n hx hb dL_901 rfl (lv_at hl 0 rfl) ?_
  refine lv_iload_n hx hb dL_902 rfl (lv_at hl 3 rfl) ?_
  refine lv_iconst (v := 1) hx hb dL_903 (by decide) ?_
  refine lv_iadd hx hb dL_904 ?_
  refine va_sld hx hb hX hbl hbA hw.2.2.2.1 (idx_in (L := L) (j := j) (k := 1) 1 rfl (by decide) hL hj) dL_905 ?_
  refine lv_aload_n hx hb dL_906 rfl (lv_at hl 0 rfl) ?_
  refine lv_iload_n hx hb dL_907 rfl (lv_at hl 3 rfl) ?_
  refine lv_iconst (v := 2) hx hb dL_908 (by decide) ?_
  refine lv_iadd hx hb dL_909 ?_
  refine va_sld hx hb hX hbl hbA hw.2.2.2.1 (idx_in (L := L) (j := j) (k := 2) 2 rfl (by decide) hL hj) dL_910 ?_
  refine lv_aload_n hx hb dL_911 rfl (lv_at hl 0 rfl) ?_
  refine lv_iload_n hx hb dL_912 rfl (lv_at hl 3 rfl) ?_
  refine lv_iconst (v := 3) hx hb dL_913 (by decide) ?_
  refine lv_iadd hx hb dL_914 ?_
  refine va_sld hx hb hX hbl hbA hw.2.2.2.1 (idx_in (L := L) (j := j) (k := 3) 3 rfl (by decide) hL hj) dL_915 ?_
  refine lv_aload_n hx hb dL_916 rfl (lv_at hl 0 rfl) ?_
  refine lv_iload_n hx hb dL_917 rfl (lv_at hl 3 rfl) ?_
  refine lv_iconst (v := 4) hx hb dL_918 (by decide) ?_
  refine lv_iadd hx hb dL_919 ?_
  refine va_sld hx hb hX hbl hbA hw.2.2.2.1 (idx_in (L := L) (j := j) (k := 4) 4 rfl (by decide) hL hj) dL_920 ?_
  obtain ⟨r, X1, M1, hf1, hf2, hR1⟩ := st_chance (Nat.le_refl 2000) hR (xs (nI (6 * j) + 1).toNatClampNeg) (xs (nI (6 * j) + 2).toNatClampNeg) (xs (nI (6 * j) + 3).toNatClampNeg) (xs (nI (6 * j) + 4).toNatClampNeg)
  refine e_xcvl (As := [.int (xs (nI (6 * j) + 1).toNatClampNeg), .int (xs (nI (6 * j) + 2).toNatClampNeg), .int (xs (nI (6 * j) + 3).toNatClampNeg), .int (xs (nI (6 * j) + 4).toNatClampNeg)]) (rest := []) hc hw law_room (hml.trans hl.1.symm) (cx_X_chance l 2000 X (xs (nI (6 * j) + 1).toNatClampNeg) (xs (nI (6 * j) + 2).toNatClampNeg) (xs (nI (6 * j) + 3).toNatClampNeg) (xs (nI (6 * j) + 4).toNatClampNeg) r X1 hf1) (⟨⟨(mem_g 952 (by decide +kernel) rfl), (mem_g 953 (by decide +kernel) rfl), (mem_g 954 (by decide +kernel) rfl), (mem_g 77 (by decide +kernel) rfl), (mem_g 955 (by decide +kernel) rfl)⟩, by decide, by decide +kernel, by decide⟩ : qCv R_law 100 yX11_chance cX11_chance 6 (some .long) 4) (x_recv_this (xJ_I (xJ_post hw))) (by decide) rfl rfl rfl (Nat.le_of_ble_eq_true rfl) dL_921 (fun H locs hw => ?_) ⟨by omega, by omega⟩
  refine W.widen (k := cells + 4) (n := slots + 198) (by omega) (by omega) ?_
  have hw := xJ_perm List.perm_append_comm hw
  refine lv_aload_n hx hb dL_924 rfl (lv_at hl 2 rfl) ?_
  refine lv_aload_n hx hb dL_925 rfl (lv_at hl 0 rfl) ?_
  refine lv_iload_n hx hb dL_926 rfl (lv_at hl 3 rfl) ?_
  refine lv_iconst (v := 1) hx hb dL_927 (by decide) ?_
  refine lv_iadd hx hb dL_928 ?_
  refine va_sld hx hb hX hbl hbA hw.2.2.2.1 (idx_in (L := L) (j := j) (k := 1) 1 rfl (by decide) hL hj) dL_929 ?_
  refine lv_aload_n hx hb dL_930 rfl (lv_at hl 0 rfl) ?_
  refine lv_iload_n hx hb dL_931 rfl (lv_at hl 3 rfl) ?_
  refine lv_iconst (v := 2) hx hb dL_932 (by decide) ?_
  refine lv_iadd hx hb dL_933 ?_
  refine va_sld hx hb hX hbl hbA hw.2.2.2.1 (idx_in (L := L) (j := j) (k := 2) 2 rfl (by decide) hL hj) dL_934 ?_
  refine lv_aload_n hx hb dL_935 rfl (lv_at hl 0 rfl) ?_
  refine lv_iload_n hx hb dL_936 rfl (lv_at hl 3 rfl) ?_
  refine lv_iconst (v := 3) hx hb dL_937 (by decide) ?_
  refine lv_iadd hx hb dL_938 ?_
  refine va_sld hx hb hX hbl hbA hw.2.2.2.1 (idx_in (L := L) (j := j) (k := 3) 3 rfl (by decide) hL hj) dL_939 ?_
  refine lv_aload_n hx hb dL_940 rfl (lv_at hl 0 rfl) ?_
  refine lv_iload_n hx hb dL_941 rfl (lv_at hl 3 rfl) ?_
  refine lv_iconst (v := 4) hx hb dL_942 (by decide) ?_
  refine lv_iadd hx hb dL_943 ?_
  refine va_sld hx hb hX hbl hbA hw.2.2.2.1 (idx_in (L := L) (j := j) (k := 4) 4 rfl (by decide) hL hj) dL_944 ?_
  refine e_mcvl (As := [.int (xs (nI (6 * j) + 1).toNatClampNeg), .int (xs (nI (6 * j) + 2).toNatClampNeg), .int (xs (nI (6 * j) + 3).toNatClampNeg), .int (xs (nI (6 * j) + 4).toNatClampNeg)]) (rest := [.long r]) hc hw law_room (hml.trans hl.1.symm) (cm_chance l 2000 M (xs (nI (6 * j) + 1).toNatClampNeg) (xs (nI (6 * j) + 2).toNatClampNeg) (xs (nI (6 * j) + 3).toNatClampNeg) (xs (nI (6 * j) + 4).toNatClampNeg) r M1 hf2) (⟨⟨(mem_g 1548 (by decide +kernel) rfl), (mem_g 1549 (by decide +kernel) rfl), (mem_g 1550 (by decide +kernel) rfl), (mem_g 89 (by decide +kernel) rfl), (mem_g 1551 (by decide +kernel) rfl)⟩, by decide, by decide +kernel, by decide⟩ : qCv R_law 104 yX12_chance cX12_chance 5 (some .long) 4) rfl (by decide) rfl rfl rfl (Nat.le_of_ble_eq_true rfl) dL_945 (fun H locs hw => ?_) ⟨by omega, by omega⟩
  have hw := xJ_perm List.perm_append_comm hw
  refine W.lcmp hx hb dL_948 ?_
  refine lv_if_eq (tgt := 1641) hx hb dL_949 (by decide) (fun _ => ?_) (fun cn => absurd ((lg_cmp_eq r r).mpr rfl) cn)
  exact kx g X1 M1 H locs ls hR1 hw hl
set_option maxRecDepth 100000 in
theorem lc_mean {p : Program} {l : Launch} {e : Env} {s : State} {m : MethodId} {below : List Frame} {meth : Method} {c : Code} {Q : State → Prop} {cells slots b L j : Nat} {xs : Nat → Int32} {g : xG} {ρ : Nat → Nat} {X : xS} {M : mS} {A : Nat → Prop} {H : Heap} {locs : List Loc} {ls : Array Slot} (hc : qC R_law code p s m #[Value.ref b] c) (hml : c.maxLocals = 4) (hX : va_X b L xs s s.heap) (hbl : b < s.heap.size) (hbA : ¬ A b) (hL : L ≤ 384) (hj : 6 * j + 6 ≤ L) (hR : Rl X M) (hw : xJ g A s.heap s (mW (mgX g ρ) M ++ xW g X) H locs) (hl : lv_has ls 4 [(0, .ref b), (1, .ref (xr g 0)), (2, .ref (ρ 0)), (3, .int (nI (6 * j)))]) (hcs : cells + 4 ≤ 600000 ∧ slots + 198 ≤ 7302250) (kx : ∀ (g : xG) (X : xS) (M : mS) (H : Heap) (locs : List Loc) (ls : Array Slot), Rl X M → xJ g A s.heap s (mW (mgX g ρ) M ++ xW g X) H locs → lv_has ls 4 [(0, .ref b), (1, .ref (xr g 0)), (2, .ref (ρ 0)), (3, .int (nI (6 * j)))] → W p l e room_1 s m #[Value.ref b] below meth c H locs (cells + 4) (slots + 198) Q (F0 m 1641 ls [])) : W p l e room_1 s m #[Value.ref b] below meth c H locs cells slots Q (F0 m 954 ls []) := by
  have hx := hc.1
  have hb := hc.2.1
  have hc1 : cells + 4 ≤ room_1.cells := hcs.1
  have hc2 : slots + 198 ≤ room_1.slots := hcs.2
  refine lv_aload_n hx hb dL_954 rfl (lv_at hl 1 rfl) ?_
  refine lv_aload_n hx hb dL_955 rfl (lv_at hl 0 rfl) ?_
  refine lv_iload_n hx hb dL_956 rfl (lv_at hl 3 rfl) ?_
  refine lv_iconst (v := 1) hx hb dL_957 (by decide) ?_
  refine lv_iadd hx hb dL_958 ?_
  refine va_sld hx hb hX hbl hbA hw.2.2.2.1 (idx_in (L := L) (j := j) (k := 1) 1 rfl (by decide) hL hj) dL_959 ?_
  refine lv_aload_n hx hb dL_960 rfl (lv_at hl 0 rfl) ?_
  refine lv_iload_n hx hb dL_961 rfl (lv_at hl 3 rfl) ?_
  refine lv_iconst (v := 2) hx hb dL_962 (by decide) ?_
  refine lv_iadd hx hb dL_963 ?_
  refine va_sld hx hb hX hbl hbA hw.2.2.2.1 (idx_in (L := L) (j := j) (k := 2) 2 rfl (by decide) hL hj) dL_964 ?_
  refine lv_aload_n hx hb dL_965 rfl (lv_at hl 0 rfl) ?_
  refine lv_iload_n hx hb dL_966 rfl (lv_at hl 3 rfl) ?_
  refine lv_iconst (v := 3) hx hb dL_967 (by decide) ?_
  refine lv_iadd hx hb dL_968 ?_
  refine va_sld hx hb hX hbl hbA hw.2.2.2.1 (idx_in (L := L) (j := j) (k := 3) 3 rfl (by decide) hL hj) dL_969 ?_
  obtain ⟨r, X1, M1, hf1, hf2, hR1⟩ := st_mean (Nat.le_refl 2000) hR (xs (nI (6 * j) + 1).toNatClampNeg) (xs (nI (6 * j) + 2).toNatClampNeg) (xs (nI (6 * j) + 3).toNatClampNeg)
  refine e_xcvl (As := [.int (xs (nI (6 * j) + 1).toNatClampNeg), .int (xs (nI (6 * j) + 2).toNatClampNeg), .int (xs (nI (6 * j) + 3).toNatClampNeg)]) (rest := []) hc hw law_room (hml.trans hl.1.symm) (cx_X_mean l 2000 X (xs (nI (6 * j) + 1).toNatClampNeg) (xs (nI (6 * j) + 2).toNatClampNeg) (xs (nI (6 * j) + 3).toNatClampNeg) r X1 hf1) (⟨⟨(mem_g 979 (by decide +kernel) rfl), (mem_g 980 (by decide +kernel) rfl), (mem_g 981 (by decide +kernel) rfl), (mem_g 77 (by decide +kernel) rfl), (mem_g 982 (by decide +kernel) rfl)⟩, by decide, by decide +kernel, by decide⟩ : qCv R_law 105 yX11_mean cX11_mean 16 (some .long) 3) (x_recv_this (xJ_I (xJ_post hw))) (by decide) rfl rfl rfl (Nat.le_of_ble_eq_true rfl) dL_970 (fun H locs hw => ?_) ⟨by omega, by omega⟩
  refine W.widen (k := cells + 4) (n := slots + 198) (by omega) (by omega) ?_
  have hw := xJ_perm List.perm_append_comm hw
  refine lv_aload_n hx hb dL_973 rfl (lv_at hl 2 rfl) ?_
  refine lv_aload_n hx hb dL_974 rfl (lv_at hl 0 rfl) ?_
  refine lv_iload_n hx hb dL_975 rfl (lv_at hl 3 rfl) ?_
  refine lv_iconst (v := 1) hx hb dL_976 (by decide) ?_
  refine lv_iadd hx hb dL_977 ?_
  refine va_sld hx hb hX hbl hbA hw.2.2.2.1 (idx_in (L := L) (j := j) (k := 1) 1 rfl (by decide) hL hj) dL_978 ?_
  refine lv_aload_n hx hb dL_979 rfl (lv_at hl 0 rfl) ?_
  refine lv_iload_n hx hb dL_980 rfl (lv_at hl 3 rfl) ?_
  refine lv_iconst (v := 2) hx hb dL_981 (by decide) ?_
  refine lv_iadd hx hb dL_982 ?_
  refine va_sld hx hb hX hbl hbA hw.2.2.2.1 (idx_in (L := L) (j := j) (k := 2) 2 rfl (by decide) hL hj) dL_983 ?_
  refine lv_aload_n hx hb dL_984 rfl (lv_at hl 0 rfl) ?_
  refine lv_iload_n hx hb dL_985 rfl (lv_at hl 3 rfl) ?_
  refine lv_iconst (v := 3) hx hb dL_986 (by decide) ?_
  refine lv_iadd hx hb dL_987 ?_
  refine va_sld hx hb hX hbl hbA hw.2.2.2.1 (idx_in (L := L) (j := j) (k := 3) 3 rfl (by decide) hL hj) dL_988 ?_
  refine e_mcvl (As := [.int (xs (nI (6 * j) + 1).toNatClampNeg), .int (xs (nI (6 * j) + 2).toNatClampNeg), .int (xs (nI (6 * j) + 3).toNatClampNeg)]) (rest := [.long r]) hc hw law_room (hml.trans hl.1.symm) (cm_mean l 2000 M (xs (nI (6 * j) + 1).toNatClampNeg) (xs (nI (6 * j) + 2).toNatClampNeg) (xs (nI (6 * j) + 3).toNatClampNeg) r M1 hf2) (⟨⟨(mem_g 1567 (by decide +kernel) rfl), (mem_g 1568 (by decide +kernel) rfl), (mem_g 1569 (by decide +kernel) rfl), (mem_g 89 (by decide +kernel) rfl), (mem_g 1570 (by decide +kernel) rfl)⟩, by decide, by decide +kernel, by decide⟩ : qCv R_law 109 yX12_mean cX12_mean 8 (some .long) 3) rfl (by decide) rfl rfl rfl (Nat.le_of_ble_eq_true rfl) dL_989 (fun H locs hw => ?_) ⟨by omega, by omega⟩
  have hw := xJ_perm List.perm_append_comm hw
  refine W.lcmp hx hb dL_992 ?_
  refine lv_if_eq (tgt := 1641) hx hb dL_993 (by decide) (fun _ => ?_) (fun cn => absurd ((lg_cmp_eq r r).mpr rfl) cn)
  exact kx g X1 M1 H locs ls hR1 hw hl
set_option maxRecDepth 100000 in
theorem lc_tall {p : Program} {l : Launch} {e : Env} {s : State} {m : MethodId} {below : List Frame} {meth : Method} {c : Code} {Q : State → Prop} {cells slots b L j : Nat} {xs : Nat → Int32} {g : xG} {ρ : Nat → Nat} {X : xS} {M : mS} {A : Nat → Prop} {H : Heap} {locs : List Loc} {ls : Array Slot} (hc : qC R_law code p s m #[Value.ref b] c) (hml : c.maxLocals = 4) (hX : va_X b L xs s s.heap) (hbl : b < s.heap.size) (hbA : ¬ A b) (hL : L ≤ 384) (hj : 6 * j + 6 ≤ L) (hR : Rl X M) (hw : xJ g A s.heap s (mW (mgX g ρ) M ++ xW g X) H locs) (hl : lv_has ls 4 [(0, .ref b), (1, .ref (xr g 0)), (2, .ref (ρ 0)), (3, .int (nI (6 * j)))]) (hcs : cells + 4 ≤ 600000 ∧ slots + 198 ≤ 7302250) (kx : ∀ (g : xG) (X : xS) (M : mS) (H : Heap) (locs : List Loc) (ls : Array Slot), Rl X M → xJ g A s.heap s (mW (mgX g ρ) M ++ xW g X) H locs → lv_has ls 4 [(0, .ref b), (1, .ref (xr g 0)), (2, .ref (ρ 0)), (3, .int (nI (6 * j)))] → W p l e room_1 s m #[Value.ref b] below meth c H locs (cells + 4) (slots + 198) Q (F0 m 1641 ls [])) : W p l e room_1 s m #[Value.ref b] below meth c H locs cells slots Q (F0 m 998 ls []) := by
  have hx := hc.1
  have hb := hc.2.1
  have hc1 : cells + 4 ≤ room_1.cells := hcs.1
  have hc2 : slots + 198 ≤ room_1.slots := hcs.2
  refine lv_aload_n hx hb dL_998 rfl (lv_at hl 1 rfl) ?_
  refine lv_aload_n hx hb dL_999 rfl (lv_at hl 0 rfl) ?_
  refine lv_iload_n hx hb dL_1000 rfl (lv_at hl 3 rfl) ?_
  refine lv_iconst (v := 1) hx hb dL_1001 (by decide) ?_
  refine lv_iadd hx hb dL_1002 ?_
  refine va_sld hx hb hX hbl hbA hw.2.2.2.1 (idx_in (L := L) (j := j) (k := 1) 1 rfl (by decide) hL hj) dL_1003 ?_
  obtain ⟨r, X1, M1, hf1, hf2, hR1⟩ := st_tall (Nat.le_refl 2000) hR (xs (nI (6 * j) + 1).toNatClampNeg)
  refine e_xcvi (As := [.int (xs (nI (6 * j) + 1).toNatClampNeg)]) (rest := []) hc hw law_room (hml.trans hl.1.symm) (cx_X_tall l 2000 X (xs (nI (6 * j) + 1).toNatClampNeg) r X1 hf1) (⟨⟨(mem_g 985 (by decide +kernel) rfl), (mem_g 986 (by decide +kernel) rfl), (mem_g 987 (by decide +kernel) rfl), (mem_g 77 (by decide +kernel) rfl), (mem_g 988 (by decide +kernel) rfl)⟩, by decide, by decide +kernel, by decide⟩ : qCv R_law 110 yX11_tall cX11_tall 3 (some .int) 1) (x_recv_this (xJ_I (xJ_post hw))) (by decide) rfl rfl rfl (Nat.le_of_ble_eq_true rfl) dL_1004 (fun H locs hw => ?_) ⟨by omega, by omega⟩
  refine W.widen (k := cells + 4) (n := slots + 198) (by omega) (by omega) ?_
  have hw := xJ_perm List.perm_append_comm hw
  refine lv_aload_n hx hb dL_1007 rfl (lv_at hl 2 rfl) ?_
  refine lv_aload_n hx hb dL_1008 rfl (lv_at hl 0 rfl) ?_
  refine lv_iload_n hx hb dL_1009 rfl (lv_at hl 3 rfl) ?_
  refine lv_iconst (v := 1) hx hb dL_1010 (by decide) ?_
  refine lv_iadd hx hb dL_1011 ?_
  refine va_sld hx hb hX hbl hbA hw.2.2.2.1 (idx_in (L := L) (j := j) (k := 1) 1 rfl (by decide) hL hj) dL_1012 ?_
  refine e_mcvi (As := [.int (xs (nI (6 * j) + 1).toNatClampNeg)]) (rest := [.int r]) hc hw law_room (hml.trans hl.1.symm) (cm_tall l 2000 M (xs (nI (6 * j) + 1).toNatClampNeg) r M1 hf2) (⟨⟨(mem_g 1571 (by decide +kernel) rfl), (mem_g 1572 (by decide +kernel) rfl), (mem_g 1573 (by decide +kernel) rfl), (mem_g 89 (by decide +kernel) rfl), (mem_g 1574 (by decide +kernel) rfl)⟩, by decide, by decide +kernel, by decide⟩ : qCv R_law 113 yX12_tall cX12_tall 3 (some .int) 1) rfl (by decide) rfl rfl rfl (Nat.le_of_ble_eq_true rfl) dL_1013 (fun H locs hw => ?_) ⟨by omega, by omega⟩
  have hw := xJ_perm List.perm_append_comm hw
  refine lv_icmp_eq (tgt := 1641) hx hb dL_1016 (by decide) (fun _ => ?_) (fun cn => absurd rfl cn)
  exact kx g X1 M1 H locs ls hR1 hw hl
set_option maxRecDepth 100000 in
theorem lc_needs {p : Program} {l : Launch} {e : Env} {s : State} {m : MethodId} {below : List Frame} {meth : Method} {c : Code} {Q : State → Prop} {cells slots b L j : Nat} {xs : Nat → Int32} {g : xG} {ρ : Nat → Nat} {X : xS} {M : mS} {A : Nat → Prop} {H : Heap} {locs : List Loc} {ls : Array Slot} (hc : qC R_law code p s m #[Value.ref b] c) (hml : c.maxLocals = 4) (hX : va_X b L xs s s.heap) (hbl : b < s.heap.size) (hbA : ¬ A b) (hL : L ≤ 384) (hj : 6 * j + 6 ≤ L) (hR : Rl X M) (hw : xJ g A s.heap s (mW (mgX g ρ) M ++ xW g X) H locs) (hl : lv_has ls 4 [(0, .ref b), (1, .ref (xr g 0)), (2, .ref (ρ 0)), (3, .int (nI (6 * j)))]) (hcs : cells + 4 ≤ 600000 ∧ slots + 198 ≤ 7302250) (kx : ∀ (g : xG) (X : xS) (M : mS) (H : Heap) (locs : List Loc) (ls : Array Slot), Rl X M → xJ g A s.heap s (mW (mgX g ρ) M ++ xW g X) H locs → lv_has ls 4 [(0, .ref b), (1, .ref (xr g 0)), (2, .ref (ρ 0)), (3, .int (nI (6 * j)))] → W p l e room_1 s m #[Value.ref b] below meth c H locs (cells + 4) (slots + 198) Q (F0 m 1641 ls [])) : W p l e room_1 s m #[Value.ref b] below meth c H locs cells slots Q (F0 m 1021 ls []) := by
  have hx := hc.1
  have hb := hc.2.1
  have hc1 : cells + 4 ≤ room_1.cells := hcs.1
  have hc2 : slots + 198 ≤ room_1.slots := hcs.2
  refine lv_aload_n hx hb dL_1021 rfl (lv_at hl 1 rfl) ?_
  refine lv_aload_n hx hb dL_1022 rfl (lv_at hl 0 rfl) ?_
  refine lv_iload_n hx hb dL_1023 rfl (lv_at hl 3 rfl) ?_
  refine lv_iconst (v := 1) hx hb dL_1024 (by decide) ?_
  refine lv_iadd hx hb dL_1025 ?_
  refine va_sld hx hb hX hbl hbA hw.2.2.2.1 (idx_in (L := L) (j := j) (k := 1) 1 rfl (by decide) hL hj) dL_1026 ?_
  obtain ⟨r, X1, M1, hf1, hf2, hR1⟩ := st_needs (Nat.le_refl 2000) hR (xs (nI (6 * j) + 1).toNatClampNeg)
  refine e_xcvi (As := [.int (xs (nI (6 * j) + 1).toNatClampNeg)]) (rest := []) hc hw law_room (hml.trans hl.1.symm) (cx_X_needs l 2000 X (xs (nI (6 * j) + 1).toNatClampNeg) r X1 hf1) (⟨⟨(mem_g 989 (by decide +kernel) rfl), (mem_g 990 (by decide +kernel) rfl), (mem_g 991 (by decide +kernel) rfl), (mem_g 77 (by decide +kernel) rfl), (mem_g 992 (by decide +kernel) rfl)⟩, by decide, by decide +kernel, by decide⟩ : qCv R_law 114 yX11_needs cX11_needs 3 (some .int) 1) (x_recv_this (xJ_I (xJ_post hw))) (by decide) rfl rfl rfl (Nat.le_of_ble_eq_true rfl) dL_1027 (fun H locs hw => ?_) ⟨by omega, by omega⟩
  refine W.widen (k := cells + 4) (n := slots + 198) (by omega) (by omega) ?_
  have hw := xJ_perm List.perm_append_comm hw
  refine lv_aload_n hx hb dL_1030 rfl (lv_at hl 2 rfl) ?_
  refine lv_aload_n hx hb dL_1031 rfl (lv_at hl 0 rfl) ?_
  refine lv_iload_n hx hb dL_1032 rfl (lv_at hl 3 rfl) ?_
  refine lv_iconst (v := 1) hx hb dL_1033 (by decide) ?_
  refine lv_iadd hx hb dL_1034 ?_
  refine va_sld hx hb hX hbl hbA hw.2.2.2.1 (idx_in (L := L) (j := j) (k := 1) 1 rfl (by decide) hL hj) dL_1035 ?_
  refine e_mcvi (As := [.int (xs (nI (6 * j) + 1).toNatClampNeg)]) (rest := [.int r]) hc hw law_room (hml.trans hl.1.symm) (cm_needs l 2000 M (xs (nI (6 * j) + 1).toNatClampNeg) r M1 hf2) (⟨⟨(mem_g 1587 (by decide +kernel) rfl), (mem_g 1588 (by decide +kernel) rfl), (mem_g 1589 (by decide +kernel) rfl), (mem_g 89 (by decide +kernel) rfl), (mem_g 1590 (by decide +kernel) rfl)⟩, by decide, by decide +kernel, by decide⟩ : qCv R_law 117 yX12_needs cX12_needs 3 (some .int) 1) rfl (by decide) rfl rfl rfl (Nat.le_of_ble_eq_true rfl) dL_1036 (fun H locs hw => ?_) ⟨by omega, by omega⟩
  have hw := xJ_perm List.perm_append_comm hw
  refine lv_icmp_eq (tgt := 1641) hx hb dL_1039 (by decide) (fun _ => ?_) (fun cn => absurd rfl cn)
  exact kx g X1 M1 H locs ls hR1 hw hl
set_option maxRecDepth 100000 in
theorem lc_proof {p : Program} {l : Launch} {e : Env} {s : State} {m : MethodId} {below : List Frame} {meth : Method} {c : Code} {Q : State → Prop} {cells slots b L j : Nat} {xs : Nat → Int32} {g : xG} {ρ : Nat → Nat} {X : xS} {M : mS} {A : Nat → Prop} {H : Heap} {locs : List Loc} {ls : Array Slot} (hc : qC R_law code p s m #[Value.ref b] c) (hml : c.maxLocals = 4) (hX : va_X b L xs s s.heap) (hbl : b < s.heap.size) (hbA : ¬ A b) (hL : L ≤ 384) (hj : 6 * j + 6 ≤ L) (hR : Rl X M) (hw : xJ g A s.heap s (mW (mgX g ρ) M ++ xW g X) H locs) (hl : lv_has ls 4 [(0, .ref b), (1, .ref (xr g 0)), (2, .ref (ρ 0)), (3, .int (nI (6 * j)))]) (hcs : cells + 4 ≤ 600000 ∧ slots + 198 ≤ 7302250) (kx : ∀ (g : xG) (X : xS) (M : mS) (H : Heap) (locs : List Loc) (ls : Array Slot), Rl X M → xJ g A s.heap s (mW (mgX g ρ) M ++ xW g X) H locs → lv_has ls 4 [(0, .ref b), (1, .ref (xr g 0)), (2, .ref (ρ 0)), (3, .int (nI (6 * j)))] → W p l e room_1 s m #[Value.ref b] below meth c H locs (cells + 4) (slots + 198) Q (F0 m 1641 ls [])) : W p l e room_1 s m #[Value.ref b] below meth c H locs cells slots Q (F0 m 1044 ls []) := by
  have hx := hc.1
  have hb := hc.2.1
  have hc1 : cells + 4 ≤ room_1.cells := hcs.1
  have hc2 : slots + 198 ≤ room_1.slots := hcs.2
  refine lv_aload_n hx hb dL_1044 rfl (lv_at hl 1 rfl) ?_
  refine lv_aload_n hx hb dL_1045 rfl (lv_at hl 0 rfl) ?_
  refine lv_iload_n hx hb dL_1046 rfl (lv_at hl 3 rfl) ?_
  refine lv_iconst (v := 1) hx hb dL_1047 (by decide) ?_
  refine lv_iadd hx hb dL_1048 ?_
  refine va_sld hx hb hX hbl hbA hw.2.2.2.1 (idx_in (L := L) (j := j) (k := 1) 1 rfl (by decide) hL hj) dL_1049 ?_
  obtain ⟨r, X1, M1, hf1, hf2, hR1⟩ := st_proof (Nat.le_refl 2000) hR (xs (nI (6 * j) + 1).toNatClampNeg)
  refine e_xcvi (As := [.int (xs (nI (6 * j) + 1).toNatClampNeg)]) (rest := []) hc hw law_room (hml.trans hl.1.symm) (cx_X_proof l 2000 X (xs (nI (6 * j) + 1).toNatClampNeg) r X1 hf1) (⟨⟨(mem_g 997 (by decide +kernel) rfl), (mem_g 998 (by decide +kernel) rfl), (mem_g 999 (by decide +kernel) rfl), (mem_g 77 (by decide +kernel) rfl), (mem_g 1000 (by decide +kernel) rfl)⟩, by decide, by decide +kernel, by decide⟩ : qCv R_law 118 yX11_proof cX11_proof 4 (some .int) 1) (x_recv_this (xJ_I (xJ_post hw))) (by decide) rfl rfl rfl (Nat.le_of_ble_eq_true rfl) dL_1050 (fun H locs hw => ?_) ⟨by omega, by omega⟩
  refine W.widen (k := cells + 4) (n := slots + 198) (by omega) (by omega) ?_
  have hw := xJ_perm List.perm_append_comm hw
  refine lv_aload_n hx hb dL_1053 rfl (lv_at hl 2 rfl) ?_
  refine lv_aload_n hx hb dL_1054 rfl (lv_at hl 0 rfl) ?_
  refine lv_iload_n hx hb dL_1055 rfl (lv_at hl 3 rfl) ?_
  refine lv_iconst (v := 1) hx hb dL_1056 (by decide) ?_
  refine lv_iadd hx hb dL_1057 ?_
  refine va_sld hx hb hX hbl hbA hw.2.2.2.1 (idx_in (L := L) (j := j) (k := 1) 1 rfl (by decide) hL hj) dL_1058 ?_
  refine e_mcvi (As := [.int (xs (nI (6 * j) + 1).toNatClampNeg)]) (rest := [.int r]) hc hw law_room (hml.trans hl.1.symm) (cm_proof l 2000 M (xs (nI (6 * j) + 1).toNatClampNeg) r M1 hf2) (⟨⟨(mem_g 1595 (by decide +kernel) rfl), (mem_g 1596 (by decide +kernel) rfl), (mem_g 1597 (by decide +kernel) rfl), (mem_g 89 (by decide +kernel) rfl), (mem_g 1598 (by decide +kernel) rfl)⟩, by decide, by decide +kernel, by decide⟩ : qCv R_law 121 yX12_proof cX12_proof 4 (some .int) 1) rfl (by decide) rfl rfl rfl (Nat.le_of_ble_eq_true rfl) dL_1059 (fun H locs hw => ?_) ⟨by omega, by omega⟩
  have hw := xJ_perm List.perm_append_comm hw
  refine lv_icmp_eq (tgt := 1641) hx hb dL_1062 (by decide) (fun _ => ?_) (fun cn => absurd rfl cn)
  exact kx g X1 M1 H locs ls hR1 hw hl
set_option maxRecDepth 100000 in
theorem lc_shifts {p : Program} {l : Launch} {e : Env} {s : State} {m : MethodId} {below : List Frame} {meth : Method} {c : Code} {Q : State → Prop} {cells slots b L j : Nat} {xs : Nat → Int32} {g : xG} {ρ : Nat → Nat} {X : xS} {M : mS} {A : Nat → Prop} {H : Heap} {locs : List Loc} {ls : Array Slot} (hc : qC R_law code p s m #[Value.ref b] c) (hml : c.maxLocals = 4) (hX : va_X b L xs s s.heap) (hbl : b < s.heap.size) (hbA : ¬ A b) (hL : L ≤ 384) (hj : 6 * j + 6 ≤ L) (hR : Rl X M) (hw : xJ g A s.heap s (mW (mgX g ρ) M ++ xW g X) H locs) (hl : lv_has ls 4 [(0, .ref b), (1, .ref (xr g 0)), (2, .ref (ρ 0)), (3, .int (nI (6 * j)))]) (hcs : cells + 4 ≤ 600000 ∧ slots + 198 ≤ 7302250) (kx : ∀ (g : xG) (X : xS) (M : mS) (H : Heap) (locs : List Loc) (ls : Array Slot), Rl X M → xJ g A s.heap s (mW (mgX g ρ) M ++ xW g X) H locs → lv_has ls 4 [(0, .ref b), (1, .ref (xr g 0)), (2, .ref (ρ 0)), (3, .int (nI (6 * j)))] → W p l e room_1 s m #[Value.ref b] below meth c H locs (cells + 4) (slots + 198) Q (F0 m 1641 ls [])) : W p l e room_1 s m #[Value.ref b] below meth c H locs cells slots Q (F0 m 1067 ls []) := by
  have hx := hc.1
  have hb := hc.2.1
  have hc1 : cells + 4 ≤ room_1.cells := hcs.1
  have hc2 : slots + 198 ≤ room_1.slots := hcs.2
  refine lv_aload_n hx hb dL_1067 rfl (lv_at hl 1 rfl) ?_
  refine lv_aload_n hx hb dL_1068 rfl (lv_at hl 0 rfl) ?_
  refine lv_iload_n hx hb dL_1069 rfl (lv_at hl 3 rfl) ?_
  refine lv_iconst (v := 1) hx hb dL_1070 (by decide) ?_
  refine lv_iadd hx hb dL_1071 ?_
  refine va_sld hx hb hX hbl hbA hw.2.2.2.1 (idx_in (L := L) (j := j) (k := 1) 1 rfl (by decide) hL hj) dL_1072 ?_
  obtain ⟨r, X1, M1, hf1, hf2, hR1⟩ := st_shifts (Nat.le_refl 2000) hR (xs (nI (6 * j) + 1).toNatClampNeg)
  refine e_xcvi (As := [.int (xs (nI (6 * j) + 1).toNatClampNeg)]) (rest := []) hc hw law_room (hml.trans hl.1.symm) (cx_X_shifts l 2000 X (xs (nI (6 * j) + 1).toNatClampNeg) r X1 hf1) (⟨⟨(mem_g 1001 (by decide +kernel) rfl), (mem_g 1002 (by decide +kernel) rfl), (mem_g 1003 (by decide +kernel) rfl), (mem_g 77 (by decide +kernel) rfl), (mem_g 1004 (by decide +kernel) rfl)⟩, by decide, by decide +kernel, by decide⟩ : qCv R_law 122 yX11_shifts cX11_shifts 7 (some .int) 1) (x_recv_this (xJ_I (xJ_post hw))) (by decide) rfl rfl rfl (Nat.le_of_ble_eq_true rfl) dL_1073 (fun H locs hw => ?_) ⟨by omega, by omega⟩
  refine W.widen (k := cells + 4) (n := slots + 198) (by omega) (by omega) ?_
  have hw := xJ_perm List.perm_append_comm hw
  refine lv_aload_n hx hb dL_1076 rfl (lv_at hl 2 rfl) ?_
  refine lv_aload_n hx hb dL_1077 rfl (lv_at hl 0 rfl) ?_
  refine lv_iload_n hx hb dL_1078 rfl (lv_at hl 3 rfl) ?_
  refine lv_iconst (v := 1) hx hb dL_1079 (by decide) ?_
  refine lv_iadd hx hb dL_1080 ?_
  refine va_sld hx hb hX hbl hbA hw.2.2.2.1 (idx_in (L := L) (j := j) (k := 1) 1 rfl (by decide) hL hj) dL_1081 ?_
  refine e_mcvi (As := [.int (xs (nI (6 * j) + 1).toNatClampNeg)]) (rest := [.int r]) hc hw law_room (hml.trans hl.1.symm) (cm_shifts l 2000 M (xs (nI (6 * j) + 1).toNatClampNeg) r M1 hf2) (⟨⟨(mem_g 1599 (by decide +kernel) rfl), (mem_g 1600 (by decide +kernel) rfl), (mem_g 1601 (by decide +kernel) rfl), (mem_g 89 (by decide +kernel) rfl), (mem_g 1602 (by decide +kernel) rfl)⟩, by decide, by decide +kernel, by decide⟩ : qCv R_law 125 yX12_shifts cX12_shifts 6 (some .int) 1) rfl (by decide) rfl rfl rfl (Nat.le_of_ble_eq_true rfl) dL_1082 (fun H locs hw => ?_) ⟨by omega, by omega⟩
  have hw := xJ_perm List.perm_append_comm hw
  refine lv_icmp_eq (tgt := 1641) hx hb dL_1085 (by decide) (fun _ => ?_) (fun cn => absurd rfl cn)
  exact kx g X1 M1 H locs ls hR1 hw hl
set_option maxRecDepth 100000 in
theorem lc_coin {p : Program} {l : Launch} {e : Env} {s : State} {m : MethodId} {below : List Frame} {meth : Method} {c : Code} {Q : State → Prop} {cells slots b L j : Nat} {xs : Nat → Int32} {g : xG} {ρ : Nat → Nat} {X : xS} {M : mS} {A : Nat → Prop} {H : Heap} {locs : List Loc} {ls : Array Slot} (hc : qC R_law code p s m #[Value.ref b] c) (hml : c.maxLocals = 4) (hX : va_X b L xs s s.heap) (hbl : b < s.heap.size) (hbA : ¬ A b) (hL : L ≤ 384) (hj : 6 * j + 6 ≤ L) (hR : Rl X M) (hw : xJ g A s.heap s (mW (mgX g ρ) M ++ xW g X) H locs) (hl : lv_has ls 4 [(0, .ref b), (1, .ref (xr g 0)), (2, .ref (ρ 0)), (3, .int (nI (6 * j)))]) (hcs : cells + 4 ≤ 600000 ∧ slots + 198 ≤ 7302250) (kx : ∀ (g : xG) (X : xS) (M : mS) (H : Heap) (locs : List Loc) (ls : Array Slot), Rl X M → xJ g A s.heap s (mW (mgX g ρ) M ++ xW g X) H locs → lv_has ls 4 [(0, .ref b), (1, .ref (xr g 0)), (2, .ref (ρ 0)), (3, .int (nI (6 * j)))] → W p l e room_1 s m #[Value.ref b] below meth c H locs (cells + 4) (slots + 198) Q (F0 m 1641 ls [])) : W p l e room_1 s m #[Value.ref b] below meth c H locs cells slots Q (F0 m 1090 ls []) := by
  have hx := hc.1
  have hb := hc.2.1
  have hc1 : cells + 4 ≤ room_1.cells := hcs.1
  have hc2 : slots + 198 ≤ room_1.slots := hcs.2
  refine lv_aload_n hx hb dL_1090 rfl (lv_at hl 1 rfl) ?_
  refine lv_aload_n hx hb dL_1091 rfl (lv_at hl 0 rfl) ?_
  refine lv_iload_n hx hb dL_1092 rfl (lv_at hl 3 rfl) ?_
  refine lv_iconst (v := 1) hx hb dL_1093 (by decide) ?_
  refine lv_iadd hx hb dL_1094 ?_
  refine va_sld hx hb hX hbl hbA hw.2.2.2.1 (idx_in (L := L) (j := j) (k := 1) 1 rfl (by decide) hL hj) dL_1095 ?_
  refine lv_aload_n hx hb dL_1096 rfl (lv_at hl 0 rfl) ?_
  refine lv_iload_n hx hb dL_1097 rfl (lv_at hl 3 rfl) ?_
  refine lv_iconst (v := 2) hx hb dL_1098 (by decide) ?_
  refine lv_iadd hx hb dL_1099 ?_
  refine va_sld hx hb hX hbl hbA hw.2.2.2.1 (idx_in (L := L) (j := j) (k := 2) 2 rfl (by decide) hL hj) dL_1100 ?_
  obtain ⟨r, X1, M1, hf1, hf2, hR1⟩ := st_coin (Nat.le_refl 2000) hR (xs (nI (6 * j) + 1).toNatClampNeg) (xs (nI (6 * j) + 2).toNatClampNeg)
  refine e_xcvi (As := [.int (xs (nI (6 * j) + 1).toNatClampNeg), .int (xs (nI (6 * j) + 2).toNatClampNeg)]) (rest := []) hc hw law_room (hml.trans hl.1.symm) (cx_X_coin l 2000 X (xs (nI (6 * j) + 1).toNatClampNeg) (xs (nI (6 * j) + 2).toNatClampNeg) r X1 hf1) (⟨⟨(mem_g 1013 (by decide +kernel) rfl), (mem_g 1014 (by decide +kernel) rfl), (mem_g 1015 (by decide +kernel) rfl), (mem_g 77 (by decide +kernel) rfl), (mem_g 1016 (by decide +kernel) rfl)⟩, by decide, by decide +kernel, by decide⟩ : qCv R_law 126 yX11_coin cX11_coin 10 (some .int) 2) (x_recv_this (xJ_I (xJ_post hw))) (by decide) rfl rfl rfl (Nat.le_of_ble_eq_true rfl) dL_1101 (fun H locs hw => ?_) ⟨by omega, by omega⟩
  refine W.widen (k := cells + 4) (n := slots + 198) (by omega) (by omega) ?_
  have hw := xJ_perm List.perm_append_comm hw
  refine lv_aload_n hx hb dL_1104 rfl (lv_at hl 2 rfl) ?_
  refine lv_aload_n hx hb dL_1105 rfl (lv_at hl 0 rfl) ?_
  refine lv_iload_n hx hb dL_1106 rfl (lv_at hl 3 rfl) ?_
  refine lv_iconst (v := 1) hx hb dL_1107 (by decide) ?_
  refine lv_iadd hx hb dL_1108 ?_
  refine va_sld hx hb hX hbl hbA hw.2.2.2.1 (idx_in (L := L) (j := j) (k := 1) 1 rfl (by decide) hL hj) dL_1109 ?_
  refine lv_aload_n hx hb dL_1110 rfl (lv_at hl 0 rfl) ?_
  refine lv_iload_n hx hb dL_1111 rfl (lv_at hl 3 rfl) ?_
  refine lv_iconst (v := 2) hx hb dL_1112 (by decide) ?_
  refine lv_iadd hx hb dL_1113 ?_
  refine va_sld hx hb hX hbl hbA hw.2.2.2.1 (idx_in (L := L) (j := j) (k := 2) 2 rfl (by decide) hL hj) dL_1114 ?_
  refine e_mcvi (As := [.int (xs (nI (6 * j) + 1).toNatClampNeg), .int (xs (nI (6 * j) + 2).toNatClampNeg)]) (rest := [.int r]) hc hw law_room (hml.trans hl.1.symm) (cm_coin l 2000 M (xs (nI (6 * j) + 1).toNatClampNeg) (xs (nI (6 * j) + 2).toNatClampNeg) r M1 hf2) (⟨⟨(mem_g 1603 (by decide +kernel) rfl), (mem_g 1604 (by decide +kernel) rfl), (mem_g 1605 (by decide +kernel) rfl), (mem_g 89 (by decide +kernel) rfl), (mem_g 1606 (by decide +kernel) rfl)⟩, by decide, by decide +kernel, by decide⟩ : qCv R_law 129 yX12_coin cX12_coin 12 (some .int) 2) rfl (by decide) rfl rfl rfl (Nat.le_of_ble_eq_true rfl) dL_1115 (fun H locs hw => ?_) ⟨by omega, by omega⟩
  have hw := xJ_perm List.perm_append_comm hw
  refine lv_icmp_eq (tgt := 1641) hx hb dL_1118 (by decide) (fun _ => ?_) (fun cn => absurd rfl cn)
  exact kx g X1 M1 H locs ls hR1 hw hl
end LAWCALL2
