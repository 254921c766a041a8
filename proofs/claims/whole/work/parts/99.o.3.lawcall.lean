section LAWCALL3
set_option maxRecDepth 100000 in
theorem lc_stage {p : Program} {l : Launch} {e : Env} {s : State} {m : MethodId} {below : List Frame} {meth : Method} {c : Code} {Q : State → Prop} {cells slots b L j : Nat} {xs : Nat → Int32} {g : xG} {ρ : Nat → Nat} {X : xS} {M : mS} {A : Nat → Prop} {H : Heap} {locs : List Loc} {ls : Array Slot} (hc : qC R_law code p s m #[Value.ref b] c) (hml : c.maxLocals = 4) (hX : va_X b L xs s s.heap) (hbl : b < s.heap.size) (hbA : ¬ A b) (hL : L ≤ 384) (hj : 6 * j + 6 ≤ L) (hR : Rl X M) (hw : xJ g A s.heap s (mW (mgX g ρ) M ++ xW g X) H locs) (hl : lv_has ls 4 [(0, .ref b), (1, .ref (xr g 0)), (2, .ref (ρ 0)), (3, .int (nI (6 * j)))]) (hcs : cells + 4 ≤ 600000 ∧ slots + 198 ≤ 7302250) (kx : ∀ (g : xG) (X : xS) (M : mS) (H : Heap) (locs : List Loc) (ls : Array Slot), Rl X M → xJ g A s.heap s (mW (mgX g ρ) M ++ xW g X) H locs → lv_has ls 4 [(0, .ref b), (1, .ref (xr g 0)), (2, .ref (ρ 0)), (3, .int (nI (6 * j)))] → W p l e room_1 s m #[Value.ref b] below meth c H locs (cells + 4) (slots + 198) Q (F0 m 1641 ls [])) : W p l e room_1 s m #[Value.ref b] below meth c H locs cells slots Q (F0 m 1123 ls []) := by
  have hx := hc.1
  have hb := hc.2.1
  have hc1 : cells + 4 ≤ room_1.cells := hcs.1
  have hc2 : slots + 198 ≤ room_1.slots := hcs.2
  refine lv_aload_n hx hb dL_1123 rfl (lv_at hl 1 rfl) ?_
  obtain ⟨r, X1, M1, hf1, hf2, hR1⟩ := st_stage (Nat.le_refl 2000) hR 
  refine e_xcvi (As := []) (rest := []) hc hw law_room (hml.trans hl.1.symm) (cx_X_stage l 2000 X r X1 hf1) (⟨⟨(mem_g 1023 (by decide +kernel) rfl), (mem_g 1024 (by decide +kernel) rfl), (mem_g 1025 (by decide +kernel) rfl), (mem_g 77 (by decide +kernel) rfl), (mem_g 1026 (by decide +kernel) rfl)⟩, by decide, by decide +kernel, by decide⟩ : qCv R_law 130 yX11_stage cX11_stage 5 (some .int) 0) (x_recv_this (xJ_I (xJ_post hw))) (by decide) rfl rfl rfl (Nat.le_of_ble_eq_true rfl) dL_1124 (fun H locs hw => ?_) ⟨by omega, by omega⟩
  refine W.widen (k := cells + 4) (n := slots + 198) (by omega) (by omega) ?_
  have hw := xJ_perm List.perm_append_comm hw
  refine lv_aload_n hx hb dL_1127 rfl (lv_at hl 2 rfl) ?_
  refine e_mcvi (As := []) (rest := [.int r]) hc hw law_room (hml.trans hl.1.symm) (cm_stage l 2000 M r M1 hf2) (⟨⟨(mem_g 1609 (by decide +kernel) rfl), (mem_g 1610 (by decide +kernel) rfl), (mem_g 1611 (by decide +kernel) rfl), (mem_g 89 (by decide +kernel) rfl), (mem_g 1612 (by decide +kernel) rfl)⟩, by decide, by decide +kernel, by decide⟩ : qCv R_law 133 yX12_stage cX12_stage 5 (some .int) 0) rfl (by decide) rfl rfl rfl (Nat.le_of_ble_eq_true rfl) dL_1128 (fun H locs hw => ?_) ⟨by omega, by omega⟩
  have hw := xJ_perm List.perm_append_comm hw
  refine lv_icmp_eq (tgt := 1641) hx hb dL_1131 (by decide) (fun _ => ?_) (fun cn => absurd rfl cn)
  exact kx g X1 M1 H locs ls hR1 hw hl
set_option maxRecDepth 100000 in
theorem lc_swap {p : Program} {l : Launch} {e : Env} {s : State} {m : MethodId} {below : List Frame} {meth : Method} {c : Code} {Q : State → Prop} {cells slots b L j : Nat} {xs : Nat → Int32} {g : xG} {ρ : Nat → Nat} {X : xS} {M : mS} {A : Nat → Prop} {H : Heap} {locs : List Loc} {ls : Array Slot} (hc : qC R_law code p s m #[Value.ref b] c) (hml : c.maxLocals = 4) (hX : va_X b L xs s s.heap) (hbl : b < s.heap.size) (hbA : ¬ A b) (hL : L ≤ 384) (hj : 6 * j + 6 ≤ L) (hR : Rl X M) (hw : xJ g A s.heap s (mW (mgX g ρ) M ++ xW g X) H locs) (hl : lv_has ls 4 [(0, .ref b), (1, .ref (xr g 0)), (2, .ref (ρ 0)), (3, .int (nI (6 * j)))]) (hcs : cells + 4 ≤ 600000 ∧ slots + 198 ≤ 7302250) (kx : ∀ (g : xG) (X : xS) (M : mS) (H : Heap) (locs : List Loc) (ls : Array Slot), Rl X M → xJ g A s.heap s (mW (mgX g ρ) M ++ xW g X) H locs → lv_has ls 4 [(0, .ref b), (1, .ref (xr g 0)), (2, .ref (ρ 0)), (3, .int (nI (6 * j)))] → W p l e room_1 s m #[Value.ref b] below meth c H locs (cells + 4) (slots + 198) Q (F0 m 1641 ls [])) : W p l e room_1 s m #[Value.ref b] below meth c H locs cells slots Q (F0 m 1136 ls []) := by
  have hx := hc.1
  have hb := hc.2.1
  have hc1 : cells + 4 ≤ room_1.cells := hcs.1
  have hc2 : slots + 198 ≤ room_1.slots := hcs.2
  refine lv_aload_n hx hb dL_1136 rfl (lv_at hl 1 rfl) ?_
  refine lv_aload_n hx hb dL_1137 rfl (lv_at hl 0 rfl) ?_
  refine lv_iload_n hx hb dL_1138 rfl (lv_at hl 3 rfl) ?_
  refine lv_iconst (v := 1) hx hb dL_1139 (by decide) ?_
  refine lv_iadd hx hb dL_1140 ?_
  refine va_sld hx hb hX hbl hbA hw.2.2.2.1 (idx_in (L := L) (j := j) (k := 1) 1 rfl (by decide) hL hj) dL_1141 ?_
  refine lv_aload_n hx hb dL_1142 rfl (lv_at hl 0 rfl) ?_
  refine lv_iload_n hx hb dL_1143 rfl (lv_at hl 3 rfl) ?_
  refine lv_iconst (v := 2) hx hb dL_1144 (by decide) ?_
  refine lv_iadd hx hb dL_1145 ?_
  refine va_sld hx hb hX hbl hbA hw.2.2.2.1 (idx_in (L := L) (j := j) (k := 2) 2 rfl (by decide) hL hj) dL_1146 ?_
  refine lv_aload_n hx hb dL_1147 rfl (lv_at hl 0 rfl) ?_
  refine lv_iload_n hx hb dL_1148 rfl (lv_at hl 3 rfl) ?_
  refine lv_iconst (v := 3) hx hb dL_1149 (by decide) ?_
  refine lv_iadd hx hb dL_1150 ?_
  refine va_sld hx hb hX hbl hbA hw.2.2.2.1 (idx_in (L := L) (j := j) (k := 3) 3 rfl (by decide) hL hj) dL_1151 ?_
  refine lv_aload_n hx hb dL_1152 rfl (lv_at hl 0 rfl) ?_
  refine lv_iload_n hx hb dL_1153 rfl (lv_at hl 3 rfl) ?_
  refine lv_iconst (v := 4) hx hb dL_1154 (by decide) ?_
  refine lv_iadd hx hb dL_1155 ?_
  refine va_sld hx hb hX hbl hbA hw.2.2.2.1 (idx_in (L := L) (j := j) (k := 4) 4 rfl (by decide) hL hj) dL_1156 ?_
  obtain ⟨r, X1, M1, hf1, hf2, hR1⟩ := st_swap (Nat.le_refl 2000) hR (xs (nI (6 * j) + 1).toNatClampNeg) (xs (nI (6 * j) + 2).toNatClampNeg) (xs (nI (6 * j) + 3).toNatClampNeg) (xs (nI (6 * j) + 4).toNatClampNeg)
  refine e_xcvi (As := [.int (xs (nI (6 * j) + 1).toNatClampNeg), .int (xs (nI (6 * j) + 2).toNatClampNeg), .int (xs (nI (6 * j) + 3).toNatClampNeg), .int (xs (nI (6 * j) + 4).toNatClampNeg)]) (rest := []) hc hw law_room (hml.trans hl.1.symm) (cx_X_swap l 2000 X (xs (nI (6 * j) + 1).toNatClampNeg) (xs (nI (6 * j) + 2).toNatClampNeg) (xs (nI (6 * j) + 3).toNatClampNeg) (xs (nI (6 * j) + 4).toNatClampNeg) r X1 hf1) (⟨⟨(mem_g 1027 (by decide +kernel) rfl), (mem_g 1028 (by decide +kernel) rfl), (mem_g 1029 (by decide +kernel) rfl), (mem_g 77 (by decide +kernel) rfl), (mem_g 1030 (by decide +kernel) rfl)⟩, by decide, by decide +kernel, by decide⟩ : qCv R_law 134 yX11_swap cX11_swap 8 (some .int) 4) (x_recv_this (xJ_I (xJ_post hw))) (by decide) rfl rfl rfl (Nat.le_of_ble_eq_true rfl) dL_1157 (fun H locs hw => ?_) ⟨by omega, by omega⟩
  refine W.widen (k := cells + 4) (n := slots + 198) (by omega) (by omega) ?_
  have hw := xJ_perm List.perm_append_comm hw
  refine lv_aload_n hx hb dL_1160 rfl (lv_at hl 2 rfl) ?_
  refine lv_aload_n hx hb dL_1161 rfl (lv_at hl 0 rfl) ?_
  refine lv_iload_n hx hb dL_1162 rfl (lv_at hl 3 rfl) ?_
  refine lv_iconst (v := 1) hx hb dL_1163 (by decide) ?_
  refine lv_iadd hx hb dL_1164 ?_
  refine va_sld hx hb hX hbl hbA hw.2.2.2.1 (idx_in (L := L) (j := j) (k := 1) 1 rfl (by decide) hL hj) dL_1165 ?_
  refine lv_aload_n hx hb dL_1166 rfl (lv_at hl 0 rfl) ?_
  refine lv_iload_n hx hb dL_1167 rfl (lv_at hl 3 rfl) ?_
  refine lv_iconst (v := 2) hx hb dL_1168 (by decide) ?_
  refine lv_iadd hx hb dL_1169 ?_
  refine va_sld hx hb hX hbl hbA hw.2.2.2.1 (idx_in (L := L) (j := j) (k := 2) 2 rfl (by decide) hL hj) dL_1170 ?_
  refine lv_aload_n hx hb dL_1171 rfl (lv_at hl 0 rfl) ?_
  refine lv_iload_n hx hb dL_1172 rfl (lv_at hl 3 rfl) ?_
  refine lv_iconst (v := 3) hx hb dL_1173 (by decide) ?_
  refine lv_iadd hx hb dL_1174 ?_
  refine va_sld hx hb hX hbl hbA hw.2.2.2.1 (idx_in (L := L) (j := j) (k := 3) 3 rfl (by decide) hL hj) dL_1175 ?_
  refine lv_aload_n hx hb dL_1176 rfl (lv_at hl 0 rfl) ?_
  refine lv_iload_n hx hb dL_1177 rfl (lv_at hl 3 rfl) ?_
  refine lv_iconst (v := 4) hx hb dL_1178 (by decide) ?_
  refine lv_iadd hx hb dL_1179 ?_
  refine va_sld hx hb hX hbl hbA hw.2.2.2.1 (idx_in (L := L) (j := j) (k := 4) 4 rfl (by decide) hL hj) dL_1180 ?_
  refine e_mcvi (As := [.int (xs (nI (6 * j) + 1).toNatClampNeg), .int (xs (nI (6 * j) + 2).toNatClampNeg), .int (xs (nI (6 * j) + 3).toNatClampNeg), .int (xs (nI (6 * j) + 4).toNatClampNeg)]) (rest := [.int r]) hc hw law_room (hml.trans hl.1.symm) (cm_swap l 2000 M (xs (nI (6 * j) + 1).toNatClampNeg) (xs (nI (6 * j) + 2).toNatClampNeg) (xs (nI (6 * j) + 3).toNatClampNeg) (xs (nI (6 * j) + 4).toNatClampNeg) r M1 hf2) (⟨⟨(mem_g 1613 (by decide +kernel) rfl), (mem_g 1614 (by decide +kernel) rfl), (mem_g 1615 (by decide +kernel) rfl), (mem_g 89 (by decide +kernel) rfl), (mem_g 1616 (by decide +kernel) rfl)⟩, by decide, by decide +kernel, by decide⟩ : qCv R_law 138 yX12_swap cX12_swap 5 (some .int) 4) rfl (by decide) rfl rfl rfl (Nat.le_of_ble_eq_true rfl) dL_1181 (fun H locs hw => ?_) ⟨by omega, by omega⟩
  have hw := xJ_perm List.perm_append_comm hw
  refine lv_icmp_eq (tgt := 1641) hx hb dL_1184 (by decide) (fun _ => ?_) (fun cn => absurd rfl cn)
  exact kx g X1 M1 H locs ls hR1 hw hl
set_option maxRecDepth 100000 in
theorem lc_people {p : Program} {l : Launch} {e : Env} {s : State} {m : MethodId} {below : List Frame} {meth : Method} {c : Code} {Q : State → Prop} {cells slots b L j : Nat} {xs : Nat → Int32} {g : xG} {ρ : Nat → Nat} {X : xS} {M : mS} {A : Nat → Prop} {H : Heap} {locs : List Loc} {ls : Array Slot} (hc : qC R_law code p s m #[Value.ref b] c) (hml : c.maxLocals = 4) (hX : va_X b L xs s s.heap) (hbl : b < s.heap.size) (hbA : ¬ A b) (hL : L ≤ 384) (hj : 6 * j + 6 ≤ L) (hR : Rl X M) (hw : xJ g A s.heap s (mW (mgX g ρ) M ++ xW g X) H locs) (hl : lv_has ls 4 [(0, .ref b), (1, .ref (xr g 0)), (2, .ref (ρ 0)), (3, .int (nI (6 * j)))]) (hcs : cells + 4 ≤ 600000 ∧ slots + 198 ≤ 7302250) (kx : ∀ (g : xG) (X : xS) (M : mS) (H : Heap) (locs : List Loc) (ls : Array Slot), Rl X M → xJ g A s.heap s (mW (mgX g ρ) M ++ xW g X) H locs → lv_has ls 4 [(0, .ref b), (1, .ref (xr g 0)), (2, .ref (ρ 0)), (3, .int (nI (6 * j)))] → W p l e room_1 s m #[Value.ref b] below meth c H locs (cells + 4) (slots + 198) Q (F0 m 1641 ls [])) : W p l e room_1 s m #[Value.ref b] below meth c H locs cells slots Q (F0 m 1189 ls []) := by
  have hx := hc.1
  have hb := hc.2.1
  have hc1 : cells + 4 ≤ room_1.cells := hcs.1
  have hc2 : slots + 198 ≤ room_1.slots := hcs.2
  refine lv_aload_n hx hb dL_1189 rfl (lv_at hl 1 rfl) ?_
  refine lv_aload_n hx hb dL_1190 rfl (lv_at hl 0 rfl) ?_
  refine lv_iload_n hx hb dL_1191 rfl (lv_at hl 3 rfl) ?_
  refine lv_iconst (v := 1) hx hb dL_1192 (by decide) ?_
  refine lv_iadd hx hb dL_1193 ?_
  refine va_sld hx hb hX hbl hbA hw.2.2.2.1 (idx_in (L := L) (j := j) (k := 1) 1 rfl (by decide) hL hj) dL_1194 ?_
  refine lv_aload_n hx hb dL_1195 rfl (lv_at hl 0 rfl) ?_
  refine lv_iload_n hx hb dL_1196 rfl (lv_at hl 3 rfl) ?_
  refine lv_iconst (v := 2) hx hb dL_1197 (by decide) ?_
  refine lv_iadd hx hb dL_1198 ?_
  refine va_sld hx hb hX hbl hbA hw.2.2.2.1 (idx_in (L := L) (j := j) (k := 2) 2 rfl (by decide) hL hj) dL_1199 ?_
  obtain ⟨r, X1, M1, hf1, hf2, hR1⟩ := st_people (Nat.le_refl 2000) hR (xs (nI (6 * j) + 1).toNatClampNeg) (xs (nI (6 * j) + 2).toNatClampNeg)
  refine e_xcvi (As := [.int (xs (nI (6 * j) + 1).toNatClampNeg), .int (xs (nI (6 * j) + 2).toNatClampNeg)]) (rest := []) hc hw law_room (hml.trans hl.1.symm) (cx_X_people l 2000 X (xs (nI (6 * j) + 1).toNatClampNeg) (xs (nI (6 * j) + 2).toNatClampNeg) r X1 hf1) (⟨⟨(mem_g 1039 (by decide +kernel) rfl), (mem_g 1040 (by decide +kernel) rfl), (mem_g 1041 (by decide +kernel) rfl), (mem_g 77 (by decide +kernel) rfl), (mem_g 1042 (by decide +kernel) rfl)⟩, by decide, by decide +kernel, by decide⟩ : qCv R_law 139 yX11_people cX11_people 6 (some .int) 2) (x_recv_this (xJ_I (xJ_post hw))) (by decide) rfl rfl rfl (Nat.le_of_ble_eq_true rfl) dL_1200 (fun H locs hw => ?_) ⟨by omega, by omega⟩
  refine W.widen (k := cells + 4) (n := slots + 198) (by omega) (by omega) ?_
  have hw := xJ_perm List.perm_append_comm hw
  refine lv_aload_n hx hb dL_1203 rfl (lv_at hl 2 rfl) ?_
  refine lv_aload_n hx hb dL_1204 rfl (lv_at hl 0 rfl) ?_
  refine lv_iload_n hx hb dL_1205 rfl (lv_at hl 3 rfl) ?_
  refine lv_iconst (v := 1) hx hb dL_1206 (by decide) ?_
  refine lv_iadd hx hb dL_1207 ?_
  refine va_sld hx hb hX hbl hbA hw.2.2.2.1 (idx_in (L := L) (j := j) (k := 1) 1 rfl (by decide) hL hj) dL_1208 ?_
  refine lv_aload_n hx hb dL_1209 rfl (lv_at hl 0 rfl) ?_
  refine lv_iload_n hx hb dL_1210 rfl (lv_at hl 3 rfl) ?_
  refine lv_iconst (v := 2) hx hb dL_1211 (by decide) ?_
  refine lv_iadd hx hb dL_1212 ?_
  refine va_sld hx hb hX hbl hbA hw.2.2.2.1 (idx_in (L := L) (j := j) (k := 2) 2 rfl (by decide) hL hj) dL_1213 ?_
  refine e_mcvi (As := [.int (xs (nI (6 * j) + 1).toNatClampNeg), .int (xs (nI (6 * j) + 2).toNatClampNeg)]) (rest := [.int r]) hc hw law_room (hml.trans hl.1.symm) (cm_people l 2000 M (xs (nI (6 * j) + 1).toNatClampNeg) (xs (nI (6 * j) + 2).toNatClampNeg) r M1 hf2) (⟨⟨(mem_g 1626 (by decide +kernel) rfl), (mem_g 1627 (by decide +kernel) rfl), (mem_g 1628 (by decide +kernel) rfl), (mem_g 89 (by decide +kernel) rfl), (mem_g 1629 (by decide +kernel) rfl)⟩, by decide, by decide +kernel, by decide⟩ : qCv R_law 142 yX12_people cX12_people 3 (some .int) 2) rfl (by decide) rfl rfl rfl (Nat.le_of_ble_eq_true rfl) dL_1214 (fun H locs hw => ?_) ⟨by omega, by omega⟩
  have hw := xJ_perm List.perm_append_comm hw
  refine lv_icmp_eq (tgt := 1641) hx hb dL_1217 (by decide) (fun _ => ?_) (fun cn => absurd rfl cn)
  exact kx g X1 M1 H locs ls hR1 hw hl
set_option maxRecDepth 100000 in
theorem lc_settle {p : Program} {l : Launch} {e : Env} {s : State} {m : MethodId} {below : List Frame} {meth : Method} {c : Code} {Q : State → Prop} {cells slots b L j : Nat} {xs : Nat → Int32} {g : xG} {ρ : Nat → Nat} {X : xS} {M : mS} {A : Nat → Prop} {H : Heap} {locs : List Loc} {ls : Array Slot} (hc : qC R_law code p s m #[Value.ref b] c) (hml : c.maxLocals = 4) (hX : va_X b L xs s s.heap) (hbl : b < s.heap.size) (hbA : ¬ A b) (hL : L ≤ 384) (hj : 6 * j + 6 ≤ L) (hR : Rl X M) (hw : xJ g A s.heap s (mW (mgX g ρ) M ++ xW g X) H locs) (hl : lv_has ls 4 [(0, .ref b), (1, .ref (xr g 0)), (2, .ref (ρ 0)), (3, .int (nI (6 * j)))]) (hcs : cells + 4 ≤ 600000 ∧ slots + 198 ≤ 7302250) (kx : ∀ (g : xG) (X : xS) (M : mS) (H : Heap) (locs : List Loc) (ls : Array Slot), Rl X M → xJ g A s.heap s (mW (mgX g ρ) M ++ xW g X) H locs → lv_has ls 4 [(0, .ref b), (1, .ref (xr g 0)), (2, .ref (ρ 0)), (3, .int (nI (6 * j)))] → W p l e room_1 s m #[Value.ref b] below meth c H locs (cells + 4) (slots + 198) Q (F0 m 1641 ls [])) : W p l e room_1 s m #[Value.ref b] below meth c H locs cells slots Q (F0 m 1222 ls []) := by
  have hx := hc.1
  have hb := hc.2.1
  have hc1 : cells + 4 ≤ room_1.cells := hcs.1
  have hc2 : slots + 198 ≤ room_1.slots := hcs.2
  refine lv_aload_n hx hb dL_1222 rfl (lv_at hl 1 rfl) ?_
  refine lv_aload_n hx hb dL_1223 rfl (lv_at hl 0 rfl) ?_
  refine lv_iload_n hx hb dL_1224 rfl (lv_at hl 3 rfl) ?_
  refine lv_iconst (v := 1) hx hb dL_1225 (by decide) ?_
  refine lv_iadd hx hb dL_1226 ?_
  refine va_sld hx hb hX hbl hbA hw.2.2.2.1 (idx_in (L := L) (j := j) (k := 1) 1 rfl (by decide) hL hj) dL_1227 ?_
  refine lv_aload_n hx hb dL_1228 rfl (lv_at hl 0 rfl) ?_
  refine lv_iload_n hx hb dL_1229 rfl (lv_at hl 3 rfl) ?_
  refine lv_iconst (v := 2) hx hb dL_1230 (by decide) ?_
  refine lv_iadd hx hb dL_1231 ?_
  refine va_sld hx hb hX hbl hbA hw.2.2.2.1 (idx_in (L := L) (j := j) (k := 2) 2 rfl (by decide) hL hj) dL_1232 ?_
  obtain ⟨r, X1, M1, hf1, hf2, hR1⟩ := st_settle (Nat.le_refl 2000) hR (xs (nI (6 * j) + 1).toNatClampNeg) (xs (nI (6 * j) + 2).toNatClampNeg)
  refine e_xcvi (As := [.int (xs (nI (6 * j) + 1).toNatClampNeg), .int (xs (nI (6 * j) + 2).toNatClampNeg)]) (rest := []) hc hw law_room (hml.trans hl.1.symm) (cx_X_settle l 2000 X (xs (nI (6 * j) + 1).toNatClampNeg) (xs (nI (6 * j) + 2).toNatClampNeg) r X1 hf1) (⟨⟨(mem_g 1047 (by decide +kernel) rfl), (mem_g 1048 (by decide +kernel) rfl), (mem_g 1049 (by decide +kernel) rfl), (mem_g 77 (by decide +kernel) rfl), (mem_g 1050 (by decide +kernel) rfl)⟩, by decide, by decide +kernel, by decide⟩ : qCv R_law 143 yX11_settle cX11_settle 6 (some .int) 2) (x_recv_this (xJ_I (xJ_post hw))) (by decide) rfl rfl rfl (Nat.le_of_ble_eq_true rfl) dL_1233 (fun H locs hw => ?_) ⟨by omega, by omega⟩
  refine W.widen (k := cells + 4) (n := slots + 198) (by omega) (by omega) ?_
  have hw := xJ_perm List.perm_append_comm hw
  refine lv_aload_n hx hb dL_1236 rfl (lv_at hl 2 rfl) ?_
  refine lv_aload_n hx hb dL_1237 rfl (lv_at hl 0 rfl) ?_
  refine lv_iload_n hx hb dL_1238 rfl (lv_at hl 3 rfl) ?_
  refine lv_iconst (v := 1) hx hb dL_1239 (by decide) ?_
  refine lv_iadd hx hb dL_1240 ?_
  refine va_sld hx hb hX hbl hbA hw.2.2.2.1 (idx_in (L := L) (j := j) (k := 1) 1 rfl (by decide) hL hj) dL_1241 ?_
  refine lv_aload_n hx hb dL_1242 rfl (lv_at hl 0 rfl) ?_
  refine lv_iload_n hx hb dL_1243 rfl (lv_at hl 3 rfl) ?_
  refine lv_iconst (v := 2) hx hb dL_1244 (by decide) ?_
  refine lv_iadd hx hb dL_1245 ?_
  refine va_sld hx hb hX hbl hbA hw.2.2.2.1 (idx_in (L := L) (j := j) (k := 2) 2 rfl (by decide) hL hj) dL_1246 ?_
  refine e_mcvi (As := [.int (xs (nI (6 * j) + 1).toNatClampNeg), .int (xs (nI (6 * j) + 2).toNatClampNeg)]) (rest := [.int r]) hc hw law_room (hml.trans hl.1.symm) (cm_settle l 2000 M (xs (nI (6 * j) + 1).toNatClampNeg) (xs (nI (6 * j) + 2).toNatClampNeg) r M1 hf2) (⟨⟨(mem_g 1634 (by decide +kernel) rfl), (mem_g 1635 (by decide +kernel) rfl), (mem_g 1636 (by decide +kernel) rfl), (mem_g 89 (by decide +kernel) rfl), (mem_g 1637 (by decide +kernel) rfl)⟩, by decide, by decide +kernel, by decide⟩ : qCv R_law 146 yX12_settle cX12_settle 4 (some .int) 2) rfl (by decide) rfl rfl rfl (Nat.le_of_ble_eq_true rfl) dL_1247 (fun H locs hw => ?_) ⟨by omega, by omega⟩
  have hw := xJ_perm List.perm_append_comm hw
  refine lv_icmp_eq (tgt := 1641) hx hb dL_1250 (by decide) (fun _ => ?_) (fun cn => absurd rfl cn)
  exact kx g X1 M1 H locs ls hR1 hw hl
set_option maxRecDepth 100000 in
theorem lc_hat {p : Program} {l : Launch} {e : Env} {s : State} {m : MethodId} {below : List Frame} {meth : Method} {c : Code} {Q : State → Prop} {cells slots b L j : Nat} {xs : Nat → Int32} {g : xG} {ρ : Nat → Nat} {X : xS} {M : mS} {A : Nat → Prop} {H : Heap} {locs : List Loc} {ls : Array Slot} (hc : qC R_law code p s m #[Value.ref b] c) (hml : c.maxLocals = 4) (hX : va_X b L xs s s.heap) (hbl : b < s.heap.size) (hbA : ¬ A b) (hL : L ≤ 384) (hj : 6 * j + 6 ≤ L) (hR : Rl X M) (hw : xJ g A s.heap s (mW (mgX g ρ) M ++ xW g X) H locs) (hl : lv_has ls 4 [(0, .ref b), (1, .ref (xr g 0)), (2, .ref (ρ 0)), (3, .int (nI (6 * j)))]) (hcs : cells + 4 ≤ 600000 ∧ slots + 198 ≤ 7302250) (kx : ∀ (g : xG) (X : xS) (M : mS) (H : Heap) (locs : List Loc) (ls : Array Slot), Rl X M → xJ g A s.heap s (mW (mgX g ρ) M ++ xW g X) H locs → lv_has ls 4 [(0, .ref b), (1, .ref (xr g 0)), (2, .ref (ρ 0)), (3, .int (nI (6 * j)))] → W p l e room_1 s m #[Value.ref b] below meth c H locs (cells + 4) (slots + 198) Q (F0 m 1641 ls [])) : W p l e room_1 s m #[Value.ref b] below meth c H locs cells slots Q (F0 m 1255 ls []) := by
  have hx := hc.1
  have hb := hc.2.1
  have hc1 : cells + 4 ≤ room_1.cells := hcs.1
  have hc2 : slots + 198 ≤ room_1.slots := hcs.2
  refine lv_aload_n hx hb dL_1255 rfl (lv_at hl 1 rfl) ?_
  refine lv_aload_n hx hb dL_1256 rfl (lv_at hl 0 rfl) ?_
  refine lv_iload_n hx hb dL_1257 rfl (lv_at hl 3 rfl) ?_
  refine lv_iconst (v := 1) hx hb dL_1258 (by decide) ?_
  refine lv_iadd hx hb dL_1259 ?_
  refine va_sld hx hb hX hbl hbA hw.2.2.2.1 (idx_in (L := L) (j := j) (k := 1) 1 rfl (by decide) hL hj) dL_1260 ?_
  refine lv_aload_n hx hb dL_1261 rfl (lv_at hl 0 rfl) ?_
  refine lv_iload_n hx hb dL_1262 rfl (lv_at hl 3 rfl) ?_
  refine lv_iconst (v := 2) hx hb dL_1263 (by decide) ?_
  refine lv_iadd hx hb dL_1264 ?_
  refine va_sld hx hb hX hbl hbA hw.2.2.2.1 (idx_in (L := L) (j := j) (k := 2) 2 rfl (by decide) hL hj) dL_1265 ?_
  refine lv_aload_n hx hb dL_1266 rfl (lv_at hl 0 rfl) ?_
  refine lv_iload_n hx hb dL_1267 rfl (lv_at hl 3 rfl) ?_
  refine lv_iconst (v := 3) hx hb dL_1268 (by decide) ?_
  refine lv_iadd hx hb dL_1269 ?_
  refine va_sld hx hb hX hbl hbA hw.2.2.2.1 (idx_in (L := L) (j := j) (k := 3) 3 rfl (by decide) hL hj) dL_1270 ?_
  obtain ⟨r, X1, M1, hf1, hf2, hR1⟩ := st_hat (Nat.le_refl 2000) hR (xs (nI (6 * j) + 1).toNatClampNeg) (xs (nI (6 * j) + 2).toNatClampNeg) (xs (nI (6 * j) + 3).toNatClampNeg)
  refine e_xcvi (As := [.int (xs (nI (6 * j) + 1).toNatClampNeg), .int (xs (nI (6 * j) + 2).toNatClampNeg), .int (xs (nI (6 * j) + 3).toNatClampNeg)]) (rest := []) hc hw law_room (hml.trans hl.1.symm) (cx_X_hat l 2000 X (xs (nI (6 * j) + 1).toNatClampNeg) (xs (nI (6 * j) + 2).toNatClampNeg) (xs (nI (6 * j) + 3).toNatClampNeg) r X1 hf1) (⟨⟨(mem_g 1051 (by decide +kernel) rfl), (mem_g 1052 (by decide +kernel) rfl), (mem_g 1053 (by decide +kernel) rfl), (mem_g 77 (by decide +kernel) rfl), (mem_g 1054 (by decide +kernel) rfl)⟩, by decide, by decide +kernel, by decide⟩ : qCv R_law 147 yX11_hat cX11_hat 7 (some .int) 3) (x_recv_this (xJ_I (xJ_post hw))) (by decide) rfl rfl rfl (Nat.le_of_ble_eq_true rfl) dL_1271 (fun H locs hw => ?_) ⟨by omega, by omega⟩
  refine W.widen (k := cells + 4) (n := slots + 198) (by omega) (by omega) ?_
  have hw := xJ_perm List.perm_append_comm hw
  refine lv_aload_n hx hb dL_1274 rfl (lv_at hl 2 rfl) ?_
  refine lv_aload_n hx hb dL_1275 rfl (lv_at hl 0 rfl) ?_
  refine lv_iload_n hx hb dL_1276 rfl (lv_at hl 3 rfl) ?_
  refine lv_iconst (v := 1) hx hb dL_1277 (by decide) ?_
  refine lv_iadd hx hb dL_1278 ?_
  refine va_sld hx hb hX hbl hbA hw.2.2.2.1 (idx_in (L := L) (j := j) (k := 1) 1 rfl (by decide) hL hj) dL_1279 ?_
  refine lv_aload_n hx hb dL_1280 rfl (lv_at hl 0 rfl) ?_
  refine lv_iload_n hx hb dL_1281 rfl (lv_at hl 3 rfl) ?_
  refine lv_iconst (v := 2) hx hb dL_1282 (by decide) ?_
  refine lv_iadd hx hb dL_1283 ?_
  refine va_sld hx hb hX hbl hbA hw.2.2.2.1 (idx_in (L := L) (j := j) (k := 2) 2 rfl (by decide) hL hj) dL_1284 ?_
  refine lv_aload_n hx hb dL_1285 rfl (lv_at hl 0 rfl) ?_
  refine lv_iload_n hx hb dL_1286 rfl (lv_at hl 3 rfl) ?_
  refine lv_iconst (v := 3) hx hb dL_1287 (by decide) ?_
  refine lv_iadd hx hb dL_1288 ?_
  refine va_sld hx hb hX hbl hbA hw.2.2.2.1 (idx_in (L := L) (j := j) (k := 3) 3 rfl (by decide) hL hj) dL_1289 ?_
  refine e_mcvi (As := [.int (xs (nI (6 * j) + 1).toNatClampNeg), .int (xs (nI (6 * j) + 2).toNatClampNeg), .int (xs (nI (6 * j) + 3).toNatClampNeg)]) (rest := [.int r]) hc hw law_room (hml.trans hl.1.symm) (cm_hat l 2000 M (xs (nI (6 * j) + 1).toNatClampNeg) (xs (nI (6 * j) + 2).toNatClampNeg) (xs (nI (6 * j) + 3).toNatClampNeg) r M1 hf2) (⟨⟨(mem_g 1638 (by decide +kernel) rfl), (mem_g 1639 (by decide +kernel) rfl), (mem_g 1640 (by decide +kernel) rfl), (mem_g 89 (by decide +kernel) rfl), (mem_g 1641 (by decide +kernel) rfl)⟩, by decide, by decide +kernel, by decide⟩ : qCv R_law 150 yX12_hat cX12_hat 6 (some .int) 3) rfl (by decide) rfl rfl rfl (Nat.le_of_ble_eq_true rfl) dL_1290 (fun H locs hw => ?_) ⟨by omega, by omega⟩
  have hw := xJ_perm List.perm_append_comm hw
  refine lv_icmp_eq (tgt := 1641) hx hb dL_1293 (by decide) (fun _ => ?_) (fun cn => absurd rfl cn)
  exact kx g X1 M1 H locs ls hR1 hw hl
set_option maxRecDepth 100000 in
theorem lc_least {p : Program} {l : Launch} {e : Env} {s : State} {m : MethodId} {below : List Frame} {meth : Method} {c : Code} {Q : State → Prop} {cells slots b L j : Nat} {xs : Nat → Int32} {g : xG} {ρ : Nat → Nat} {X : xS} {M : mS} {A : Nat → Prop} {H : Heap} {locs : List Loc} {ls : Array Slot} (hc : qC R_law code p s m #[Value.ref b] c) (hml : c.maxLocals = 4) (hX : va_X b L xs s s.heap) (hbl : b < s.heap.size) (hbA : ¬ A b) (hL : L ≤ 384) (hj : 6 * j + 6 ≤ L) (hR : Rl X M) (hw : xJ g A s.heap s (mW (mgX g ρ) M ++ xW g X) H locs) (hl : lv_has ls 4 [(0, .ref b), (1, .ref (xr g 0)), (2, .ref (ρ 0)), (3, .int (nI (6 * j)))]) (hcs : cells + 4 ≤ 600000 ∧ slots + 198 ≤ 7302250) (kx : ∀ (g : xG) (X : xS) (M : mS) (H : Heap) (locs : List Loc) (ls : Array Slot), Rl X M → xJ g A s.heap s (mW (mgX g ρ) M ++ xW g X) H locs → lv_has ls 4 [(0, .ref b), (1, .ref (xr g 0)), (2, .ref (ρ 0)), (3, .int (nI (6 * j)))] → W p l e room_1 s m #[Value.ref b] below meth c H locs (cells + 4) (slots + 198) Q (F0 m 1641 ls [])) : W p l e room_1 s m #[Value.ref b] below meth c H locs cells slots Q (F0 m 1298 ls []) := by
  have hx := hc.1
  have hb := hc.2.1
  have hc1 : cells + 4 ≤ room_1.cells := hcs.1
  have hc2 : slots + 198 ≤ room_1.slots := hcs.2
  refine lv_aload_n hx hb dL_1298 rfl (lv_at hl 1 rfl) ?_
  refine lv_aload_n hx hb dL_1299 rfl (lv_at hl 0 rfl) ?_
  refine lv_iload_n hx hb dL_1300 rfl (lv_at hl 3 rfl) ?_
  refine lv_iconst (v := 1) hx hb dL_1301 (by decide) ?_
  refine lv_iadd hx hb dL_1302 ?_
  refine va_sld hx hb hX hbl hbA hw.2.2.2.1 (idx_in (L := L) (j := j) (k := 1) 1 rfl (by decide) hL hj) dL_1303 ?_
  obtain ⟨r, X1, M1, hf1, hf2, hR1⟩ := st_least (Nat.le_refl 2000) hR (xs (nI (6 * j) + 1).toNatClampNeg)
  refine e_xcvi (As := [.int (xs (nI (6 * j) + 1).toNatClampNeg)]) (rest := []) hc hw law_room (hml.trans hl.1.symm) (cx_X_least l 2000 X (xs (nI (6 * j) + 1).toNatClampNeg) r X1 hf1) (⟨⟨(mem_g 1055 (by decide +kernel) rfl), (mem_g 1056 (by decide +kernel) rfl), (mem_g 1057 (by decide +kernel) rfl), (mem_g 77 (by decide +kernel) rfl), (mem_g 1058 (by decide +kernel) rfl)⟩, by decide, by decide +kernel, by decide⟩ : qCv R_law 151 yX11_least cX11_least 7 (some .int) 1) (x_recv_this (xJ_I (xJ_post hw))) (by decide) rfl rfl rfl (Nat.le_of_ble_eq_true rfl) dL_1304 (fun H locs hw => ?_) ⟨by omega, by omega⟩
  refine W.widen (k := cells + 4) (n := slots + 198) (by omega) (by omega) ?_
  have hw := xJ_perm List.perm_append_comm hw
  refine lv_aload_n hx hb dL_1307 rfl (lv_at hl 2 rfl) ?_
  refine lv_aload_n hx hb dL_1308 rfl (lv_at hl 0 rfl) ?_
  refine lv_iload_n hx hb dL_1309 rfl (lv_at hl 3 rfl) ?_
  refine lv_iconst (v := 1) hx hb dL_1310 (by decide) ?_
  refine lv_iadd hx hb dL_1311 ?_
  refine va_sld hx hb hX hbl hbA hw.2.2.2.1 (idx_in (L := L) (j := j) (k := 1) 1 rfl (by decide) hL hj) dL_1312 ?_
  refine e_mcvi (As := [.int (xs (nI (6 * j) + 1).toNatClampNeg)]) (rest := [.int r]) hc hw law_room (hml.trans hl.1.symm) (cm_least l 2000 M (xs (nI (6 * j) + 1).toNatClampNeg) r M1 hf2) (⟨⟨(mem_g 1642 (by decide +kernel) rfl), (mem_g 1643 (by decide +kernel) rfl), (mem_g 1644 (by decide +kernel) rfl), (mem_g 89 (by decide +kernel) rfl), (mem_g 1645 (by decide +kernel) rfl)⟩, by decide, by decide +kernel, by decide⟩ : qCv R_law 154 yX12_least cX12_least 7 (some .int) 1) rfl (by decide) rfl rfl rfl (Nat.le_of_ble_eq_true rfl) dL_1313 (fun H locs hw => ?_) ⟨by omega, by omega⟩
  have hw := xJ_perm List.perm_append_comm hw
  refine lv_icmp_eq (tgt := 1641) hx hb dL_1316 (by decide) (fun _ => ?_) (fun cn => absurd rfl cn)
  exact kx g X1 M1 H locs ls hR1 hw hl
set_option maxRecDepth 100000 in
theorem lc_sell {p : Program} {l : Launch} {e : Env} {s : State} {m : MethodId} {below : List Frame} {meth : Method} {c : Code} {Q : State → Prop} {cells slots b L j : Nat} {xs : Nat → Int32} {g : xG} {ρ : Nat → Nat} {X : xS} {M : mS} {A : Nat → Prop} {H : Heap} {locs : List Loc} {ls : Array Slot} (hc : qC R_law code p s m #[Value.ref b] c) (hml : c.maxLocals = 4) (hX : va_X b L xs s s.heap) (hbl : b < s.heap.size) (hbA : ¬ A b) (hL : L ≤ 384) (hj : 6 * j + 6 ≤ L) (hR : Rl X M) (hw : xJ g A s.heap s (mW (mgX g ρ) M ++ xW g X) H locs) (hl : lv_has ls 4 [(0, .ref b), (1, .ref (xr g 0)), (2, .ref (ρ 0)), (3, .int (nI (6 * j)))]) (hcs : cells + 4 ≤ 600000 ∧ slots + 198 ≤ 7302250) (kx : ∀ (g : xG) (X : xS) (M : mS) (H : Heap) (locs : List Loc) (ls : Array Slot), Rl X M → xJ g A s.heap s (mW (mgX g ρ) M ++ xW g X) H locs → lv_has ls 4 [(0, .ref b), (1, .ref (xr g 0)), (2, .ref (ρ 0)), (3, .int (nI (6 * j)))] → W p l e room_1 s m #[Value.ref b] below meth c H locs (cells + 4) (slots + 198) Q (F0 m 1641 ls [])) : W p l e room_1 s m #[Value.ref b] below meth c H locs cells slots Q (F0 m 1321 ls []) := by
  have hx := hc.1
  have hb := hc.2.1
  have hc1 : cells + 4 ≤ room_1.cells := hcs.1
  have hc2 : slots + 198 ≤ room_1.slots := hcs.2
  refine lv_aload_n hx hb dL_1321 rfl (lv_at hl 1 rfl) ?_
  refine lv_aload_n hx hb dL_1322 rfl (lv_at hl 0 rfl) ?_
  refine lv_iload_n hx hb dL_1323 rfl (lv_at hl 3 rfl) ?_
  refine lv_iconst (v := 1) hx hb dL_1324 (by decide) ?_
  refine lv_iadd hx hb dL_1325 ?_
  refine va_sld hx hb hX hbl hbA hw.2.2.2.1 (idx_in (L := L) (j := j) (k := 1) 1 rfl (by decide) hL hj) dL_1326 ?_
  obtain ⟨r, X1, M1, hf1, hf2, hR1⟩ := st_sell (Nat.le_refl 2000) hR (xs (nI (6 * j) + 1).toNatClampNeg)
  refine e_xcvi (As := [.int (xs (nI (6 * j) + 1).toNatClampNeg)]) (rest := []) hc hw law_room (hml.trans hl.1.symm) (cx_X_sell l 2000 X (xs (nI (6 * j) + 1).toNatClampNeg) r X1 hf1) (⟨⟨(mem_g 1059 (by decide +kernel) rfl), (mem_g 1060 (by decide +kernel) rfl), (mem_g 1061 (by decide +kernel) rfl), (mem_g 77 (by decide +kernel) rfl), (mem_g 1062 (by decide +kernel) rfl)⟩, by decide, by decide +kernel, by decide⟩ : qCv R_law 155 yX11_sell cX11_sell 7 (some .int) 1) (x_recv_this (xJ_I (xJ_post hw))) (by decide) rfl rfl rfl (Nat.le_of_ble_eq_true rfl) dL_1327 (fun H locs hw => ?_) ⟨by omega, by omega⟩
  refine W.widen (k := cells + 4) (n := slots + 198) (by omega) (by omega) ?_
  have hw := xJ_perm List.perm_append_comm hw
  refine lv_aload_n hx hb dL_1330 rfl (lv_at hl 2 rfl) ?_
  refine lv_aload_n hx hb dL_1331 rfl (lv_at hl 0 rfl) ?_
  refine lv_iload_n hx hb dL_1332 rfl (lv_at hl 3 rfl) ?_
  refine lv_iconst (v := 1) hx hb dL_1333 (by decide) ?_
  refine lv_iadd hx hb dL_1334 ?_
  refine va_sld hx hb hX hbl hbA hw.2.2.2.1 (idx_in (L := L) (j := j) (k := 1) 1 rfl (by decide) hL hj) dL_1335 ?_
  refine e_mcvi (As := [.int (xs (nI (6 * j) + 1).toNatClampNeg)]) (rest := [.int r]) hc hw law_room (hml.trans hl.1.symm) (cm_sell l 2000 M (xs (nI (6 * j) + 1).toNatClampNeg) r M1 hf2) (⟨⟨(mem_g 1646 (by decide +kernel) rfl), (mem_g 1647 (by decide +kernel) rfl), (mem_g 1648 (by decide +kernel) rfl), (mem_g 89 (by decide +kernel) rfl), (mem_g 1649 (by decide +kernel) rfl)⟩, by decide, by decide +kernel, by decide⟩ : qCv R_law 158 yX12_sell cX12_sell 6 (some .int) 1) rfl (by decide) rfl rfl rfl (Nat.le_of_ble_eq_true rfl) dL_1336 (fun H locs hw => ?_) ⟨by omega, by omega⟩
  have hw := xJ_perm List.perm_append_comm hw
  refine lv_icmp_eq (tgt := 1641) hx hb dL_1339 (by decide) (fun _ => ?_) (fun cn => absurd rfl cn)
  exact kx g X1 M1 H locs ls hR1 hw hl
set_option maxRecDepth 100000 in
theorem lc_flat {p : Program} {l : Launch} {e : Env} {s : State} {m : MethodId} {below : List Frame} {meth : Method} {c : Code} {Q : State → Prop} {cells slots b L j : Nat} {xs : Nat → Int32} {g : xG} {ρ : Nat → Nat} {X : xS} {M : mS} {A : Nat → Prop} {H : Heap} {locs : List Loc} {ls : Array Slot} (hc : qC R_law code p s m #[Value.ref b] c) (hml : c.maxLocals = 4) (hX : va_X b L xs s s.heap) (hbl : b < s.heap.size) (hbA : ¬ A b) (hL : L ≤ 384) (hj : 6 * j + 6 ≤ L) (hR : Rl X M) (hw : xJ g A s.heap s (mW (mgX g ρ) M ++ xW g X) H locs) (hl : lv_has ls 4 [(0, .ref b), (1, .ref (xr g 0)), (2, .ref (ρ 0)), (3, .int (nI (6 * j)))]) (hcs : cells + 4 ≤ 600000 ∧ slots + 198 ≤ 7302250) (kx : ∀ (g : xG) (X : xS) (M : mS) (H : Heap) (locs : List Loc) (ls : Array Slot), Rl X M → xJ g A s.heap s (mW (mgX g ρ) M ++ xW g X) H locs → lv_has ls 4 [(0, .ref b), (1, .ref (xr g 0)), (2, .ref (ρ 0)), (3, .int (nI (6 * j)))] → W p l e room_1 s m #[Value.ref b] below meth c H locs (cells + 4) (slots + 198) Q (F0 m 1641 ls [])) : W p l e room_1 s m #[Value.ref b] below meth c H locs cells slots Q (F0 m 1344 ls []) := by
  have hx := hc.1
  have hb := hc.2.1
  have hc1 : cells + 4 ≤ room_1.cells := hcs.1
  have hc2 : slots + 198 ≤ room_1.slots := hcs.2
  refine lv_aload_n hx hb dL_1344 rfl (lv_at hl 1 rfl) ?_
  obtain ⟨r, hf1, hf2⟩ := st_flat (Nat.le_refl 2000) hR 
  refine e_xcvi (As := []) (rest := []) hc hw law_room (hml.trans hl.1.symm) (cx_X_flat l 2000 X r hf1) (⟨⟨(mem_g 1071 (by decide +kernel) rfl), (mem_g 1072 (by decide +kernel) rfl), (mem_g 1073 (by decide +kernel) rfl), (mem_g 77 (by decide +kernel) rfl), (mem_g 1074 (by decide +kernel) rfl)⟩, by decide, by decide +kernel, by decide⟩ : qCv R_law 159 yX11_flat cX11_flat 3 (some .int) 0) (x_recv_this (xJ_I (xJ_post hw))) (by decide) rfl rfl rfl (Nat.le_of_ble_eq_true rfl) dL_1345 (fun H locs hw => ?_) ⟨by omega, by omega⟩
  refine W.widen (k := cells + 4) (n := slots + 198) (by omega) (by omega) ?_
  have hw := xJ_perm List.perm_append_comm hw
  refine lv_aload_n hx hb dL_1348 rfl (lv_at hl 2 rfl) ?_
  refine e_mcvi (As := []) (rest := [.int r]) hc hw law_room (hml.trans hl.1.symm) (cm_flat l 2000 M r hf2) (⟨⟨(mem_g 1650 (by decide +kernel) rfl), (mem_g 1651 (by decide +kernel) rfl), (mem_g 1652 (by decide +kernel) rfl), (mem_g 89 (by decide +kernel) rfl), (mem_g 1653 (by decide +kernel) rfl)⟩, by decide, by decide +kernel, by decide⟩ : qCv R_law 162 yX12_flat cX12_flat 3 (some .int) 0) rfl (by decide) rfl rfl rfl (Nat.le_of_ble_eq_true rfl) dL_1349 (fun H locs hw => ?_) ⟨by omega, by omega⟩
  have hw := xJ_perm List.perm_append_comm hw
  refine lv_icmp_eq (tgt := 1641) hx hb dL_1352 (by decide) (fun _ => ?_) (fun cn => absurd rfl cn)
  exact kx g X M H locs ls hR hw hl
set_option maxRecDepth 100000 in
theorem lc_thursday {p : Program} {l : Launch} {e : Env} {s : State} {m : MethodId} {below : List Frame} {meth : Method} {c : Code} {Q : State → Prop} {cells slots b L j : Nat} {xs : Nat → Int32} {g : xG} {ρ : Nat → Nat} {X : xS} {M : mS} {A : Nat → Prop} {H : Heap} {locs : List Loc} {ls : Array Slot} (hc : qC R_law code p s m #[Value.ref b] c) (hml : c.maxLocals = 4) (hX : va_X b L xs s s.heap) (hbl : b < s.heap.size) (hbA : ¬ A b) (hL : L ≤ 384) (hj : 6 * j + 6 ≤ L) (hR : Rl X M) (hw : xJ g A s.heap s (mW (mgX g ρ) M ++ xW g X) H locs) (hl : lv_has ls 4 [(0, .ref b), (1, .ref (xr g 0)), (2, .ref (ρ 0)), (3, .int (nI (6 * j)))]) (hcs : cells + 4 ≤ 600000 ∧ slots + 198 ≤ 7302250) (kx : ∀ (g : xG) (X : xS) (M : mS) (H : Heap) (locs : List Loc) (ls : Array Slot), Rl X M → xJ g A s.heap s (mW (mgX g ρ) M ++ xW g X) H locs → lv_has ls 4 [(0, .ref b), (1, .ref (xr g 0)), (2, .ref (ρ 0)), (3, .int (nI (6 * j)))] → W p l e room_1 s m #[Value.ref b] below meth c H locs (cells + 4) (slots + 198) Q (F0 m 1641 ls [])) : W p l e room_1 s m #[Value.ref b] below meth c H locs cells slots Q (F0 m 1357 ls []) := by
  have hx := hc.1
  have hb := hc.2.1
  have hc1 : cells + 4 ≤ room_1.cells := hcs.1
  have hc2 : slots + 198 ≤ room_1.slots := hcs.2
  refine lv_aload_n hx hb dL_1357 rfl (lv_at hl 1 rfl) ?_
  refine lv_aload_n hx hb dL_1358 rfl (lv_at hl 0 rfl) ?_
  refine lv_iload_n hx hb dL_1359 rfl (lv_at hl 3 rfl) ?_
  refine lv_iconst (v := 1) hx hb dL_1360 (by decide) ?_
  refine lv_iadd hx hb dL_1361 ?_
  refine va_sld hx hb hX hbl hbA hw.2.2.2.1 (idx_in (L := L) (j := j) (k := 1) 1 rfl (by decide) hL hj) dL_1362 ?_
  obtain ⟨r, hf1, hf2⟩ := st_thursday (Nat.le_refl 2000) hR (xs (nI (6 * j) + 1).toNatClampNeg)
  refine e_xcvi (As := [.int (xs (nI (6 * j) + 1).toNatClampNeg)]) (rest := []) hc hw law_room (hml.trans hl.1.symm) (cx_X_thursday l 2000 X (xs (nI (6 * j) + 1).toNatClampNeg) r hf1) (⟨⟨(mem_g 1075 (by decide +kernel) rfl), (mem_g 1076 (by decide +kernel) rfl), (mem_g 1077 (by decide +kernel) rfl), (mem_g 77 (by decide +kernel) rfl), (mem_g 1078 (by decide +kernel) rfl)⟩, by decide, by decide +kernel, by decide⟩ : qCv R_law 163 yX11_thursday cX11_thursday 5 (some .int) 1) (x_recv_this (xJ_I (xJ_post hw))) (by decide) rfl rfl rfl (Nat.le_of_ble_eq_true rfl) dL_1363 (fun H locs hw => ?_) ⟨by omega, by omega⟩
  refine W.widen (k := cells + 4) (n := slots + 198) (by omega) (by omega) ?_
  have hw := xJ_perm List.perm_append_comm hw
  refine lv_aload_n hx hb dL_1366 rfl (lv_at hl 2 rfl) ?_
  refine lv_aload_n hx hb dL_1367 rfl (lv_at hl 0 rfl) ?_
  refine lv_iload_n hx hb dL_1368 rfl (lv_at hl 3 rfl) ?_
  refine lv_iconst (v := 1) hx hb dL_1369 (by decide) ?_
  refine lv_iadd hx hb dL_1370 ?_
  refine va_sld hx hb hX hbl hbA hw.2.2.2.1 (idx_in (L := L) (j := j) (k := 1) 1 rfl (by decide) hL hj) dL_1371 ?_
  refine e_mcvi (As := [.int (xs (nI (6 * j) + 1).toNatClampNeg)]) (rest := [.int r]) hc hw law_room (hml.trans hl.1.symm) (cm_thursday l 2000 M (xs (nI (6 * j) + 1).toNatClampNeg) r hf2) (⟨⟨(mem_g 1654 (by decide +kernel) rfl), (mem_g 1655 (by decide +kernel) rfl), (mem_g 1656 (by decide +kernel) rfl), (mem_g 89 (by decide +kernel) rfl), (mem_g 1657 (by decide +kernel) rfl)⟩, by decide, by decide +kernel, by decide⟩ : qCv R_law 166 yX12_thursday cX12_thursday 4 (some .int) 1) rfl (by decide) rfl rfl rfl (Nat.le_of_ble_eq_true rfl) dL_1372 (fun H locs hw => ?_) ⟨by omega, by omega⟩
  have hw := xJ_perm List.perm_append_comm hw
  refine lv_icmp_eq (tgt := 1641) hx hb dL_1375 (by decide) (fun _ => ?_) (fun cn => absurd rfl cn)
  exact kx g X M H locs ls hR hw hl
end LAWCALL3
