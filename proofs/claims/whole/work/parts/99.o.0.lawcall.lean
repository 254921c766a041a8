section LAWCALL0
theorem law_room : qRoom room_1 2000 := ⟨Nat.le_of_ble_eq_true rfl, Nat.le_of_ble_eq_true rfl⟩
theorem idx_in {j L : Nat} {k : Int32} (n : Nat) (hk : k = nI n) (hn : n < 6) (hL : L ≤ 384) (hj : 6 * j + 6 ≤ L) : vp_in (nI (6 * j) + k) L := by
  rw [hk, nI_add]
  exact vp_in_nI (by omega) (by omega)
set_option maxRecDepth 100000 in
theorem lc_sort {p : Program} {l : Launch} {e : Env} {s : State} {m : MethodId} {below : List Frame} {meth : Method} {c : Code} {Q : State → Prop} {cells slots b L j : Nat} {xs : Nat → Int32} {g : xG} {ρ : Nat → Nat} {X : xS} {M : mS} {A : Nat → Prop} {H : Heap} {locs : List Loc} {ls : Array Slot} (hc : qC R_law code p s m #[Value.ref b] c) (hml : c.maxLocals = 4) (hX : va_X b L xs s s.heap) (hbl : b < s.heap.size) (hbA : ¬ A b) (hL : L ≤ 384) (hj : 6 * j + 6 ≤ L) (hR : Rl X M) (hw : xJ g A s.heap s (mW (mgX g ρ) M ++ xW g X) H locs) (hl : lv_has ls 4 [(0, .ref b), (1, .ref (xr g 0)), (2, .ref (ρ 0)), (3, .int (nI (6 * j)))]) (hcs : cells + 4 ≤ 600000 ∧ slots + 198 ≤ 7302250) (kx : ∀ (g : xG) (X : xS) (M : mS) (H : Heap) (locs : List Loc) (ls : Array Slot), Rl X M → xJ g A s.heap s (mW (mgX g ρ) M ++ xW g X) H locs → lv_has ls 4 [(0, .ref b), (1, .ref (xr g 0)), (2, .ref (ρ 0)), (3, .int (nI (6 * j)))] → W p l e room_1 s m #[Value.ref b] below meth c H locs (cells + 4) (slots + 198) Q (F0 m 1641 ls [])) : W p l e room_1 s m #[Value.ref b] below meth c H locs cells slots Q (F0 m 220 ls []) := by
  have hx := hc.1
  have hb := hc.2.1
  have hc1 : cells + 4 ≤ room_1.cells := hcs.1
  have hc2 : slots + 198 ≤ room_1.slots := hcs.2
  refine lv_aload_n hx hb dL_220 rfl (lv_at hl 1 rfl) ?_
  refine lv_aload_n hx hb dL_221 rfl (lv_at hl 0 rfl) ?_
  refine lv_iload_n hx hb dL_222 rfl (lv_at hl 3 rfl) ?_
  refine lv_iconst (v := 1) hx hb dL_223 (by decide) ?_
  refine lv_iadd hx hb dL_224 ?_
  refine va_sld hx hb hX hbl hbA hw.2.2.2.1 (idx_in (L := L) (j := j) (k := 1) 1 rfl (by decide) hL hj) dL_225 ?_
  refine lv_aload_n hx hb dL_226 rfl (lv_at hl 0 rfl) ?_
  refine lv_iload_n hx hb dL_227 rfl (lv_at hl 3 rfl) ?_
  refine lv_iconst (v := 2) hx hb dL_228 (by decide) ?_
  refine lv_iadd hx hb dL_229 ?_
  refine va_sld hx hb hX hbl hbA hw.2.2.2.1 (idx_in (L := L) (j := j) (k := 2) 2 rfl (by decide) hL hj) dL_230 ?_
  refine lv_aload_n hx hb dL_231 rfl (lv_at hl 0 rfl) ?_
  refine lv_iload_n hx hb dL_232 rfl (lv_at hl 3 rfl) ?_
  refine lv_iconst (v := 3) hx hb dL_233 (by decide) ?_
  refine lv_iadd hx hb dL_234 ?_
  refine va_sld hx hb hX hbl hbA hw.2.2.2.1 (idx_in (L := L) (j := j) (k := 3) 3 rfl (by decide) hL hj) dL_235 ?_
  obtain ⟨r, X1, M1, hf1, hf2, hR1⟩ := st_sort (N := 2000) hR (xs (nI (6 * j) + 1).toNatClampNeg) (xs (nI (6 * j) + 2).toNatClampNeg) (xs (nI (6 * j) + 3).toNatClampNeg)
  refine e_xcvi (As := [.int (xs (nI (6 * j) + 1).toNatClampNeg), .int (xs (nI (6 * j) + 2).toNatClampNeg), .int (xs (nI (6 * j) + 3).toNatClampNeg)]) (rest := []) hc hw law_room (hml.trans hl.1.symm) (cx_X_sort l 2000 X (xs (nI (6 * j) + 1).toNatClampNeg) (xs (nI (6 * j) + 2).toNatClampNeg) (xs (nI (6 * j) + 3).toNatClampNeg) r X1 hf1) (⟨⟨(mem_g 523 (by decide +kernel) rfl), (mem_g 524 (by decide +kernel) rfl), (mem_g 525 (by decide +kernel) rfl), (mem_g 77 (by decide +kernel) rfl), (mem_g 526 (by decide +kernel) rfl)⟩, by decide, by decide +kernel, by decide⟩ : qCv R_law 13 yX11_sort cX11_sort 6 (some .int) 3) (x_recv_this (xJ_I (xJ_post hw))) (by decide) rfl rfl rfl (Nat.le_of_ble_eq_true rfl) dL_236 (fun H locs hw => ?_) ⟨by omega, by omega⟩
  refine W.widen (k := cells + 4) (n := slots + 198) (by omega) (by omega) ?_
  have hw := xJ_perm List.perm_append_comm hw
  refine lv_aload_n hx hb dL_239 rfl (lv_at hl 2 rfl) ?_
  refine lv_aload_n hx hb dL_240 rfl (lv_at hl 0 rfl) ?_
  refine lv_iload_n hx hb dL_241 rfl (lv_at hl 3 rfl) ?_
  refine lv_iconst (v := 1) hx hb dL_242 (by decide) ?_
  refine lv_iadd hx hb dL_243 ?_
  refine va_sld hx hb hX hbl hbA hw.2.2.2.1 (idx_in (L := L) (j := j) (k := 1) 1 rfl (by decide) hL hj) dL_244 ?_
  refine lv_aload_n hx hb dL_245 rfl (lv_at hl 0 rfl) ?_
  refine lv_iload_n hx hb dL_246 rfl (lv_at hl 3 rfl) ?_
  refine lv_iconst (v := 2) hx hb dL_247 (by decide) ?_
  refine lv_iadd hx hb dL_248 ?_
  refine va_sld hx hb hX hbl hbA hw.2.2.2.1 (idx_in (L := L) (j := j) (k := 2) 2 rfl (by decide) hL hj) dL_249 ?_
  refine lv_aload_n hx hb dL_250 rfl (lv_at hl 0 rfl) ?_
  refine lv_iload_n hx hb dL_251 rfl (lv_at hl 3 rfl) ?_
  refine lv_iconst (v := 3) hx hb dL_252 (by decide) ?_
  refine lv_iadd hx hb dL_253 ?_
  refine va_sld hx hb hX hbl hbA hw.2.2.2.1 (idx_in (L := L) (j := j) (k := 3) 3 rfl (by decide) hL hj) dL_254 ?_
  refine e_mcvi (As := [.int (xs (nI (6 * j) + 1).toNatClampNeg), .int (xs (nI (6 * j) + 2).toNatClampNeg), .int (xs (nI (6 * j) + 3).toNatClampNeg)]) (rest := [.int r]) hc hw law_room (hml.trans hl.1.symm) (cm_sort l 2000 M (xs (nI (6 * j) + 1).toNatClampNeg) (xs (nI (6 * j) + 2).toNatClampNeg) (xs (nI (6 * j) + 3).toNatClampNeg) r M1 hf2) (⟨⟨(mem_g 1325 (by decide +kernel) rfl), (mem_g 1326 (by decide +kernel) rfl), (mem_g 1327 (by decide +kernel) rfl), (mem_g 89 (by decide +kernel) rfl), (mem_g 1328 (by decide +kernel) rfl)⟩, by decide, by decide +kernel, by decide⟩ : qCv R_law 17 yX12_sort cX12_sort 5 (some .int) 3) rfl (by decide) rfl rfl rfl (Nat.le_of_ble_eq_true rfl) dL_255 (fun H locs hw => ?_) ⟨by omega, by omega⟩
  have hw := xJ_perm List.perm_append_comm hw
  refine lv_icmp_eq (tgt := 1641) hx hb dL_258 (by decide) (fun _ => ?_) (fun cn => absurd rfl cn)
  exact kx g X1 M1 H locs ls hR1 hw hl
set_option maxRecDepth 100000 in
theorem lc_row {p : Program} {l : Launch} {e : Env} {s : State} {m : MethodId} {below : List Frame} {meth : Method} {c : Code} {Q : State → Prop} {cells slots b L j : Nat} {xs : Nat → Int32} {g : xG} {ρ : Nat → Nat} {X : xS} {M : mS} {A : Nat → Prop} {H : Heap} {locs : List Loc} {ls : Array Slot} (hc : qC R_law code p s m #[Value.ref b] c) (hml : c.maxLocals = 4) (hX : va_X b L xs s s.heap) (hbl : b < s.heap.size) (hbA : ¬ A b) (hL : L ≤ 384) (hj : 6 * j + 6 ≤ L) (hR : Rl X M) (hw : xJ g A s.heap s (mW (mgX g ρ) M ++ xW g X) H locs) (hl : lv_has ls 4 [(0, .ref b), (1, .ref (xr g 0)), (2, .ref (ρ 0)), (3, .int (nI (6 * j)))]) (hcs : cells + 4 ≤ 600000 ∧ slots + 198 ≤ 7302250) (kx : ∀ (g : xG) (X : xS) (M : mS) (H : Heap) (locs : List Loc) (ls : Array Slot), Rl X M → xJ g A s.heap s (mW (mgX g ρ) M ++ xW g X) H locs → lv_has ls 4 [(0, .ref b), (1, .ref (xr g 0)), (2, .ref (ρ 0)), (3, .int (nI (6 * j)))] → W p l e room_1 s m #[Value.ref b] below meth c H locs (cells + 4) (slots + 198) Q (F0 m 1641 ls [])) : W p l e room_1 s m #[Value.ref b] below meth c H locs cells slots Q (F0 m 263 ls []) := by
  have hx := hc.1
  have hb := hc.2.1
  have hc1 : cells + 4 ≤ room_1.cells := hcs.1
  have hc2 : slots + 198 ≤ room_1.slots := hcs.2
  refine lv_aload_n hx hb dL_263 rfl (lv_at hl 1 rfl) ?_
  refine lv_aload_n hx hb dL_264 rfl (lv_at hl 0 rfl) ?_
  refine lv_iload_n hx hb dL_265 rfl (lv_at hl 3 rfl) ?_
  refine lv_iconst (v := 1) hx hb dL_266 (by decide) ?_
  refine lv_iadd hx hb dL_267 ?_
  refine va_sld hx hb hX hbl hbA hw.2.2.2.1 (idx_in (L := L) (j := j) (k := 1) 1 rfl (by decide) hL hj) dL_268 ?_
  refine lv_aload_n hx hb dL_269 rfl (lv_at hl 0 rfl) ?_
  refine lv_iload_n hx hb dL_270 rfl (lv_at hl 3 rfl) ?_
  refine lv_iconst (v := 2) hx hb dL_271 (by decide) ?_
  refine lv_iadd hx hb dL_272 ?_
  refine va_sld hx hb hX hbl hbA hw.2.2.2.1 (idx_in (L := L) (j := j) (k := 2) 2 rfl (by decide) hL hj) dL_273 ?_
  refine lv_aload_n hx hb dL_274 rfl (lv_at hl 0 rfl) ?_
  refine lv_iload_n hx hb dL_275 rfl (lv_at hl 3 rfl) ?_
  refine lv_iconst (v := 3) hx hb dL_276 (by decide) ?_
  refine lv_iadd hx hb dL_277 ?_
  refine va_sld hx hb hX hbl hbA hw.2.2.2.1 (idx_in (L := L) (j := j) (k := 3) 3 rfl (by decide) hL hj) dL_278 ?_
  obtain ⟨r, X1, M1, hf1, hf2, hR1⟩ := st_row (N := 2000) hR (xs (nI (6 * j) + 1).toNatClampNeg) (xs (nI (6 * j) + 2).toNatClampNeg) (xs (nI (6 * j) + 3).toNatClampNeg)
  refine e_xcvix (As := [.int (xs (nI (6 * j) + 1).toNatClampNeg), .int (xs (nI (6 * j) + 2).toNatClampNeg), .int (xs (nI (6 * j) + 3).toNatClampNeg)]) (rest := []) hc hw law_room (hml.trans hl.1.symm) (cx_X_row l X (xs (nI (6 * j) + 1).toNatClampNeg) (xs (nI (6 * j) + 2).toNatClampNeg) (xs (nI (6 * j) + 3).toNatClampNeg) r X1 hf1) (⟨⟨(mem_g 533 (by decide +kernel) rfl), (mem_g 534 (by decide +kernel) rfl), (mem_g 535 (by decide +kernel) rfl), (mem_g 77 (by decide +kernel) rfl), (mem_g 536 (by decide +kernel) rfl)⟩, by decide, by decide +kernel, by decide⟩ : qCv R_law 18 yX11_row cX11_row 4 (some .int) 3) (x_recv_this (xJ_I (xJ_post hw))) (by decide) rfl rfl rfl (Nat.le_of_ble_eq_true rfl) dL_279 (fun g2 H locs hg hw => ?_) ⟨by omega, by omega⟩
  rw [← mgX_g ρ hg] at hw
  have hl : lv_has ls 4 [(0, .ref b), (1, .ref (xr g2 0)), (2, .ref (ρ 0)), (3, .int (nI (6 * j)))] := by rw [show xr g2 0 = xr g 0 from hg.2.2 0 (.inl rfl)]; exact hl
  clear hg
  refine W.widen (k := cells + 4) (n := slots + 198) (by omega) (by omega) ?_
  generalize g2 = g at hw hl ⊢
  have hw := xJ_perm List.perm_append_comm hw
  refine lv_aload_n hx hb dL_282 rfl (lv_at hl 2 rfl) ?_
  refine lv_aload_n hx hb dL_283 rfl (lv_at hl 0 rfl) ?_
  refine lv_iload_n hx hb dL_284 rfl (lv_at hl 3 rfl) ?_
  refine lv_iconst (v := 1) hx hb dL_285 (by decide) ?_
  refine lv_iadd hx hb dL_286 ?_
  refine va_sld hx hb hX hbl hbA hw.2.2.2.1 (idx_in (L := L) (j := j) (k := 1) 1 rfl (by decide) hL hj) dL_287 ?_
  refine lv_aload_n hx hb dL_288 rfl (lv_at hl 0 rfl) ?_
  refine lv_iload_n hx hb dL_289 rfl (lv_at hl 3 rfl) ?_
  refine lv_iconst (v := 2) hx hb dL_290 (by decide) ?_
  refine lv_iadd hx hb dL_291 ?_
  refine va_sld hx hb hX hbl hbA hw.2.2.2.1 (idx_in (L := L) (j := j) (k := 2) 2 rfl (by decide) hL hj) dL_292 ?_
  refine lv_aload_n hx hb dL_293 rfl (lv_at hl 0 rfl) ?_
  refine lv_iload_n hx hb dL_294 rfl (lv_at hl 3 rfl) ?_
  refine lv_iconst (v := 3) hx hb dL_295 (by decide) ?_
  refine lv_iadd hx hb dL_296 ?_
  refine va_sld hx hb hX hbl hbA hw.2.2.2.1 (idx_in (L := L) (j := j) (k := 3) 3 rfl (by decide) hL hj) dL_297 ?_
  refine e_mcvi (As := [.int (xs (nI (6 * j) + 1).toNatClampNeg), .int (xs (nI (6 * j) + 2).toNatClampNeg), .int (xs (nI (6 * j) + 3).toNatClampNeg)]) (rest := [.int r]) hc hw law_room (hml.trans hl.1.symm) (cm_row l 2000 M (xs (nI (6 * j) + 1).toNatClampNeg) (xs (nI (6 * j) + 2).toNatClampNeg) (xs (nI (6 * j) + 3).toNatClampNeg) r M1 hf2) (⟨⟨(mem_g 1332 (by decide +kernel) rfl), (mem_g 1333 (by decide +kernel) rfl), (mem_g 1334 (by decide +kernel) rfl), (mem_g 89 (by decide +kernel) rfl), (mem_g 1335 (by decide +kernel) rfl)⟩, by decide, by decide +kernel, by decide⟩ : qCv R_law 21 yX12_row cX12_row 4 (some .int) 3) rfl (by decide) rfl rfl rfl (Nat.le_of_ble_eq_true rfl) dL_298 (fun H locs hw => ?_) ⟨by omega, by omega⟩
  have hw := xJ_perm List.perm_append_comm hw
  refine lv_icmp_eq (tgt := 1641) hx hb dL_301 (by decide) (fun _ => ?_) (fun cn => absurd rfl cn)
  exact kx g X1 M1 H locs ls hR1 hw hl
set_option maxRecDepth 100000 in
theorem lc_set {p : Program} {l : Launch} {e : Env} {s : State} {m : MethodId} {below : List Frame} {meth : Method} {c : Code} {Q : State → Prop} {cells slots b L j : Nat} {xs : Nat → Int32} {g : xG} {ρ : Nat → Nat} {X : xS} {M : mS} {A : Nat → Prop} {H : Heap} {locs : List Loc} {ls : Array Slot} (hc : qC R_law code p s m #[Value.ref b] c) (hml : c.maxLocals = 4) (hX : va_X b L xs s s.heap) (hbl : b < s.heap.size) (hbA : ¬ A b) (hL : L ≤ 384) (hj : 6 * j + 6 ≤ L) (hR : Rl X M) (hw : xJ g A s.heap s (mW (mgX g ρ) M ++ xW g X) H locs) (hl : lv_has ls 4 [(0, .ref b), (1, .ref (xr g 0)), (2, .ref (ρ 0)), (3, .int (nI (6 * j)))]) (hcs : cells + 4 ≤ 600000 ∧ slots + 198 ≤ 7302250) (kx : ∀ (g : xG) (X : xS) (M : mS) (H : Heap) (locs : List Loc) (ls : Array Slot), Rl X M → xJ g A s.heap s (mW (mgX g ρ) M ++ xW g X) H locs → lv_has ls 4 [(0, .ref b), (1, .ref (xr g 0)), (2, .ref (ρ 0)), (3, .int (nI (6 * j)))] → W p l e room_1 s m #[Value.ref b] below meth c H locs (cells + 4) (slots + 198) Q (F0 m 1641 ls [])) : W p l e room_1 s m #[Value.ref b] below meth c H locs cells slots Q (F0 m 306 ls []) := by
  have hx := hc.1
  have hb := hc.2.1
  have hc1 : cells + 4 ≤ room_1.cells := hcs.1
  have hc2 : slots + 198 ≤ room_1.slots := hcs.2
  refine lv_aload_n hx hb dL_306 rfl (lv_at hl 1 rfl) ?_
  refine lv_aload_n hx hb dL_307 rfl (lv_at hl 0 rfl) ?_
  refine lv_iload_n hx hb dL_308 rfl (lv_at hl 3 rfl) ?_
  refine lv_iconst (v := 1) hx hb dL_309 (by decide) ?_
  refine lv_iadd hx hb dL_310 ?_
  refine va_sld hx hb hX hbl hbA hw.2.2.2.1 (idx_in (L := L) (j := j) (k := 1) 1 rfl (by decide) hL hj) dL_311 ?_
  refine lv_aload_n hx hb dL_312 rfl (lv_at hl 0 rfl) ?_
  refine lv_iload_n hx hb dL_313 rfl (lv_at hl 3 rfl) ?_
  refine lv_iconst (v := 2) hx hb dL_314 (by decide) ?_
  refine lv_iadd hx hb dL_315 ?_
  refine va_sld hx hb hX hbl hbA hw.2.2.2.1 (idx_in (L := L) (j := j) (k := 2) 2 rfl (by decide) hL hj) dL_316 ?_
  refine lv_aload_n hx hb dL_317 rfl (lv_at hl 0 rfl) ?_
  refine lv_iload_n hx hb dL_318 rfl (lv_at hl 3 rfl) ?_
  refine lv_iconst (v := 3) hx hb dL_319 (by decide) ?_
  refine lv_iadd hx hb dL_320 ?_
  refine va_sld hx hb hX hbl hbA hw.2.2.2.1 (idx_in (L := L) (j := j) (k := 3) 3 rfl (by decide) hL hj) dL_321 ?_
  obtain ⟨r, X1, M1, hf1, hf2, hR1⟩ := st_set (N := 2000) hR (xs (nI (6 * j) + 1).toNatClampNeg) (xs (nI (6 * j) + 2).toNatClampNeg) (xs (nI (6 * j) + 3).toNatClampNeg)
  refine e_xcvi (As := [.int (xs (nI (6 * j) + 1).toNatClampNeg), .int (xs (nI (6 * j) + 2).toNatClampNeg), .int (xs (nI (6 * j) + 3).toNatClampNeg)]) (rest := []) hc hw law_room (hml.trans hl.1.symm) (cx_X_set l 2000 X (xs (nI (6 * j) + 1).toNatClampNeg) (xs (nI (6 * j) + 2).toNatClampNeg) (xs (nI (6 * j) + 3).toNatClampNeg) r X1 hf1) (⟨⟨(mem_g 702 (by decide +kernel) rfl), (mem_g 703 (by decide +kernel) rfl), (mem_g 704 (by decide +kernel) rfl), (mem_g 77 (by decide +kernel) rfl), (mem_g 705 (by decide +kernel) rfl)⟩, by decide, by decide +kernel, by decide⟩ : qCv R_law 22 yX11_set cX11_set 6 (some .int) 3) (x_recv_this (xJ_I (xJ_post hw))) (by decide) rfl rfl rfl (Nat.le_of_ble_eq_true rfl) dL_322 (fun H locs hw => ?_) ⟨by omega, by omega⟩
  refine W.widen (k := cells + 4) (n := slots + 198) (by omega) (by omega) ?_
  have hw := xJ_perm List.perm_append_comm hw
  refine lv_aload_n hx hb dL_325 rfl (lv_at hl 2 rfl) ?_
  refine lv_aload_n hx hb dL_326 rfl (lv_at hl 0 rfl) ?_
  refine lv_iload_n hx hb dL_327 rfl (lv_at hl 3 rfl) ?_
  refine lv_iconst (v := 1) hx hb dL_328 (by decide) ?_
  refine lv_iadd hx hb dL_329 ?_
  refine va_sld hx hb hX hbl hbA hw.2.2.2.1 (idx_in (L := L) (j := j) (k := 1) 1 rfl (by decide) hL hj) dL_330 ?_
  refine lv_aload_n hx hb dL_331 rfl (lv_at hl 0 rfl) ?_
  refine lv_iload_n hx hb dL_332 rfl (lv_at hl 3 rfl) ?_
  refine lv_iconst (v := 2) hx hb dL_333 (by decide) ?_
  refine lv_iadd hx hb dL_334 ?_
  refine va_sld hx hb hX hbl hbA hw.2.2.2.1 (idx_in (L := L) (j := j) (k := 2) 2 rfl (by decide) hL hj) dL_335 ?_
  refine lv_aload_n hx hb dL_336 rfl (lv_at hl 0 rfl) ?_
  refine lv_iload_n hx hb dL_337 rfl (lv_at hl 3 rfl) ?_
  refine lv_iconst (v := 3) hx hb dL_338 (by decide) ?_
  refine lv_iadd hx hb dL_339 ?_
  refine va_sld hx hb hX hbl hbA hw.2.2.2.1 (idx_in (L := L) (j := j) (k := 3) 3 rfl (by decide) hL hj) dL_340 ?_
  refine e_mcvi (As := [.int (xs (nI (6 * j) + 1).toNatClampNeg), .int (xs (nI (6 * j) + 2).toNatClampNeg), .int (xs (nI (6 * j) + 3).toNatClampNeg)]) (rest := [.int r]) hc hw law_room (hml.trans hl.1.symm) (cm_set l 2000 M (xs (nI (6 * j) + 1).toNatClampNeg) (xs (nI (6 * j) + 2).toNatClampNeg) (xs (nI (6 * j) + 3).toNatClampNeg) r M1 hf2) (⟨⟨(mem_g 1336 (by decide +kernel) rfl), (mem_g 1337 (by decide +kernel) rfl), (mem_g 1338 (by decide +kernel) rfl), (mem_g 89 (by decide +kernel) rfl), (mem_g 1339 (by decide +kernel) rfl)⟩, by decide, by decide +kernel, by decide⟩ : qCv R_law 25 yX12_set cX12_set 5 (some .int) 3) rfl (by decide) rfl rfl rfl (Nat.le_of_ble_eq_true rfl) dL_341 (fun H locs hw => ?_) ⟨by omega, by omega⟩
  have hw := xJ_perm List.perm_append_comm hw
  refine lv_icmp_eq (tgt := 1641) hx hb dL_344 (by decide) (fun _ => ?_) (fun cn => absurd rfl cn)
  exact kx g X1 M1 H locs ls hR1 hw hl
set_option maxRecDepth 100000 in
theorem lc_sit {p : Program} {l : Launch} {e : Env} {s : State} {m : MethodId} {below : List Frame} {meth : Method} {c : Code} {Q : State → Prop} {cells slots b L j : Nat} {xs : Nat → Int32} {g : xG} {ρ : Nat → Nat} {X : xS} {M : mS} {A : Nat → Prop} {H : Heap} {locs : List Loc} {ls : Array Slot} (hc : qC R_law code p s m #[Value.ref b] c) (hml : c.maxLocals = 4) (hX : va_X b L xs s s.heap) (hbl : b < s.heap.size) (hbA : ¬ A b) (hL : L ≤ 384) (hj : 6 * j + 6 ≤ L) (hR : Rl X M) (hw : xJ g A s.heap s (mW (mgX g ρ) M ++ xW g X) H locs) (hl : lv_has ls 4 [(0, .ref b), (1, .ref (xr g 0)), (2, .ref (ρ 0)), (3, .int (nI (6 * j)))]) (hcs : cells + 4 ≤ 600000 ∧ slots + 198 ≤ 7302250) (kx : ∀ (g : xG) (X : xS) (M : mS) (H : Heap) (locs : List Loc) (ls : Array Slot), Rl X M → xJ g A s.heap s (mW (mgX g ρ) M ++ xW g X) H locs → lv_has ls 4 [(0, .ref b), (1, .ref (xr g 0)), (2, .ref (ρ 0)), (3, .int (nI (6 * j)))] → W p l e room_1 s m #[Value.ref b] below meth c H locs (cells + 4) (slots + 198) Q (F0 m 1641 ls [])) : W p l e room_1 s m #[Value.ref b] below meth c H locs cells slots Q (F0 m 349 ls []) := by
  have hx := hc.1
  have hb := hc.2.1
  have hc1 : cells + 4 ≤ room_1.cells := hcs.1
  have hc2 : slots + 198 ≤ room_1.slots := hcs.2
  refine lv_aload_n hx hb dL_349 rfl (lv_at hl 1 rfl) ?_
  refine lv_aload_n hx hb dL_350 rfl (lv_at hl 0 rfl) ?_
  refine lv_iload_n hx hb dL_351 rfl (lv_at hl 3 rfl) ?_
  refine lv_iconst (v := 1) hx hb dL_352 (by decide) ?_
  refine lv_iadd hx hb dL_353 ?_
  refine va_sld hx hb hX hbl hbA hw.2.2.2.1 (idx_in (L := L) (j := j) (k := 1) 1 rfl (by decide) hL hj) dL_354 ?_
  refine lv_aload_n hx hb dL_355 rfl (lv_at hl 0 rfl) ?_
  refine lv_iload_n hx hb dL_356 rfl (lv_at hl 3 rfl) ?_
  refine lv_iconst (v := 2) hx hb dL_357 (by decide) ?_
  refine lv_iadd hx hb dL_358 ?_
  refine va_sld hx hb hX hbl hbA hw.2.2.2.1 (idx_in (L := L) (j := j) (k := 2) 2 rfl (by decide) hL hj) dL_359 ?_
  refine lv_aload_n hx hb dL_360 rfl (lv_at hl 0 rfl) ?_
  refine lv_iload_n hx hb dL_361 rfl (lv_at hl 3 rfl) ?_
  refine lv_iconst (v := 3) hx hb dL_362 (by decide) ?_
  refine lv_iadd hx hb dL_363 ?_
  refine va_sld hx hb hX hbl hbA hw.2.2.2.1 (idx_in (L := L) (j := j) (k := 3) 3 rfl (by decide) hL hj) dL_364 ?_
  obtain ⟨r, X1, M1, hf1, hf2, hR1⟩ := st_sit (N := 2000) hR (xs (nI (6 * j) + 1).toNatClampNeg) (xs (nI (6 * j) + 2).toNatClampNeg) (xs (nI (6 * j) + 3).toNatClampNeg)
  refine e_xcvi (As := [.int (xs (nI (6 * j) + 1).toNatClampNeg), .int (xs (nI (6 * j) + 2).toNatClampNeg), .int (xs (nI (6 * j) + 3).toNatClampNeg)]) (rest := []) hc hw law_room (hml.trans hl.1.symm) (cx_X_sit l 2000 X (xs (nI (6 * j) + 1).toNatClampNeg) (xs (nI (6 * j) + 2).toNatClampNeg) (xs (nI (6 * j) + 3).toNatClampNeg) r X1 hf1) (⟨⟨(mem_g 710 (by decide +kernel) rfl), (mem_g 711 (by decide +kernel) rfl), (mem_g 712 (by decide +kernel) rfl), (mem_g 77 (by decide +kernel) rfl), (mem_g 713 (by decide +kernel) rfl)⟩, by decide, by decide +kernel, by decide⟩ : qCv R_law 26 yX11_sit cX11_sit 6 (some .int) 3) (x_recv_this (xJ_I (xJ_post hw))) (by decide) rfl rfl rfl (Nat.le_of_ble_eq_true rfl) dL_365 (fun H locs hw => ?_) ⟨by omega, by omega⟩
  refine W.widen (k := cells + 4) (n := slots + 198) (by omega) (by omega) ?_
  have hw := xJ_perm List.perm_append_comm hw
  refine lv_aload_n hx hb dL_368 rfl (lv_at hl 2 rfl) ?_
  refine lv_aload_n hx hb dL_369 rfl (lv_at hl 0 rfl) ?_
  refine lv_iload_n hx hb dL_370 rfl (lv_at hl 3 rfl) ?_
  refine lv_iconst (v := 1) hx hb dL_371 (by decide) ?_
  refine lv_iadd hx hb dL_372 ?_
  refine va_sld hx hb hX hbl hbA hw.2.2.2.1 (idx_in (L := L) (j := j) (k := 1) 1 rfl (by decide) hL hj) dL_373 ?_
  refine lv_aload_n hx hb dL_374 rfl (lv_at hl 0 rfl) ?_
  refine lv_iload_n hx hb dL_375 rfl (lv_at hl 3 rfl) ?_
  refine lv_iconst (v := 2) hx hb dL_376 (by decide) ?_
  refine lv_iadd hx hb dL_377 ?_
  refine va_sld hx hb hX hbl hbA hw.2.2.2.1 (idx_in (L := L) (j := j) (k := 2) 2 rfl (by decide) hL hj) dL_378 ?_
  refine lv_aload_n hx hb dL_379 rfl (lv_at hl 0 rfl) ?_
  refine lv_iload_n hx hb dL_380 rfl (lv_at hl 3 rfl) ?_
  refine lv_iconst (v := 3) hx hb dL_381 (by decide) ?_
  refine lv_iadd hx hb dL_382 ?_
  refine va_sld hx hb hX hbl hbA hw.2.2.2.1 (idx_in (L := L) (j := j) (k := 3) 3 rfl (by decide) hL hj) dL_383 ?_
  refine e_mcvi (As := [.int (xs (nI (6 * j) + 1).toNatClampNeg), .int (xs (nI (6 * j) + 2).toNatClampNeg), .int (xs (nI (6 * j) + 3).toNatClampNeg)]) (rest := [.int r]) hc hw law_room (hml.trans hl.1.symm) (cm_sit l 2000 M (xs (nI (6 * j) + 1).toNatClampNeg) (xs (nI (6 * j) + 2).toNatClampNeg) (xs (nI (6 * j) + 3).toNatClampNeg) r M1 hf2) (⟨⟨(mem_g 1344 (by decide +kernel) rfl), (mem_g 1345 (by decide +kernel) rfl), (mem_g 1346 (by decide +kernel) rfl), (mem_g 89 (by decide +kernel) rfl), (mem_g 1347 (by decide +kernel) rfl)⟩, by decide, by decide +kernel, by decide⟩ : qCv R_law 29 yX12_sit cX12_sit 5 (some .int) 3) rfl (by decide) rfl rfl rfl (Nat.le_of_ble_eq_true rfl) dL_384 (fun H locs hw => ?_) ⟨by omega, by omega⟩
  have hw := xJ_perm List.perm_append_comm hw
  refine lv_icmp_eq (tgt := 1641) hx hb dL_387 (by decide) (fun _ => ?_) (fun cn => absurd rfl cn)
  exact kx g X1 M1 H locs ls hR1 hw hl
set_option maxRecDepth 100000 in
theorem lc_told {p : Program} {l : Launch} {e : Env} {s : State} {m : MethodId} {below : List Frame} {meth : Method} {c : Code} {Q : State → Prop} {cells slots b L j : Nat} {xs : Nat → Int32} {g : xG} {ρ : Nat → Nat} {X : xS} {M : mS} {A : Nat → Prop} {H : Heap} {locs : List Loc} {ls : Array Slot} (hc : qC R_law code p s m #[Value.ref b] c) (hml : c.maxLocals = 4) (hX : va_X b L xs s s.heap) (hbl : b < s.heap.size) (hbA : ¬ A b) (hL : L ≤ 384) (hj : 6 * j + 6 ≤ L) (hR : Rl X M) (hw : xJ g A s.heap s (mW (mgX g ρ) M ++ xW g X) H locs) (hl : lv_has ls 4 [(0, .ref b), (1, .ref (xr g 0)), (2, .ref (ρ 0)), (3, .int (nI (6 * j)))]) (hcs : cells + 4 ≤ 600000 ∧ slots + 198 ≤ 7302250) (kx : ∀ (g : xG) (X : xS) (M : mS) (H : Heap) (locs : List Loc) (ls : Array Slot), Rl X M → xJ g A s.heap s (mW (mgX g ρ) M ++ xW g X) H locs → lv_has ls 4 [(0, .ref b), (1, .ref (xr g 0)), (2, .ref (ρ 0)), (3, .int (nI (6 * j)))] → W p l e room_1 s m #[Value.ref b] below meth c H locs (cells + 4) (slots + 198) Q (F0 m 1641 ls [])) : W p l e room_1 s m #[Value.ref b] below meth c H locs cells slots Q (F0 m 392 ls []) := by
  have hx := hc.1
  have hb := hc.2.1
  have hc1 : cells + 4 ≤ room_1.cells := hcs.1
  have hc2 : slots + 198 ≤ room_1.slots := hcs.2
  refine lv_aload_n hx hb dL_392 rfl (lv_at hl 1 rfl) ?_
  refine lv_aload_n hx hb dL_393 rfl (lv_at hl 0 rfl) ?_
  refine lv_iload_n hx hb dL_394 rfl (lv_at hl 3 rfl) ?_
  refine lv_iconst (v := 1) hx hb dL_395 (by decide) ?_
  refine lv_iadd hx hb dL_396 ?_
  refine va_sld hx hb hX hbl hbA hw.2.2.2.1 (idx_in (L := L) (j := j) (k := 1) 1 rfl (by decide) hL hj) dL_397 ?_
  refine lv_aload_n hx hb dL_398 rfl (lv_at hl 0 rfl) ?_
  refine lv_iload_n hx hb dL_399 rfl (lv_at hl 3 rfl) ?_
  refine lv_iconst (v := 2) hx hb dL_400 (by decide) ?_
  refine lv_iadd hx hb dL_401 ?_
  refine va_sld hx hb hX hbl hbA hw.2.2.2.1 (idx_in (L := L) (j := j) (k := 2) 2 rfl (by decide) hL hj) dL_402 ?_
  refine lv_aload_n hx hb dL_403 rfl (lv_at hl 0 rfl) ?_
  refine lv_iload_n hx hb dL_404 rfl (lv_at hl 3 rfl) ?_
  refine lv_iconst (v := 3) hx hb dL_405 (by decide) ?_
  refine lv_iadd hx hb dL_406 ?_
  refine va_sld hx hb hX hbl hbA hw.2.2.2.1 (idx_in (L := L) (j := j) (k := 3) 3 rfl (by decide) hL hj) dL_407 ?_
  obtain ⟨r, hf1, hf2⟩ := st_told (N := 2000) hR (xs (nI (6 * j) + 1).toNatClampNeg) (xs (nI (6 * j) + 2).toNatClampNeg) (xs (nI (6 * j) + 3).toNatClampNeg)
  refine e_xcvi (As := [.int (xs (nI (6 * j) + 1).toNatClampNeg), .int (xs (nI (6 * j) + 2).toNatClampNeg), .int (xs (nI (6 * j) + 3).toNatClampNeg)]) (rest := []) hc hw law_room (hml.trans hl.1.symm) (cx_X_told l 2000 X (xs (nI (6 * j) + 1).toNatClampNeg) (xs (nI (6 * j) + 2).toNatClampNeg) (xs (nI (6 * j) + 3).toNatClampNeg) r hf1) (⟨⟨(mem_g 719 (by decide +kernel) rfl), (mem_g 720 (by decide +kernel) rfl), (mem_g 721 (by decide +kernel) rfl), (mem_g 77 (by decide +kernel) rfl), (mem_g 722 (by decide +kernel) rfl)⟩, by decide, by decide +kernel, by decide⟩ : qCv R_law 30 yX11_told cX11_told 5 (some .int) 3) (x_recv_this (xJ_I (xJ_post hw))) (by decide) rfl rfl rfl (Nat.le_of_ble_eq_true rfl) dL_408 (fun H locs hw => ?_) ⟨by omega, by omega⟩
  refine W.widen (k := cells + 4) (n := slots + 198) (by omega) (by omega) ?_
  have hw := xJ_perm List.perm_append_comm hw
  refine lv_aload_n hx hb dL_411 rfl (lv_at hl 2 rfl) ?_
  refine lv_aload_n hx hb dL_412 rfl (lv_at hl 0 rfl) ?_
  refine lv_iload_n hx hb dL_413 rfl (lv_at hl 3 rfl) ?_
  refine lv_iconst (v := 1) hx hb dL_414 (by decide) ?_
  refine lv_iadd hx hb dL_415 ?_
  refine va_sld hx hb hX hbl hbA hw.2.2.2.1 (idx_in (L := L) (j := j) (k := 1) 1 rfl (by decide) hL hj) dL_416 ?_
  refine lv_aload_n hx hb dL_417 rfl (lv_at hl 0 rfl) ?_
  refine lv_iload_n hx hb dL_418 rfl (lv_at hl 3 rfl) ?_
  refine lv_iconst (v := 2) hx hb dL_419 (by decide) ?_
  refine lv_iadd hx hb dL_420 ?_
  refine va_sld hx hb hX hbl hbA hw.2.2.2.1 (idx_in (L := L) (j := j) (k := 2) 2 rfl (by decide) hL hj) dL_421 ?_
  refine lv_aload_n hx hb dL_422 rfl (lv_at hl 0 rfl) ?_
  refine lv_iload_n hx hb dL_423 rfl (lv_at hl 3 rfl) ?_
  refine lv_iconst (v := 3) hx hb dL_424 (by decide) ?_
  refine lv_iadd hx hb dL_425 ?_
  refine va_sld hx hb hX hbl hbA hw.2.2.2.1 (idx_in (L := L) (j := j) (k := 3) 3 rfl (by decide) hL hj) dL_426 ?_
  refine e_mcvi (As := [.int (xs (nI (6 * j) + 1).toNatClampNeg), .int (xs (nI (6 * j) + 2).toNatClampNeg), .int (xs (nI (6 * j) + 3).toNatClampNeg)]) (rest := [.int r]) hc hw law_room (hml.trans hl.1.symm) (cm_told l 2000 M (xs (nI (6 * j) + 1).toNatClampNeg) (xs (nI (6 * j) + 2).toNatClampNeg) (xs (nI (6 * j) + 3).toNatClampNeg) r hf2) (⟨⟨(mem_g 1352 (by decide +kernel) rfl), (mem_g 1353 (by decide +kernel) rfl), (mem_g 1354 (by decide +kernel) rfl), (mem_g 89 (by decide +kernel) rfl), (mem_g 1355 (by decide +kernel) rfl)⟩, by decide, by decide +kernel, by decide⟩ : qCv R_law 33 yX12_told cX12_told 4 (some .int) 3) rfl (by decide) rfl rfl rfl (Nat.le_of_ble_eq_true rfl) dL_427 (fun H locs hw => ?_) ⟨by omega, by omega⟩
  have hw := xJ_perm List.perm_append_comm hw
  refine lv_icmp_eq (tgt := 1641) hx hb dL_430 (by decide) (fun _ => ?_) (fun cn => absurd rfl cn)
  exact kx g X M H locs ls hR hw hl
set_option maxRecDepth 100000 in
theorem lc_point {p : Program} {l : Launch} {e : Env} {s : State} {m : MethodId} {below : List Frame} {meth : Method} {c : Code} {Q : State → Prop} {cells slots b L j : Nat} {xs : Nat → Int32} {g : xG} {ρ : Nat → Nat} {X : xS} {M : mS} {A : Nat → Prop} {H : Heap} {locs : List Loc} {ls : Array Slot} (hc : qC R_law code p s m #[Value.ref b] c) (hml : c.maxLocals = 4) (hX : va_X b L xs s s.heap) (hbl : b < s.heap.size) (hbA : ¬ A b) (hL : L ≤ 384) (hj : 6 * j + 6 ≤ L) (hR : Rl X M) (hw : xJ g A s.heap s (mW (mgX g ρ) M ++ xW g X) H locs) (hl : lv_has ls 4 [(0, .ref b), (1, .ref (xr g 0)), (2, .ref (ρ 0)), (3, .int (nI (6 * j)))]) (hcs : cells + 4 ≤ 600000 ∧ slots + 198 ≤ 7302250) (kx : ∀ (g : xG) (X : xS) (M : mS) (H : Heap) (locs : List Loc) (ls : Array Slot), Rl X M → xJ g A s.heap s (mW (mgX g ρ) M ++ xW g X) H locs → lv_has ls 4 [(0, .ref b), (1, .ref (xr g 0)), (2, .ref (ρ 0)), (3, .int (nI (6 * j)))] → W p l e room_1 s m #[Value.ref b] below meth c H locs (cells + 4) (slots + 198) Q (F0 m 1641 ls [])) : W p l e room_1 s m #[Value.ref b] below meth c H locs cells slots Q (F0 m 435 ls []) := by
  have hx := hc.1
  have hb := hc.2.1
  have hc1 : cells + 4 ≤ room_1.cells := hcs.1
  have hc2 : slots + 198 ≤ room_1.slots := hcs.2
  refine lv_aload_n hx hb dL_435 rfl (lv_at hl 1 rfl) ?_
  refine lv_aload_n hx hb dL_436 rfl (lv_at hl 0 rfl) ?_
  refine lv_iload_n hx hb dL_437 rfl (lv_at hl 3 rfl) ?_
  refine lv_iconst (v := 1) hx hb dL_438 (by decide) ?_
  refine lv_iadd hx hb dL_439 ?_
  refine va_sld hx hb hX hbl hbA hw.2.2.2.1 (idx_in (L := L) (j := j) (k := 1) 1 rfl (by decide) hL hj) dL_440 ?_
  refine lv_aload_n hx hb dL_441 rfl (lv_at hl 0 rfl) ?_
  refine lv_iload_n hx hb dL_442 rfl (lv_at hl 3 rfl) ?_
  refine lv_iconst (v := 2) hx hb dL_443 (by decide) ?_
  refine lv_iadd hx hb dL_444 ?_
  refine va_sld hx hb hX hbl hbA hw.2.2.2.1 (idx_in (L := L) (j := j) (k := 2) 2 rfl (by decide) hL hj) dL_445 ?_
  refine lv_aload_n hx hb dL_446 rfl (lv_at hl 0 rfl) ?_
  refine lv_iload_n hx hb dL_447 rfl (lv_at hl 3 rfl) ?_
  refine lv_iconst (v := 3) hx hb dL_448 (by decide) ?_
  refine lv_iadd hx hb dL_449 ?_
  refine va_sld hx hb hX hbl hbA hw.2.2.2.1 (idx_in (L := L) (j := j) (k := 3) 3 rfl (by decide) hL hj) dL_450 ?_
  obtain ⟨r, X1, M1, hf1, hf2, hR1⟩ := st_point (N := 2000) hR (xs (nI (6 * j) + 1).toNatClampNeg) (xs (nI (6 * j) + 2).toNatClampNeg) (xs (nI (6 * j) + 3).toNatClampNeg)
  refine e_xcvi (As := [.int (xs (nI (6 * j) + 1).toNatClampNeg), .int (xs (nI (6 * j) + 2).toNatClampNeg), .int (xs (nI (6 * j) + 3).toNatClampNeg)]) (rest := []) hc hw law_room (hml.trans hl.1.symm) (cx_X_point l 2000 X (xs (nI (6 * j) + 1).toNatClampNeg) (xs (nI (6 * j) + 2).toNatClampNeg) (xs (nI (6 * j) + 3).toNatClampNeg) r X1 hf1) (⟨⟨(mem_g 765 (by decide +kernel) rfl), (mem_g 766 (by decide +kernel) rfl), (mem_g 767 (by decide +kernel) rfl), (mem_g 77 (by decide +kernel) rfl), (mem_g 768 (by decide +kernel) rfl)⟩, by decide, by decide +kernel, by decide⟩ : qCv R_law 34 yX11_point cX11_point 5 (some .int) 3) (x_recv_this (xJ_I (xJ_post hw))) (by decide) rfl rfl rfl (Nat.le_of_ble_eq_true rfl) dL_451 (fun H locs hw => ?_) ⟨by omega, by omega⟩
  refine W.widen (k := cells + 4) (n := slots + 198) (by omega) (by omega) ?_
  have hw := xJ_perm List.perm_append_comm hw
  refine lv_aload_n hx hb dL_454 rfl (lv_at hl 2 rfl) ?_
  refine lv_aload_n hx hb dL_455 rfl (lv_at hl 0 rfl) ?_
  refine lv_iload_n hx hb dL_456 rfl (lv_at hl 3 rfl) ?_
  refine lv_iconst (v := 1) hx hb dL_457 (by decide) ?_
  refine lv_iadd hx hb dL_458 ?_
  refine va_sld hx hb hX hbl hbA hw.2.2.2.1 (idx_in (L := L) (j := j) (k := 1) 1 rfl (by decide) hL hj) dL_459 ?_
  refine lv_aload_n hx hb dL_460 rfl (lv_at hl 0 rfl) ?_
  refine lv_iload_n hx hb dL_461 rfl (lv_at hl 3 rfl) ?_
  refine lv_iconst (v := 2) hx hb dL_462 (by decide) ?_
  refine lv_iadd hx hb dL_463 ?_
  refine va_sld hx hb hX hbl hbA hw.2.2.2.1 (idx_in (L := L) (j := j) (k := 2) 2 rfl (by decide) hL hj) dL_464 ?_
  refine lv_aload_n hx hb dL_465 rfl (lv_at hl 0 rfl) ?_
  refine lv_iload_n hx hb dL_466 rfl (lv_at hl 3 rfl) ?_
  refine lv_iconst (v := 3) hx hb dL_467 (by decide) ?_
  refine lv_iadd hx hb dL_468 ?_
  refine va_sld hx hb hX hbl hbA hw.2.2.2.1 (idx_in (L := L) (j := j) (k := 3) 3 rfl (by decide) hL hj) dL_469 ?_
  refine e_mcvi (As := [.int (xs (nI (6 * j) + 1).toNatClampNeg), .int (xs (nI (6 * j) + 2).toNatClampNeg), .int (xs (nI (6 * j) + 3).toNatClampNeg)]) (rest := [.int r]) hc hw law_room (hml.trans hl.1.symm) (cm_point l 2000 M (xs (nI (6 * j) + 1).toNatClampNeg) (xs (nI (6 * j) + 2).toNatClampNeg) (xs (nI (6 * j) + 3).toNatClampNeg) r M1 hf2) (⟨⟨(mem_g 1384 (by decide +kernel) rfl), (mem_g 1385 (by decide +kernel) rfl), (mem_g 1386 (by decide +kernel) rfl), (mem_g 89 (by decide +kernel) rfl), (mem_g 1387 (by decide +kernel) rfl)⟩, by decide, by decide +kernel, by decide⟩ : qCv R_law 37 yX12_point cX12_point 4 (some .int) 3) rfl (by decide) rfl rfl rfl (Nat.le_of_ble_eq_true rfl) dL_470 (fun H locs hw => ?_) ⟨by omega, by omega⟩
  have hw := xJ_perm List.perm_append_comm hw
  refine lv_icmp_eq (tgt := 1641) hx hb dL_473 (by decide) (fun _ => ?_) (fun cn => absurd rfl cn)
  exact kx g X1 M1 H locs ls hR1 hw hl
set_option maxRecDepth 100000 in
theorem lc_post {p : Program} {l : Launch} {e : Env} {s : State} {m : MethodId} {below : List Frame} {meth : Method} {c : Code} {Q : State → Prop} {cells slots b L j : Nat} {xs : Nat → Int32} {g : xG} {ρ : Nat → Nat} {X : xS} {M : mS} {A : Nat → Prop} {H : Heap} {locs : List Loc} {ls : Array Slot} (hc : qC R_law code p s m #[Value.ref b] c) (hml : c.maxLocals = 4) (hX : va_X b L xs s s.heap) (hbl : b < s.heap.size) (hbA : ¬ A b) (hL : L ≤ 384) (hj : 6 * j + 6 ≤ L) (hR : Rl X M) (hw : xJ g A s.heap s (mW (mgX g ρ) M ++ xW g X) H locs) (hl : lv_has ls 4 [(0, .ref b), (1, .ref (xr g 0)), (2, .ref (ρ 0)), (3, .int (nI (6 * j)))]) (hcs : cells + 4 ≤ 600000 ∧ slots + 198 ≤ 7302250) (kx : ∀ (g : xG) (X : xS) (M : mS) (H : Heap) (locs : List Loc) (ls : Array Slot), Rl X M → xJ g A s.heap s (mW (mgX g ρ) M ++ xW g X) H locs → lv_has ls 4 [(0, .ref b), (1, .ref (xr g 0)), (2, .ref (ρ 0)), (3, .int (nI (6 * j)))] → W p l e room_1 s m #[Value.ref b] below meth c H locs (cells + 4) (slots + 198) Q (F0 m 1641 ls [])) : W p l e room_1 s m #[Value.ref b] below meth c H locs cells slots Q (F0 m 478 ls []) := by
  have hx := hc.1
  have hb := hc.2.1
  have hc1 : cells + 4 ≤ room_1.cells := hcs.1
  have hc2 : slots + 198 ≤ room_1.slots := hcs.2
  refine lv_aload_n hx hb dL_478 rfl (lv_at hl 1 rfl) ?_
  refine lv_aload_n hx hb dL_479 rfl (lv_at hl 0 rfl) ?_
  refine lv_iload_n hx hb dL_480 rfl (lv_at hl 3 rfl) ?_
  refine lv_iconst (v := 1) hx hb dL_481 (by decide) ?_
  refine lv_iadd hx hb dL_482 ?_
  refine va_sld hx hb hX hbl hbA hw.2.2.2.1 (idx_in (L := L) (j := j) (k := 1) 1 rfl (by decide) hL hj) dL_483 ?_
  refine lv_aload_n hx hb dL_484 rfl (lv_at hl 0 rfl) ?_
  refine lv_iload_n hx hb dL_485 rfl (lv_at hl 3 rfl) ?_
  refine lv_iconst (v := 2) hx hb dL_486 (by decide) ?_
  refine lv_iadd hx hb dL_487 ?_
  refine va_sld hx hb hX hbl hbA hw.2.2.2.1 (idx_in (L := L) (j := j) (k := 2) 2 rfl (by decide) hL hj) dL_488 ?_
  obtain ⟨r, X1, M1, hf1, hf2, hR1⟩ := st_post (N := 2000) hR (xs (nI (6 * j) + 1).toNatClampNeg) (xs (nI (6 * j) + 2).toNatClampNeg)
  refine e_xcvi (As := [.int (xs (nI (6 * j) + 1).toNatClampNeg), .int (xs (nI (6 * j) + 2).toNatClampNeg)]) (rest := []) hc hw law_room (hml.trans hl.1.symm) (cx_X_post l 2000 X (xs (nI (6 * j) + 1).toNatClampNeg) (xs (nI (6 * j) + 2).toNatClampNeg) r X1 hf1) (⟨⟨(mem_g 769 (by decide +kernel) rfl), (mem_g 770 (by decide +kernel) rfl), (mem_g 771 (by decide +kernel) rfl), (mem_g 77 (by decide +kernel) rfl), (mem_g 772 (by decide +kernel) rfl)⟩, by decide, by decide +kernel, by decide⟩ : qCv R_law 38 yX11_post cX11_post 4 (some .int) 2) (x_recv_this (xJ_I (xJ_post hw))) (by decide) rfl rfl rfl (Nat.le_of_ble_eq_true rfl) dL_489 (fun H locs hw => ?_) ⟨by omega, by omega⟩
  refine W.widen (k := cells + 4) (n := slots + 198) (by omega) (by omega) ?_
  have hw := xJ_perm List.perm_append_comm hw
  refine lv_aload_n hx hb dL_492 rfl (lv_at hl 2 rfl) ?_
  refine lv_aload_n hx hb dL_493 rfl (lv_at hl 0 rfl) ?_
  refine lv_iload_n hx hb dL_494 rfl (lv_at hl 3 rfl) ?_
  refine lv_iconst (v := 1) hx hb dL_495 (by decide) ?_
  refine lv_iadd hx hb dL_496 ?_
  refine va_sld hx hb hX hbl hbA hw.2.2.2.1 (idx_in (L := L) (j := j) (k := 1) 1 rfl (by decide) hL hj) dL_497 ?_
  refine lv_aload_n hx hb dL_498 rfl (lv_at hl 0 rfl) ?_
  refine lv_iload_n hx hb dL_499 rfl (lv_at hl 3 rfl) ?_
  refine lv_iconst (v := 2) hx hb dL_500 (by decide) ?_
  refine lv_iadd hx hb dL_501 ?_
  refine va_sld hx hb hX hbl hbA hw.2.2.2.1 (idx_in (L := L) (j := j) (k := 2) 2 rfl (by decide) hL hj) dL_502 ?_
  refine e_mcvi (As := [.int (xs (nI (6 * j) + 1).toNatClampNeg), .int (xs (nI (6 * j) + 2).toNatClampNeg)]) (rest := [.int r]) hc hw law_room (hml.trans hl.1.symm) (cm_post l 2000 M (xs (nI (6 * j) + 1).toNatClampNeg) (xs (nI (6 * j) + 2).toNatClampNeg) r M1 hf2) (⟨⟨(mem_g 1388 (by decide +kernel) rfl), (mem_g 1389 (by decide +kernel) rfl), (mem_g 1390 (by decide +kernel) rfl), (mem_g 89 (by decide +kernel) rfl), (mem_g 1391 (by decide +kernel) rfl)⟩, by decide, by decide +kernel, by decide⟩ : qCv R_law 42 yX12_post cX12_post 3 (some .int) 2) rfl (by decide) rfl rfl rfl (Nat.le_of_ble_eq_true rfl) dL_503 (fun H locs hw => ?_) ⟨by omega, by omega⟩
  have hw := xJ_perm List.perm_append_comm hw
  refine lv_icmp_eq (tgt := 1641) hx hb dL_506 (by decide) (fun _ => ?_) (fun cn => absurd rfl cn)
  exact kx g X1 M1 H locs ls hR1 hw hl
set_option maxRecDepth 100000 in
theorem lc_moves {p : Program} {l : Launch} {e : Env} {s : State} {m : MethodId} {below : List Frame} {meth : Method} {c : Code} {Q : State → Prop} {cells slots b L j : Nat} {xs : Nat → Int32} {g : xG} {ρ : Nat → Nat} {X : xS} {M : mS} {A : Nat → Prop} {H : Heap} {locs : List Loc} {ls : Array Slot} (hc : qC R_law code p s m #[Value.ref b] c) (hml : c.maxLocals = 4) (hX : va_X b L xs s s.heap) (hbl : b < s.heap.size) (hbA : ¬ A b) (hL : L ≤ 384) (hj : 6 * j + 6 ≤ L) (hR : Rl X M) (hw : xJ g A s.heap s (mW (mgX g ρ) M ++ xW g X) H locs) (hl : lv_has ls 4 [(0, .ref b), (1, .ref (xr g 0)), (2, .ref (ρ 0)), (3, .int (nI (6 * j)))]) (hcs : cells + 4 ≤ 600000 ∧ slots + 198 ≤ 7302250) (kx : ∀ (g : xG) (X : xS) (M : mS) (H : Heap) (locs : List Loc) (ls : Array Slot), Rl X M → xJ g A s.heap s (mW (mgX g ρ) M ++ xW g X) H locs → lv_has ls 4 [(0, .ref b), (1, .ref (xr g 0)), (2, .ref (ρ 0)), (3, .int (nI (6 * j)))] → W p l e room_1 s m #[Value.ref b] below meth c H locs (cells + 4) (slots + 198) Q (F0 m 1641 ls [])) : W p l e room_1 s m #[Value.ref b] below meth c H locs cells slots Q (F0 m 511 ls []) := by
  have hx := hc.1
  have hb := hc.2.1
  have hc1 : cells + 4 ≤ room_1.cells := hcs.1
  have hc2 : slots + 198 ≤ room_1.slots := hcs.2
  refine lv_aload_n hx hb dL_511 rfl (lv_at hl 1 rfl) ?_
  refine lv_aload_n hx hb dL_512 rfl (lv_at hl 0 rfl) ?_
  refine lv_iload_n hx hb dL_513 rfl (lv_at hl 3 rfl) ?_
  refine lv_iconst (v := 1) hx hb dL_514 (by decide) ?_
  refine lv_iadd hx hb dL_515 ?_
  refine va_sld hx hb hX hbl hbA hw.2.2.2.1 (idx_in (L := L) (j := j) (k := 1) 1 rfl (by decide) hL hj) dL_516 ?_
  refine lv_aload_n hx hb dL_517 rfl (lv_at hl 0 rfl) ?_
  refine lv_iload_n hx hb dL_518 rfl (lv_at hl 3 rfl) ?_
  refine lv_iconst (v := 2) hx hb dL_519 (by decide) ?_
  refine lv_iadd hx hb dL_520 ?_
  refine va_sld hx hb hX hbl hbA hw.2.2.2.1 (idx_in (L := L) (j := j) (k := 2) 2 rfl (by decide) hL hj) dL_521 ?_
  refine lv_aload_n hx hb dL_522 rfl (lv_at hl 0 rfl) ?_
  refine lv_iload_n hx hb dL_523 rfl (lv_at hl 3 rfl) ?_
  refine lv_iconst (v := 3) hx hb dL_524 (by decide) ?_
  refine lv_iadd hx hb dL_525 ?_
  refine va_sld hx hb hX hbl hbA hw.2.2.2.1 (idx_in (L := L) (j := j) (k := 3) 3 rfl (by decide) hL hj) dL_526 ?_
  obtain ⟨r, X1, M1, hf1, hf2, hR1⟩ := st_moves (N := 2000) hR (xs (nI (6 * j) + 1).toNatClampNeg) (xs (nI (6 * j) + 2).toNatClampNeg) (xs (nI (6 * j) + 3).toNatClampNeg)
  refine e_xcvi (As := [.int (xs (nI (6 * j) + 1).toNatClampNeg), .int (xs (nI (6 * j) + 2).toNatClampNeg), .int (xs (nI (6 * j) + 3).toNatClampNeg)]) (rest := []) hc hw law_room (hml.trans hl.1.symm) (cx_X_moves l 2000 X (xs (nI (6 * j) + 1).toNatClampNeg) (xs (nI (6 * j) + 2).toNatClampNeg) (xs (nI (6 * j) + 3).toNatClampNeg) r X1 hf1) (⟨⟨(mem_g 776 (by decide +kernel) rfl), (mem_g 777 (by decide +kernel) rfl), (mem_g 778 (by decide +kernel) rfl), (mem_g 77 (by decide +kernel) rfl), (mem_g 779 (by decide +kernel) rfl)⟩, by decide, by decide +kernel, by decide⟩ : qCv R_law 43 yX11_moves cX11_moves 5 (some .int) 3) (x_recv_this (xJ_I (xJ_post hw))) (by decide) rfl rfl rfl (Nat.le_of_ble_eq_true rfl) dL_527 (fun H locs hw => ?_) ⟨by omega, by omega⟩
  refine W.widen (k := cells + 4) (n := slots + 198) (by omega) (by omega) ?_
  have hw := xJ_perm List.perm_append_comm hw
  refine lv_aload_n hx hb dL_530 rfl (lv_at hl 2 rfl) ?_
  refine lv_aload_n hx hb dL_531 rfl (lv_at hl 0 rfl) ?_
  refine lv_iload_n hx hb dL_532 rfl (lv_at hl 3 rfl) ?_
  refine lv_iconst (v := 1) hx hb dL_533 (by decide) ?_
  refine lv_iadd hx hb dL_534 ?_
  refine va_sld hx hb hX hbl hbA hw.2.2.2.1 (idx_in (L := L) (j := j) (k := 1) 1 rfl (by decide) hL hj) dL_535 ?_
  refine lv_aload_n hx hb dL_536 rfl (lv_at hl 0 rfl) ?_
  refine lv_iload_n hx hb dL_537 rfl (lv_at hl 3 rfl) ?_
  refine lv_iconst (v := 2) hx hb dL_538 (by decide) ?_
  refine lv_iadd hx hb dL_539 ?_
  refine va_sld hx hb hX hbl hbA hw.2.2.2.1 (idx_in (L := L) (j := j) (k := 2) 2 rfl (by decide) hL hj) dL_540 ?_
  refine lv_aload_n hx hb dL_541 rfl (lv_at hl 0 rfl) ?_
  refine lv_iload_n hx hb dL_542 rfl (lv_at hl 3 rfl) ?_
  refine lv_iconst (v := 3) hx hb dL_543 (by decide) ?_
  refine lv_iadd hx hb dL_544 ?_
  refine va_sld hx hb hX hbl hbA hw.2.2.2.1 (idx_in (L := L) (j := j) (k := 3) 3 rfl (by decide) hL hj) dL_545 ?_
  refine e_mcvi (As := [.int (xs (nI (6 * j) + 1).toNatClampNeg), .int (xs (nI (6 * j) + 2).toNatClampNeg), .int (xs (nI (6 * j) + 3).toNatClampNeg)]) (rest := [.int r]) hc hw law_room (hml.trans hl.1.symm) (cm_moves l 2000 M (xs (nI (6 * j) + 1).toNatClampNeg) (xs (nI (6 * j) + 2).toNatClampNeg) (xs (nI (6 * j) + 3).toNatClampNeg) r M1 hf2) (⟨⟨(mem_g 1392 (by decide +kernel) rfl), (mem_g 1393 (by decide +kernel) rfl), (mem_g 1394 (by decide +kernel) rfl), (mem_g 89 (by decide +kernel) rfl), (mem_g 1395 (by decide +kernel) rfl)⟩, by decide, by decide +kernel, by decide⟩ : qCv R_law 46 yX12_moves cX12_moves 5 (some .int) 3) rfl (by decide) rfl rfl rfl (Nat.le_of_ble_eq_true rfl) dL_546 (fun H locs hw => ?_) ⟨by omega, by omega⟩
  have hw := xJ_perm List.perm_append_comm hw
  refine lv_icmp_eq (tgt := 1641) hx hb dL_549 (by decide) (fun _ => ?_) (fun cn => absurd rfl cn)
  exact kx g X1 M1 H locs ls hR1 hw hl
set_option maxRecDepth 100000 in
theorem lc_count {p : Program} {l : Launch} {e : Env} {s : State} {m : MethodId} {below : List Frame} {meth : Method} {c : Code} {Q : State → Prop} {cells slots b L j : Nat} {xs : Nat → Int32} {g : xG} {ρ : Nat → Nat} {X : xS} {M : mS} {A : Nat → Prop} {H : Heap} {locs : List Loc} {ls : Array Slot} (hc : qC R_law code p s m #[Value.ref b] c) (hml : c.maxLocals = 4) (hX : va_X b L xs s s.heap) (hbl : b < s.heap.size) (hbA : ¬ A b) (hL : L ≤ 384) (hj : 6 * j + 6 ≤ L) (hR : Rl X M) (hw : xJ g A s.heap s (mW (mgX g ρ) M ++ xW g X) H locs) (hl : lv_has ls 4 [(0, .ref b), (1, .ref (xr g 0)), (2, .ref (ρ 0)), (3, .int (nI (6 * j)))]) (hcs : cells + 4 ≤ 600000 ∧ slots + 198 ≤ 7302250) (kx : ∀ (g : xG) (X : xS) (M : mS) (H : Heap) (locs : List Loc) (ls : Array Slot), Rl X M → xJ g A s.heap s (mW (mgX g ρ) M ++ xW g X) H locs → lv_has ls 4 [(0, .ref b), (1, .ref (xr g 0)), (2, .ref (ρ 0)), (3, .int (nI (6 * j)))] → W p l e room_1 s m #[Value.ref b] below meth c H locs (cells + 4) (slots + 198) Q (F0 m 1641 ls [])) : W p l e room_1 s m #[Value.ref b] below meth c H locs cells slots Q (F0 m 554 ls []) := by
  have hx := hc.1
  have hb := hc.2.1
  have hc1 : cells + 4 ≤ room_1.cells := hcs.1
  have hc2 : slots + 198 ≤ room_1.slots := hcs.2
  refine lv_aload_n hx hb dL_554 rfl (lv_at hl 1 rfl) ?_
  refine lv_aload_n hx hb dL_555 rfl (lv_at hl 0 rfl) ?_
  refine lv_iload_n hx hb dL_556 rfl (lv_at hl 3 rfl) ?_
  refine lv_iconst (v := 1) hx hb dL_557 (by decide) ?_
  refine lv_iadd hx hb dL_558 ?_
  refine va_sld hx hb hX hbl hbA hw.2.2.2.1 (idx_in (L := L) (j := j) (k := 1) 1 rfl (by decide) hL hj) dL_559 ?_
  have hst := st_count hR (xs (nI (6 * j) + 1).toNatClampNeg)
  refine e_xcvi (As := [.int (xs (nI (6 * j) + 1).toNatClampNeg)]) (rest := []) hc hw law_room (hml.trans hl.1.symm) (cx_X_count l X (xs (nI (6 * j) + 1).toNatClampNeg) (mf_count M (xs (nI (6 * j) + 1).toNatClampNeg)) hst) (⟨⟨(mem_g 784 (by decide +kernel) rfl), (mem_g 785 (by decide +kernel) rfl), (mem_g 786 (by decide +kernel) rfl), (mem_g 77 (by decide +kernel) rfl), (mem_g 787 (by decide +kernel) rfl)⟩, by decide, by decide +kernel, by decide⟩ : qCv R_law 47 yX11_count cX11_count 2 (some .int) 1) (x_recv_this (xJ_I (xJ_post hw))) (by decide) rfl rfl rfl (Nat.le_of_ble_eq_true rfl) dL_560 (fun H locs hw => ?_) ⟨by omega, by omega⟩
  refine W.widen (k := cells + 4) (n := slots + 198) (by omega) (by omega) ?_
  have hw := xJ_perm List.perm_append_comm hw
  refine lv_aload_n hx hb dL_563 rfl (lv_at hl 2 rfl) ?_
  refine lv_aload_n hx hb dL_564 rfl (lv_at hl 0 rfl) ?_
  refine lv_iload_n hx hb dL_565 rfl (lv_at hl 3 rfl) ?_
  refine lv_iconst (v := 1) hx hb dL_566 (by decide) ?_
  refine lv_iadd hx hb dL_567 ?_
  refine va_sld hx hb hX hbl hbA hw.2.2.2.1 (idx_in (L := L) (j := j) (k := 1) 1 rfl (by decide) hL hj) dL_568 ?_
  refine e_mcvi (As := [.int (xs (nI (6 * j) + 1).toNatClampNeg)]) (rest := [.int (mf_count M (xs (nI (6 * j) + 1).toNatClampNeg))]) hc hw law_room (hml.trans hl.1.symm) (cm_count l M (xs (nI (6 * j) + 1).toNatClampNeg) (mf_count M (xs (nI (6 * j) + 1).toNatClampNeg)) rfl) (⟨⟨(mem_g 1396 (by decide +kernel) rfl), (mem_g 1397 (by decide +kernel) rfl), (mem_g 1398 (by decide +kernel) rfl), (mem_g 89 (by decide +kernel) rfl), (mem_g 1399 (by decide +kernel) rfl)⟩, by decide, by decide +kernel, by decide⟩ : qCv R_law 51 yX12_count cX12_count 2 (some .int) 1) rfl (by decide) rfl rfl rfl (Nat.le_of_ble_eq_true rfl) dL_569 (fun H locs hw => ?_) ⟨by omega, by omega⟩
  have hw := xJ_perm List.perm_append_comm hw
  refine lv_icmp_eq (tgt := 1641) hx hb dL_572 (by decide) (fun _ => ?_) (fun cn => absurd rfl cn)
  exact kx g X M H locs ls hR hw hl
end LAWCALL0
