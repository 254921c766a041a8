theorem dX0_init_0 : decode cX0_init 0 = .ok (.aload_n 0, 1) := by decide +kernel
theorem dX0_init_1 : decode cX0_init 1 = .ok (.iload_n 1, 1) := by decide +kernel
theorem dX0_init_2 : decode cX0_init 2 = .ok (.iload_n 2, 1) := by decide +kernel
theorem dX0_init_3 : decode cX0_init 3 = .ok (.iload_n 3, 1) := by decide +kernel
theorem dX0_init_4 : decode cX0_init 4 = .ok (.iload 4, 2) := by decide +kernel
theorem dX0_init_6 : decode cX0_init 6 = .ok (.invokespecial 1, 3) := by decide +kernel
theorem dX0_init_9 : decode cX0_init 9 = .ok (.aload_n 0, 1) := by decide +kernel
theorem dX0_init_10 : decode cX0_init 10 = .ok (.dup, 1) := by decide +kernel
theorem dX0_init_11 : decode cX0_init 11 = .ok (.getfield 7, 3) := by decide +kernel
theorem dX0_init_14 : decode cX0_init 14 = .ok (.iconst 2, 1) := by decide +kernel
theorem dX0_init_15 : decode cX0_init 15 = .ok (.iload 4, 2) := by decide +kernel
theorem dX0_init_17 : decode cX0_init 17 = .ok (.imul, 1) := by decide +kernel
theorem dX0_init_18 : decode cX0_init 18 = .ok (.iadd, 1) := by decide +kernel
theorem dX0_init_19 : decode cX0_init 19 = .ok (.putfield 7, 3) := by decide +kernel
theorem dX0_init_22 : decode cX0_init 22 = .ok (.aload_n 0, 1) := by decide +kernel
theorem dX0_init_23 : decode cX0_init 23 = .ok (.iconst 0, 1) := by decide +kernel
theorem dX0_init_24 : decode cX0_init 24 = .ok (.putfield 13, 3) := by decide +kernel
theorem dX0_init_27 : decode cX0_init 27 = .ok (.return_, 1) := by decide +kernel
theorem dX3_init_0 : decode cX3_init 0 = .ok (.aload_n 0, 1) := by decide +kernel
theorem dX3_init_1 : decode cX3_init 1 = .ok (.iload_n 1, 1) := by decide +kernel
theorem dX3_init_2 : decode cX3_init 2 = .ok (.iload_n 2, 1) := by decide +kernel
theorem dX3_init_3 : decode cX3_init 3 = .ok (.iload_n 3, 1) := by decide +kernel
theorem dX3_init_4 : decode cX3_init 4 = .ok (.invokespecial 1, 3) := by decide +kernel
theorem dX3_init_7 : decode cX3_init 7 = .ok (.aload_n 0, 1) := by decide +kernel
theorem dX3_init_8 : decode cX3_init 8 = .ok (.dup, 1) := by decide +kernel
theorem dX3_init_9 : decode cX3_init 9 = .ok (.getfield 7, 3) := by decide +kernel
theorem dX3_init_12 : decode cX3_init 12 = .ok (.iload 4, 2) := by decide +kernel
theorem dX3_init_14 : decode cX3_init 14 = .ok (.bipush 10, 2) := by decide +kernel
theorem dX3_init_16 : decode cX3_init 16 = .ok (.irem, 1) := by decide +kernel
theorem dX3_init_17 : decode cX3_init 17 = .ok (.iadd, 1) := by decide +kernel
theorem dX3_init_18 : decode cX3_init 18 = .ok (.putfield 7, 3) := by decide +kernel
theorem dX3_init_21 : decode cX3_init 21 = .ok (.aload_n 0, 1) := by decide +kernel
theorem dX3_init_22 : decode cX3_init 22 = .ok (.dup, 1) := by decide +kernel
theorem dX3_init_23 : decode cX3_init 23 = .ok (.getfield 13, 3) := by decide +kernel
theorem dX3_init_26 : decode cX3_init 26 = .ok (.iconst 3, 1) := by decide +kernel
theorem dX3_init_27 : decode cX3_init 27 = .ok (.isub, 1) := by decide +kernel
theorem dX3_init_28 : decode cX3_init 28 = .ok (.putfield 13, 3) := by decide +kernel
theorem dX3_init_31 : decode cX3_init 31 = .ok (.return_, 1) := by decide +kernel
theorem dX5_init_0 : decode cX5_init 0 = .ok (.aload_n 0, 1) := by decide +kernel
theorem dX5_init_1 : decode cX5_init 1 = .ok (.iload_n 1, 1) := by decide +kernel
theorem dX5_init_2 : decode cX5_init 2 = .ok (.iload_n 2, 1) := by decide +kernel
theorem dX5_init_3 : decode cX5_init 3 = .ok (.iload_n 3, 1) := by decide +kernel
theorem dX5_init_4 : decode cX5_init 4 = .ok (.invokespecial 1, 3) := by decide +kernel
theorem dX5_init_7 : decode cX5_init 7 = .ok (.aload_n 0, 1) := by decide +kernel
theorem dX5_init_8 : decode cX5_init 8 = .ok (.dup, 1) := by decide +kernel
theorem dX5_init_9 : decode cX5_init 9 = .ok (.getfield 7, 3) := by decide +kernel
theorem dX5_init_12 : decode cX5_init 12 = .ok (.iload 4, 2) := by decide +kernel
theorem dX5_init_14 : decode cX5_init 14 = .ok (.iadd, 1) := by decide +kernel
theorem dX5_init_15 : decode cX5_init 15 = .ok (.putfield 7, 3) := by decide +kernel
theorem dX5_init_18 : decode cX5_init 18 = .ok (.return_, 1) := by decide +kernel
theorem dX6_init_0 : decode cX6_init 0 = .ok (.aload_n 0, 1) := by decide +kernel
theorem dX6_init_1 : decode cX6_init 1 = .ok (.iload_n 1, 1) := by decide +kernel
theorem dX6_init_2 : decode cX6_init 2 = .ok (.iload_n 2, 1) := by decide +kernel
theorem dX6_init_3 : decode cX6_init 3 = .ok (.iload_n 3, 1) := by decide +kernel
theorem dX6_init_4 : decode cX6_init 4 = .ok (.invokespecial 1, 3) := by decide +kernel
theorem dX6_init_7 : decode cX6_init 7 = .ok (.aload_n 0, 1) := by decide +kernel
theorem dX6_init_8 : decode cX6_init 8 = .ok (.dup, 1) := by decide +kernel
theorem dX6_init_9 : decode cX6_init 9 = .ok (.getfield 7, 3) := by decide +kernel
theorem dX6_init_12 : decode cX6_init 12 = .ok (.iload 4, 2) := by decide +kernel
theorem dX6_init_14 : decode cX6_init 14 = .ok (.iadd, 1) := by decide +kernel
theorem dX6_init_15 : decode cX6_init 15 = .ok (.putfield 7, 3) := by decide +kernel
theorem dX6_init_18 : decode cX6_init 18 = .ok (.return_, 1) := by decide +kernel
theorem dX9_init_0 : decode cX9_init 0 = .ok (.aload_n 0, 1) := by decide +kernel
theorem dX9_init_1 : decode cX9_init 1 = .ok (.iload_n 1, 1) := by decide +kernel
theorem dX9_init_2 : decode cX9_init 2 = .ok (.iload_n 2, 1) := by decide +kernel
theorem dX9_init_3 : decode cX9_init 3 = .ok (.iload_n 3, 1) := by decide +kernel
theorem dX9_init_4 : decode cX9_init 4 = .ok (.invokespecial 1, 3) := by decide +kernel
theorem dX9_init_7 : decode cX9_init 7 = .ok (.aload_n 0, 1) := by decide +kernel
theorem dX9_init_8 : decode cX9_init 8 = .ok (.dup, 1) := by decide +kernel
theorem dX9_init_9 : decode cX9_init 9 = .ok (.getfield 7, 3) := by decide +kernel
theorem dX9_init_12 : decode cX9_init 12 = .ok (.iconst 1, 1) := by decide +kernel
theorem dX9_init_13 : decode cX9_init 13 = .ok (.iadd, 1) := by decide +kernel
theorem dX9_init_14 : decode cX9_init 14 = .ok (.putfield 7, 3) := by decide +kernel
theorem dX9_init_17 : decode cX9_init 17 = .ok (.return_, 1) := by decide +kernel
section EO
variable {p : Program} {l : Launch} {e : Env} {R : Room} {s : State} {m : MethodId} {args : Array Value} {below : List Frame} {meth : Method} {c : Code} {H : Heap} {locs : List Loc} {cells slots : Nat} {Q : State → Prop} {cc : ByteArray} {pc : Nat} {ls : Array Slot} {rest : List Value} {own : String} {idx d a : Nat}
theorem e_obj (hc : qC own cc p s m args c) (hR : qRoom R d) (hd1 : 1 ≤ d) (hml : c.maxLocals = ls.size) (hlink : Cond.methodLink own idx Lib.objectInit ∈ lw_g) (hinst : Cond.instanceMethod Lib.objectInit ∈ lw_g) (hcode : Cond.code Lib.objectInit ⟨#[0xb1]⟩ 1 none ∈ lw_g) (hrm : (rest.map fun v => v.category).sum ≤ 8) (hdg : decode cc pc = .ok (.invokespecial idx, 3)) (kk : W p l e R s m args below meth c H locs cells slots Q (F0 m (pc + 3) ls rest)) : W p l e R s m args below meth c H locs cells slots Q (F0 m pc ls (.ref a :: rest)) :=
  W.objInit hc.1 hc.2.1 hc.2.2.1 (hc.2.2.2 _ hlink) (hc.2.2.2 _ hinst) (hc.2.2.2 _ hcode) rfl hml.symm rfl hdg (by have := hR.1; omega) (by have h := lv_room (m := m) (pc := pc) (ls := ls) (rest := .ref a :: rest) (st := rest) hrm; have := hR.2; omega) kk
end EO
set_option maxHeartbeats 4000000 in
set_option maxRecDepth 100000 in
theorem ci_X4 (l : Launch) (g : xG) (h0 : Nat) : eMv l yX4_init cX4_init 1 1 0 0 [.ref h0] g [(h0, .inr (4, [.int 0, .int 0, .int 0, .int 0, .int 0]))] (fun u => [(h0, .inr (4, [.int 0, .int 0, .int 0, .int 0, .int 0]))]) := by
  refine eMv_of (own := RX4) (by decide) rfl rfl (Nat.le_of_ble_eq_true rfl) ?_
  intro p e R s m args below meth c Q X A H0 H locs ls hc hR hRc hml hin hw hl hQ
  have hl : lv_has ls 1 [(0, .ref h0)] := hl
  have hx := hc.1
  have hb := hc.2.1
  refine lv_aload_n hx hb dX4_init_0 rfl (lv_at hl 0 rfl) ?_
  refine e_obj hc hR (by decide) (hml.trans hl.1.symm) (mem_g 117 (by decide +kernel) rfl) (mem_g 102 (by decide +kernel) rfl) (mem_g 103 (by decide +kernel) rfl) (Nat.le_of_ble_eq_true rfl) dX4_init_1 ?_
  exact hQ (fun k => 0) _ _ _ _ dX4_init_4 hw
set_option maxHeartbeats 4000000 in
set_option maxRecDepth 100000 in
theorem ci_X8 (l : Launch) (g : xG) (h0 : Nat) (a1 : Int32) (a2 : Int32) (a3 : Int32) : eMv l yX8_init cX8_init 4 1 1 8 [.ref h0, .int a1, .int a2, .int a3] g [(h0, .inr (8, [.int 0, .int 0, .int 0, .null, .int 0, .int 0, .int 0, .int 0, .int 0, .int 0, .int 0]))] (fun u => [(h0, .inr (8, [.int a1, .int a2, .int a3, .ref (u 0), .int 0, .int 0, .int 0, .int 0, .int (10 + (10 * a2)), .int 0, .int 1])), ((u 0), .inl (xc g 0, 8, .inl (fun _ => 0)))]) := by
  refine eMv_of (own := RX8) (by decide) rfl rfl (Nat.le_of_ble_eq_true rfl) ?_
  intro p e R s m args below meth c Q X A H0 H locs ls hc hR hRc hml hin hw hl hQ
  have hl : lv_has ls 4 [(0, .ref h0), (1, .int a1), (2, .int a2), (3, .int a3)] := hl
  have hx := hc.1
  have hb := hc.2.1
  refine lv_aload_n hx hb dX8_init_0 rfl (lv_at hl 0 rfl) ?_
  refine e_obj hc hR (by decide) (hml.trans hl.1.symm) (mem_g 548 (by decide +kernel) rfl) (mem_g 102 (by decide +kernel) rfl) (mem_g 103 (by decide +kernel) rfl) (Nat.le_of_ble_eq_true rfl) dX8_init_1 ?_
  refine lv_aload_n hx hb dX8_init_4 rfl (lv_at hl 0 rfl) ?_
  refine lv_bipush (v := 8) hx hb dX8_init_5 (by decide) ?_
  refine e_newa_i (N := 8) hc hw (mem_g 135 (by decide +kernel) rfl) (by decide) (by decide) (by decide) (by have := hRc.1; omega) (by have := hRc.2; omega) dX8_init_7 (fun q1 H hw => ?_)
  have hw : xJ g A H0 s (X ++ [(h0, .inr (8, [.int 0, .int 0, .int 0, .null, .int 0, .int 0, .int 0, .int 0, .int 0, .int 0, .int 0])), (q1, .inl (xc g 0, 8, .inl (fun _ => 0)))]) H locs := by have h := hw; rw [List.append_assoc] at h; exact h
  refine e_putF (ref := "OverTheHeads$Row") (C := RX8) (T := TX8) (N := 11) (L1 := [(h0, .inr (8, [.int 0, .int 0, .int 0, .ref q1, .int 0, .int 0, .int 0, .int 0, .int 0, .int 0, .int 0])), (q1, .inl (xc g 0, 8, .inl (fun _ => 0)))]) hc hw inG8 tyX8 tyX8_ok nmX8 0 rfl rfl 3 (by decide) (mem_g 557 (by decide +kernel) rfl) (fun _ h => h) rfl hin rfl (ty := .array .int) (by decide +kernel) rfl rfl (Nat.le_of_ble_eq_true rfl) rfl dX8_init_9 (fun H locs hw => ?_)
  refine lv_aload_n hx hb dX8_init_12 rfl (lv_at hl 0 rfl) ?_
  refine lv_iconst (v := 0) hx hb dX8_init_13 (by decide) ?_
  refine e_put (ref := "OverTheHeads$Row") (C := RX8) (T := TX8) (N := 11) (L1 := [(h0, .inr (8, [.int 0, .int 0, .int 0, .ref q1, .int 0, .int 0, .int 0, .int 0, .int 0, .int 0, .int 0])), (q1, .inl (xc g 0, 8, .inl (fun _ => 0)))]) hc hw inG8 tyX8 tyX8_ok nmX8 0 rfl rfl 4 (by decide) (mem_g 561 (by decide +kernel) rfl) (fun _ h => h) rfl (ty := .int) (by decide +kernel) rfl rfl (Nat.le_of_ble_eq_true rfl) rfl dX8_init_14 (fun H locs hw => ?_)
  refine lv_aload_n hx hb dX8_init_17 rfl (lv_at hl 0 rfl) ?_
  refine lv_iconst (v := 0) hx hb dX8_init_18 (by decide) ?_
  refine e_put (ref := "OverTheHeads$Row") (C := RX8) (T := TX8) (N := 11) (L1 := [(h0, .inr (8, [.int 0, .int 0, .int 0, .ref q1, .int 0, .int 0, .int 0, .int 0, .int 0, .int 0, .int 0])), (q1, .inl (xc g 0, 8, .inl (fun _ => 0)))]) hc hw inG8 tyX8 tyX8_ok nmX8 0 rfl rfl 5 (by decide) (mem_g 565 (by decide +kernel) rfl) (fun _ h => h) rfl (ty := .int) (by decide +kernel) rfl rfl (Nat.le_of_ble_eq_true rfl) rfl dX8_init_19 (fun H locs hw => ?_)
  refine lv_aload_n hx hb dX8_init_22 rfl (lv_at hl 0 rfl) ?_
  refine lv_iconst (v := 0) hx hb dX8_init_23 (by decide) ?_
  refine e_put (ref := "OverTheHeads$Row") (C := RX8) (T := TX8) (N := 11) (L1 := [(h0, .inr (8, [.int 0, .int 0, .int 0, .ref q1, .int 0, .int 0, .int 0, .int 0, .int 0, .int 0, .int 0])), (q1, .inl (xc g 0, 8, .inl (fun _ => 0)))]) hc hw inG8 tyX8 tyX8_ok nmX8 0 rfl rfl 6 (by decide) (mem_g 573 (by decide +kernel) rfl) (fun _ h => h) rfl (ty := .int) (by decide +kernel) rfl rfl (Nat.le_of_ble_eq_true rfl) rfl dX8_init_24 (fun H locs hw => ?_)
  refine lv_aload_n hx hb dX8_init_27 rfl (lv_at hl 0 rfl) ?_
  refine lv_iconst (v := 0) hx hb dX8_init_28 (by decide) ?_
  refine e_put (ref := "OverTheHeads$Row") (C := RX8) (T := TX8) (N := 11) (L1 := [(h0, .inr (8, [.int 0, .int 0, .int 0, .ref q1, .int 0, .int 0, .int 0, .int 0, .int 0, .int 0, .int 0])), (q1, .inl (xc g 0, 8, .inl (fun _ => 0)))]) hc hw inG8 tyX8 tyX8_ok nmX8 0 rfl rfl 7 (by decide) (mem_g 578 (by decide +kernel) rfl) (fun _ h => h) rfl (ty := .int) (by decide +kernel) rfl rfl (Nat.le_of_ble_eq_true rfl) rfl dX8_init_29 (fun H locs hw => ?_)
  refine lv_aload_n hx hb dX8_init_32 rfl (lv_at hl 0 rfl) ?_
  refine lv_iconst (v := 0) hx hb dX8_init_33 (by decide) ?_
  refine e_put (ref := "OverTheHeads$Row") (C := RX8) (T := TX8) (N := 11) (L1 := [(h0, .inr (8, [.int 0, .int 0, .int 0, .ref q1, .int 0, .int 0, .int 0, .int 0, .int 0, .int 0, .int 0])), (q1, .inl (xc g 0, 8, .inl (fun _ => 0)))]) hc hw inG8 tyX8 tyX8_ok nmX8 0 rfl rfl 9 (by decide) (mem_g 586 (by decide +kernel) rfl) (fun _ h => h) rfl (ty := .int) (by decide +kernel) rfl rfl (Nat.le_of_ble_eq_true rfl) rfl dX8_init_34 (fun H locs hw => ?_)
  refine lv_aload_n hx hb dX8_init_37 rfl (lv_at hl 0 rfl) ?_
  refine lv_iconst (v := 1) hx hb dX8_init_38 (by decide) ?_
  refine e_put (ref := "OverTheHeads$Row") (C := RX8) (T := TX8) (N := 11) (L1 := [(h0, .inr (8, [.int 0, .int 0, .int 0, .ref q1, .int 0, .int 0, .int 0, .int 0, .int 0, .int 0, .int 1])), (q1, .inl (xc g 0, 8, .inl (fun _ => 0)))]) hc hw inG8 tyX8 tyX8_ok nmX8 0 rfl rfl 10 (by decide) (mem_g 589 (by decide +kernel) rfl) (fun _ h => h) rfl (ty := .boolean) (by decide +kernel) rfl rfl (Nat.le_of_ble_eq_true rfl) rfl dX8_init_39 (fun H locs hw => ?_)
  refine lv_aload_n hx hb dX8_init_42 rfl (lv_at hl 0 rfl) ?_
  refine lv_iload_n hx hb dX8_init_43 rfl (lv_at hl 1 rfl) ?_
  refine e_putF (ref := "OverTheHeads$Row") (C := RX8) (T := TX8) (N := 11) (L1 := [(h0, .inr (8, [.int a1, .int 0, .int 0, .ref q1, .int 0, .int 0, .int 0, .int 0, .int 0, .int 0, .int 1])), (q1, .inl (xc g 0, 8, .inl (fun _ => 0)))]) hc hw inG8 tyX8 tyX8_ok nmX8 0 rfl rfl 0 (by decide) (mem_g 549 (by decide +kernel) rfl) (fun _ h => h) rfl hin rfl (ty := .int) (by decide +kernel) rfl rfl (Nat.le_of_ble_eq_true rfl) rfl dX8_init_44 (fun H locs hw => ?_)
  refine lv_aload_n hx hb dX8_init_47 rfl (lv_at hl 0 rfl) ?_
  refine lv_iload_n hx hb dX8_init_48 rfl (lv_at hl 2 rfl) ?_
  refine e_putF (ref := "OverTheHeads$Row") (C := RX8) (T := TX8) (N := 11) (L1 := [(h0, .inr (8, [.int a1, .int a2, .int 0, .ref q1, .int 0, .int 0, .int 0, .int 0, .int 0, .int 0, .int 1])), (q1, .inl (xc g 0, 8, .inl (fun _ => 0)))]) hc hw inG8 tyX8 tyX8_ok nmX8 0 rfl rfl 1 (by decide) (mem_g 551 (by decide +kernel) rfl) (fun _ h => h) rfl hin rfl (ty := .int) (by decide +kernel) rfl rfl (Nat.le_of_ble_eq_true rfl) rfl dX8_init_49 (fun H locs hw => ?_)
  refine lv_aload_n hx hb dX8_init_52 rfl (lv_at hl 0 rfl) ?_
  refine lv_iload_n hx hb dX8_init_53 rfl (lv_at hl 3 rfl) ?_
  refine e_putF (ref := "OverTheHeads$Row") (C := RX8) (T := TX8) (N := 11) (L1 := [(h0, .inr (8, [.int a1, .int a2, .int a3, .ref q1, .int 0, .int 0, .int 0, .int 0, .int 0, .int 0, .int 1])), (q1, .inl (xc g 0, 8, .inl (fun _ => 0)))]) hc hw inG8 tyX8 tyX8_ok nmX8 0 rfl rfl 2 (by decide) (mem_g 554 (by decide +kernel) rfl) (fun _ h => h) rfl hin rfl (ty := .int) (by decide +kernel) rfl rfl (Nat.le_of_ble_eq_true rfl) rfl dX8_init_54 (fun H locs hw => ?_)
  refine lv_aload_n hx hb dX8_init_57 rfl (lv_at hl 0 rfl) ?_
  refine lv_bipush (v := 10) hx hb dX8_init_58 (by decide) ?_
  refine lv_bipush (v := 10) hx hb dX8_init_60 (by decide) ?_
  refine lv_iload_n hx hb dX8_init_62 rfl (lv_at hl 2 rfl) ?_
  refine lv_imul hx hb dX8_init_63 ?_
  refine lv_iadd hx hb dX8_init_64 ?_
  refine e_put (ref := "OverTheHeads$Row") (C := RX8) (T := TX8) (N := 11) (L1 := [(h0, .inr (8, [.int a1, .int a2, .int a3, .ref q1, .int 0, .int 0, .int 0, .int 0, .int (10 + (10 * a2)), .int 0, .int 1])), (q1, .inl (xc g 0, 8, .inl (fun _ => 0)))]) hc hw inG8 tyX8 tyX8_ok nmX8 0 rfl rfl 8 (by decide) (mem_g 581 (by decide +kernel) rfl) (fun _ h => h) rfl (ty := .int) (by decide +kernel) rfl rfl (Nat.le_of_ble_eq_true rfl) rfl dX8_init_65 (fun H locs hw => ?_)
  exact hQ (fun k => if k = 0 then q1 else 0) _ _ _ _ dX8_init_68 hw
set_option maxHeartbeats 4000000 in
set_option maxRecDepth 100000 in
theorem ci_X8_9 (l : Launch) (g : xG) (h0 : Nat) (a1 : Int32) (a2 : Int32) (a3 : Int32) : eMv l yX8_init cX8_init 4 1 1 8 [.ref h0, .int a1, .int a2, .int a3] g [(h0, .inr (9, [.int 0, .int 0, .int 0, .null, .int 0, .int 0, .int 0, .int 0, .int 0, .int 0, .int 0]))] (fun u => [(h0, .inr (9, [.int a1, .int a2, .int a3, .ref (u 0), .int 0, .int 0, .int 0, .int 0, .int (10 + (10 * a2)), .int 0, .int 1])), ((u 0), .inl (xc g 0, 8, .inl (fun _ => 0)))]) := by
  refine eMv_of (own := RX8) (by decide) rfl rfl (Nat.le_of_ble_eq_true rfl) ?_
  intro p e R s m args below meth c Q X A H0 H locs ls hc hR hRc hml hin hw hl hQ
  have hl : lv_has ls 4 [(0, .ref h0), (1, .int a1), (2, .int a2), (3, .int a3)] := hl
  have hx := hc.1
  have hb := hc.2.1
  refine lv_aload_n hx hb dX8_init_0 rfl (lv_at hl 0 rfl) ?_
  refine e_obj hc hR (by decide) (hml.trans hl.1.symm) (mem_g 548 (by decide +kernel) rfl) (mem_g 102 (by decide +kernel) rfl) (mem_g 103 (by decide +kernel) rfl) (Nat.le_of_ble_eq_true rfl) dX8_init_1 ?_
  refine lv_aload_n hx hb dX8_init_4 rfl (lv_at hl 0 rfl) ?_
  refine lv_bipush (v := 8) hx hb dX8_init_5 (by decide) ?_
  refine e_newa_i (N := 8) hc hw (mem_g 135 (by decide +kernel) rfl) (by decide) (by decide) (by decide) (by have := hRc.1; omega) (by have := hRc.2; omega) dX8_init_7 (fun q1 H hw => ?_)
  have hw : xJ g A H0 s (X ++ [(h0, .inr (9, [.int 0, .int 0, .int 0, .null, .int 0, .int 0, .int 0, .int 0, .int 0, .int 0, .int 0])), (q1, .inl (xc g 0, 8, .inl (fun _ => 0)))]) H locs := by have h := hw; rw [List.append_assoc] at h; exact h
  refine e_putF (ref := "OverTheHeads$Row") (C := RX9) (T := TX9) (N := 11) (L1 := [(h0, .inr (9, [.int 0, .int 0, .int 0, .ref q1, .int 0, .int 0, .int 0, .int 0, .int 0, .int 0, .int 0])), (q1, .inl (xc g 0, 8, .inl (fun _ => 0)))]) hc hw inG9 tyX9 tyX9_ok nmX9 0 rfl rfl 3 (by decide) (mem_g 557 (by decide +kernel) rfl) (fun _ h => h) rfl hin rfl (ty := .array .int) (by decide +kernel) rfl rfl (Nat.le_of_ble_eq_true rfl) rfl dX8_init_9 (fun H locs hw => ?_)
  refine lv_aload_n hx hb dX8_init_12 rfl (lv_at hl 0 rfl) ?_
  refine lv_iconst (v := 0) hx hb dX8_init_13 (by decide) ?_
  refine e_put (ref := "OverTheHeads$Row") (C := RX9) (T := TX9) (N := 11) (L1 := [(h0, .inr (9, [.int 0, .int 0, .int 0, .ref q1, .int 0, .int 0, .int 0, .int 0, .int 0, .int 0, .int 0])), (q1, .inl (xc g 0, 8, .inl (fun _ => 0)))]) hc hw inG9 tyX9 tyX9_ok nmX9 0 rfl rfl 4 (by decide) (mem_g 561 (by decide +kernel) rfl) (fun _ h => h) rfl (ty := .int) (by decide +kernel) rfl rfl (Nat.le_of_ble_eq_true rfl) rfl dX8_init_14 (fun H locs hw => ?_)
  refine lv_aload_n hx hb dX8_init_17 rfl (lv_at hl 0 rfl) ?_
  refine lv_iconst (v := 0) hx hb dX8_init_18 (by decide) ?_
  refine e_put (ref := "OverTheHeads$Row") (C := RX9) (T := TX9) (N := 11) (L1 := [(h0, .inr (9, [.int 0, .int 0, .int 0, .ref q1, .int 0, .int 0, .int 0, .int 0, .int 0, .int 0, .int 0])), (q1, .inl (xc g 0, 8, .inl (fun _ => 0)))]) hc hw inG9 tyX9 tyX9_ok nmX9 0 rfl rfl 5 (by decide) (mem_g 565 (by decide +kernel) rfl) (fun _ h => h) rfl (ty := .int) (by decide +kernel) rfl rfl (Nat.le_of_ble_eq_true rfl) rfl dX8_init_19 (fun H locs hw => ?_)
  refine lv_aload_n hx hb dX8_init_22 rfl (lv_at hl 0 rfl) ?_
  refine lv_iconst (v := 0) hx hb dX8_init_23 (by decide) ?_
  refine e_put (ref := "OverTheHeads$Row") (C := RX9) (T := TX9) (N := 11) (L1 := [(h0, .inr (9, [.int 0, .int 0, .int 0, .ref q1, .int 0, .int 0, .int 0, .int 0, .int 0, .int 0, .int 0])), (q1, .inl (xc g 0, 8, .inl (fun _ => 0)))]) hc hw inG9 tyX9 tyX9_ok nmX9 0 rfl rfl 6 (by decide) (mem_g 573 (by decide +kernel) rfl) (fun _ h => h) rfl (ty := .int) (by decide +kernel) rfl rfl (Nat.le_of_ble_eq_true rfl) rfl dX8_init_24 (fun H locs hw => ?_)
  refine lv_aload_n hx hb dX8_init_27 rfl (lv_at hl 0 rfl) ?_
  refine lv_iconst (v := 0) hx hb dX8_init_28 (by decide) ?_
  refine e_put (ref := "OverTheHeads$Row") (C := RX9) (T := TX9) (N := 11) (L1 := [(h0, .inr (9, [.int 0, .int 0, .int 0, .ref q1, .int 0, .int 0, .int 0, .int 0, .int 0, .int 0, .int 0])), (q1, .inl (xc g 0, 8, .inl (fun _ => 0)))]) hc hw inG9 tyX9 tyX9_ok nmX9 0 rfl rfl 7 (by decide) (mem_g 578 (by decide +kernel) rfl) (fun _ h => h) rfl (ty := .int) (by decide +kernel) rfl rfl (Nat.le_of_ble_eq_true rfl) rfl dX8_init_29 (fun H locs hw => ?_)
  refine lv_aload_n hx hb dX8_init_32 rfl (lv_at hl 0 rfl) ?_
  refine lv_iconst (v := 0) hx hb dX8_init_33 (by decide) ?_
  refine e_put (ref := "OverTheHeads$Row") (C := RX9) (T := TX9) (N := 11) (L1 := [(h0, .inr (9, [.int 0, .int 0, .int 0, .ref q1, .int 0, .int 0, .int 0, .int 0, .int 0, .int 0, .int 0])), (q1, .inl (xc g 0, 8, .inl (fun _ => 0)))]) hc hw inG9 tyX9 tyX9_ok nmX9 0 rfl rfl 9 (by decide) (mem_g 586 (by decide +kernel) rfl) (fun _ h => h) rfl (ty := .int) (by decide +kernel) rfl rfl (Nat.le_of_ble_eq_true rfl) rfl dX8_init_34 (fun H locs hw => ?_)
  refine lv_aload_n hx hb dX8_init_37 rfl (lv_at hl 0 rfl) ?_
  refine lv_iconst (v := 1) hx hb dX8_init_38 (by decide) ?_
  refine e_put (ref := "OverTheHeads$Row") (C := RX9) (T := TX9) (N := 11) (L1 := [(h0, .inr (9, [.int 0, .int 0, .int 0, .ref q1, .int 0, .int 0, .int 0, .int 0, .int 0, .int 0, .int 1])), (q1, .inl (xc g 0, 8, .inl (fun _ => 0)))]) hc hw inG9 tyX9 tyX9_ok nmX9 0 rfl rfl 10 (by decide) (mem_g 589 (by decide +kernel) rfl) (fun _ h => h) rfl (ty := .boolean) (by decide +kernel) rfl rfl (Nat.le_of_ble_eq_true rfl) rfl dX8_init_39 (fun H locs hw => ?_)
  refine lv_aload_n hx hb dX8_init_42 rfl (lv_at hl 0 rfl) ?_
  refine lv_iload_n hx hb dX8_init_43 rfl (lv_at hl 1 rfl) ?_
  refine e_putF (ref := "OverTheHeads$Row") (C := RX9) (T := TX9) (N := 11) (L1 := [(h0, .inr (9, [.int a1, .int 0, .int 0, .ref q1, .int 0, .int 0, .int 0, .int 0, .int 0, .int 0, .int 1])), (q1, .inl (xc g 0, 8, .inl (fun _ => 0)))]) hc hw inG9 tyX9 tyX9_ok nmX9 0 rfl rfl 0 (by decide) (mem_g 549 (by decide +kernel) rfl) (fun _ h => h) rfl hin rfl (ty := .int) (by decide +kernel) rfl rfl (Nat.le_of_ble_eq_true rfl) rfl dX8_init_44 (fun H locs hw => ?_)
  refine lv_aload_n hx hb dX8_init_47 rfl (lv_at hl 0 rfl) ?_
  refine lv_iload_n hx hb dX8_init_48 rfl (lv_at hl 2 rfl) ?_
  refine e_putF (ref := "OverTheHeads$Row") (C := RX9) (T := TX9) (N := 11) (L1 := [(h0, .inr (9, [.int a1, .int a2, .int 0, .ref q1, .int 0, .int 0, .int 0, .int 0, .int 0, .int 0, .int 1])), (q1, .inl (xc g 0, 8, .inl (fun _ => 0)))]) hc hw inG9 tyX9 tyX9_ok nmX9 0 rfl rfl 1 (by decide) (mem_g 551 (by decide +kernel) rfl) (fun _ h => h) rfl hin rfl (ty := .int) (by decide +kernel) rfl rfl (Nat.le_of_ble_eq_true rfl) rfl dX8_init_49 (fun H locs hw => ?_)
  refine lv_aload_n hx hb dX8_init_52 rfl (lv_at hl 0 rfl) ?_
  refine lv_iload_n hx hb dX8_init_53 rfl (lv_at hl 3 rfl) ?_
  refine e_putF (ref := "OverTheHeads$Row") (C := RX9) (T := TX9) (N := 11) (L1 := [(h0, .inr (9, [.int a1, .int a2, .int a3, .ref q1, .int 0, .int 0, .int 0, .int 0, .int 0, .int 0, .int 1])), (q1, .inl (xc g 0, 8, .inl (fun _ => 0)))]) hc hw inG9 tyX9 tyX9_ok nmX9 0 rfl rfl 2 (by decide) (mem_g 554 (by decide +kernel) rfl) (fun _ h => h) rfl hin rfl (ty := .int) (by decide +kernel) rfl rfl (Nat.le_of_ble_eq_true rfl) rfl dX8_init_54 (fun H locs hw => ?_)
  refine lv_aload_n hx hb dX8_init_57 rfl (lv_at hl 0 rfl) ?_
  refine lv_bipush (v := 10) hx hb dX8_init_58 (by decide) ?_
  refine lv_bipush (v := 10) hx hb dX8_init_60 (by decide) ?_
  refine lv_iload_n hx hb dX8_init_62 rfl (lv_at hl 2 rfl) ?_
  refine lv_imul hx hb dX8_init_63 ?_
  refine lv_iadd hx hb dX8_init_64 ?_
  refine e_put (ref := "OverTheHeads$Row") (C := RX9) (T := TX9) (N := 11) (L1 := [(h0, .inr (9, [.int a1, .int a2, .int a3, .ref q1, .int 0, .int 0, .int 0, .int 0, .int (10 + (10 * a2)), .int 0, .int 1])), (q1, .inl (xc g 0, 8, .inl (fun _ => 0)))]) hc hw inG9 tyX9 tyX9_ok nmX9 0 rfl rfl 8 (by decide) (mem_g 581 (by decide +kernel) rfl) (fun _ h => h) rfl (ty := .int) (by decide +kernel) rfl rfl (Nat.le_of_ble_eq_true rfl) rfl dX8_init_65 (fun H locs hw => ?_)
  exact hQ (fun k => if k = 0 then q1 else 0) _ _ _ _ dX8_init_68 hw
set_option maxHeartbeats 4000000 in
set_option maxRecDepth 100000 in
theorem ci_X8_6 (l : Launch) (g : xG) (h0 : Nat) (a1 : Int32) (a2 : Int32) (a3 : Int32) : eMv l yX8_init cX8_init 4 1 1 8 [.ref h0, .int a1, .int a2, .int a3] g [(h0, .inr (6, [.int 0, .int 0, .int 0, .null, .int 0, .int 0, .int 0, .int 0, .int 0, .int 0, .int 0]))] (fun u => [(h0, .inr (6, [.int a1, .int a2, .int a3, .ref (u 0), .int 0, .int 0, .int 0, .int 0, .int (10 + (10 * a2)), .int 0, .int 1])), ((u 0), .inl (xc g 0, 8, .inl (fun _ => 0)))]) := by
  refine eMv_of (own := RX8) (by decide) rfl rfl (Nat.le_of_ble_eq_true rfl) ?_
  intro p e R s m args below meth c Q X A H0 H locs ls hc hR hRc hml hin hw hl hQ
  have hl : lv_has ls 4 [(0, .ref h0), (1, .int a1), (2, .int a2), (3, .int a3)] := hl
  have hx := hc.1
  have hb := hc.2.1
  refine lv_aload_n hx hb dX8_init_0 rfl (lv_at hl 0 rfl) ?_
  refine e_obj hc hR (by decide) (hml.trans hl.1.symm) (mem_g 548 (by decide +kernel) rfl) (mem_g 102 (by decide +kernel) rfl) (mem_g 103 (by decide +kernel) rfl) (Nat.le_of_ble_eq_true rfl) dX8_init_1 ?_
  refine lv_aload_n hx hb dX8_init_4 rfl (lv_at hl 0 rfl) ?_
  refine lv_bipush (v := 8) hx hb dX8_init_5 (by decide) ?_
  refine e_newa_i (N := 8) hc hw (mem_g 135 (by decide +kernel) rfl) (by decide) (by decide) (by decide) (by have := hRc.1; omega) (by have := hRc.2; omega) dX8_init_7 (fun q1 H hw => ?_)
  have hw : xJ g A H0 s (X ++ [(h0, .inr (6, [.int 0, .int 0, .int 0, .null, .int 0, .int 0, .int 0, .int 0, .int 0, .int 0, .int 0])), (q1, .inl (xc g 0, 8, .inl (fun _ => 0)))]) H locs := by have h := hw; rw [List.append_assoc] at h; exact h
  refine e_putF (ref := "OverTheHeads$Row") (C := RX6) (T := TX6) (N := 11) (L1 := [(h0, .inr (6, [.int 0, .int 0, .int 0, .ref q1, .int 0, .int 0, .int 0, .int 0, .int 0, .int 0, .int 0])), (q1, .inl (xc g 0, 8, .inl (fun _ => 0)))]) hc hw inG6 tyX6 tyX6_ok nmX6 0 rfl rfl 3 (by decide) (mem_g 557 (by decide +kernel) rfl) (fun _ h => h) rfl hin rfl (ty := .array .int) (by decide +kernel) rfl rfl (Nat.le_of_ble_eq_true rfl) rfl dX8_init_9 (fun H locs hw => ?_)
  refine lv_aload_n hx hb dX8_init_12 rfl (lv_at hl 0 rfl) ?_
  refine lv_iconst (v := 0) hx hb dX8_init_13 (by decide) ?_
  refine e_put (ref := "OverTheHeads$Row") (C := RX6) (T := TX6) (N := 11) (L1 := [(h0, .inr (6, [.int 0, .int 0, .int 0, .ref q1, .int 0, .int 0, .int 0, .int 0, .int 0, .int 0, .int 0])), (q1, .inl (xc g 0, 8, .inl (fun _ => 0)))]) hc hw inG6 tyX6 tyX6_ok nmX6 0 rfl rfl 4 (by decide) (mem_g 561 (by decide +kernel) rfl) (fun _ h => h) rfl (ty := .int) (by decide +kernel) rfl rfl (Nat.le_of_ble_eq_true rfl) rfl dX8_init_14 (fun H locs hw => ?_)
  refine lv_aload_n hx hb dX8_init_17 rfl (lv_at hl 0 rfl) ?_
  refine lv_iconst (v := 0) hx hb dX8_init_18 (by decide) ?_
  refine e_put (ref := "OverTheHeads$Row") (C := RX6) (T := TX6) (N := 11) (L1 := [(h0, .inr (6, [.int 0, .int 0, .int 0, .ref q1, .int 0, .int 0, .int 0, .int 0, .int 0, .int 0, .int 0])), (q1, .inl (xc g 0, 8, .inl (fun _ => 0)))]) hc hw inG6 tyX6 tyX6_ok nmX6 0 rfl rfl 5 (by decide) (mem_g 565 (by decide +kernel) rfl) (fun _ h => h) rfl (ty := .int) (by decide +kernel) rfl rfl (Nat.le_of_ble_eq_true rfl) rfl dX8_init_19 (fun H locs hw => ?_)
  refine lv_aload_n hx hb dX8_init_22 rfl (lv_at hl 0 rfl) ?_
  refine lv_iconst (v := 0) hx hb dX8_init_23 (by decide) ?_
  refine e_put (ref := "OverTheHeads$Row") (C := RX6) (T := TX6) (N := 11) (L1 := [(h0, .inr (6, [.int 0, .int 0, .int 0, .ref q1, .int 0, .int 0, .int 0, .int 0, .int 0, .int 0, .int 0])), (q1, .inl (xc g 0, 8, .inl (fun _ => 0)))]) hc hw inG6 tyX6 tyX6_ok nmX6 0 rfl rfl 6 (by decide) (mem_g 573 (by decide +kernel) rfl) (fun _ h => h) rfl (ty := .int) (by decide +kernel) rfl rfl (Nat.le_of_ble_eq_true rfl) rfl dX8_init_24 (fun H locs hw => ?_)
  refine lv_aload_n hx hb dX8_init_27 rfl (lv_at hl 0 rfl) ?_
  refine lv_iconst (v := 0) hx hb dX8_init_28 (by decide) ?_
  refine e_put (ref := "OverTheHeads$Row") (C := RX6) (T := TX6) (N := 11) (L1 := [(h0, .inr (6, [.int 0, .int 0, .int 0, .ref q1, .int 0, .int 0, .int 0, .int 0, .int 0, .int 0, .int 0])), (q1, .inl (xc g 0, 8, .inl (fun _ => 0)))]) hc hw inG6 tyX6 tyX6_ok nmX6 0 rfl rfl 7 (by decide) (mem_g 578 (by decide +kernel) rfl) (fun _ h => h) rfl (ty := .int) (by decide +kernel) rfl rfl (Nat.le_of_ble_eq_true rfl) rfl dX8_init_29 (fun H locs hw => ?_)
  refine lv_aload_n hx hb dX8_init_32 rfl (lv_at hl 0 rfl) ?_
  refine lv_iconst (v := 0) hx hb dX8_init_33 (by decide) ?_
  refine e_put (ref := "OverTheHeads$Row") (C := RX6) (T := TX6) (N := 11) (L1 := [(h0, .inr (6, [.int 0, .int 0, .int 0, .ref q1, .int 0, .int 0, .int 0, .int 0, .int 0, .int 0, .int 0])), (q1, .inl (xc g 0, 8, .inl (fun _ => 0)))]) hc hw inG6 tyX6 tyX6_ok nmX6 0 rfl rfl 9 (by decide) (mem_g 586 (by decide +kernel) rfl) (fun _ h => h) rfl (ty := .int) (by decide +kernel) rfl rfl (Nat.le_of_ble_eq_true rfl) rfl dX8_init_34 (fun H locs hw => ?_)
  refine lv_aload_n hx hb dX8_init_37 rfl (lv_at hl 0 rfl) ?_
  refine lv_iconst (v := 1) hx hb dX8_init_38 (by decide) ?_
  refine e_put (ref := "OverTheHeads$Row") (C := RX6) (T := TX6) (N := 11) (L1 := [(h0, .inr (6, [.int 0, .int 0, .int 0, .ref q1, .int 0, .int 0, .int 0, .int 0, .int 0, .int 0, .int 1])), (q1, .inl (xc g 0, 8, .inl (fun _ => 0)))]) hc hw inG6 tyX6 tyX6_ok nmX6 0 rfl rfl 10 (by decide) (mem_g 589 (by decide +kernel) rfl) (fun _ h => h) rfl (ty := .boolean) (by decide +kernel) rfl rfl (Nat.le_of_ble_eq_true rfl) rfl dX8_init_39 (fun H locs hw => ?_)
  refine lv_aload_n hx hb dX8_init_42 rfl (lv_at hl 0 rfl) ?_
  refine lv_iload_n hx hb dX8_init_43 rfl (lv_at hl 1 rfl) ?_
  refine e_putF (ref := "OverTheHeads$Row") (C := RX6) (T := TX6) (N := 11) (L1 := [(h0, .inr (6, [.int a1, .int 0, .int 0, .ref q1, .int 0, .int 0, .int 0, .int 0, .int 0, .int 0, .int 1])), (q1, .inl (xc g 0, 8, .inl (fun _ => 0)))]) hc hw inG6 tyX6 tyX6_ok nmX6 0 rfl rfl 0 (by decide) (mem_g 549 (by decide +kernel) rfl) (fun _ h => h) rfl hin rfl (ty := .int) (by decide +kernel) rfl rfl (Nat.le_of_ble_eq_true rfl) rfl dX8_init_44 (fun H locs hw => ?_)
  refine lv_aload_n hx hb dX8_init_47 rfl (lv_at hl 0 rfl) ?_
  refine lv_iload_n hx hb dX8_init_48 rfl (lv_at hl 2 rfl) ?_
  refine e_putF (ref := "OverTheHeads$Row") (C := RX6) (T := TX6) (N := 11) (L1 := [(h0, .inr (6, [.int a1, .int a2, .int 0, .ref q1, .int 0, .int 0, .int 0, .int 0, .int 0, .int 0, .int 1])), (q1, .inl (xc g 0, 8, .inl (fun _ => 0)))]) hc hw inG6 tyX6 tyX6_ok nmX6 0 rfl rfl 1 (by decide) (mem_g 551 (by decide +kernel) rfl) (fun _ h => h) rfl hin rfl (ty := .int) (by decide +kernel) rfl rfl (Nat.le_of_ble_eq_true rfl) rfl dX8_init_49 (fun H locs hw => ?_)
  refine lv_aload_n hx hb dX8_init_52 rfl (lv_at hl 0 rfl) ?_
  refine lv_iload_n hx hb dX8_init_53 rfl (lv_at hl 3 rfl) ?_
  refine e_putF (ref := "OverTheHeads$Row") (C := RX6) (T := TX6) (N := 11) (L1 := [(h0, .inr (6, [.int a1, .int a2, .int a3, .ref q1, .int 0, .int 0, .int 0, .int 0, .int 0, .int 0, .int 1])), (q1, .inl (xc g 0, 8, .inl (fun _ => 0)))]) hc hw inG6 tyX6 tyX6_ok nmX6 0 rfl rfl 2 (by decide) (mem_g 554 (by decide +kernel) rfl) (fun _ h => h) rfl hin rfl (ty := .int) (by decide +kernel) rfl rfl (Nat.le_of_ble_eq_true rfl) rfl dX8_init_54 (fun H locs hw => ?_)
  refine lv_aload_n hx hb dX8_init_57 rfl (lv_at hl 0 rfl) ?_
  refine lv_bipush (v := 10) hx hb dX8_init_58 (by decide) ?_
  refine lv_bipush (v := 10) hx hb dX8_init_60 (by decide) ?_
  refine lv_iload_n hx hb dX8_init_62 rfl (lv_at hl 2 rfl) ?_
  refine lv_imul hx hb dX8_init_63 ?_
  refine lv_iadd hx hb dX8_init_64 ?_
  refine e_put (ref := "OverTheHeads$Row") (C := RX6) (T := TX6) (N := 11) (L1 := [(h0, .inr (6, [.int a1, .int a2, .int a3, .ref q1, .int 0, .int 0, .int 0, .int 0, .int (10 + (10 * a2)), .int 0, .int 1])), (q1, .inl (xc g 0, 8, .inl (fun _ => 0)))]) hc hw inG6 tyX6 tyX6_ok nmX6 0 rfl rfl 8 (by decide) (mem_g 581 (by decide +kernel) rfl) (fun _ h => h) rfl (ty := .int) (by decide +kernel) rfl rfl (Nat.le_of_ble_eq_true rfl) rfl dX8_init_65 (fun H locs hw => ?_)
  exact hQ (fun k => if k = 0 then q1 else 0) _ _ _ _ dX8_init_68 hw
set_option maxHeartbeats 4000000 in
set_option maxRecDepth 100000 in
theorem ci_X8_3 (l : Launch) (g : xG) (h0 : Nat) (a1 : Int32) (a2 : Int32) (a3 : Int32) : eMv l yX8_init cX8_init 4 1 1 8 [.ref h0, .int a1, .int a2, .int a3] g [(h0, .inr (3, [.int 0, .int 0, .int 0, .null, .int 0, .int 0, .int 0, .int 0, .int 0, .int 0, .int 0]))] (fun u => [(h0, .inr (3, [.int a1, .int a2, .int a3, .ref (u 0), .int 0, .int 0, .int 0, .int 0, .int (10 + (10 * a2)), .int 0, .int 1])), ((u 0), .inl (xc g 0, 8, .inl (fun _ => 0)))]) := by
  refine eMv_of (own := RX8) (by decide) rfl rfl (Nat.le_of_ble_eq_true rfl) ?_
  intro p e R s m args below meth c Q X A H0 H locs ls hc hR hRc hml hin hw hl hQ
  have hl : lv_has ls 4 [(0, .ref h0), (1, .int a1), (2, .int a2), (3, .int a3)] := hl
  have hx := hc.1
  have hb := hc.2.1
  refine lv_aload_n hx hb dX8_init_0 rfl (lv_at hl 0 rfl) ?_
  refine e_obj hc hR (by decide) (hml.trans hl.1.symm) (mem_g 548 (by decide +kernel) rfl) (mem_g 102 (by decide +kernel) rfl) (mem_g 103 (by decide +kernel) rfl) (Nat.le_of_ble_eq_true rfl) dX8_init_1 ?_
  refine lv_aload_n hx hb dX8_init_4 rfl (lv_at hl 0 rfl) ?_
  refine lv_bipush (v := 8) hx hb dX8_init_5 (by decide) ?_
  refine e_newa_i (N := 8) hc hw (mem_g 135 (by decide +kernel) rfl) (by decide) (by decide) (by decide) (by have := hRc.1; omega) (by have := hRc.2; omega) dX8_init_7 (fun q1 H hw => ?_)
  have hw : xJ g A H0 s (X ++ [(h0, .inr (3, [.int 0, .int 0, .int 0, .null, .int 0, .int 0, .int 0, .int 0, .int 0, .int 0, .int 0])), (q1, .inl (xc g 0, 8, .inl (fun _ => 0)))]) H locs := by have h := hw; rw [List.append_assoc] at h; exact h
  refine e_putF (ref := "OverTheHeads$Row") (C := RX3) (T := TX3) (N := 11) (L1 := [(h0, .inr (3, [.int 0, .int 0, .int 0, .ref q1, .int 0, .int 0, .int 0, .int 0, .int 0, .int 0, .int 0])), (q1, .inl (xc g 0, 8, .inl (fun _ => 0)))]) hc hw inG3 tyX3 tyX3_ok nmX3 0 rfl rfl 3 (by decide) (mem_g 557 (by decide +kernel) rfl) (fun _ h => h) rfl hin rfl (ty := .array .int) (by decide +kernel) rfl rfl (Nat.le_of_ble_eq_true rfl) rfl dX8_init_9 (fun H locs hw => ?_)
  refine lv_aload_n hx hb dX8_init_12 rfl (lv_at hl 0 rfl) ?_
  refine lv_iconst (v := 0) hx hb dX8_init_13 (by decide) ?_
  refine e_put (ref := "OverTheHeads$Row") (C := RX3) (T := TX3) (N := 11) (L1 := [(h0, .inr (3, [.int 0, .int 0, .int 0, .ref q1, .int 0, .int 0, .int 0, .int 0, .int 0, .int 0, .int 0])), (q1, .inl (xc g 0, 8, .inl (fun _ => 0)))]) hc hw inG3 tyX3 tyX3_ok nmX3 0 rfl rfl 4 (by decide) (mem_g 561 (by decide +kernel) rfl) (fun _ h => h) rfl (ty := .int) (by decide +kernel) rfl rfl (Nat.le_of_ble_eq_true rfl) rfl dX8_init_14 (fun H locs hw => ?_)
  refine lv_aload_n hx hb dX8_init_17 rfl (lv_at hl 0 rfl) ?_
  refine lv_iconst (v := 0) hx hb dX8_init_18 (by decide) ?_
  refine e_put (ref := "OverTheHeads$Row") (C := RX3) (T := TX3) (N := 11) (L1 := [(h0, .inr (3, [.int 0, .int 0, .int 0, .ref q1, .int 0, .int 0, .int 0, .int 0, .int 0, .int 0, .int 0])), (q1, .inl (xc g 0, 8, .inl (fun _ => 0)))]) hc hw inG3 tyX3 tyX3_ok nmX3 0 rfl rfl 5 (by decide) (mem_g 565 (by decide +kernel) rfl) (fun _ h => h) rfl (ty := .int) (by decide +kernel) rfl rfl (Nat.le_of_ble_eq_true rfl) rfl dX8_init_19 (fun H locs hw => ?_)
  refine lv_aload_n hx hb dX8_init_22 rfl (lv_at hl 0 rfl) ?_
  refine lv_iconst (v := 0) hx hb dX8_init_23 (by decide) ?_
  refine e_put (ref := "OverTheHeads$Row") (C := RX3) (T := TX3) (N := 11) (L1 := [(h0, .inr (3, [.int 0, .int 0, .int 0, .ref q1, .int 0, .int 0, .int 0, .int 0, .int 0, .int 0, .int 0])), (q1, .inl (xc g 0, 8, .inl (fun _ => 0)))]) hc hw inG3 tyX3 tyX3_ok nmX3 0 rfl rfl 6 (by decide) (mem_g 573 (by decide +kernel) rfl) (fun _ h => h) rfl (ty := .int) (by decide +kernel) rfl rfl (Nat.le_of_ble_eq_true rfl) rfl dX8_init_24 (fun H locs hw => ?_)
  refine lv_aload_n hx hb dX8_init_27 rfl (lv_at hl 0 rfl) ?_
  refine lv_iconst (v := 0) hx hb dX8_init_28 (by decide) ?_
  refine e_put (ref := "OverTheHeads$Row") (C := RX3) (T := TX3) (N := 11) (L1 := [(h0, .inr (3, [.int 0, .int 0, .int 0, .ref q1, .int 0, .int 0, .int 0, .int 0, .int 0, .int 0, .int 0])), (q1, .inl (xc g 0, 8, .inl (fun _ => 0)))]) hc hw inG3 tyX3 tyX3_ok nmX3 0 rfl rfl 7 (by decide) (mem_g 578 (by decide +kernel) rfl) (fun _ h => h) rfl (ty := .int) (by decide +kernel) rfl rfl (Nat.le_of_ble_eq_true rfl) rfl dX8_init_29 (fun H locs hw => ?_)
  refine lv_aload_n hx hb dX8_init_32 rfl (lv_at hl 0 rfl) ?_
  refine lv_iconst (v := 0) hx hb dX8_init_33 (by decide) ?_
  refine e_put (ref := "OverTheHeads$Row") (C := RX3) (T := TX3) (N := 11) (L1 := [(h0, .inr (3, [.int 0, .int 0, .int 0, .ref q1, .int 0, .int 0, .int 0, .int 0, .int 0, .int 0, .int 0])), (q1, .inl (xc g 0, 8, .inl (fun _ => 0)))]) hc hw inG3 tyX3 tyX3_ok nmX3 0 rfl rfl 9 (by decide) (mem_g 586 (by decide +kernel) rfl) (fun _ h => h) rfl (ty := .int) (by decide +kernel) rfl rfl (Nat.le_of_ble_eq_true rfl) rfl dX8_init_34 (fun H locs hw => ?_)
  refine lv_aload_n hx hb dX8_init_37 rfl (lv_at hl 0 rfl) ?_
  refine lv_iconst (v := 1) hx hb dX8_init_38 (by decide) ?_
  refine e_put (ref := "OverTheHeads$Row") (C := RX3) (T := TX3) (N := 11) (L1 := [(h0, .inr (3, [.int 0, .int 0, .int 0, .ref q1, .int 0, .int 0, .int 0, .int 0, .int 0, .int 0, .int 1])), (q1, .inl (xc g 0, 8, .inl (fun _ => 0)))]) hc hw inG3 tyX3 tyX3_ok nmX3 0 rfl rfl 10 (by decide) (mem_g 589 (by decide +kernel) rfl) (fun _ h => h) rfl (ty := .boolean) (by decide +kernel) rfl rfl (Nat.le_of_ble_eq_true rfl) rfl dX8_init_39 (fun H locs hw => ?_)
  refine lv_aload_n hx hb dX8_init_42 rfl (lv_at hl 0 rfl) ?_
  refine lv_iload_n hx hb dX8_init_43 rfl (lv_at hl 1 rfl) ?_
  refine e_putF (ref := "OverTheHeads$Row") (C := RX3) (T := TX3) (N := 11) (L1 := [(h0, .inr (3, [.int a1, .int 0, .int 0, .ref q1, .int 0, .int 0, .int 0, .int 0, .int 0, .int 0, .int 1])), (q1, .inl (xc g 0, 8, .inl (fun _ => 0)))]) hc hw inG3 tyX3 tyX3_ok nmX3 0 rfl rfl 0 (by decide) (mem_g 549 (by decide +kernel) rfl) (fun _ h => h) rfl hin rfl (ty := .int) (by decide +kernel) rfl rfl (Nat.le_of_ble_eq_true rfl) rfl dX8_init_44 (fun H locs hw => ?_)
  refine lv_aload_n hx hb dX8_init_47 rfl (lv_at hl 0 rfl) ?_
  refine lv_iload_n hx hb dX8_init_48 rfl (lv_at hl 2 rfl) ?_
  refine e_putF (ref := "OverTheHeads$Row") (C := RX3) (T := TX3) (N := 11) (L1 := [(h0, .inr (3, [.int a1, .int a2, .int 0, .ref q1, .int 0, .int 0, .int 0, .int 0, .int 0, .int 0, .int 1])), (q1, .inl (xc g 0, 8, .inl (fun _ => 0)))]) hc hw inG3 tyX3 tyX3_ok nmX3 0 rfl rfl 1 (by decide) (mem_g 551 (by decide +kernel) rfl) (fun _ h => h) rfl hin rfl (ty := .int) (by decide +kernel) rfl rfl (Nat.le_of_ble_eq_true rfl) rfl dX8_init_49 (fun H locs hw => ?_)
  refine lv_aload_n hx hb dX8_init_52 rfl (lv_at hl 0 rfl) ?_
  refine lv_iload_n hx hb dX8_init_53 rfl (lv_at hl 3 rfl) ?_
  refine e_putF (ref := "OverTheHeads$Row") (C := RX3) (T := TX3) (N := 11) (L1 := [(h0, .inr (3, [.int a1, .int a2, .int a3, .ref q1, .int 0, .int 0, .int 0, .int 0, .int 0, .int 0, .int 1])), (q1, .inl (xc g 0, 8, .inl (fun _ => 0)))]) hc hw inG3 tyX3 tyX3_ok nmX3 0 rfl rfl 2 (by decide) (mem_g 554 (by decide +kernel) rfl) (fun _ h => h) rfl hin rfl (ty := .int) (by decide +kernel) rfl rfl (Nat.le_of_ble_eq_true rfl) rfl dX8_init_54 (fun H locs hw => ?_)
  refine lv_aload_n hx hb dX8_init_57 rfl (lv_at hl 0 rfl) ?_
  refine lv_bipush (v := 10) hx hb dX8_init_58 (by decide) ?_
  refine lv_bipush (v := 10) hx hb dX8_init_60 (by decide) ?_
  refine lv_iload_n hx hb dX8_init_62 rfl (lv_at hl 2 rfl) ?_
  refine lv_imul hx hb dX8_init_63 ?_
  refine lv_iadd hx hb dX8_init_64 ?_
  refine e_put (ref := "OverTheHeads$Row") (C := RX3) (T := TX3) (N := 11) (L1 := [(h0, .inr (3, [.int a1, .int a2, .int a3, .ref q1, .int 0, .int 0, .int 0, .int 0, .int (10 + (10 * a2)), .int 0, .int 1])), (q1, .inl (xc g 0, 8, .inl (fun _ => 0)))]) hc hw inG3 tyX3 tyX3_ok nmX3 0 rfl rfl 8 (by decide) (mem_g 581 (by decide +kernel) rfl) (fun _ h => h) rfl (ty := .int) (by decide +kernel) rfl rfl (Nat.le_of_ble_eq_true rfl) rfl dX8_init_65 (fun H locs hw => ?_)
  exact hQ (fun k => if k = 0 then q1 else 0) _ _ _ _ dX8_init_68 hw
set_option maxHeartbeats 4000000 in
set_option maxRecDepth 100000 in
theorem ci_X8_0 (l : Launch) (g : xG) (h0 : Nat) (a1 : Int32) (a2 : Int32) (a3 : Int32) : eMv l yX8_init cX8_init 4 1 1 8 [.ref h0, .int a1, .int a2, .int a3] g [(h0, .inr (0, [.int 0, .int 0, .int 0, .null, .int 0, .int 0, .int 0, .int 0, .int 0, .int 0, .int 0]))] (fun u => [(h0, .inr (0, [.int a1, .int a2, .int a3, .ref (u 0), .int 0, .int 0, .int 0, .int 0, .int (10 + (10 * a2)), .int 0, .int 1])), ((u 0), .inl (xc g 0, 8, .inl (fun _ => 0)))]) := by
  refine eMv_of (own := RX8) (by decide) rfl rfl (Nat.le_of_ble_eq_true rfl) ?_
  intro p e R s m args below meth c Q X A H0 H locs ls hc hR hRc hml hin hw hl hQ
  have hl : lv_has ls 4 [(0, .ref h0), (1, .int a1), (2, .int a2), (3, .int a3)] := hl
  have hx := hc.1
  have hb := hc.2.1
  refine lv_aload_n hx hb dX8_init_0 rfl (lv_at hl 0 rfl) ?_
  refine e_obj hc hR (by decide) (hml.trans hl.1.symm) (mem_g 548 (by decide +kernel) rfl) (mem_g 102 (by decide +kernel) rfl) (mem_g 103 (by decide +kernel) rfl) (Nat.le_of_ble_eq_true rfl) dX8_init_1 ?_
  refine lv_aload_n hx hb dX8_init_4 rfl (lv_at hl 0 rfl) ?_
  refine lv_bipush (v := 8) hx hb dX8_init_5 (by decide) ?_
  refine e_newa_i (N := 8) hc hw (mem_g 135 (by decide +kernel) rfl) (by decide) (by decide) (by decide) (by have := hRc.1; omega) (by have := hRc.2; omega) dX8_init_7 (fun q1 H hw => ?_)
  have hw : xJ g A H0 s (X ++ [(h0, .inr (0, [.int 0, .int 0, .int 0, .null, .int 0, .int 0, .int 0, .int 0, .int 0, .int 0, .int 0])), (q1, .inl (xc g 0, 8, .inl (fun _ => 0)))]) H locs := by have h := hw; rw [List.append_assoc] at h; exact h
  refine e_putF (ref := "OverTheHeads$Row") (C := RX0) (T := TX0) (N := 11) (L1 := [(h0, .inr (0, [.int 0, .int 0, .int 0, .ref q1, .int 0, .int 0, .int 0, .int 0, .int 0, .int 0, .int 0])), (q1, .inl (xc g 0, 8, .inl (fun _ => 0)))]) hc hw inG0 tyX0 tyX0_ok nmX0 0 rfl rfl 3 (by decide) (mem_g 557 (by decide +kernel) rfl) (fun _ h => h) rfl hin rfl (ty := .array .int) (by decide +kernel) rfl rfl (Nat.le_of_ble_eq_true rfl) rfl dX8_init_9 (fun H locs hw => ?_)
  refine lv_aload_n hx hb dX8_init_12 rfl (lv_at hl 0 rfl) ?_
  refine lv_iconst (v := 0) hx hb dX8_init_13 (by decide) ?_
  refine e_put (ref := "OverTheHeads$Row") (C := RX0) (T := TX0) (N := 11) (L1 := [(h0, .inr (0, [.int 0, .int 0, .int 0, .ref q1, .int 0, .int 0, .int 0, .int 0, .int 0, .int 0, .int 0])), (q1, .inl (xc g 0, 8, .inl (fun _ => 0)))]) hc hw inG0 tyX0 tyX0_ok nmX0 0 rfl rfl 4 (by decide) (mem_g 561 (by decide +kernel) rfl) (fun _ h => h) rfl (ty := .int) (by decide +kernel) rfl rfl (Nat.le_of_ble_eq_true rfl) rfl dX8_init_14 (fun H locs hw => ?_)
  refine lv_aload_n hx hb dX8_init_17 rfl (lv_at hl 0 rfl) ?_
  refine lv_iconst (v := 0) hx hb dX8_init_18 (by decide) ?_
  refine e_put (ref := "OverTheHeads$Row") (C := RX0) (T := TX0) (N := 11) (L1 := [(h0, .inr (0, [.int 0, .int 0, .int 0, .ref q1, .int 0, .int 0, .int 0, .int 0, .int 0, .int 0, .int 0])), (q1, .inl (xc g 0, 8, .inl (fun _ => 0)))]) hc hw inG0 tyX0 tyX0_ok nmX0 0 rfl rfl 5 (by decide) (mem_g 565 (by decide +kernel) rfl) (fun _ h => h) rfl (ty := .int) (by decide +kernel) rfl rfl (Nat.le_of_ble_eq_true rfl) rfl dX8_init_19 (fun H locs hw => ?_)
  refine lv_aload_n hx hb dX8_init_22 rfl (lv_at hl 0 rfl) ?_
  refine lv_iconst (v := 0) hx hb dX8_init_23 (by decide) ?_
  refine e_put (ref := "OverTheHeads$Row") (C := RX0) (T := TX0) (N := 11) (L1 := [(h0, .inr (0, [.int 0, .int 0, .int 0, .ref q1, .int 0, .int 0, .int 0, .int 0, .int 0, .int 0, .int 0])), (q1, .inl (xc g 0, 8, .inl (fun _ => 0)))]) hc hw inG0 tyX0 tyX0_ok nmX0 0 rfl rfl 6 (by decide) (mem_g 573 (by decide +kernel) rfl) (fun _ h => h) rfl (ty := .int) (by decide +kernel) rfl rfl (Nat.le_of_ble_eq_true rfl) rfl dX8_init_24 (fun H locs hw => ?_)
  refine lv_aload_n hx hb dX8_init_27 rfl (lv_at hl 0 rfl) ?_
  refine lv_iconst (v := 0) hx hb dX8_init_28 (by decide) ?_
  refine e_put (ref := "OverTheHeads$Row") (C := RX0) (T := TX0) (N := 11) (L1 := [(h0, .inr (0, [.int 0, .int 0, .int 0, .ref q1, .int 0, .int 0, .int 0, .int 0, .int 0, .int 0, .int 0])), (q1, .inl (xc g 0, 8, .inl (fun _ => 0)))]) hc hw inG0 tyX0 tyX0_ok nmX0 0 rfl rfl 7 (by decide) (mem_g 578 (by decide +kernel) rfl) (fun _ h => h) rfl (ty := .int) (by decide +kernel) rfl rfl (Nat.le_of_ble_eq_true rfl) rfl dX8_init_29 (fun H locs hw => ?_)
  refine lv_aload_n hx hb dX8_init_32 rfl (lv_at hl 0 rfl) ?_
  refine lv_iconst (v := 0) hx hb dX8_init_33 (by decide) ?_
  refine e_put (ref := "OverTheHeads$Row") (C := RX0) (T := TX0) (N := 11) (L1 := [(h0, .inr (0, [.int 0, .int 0, .int 0, .ref q1, .int 0, .int 0, .int 0, .int 0, .int 0, .int 0, .int 0])), (q1, .inl (xc g 0, 8, .inl (fun _ => 0)))]) hc hw inG0 tyX0 tyX0_ok nmX0 0 rfl rfl 9 (by decide) (mem_g 586 (by decide +kernel) rfl) (fun _ h => h) rfl (ty := .int) (by decide +kernel) rfl rfl (Nat.le_of_ble_eq_true rfl) rfl dX8_init_34 (fun H locs hw => ?_)
  refine lv_aload_n hx hb dX8_init_37 rfl (lv_at hl 0 rfl) ?_
  refine lv_iconst (v := 1) hx hb dX8_init_38 (by decide) ?_
  refine e_put (ref := "OverTheHeads$Row") (C := RX0) (T := TX0) (N := 11) (L1 := [(h0, .inr (0, [.int 0, .int 0, .int 0, .ref q1, .int 0, .int 0, .int 0, .int 0, .int 0, .int 0, .int 1])), (q1, .inl (xc g 0, 8, .inl (fun _ => 0)))]) hc hw inG0 tyX0 tyX0_ok nmX0 0 rfl rfl 10 (by decide) (mem_g 589 (by decide +kernel) rfl) (fun _ h => h) rfl (ty := .boolean) (by decide +kernel) rfl rfl (Nat.le_of_ble_eq_true rfl) rfl dX8_init_39 (fun H locs hw => ?_)
  refine lv_aload_n hx hb dX8_init_42 rfl (lv_at hl 0 rfl) ?_
  refine lv_iload_n hx hb dX8_init_43 rfl (lv_at hl 1 rfl) ?_
  refine e_putF (ref := "OverTheHeads$Row") (C := RX0) (T := TX0) (N := 11) (L1 := [(h0, .inr (0, [.int a1, .int 0, .int 0, .ref q1, .int 0, .int 0, .int 0, .int 0, .int 0, .int 0, .int 1])), (q1, .inl (xc g 0, 8, .inl (fun _ => 0)))]) hc hw inG0 tyX0 tyX0_ok nmX0 0 rfl rfl 0 (by decide) (mem_g 549 (by decide +kernel) rfl) (fun _ h => h) rfl hin rfl (ty := .int) (by decide +kernel) rfl rfl (Nat.le_of_ble_eq_true rfl) rfl dX8_init_44 (fun H locs hw => ?_)
  refine lv_aload_n hx hb dX8_init_47 rfl (lv_at hl 0 rfl) ?_
  refine lv_iload_n hx hb dX8_init_48 rfl (lv_at hl 2 rfl) ?_
  refine e_putF (ref := "OverTheHeads$Row") (C := RX0) (T := TX0) (N := 11) (L1 := [(h0, .inr (0, [.int a1, .int a2, .int 0, .ref q1, .int 0, .int 0, .int 0, .int 0, .int 0, .int 0, .int 1])), (q1, .inl (xc g 0, 8, .inl (fun _ => 0)))]) hc hw inG0 tyX0 tyX0_ok nmX0 0 rfl rfl 1 (by decide) (mem_g 551 (by decide +kernel) rfl) (fun _ h => h) rfl hin rfl (ty := .int) (by decide +kernel) rfl rfl (Nat.le_of_ble_eq_true rfl) rfl dX8_init_49 (fun H locs hw => ?_)
  refine lv_aload_n hx hb dX8_init_52 rfl (lv_at hl 0 rfl) ?_
  refine lv_iload_n hx hb dX8_init_53 rfl (lv_at hl 3 rfl) ?_
  refine e_putF (ref := "OverTheHeads$Row") (C := RX0) (T := TX0) (N := 11) (L1 := [(h0, .inr (0, [.int a1, .int a2, .int a3, .ref q1, .int 0, .int 0, .int 0, .int 0, .int 0, .int 0, .int 1])), (q1, .inl (xc g 0, 8, .inl (fun _ => 0)))]) hc hw inG0 tyX0 tyX0_ok nmX0 0 rfl rfl 2 (by decide) (mem_g 554 (by decide +kernel) rfl) (fun _ h => h) rfl hin rfl (ty := .int) (by decide +kernel) rfl rfl (Nat.le_of_ble_eq_true rfl) rfl dX8_init_54 (fun H locs hw => ?_)
  refine lv_aload_n hx hb dX8_init_57 rfl (lv_at hl 0 rfl) ?_
  refine lv_bipush (v := 10) hx hb dX8_init_58 (by decide) ?_
  refine lv_bipush (v := 10) hx hb dX8_init_60 (by decide) ?_
  refine lv_iload_n hx hb dX8_init_62 rfl (lv_at hl 2 rfl) ?_
  refine lv_imul hx hb dX8_init_63 ?_
  refine lv_iadd hx hb dX8_init_64 ?_
  refine e_put (ref := "OverTheHeads$Row") (C := RX0) (T := TX0) (N := 11) (L1 := [(h0, .inr (0, [.int a1, .int a2, .int a3, .ref q1, .int 0, .int 0, .int 0, .int 0, .int (10 + (10 * a2)), .int 0, .int 1])), (q1, .inl (xc g 0, 8, .inl (fun _ => 0)))]) hc hw inG0 tyX0 tyX0_ok nmX0 0 rfl rfl 8 (by decide) (mem_g 581 (by decide +kernel) rfl) (fun _ h => h) rfl (ty := .int) (by decide +kernel) rfl rfl (Nat.le_of_ble_eq_true rfl) rfl dX8_init_65 (fun H locs hw => ?_)
  exact hQ (fun k => if k = 0 then q1 else 0) _ _ _ _ dX8_init_68 hw
set_option maxHeartbeats 4000000 in
set_option maxRecDepth 100000 in
theorem ci_X8_5 (l : Launch) (g : xG) (h0 : Nat) (a1 : Int32) (a2 : Int32) (a3 : Int32) : eMv l yX8_init cX8_init 4 1 1 8 [.ref h0, .int a1, .int a2, .int a3] g [(h0, .inr (5, [.int 0, .int 0, .int 0, .null, .int 0, .int 0, .int 0, .int 0, .int 0, .int 0, .int 0]))] (fun u => [(h0, .inr (5, [.int a1, .int a2, .int a3, .ref (u 0), .int 0, .int 0, .int 0, .int 0, .int (10 + (10 * a2)), .int 0, .int 1])), ((u 0), .inl (xc g 0, 8, .inl (fun _ => 0)))]) := by
  refine eMv_of (own := RX8) (by decide) rfl rfl (Nat.le_of_ble_eq_true rfl) ?_
  intro p e R s m args below meth c Q X A H0 H locs ls hc hR hRc hml hin hw hl hQ
  have hl : lv_has ls 4 [(0, .ref h0), (1, .int a1), (2, .int a2), (3, .int a3)] := hl
  have hx := hc.1
  have hb := hc.2.1
  refine lv_aload_n hx hb dX8_init_0 rfl (lv_at hl 0 rfl) ?_
  refine e_obj hc hR (by decide) (hml.trans hl.1.symm) (mem_g 548 (by decide +kernel) rfl) (mem_g 102 (by decide +kernel) rfl) (mem_g 103 (by decide +kernel) rfl) (Nat.le_of_ble_eq_true rfl) dX8_init_1 ?_
  refine lv_aload_n hx hb dX8_init_4 rfl (lv_at hl 0 rfl) ?_
  refine lv_bipush (v := 8) hx hb dX8_init_5 (by decide) ?_
  refine e_newa_i (N := 8) hc hw (mem_g 135 (by decide +kernel) rfl) (by decide) (by decide) (by decide) (by have := hRc.1; omega) (by have := hRc.2; omega) dX8_init_7 (fun q1 H hw => ?_)
  have hw : xJ g A H0 s (X ++ [(h0, .inr (5, [.int 0, .int 0, .int 0, .null, .int 0, .int 0, .int 0, .int 0, .int 0, .int 0, .int 0])), (q1, .inl (xc g 0, 8, .inl (fun _ => 0)))]) H locs := by have h := hw; rw [List.append_assoc] at h; exact h
  refine e_putF (ref := "OverTheHeads$Row") (C := RX5) (T := TX5) (N := 11) (L1 := [(h0, .inr (5, [.int 0, .int 0, .int 0, .ref q1, .int 0, .int 0, .int 0, .int 0, .int 0, .int 0, .int 0])), (q1, .inl (xc g 0, 8, .inl (fun _ => 0)))]) hc hw inG5 tyX5 tyX5_ok nmX5 0 rfl rfl 3 (by decide) (mem_g 557 (by decide +kernel) rfl) (fun _ h => h) rfl hin rfl (ty := .array .int) (by decide +kernel) rfl rfl (Nat.le_of_ble_eq_true rfl) rfl dX8_init_9 (fun H locs hw => ?_)
  refine lv_aload_n hx hb dX8_init_12 rfl (lv_at hl 0 rfl) ?_
  refine lv_iconst (v := 0) hx hb dX8_init_13 (by decide) ?_
  refine e_put (ref := "OverTheHeads$Row") (C := RX5) (T := TX5) (N := 11) (L1 := [(h0, .inr (5, [.int 0, .int 0, .int 0, .ref q1, .int 0, .int 0, .int 0, .int 0, .int 0, .int 0, .int 0])), (q1, .inl (xc g 0, 8, .inl (fun _ => 0)))]) hc hw inG5 tyX5 tyX5_ok nmX5 0 rfl rfl 4 (by decide) (mem_g 561 (by decide +kernel) rfl) (fun _ h => h) rfl (ty := .int) (by decide +kernel) rfl rfl (Nat.le_of_ble_eq_true rfl) rfl dX8_init_14 (fun H locs hw => ?_)
  refine lv_aload_n hx hb dX8_init_17 rfl (lv_at hl 0 rfl) ?_
  refine lv_iconst (v := 0) hx hb dX8_init_18 (by decide) ?_
  refine e_put (ref := "OverTheHeads$Row") (C := RX5) (T := TX5) (N := 11) (L1 := [(h0, .inr (5, [.int 0, .int 0, .int 0, .ref q1, .int 0, .int 0, .int 0, .int 0, .int 0, .int 0, .int 0])), (q1, .inl (xc g 0, 8, .inl (fun _ => 0)))]) hc hw inG5 tyX5 tyX5_ok nmX5 0 rfl rfl 5 (by decide) (mem_g 565 (by decide +kernel) rfl) (fun _ h => h) rfl (ty := .int) (by decide +kernel) rfl rfl (Nat.le_of_ble_eq_true rfl) rfl dX8_init_19 (fun H locs hw => ?_)
  refine lv_aload_n hx hb dX8_init_22 rfl (lv_at hl 0 rfl) ?_
  refine lv_iconst (v := 0) hx hb dX8_init_23 (by decide) ?_
  refine e_put (ref := "OverTheHeads$Row") (C := RX5) (T := TX5) (N := 11) (L1 := [(h0, .inr (5, [.int 0, .int 0, .int 0, .ref q1, .int 0, .int 0, .int 0, .int 0, .int 0, .int 0, .int 0])), (q1, .inl (xc g 0, 8, .inl (fun _ => 0)))]) hc hw inG5 tyX5 tyX5_ok nmX5 0 rfl rfl 6 (by decide) (mem_g 573 (by decide +kernel) rfl) (fun _ h => h) rfl (ty := .int) (by decide +kernel) rfl rfl (Nat.le_of_ble_eq_true rfl) rfl dX8_init_24 (fun H locs hw => ?_)
  refine lv_aload_n hx hb dX8_init_27 rfl (lv_at hl 0 rfl) ?_
  refine lv_iconst (v := 0) hx hb dX8_init_28 (by decide) ?_
  refine e_put (ref := "OverTheHeads$Row") (C := RX5) (T := TX5) (N := 11) (L1 := [(h0, .inr (5, [.int 0, .int 0, .int 0, .ref q1, .int 0, .int 0, .int 0, .int 0, .int 0, .int 0, .int 0])), (q1, .inl (xc g 0, 8, .inl (fun _ => 0)))]) hc hw inG5 tyX5 tyX5_ok nmX5 0 rfl rfl 7 (by decide) (mem_g 578 (by decide +kernel) rfl) (fun _ h => h) rfl (ty := .int) (by decide +kernel) rfl rfl (Nat.le_of_ble_eq_true rfl) rfl dX8_init_29 (fun H locs hw => ?_)
  refine lv_aload_n hx hb dX8_init_32 rfl (lv_at hl 0 rfl) ?_
  refine lv_iconst (v := 0) hx hb dX8_init_33 (by decide) ?_
  refine e_put (ref := "OverTheHeads$Row") (C := RX5) (T := TX5) (N := 11) (L1 := [(h0, .inr (5, [.int 0, .int 0, .int 0, .ref q1, .int 0, .int 0, .int 0, .int 0, .int 0, .int 0, .int 0])), (q1, .inl (xc g 0, 8, .inl (fun _ => 0)))]) hc hw inG5 tyX5 tyX5_ok nmX5 0 rfl rfl 9 (by decide) (mem_g 586 (by decide +kernel) rfl) (fun _ h => h) rfl (ty := .int) (by decide +kernel) rfl rfl (Nat.le_of_ble_eq_true rfl) rfl dX8_init_34 (fun H locs hw => ?_)
  refine lv_aload_n hx hb dX8_init_37 rfl (lv_at hl 0 rfl) ?_
  refine lv_iconst (v := 1) hx hb dX8_init_38 (by decide) ?_
  refine e_put (ref := "OverTheHeads$Row") (C := RX5) (T := TX5) (N := 11) (L1 := [(h0, .inr (5, [.int 0, .int 0, .int 0, .ref q1, .int 0, .int 0, .int 0, .int 0, .int 0, .int 0, .int 1])), (q1, .inl (xc g 0, 8, .inl (fun _ => 0)))]) hc hw inG5 tyX5 tyX5_ok nmX5 0 rfl rfl 10 (by decide) (mem_g 589 (by decide +kernel) rfl) (fun _ h => h) rfl (ty := .boolean) (by decide +kernel) rfl rfl (Nat.le_of_ble_eq_true rfl) rfl dX8_init_39 (fun H locs hw => ?_)
  refine lv_aload_n hx hb dX8_init_42 rfl (lv_at hl 0 rfl) ?_
  refine lv_iload_n hx hb dX8_init_43 rfl (lv_at hl 1 rfl) ?_
  refine e_putF (ref := "OverTheHeads$Row") (C := RX5) (T := TX5) (N := 11) (L1 := [(h0, .inr (5, [.int a1, .int 0, .int 0, .ref q1, .int 0, .int 0, .int 0, .int 0, .int 0, .int 0, .int 1])), (q1, .inl (xc g 0, 8, .inl (fun _ => 0)))]) hc hw inG5 tyX5 tyX5_ok nmX5 0 rfl rfl 0 (by decide) (mem_g 549 (by decide +kernel) rfl) (fun _ h => h) rfl hin rfl (ty := .int) (by decide +kernel) rfl rfl (Nat.le_of_ble_eq_true rfl) rfl dX8_init_44 (fun H locs hw => ?_)
  refine lv_aload_n hx hb dX8_init_47 rfl (lv_at hl 0 rfl) ?_
  refine lv_iload_n hx hb dX8_init_48 rfl (lv_at hl 2 rfl) ?_
  refine e_putF (ref := "OverTheHeads$Row") (C := RX5) (T := TX5) (N := 11) (L1 := [(h0, .inr (5, [.int a1, .int a2, .int 0, .ref q1, .int 0, .int 0, .int 0, .int 0, .int 0, .int 0, .int 1])), (q1, .inl (xc g 0, 8, .inl (fun _ => 0)))]) hc hw inG5 tyX5 tyX5_ok nmX5 0 rfl rfl 1 (by decide) (mem_g 551 (by decide +kernel) rfl) (fun _ h => h) rfl hin rfl (ty := .int) (by decide +kernel) rfl rfl (Nat.le_of_ble_eq_true rfl) rfl dX8_init_49 (fun H locs hw => ?_)
  refine lv_aload_n hx hb dX8_init_52 rfl (lv_at hl 0 rfl) ?_
  refine lv_iload_n hx hb dX8_init_53 rfl (lv_at hl 3 rfl) ?_
  refine e_putF (ref := "OverTheHeads$Row") (C := RX5) (T := TX5) (N := 11) (L1 := [(h0, .inr (5, [.int a1, .int a2, .int a3, .ref q1, .int 0, .int 0, .int 0, .int 0, .int 0, .int 0, .int 1])), (q1, .inl (xc g 0, 8, .inl (fun _ => 0)))]) hc hw inG5 tyX5 tyX5_ok nmX5 0 rfl rfl 2 (by decide) (mem_g 554 (by decide +kernel) rfl) (fun _ h => h) rfl hin rfl (ty := .int) (by decide +kernel) rfl rfl (Nat.le_of_ble_eq_true rfl) rfl dX8_init_54 (fun H locs hw => ?_)
  refine lv_aload_n hx hb dX8_init_57 rfl (lv_at hl 0 rfl) ?_
  refine lv_bipush (v := 10) hx hb dX8_init_58 (by decide) ?_
  refine lv_bipush (v := 10) hx hb dX8_init_60 (by decide) ?_
  refine lv_iload_n hx hb dX8_init_62 rfl (lv_at hl 2 rfl) ?_
  refine lv_imul hx hb dX8_init_63 ?_
  refine lv_iadd hx hb dX8_init_64 ?_
  refine e_put (ref := "OverTheHeads$Row") (C := RX5) (T := TX5) (N := 11) (L1 := [(h0, .inr (5, [.int a1, .int a2, .int a3, .ref q1, .int 0, .int 0, .int 0, .int 0, .int (10 + (10 * a2)), .int 0, .int 1])), (q1, .inl (xc g 0, 8, .inl (fun _ => 0)))]) hc hw inG5 tyX5 tyX5_ok nmX5 0 rfl rfl 8 (by decide) (mem_g 581 (by decide +kernel) rfl) (fun _ h => h) rfl (ty := .int) (by decide +kernel) rfl rfl (Nat.le_of_ble_eq_true rfl) rfl dX8_init_65 (fun H locs hw => ?_)
  exact hQ (fun k => if k = 0 then q1 else 0) _ _ _ _ dX8_init_68 hw
set_option maxHeartbeats 4000000 in
set_option maxRecDepth 100000 in
theorem ci_X9 (l : Launch) (g : xG) (h0 : Nat) (a1 : Int32) (a2 : Int32) (a3 : Int32) : eMv l yX9_init cX9_init 4 2 1 8 [.ref h0, .int a1, .int a2, .int a3] g [(h0, .inr (9, [.int 0, .int 0, .int 0, .null, .int 0, .int 0, .int 0, .int 0, .int 0, .int 0, .int 0]))] (fun u => [(h0, .inr (9, [.int a1, .int a2, .int a3, .ref (u 0), .int 0, .int 0, .int (0 + 1), .int 0, .int (10 + (10 * a2)), .int 0, .int 1])), ((u 0), .inl (xc g 0, 8, .inl (fun _ => 0)))]) := by
  refine eMv_of (own := RX9) (by decide) rfl rfl (Nat.le_of_ble_eq_true rfl) ?_
  intro p e R s m args below meth c Q X A H0 H locs ls hc hR hRc hml hin hw hl hQ
  have hl : lv_has ls 4 [(0, .ref h0), (1, .int a1), (2, .int a2), (3, .int a3)] := hl
  have hx := hc.1
  have hb := hc.2.1
  refine lv_aload_n hx hb dX9_init_0 rfl (lv_at hl 0 rfl) ?_
  refine lv_iload_n hx hb dX9_init_1 rfl (lv_at hl 1 rfl) ?_
  refine lv_iload_n hx hb dX9_init_2 rfl (lv_at hl 2 rfl) ?_
  refine lv_iload_n hx hb dX9_init_3 rfl (lv_at hl 3 rfl) ?_
  refine e_cvi (As := [.int a1, .int a2, .int a3]) (rest := []) hc hw hR (hml.trans hl.1.symm) (ci_X8_9 l g h0 a1 a2 a3) (⟨⟨(mem_g 545 (by decide +kernel) rfl), (mem_g 546 (by decide +kernel) rfl), (mem_g 90 (by decide +kernel) rfl), (mem_g 547 (by decide +kernel) rfl)⟩, rfl, by decide, by decide +kernel, by decide⟩ : qCi RX9 1 yX8_init cX8_init 4 3) (by decide) rfl rfl rfl (Nat.le_of_ble_eq_true rfl) dX9_init_4 ⟨by have := hRc.1; omega, by have := hRc.2; omega⟩ (fun u0 H locs hw => ?_)
  refine lv_aload_n hx hb dX9_init_7 rfl (lv_at hl 0 rfl) ?_
  refine lv_dup hx hb dX9_init_8 rfl ?_
  refine e_get (ref := "OverTheHeads$Shifted") (C := RX9) (T := TX9) (N := 11) hc hw inG9 0 rfl rfl 6 (by decide) (mem_g 569 (by decide +kernel) rfl) (fun x h => u_same (hc.2.2.2 _ (mem_g 570 (by decide +kernel) rfl)) x h) rfl dX9_init_9 ?_
  refine lv_iconst (v := 1) hx hb dX9_init_12 (by decide) ?_
  refine lv_iadd hx hb dX9_init_13 ?_
  refine e_put (ref := "OverTheHeads$Shifted") (C := RX9) (T := TX9) (N := 11) (L1 := [(h0, .inr (9, [.int a1, .int a2, .int a3, .ref (u0 0), .int 0, .int 0, .int (0 + 1), .int 0, .int (10 + (10 * a2)), .int 0, .int 1])), ((u0 0), .inl (xc g 0, 8, .inl (fun _ => 0)))]) hc hw inG9 tyX9 tyX9_ok nmX9 0 rfl rfl 6 (by decide) (mem_g 569 (by decide +kernel) rfl) (fun x h => u_same (hc.2.2.2 _ (mem_g 570 (by decide +kernel) rfl)) x h) rfl (ty := .int) (by decide +kernel) rfl rfl (Nat.le_of_ble_eq_true rfl) rfl dX9_init_14 (fun H locs hw => ?_)
  exact hQ (fun k => if k = 0 then (u0 0) else 0) _ _ _ _ dX9_init_17 hw
set_option maxHeartbeats 4000000 in
set_option maxRecDepth 100000 in
theorem ci_X9_3 (l : Launch) (g : xG) (h0 : Nat) (a1 : Int32) (a2 : Int32) (a3 : Int32) : eMv l yX9_init cX9_init 4 2 1 8 [.ref h0, .int a1, .int a2, .int a3] g [(h0, .inr (3, [.int 0, .int 0, .int 0, .null, .int 0, .int 0, .int 0, .int 0, .int 0, .int 0, .int 0]))] (fun u => [(h0, .inr (3, [.int a1, .int a2, .int a3, .ref (u 0), .int 0, .int 0, .int (0 + 1), .int 0, .int (10 + (10 * a2)), .int 0, .int 1])), ((u 0), .inl (xc g 0, 8, .inl (fun _ => 0)))]) := by
  refine eMv_of (own := RX9) (by decide) rfl rfl (Nat.le_of_ble_eq_true rfl) ?_
  intro p e R s m args below meth c Q X A H0 H locs ls hc hR hRc hml hin hw hl hQ
  have hl : lv_has ls 4 [(0, .ref h0), (1, .int a1), (2, .int a2), (3, .int a3)] := hl
  have hx := hc.1
  have hb := hc.2.1
  refine lv_aload_n hx hb dX9_init_0 rfl (lv_at hl 0 rfl) ?_
  refine lv_iload_n hx hb dX9_init_1 rfl (lv_at hl 1 rfl) ?_
  refine lv_iload_n hx hb dX9_init_2 rfl (lv_at hl 2 rfl) ?_
  refine lv_iload_n hx hb dX9_init_3 rfl (lv_at hl 3 rfl) ?_
  refine e_cvi (As := [.int a1, .int a2, .int a3]) (rest := []) hc hw hR (hml.trans hl.1.symm) (ci_X8_3 l g h0 a1 a2 a3) (⟨⟨(mem_g 545 (by decide +kernel) rfl), (mem_g 546 (by decide +kernel) rfl), (mem_g 90 (by decide +kernel) rfl), (mem_g 547 (by decide +kernel) rfl)⟩, rfl, by decide, by decide +kernel, by decide⟩ : qCi RX9 1 yX8_init cX8_init 4 3) (by decide) rfl rfl rfl (Nat.le_of_ble_eq_true rfl) dX9_init_4 ⟨by have := hRc.1; omega, by have := hRc.2; omega⟩ (fun u0 H locs hw => ?_)
  refine lv_aload_n hx hb dX9_init_7 rfl (lv_at hl 0 rfl) ?_
  refine lv_dup hx hb dX9_init_8 rfl ?_
  refine e_get (ref := "OverTheHeads$Shifted") (C := RX3) (T := TX3) (N := 11) hc hw inG3 0 rfl rfl 6 (by decide) (mem_g 569 (by decide +kernel) rfl) (fun x h => u_same (hc.2.2.2 _ (mem_g 570 (by decide +kernel) rfl)) x h) rfl dX9_init_9 ?_
  refine lv_iconst (v := 1) hx hb dX9_init_12 (by decide) ?_
  refine lv_iadd hx hb dX9_init_13 ?_
  refine e_put (ref := "OverTheHeads$Shifted") (C := RX3) (T := TX3) (N := 11) (L1 := [(h0, .inr (3, [.int a1, .int a2, .int a3, .ref (u0 0), .int 0, .int 0, .int (0 + 1), .int 0, .int (10 + (10 * a2)), .int 0, .int 1])), ((u0 0), .inl (xc g 0, 8, .inl (fun _ => 0)))]) hc hw inG3 tyX3 tyX3_ok nmX3 0 rfl rfl 6 (by decide) (mem_g 569 (by decide +kernel) rfl) (fun x h => u_same (hc.2.2.2 _ (mem_g 570 (by decide +kernel) rfl)) x h) rfl (ty := .int) (by decide +kernel) rfl rfl (Nat.le_of_ble_eq_true rfl) rfl dX9_init_14 (fun H locs hw => ?_)
  exact hQ (fun k => if k = 0 then (u0 0) else 0) _ _ _ _ dX9_init_17 hw
set_option maxHeartbeats 4000000 in
set_option maxRecDepth 100000 in
theorem ci_X6 (l : Launch) (g : xG) (h0 : Nat) (a1 : Int32) (a2 : Int32) (a3 : Int32) (a4 : Int32) : eMv l yX6_init cX6_init 5 2 1 8 [.ref h0, .int a1, .int a2, .int a3, .int a4] g [(h0, .inr (6, [.int 0, .int 0, .int 0, .null, .int 0, .int 0, .int 0, .int 0, .int 0, .int 0, .int 0]))] (fun u => [(h0, .inr (6, [.int a1, .int a2, .int a3, .ref (u 0), .int 0, .int 0, .int 0, .int (0 + a4), .int (10 + (10 * a2)), .int 0, .int 1])), ((u 0), .inl (xc g 0, 8, .inl (fun _ => 0)))]) := by
  refine eMv_of (own := RX6) (by decide) rfl rfl (Nat.le_of_ble_eq_true rfl) ?_
  intro p e R s m args below meth c Q X A H0 H locs ls hc hR hRc hml hin hw hl hQ
  have hl : lv_has ls 5 [(0, .ref h0), (1, .int a1), (2, .int a2), (3, .int a3), (4, .int a4)] := hl
  have hx := hc.1
  have hb := hc.2.1
  refine lv_aload_n hx hb dX6_init_0 rfl (lv_at hl 0 rfl) ?_
  refine lv_iload_n hx hb dX6_init_1 rfl (lv_at hl 1 rfl) ?_
  refine lv_iload_n hx hb dX6_init_2 rfl (lv_at hl 2 rfl) ?_
  refine lv_iload_n hx hb dX6_init_3 rfl (lv_at hl 3 rfl) ?_
  refine e_cvi (As := [.int a1, .int a2, .int a3]) (rest := []) hc hw hR (hml.trans hl.1.symm) (ci_X8_6 l g h0 a1 a2 a3) (⟨⟨(mem_g 620 (by decide +kernel) rfl), (mem_g 546 (by decide +kernel) rfl), (mem_g 90 (by decide +kernel) rfl), (mem_g 547 (by decide +kernel) rfl)⟩, rfl, by decide, by decide +kernel, by decide⟩ : qCi RX6 1 yX8_init cX8_init 4 3) (by decide) rfl rfl rfl (Nat.le_of_ble_eq_true rfl) dX6_init_4 ⟨by have := hRc.1; omega, by have := hRc.2; omega⟩ (fun u0 H locs hw => ?_)
  refine lv_aload_n hx hb dX6_init_7 rfl (lv_at hl 0 rfl) ?_
  refine lv_dup hx hb dX6_init_8 rfl ?_
  refine e_get (ref := "OverTheHeads$Raised") (C := RX6) (T := TX6) (N := 11) hc hw inG6 0 rfl rfl 7 (by decide) (mem_g 574 (by decide +kernel) rfl) (fun x h => u_same (hc.2.2.2 _ (mem_g 575 (by decide +kernel) rfl)) x h) rfl dX6_init_9 ?_
  refine lv_iload hx hb dX6_init_12 (lv_at hl 4 rfl) ?_
  refine lv_iadd hx hb dX6_init_14 ?_
  refine e_put (ref := "OverTheHeads$Raised") (C := RX6) (T := TX6) (N := 11) (L1 := [(h0, .inr (6, [.int a1, .int a2, .int a3, .ref (u0 0), .int 0, .int 0, .int 0, .int (0 + a4), .int (10 + (10 * a2)), .int 0, .int 1])), ((u0 0), .inl (xc g 0, 8, .inl (fun _ => 0)))]) hc hw inG6 tyX6 tyX6_ok nmX6 0 rfl rfl 7 (by decide) (mem_g 574 (by decide +kernel) rfl) (fun x h => u_same (hc.2.2.2 _ (mem_g 575 (by decide +kernel) rfl)) x h) rfl (ty := .int) (by decide +kernel) rfl rfl (Nat.le_of_ble_eq_true rfl) rfl dX6_init_15 (fun H locs hw => ?_)
  exact hQ (fun k => if k = 0 then (u0 0) else 0) _ _ _ _ dX6_init_18 hw
set_option maxHeartbeats 4000000 in
set_option maxRecDepth 100000 in
theorem ci_X6_0 (l : Launch) (g : xG) (h0 : Nat) (a1 : Int32) (a2 : Int32) (a3 : Int32) (a4 : Int32) : eMv l yX6_init cX6_init 5 2 1 8 [.ref h0, .int a1, .int a2, .int a3, .int a4] g [(h0, .inr (0, [.int 0, .int 0, .int 0, .null, .int 0, .int 0, .int 0, .int 0, .int 0, .int 0, .int 0]))] (fun u => [(h0, .inr (0, [.int a1, .int a2, .int a3, .ref (u 0), .int 0, .int 0, .int 0, .int (0 + a4), .int (10 + (10 * a2)), .int 0, .int 1])), ((u 0), .inl (xc g 0, 8, .inl (fun _ => 0)))]) := by
  refine eMv_of (own := RX6) (by decide) rfl rfl (Nat.le_of_ble_eq_true rfl) ?_
  intro p e R s m args below meth c Q X A H0 H locs ls hc hR hRc hml hin hw hl hQ
  have hl : lv_has ls 5 [(0, .ref h0), (1, .int a1), (2, .int a2), (3, .int a3), (4, .int a4)] := hl
  have hx := hc.1
  have hb := hc.2.1
  refine lv_aload_n hx hb dX6_init_0 rfl (lv_at hl 0 rfl) ?_
  refine lv_iload_n hx hb dX6_init_1 rfl (lv_at hl 1 rfl) ?_
  refine lv_iload_n hx hb dX6_init_2 rfl (lv_at hl 2 rfl) ?_
  refine lv_iload_n hx hb dX6_init_3 rfl (lv_at hl 3 rfl) ?_
  refine e_cvi (As := [.int a1, .int a2, .int a3]) (rest := []) hc hw hR (hml.trans hl.1.symm) (ci_X8_0 l g h0 a1 a2 a3) (⟨⟨(mem_g 620 (by decide +kernel) rfl), (mem_g 546 (by decide +kernel) rfl), (mem_g 90 (by decide +kernel) rfl), (mem_g 547 (by decide +kernel) rfl)⟩, rfl, by decide, by decide +kernel, by decide⟩ : qCi RX6 1 yX8_init cX8_init 4 3) (by decide) rfl rfl rfl (Nat.le_of_ble_eq_true rfl) dX6_init_4 ⟨by have := hRc.1; omega, by have := hRc.2; omega⟩ (fun u0 H locs hw => ?_)
  refine lv_aload_n hx hb dX6_init_7 rfl (lv_at hl 0 rfl) ?_
  refine lv_dup hx hb dX6_init_8 rfl ?_
  refine e_get (ref := "OverTheHeads$Raised") (C := RX0) (T := TX0) (N := 11) hc hw inG0 0 rfl rfl 7 (by decide) (mem_g 574 (by decide +kernel) rfl) (fun x h => u_same (hc.2.2.2 _ (mem_g 575 (by decide +kernel) rfl)) x h) rfl dX6_init_9 ?_
  refine lv_iload hx hb dX6_init_12 (lv_at hl 4 rfl) ?_
  refine lv_iadd hx hb dX6_init_14 ?_
  refine e_put (ref := "OverTheHeads$Raised") (C := RX0) (T := TX0) (N := 11) (L1 := [(h0, .inr (0, [.int a1, .int a2, .int a3, .ref (u0 0), .int 0, .int 0, .int 0, .int (0 + a4), .int (10 + (10 * a2)), .int 0, .int 1])), ((u0 0), .inl (xc g 0, 8, .inl (fun _ => 0)))]) hc hw inG0 tyX0 tyX0_ok nmX0 0 rfl rfl 7 (by decide) (mem_g 574 (by decide +kernel) rfl) (fun x h => u_same (hc.2.2.2 _ (mem_g 575 (by decide +kernel) rfl)) x h) rfl (ty := .int) (by decide +kernel) rfl rfl (Nat.le_of_ble_eq_true rfl) rfl dX6_init_15 (fun H locs hw => ?_)
  exact hQ (fun k => if k = 0 then (u0 0) else 0) _ _ _ _ dX6_init_18 hw
set_option maxHeartbeats 4000000 in
set_option maxRecDepth 100000 in
theorem ci_X3 (l : Launch) (g : xG) (h0 : Nat) (a1 : Int32) (a2 : Int32) (a3 : Int32) (a4 : Int32) : eMv l yX3_init cX3_init 5 3 1 8 [.ref h0, .int a1, .int a2, .int a3, .int a4] g [(h0, .inr (3, [.int 0, .int 0, .int 0, .null, .int 0, .int 0, .int 0, .int 0, .int 0, .int 0, .int 0]))] (fun u => [(h0, .inr (3, [.int a1, .int a2, .int a3, .ref (u 0), .int 0, .int 0, .int ((0 + 1) + (a4 - a4 / 10 * 10)), .int 0, .int ((10 + (10 * a2)) - 3), .int 0, .int 1])), ((u 0), .inl (xc g 0, 8, .inl (fun _ => 0)))]) := by
  refine eMv_of (own := RX3) (by decide) rfl rfl (Nat.le_of_ble_eq_true rfl) ?_
  intro p e R s m args below meth c Q X A H0 H locs ls hc hR hRc hml hin hw hl hQ
  have hl : lv_has ls 5 [(0, .ref h0), (1, .int a1), (2, .int a2), (3, .int a3), (4, .int a4)] := hl
  have hx := hc.1
  have hb := hc.2.1
  refine lv_aload_n hx hb dX3_init_0 rfl (lv_at hl 0 rfl) ?_
  refine lv_iload_n hx hb dX3_init_1 rfl (lv_at hl 1 rfl) ?_
  refine lv_iload_n hx hb dX3_init_2 rfl (lv_at hl 2 rfl) ?_
  refine lv_iload_n hx hb dX3_init_3 rfl (lv_at hl 3 rfl) ?_
  refine e_cvi (As := [.int a1, .int a2, .int a3]) (rest := []) hc hw hR (hml.trans hl.1.symm) (ci_X9_3 l g h0 a1 a2 a3) (⟨⟨(mem_g 638 (by decide +kernel) rfl), (mem_g 543 (by decide +kernel) rfl), (mem_g 91 (by decide +kernel) rfl), (mem_g 544 (by decide +kernel) rfl)⟩, rfl, by decide, by decide +kernel, by decide⟩ : qCi RX3 1 yX9_init cX9_init 4 3) (by decide) rfl rfl rfl (Nat.le_of_ble_eq_true rfl) dX3_init_4 ⟨by have := hRc.1; omega, by have := hRc.2; omega⟩ (fun u0 H locs hw => ?_)
  refine lv_aload_n hx hb dX3_init_7 rfl (lv_at hl 0 rfl) ?_
  refine lv_dup hx hb dX3_init_8 rfl ?_
  refine e_get (ref := "OverTheHeads$Inner") (C := RX3) (T := TX3) (N := 11) hc hw inG3 0 rfl rfl 6 (by decide) (mem_g 571 (by decide +kernel) rfl) (fun x h => u_same (hc.2.2.2 _ (mem_g 572 (by decide +kernel) rfl)) x h) rfl dX3_init_9 ?_
  refine lv_iload hx hb dX3_init_12 (lv_at hl 4 rfl) ?_
  refine lv_bipush (v := 10) hx hb dX3_init_14 (by decide) ?_
  refine lv_irem hx hb dX3_init_16 (by decide) ?_
  refine lv_iadd hx hb dX3_init_17 ?_
  refine e_put (ref := "OverTheHeads$Inner") (C := RX3) (T := TX3) (N := 11) (L1 := [(h0, .inr (3, [.int a1, .int a2, .int a3, .ref (u0 0), .int 0, .int 0, .int ((0 + 1) + (a4 - a4 / 10 * 10)), .int 0, .int (10 + (10 * a2)), .int 0, .int 1])), ((u0 0), .inl (xc g 0, 8, .inl (fun _ => 0)))]) hc hw inG3 tyX3 tyX3_ok nmX3 0 rfl rfl 6 (by decide) (mem_g 571 (by decide +kernel) rfl) (fun x h => u_same (hc.2.2.2 _ (mem_g 572 (by decide +kernel) rfl)) x h) rfl (ty := .int) (by decide +kernel) rfl rfl (Nat.le_of_ble_eq_true rfl) rfl dX3_init_18 (fun H locs hw => ?_)
  refine lv_aload_n hx hb dX3_init_21 rfl (lv_at hl 0 rfl) ?_
  refine lv_dup hx hb dX3_init_22 rfl ?_
  refine e_get (ref := "OverTheHeads$Inner") (C := RX3) (T := TX3) (N := 11) hc hw inG3 0 rfl rfl 8 (by decide) (mem_g 579 (by decide +kernel) rfl) (fun x h => u_same (hc.2.2.2 _ (mem_g 580 (by decide +kernel) rfl)) x h) rfl dX3_init_23 ?_
  refine lv_iconst (v := 3) hx hb dX3_init_26 (by decide) ?_
  refine lv_isub hx hb dX3_init_27 ?_
  refine e_put (ref := "OverTheHeads$Inner") (C := RX3) (T := TX3) (N := 11) (L1 := [(h0, .inr (3, [.int a1, .int a2, .int a3, .ref (u0 0), .int 0, .int 0, .int ((0 + 1) + (a4 - a4 / 10 * 10)), .int 0, .int ((10 + (10 * a2)) - 3), .int 0, .int 1])), ((u0 0), .inl (xc g 0, 8, .inl (fun _ => 0)))]) hc hw inG3 tyX3 tyX3_ok nmX3 0 rfl rfl 8 (by decide) (mem_g 579 (by decide +kernel) rfl) (fun x h => u_same (hc.2.2.2 _ (mem_g 580 (by decide +kernel) rfl)) x h) rfl (ty := .int) (by decide +kernel) rfl rfl (Nat.le_of_ble_eq_true rfl) rfl dX3_init_28 (fun H locs hw => ?_)
  exact hQ (fun k => if k = 0 then (u0 0) else 0) _ _ _ _ dX3_init_31 hw
set_option maxHeartbeats 4000000 in
set_option maxRecDepth 100000 in
theorem ci_X0 (l : Launch) (g : xG) (h0 : Nat) (a1 : Int32) (a2 : Int32) (a3 : Int32) (a4 : Int32) : eMv l yX0_init cX0_init 5 3 1 8 [.ref h0, .int a1, .int a2, .int a3, .int a4] g [(h0, .inr (0, [.int 0, .int 0, .int 0, .null, .int 0, .int 0, .int 0, .int 0, .int 0, .int 0, .int 0]))] (fun u => [(h0, .inr (0, [.int a1, .int a2, .int a3, .ref (u 0), .int 0, .int 0, .int 0, .int ((0 + a4) + (2 * a4)), .int (10 + (10 * a2)), .int 0, .int 0])), ((u 0), .inl (xc g 0, 8, .inl (fun _ => 0)))]) := by
  refine eMv_of (own := RX0) (by decide) rfl rfl (Nat.le_of_ble_eq_true rfl) ?_
  intro p e R s m args below meth c Q X A H0 H locs ls hc hR hRc hml hin hw hl hQ
  have hl : lv_has ls 5 [(0, .ref h0), (1, .int a1), (2, .int a2), (3, .int a3), (4, .int a4)] := hl
  have hx := hc.1
  have hb := hc.2.1
  refine lv_aload_n hx hb dX0_init_0 rfl (lv_at hl 0 rfl) ?_
  refine lv_iload_n hx hb dX0_init_1 rfl (lv_at hl 1 rfl) ?_
  refine lv_iload_n hx hb dX0_init_2 rfl (lv_at hl 2 rfl) ?_
  refine lv_iload_n hx hb dX0_init_3 rfl (lv_at hl 3 rfl) ?_
  refine lv_iload hx hb dX0_init_4 (lv_at hl 4 rfl) ?_
  refine e_cvi (As := [.int a1, .int a2, .int a3, .int a4]) (rest := []) hc hw hR (hml.trans hl.1.symm) (ci_X6_0 l g h0 a1 a2 a3 a4) (⟨⟨(mem_g 656 (by decide +kernel) rfl), (mem_g 618 (by decide +kernel) rfl), (mem_g 92 (by decide +kernel) rfl), (mem_g 619 (by decide +kernel) rfl)⟩, rfl, by decide, by decide +kernel, by decide⟩ : qCi RX0 1 yX6_init cX6_init 5 4) (by decide) rfl rfl rfl (Nat.le_of_ble_eq_true rfl) dX0_init_6 ⟨by have := hRc.1; omega, by have := hRc.2; omega⟩ (fun u0 H locs hw => ?_)
  refine lv_aload_n hx hb dX0_init_9 rfl (lv_at hl 0 rfl) ?_
  refine lv_dup hx hb dX0_init_10 rfl ?_
  refine e_get (ref := "OverTheHeads$Balcony") (C := RX0) (T := TX0) (N := 11) hc hw inG0 0 rfl rfl 7 (by decide) (mem_g 576 (by decide +kernel) rfl) (fun x h => u_same (hc.2.2.2 _ (mem_g 577 (by decide +kernel) rfl)) x h) rfl dX0_init_11 ?_
  refine lv_iconst (v := 2) hx hb dX0_init_14 (by decide) ?_
  refine lv_iload hx hb dX0_init_15 (lv_at hl 4 rfl) ?_
  refine lv_imul hx hb dX0_init_17 ?_
  refine lv_iadd hx hb dX0_init_18 ?_
  refine e_put (ref := "OverTheHeads$Balcony") (C := RX0) (T := TX0) (N := 11) (L1 := [(h0, .inr (0, [.int a1, .int a2, .int a3, .ref (u0 0), .int 0, .int 0, .int 0, .int ((0 + a4) + (2 * a4)), .int (10 + (10 * a2)), .int 0, .int 1])), ((u0 0), .inl (xc g 0, 8, .inl (fun _ => 0)))]) hc hw inG0 tyX0 tyX0_ok nmX0 0 rfl rfl 7 (by decide) (mem_g 576 (by decide +kernel) rfl) (fun x h => u_same (hc.2.2.2 _ (mem_g 577 (by decide +kernel) rfl)) x h) rfl (ty := .int) (by decide +kernel) rfl rfl (Nat.le_of_ble_eq_true rfl) rfl dX0_init_19 (fun H locs hw => ?_)
  refine lv_aload_n hx hb dX0_init_22 rfl (lv_at hl 0 rfl) ?_
  refine lv_iconst (v := 0) hx hb dX0_init_23 (by decide) ?_
  refine e_put (ref := "OverTheHeads$Balcony") (C := RX0) (T := TX0) (N := 11) (L1 := [(h0, .inr (0, [.int a1, .int a2, .int a3, .ref (u0 0), .int 0, .int 0, .int 0, .int ((0 + a4) + (2 * a4)), .int (10 + (10 * a2)), .int 0, .int 0])), ((u0 0), .inl (xc g 0, 8, .inl (fun _ => 0)))]) hc hw inG0 tyX0 tyX0_ok nmX0 0 rfl rfl 10 (by decide) (mem_g 587 (by decide +kernel) rfl) (fun x h => u_same (hc.2.2.2 _ (mem_g 588 (by decide +kernel) rfl)) x h) rfl (ty := .boolean) (by decide +kernel) rfl rfl (Nat.le_of_ble_eq_true rfl) rfl dX0_init_24 (fun H locs hw => ?_)
  exact hQ (fun k => if k = 0 then (u0 0) else 0) _ _ _ _ dX0_init_27 hw
set_option maxHeartbeats 4000000 in
set_option maxRecDepth 100000 in
theorem ci_X5 (l : Launch) (g : xG) (h0 : Nat) (a1 : Int32) (a2 : Int32) (a3 : Int32) (a4 : Int32) : eMv l yX5_init cX5_init 5 2 1 8 [.ref h0, .int a1, .int a2, .int a3, .int a4] g [(h0, .inr (5, [.int 0, .int 0, .int 0, .null, .int 0, .int 0, .int 0, .int 0, .int 0, .int 0, .int 0]))] (fun u => [(h0, .inr (5, [.int a1, .int a2, .int a3, .ref (u 0), .int 0, .int 0, .int 0, .int 0, .int (10 + (10 * a2)), .int (0 + a4), .int 1])), ((u 0), .inl (xc g 0, 8, .inl (fun _ => 0)))]) := by
  refine eMv_of (own := RX5) (by decide) rfl rfl (Nat.le_of_ble_eq_true rfl) ?_
  intro p e R s m args below meth c Q X A H0 H locs ls hc hR hRc hml hin hw hl hQ
  have hl : lv_has ls 5 [(0, .ref h0), (1, .int a1), (2, .int a2), (3, .int a3), (4, .int a4)] := hl
  have hx := hc.1
  have hb := hc.2.1
  refine lv_aload_n hx hb dX5_init_0 rfl (lv_at hl 0 rfl) ?_
  refine lv_iload_n hx hb dX5_init_1 rfl (lv_at hl 1 rfl) ?_
  refine lv_iload_n hx hb dX5_init_2 rfl (lv_at hl 2 rfl) ?_
  refine lv_iload_n hx hb dX5_init_3 rfl (lv_at hl 3 rfl) ?_
  refine e_cvi (As := [.int a1, .int a2, .int a3]) (rest := []) hc hw hR (hml.trans hl.1.symm) (ci_X8_5 l g h0 a1 a2 a3) (⟨⟨(mem_g 674 (by decide +kernel) rfl), (mem_g 546 (by decide +kernel) rfl), (mem_g 90 (by decide +kernel) rfl), (mem_g 547 (by decide +kernel) rfl)⟩, rfl, by decide, by decide +kernel, by decide⟩ : qCi RX5 1 yX8_init cX8_init 4 3) (by decide) rfl rfl rfl (Nat.le_of_ble_eq_true rfl) dX5_init_4 ⟨by have := hRc.1; omega, by have := hRc.2; omega⟩ (fun u0 H locs hw => ?_)
  refine lv_aload_n hx hb dX5_init_7 rfl (lv_at hl 0 rfl) ?_
  refine lv_dup hx hb dX5_init_8 rfl ?_
  refine e_get (ref := "OverTheHeads$Low") (C := RX5) (T := TX5) (N := 11) hc hw inG5 0 rfl rfl 9 (by decide) (mem_g 584 (by decide +kernel) rfl) (fun x h => u_same (hc.2.2.2 _ (mem_g 585 (by decide +kernel) rfl)) x h) rfl dX5_init_9 ?_
  refine lv_iload hx hb dX5_init_12 (lv_at hl 4 rfl) ?_
  refine lv_iadd hx hb dX5_init_14 ?_
  refine e_put (ref := "OverTheHeads$Low") (C := RX5) (T := TX5) (N := 11) (L1 := [(h0, .inr (5, [.int a1, .int a2, .int a3, .ref (u0 0), .int 0, .int 0, .int 0, .int 0, .int (10 + (10 * a2)), .int (0 + a4), .int 1])), ((u0 0), .inl (xc g 0, 8, .inl (fun _ => 0)))]) hc hw inG5 tyX5 tyX5_ok nmX5 0 rfl rfl 9 (by decide) (mem_g 584 (by decide +kernel) rfl) (fun x h => u_same (hc.2.2.2 _ (mem_g 585 (by decide +kernel) rfl)) x h) rfl (ty := .int) (by decide +kernel) rfl rfl (Nat.le_of_ble_eq_true rfl) rfl dX5_init_15 (fun H locs hw => ?_)
  exact hQ (fun k => if k = 0 then (u0 0) else 0) _ _ _ _ dX5_init_18 hw
set_option maxHeartbeats 4000000 in
set_option maxRecDepth 100000 in
theorem ci_X10 (l : Launch) (g : xG) (h0 : Nat) (a1 : Nat) (a2 : Nat) : eMv l yX10_init cX10_init 3 1 1 32 [.ref h0, .ref a1, .ref a2] g [(h0, .inr (10, [.null, .null, .null]))] (fun u => [(h0, .inr (10, [.ref a1, .ref a2, .ref (u 0)])), ((u 0), .inl (xc g 0, 32, .inl (fun _ => 0)))]) := by
  refine eMv_of (own := RX10) (by decide) rfl rfl (Nat.le_of_ble_eq_true rfl) ?_
  intro p e R s m args below meth c Q X A H0 H locs ls hc hR hRc hml hin hw hl hQ
  have hl : lv_has ls 3 [(0, .ref h0), (1, .ref a1), (2, .ref a2)] := hl
  have hx := hc.1
  have hb := hc.2.1
  refine lv_aload_n hx hb dX10_init_0 rfl (lv_at hl 0 rfl) ?_
  refine e_obj hc hR (by decide) (hml.trans hl.1.symm) (mem_g 467 (by decide +kernel) rfl) (mem_g 102 (by decide +kernel) rfl) (mem_g 103 (by decide +kernel) rfl) (Nat.le_of_ble_eq_true rfl) dX10_init_1 ?_
  refine lv_aload_n hx hb dX10_init_4 rfl (lv_at hl 0 rfl) ?_
  refine lv_bipush (v := 32) hx hb dX10_init_5 (by decide) ?_
  refine e_newa_i (N := 32) hc hw (mem_g 135 (by decide +kernel) rfl) (by decide) (by decide) (by decide) (by have := hRc.1; omega) (by have := hRc.2; omega) dX10_init_7 (fun q1 H hw => ?_)
  have hw : xJ g A H0 s (X ++ [(h0, .inr (10, [.null, .null, .null])), (q1, .inl (xc g 0, 32, .inl (fun _ => 0)))]) H locs := by have h := hw; rw [List.append_assoc] at h; exact h
  refine e_putF (ref := "OverTheHeads$Text") (C := RX10) (T := TX10) (N := 3) (L1 := [(h0, .inr (10, [.null, .null, .ref q1])), (q1, .inl (xc g 0, 32, .inl (fun _ => 0)))]) hc hw inG10 tyX10 tyX10_ok nmX10 0 rfl rfl 2 (by decide) (mem_g 470 (by decide +kernel) rfl) (fun _ h => h) rfl hin rfl (ty := .array .int) (by decide +kernel) rfl rfl (Nat.le_of_ble_eq_true rfl) rfl dX10_init_9 (fun H locs hw => ?_)
  refine lv_aload_n hx hb dX10_init_12 rfl (lv_at hl 0 rfl) ?_
  refine lv_aload_n hx hb dX10_init_13 rfl (lv_at hl 1 rfl) ?_
  refine e_putF (ref := "OverTheHeads$Text") (C := RX10) (T := TX10) (N := 3) (L1 := [(h0, .inr (10, [.ref a1, .null, .ref q1])), (q1, .inl (xc g 0, 32, .inl (fun _ => 0)))]) hc hw inG10 tyX10 tyX10_ok nmX10 0 rfl rfl 0 (by decide) (mem_g 468 (by decide +kernel) rfl) (fun _ h => h) rfl hin rfl (ty := .array .int) (by decide +kernel) rfl rfl (Nat.le_of_ble_eq_true rfl) rfl dX10_init_14 (fun H locs hw => ?_)
  refine lv_aload_n hx hb dX10_init_17 rfl (lv_at hl 0 rfl) ?_
  refine lv_aload_n hx hb dX10_init_18 rfl (lv_at hl 2 rfl) ?_
  refine e_putF (ref := "OverTheHeads$Text") (C := RX10) (T := TX10) (N := 3) (L1 := [(h0, .inr (10, [.ref a1, .ref a2, .ref q1])), (q1, .inl (xc g 0, 32, .inl (fun _ => 0)))]) hc hw inG10 tyX10 tyX10_ok nmX10 0 rfl rfl 1 (by decide) (mem_g 469 (by decide +kernel) rfl) (fun _ h => h) rfl hin rfl (ty := .array .int) (by decide +kernel) rfl rfl (Nat.le_of_ble_eq_true rfl) rfl dX10_init_19 (fun H locs hw => ?_)
  exact hQ (fun k => if k = 0 then q1 else 0) _ _ _ _ dX10_init_22 hw
set_option maxHeartbeats 4000000 in
set_option maxRecDepth 100000 in
theorem ci_X1 (l : Launch) (g : xG) (h0 : Nat) : eMv l yX1_init cX1_init 1 2 11 55 [.ref h0] g [(h0, .inr (1, [.null, .null, .null, .null, .null, .null, .null, .null, .null, .int 0, .int 0, .int 0, .null, .int 0, .int 0, .int 0, .int 0, .null, .null, .null]))] (fun u => [(h0, .inr (1, [.ref (u 0), .ref (u 1), .ref (u 2), .ref (u 3), .ref (u 4), .ref (u 5), .ref (u 6), .ref (u 7), .ref (u 8), .int 0, .int 0, .int 0, .null, .int (-1), .int 0, .int 0, .int 0, .null, .ref (u 9), .ref (u 10)])), ((u 0), .inl (xc g 0, 4, .inl (upd (upd (upd (upd (fun _ => 0) (0 : Int32).toNatClampNeg 10) (1 : Int32).toNatClampNeg 12) (2 : Int32).toNatClampNeg 14) (3 : Int32).toNatClampNeg 7))), ((u 1), .inl (xc g 0, 4, .inl (upd (upd (upd (upd (fun _ => 0) (0 : Int32).toNatClampNeg 14) (1 : Int32).toNatClampNeg 16) (2 : Int32).toNatClampNeg 19) (3 : Int32).toNatClampNeg 9))), ((u 2), .inl (xc g 0, 4, .inl (upd (upd (upd (upd (fun _ => 0) (0 : Int32).toNatClampNeg 1) (1 : Int32).toNatClampNeg 1) (2 : Int32).toNatClampNeg 1) (3 : Int32).toNatClampNeg 1))), ((u 3), .inl (xc g 3, 6, .inr (.inr (.inr (.inr (fun _ => none)))))), ((u 4), .inl (xc g 0, 6, .inl (fun _ => 0))), ((u 5), .inl (xc g 0, 6, .inl (fun _ => 0))), ((u 6), .inl (xc g 0, 6, .inl (fun _ => 0))), ((u 7), .inl (xc g 0, 4, .inl (fun _ => 0))), ((u 8), .inl (xc g 0, 4, .inl (fun _ => 0))), ((u 9), .inr (4, [.int 0, .int 0, .int 0, .int 0, .int 0])), ((u 10), .inl (xc g 0, 6, .inl (fun _ => 0)))]) := by
  refine eMv_of (own := RX1) (by decide) rfl rfl (Nat.le_of_ble_eq_true rfl) ?_
  intro p e R s m args below meth c Q X A H0 H locs ls hc hR hRc hml hin hw hl hQ
  have hl : lv_has ls 1 [(0, .ref h0)] := hl
  have hx := hc.1
  have hb := hc.2.1
  refine lv_aload_n hx hb dX1_init_0 rfl (lv_at hl 0 rfl) ?_
  refine e_obj hc hR (by decide) (hml.trans hl.1.symm) (mem_g 109 (by decide +kernel) rfl) (mem_g 102 (by decide +kernel) rfl) (mem_g 103 (by decide +kernel) rfl) (Nat.le_of_ble_eq_true rfl) dX1_init_1 ?_
  refine lv_aload_n hx hb dX1_init_4 rfl (lv_at hl 0 rfl) ?_
  refine lv_iconst (v := 4) hx hb dX1_init_5 (by decide) ?_
  refine e_newa_i (N := 4) hc hw (mem_g 135 (by decide +kernel) rfl) (by decide) (by decide) (by decide) (by have := hRc.1; omega) (by have := hRc.2; omega) dX1_init_6 (fun q1 H hw => ?_)
  have hw : xJ g A H0 s (X ++ [(h0, .inr (1, [.null, .null, .null, .null, .null, .null, .null, .null, .null, .int 0, .int 0, .int 0, .null, .int 0, .int 0, .int 0, .int 0, .null, .null, .null])), (q1, .inl (xc g 0, 4, .inl (fun _ => 0)))]) H locs := by have h := hw; rw [List.append_assoc] at h; exact h
  refine lv_dup hx hb dX1_init_8 rfl ?_
  refine lv_iconst (v := 0) hx hb dX1_init_9 (by decide) ?_
  refine lv_bipush (v := 10) hx hb dX1_init_10 (by decide) ?_
  refine e_iast (L1 := [(h0, .inr (1, [.null, .null, .null, .null, .null, .null, .null, .null, .null, .int 0, .int 0, .int 0, .null, .int 0, .int 0, .int 0, .int 0, .null, .null, .null])), (q1, .inl (xc g 0, 4, .inl (upd (fun _ => 0) (0 : Int32).toNatClampNeg 10)))]) hc hw 1 rfl (ok_in (by decide)) rfl dX1_init_12 (fun H locs hw => ?_)
  refine lv_dup hx hb dX1_init_13 rfl ?_
  refine lv_iconst (v := 1) hx hb dX1_init_14 (by decide) ?_
  refine lv_bipush (v := 12) hx hb dX1_init_15 (by decide) ?_
  refine e_iast (L1 := [(h0, .inr (1, [.null, .null, .null, .null, .null, .null, .null, .null, .null, .int 0, .int 0, .int 0, .null, .int 0, .int 0, .int 0, .int 0, .null, .null, .null])), (q1, .inl (xc g 0, 4, .inl (upd (upd (fun _ => 0) (0 : Int32).toNatClampNeg 10) (1 : Int32).toNatClampNeg 12)))]) hc hw 1 rfl (ok_in (by decide)) rfl dX1_init_17 (fun H locs hw => ?_)
  refine lv_dup hx hb dX1_init_18 rfl ?_
  refine lv_iconst (v := 2) hx hb dX1_init_19 (by decide) ?_
  refine lv_bipush (v := 14) hx hb dX1_init_20 (by decide) ?_
  refine e_iast (L1 := [(h0, .inr (1, [.null, .null, .null, .null, .null, .null, .null, .null, .null, .int 0, .int 0, .int 0, .null, .int 0, .int 0, .int 0, .int 0, .null, .null, .null])), (q1, .inl (xc g 0, 4, .inl (upd (upd (upd (fun _ => 0) (0 : Int32).toNatClampNeg 10) (1 : Int32).toNatClampNeg 12) (2 : Int32).toNatClampNeg 14)))]) hc hw 1 rfl (ok_in (by decide)) rfl dX1_init_22 (fun H locs hw => ?_)
  refine lv_dup hx hb dX1_init_23 rfl ?_
  refine lv_iconst (v := 3) hx hb dX1_init_24 (by decide) ?_
  refine lv_bipush (v := 7) hx hb dX1_init_25 (by decide) ?_
  refine e_iast (L1 := [(h0, .inr (1, [.null, .null, .null, .null, .null, .null, .null, .null, .null, .int 0, .int 0, .int 0, .null, .int 0, .int 0, .int 0, .int 0, .null, .null, .null])), (q1, .inl (xc g 0, 4, .inl (upd (upd (upd (upd (fun _ => 0) (0 : Int32).toNatClampNeg 10) (1 : Int32).toNatClampNeg 12) (2 : Int32).toNatClampNeg 14) (3 : Int32).toNatClampNeg 7)))]) hc hw 1 rfl (ok_in (by decide)) rfl dX1_init_27 (fun H locs hw => ?_)
  refine e_putF (ref := "OverTheHeads$Hall") (C := RX1) (T := TX1) (N := 20) (L1 := [(h0, .inr (1, [.ref q1, .null, .null, .null, .null, .null, .null, .null, .null, .int 0, .int 0, .int 0, .null, .int 0, .int 0, .int 0, .int 0, .null, .null, .null])), (q1, .inl (xc g 0, 4, .inl (upd (upd (upd (upd (fun _ => 0) (0 : Int32).toNatClampNeg 10) (1 : Int32).toNatClampNeg 12) (2 : Int32).toNatClampNeg 14) (3 : Int32).toNatClampNeg 7)))]) hc hw inG1 tyX1 tyX1_ok nmX1 0 rfl rfl 0 (by decide) (mem_g 136 (by decide +kernel) rfl) (fun _ h => h) rfl hin rfl (ty := .array .int) (by decide +kernel) rfl rfl (Nat.le_of_ble_eq_true rfl) rfl dX1_init_28 (fun H locs hw => ?_)
  refine lv_aload_n hx hb dX1_init_31 rfl (lv_at hl 0 rfl) ?_
  refine lv_iconst (v := 4) hx hb dX1_init_32 (by decide) ?_
  refine e_newa_i (N := 4) hc hw (mem_g 135 (by decide +kernel) rfl) (by decide) (by decide) (by decide) (by have := hRc.1; omega) (by have := hRc.2; omega) dX1_init_33 (fun q2 H hw => ?_)
  have hw : xJ g A H0 s (X ++ [(h0, .inr (1, [.ref q1, .null, .null, .null, .null, .null, .null, .null, .null, .int 0, .int 0, .int 0, .null, .int 0, .int 0, .int 0, .int 0, .null, .null, .null])), (q1, .inl (xc g 0, 4, .inl (upd (upd (upd (upd (fun _ => 0) (0 : Int32).toNatClampNeg 10) (1 : Int32).toNatClampNeg 12) (2 : Int32).toNatClampNeg 14) (3 : Int32).toNatClampNeg 7))), (q2, .inl (xc g 0, 4, .inl (fun _ => 0)))]) H locs := by have h := hw; rw [List.append_assoc] at h; exact h
  refine lv_dup hx hb dX1_init_35 rfl ?_
  refine lv_iconst (v := 0) hx hb dX1_init_36 (by decide) ?_
  refine lv_bipush (v := 14) hx hb dX1_init_37 (by decide) ?_
  refine e_iast (L1 := [(h0, .inr (1, [.ref q1, .null, .null, .null, .null, .null, .null, .null, .null, .int 0, .int 0, .int 0, .null, .int 0, .int 0, .int 0, .int 0, .null, .null, .null])), (q1, .inl (xc g 0, 4, .inl (upd (upd (upd (upd (fun _ => 0) (0 : Int32).toNatClampNeg 10) (1 : Int32).toNatClampNeg 12) (2 : Int32).toNatClampNeg 14) (3 : Int32).toNatClampNeg 7))), (q2, .inl (xc g 0, 4, .inl (upd (fun _ => 0) (0 : Int32).toNatClampNeg 14)))]) hc hw 2 rfl (ok_in (by decide)) rfl dX1_init_39 (fun H locs hw => ?_)
  refine lv_dup hx hb dX1_init_40 rfl ?_
  refine lv_iconst (v := 1) hx hb dX1_init_41 (by decide) ?_
  refine lv_bipush (v := 16) hx hb dX1_init_42 (by decide) ?_
  refine e_iast (L1 := [(h0, .inr (1, [.ref q1, .null, .null, .null, .null, .null, .null, .null, .null, .int 0, .int 0, .int 0, .null, .int 0, .int 0, .int 0, .int 0, .null, .null, .null])), (q1, .inl (xc g 0, 4, .inl (upd (upd (upd (upd (fun _ => 0) (0 : Int32).toNatClampNeg 10) (1 : Int32).toNatClampNeg 12) (2 : Int32).toNatClampNeg 14) (3 : Int32).toNatClampNeg 7))), (q2, .inl (xc g 0, 4, .inl (upd (upd (fun _ => 0) (0 : Int32).toNatClampNeg 14) (1 : Int32).toNatClampNeg 16)))]) hc hw 2 rfl (ok_in (by decide)) rfl dX1_init_44 (fun H locs hw => ?_)
  refine lv_dup hx hb dX1_init_45 rfl ?_
  refine lv_iconst (v := 2) hx hb dX1_init_46 (by decide) ?_
  refine lv_bipush (v := 19) hx hb dX1_init_47 (by decide) ?_
  refine e_iast (L1 := [(h0, .inr (1, [.ref q1, .null, .null, .null, .null, .null, .null, .null, .null, .int 0, .int 0, .int 0, .null, .int 0, .int 0, .int 0, .int 0, .null, .null, .null])), (q1, .inl (xc g 0, 4, .inl (upd (upd (upd (upd (fun _ => 0) (0 : Int32).toNatClampNeg 10) (1 : Int32).toNatClampNeg 12) (2 : Int32).toNatClampNeg 14) (3 : Int32).toNatClampNeg 7))), (q2, .inl (xc g 0, 4, .inl (upd (upd (upd (fun _ => 0) (0 : Int32).toNatClampNeg 14) (1 : Int32).toNatClampNeg 16) (2 : Int32).toNatClampNeg 19)))]) hc hw 2 rfl (ok_in (by decide)) rfl dX1_init_49 (fun H locs hw => ?_)
  refine lv_dup hx hb dX1_init_50 rfl ?_
  refine lv_iconst (v := 3) hx hb dX1_init_51 (by decide) ?_
  refine lv_bipush (v := 9) hx hb dX1_init_52 (by decide) ?_
  refine e_iast (L1 := [(h0, .inr (1, [.ref q1, .null, .null, .null, .null, .null, .null, .null, .null, .int 0, .int 0, .int 0, .null, .int 0, .int 0, .int 0, .int 0, .null, .null, .null])), (q1, .inl (xc g 0, 4, .inl (upd (upd (upd (upd (fun _ => 0) (0 : Int32).toNatClampNeg 10) (1 : Int32).toNatClampNeg 12) (2 : Int32).toNatClampNeg 14) (3 : Int32).toNatClampNeg 7))), (q2, .inl (xc g 0, 4, .inl (upd (upd (upd (upd (fun _ => 0) (0 : Int32).toNatClampNeg 14) (1 : Int32).toNatClampNeg 16) (2 : Int32).toNatClampNeg 19) (3 : Int32).toNatClampNeg 9)))]) hc hw 2 rfl (ok_in (by decide)) rfl dX1_init_54 (fun H locs hw => ?_)
  refine e_putF (ref := "OverTheHeads$Hall") (C := RX1) (T := TX1) (N := 20) (L1 := [(h0, .inr (1, [.ref q1, .ref q2, .null, .null, .null, .null, .null, .null, .null, .int 0, .int 0, .int 0, .null, .int 0, .int 0, .int 0, .int 0, .null, .null, .null])), (q1, .inl (xc g 0, 4, .inl (upd (upd (upd (upd (fun _ => 0) (0 : Int32).toNatClampNeg 10) (1 : Int32).toNatClampNeg 12) (2 : Int32).toNatClampNeg 14) (3 : Int32).toNatClampNeg 7))), (q2, .inl (xc g 0, 4, .inl (upd (upd (upd (upd (fun _ => 0) (0 : Int32).toNatClampNeg 14) (1 : Int32).toNatClampNeg 16) (2 : Int32).toNatClampNeg 19) (3 : Int32).toNatClampNeg 9)))]) hc hw inG1 tyX1 tyX1_ok nmX1 0 rfl rfl 1 (by decide) (mem_g 139 (by decide +kernel) rfl) (fun _ h => h) rfl hin rfl (ty := .array .int) (by decide +kernel) rfl rfl (Nat.le_of_ble_eq_true rfl) rfl dX1_init_55 (fun H locs hw => ?_)
  refine lv_aload_n hx hb dX1_init_58 rfl (lv_at hl 0 rfl) ?_
  refine lv_iconst (v := 4) hx hb dX1_init_59 (by decide) ?_
  refine e_newa_i (N := 4) hc hw (mem_g 135 (by decide +kernel) rfl) (by decide) (by decide) (by decide) (by have := hRc.1; omega) (by have := hRc.2; omega) dX1_init_60 (fun q3 H hw => ?_)
  have hw : xJ g A H0 s (X ++ [(h0, .inr (1, [.ref q1, .ref q2, .null, .null, .null, .null, .null, .null, .null, .int 0, .int 0, .int 0, .null, .int 0, .int 0, .int 0, .int 0, .null, .null, .null])), (q1, .inl (xc g 0, 4, .inl (upd (upd (upd (upd (fun _ => 0) (0 : Int32).toNatClampNeg 10) (1 : Int32).toNatClampNeg 12) (2 : Int32).toNatClampNeg 14) (3 : Int32).toNatClampNeg 7))), (q2, .inl (xc g 0, 4, .inl (upd (upd (upd (upd (fun _ => 0) (0 : Int32).toNatClampNeg 14) (1 : Int32).toNatClampNeg 16) (2 : Int32).toNatClampNeg 19) (3 : Int32).toNatClampNeg 9))), (q3, .inl (xc g 0, 4, .inl (fun _ => 0)))]) H locs := by have h := hw; rw [List.append_assoc] at h; exact h
  refine lv_dup hx hb dX1_init_62 rfl ?_
  refine lv_iconst (v := 0) hx hb dX1_init_63 (by decide) ?_
  refine lv_iconst (v := 1) hx hb dX1_init_64 (by decide) ?_
  refine e_iast (L1 := [(h0, .inr (1, [.ref q1, .ref q2, .null, .null, .null, .null, .null, .null, .null, .int 0, .int 0, .int 0, .null, .int 0, .int 0, .int 0, .int 0, .null, .null, .null])), (q1, .inl (xc g 0, 4, .inl (upd (upd (upd (upd (fun _ => 0) (0 : Int32).toNatClampNeg 10) (1 : Int32).toNatClampNeg 12) (2 : Int32).toNatClampNeg 14) (3 : Int32).toNatClampNeg 7))), (q2, .inl (xc g 0, 4, .inl (upd (upd (upd (upd (fun _ => 0) (0 : Int32).toNatClampNeg 14) (1 : Int32).toNatClampNeg 16) (2 : Int32).toNatClampNeg 19) (3 : Int32).toNatClampNeg 9))), (q3, .inl (xc g 0, 4, .inl (upd (fun _ => 0) (0 : Int32).toNatClampNeg 1)))]) hc hw 3 rfl (ok_in (by decide)) rfl dX1_init_65 (fun H locs hw => ?_)
  refine lv_dup hx hb dX1_init_66 rfl ?_
  refine lv_iconst (v := 1) hx hb dX1_init_67 (by decide) ?_
  refine lv_iconst (v := 1) hx hb dX1_init_68 (by decide) ?_
  refine e_iast (L1 := [(h0, .inr (1, [.ref q1, .ref q2, .null, .null, .null, .null, .null, .null, .null, .int 0, .int 0, .int 0, .null, .int 0, .int 0, .int 0, .int 0, .null, .null, .null])), (q1, .inl (xc g 0, 4, .inl (upd (upd (upd (upd (fun _ => 0) (0 : Int32).toNatClampNeg 10) (1 : Int32).toNatClampNeg 12) (2 : Int32).toNatClampNeg 14) (3 : Int32).toNatClampNeg 7))), (q2, .inl (xc g 0, 4, .inl (upd (upd (upd (upd (fun _ => 0) (0 : Int32).toNatClampNeg 14) (1 : Int32).toNatClampNeg 16) (2 : Int32).toNatClampNeg 19) (3 : Int32).toNatClampNeg 9))), (q3, .inl (xc g 0, 4, .inl (upd (upd (fun _ => 0) (0 : Int32).toNatClampNeg 1) (1 : Int32).toNatClampNeg 1)))]) hc hw 3 rfl (ok_in (by decide)) rfl dX1_init_69 (fun H locs hw => ?_)
  refine lv_dup hx hb dX1_init_70 rfl ?_
  refine lv_iconst (v := 2) hx hb dX1_init_71 (by decide) ?_
  refine lv_iconst (v := 1) hx hb dX1_init_72 (by decide) ?_
  refine e_iast (L1 := [(h0, .inr (1, [.ref q1, .ref q2, .null, .null, .null, .null, .null, .null, .null, .int 0, .int 0, .int 0, .null, .int 0, .int 0, .int 0, .int 0, .null, .null, .null])), (q1, .inl (xc g 0, 4, .inl (upd (upd (upd (upd (fun _ => 0) (0 : Int32).toNatClampNeg 10) (1 : Int32).toNatClampNeg 12) (2 : Int32).toNatClampNeg 14) (3 : Int32).toNatClampNeg 7))), (q2, .inl (xc g 0, 4, .inl (upd (upd (upd (upd (fun _ => 0) (0 : Int32).toNatClampNeg 14) (1 : Int32).toNatClampNeg 16) (2 : Int32).toNatClampNeg 19) (3 : Int32).toNatClampNeg 9))), (q3, .inl (xc g 0, 4, .inl (upd (upd (upd (fun _ => 0) (0 : Int32).toNatClampNeg 1) (1 : Int32).toNatClampNeg 1) (2 : Int32).toNatClampNeg 1)))]) hc hw 3 rfl (ok_in (by decide)) rfl dX1_init_73 (fun H locs hw => ?_)
  refine lv_dup hx hb dX1_init_74 rfl ?_
  refine lv_iconst (v := 3) hx hb dX1_init_75 (by decide) ?_
  refine lv_iconst (v := 1) hx hb dX1_init_76 (by decide) ?_
  refine e_iast (L1 := [(h0, .inr (1, [.ref q1, .ref q2, .null, .null, .null, .null, .null, .null, .null, .int 0, .int 0, .int 0, .null, .int 0, .int 0, .int 0, .int 0, .null, .null, .null])), (q1, .inl (xc g 0, 4, .inl (upd (upd (upd (upd (fun _ => 0) (0 : Int32).toNatClampNeg 10) (1 : Int32).toNatClampNeg 12) (2 : Int32).toNatClampNeg 14) (3 : Int32).toNatClampNeg 7))), (q2, .inl (xc g 0, 4, .inl (upd (upd (upd (upd (fun _ => 0) (0 : Int32).toNatClampNeg 14) (1 : Int32).toNatClampNeg 16) (2 : Int32).toNatClampNeg 19) (3 : Int32).toNatClampNeg 9))), (q3, .inl (xc g 0, 4, .inl (upd (upd (upd (upd (fun _ => 0) (0 : Int32).toNatClampNeg 1) (1 : Int32).toNatClampNeg 1) (2 : Int32).toNatClampNeg 1) (3 : Int32).toNatClampNeg 1)))]) hc hw 3 rfl (ok_in (by decide)) rfl dX1_init_77 (fun H locs hw => ?_)
  refine e_putF (ref := "OverTheHeads$Hall") (C := RX1) (T := TX1) (N := 20) (L1 := [(h0, .inr (1, [.ref q1, .ref q2, .ref q3, .null, .null, .null, .null, .null, .null, .int 0, .int 0, .int 0, .null, .int 0, .int 0, .int 0, .int 0, .null, .null, .null])), (q1, .inl (xc g 0, 4, .inl (upd (upd (upd (upd (fun _ => 0) (0 : Int32).toNatClampNeg 10) (1 : Int32).toNatClampNeg 12) (2 : Int32).toNatClampNeg 14) (3 : Int32).toNatClampNeg 7))), (q2, .inl (xc g 0, 4, .inl (upd (upd (upd (upd (fun _ => 0) (0 : Int32).toNatClampNeg 14) (1 : Int32).toNatClampNeg 16) (2 : Int32).toNatClampNeg 19) (3 : Int32).toNatClampNeg 9))), (q3, .inl (xc g 0, 4, .inl (upd (upd (upd (upd (fun _ => 0) (0 : Int32).toNatClampNeg 1) (1 : Int32).toNatClampNeg 1) (2 : Int32).toNatClampNeg 1) (3 : Int32).toNatClampNeg 1)))]) hc hw inG1 tyX1 tyX1_ok nmX1 0 rfl rfl 2 (by decide) (mem_g 142 (by decide +kernel) rfl) (fun _ h => h) rfl hin rfl (ty := .array .int) (by decide +kernel) rfl rfl (Nat.le_of_ble_eq_true rfl) rfl dX1_init_78 (fun H locs hw => ?_)
  refine lv_aload_n hx hb dX1_init_81 rfl (lv_at hl 0 rfl) ?_
  refine lv_bipush (v := 6) hx hb dX1_init_82 (by decide) ?_
  refine e_newq (N := 6) hc hw 3 rfl (mem_g 110 (by decide +kernel) rfl) hw.2.2.2.2.2.2.2.2.2.2.2.2.2.1 (by decide) (by decide) (by decide) (by have := hRc.1; omega) (by have := hRc.2; omega) dX1_init_84 (fun q4 H hw => ?_)
  have hw : xJ g A H0 s (X ++ [(h0, .inr (1, [.ref q1, .ref q2, .ref q3, .null, .null, .null, .null, .null, .null, .int 0, .int 0, .int 0, .null, .int 0, .int 0, .int 0, .int 0, .null, .null, .null])), (q1, .inl (xc g 0, 4, .inl (upd (upd (upd (upd (fun _ => 0) (0 : Int32).toNatClampNeg 10) (1 : Int32).toNatClampNeg 12) (2 : Int32).toNatClampNeg 14) (3 : Int32).toNatClampNeg 7))), (q2, .inl (xc g 0, 4, .inl (upd (upd (upd (upd (fun _ => 0) (0 : Int32).toNatClampNeg 14) (1 : Int32).toNatClampNeg 16) (2 : Int32).toNatClampNeg 19) (3 : Int32).toNatClampNeg 9))), (q3, .inl (xc g 0, 4, .inl (upd (upd (upd (upd (fun _ => 0) (0 : Int32).toNatClampNeg 1) (1 : Int32).toNatClampNeg 1) (2 : Int32).toNatClampNeg 1) (3 : Int32).toNatClampNeg 1))), (q4, .inl (xc g 3, 6, .inr (.inr (.inr (.inr (fun _ => none))))))]) H locs := by have h := hw; rw [List.append_assoc] at h; exact h
  refine e_putF (ref := "OverTheHeads$Hall") (C := RX1) (T := TX1) (N := 20) (L1 := [(h0, .inr (1, [.ref q1, .ref q2, .ref q3, .ref q4, .null, .null, .null, .null, .null, .int 0, .int 0, .int 0, .null, .int 0, .int 0, .int 0, .int 0, .null, .null, .null])), (q1, .inl (xc g 0, 4, .inl (upd (upd (upd (upd (fun _ => 0) (0 : Int32).toNatClampNeg 10) (1 : Int32).toNatClampNeg 12) (2 : Int32).toNatClampNeg 14) (3 : Int32).toNatClampNeg 7))), (q2, .inl (xc g 0, 4, .inl (upd (upd (upd (upd (fun _ => 0) (0 : Int32).toNatClampNeg 14) (1 : Int32).toNatClampNeg 16) (2 : Int32).toNatClampNeg 19) (3 : Int32).toNatClampNeg 9))), (q3, .inl (xc g 0, 4, .inl (upd (upd (upd (upd (fun _ => 0) (0 : Int32).toNatClampNeg 1) (1 : Int32).toNatClampNeg 1) (2 : Int32).toNatClampNeg 1) (3 : Int32).toNatClampNeg 1))), (q4, .inl (xc g 3, 6, .inr (.inr (.inr (.inr (fun _ => none))))))]) hc hw inG1 tyX1 tyX1_ok nmX1 0 rfl rfl 3 (by decide) (mem_g 145 (by decide +kernel) rfl) (fun _ h => h) rfl hin rfl (ty := .array (.object "OverTheHeads$Row")) (by decide +kernel) rfl rfl (Nat.le_of_ble_eq_true rfl) rfl dX1_init_87 (fun H locs hw => ?_)
  refine lv_aload_n hx hb dX1_init_90 rfl (lv_at hl 0 rfl) ?_
  refine lv_bipush (v := 6) hx hb dX1_init_91 (by decide) ?_
  refine e_newa_i (N := 6) hc hw (mem_g 135 (by decide +kernel) rfl) (by decide) (by decide) (by decide) (by have := hRc.1; omega) (by have := hRc.2; omega) dX1_init_93 (fun q5 H hw => ?_)
  have hw : xJ g A H0 s (X ++ [(h0, .inr (1, [.ref q1, .ref q2, .ref q3, .ref q4, .null, .null, .null, .null, .null, .int 0, .int 0, .int 0, .null, .int 0, .int 0, .int 0, .int 0, .null, .null, .null])), (q1, .inl (xc g 0, 4, .inl (upd (upd (upd (upd (fun _ => 0) (0 : Int32).toNatClampNeg 10) (1 : Int32).toNatClampNeg 12) (2 : Int32).toNatClampNeg 14) (3 : Int32).toNatClampNeg 7))), (q2, .inl (xc g 0, 4, .inl (upd (upd (upd (upd (fun _ => 0) (0 : Int32).toNatClampNeg 14) (1 : Int32).toNatClampNeg 16) (2 : Int32).toNatClampNeg 19) (3 : Int32).toNatClampNeg 9))), (q3, .inl (xc g 0, 4, .inl (upd (upd (upd (upd (fun _ => 0) (0 : Int32).toNatClampNeg 1) (1 : Int32).toNatClampNeg 1) (2 : Int32).toNatClampNeg 1) (3 : Int32).toNatClampNeg 1))), (q4, .inl (xc g 3, 6, .inr (.inr (.inr (.inr (fun _ => none)))))), (q5, .inl (xc g 0, 6, .inl (fun _ => 0)))]) H locs := by have h := hw; rw [List.append_assoc] at h; exact h
  refine e_putF (ref := "OverTheHeads$Hall") (C := RX1) (T := TX1) (N := 20) (L1 := [(h0, .inr (1, [.ref q1, .ref q2, .ref q3, .ref q4, .ref q5, .null, .null, .null, .null, .int 0, .int 0, .int 0, .null, .int 0, .int 0, .int 0, .int 0, .null, .null, .null])), (q1, .inl (xc g 0, 4, .inl (upd (upd (upd (upd (fun _ => 0) (0 : Int32).toNatClampNeg 10) (1 : Int32).toNatClampNeg 12) (2 : Int32).toNatClampNeg 14) (3 : Int32).toNatClampNeg 7))), (q2, .inl (xc g 0, 4, .inl (upd (upd (upd (upd (fun _ => 0) (0 : Int32).toNatClampNeg 14) (1 : Int32).toNatClampNeg 16) (2 : Int32).toNatClampNeg 19) (3 : Int32).toNatClampNeg 9))), (q3, .inl (xc g 0, 4, .inl (upd (upd (upd (upd (fun _ => 0) (0 : Int32).toNatClampNeg 1) (1 : Int32).toNatClampNeg 1) (2 : Int32).toNatClampNeg 1) (3 : Int32).toNatClampNeg 1))), (q4, .inl (xc g 3, 6, .inr (.inr (.inr (.inr (fun _ => none)))))), (q5, .inl (xc g 0, 6, .inl (fun _ => 0)))]) hc hw inG1 tyX1 tyX1_ok nmX1 0 rfl rfl 4 (by decide) (mem_g 148 (by decide +kernel) rfl) (fun _ h => h) rfl hin rfl (ty := .array .int) (by decide +kernel) rfl rfl (Nat.le_of_ble_eq_true rfl) rfl dX1_init_95 (fun H locs hw => ?_)
  refine lv_aload_n hx hb dX1_init_98 rfl (lv_at hl 0 rfl) ?_
  refine lv_bipush (v := 6) hx hb dX1_init_99 (by decide) ?_
  refine e_newa_i (N := 6) hc hw (mem_g 135 (by decide +kernel) rfl) (by decide) (by decide) (by decide) (by have := hRc.1; omega) (by have := hRc.2; omega) dX1_init_101 (fun q6 H hw => ?_)
  have hw : xJ g A H0 s (X ++ [(h0, .inr (1, [.ref q1, .ref q2, .ref q3, .ref q4, .ref q5, .null, .null, .null, .null, .int 0, .int 0, .int 0, .null, .int 0, .int 0, .int 0, .int 0, .null, .null, .null])), (q1, .inl (xc g 0, 4, .inl (upd (upd (upd (upd (fun _ => 0) (0 : Int32).toNatClampNeg 10) (1 : Int32).toNatClampNeg 12) (2 : Int32).toNatClampNeg 14) (3 : Int32).toNatClampNeg 7))), (q2, .inl (xc g 0, 4, .inl (upd (upd (upd (upd (fun _ => 0) (0 : Int32).toNatClampNeg 14) (1 : Int32).toNatClampNeg 16) (2 : Int32).toNatClampNeg 19) (3 : Int32).toNatClampNeg 9))), (q3, .inl (xc g 0, 4, .inl (upd (upd (upd (upd (fun _ => 0) (0 : Int32).toNatClampNeg 1) (1 : Int32).toNatClampNeg 1) (2 : Int32).toNatClampNeg 1) (3 : Int32).toNatClampNeg 1))), (q4, .inl (xc g 3, 6, .inr (.inr (.inr (.inr (fun _ => none)))))), (q5, .inl (xc g 0, 6, .inl (fun _ => 0))), (q6, .inl (xc g 0, 6, .inl (fun _ => 0)))]) H locs := by have h := hw; rw [List.append_assoc] at h; exact h
  refine e_putF (ref := "OverTheHeads$Hall") (C := RX1) (T := TX1) (N := 20) (L1 := [(h0, .inr (1, [.ref q1, .ref q2, .ref q3, .ref q4, .ref q5, .ref q6, .null, .null, .null, .int 0, .int 0, .int 0, .null, .int 0, .int 0, .int 0, .int 0, .null, .null, .null])), (q1, .inl (xc g 0, 4, .inl (upd (upd (upd (upd (fun _ => 0) (0 : Int32).toNatClampNeg 10) (1 : Int32).toNatClampNeg 12) (2 : Int32).toNatClampNeg 14) (3 : Int32).toNatClampNeg 7))), (q2, .inl (xc g 0, 4, .inl (upd (upd (upd (upd (fun _ => 0) (0 : Int32).toNatClampNeg 14) (1 : Int32).toNatClampNeg 16) (2 : Int32).toNatClampNeg 19) (3 : Int32).toNatClampNeg 9))), (q3, .inl (xc g 0, 4, .inl (upd (upd (upd (upd (fun _ => 0) (0 : Int32).toNatClampNeg 1) (1 : Int32).toNatClampNeg 1) (2 : Int32).toNatClampNeg 1) (3 : Int32).toNatClampNeg 1))), (q4, .inl (xc g 3, 6, .inr (.inr (.inr (.inr (fun _ => none)))))), (q5, .inl (xc g 0, 6, .inl (fun _ => 0))), (q6, .inl (xc g 0, 6, .inl (fun _ => 0)))]) hc hw inG1 tyX1 tyX1_ok nmX1 0 rfl rfl 5 (by decide) (mem_g 150 (by decide +kernel) rfl) (fun _ h => h) rfl hin rfl (ty := .array .int) (by decide +kernel) rfl rfl (Nat.le_of_ble_eq_true rfl) rfl dX1_init_103 (fun H locs hw => ?_)
  refine lv_aload_n hx hb dX1_init_106 rfl (lv_at hl 0 rfl) ?_
  refine lv_bipush (v := 6) hx hb dX1_init_107 (by decide) ?_
  refine e_newa_i (N := 6) hc hw (mem_g 135 (by decide +kernel) rfl) (by decide) (by decide) (by decide) (by have := hRc.1; omega) (by have := hRc.2; omega) dX1_init_109 (fun q7 H hw => ?_)
  have hw : xJ g A H0 s (X ++ [(h0, .inr (1, [.ref q1, .ref q2, .ref q3, .ref q4, .ref q5, .ref q6, .null, .null, .null, .int 0, .int 0, .int 0, .null, .int 0, .int 0, .int 0, .int 0, .null, .null, .null])), (q1, .inl (xc g 0, 4, .inl (upd (upd (upd (upd (fun _ => 0) (0 : Int32).toNatClampNeg 10) (1 : Int32).toNatClampNeg 12) (2 : Int32).toNatClampNeg 14) (3 : Int32).toNatClampNeg 7))), (q2, .inl (xc g 0, 4, .inl (upd (upd (upd (upd (fun _ => 0) (0 : Int32).toNatClampNeg 14) (1 : Int32).toNatClampNeg 16) (2 : Int32).toNatClampNeg 19) (3 : Int32).toNatClampNeg 9))), (q3, .inl (xc g 0, 4, .inl (upd (upd (upd (upd (fun _ => 0) (0 : Int32).toNatClampNeg 1) (1 : Int32).toNatClampNeg 1) (2 : Int32).toNatClampNeg 1) (3 : Int32).toNatClampNeg 1))), (q4, .inl (xc g 3, 6, .inr (.inr (.inr (.inr (fun _ => none)))))), (q5, .inl (xc g 0, 6, .inl (fun _ => 0))), (q6, .inl (xc g 0, 6, .inl (fun _ => 0))), (q7, .inl (xc g 0, 6, .inl (fun _ => 0)))]) H locs := by have h := hw; rw [List.append_assoc] at h; exact h
  refine e_putF (ref := "OverTheHeads$Hall") (C := RX1) (T := TX1) (N := 20) (L1 := [(h0, .inr (1, [.ref q1, .ref q2, .ref q3, .ref q4, .ref q5, .ref q6, .ref q7, .null, .null, .int 0, .int 0, .int 0, .null, .int 0, .int 0, .int 0, .int 0, .null, .null, .null])), (q1, .inl (xc g 0, 4, .inl (upd (upd (upd (upd (fun _ => 0) (0 : Int32).toNatClampNeg 10) (1 : Int32).toNatClampNeg 12) (2 : Int32).toNatClampNeg 14) (3 : Int32).toNatClampNeg 7))), (q2, .inl (xc g 0, 4, .inl (upd (upd (upd (upd (fun _ => 0) (0 : Int32).toNatClampNeg 14) (1 : Int32).toNatClampNeg 16) (2 : Int32).toNatClampNeg 19) (3 : Int32).toNatClampNeg 9))), (q3, .inl (xc g 0, 4, .inl (upd (upd (upd (upd (fun _ => 0) (0 : Int32).toNatClampNeg 1) (1 : Int32).toNatClampNeg 1) (2 : Int32).toNatClampNeg 1) (3 : Int32).toNatClampNeg 1))), (q4, .inl (xc g 3, 6, .inr (.inr (.inr (.inr (fun _ => none)))))), (q5, .inl (xc g 0, 6, .inl (fun _ => 0))), (q6, .inl (xc g 0, 6, .inl (fun _ => 0))), (q7, .inl (xc g 0, 6, .inl (fun _ => 0)))]) hc hw inG1 tyX1 tyX1_ok nmX1 0 rfl rfl 6 (by decide) (mem_g 152 (by decide +kernel) rfl) (fun _ h => h) rfl hin rfl (ty := .array .int) (by decide +kernel) rfl rfl (Nat.le_of_ble_eq_true rfl) rfl dX1_init_111 (fun H locs hw => ?_)
  refine lv_aload_n hx hb dX1_init_114 rfl (lv_at hl 0 rfl) ?_
  refine lv_iconst (v := 4) hx hb dX1_init_115 (by decide) ?_
  refine e_newa_i (N := 4) hc hw (mem_g 135 (by decide +kernel) rfl) (by decide) (by decide) (by decide) (by have := hRc.1; omega) (by have := hRc.2; omega) dX1_init_116 (fun q8 H hw => ?_)
  have hw : xJ g A H0 s (X ++ [(h0, .inr (1, [.ref q1, .ref q2, .ref q3, .ref q4, .ref q5, .ref q6, .ref q7, .null, .null, .int 0, .int 0, .int 0, .null, .int 0, .int 0, .int 0, .int 0, .null, .null, .null])), (q1, .inl (xc g 0, 4, .inl (upd (upd (upd (upd (fun _ => 0) (0 : Int32).toNatClampNeg 10) (1 : Int32).toNatClampNeg 12) (2 : Int32).toNatClampNeg 14) (3 : Int32).toNatClampNeg 7))), (q2, .inl (xc g 0, 4, .inl (upd (upd (upd (upd (fun _ => 0) (0 : Int32).toNatClampNeg 14) (1 : Int32).toNatClampNeg 16) (2 : Int32).toNatClampNeg 19) (3 : Int32).toNatClampNeg 9))), (q3, .inl (xc g 0, 4, .inl (upd (upd (upd (upd (fun _ => 0) (0 : Int32).toNatClampNeg 1) (1 : Int32).toNatClampNeg 1) (2 : Int32).toNatClampNeg 1) (3 : Int32).toNatClampNeg 1))), (q4, .inl (xc g 3, 6, .inr (.inr (.inr (.inr (fun _ => none)))))), (q5, .inl (xc g 0, 6, .inl (fun _ => 0))), (q6, .inl (xc g 0, 6, .inl (fun _ => 0))), (q7, .inl (xc g 0, 6, .inl (fun _ => 0))), (q8, .inl (xc g 0, 4, .inl (fun _ => 0)))]) H locs := by have h := hw; rw [List.append_assoc] at h; exact h
  refine e_putF (ref := "OverTheHeads$Hall") (C := RX1) (T := TX1) (N := 20) (L1 := [(h0, .inr (1, [.ref q1, .ref q2, .ref q3, .ref q4, .ref q5, .ref q6, .ref q7, .ref q8, .null, .int 0, .int 0, .int 0, .null, .int 0, .int 0, .int 0, .int 0, .null, .null, .null])), (q1, .inl (xc g 0, 4, .inl (upd (upd (upd (upd (fun _ => 0) (0 : Int32).toNatClampNeg 10) (1 : Int32).toNatClampNeg 12) (2 : Int32).toNatClampNeg 14) (3 : Int32).toNatClampNeg 7))), (q2, .inl (xc g 0, 4, .inl (upd (upd (upd (upd (fun _ => 0) (0 : Int32).toNatClampNeg 14) (1 : Int32).toNatClampNeg 16) (2 : Int32).toNatClampNeg 19) (3 : Int32).toNatClampNeg 9))), (q3, .inl (xc g 0, 4, .inl (upd (upd (upd (upd (fun _ => 0) (0 : Int32).toNatClampNeg 1) (1 : Int32).toNatClampNeg 1) (2 : Int32).toNatClampNeg 1) (3 : Int32).toNatClampNeg 1))), (q4, .inl (xc g 3, 6, .inr (.inr (.inr (.inr (fun _ => none)))))), (q5, .inl (xc g 0, 6, .inl (fun _ => 0))), (q6, .inl (xc g 0, 6, .inl (fun _ => 0))), (q7, .inl (xc g 0, 6, .inl (fun _ => 0))), (q8, .inl (xc g 0, 4, .inl (fun _ => 0)))]) hc hw inG1 tyX1 tyX1_ok nmX1 0 rfl rfl 7 (by decide) (mem_g 154 (by decide +kernel) rfl) (fun _ h => h) rfl hin rfl (ty := .array .int) (by decide +kernel) rfl rfl (Nat.le_of_ble_eq_true rfl) rfl dX1_init_118 (fun H locs hw => ?_)
  refine lv_aload_n hx hb dX1_init_121 rfl (lv_at hl 0 rfl) ?_
  refine lv_iconst (v := 4) hx hb dX1_init_122 (by decide) ?_
  refine e_newa_i (N := 4) hc hw (mem_g 135 (by decide +kernel) rfl) (by decide) (by decide) (by decide) (by have := hRc.1; omega) (by have := hRc.2; omega) dX1_init_123 (fun q9 H hw => ?_)
  have hw : xJ g A H0 s (X ++ [(h0, .inr (1, [.ref q1, .ref q2, .ref q3, .ref q4, .ref q5, .ref q6, .ref q7, .ref q8, .null, .int 0, .int 0, .int 0, .null, .int 0, .int 0, .int 0, .int 0, .null, .null, .null])), (q1, .inl (xc g 0, 4, .inl (upd (upd (upd (upd (fun _ => 0) (0 : Int32).toNatClampNeg 10) (1 : Int32).toNatClampNeg 12) (2 : Int32).toNatClampNeg 14) (3 : Int32).toNatClampNeg 7))), (q2, .inl (xc g 0, 4, .inl (upd (upd (upd (upd (fun _ => 0) (0 : Int32).toNatClampNeg 14) (1 : Int32).toNatClampNeg 16) (2 : Int32).toNatClampNeg 19) (3 : Int32).toNatClampNeg 9))), (q3, .inl (xc g 0, 4, .inl (upd (upd (upd (upd (fun _ => 0) (0 : Int32).toNatClampNeg 1) (1 : Int32).toNatClampNeg 1) (2 : Int32).toNatClampNeg 1) (3 : Int32).toNatClampNeg 1))), (q4, .inl (xc g 3, 6, .inr (.inr (.inr (.inr (fun _ => none)))))), (q5, .inl (xc g 0, 6, .inl (fun _ => 0))), (q6, .inl (xc g 0, 6, .inl (fun _ => 0))), (q7, .inl (xc g 0, 6, .inl (fun _ => 0))), (q8, .inl (xc g 0, 4, .inl (fun _ => 0))), (q9, .inl (xc g 0, 4, .inl (fun _ => 0)))]) H locs := by have h := hw; rw [List.append_assoc] at h; exact h
  refine e_putF (ref := "OverTheHeads$Hall") (C := RX1) (T := TX1) (N := 20) (L1 := [(h0, .inr (1, [.ref q1, .ref q2, .ref q3, .ref q4, .ref q5, .ref q6, .ref q7, .ref q8, .ref q9, .int 0, .int 0, .int 0, .null, .int 0, .int 0, .int 0, .int 0, .null, .null, .null])), (q1, .inl (xc g 0, 4, .inl (upd (upd (upd (upd (fun _ => 0) (0 : Int32).toNatClampNeg 10) (1 : Int32).toNatClampNeg 12) (2 : Int32).toNatClampNeg 14) (3 : Int32).toNatClampNeg 7))), (q2, .inl (xc g 0, 4, .inl (upd (upd (upd (upd (fun _ => 0) (0 : Int32).toNatClampNeg 14) (1 : Int32).toNatClampNeg 16) (2 : Int32).toNatClampNeg 19) (3 : Int32).toNatClampNeg 9))), (q3, .inl (xc g 0, 4, .inl (upd (upd (upd (upd (fun _ => 0) (0 : Int32).toNatClampNeg 1) (1 : Int32).toNatClampNeg 1) (2 : Int32).toNatClampNeg 1) (3 : Int32).toNatClampNeg 1))), (q4, .inl (xc g 3, 6, .inr (.inr (.inr (.inr (fun _ => none)))))), (q5, .inl (xc g 0, 6, .inl (fun _ => 0))), (q6, .inl (xc g 0, 6, .inl (fun _ => 0))), (q7, .inl (xc g 0, 6, .inl (fun _ => 0))), (q8, .inl (xc g 0, 4, .inl (fun _ => 0))), (q9, .inl (xc g 0, 4, .inl (fun _ => 0)))]) hc hw inG1 tyX1 tyX1_ok nmX1 0 rfl rfl 8 (by decide) (mem_g 157 (by decide +kernel) rfl) (fun _ h => h) rfl hin rfl (ty := .array .int) (by decide +kernel) rfl rfl (Nat.le_of_ble_eq_true rfl) rfl dX1_init_125 (fun H locs hw => ?_)
  refine lv_aload_n hx hb dX1_init_128 rfl (lv_at hl 0 rfl) ?_
  refine lv_iconst (v := 0) hx hb dX1_init_129 (by decide) ?_
  refine e_put (ref := "OverTheHeads$Hall") (C := RX1) (T := TX1) (N := 20) (L1 := [(h0, .inr (1, [.ref q1, .ref q2, .ref q3, .ref q4, .ref q5, .ref q6, .ref q7, .ref q8, .ref q9, .int 0, .int 0, .int 0, .null, .int 0, .int 0, .int 0, .int 0, .null, .null, .null])), (q1, .inl (xc g 0, 4, .inl (upd (upd (upd (upd (fun _ => 0) (0 : Int32).toNatClampNeg 10) (1 : Int32).toNatClampNeg 12) (2 : Int32).toNatClampNeg 14) (3 : Int32).toNatClampNeg 7))), (q2, .inl (xc g 0, 4, .inl (upd (upd (upd (upd (fun _ => 0) (0 : Int32).toNatClampNeg 14) (1 : Int32).toNatClampNeg 16) (2 : Int32).toNatClampNeg 19) (3 : Int32).toNatClampNeg 9))), (q3, .inl (xc g 0, 4, .inl (upd (upd (upd (upd (fun _ => 0) (0 : Int32).toNatClampNeg 1) (1 : Int32).toNatClampNeg 1) (2 : Int32).toNatClampNeg 1) (3 : Int32).toNatClampNeg 1))), (q4, .inl (xc g 3, 6, .inr (.inr (.inr (.inr (fun _ => none)))))), (q5, .inl (xc g 0, 6, .inl (fun _ => 0))), (q6, .inl (xc g 0, 6, .inl (fun _ => 0))), (q7, .inl (xc g 0, 6, .inl (fun _ => 0))), (q8, .inl (xc g 0, 4, .inl (fun _ => 0))), (q9, .inl (xc g 0, 4, .inl (fun _ => 0)))]) hc hw inG1 tyX1 tyX1_ok nmX1 0 rfl rfl 9 (by decide) (mem_g 160 (by decide +kernel) rfl) (fun _ h => h) rfl (ty := .int) (by decide +kernel) rfl rfl (Nat.le_of_ble_eq_true rfl) rfl dX1_init_130 (fun H locs hw => ?_)
  refine lv_aload_n hx hb dX1_init_133 rfl (lv_at hl 0 rfl) ?_
  refine lv_iconst (v := 0) hx hb dX1_init_134 (by decide) ?_
  refine e_put (ref := "OverTheHeads$Hall") (C := RX1) (T := TX1) (N := 20) (L1 := [(h0, .inr (1, [.ref q1, .ref q2, .ref q3, .ref q4, .ref q5, .ref q6, .ref q7, .ref q8, .ref q9, .int 0, .int 0, .int 0, .null, .int 0, .int 0, .int 0, .int 0, .null, .null, .null])), (q1, .inl (xc g 0, 4, .inl (upd (upd (upd (upd (fun _ => 0) (0 : Int32).toNatClampNeg 10) (1 : Int32).toNatClampNeg 12) (2 : Int32).toNatClampNeg 14) (3 : Int32).toNatClampNeg 7))), (q2, .inl (xc g 0, 4, .inl (upd (upd (upd (upd (fun _ => 0) (0 : Int32).toNatClampNeg 14) (1 : Int32).toNatClampNeg 16) (2 : Int32).toNatClampNeg 19) (3 : Int32).toNatClampNeg 9))), (q3, .inl (xc g 0, 4, .inl (upd (upd (upd (upd (fun _ => 0) (0 : Int32).toNatClampNeg 1) (1 : Int32).toNatClampNeg 1) (2 : Int32).toNatClampNeg 1) (3 : Int32).toNatClampNeg 1))), (q4, .inl (xc g 3, 6, .inr (.inr (.inr (.inr (fun _ => none)))))), (q5, .inl (xc g 0, 6, .inl (fun _ => 0))), (q6, .inl (xc g 0, 6, .inl (fun _ => 0))), (q7, .inl (xc g 0, 6, .inl (fun _ => 0))), (q8, .inl (xc g 0, 4, .inl (fun _ => 0))), (q9, .inl (xc g 0, 4, .inl (fun _ => 0)))]) hc hw inG1 tyX1 tyX1_ok nmX1 0 rfl rfl 10 (by decide) (mem_g 163 (by decide +kernel) rfl) (fun _ h => h) rfl (ty := .int) (by decide +kernel) rfl rfl (Nat.le_of_ble_eq_true rfl) rfl dX1_init_135 (fun H locs hw => ?_)
  refine lv_aload_n hx hb dX1_init_138 rfl (lv_at hl 0 rfl) ?_
  refine lv_iconst (v := 0) hx hb dX1_init_139 (by decide) ?_
  refine e_put (ref := "OverTheHeads$Hall") (C := RX1) (T := TX1) (N := 20) (L1 := [(h0, .inr (1, [.ref q1, .ref q2, .ref q3, .ref q4, .ref q5, .ref q6, .ref q7, .ref q8, .ref q9, .int 0, .int 0, .int 0, .null, .int 0, .int 0, .int 0, .int 0, .null, .null, .null])), (q1, .inl (xc g 0, 4, .inl (upd (upd (upd (upd (fun _ => 0) (0 : Int32).toNatClampNeg 10) (1 : Int32).toNatClampNeg 12) (2 : Int32).toNatClampNeg 14) (3 : Int32).toNatClampNeg 7))), (q2, .inl (xc g 0, 4, .inl (upd (upd (upd (upd (fun _ => 0) (0 : Int32).toNatClampNeg 14) (1 : Int32).toNatClampNeg 16) (2 : Int32).toNatClampNeg 19) (3 : Int32).toNatClampNeg 9))), (q3, .inl (xc g 0, 4, .inl (upd (upd (upd (upd (fun _ => 0) (0 : Int32).toNatClampNeg 1) (1 : Int32).toNatClampNeg 1) (2 : Int32).toNatClampNeg 1) (3 : Int32).toNatClampNeg 1))), (q4, .inl (xc g 3, 6, .inr (.inr (.inr (.inr (fun _ => none)))))), (q5, .inl (xc g 0, 6, .inl (fun _ => 0))), (q6, .inl (xc g 0, 6, .inl (fun _ => 0))), (q7, .inl (xc g 0, 6, .inl (fun _ => 0))), (q8, .inl (xc g 0, 4, .inl (fun _ => 0))), (q9, .inl (xc g 0, 4, .inl (fun _ => 0)))]) hc hw inG1 tyX1 tyX1_ok nmX1 0 rfl rfl 11 (by decide) (mem_g 165 (by decide +kernel) rfl) (fun _ h => h) rfl (ty := .int) (by decide +kernel) rfl rfl (Nat.le_of_ble_eq_true rfl) rfl dX1_init_140 (fun H locs hw => ?_)
  refine lv_aload_n hx hb dX1_init_143 rfl (lv_at hl 0 rfl) ?_
  refine lv_null hx hb dX1_init_144 ?_
  refine e_put (ref := "OverTheHeads$Hall") (C := RX1) (T := TX1) (N := 20) (L1 := [(h0, .inr (1, [.ref q1, .ref q2, .ref q3, .ref q4, .ref q5, .ref q6, .ref q7, .ref q8, .ref q9, .int 0, .int 0, .int 0, .null, .int 0, .int 0, .int 0, .int 0, .null, .null, .null])), (q1, .inl (xc g 0, 4, .inl (upd (upd (upd (upd (fun _ => 0) (0 : Int32).toNatClampNeg 10) (1 : Int32).toNatClampNeg 12) (2 : Int32).toNatClampNeg 14) (3 : Int32).toNatClampNeg 7))), (q2, .inl (xc g 0, 4, .inl (upd (upd (upd (upd (fun _ => 0) (0 : Int32).toNatClampNeg 14) (1 : Int32).toNatClampNeg 16) (2 : Int32).toNatClampNeg 19) (3 : Int32).toNatClampNeg 9))), (q3, .inl (xc g 0, 4, .inl (upd (upd (upd (upd (fun _ => 0) (0 : Int32).toNatClampNeg 1) (1 : Int32).toNatClampNeg 1) (2 : Int32).toNatClampNeg 1) (3 : Int32).toNatClampNeg 1))), (q4, .inl (xc g 3, 6, .inr (.inr (.inr (.inr (fun _ => none)))))), (q5, .inl (xc g 0, 6, .inl (fun _ => 0))), (q6, .inl (xc g 0, 6, .inl (fun _ => 0))), (q7, .inl (xc g 0, 6, .inl (fun _ => 0))), (q8, .inl (xc g 0, 4, .inl (fun _ => 0))), (q9, .inl (xc g 0, 4, .inl (fun _ => 0)))]) hc hw inG1 tyX1 tyX1_ok nmX1 0 rfl rfl 12 (by decide) (mem_g 168 (by decide +kernel) rfl) (fun _ h => h) rfl (ty := .object "OverTheHeads$Text") (by decide +kernel) rfl rfl (Nat.le_of_ble_eq_true rfl) rfl dX1_init_145 (fun H locs hw => ?_)
  refine lv_aload_n hx hb dX1_init_148 rfl (lv_at hl 0 rfl) ?_
  refine lv_iconst (v := (-1)) hx hb dX1_init_149 (by decide) ?_
  refine e_put (ref := "OverTheHeads$Hall") (C := RX1) (T := TX1) (N := 20) (L1 := [(h0, .inr (1, [.ref q1, .ref q2, .ref q3, .ref q4, .ref q5, .ref q6, .ref q7, .ref q8, .ref q9, .int 0, .int 0, .int 0, .null, .int (-1), .int 0, .int 0, .int 0, .null, .null, .null])), (q1, .inl (xc g 0, 4, .inl (upd (upd (upd (upd (fun _ => 0) (0 : Int32).toNatClampNeg 10) (1 : Int32).toNatClampNeg 12) (2 : Int32).toNatClampNeg 14) (3 : Int32).toNatClampNeg 7))), (q2, .inl (xc g 0, 4, .inl (upd (upd (upd (upd (fun _ => 0) (0 : Int32).toNatClampNeg 14) (1 : Int32).toNatClampNeg 16) (2 : Int32).toNatClampNeg 19) (3 : Int32).toNatClampNeg 9))), (q3, .inl (xc g 0, 4, .inl (upd (upd (upd (upd (fun _ => 0) (0 : Int32).toNatClampNeg 1) (1 : Int32).toNatClampNeg 1) (2 : Int32).toNatClampNeg 1) (3 : Int32).toNatClampNeg 1))), (q4, .inl (xc g 3, 6, .inr (.inr (.inr (.inr (fun _ => none)))))), (q5, .inl (xc g 0, 6, .inl (fun _ => 0))), (q6, .inl (xc g 0, 6, .inl (fun _ => 0))), (q7, .inl (xc g 0, 6, .inl (fun _ => 0))), (q8, .inl (xc g 0, 4, .inl (fun _ => 0))), (q9, .inl (xc g 0, 4, .inl (fun _ => 0)))]) hc hw inG1 tyX1 tyX1_ok nmX1 0 rfl rfl 13 (by decide) (mem_g 170 (by decide +kernel) rfl) (fun _ h => h) rfl (ty := .int) (by decide +kernel) rfl rfl (Nat.le_of_ble_eq_true rfl) rfl dX1_init_150 (fun H locs hw => ?_)
  refine lv_aload_n hx hb dX1_init_153 rfl (lv_at hl 0 rfl) ?_
  refine lv_iconst (v := 0) hx hb dX1_init_154 (by decide) ?_
  refine e_put (ref := "OverTheHeads$Hall") (C := RX1) (T := TX1) (N := 20) (L1 := [(h0, .inr (1, [.ref q1, .ref q2, .ref q3, .ref q4, .ref q5, .ref q6, .ref q7, .ref q8, .ref q9, .int 0, .int 0, .int 0, .null, .int (-1), .int 0, .int 0, .int 0, .null, .null, .null])), (q1, .inl (xc g 0, 4, .inl (upd (upd (upd (upd (fun _ => 0) (0 : Int32).toNatClampNeg 10) (1 : Int32).toNatClampNeg 12) (2 : Int32).toNatClampNeg 14) (3 : Int32).toNatClampNeg 7))), (q2, .inl (xc g 0, 4, .inl (upd (upd (upd (upd (fun _ => 0) (0 : Int32).toNatClampNeg 14) (1 : Int32).toNatClampNeg 16) (2 : Int32).toNatClampNeg 19) (3 : Int32).toNatClampNeg 9))), (q3, .inl (xc g 0, 4, .inl (upd (upd (upd (upd (fun _ => 0) (0 : Int32).toNatClampNeg 1) (1 : Int32).toNatClampNeg 1) (2 : Int32).toNatClampNeg 1) (3 : Int32).toNatClampNeg 1))), (q4, .inl (xc g 3, 6, .inr (.inr (.inr (.inr (fun _ => none)))))), (q5, .inl (xc g 0, 6, .inl (fun _ => 0))), (q6, .inl (xc g 0, 6, .inl (fun _ => 0))), (q7, .inl (xc g 0, 6, .inl (fun _ => 0))), (q8, .inl (xc g 0, 4, .inl (fun _ => 0))), (q9, .inl (xc g 0, 4, .inl (fun _ => 0)))]) hc hw inG1 tyX1 tyX1_ok nmX1 0 rfl rfl 14 (by decide) (mem_g 172 (by decide +kernel) rfl) (fun _ h => h) rfl (ty := .int) (by decide +kernel) rfl rfl (Nat.le_of_ble_eq_true rfl) rfl dX1_init_155 (fun H locs hw => ?_)
  refine lv_aload_n hx hb dX1_init_158 rfl (lv_at hl 0 rfl) ?_
  refine lv_iconst (v := 0) hx hb dX1_init_159 (by decide) ?_
  refine e_put (ref := "OverTheHeads$Hall") (C := RX1) (T := TX1) (N := 20) (L1 := [(h0, .inr (1, [.ref q1, .ref q2, .ref q3, .ref q4, .ref q5, .ref q6, .ref q7, .ref q8, .ref q9, .int 0, .int 0, .int 0, .null, .int (-1), .int 0, .int 0, .int 0, .null, .null, .null])), (q1, .inl (xc g 0, 4, .inl (upd (upd (upd (upd (fun _ => 0) (0 : Int32).toNatClampNeg 10) (1 : Int32).toNatClampNeg 12) (2 : Int32).toNatClampNeg 14) (3 : Int32).toNatClampNeg 7))), (q2, .inl (xc g 0, 4, .inl (upd (upd (upd (upd (fun _ => 0) (0 : Int32).toNatClampNeg 14) (1 : Int32).toNatClampNeg 16) (2 : Int32).toNatClampNeg 19) (3 : Int32).toNatClampNeg 9))), (q3, .inl (xc g 0, 4, .inl (upd (upd (upd (upd (fun _ => 0) (0 : Int32).toNatClampNeg 1) (1 : Int32).toNatClampNeg 1) (2 : Int32).toNatClampNeg 1) (3 : Int32).toNatClampNeg 1))), (q4, .inl (xc g 3, 6, .inr (.inr (.inr (.inr (fun _ => none)))))), (q5, .inl (xc g 0, 6, .inl (fun _ => 0))), (q6, .inl (xc g 0, 6, .inl (fun _ => 0))), (q7, .inl (xc g 0, 6, .inl (fun _ => 0))), (q8, .inl (xc g 0, 4, .inl (fun _ => 0))), (q9, .inl (xc g 0, 4, .inl (fun _ => 0)))]) hc hw inG1 tyX1 tyX1_ok nmX1 0 rfl rfl 15 (by decide) (mem_g 174 (by decide +kernel) rfl) (fun _ h => h) rfl (ty := .int) (by decide +kernel) rfl rfl (Nat.le_of_ble_eq_true rfl) rfl dX1_init_160 (fun H locs hw => ?_)
  refine lv_aload_n hx hb dX1_init_163 rfl (lv_at hl 0 rfl) ?_
  refine lv_iconst (v := 0) hx hb dX1_init_164 (by decide) ?_
  refine e_put (ref := "OverTheHeads$Hall") (C := RX1) (T := TX1) (N := 20) (L1 := [(h0, .inr (1, [.ref q1, .ref q2, .ref q3, .ref q4, .ref q5, .ref q6, .ref q7, .ref q8, .ref q9, .int 0, .int 0, .int 0, .null, .int (-1), .int 0, .int 0, .int 0, .null, .null, .null])), (q1, .inl (xc g 0, 4, .inl (upd (upd (upd (upd (fun _ => 0) (0 : Int32).toNatClampNeg 10) (1 : Int32).toNatClampNeg 12) (2 : Int32).toNatClampNeg 14) (3 : Int32).toNatClampNeg 7))), (q2, .inl (xc g 0, 4, .inl (upd (upd (upd (upd (fun _ => 0) (0 : Int32).toNatClampNeg 14) (1 : Int32).toNatClampNeg 16) (2 : Int32).toNatClampNeg 19) (3 : Int32).toNatClampNeg 9))), (q3, .inl (xc g 0, 4, .inl (upd (upd (upd (upd (fun _ => 0) (0 : Int32).toNatClampNeg 1) (1 : Int32).toNatClampNeg 1) (2 : Int32).toNatClampNeg 1) (3 : Int32).toNatClampNeg 1))), (q4, .inl (xc g 3, 6, .inr (.inr (.inr (.inr (fun _ => none)))))), (q5, .inl (xc g 0, 6, .inl (fun _ => 0))), (q6, .inl (xc g 0, 6, .inl (fun _ => 0))), (q7, .inl (xc g 0, 6, .inl (fun _ => 0))), (q8, .inl (xc g 0, 4, .inl (fun _ => 0))), (q9, .inl (xc g 0, 4, .inl (fun _ => 0)))]) hc hw inG1 tyX1 tyX1_ok nmX1 0 rfl rfl 16 (by decide) (mem_g 176 (by decide +kernel) rfl) (fun _ h => h) rfl (ty := .int) (by decide +kernel) rfl rfl (Nat.le_of_ble_eq_true rfl) rfl dX1_init_165 (fun H locs hw => ?_)
  refine lv_aload_n hx hb dX1_init_168 rfl (lv_at hl 0 rfl) ?_
  refine lv_null hx hb dX1_init_169 ?_
  refine e_put (ref := "OverTheHeads$Hall") (C := RX1) (T := TX1) (N := 20) (L1 := [(h0, .inr (1, [.ref q1, .ref q2, .ref q3, .ref q4, .ref q5, .ref q6, .ref q7, .ref q8, .ref q9, .int 0, .int 0, .int 0, .null, .int (-1), .int 0, .int 0, .int 0, .null, .null, .null])), (q1, .inl (xc g 0, 4, .inl (upd (upd (upd (upd (fun _ => 0) (0 : Int32).toNatClampNeg 10) (1 : Int32).toNatClampNeg 12) (2 : Int32).toNatClampNeg 14) (3 : Int32).toNatClampNeg 7))), (q2, .inl (xc g 0, 4, .inl (upd (upd (upd (upd (fun _ => 0) (0 : Int32).toNatClampNeg 14) (1 : Int32).toNatClampNeg 16) (2 : Int32).toNatClampNeg 19) (3 : Int32).toNatClampNeg 9))), (q3, .inl (xc g 0, 4, .inl (upd (upd (upd (upd (fun _ => 0) (0 : Int32).toNatClampNeg 1) (1 : Int32).toNatClampNeg 1) (2 : Int32).toNatClampNeg 1) (3 : Int32).toNatClampNeg 1))), (q4, .inl (xc g 3, 6, .inr (.inr (.inr (.inr (fun _ => none)))))), (q5, .inl (xc g 0, 6, .inl (fun _ => 0))), (q6, .inl (xc g 0, 6, .inl (fun _ => 0))), (q7, .inl (xc g 0, 6, .inl (fun _ => 0))), (q8, .inl (xc g 0, 4, .inl (fun _ => 0))), (q9, .inl (xc g 0, 4, .inl (fun _ => 0)))]) hc hw inG1 tyX1 tyX1_ok nmX1 0 rfl rfl 17 (by decide) (mem_g 178 (by decide +kernel) rfl) (fun _ h => h) rfl (ty := .object "OverTheHeads$Row") (by decide +kernel) rfl rfl (Nat.le_of_ble_eq_true rfl) rfl dX1_init_170 (fun H locs hw => ?_)
  refine lv_aload_n hx hb dX1_init_173 rfl (lv_at hl 0 rfl) ?_
  refine e_new hc hw inG4 tyX4 tyX4_ok (mem_g 112 (by decide +kernel) rfl) (mem_g 113 (by decide +kernel) rfl) (mem_g 79 (by decide +kernel) rfl) (ci := 4) rfl (fs := [.int 0, .int 0, .int 0, .int 0, .int 0]) (fun j hj => by rcases (show j = 0 ∨ j = 1 ∨ j = 2 ∨ j = 3 ∨ j = 4 by omega) with rfl | rfl | rfl | rfl | rfl <;> rfl) (by have := hRc.1; omega) (by have := hRc.2; omega) dX1_init_174 (fun q10 H hw => ?_)
  refine lv_dup hx hb dX1_init_177 rfl ?_
  refine e_cvn (As := []) (rest := [.ref q10, .ref h0]) hc hw hR (hml.trans hl.1.symm) (ci_X4 l g q10) (⟨⟨by decide, (mem_g 115 (by decide +kernel) rfl), (mem_g 79 (by decide +kernel) rfl), (mem_g 116 (by decide +kernel) rfl)⟩, rfl, by decide, by decide +kernel, by decide⟩ : qCin RX1 74 yX4_init cX4_init 1 0) (by decide) rfl rfl rfl (Nat.le_of_ble_eq_true rfl) dX1_init_178 ⟨by have := hRc.1; omega, by have := hRc.2; omega⟩ (fun u10 H locs hw => ?_)
  have hw : xJ g A H0 s (X ++ [(h0, .inr (1, [.ref q1, .ref q2, .ref q3, .ref q4, .ref q5, .ref q6, .ref q7, .ref q8, .ref q9, .int 0, .int 0, .int 0, .null, .int (-1), .int 0, .int 0, .int 0, .null, .null, .null])), (q1, .inl (xc g 0, 4, .inl (upd (upd (upd (upd (fun _ => 0) (0 : Int32).toNatClampNeg 10) (1 : Int32).toNatClampNeg 12) (2 : Int32).toNatClampNeg 14) (3 : Int32).toNatClampNeg 7))), (q2, .inl (xc g 0, 4, .inl (upd (upd (upd (upd (fun _ => 0) (0 : Int32).toNatClampNeg 14) (1 : Int32).toNatClampNeg 16) (2 : Int32).toNatClampNeg 19) (3 : Int32).toNatClampNeg 9))), (q3, .inl (xc g 0, 4, .inl (upd (upd (upd (upd (fun _ => 0) (0 : Int32).toNatClampNeg 1) (1 : Int32).toNatClampNeg 1) (2 : Int32).toNatClampNeg 1) (3 : Int32).toNatClampNeg 1))), (q4, .inl (xc g 3, 6, .inr (.inr (.inr (.inr (fun _ => none)))))), (q5, .inl (xc g 0, 6, .inl (fun _ => 0))), (q6, .inl (xc g 0, 6, .inl (fun _ => 0))), (q7, .inl (xc g 0, 6, .inl (fun _ => 0))), (q8, .inl (xc g 0, 4, .inl (fun _ => 0))), (q9, .inl (xc g 0, 4, .inl (fun _ => 0))), (q10, .inr (4, [.int 0, .int 0, .int 0, .int 0, .int 0]))]) H locs := by have h := hw; rw [List.append_assoc] at h; exact h
  refine e_putF (ref := "OverTheHeads$Hall") (C := RX1) (T := TX1) (N := 20) (L1 := [(h0, .inr (1, [.ref q1, .ref q2, .ref q3, .ref q4, .ref q5, .ref q6, .ref q7, .ref q8, .ref q9, .int 0, .int 0, .int 0, .null, .int (-1), .int 0, .int 0, .int 0, .null, .ref q10, .null])), (q1, .inl (xc g 0, 4, .inl (upd (upd (upd (upd (fun _ => 0) (0 : Int32).toNatClampNeg 10) (1 : Int32).toNatClampNeg 12) (2 : Int32).toNatClampNeg 14) (3 : Int32).toNatClampNeg 7))), (q2, .inl (xc g 0, 4, .inl (upd (upd (upd (upd (fun _ => 0) (0 : Int32).toNatClampNeg 14) (1 : Int32).toNatClampNeg 16) (2 : Int32).toNatClampNeg 19) (3 : Int32).toNatClampNeg 9))), (q3, .inl (xc g 0, 4, .inl (upd (upd (upd (upd (fun _ => 0) (0 : Int32).toNatClampNeg 1) (1 : Int32).toNatClampNeg 1) (2 : Int32).toNatClampNeg 1) (3 : Int32).toNatClampNeg 1))), (q4, .inl (xc g 3, 6, .inr (.inr (.inr (.inr (fun _ => none)))))), (q5, .inl (xc g 0, 6, .inl (fun _ => 0))), (q6, .inl (xc g 0, 6, .inl (fun _ => 0))), (q7, .inl (xc g 0, 6, .inl (fun _ => 0))), (q8, .inl (xc g 0, 4, .inl (fun _ => 0))), (q9, .inl (xc g 0, 4, .inl (fun _ => 0))), (q10, .inr (4, [.int 0, .int 0, .int 0, .int 0, .int 0]))]) hc hw inG1 tyX1 tyX1_ok nmX1 0 rfl rfl 18 (by decide) (mem_g 180 (by decide +kernel) rfl) (fun _ h => h) rfl hin rfl (ty := .object "OverTheHeads$Line") (by decide +kernel) rfl rfl (Nat.le_of_ble_eq_true rfl) rfl dX1_init_181 (fun H locs hw => ?_)
  refine lv_aload_n hx hb dX1_init_184 rfl (lv_at hl 0 rfl) ?_
  refine lv_bipush (v := 6) hx hb dX1_init_185 (by decide) ?_
  refine e_newa_i (N := 6) hc hw (mem_g 135 (by decide +kernel) rfl) (by decide) (by decide) (by decide) (by have := hRc.1; omega) (by have := hRc.2; omega) dX1_init_187 (fun q11 H hw => ?_)
  have hw : xJ g A H0 s (X ++ [(h0, .inr (1, [.ref q1, .ref q2, .ref q3, .ref q4, .ref q5, .ref q6, .ref q7, .ref q8, .ref q9, .int 0, .int 0, .int 0, .null, .int (-1), .int 0, .int 0, .int 0, .null, .ref q10, .null])), (q1, .inl (xc g 0, 4, .inl (upd (upd (upd (upd (fun _ => 0) (0 : Int32).toNatClampNeg 10) (1 : Int32).toNatClampNeg 12) (2 : Int32).toNatClampNeg 14) (3 : Int32).toNatClampNeg 7))), (q2, .inl (xc g 0, 4, .inl (upd (upd (upd (upd (fun _ => 0) (0 : Int32).toNatClampNeg 14) (1 : Int32).toNatClampNeg 16) (2 : Int32).toNatClampNeg 19) (3 : Int32).toNatClampNeg 9))), (q3, .inl (xc g 0, 4, .inl (upd (upd (upd (upd (fun _ => 0) (0 : Int32).toNatClampNeg 1) (1 : Int32).toNatClampNeg 1) (2 : Int32).toNatClampNeg 1) (3 : Int32).toNatClampNeg 1))), (q4, .inl (xc g 3, 6, .inr (.inr (.inr (.inr (fun _ => none)))))), (q5, .inl (xc g 0, 6, .inl (fun _ => 0))), (q6, .inl (xc g 0, 6, .inl (fun _ => 0))), (q7, .inl (xc g 0, 6, .inl (fun _ => 0))), (q8, .inl (xc g 0, 4, .inl (fun _ => 0))), (q9, .inl (xc g 0, 4, .inl (fun _ => 0))), (q10, .inr (4, [.int 0, .int 0, .int 0, .int 0, .int 0])), (q11, .inl (xc g 0, 6, .inl (fun _ => 0)))]) H locs := by have h := hw; rw [List.append_assoc] at h; exact h
  refine e_putF (ref := "OverTheHeads$Hall") (C := RX1) (T := TX1) (N := 20) (L1 := [(h0, .inr (1, [.ref q1, .ref q2, .ref q3, .ref q4, .ref q5, .ref q6, .ref q7, .ref q8, .ref q9, .int 0, .int 0, .int 0, .null, .int (-1), .int 0, .int 0, .int 0, .null, .ref q10, .ref q11])), (q1, .inl (xc g 0, 4, .inl (upd (upd (upd (upd (fun _ => 0) (0 : Int32).toNatClampNeg 10) (1 : Int32).toNatClampNeg 12) (2 : Int32).toNatClampNeg 14) (3 : Int32).toNatClampNeg 7))), (q2, .inl (xc g 0, 4, .inl (upd (upd (upd (upd (fun _ => 0) (0 : Int32).toNatClampNeg 14) (1 : Int32).toNatClampNeg 16) (2 : Int32).toNatClampNeg 19) (3 : Int32).toNatClampNeg 9))), (q3, .inl (xc g 0, 4, .inl (upd (upd (upd (upd (fun _ => 0) (0 : Int32).toNatClampNeg 1) (1 : Int32).toNatClampNeg 1) (2 : Int32).toNatClampNeg 1) (3 : Int32).toNatClampNeg 1))), (q4, .inl (xc g 3, 6, .inr (.inr (.inr (.inr (fun _ => none)))))), (q5, .inl (xc g 0, 6, .inl (fun _ => 0))), (q6, .inl (xc g 0, 6, .inl (fun _ => 0))), (q7, .inl (xc g 0, 6, .inl (fun _ => 0))), (q8, .inl (xc g 0, 4, .inl (fun _ => 0))), (q9, .inl (xc g 0, 4, .inl (fun _ => 0))), (q10, .inr (4, [.int 0, .int 0, .int 0, .int 0, .int 0])), (q11, .inl (xc g 0, 6, .inl (fun _ => 0)))]) hc hw inG1 tyX1 tyX1_ok nmX1 0 rfl rfl 19 (by decide) (mem_g 181 (by decide +kernel) rfl) (fun _ h => h) rfl hin rfl (ty := .array .int) (by decide +kernel) rfl rfl (Nat.le_of_ble_eq_true rfl) rfl dX1_init_189 (fun H locs hw => ?_)
  exact hQ (fun k => if k = 0 then q1 else if k = 1 then q2 else if k = 2 then q3 else if k = 3 then q4 else if k = 4 then q5 else if k = 5 then q6 else if k = 6 then q7 else if k = 7 then q8 else if k = 8 then q9 else if k = 9 then q10 else if k = 10 then q11 else 0) _ _ _ _ dX1_init_192 hw
set_option maxHeartbeats 4000000 in
set_option maxRecDepth 100000 in
theorem ci_X2 (l : Launch) (g : xG) (h0 : Nat) : eMv l yX2_init cX2_init 1 1 7 74 [.ref h0] g [(h0, .inr (2, [.int 0, .int 0, .int 0, .int 0, .null, .null, .null, .null, .null, .null, .null, .int 0]))] (fun u => [(h0, .inr (2, [.int 0, .int 0, .int 0, .int 0, .ref (u 0), .ref (u 1), .ref (u 2), .ref (u 3), .ref (u 4), .ref (u 5), .ref (u 6), .int 0])), ((u 0), .inl (xc g 0, 6, .inl (fun _ => 0))), ((u 1), .inl (xc g 0, 48, .inl (fun _ => 0))), ((u 2), .inl (xc g 0, 4, .inl (fun _ => 0))), ((u 3), .inl (xc g 0, 4, .inl (fun _ => 0))), ((u 4), .inl (xc g 0, 4, .inl (fun _ => 0))), ((u 5), .inl (xc g 0, 4, .inl (fun _ => 0))), ((u 6), .inl (xc g 0, 4, .inl (fun _ => 0)))]) := by
  refine eMv_of (own := RX2) (by decide) rfl rfl (Nat.le_of_ble_eq_true rfl) ?_
  intro p e R s m args below meth c Q X A H0 H locs ls hc hR hRc hml hin hw hl hQ
  have hl : lv_has ls 1 [(0, .ref h0)] := hl
  have hx := hc.1
  have hb := hc.2.1
  refine lv_aload_n hx hb dX2_init_0 rfl (lv_at hl 0 rfl) ?_
  refine e_obj hc hR (by decide) (hml.trans hl.1.symm) (mem_g 228 (by decide +kernel) rfl) (mem_g 102 (by decide +kernel) rfl) (mem_g 103 (by decide +kernel) rfl) (Nat.le_of_ble_eq_true rfl) dX2_init_1 ?_
  refine lv_aload_n hx hb dX2_init_4 rfl (lv_at hl 0 rfl) ?_
  refine lv_iconst (v := 0) hx hb dX2_init_5 (by decide) ?_
  refine e_put (ref := "OverTheHeads$Image") (C := RX2) (T := TX2) (N := 12) (L1 := [(h0, .inr (2, [.int 0, .int 0, .int 0, .int 0, .null, .null, .null, .null, .null, .null, .null, .int 0]))]) hc hw inG2 tyX2 tyX2_ok nmX2 0 rfl rfl 0 (by decide) (mem_g 229 (by decide +kernel) rfl) (fun _ h => h) rfl (ty := .boolean) (by decide +kernel) rfl rfl (Nat.le_of_ble_eq_true rfl) rfl dX2_init_6 (fun H locs hw => ?_)
  refine lv_aload_n hx hb dX2_init_9 rfl (lv_at hl 0 rfl) ?_
  refine lv_iconst (v := 0) hx hb dX2_init_10 (by decide) ?_
  refine e_put (ref := "OverTheHeads$Image") (C := RX2) (T := TX2) (N := 12) (L1 := [(h0, .inr (2, [.int 0, .int 0, .int 0, .int 0, .null, .null, .null, .null, .null, .null, .null, .int 0]))]) hc hw inG2 tyX2 tyX2_ok nmX2 0 rfl rfl 1 (by decide) (mem_g 231 (by decide +kernel) rfl) (fun _ h => h) rfl (ty := .int) (by decide +kernel) rfl rfl (Nat.le_of_ble_eq_true rfl) rfl dX2_init_11 (fun H locs hw => ?_)
  refine lv_aload_n hx hb dX2_init_14 rfl (lv_at hl 0 rfl) ?_
  refine lv_iconst (v := 0) hx hb dX2_init_15 (by decide) ?_
  refine e_put (ref := "OverTheHeads$Image") (C := RX2) (T := TX2) (N := 12) (L1 := [(h0, .inr (2, [.int 0, .int 0, .int 0, .int 0, .null, .null, .null, .null, .null, .null, .null, .int 0]))]) hc hw inG2 tyX2 tyX2_ok nmX2 0 rfl rfl 2 (by decide) (mem_g 233 (by decide +kernel) rfl) (fun _ h => h) rfl (ty := .int) (by decide +kernel) rfl rfl (Nat.le_of_ble_eq_true rfl) rfl dX2_init_16 (fun H locs hw => ?_)
  refine lv_aload_n hx hb dX2_init_19 rfl (lv_at hl 0 rfl) ?_
  refine lv_iconst (v := 0) hx hb dX2_init_20 (by decide) ?_
  refine e_put (ref := "OverTheHeads$Image") (C := RX2) (T := TX2) (N := 12) (L1 := [(h0, .inr (2, [.int 0, .int 0, .int 0, .int 0, .null, .null, .null, .null, .null, .null, .null, .int 0]))]) hc hw inG2 tyX2 tyX2_ok nmX2 0 rfl rfl 3 (by decide) (mem_g 234 (by decide +kernel) rfl) (fun _ h => h) rfl (ty := .int) (by decide +kernel) rfl rfl (Nat.le_of_ble_eq_true rfl) rfl dX2_init_21 (fun H locs hw => ?_)
  refine lv_aload_n hx hb dX2_init_24 rfl (lv_at hl 0 rfl) ?_
  refine lv_bipush (v := 6) hx hb dX2_init_25 (by decide) ?_
  refine e_newa_i (N := 6) hc hw (mem_g 135 (by decide +kernel) rfl) (by decide) (by decide) (by decide) (by have := hRc.1; omega) (by have := hRc.2; omega) dX2_init_27 (fun q1 H hw => ?_)
  have hw : xJ g A H0 s (X ++ [(h0, .inr (2, [.int 0, .int 0, .int 0, .int 0, .null, .null, .null, .null, .null, .null, .null, .int 0])), (q1, .inl (xc g 0, 6, .inl (fun _ => 0)))]) H locs := by have h := hw; rw [List.append_assoc] at h; exact h
  refine e_putF (ref := "OverTheHeads$Image") (C := RX2) (T := TX2) (N := 12) (L1 := [(h0, .inr (2, [.int 0, .int 0, .int 0, .int 0, .ref q1, .null, .null, .null, .null, .null, .null, .int 0])), (q1, .inl (xc g 0, 6, .inl (fun _ => 0)))]) hc hw inG2 tyX2 tyX2_ok nmX2 0 rfl rfl 4 (by decide) (mem_g 235 (by decide +kernel) rfl) (fun _ h => h) rfl hin rfl (ty := .array .int) (by decide +kernel) rfl rfl (Nat.le_of_ble_eq_true rfl) rfl dX2_init_29 (fun H locs hw => ?_)
  refine lv_aload_n hx hb dX2_init_32 rfl (lv_at hl 0 rfl) ?_
  refine lv_bipush (v := 48) hx hb dX2_init_33 (by decide) ?_
  refine e_newa_i (N := 48) hc hw (mem_g 135 (by decide +kernel) rfl) (by decide) (by decide) (by decide) (by have := hRc.1; omega) (by have := hRc.2; omega) dX2_init_35 (fun q2 H hw => ?_)
  have hw : xJ g A H0 s (X ++ [(h0, .inr (2, [.int 0, .int 0, .int 0, .int 0, .ref q1, .null, .null, .null, .null, .null, .null, .int 0])), (q1, .inl (xc g 0, 6, .inl (fun _ => 0))), (q2, .inl (xc g 0, 48, .inl (fun _ => 0)))]) H locs := by have h := hw; rw [List.append_assoc] at h; exact h
  refine e_putF (ref := "OverTheHeads$Image") (C := RX2) (T := TX2) (N := 12) (L1 := [(h0, .inr (2, [.int 0, .int 0, .int 0, .int 0, .ref q1, .ref q2, .null, .null, .null, .null, .null, .int 0])), (q1, .inl (xc g 0, 6, .inl (fun _ => 0))), (q2, .inl (xc g 0, 48, .inl (fun _ => 0)))]) hc hw inG2 tyX2 tyX2_ok nmX2 0 rfl rfl 5 (by decide) (mem_g 236 (by decide +kernel) rfl) (fun _ h => h) rfl hin rfl (ty := .array .int) (by decide +kernel) rfl rfl (Nat.le_of_ble_eq_true rfl) rfl dX2_init_37 (fun H locs hw => ?_)
  refine lv_aload_n hx hb dX2_init_40 rfl (lv_at hl 0 rfl) ?_
  refine lv_iconst (v := 4) hx hb dX2_init_41 (by decide) ?_
  refine e_newa_i (N := 4) hc hw (mem_g 135 (by decide +kernel) rfl) (by decide) (by decide) (by decide) (by have := hRc.1; omega) (by have := hRc.2; omega) dX2_init_42 (fun q3 H hw => ?_)
  have hw : xJ g A H0 s (X ++ [(h0, .inr (2, [.int 0, .int 0, .int 0, .int 0, .ref q1, .ref q2, .null, .null, .null, .null, .null, .int 0])), (q1, .inl (xc g 0, 6, .inl (fun _ => 0))), (q2, .inl (xc g 0, 48, .inl (fun _ => 0))), (q3, .inl (xc g 0, 4, .inl (fun _ => 0)))]) H locs := by have h := hw; rw [List.append_assoc] at h; exact h
  refine e_putF (ref := "OverTheHeads$Image") (C := RX2) (T := TX2) (N := 12) (L1 := [(h0, .inr (2, [.int 0, .int 0, .int 0, .int 0, .ref q1, .ref q2, .ref q3, .null, .null, .null, .null, .int 0])), (q1, .inl (xc g 0, 6, .inl (fun _ => 0))), (q2, .inl (xc g 0, 48, .inl (fun _ => 0))), (q3, .inl (xc g 0, 4, .inl (fun _ => 0)))]) hc hw inG2 tyX2 tyX2_ok nmX2 0 rfl rfl 6 (by decide) (mem_g 237 (by decide +kernel) rfl) (fun _ h => h) rfl hin rfl (ty := .array .int) (by decide +kernel) rfl rfl (Nat.le_of_ble_eq_true rfl) rfl dX2_init_44 (fun H locs hw => ?_)
  refine lv_aload_n hx hb dX2_init_47 rfl (lv_at hl 0 rfl) ?_
  refine lv_iconst (v := 4) hx hb dX2_init_48 (by decide) ?_
  refine e_newa_i (N := 4) hc hw (mem_g 135 (by decide +kernel) rfl) (by decide) (by decide) (by decide) (by have := hRc.1; omega) (by have := hRc.2; omega) dX2_init_49 (fun q4 H hw => ?_)
  have hw : xJ g A H0 s (X ++ [(h0, .inr (2, [.int 0, .int 0, .int 0, .int 0, .ref q1, .ref q2, .ref q3, .null, .null, .null, .null, .int 0])), (q1, .inl (xc g 0, 6, .inl (fun _ => 0))), (q2, .inl (xc g 0, 48, .inl (fun _ => 0))), (q3, .inl (xc g 0, 4, .inl (fun _ => 0))), (q4, .inl (xc g 0, 4, .inl (fun _ => 0)))]) H locs := by have h := hw; rw [List.append_assoc] at h; exact h
  refine e_putF (ref := "OverTheHeads$Image") (C := RX2) (T := TX2) (N := 12) (L1 := [(h0, .inr (2, [.int 0, .int 0, .int 0, .int 0, .ref q1, .ref q2, .ref q3, .ref q4, .null, .null, .null, .int 0])), (q1, .inl (xc g 0, 6, .inl (fun _ => 0))), (q2, .inl (xc g 0, 48, .inl (fun _ => 0))), (q3, .inl (xc g 0, 4, .inl (fun _ => 0))), (q4, .inl (xc g 0, 4, .inl (fun _ => 0)))]) hc hw inG2 tyX2 tyX2_ok nmX2 0 rfl rfl 7 (by decide) (mem_g 238 (by decide +kernel) rfl) (fun _ h => h) rfl hin rfl (ty := .array .int) (by decide +kernel) rfl rfl (Nat.le_of_ble_eq_true rfl) rfl dX2_init_51 (fun H locs hw => ?_)
  refine lv_aload_n hx hb dX2_init_54 rfl (lv_at hl 0 rfl) ?_
  refine lv_iconst (v := 4) hx hb dX2_init_55 (by decide) ?_
  refine e_newa_i (N := 4) hc hw (mem_g 135 (by decide +kernel) rfl) (by decide) (by decide) (by decide) (by have := hRc.1; omega) (by have := hRc.2; omega) dX2_init_56 (fun q5 H hw => ?_)
  have hw : xJ g A H0 s (X ++ [(h0, .inr (2, [.int 0, .int 0, .int 0, .int 0, .ref q1, .ref q2, .ref q3, .ref q4, .null, .null, .null, .int 0])), (q1, .inl (xc g 0, 6, .inl (fun _ => 0))), (q2, .inl (xc g 0, 48, .inl (fun _ => 0))), (q3, .inl (xc g 0, 4, .inl (fun _ => 0))), (q4, .inl (xc g 0, 4, .inl (fun _ => 0))), (q5, .inl (xc g 0, 4, .inl (fun _ => 0)))]) H locs := by have h := hw; rw [List.append_assoc] at h; exact h
  refine e_putF (ref := "OverTheHeads$Image") (C := RX2) (T := TX2) (N := 12) (L1 := [(h0, .inr (2, [.int 0, .int 0, .int 0, .int 0, .ref q1, .ref q2, .ref q3, .ref q4, .ref q5, .null, .null, .int 0])), (q1, .inl (xc g 0, 6, .inl (fun _ => 0))), (q2, .inl (xc g 0, 48, .inl (fun _ => 0))), (q3, .inl (xc g 0, 4, .inl (fun _ => 0))), (q4, .inl (xc g 0, 4, .inl (fun _ => 0))), (q5, .inl (xc g 0, 4, .inl (fun _ => 0)))]) hc hw inG2 tyX2 tyX2_ok nmX2 0 rfl rfl 8 (by decide) (mem_g 239 (by decide +kernel) rfl) (fun _ h => h) rfl hin rfl (ty := .array .int) (by decide +kernel) rfl rfl (Nat.le_of_ble_eq_true rfl) rfl dX2_init_58 (fun H locs hw => ?_)
  refine lv_aload_n hx hb dX2_init_61 rfl (lv_at hl 0 rfl) ?_
  refine lv_iconst (v := 4) hx hb dX2_init_62 (by decide) ?_
  refine e_newa_i (N := 4) hc hw (mem_g 135 (by decide +kernel) rfl) (by decide) (by decide) (by decide) (by have := hRc.1; omega) (by have := hRc.2; omega) dX2_init_63 (fun q6 H hw => ?_)
  have hw : xJ g A H0 s (X ++ [(h0, .inr (2, [.int 0, .int 0, .int 0, .int 0, .ref q1, .ref q2, .ref q3, .ref q4, .ref q5, .null, .null, .int 0])), (q1, .inl (xc g 0, 6, .inl (fun _ => 0))), (q2, .inl (xc g 0, 48, .inl (fun _ => 0))), (q3, .inl (xc g 0, 4, .inl (fun _ => 0))), (q4, .inl (xc g 0, 4, .inl (fun _ => 0))), (q5, .inl (xc g 0, 4, .inl (fun _ => 0))), (q6, .inl (xc g 0, 4, .inl (fun _ => 0)))]) H locs := by have h := hw; rw [List.append_assoc] at h; exact h
  refine e_putF (ref := "OverTheHeads$Image") (C := RX2) (T := TX2) (N := 12) (L1 := [(h0, .inr (2, [.int 0, .int 0, .int 0, .int 0, .ref q1, .ref q2, .ref q3, .ref q4, .ref q5, .ref q6, .null, .int 0])), (q1, .inl (xc g 0, 6, .inl (fun _ => 0))), (q2, .inl (xc g 0, 48, .inl (fun _ => 0))), (q3, .inl (xc g 0, 4, .inl (fun _ => 0))), (q4, .inl (xc g 0, 4, .inl (fun _ => 0))), (q5, .inl (xc g 0, 4, .inl (fun _ => 0))), (q6, .inl (xc g 0, 4, .inl (fun _ => 0)))]) hc hw inG2 tyX2 tyX2_ok nmX2 0 rfl rfl 9 (by decide) (mem_g 240 (by decide +kernel) rfl) (fun _ h => h) rfl hin rfl (ty := .array .int) (by decide +kernel) rfl rfl (Nat.le_of_ble_eq_true rfl) rfl dX2_init_65 (fun H locs hw => ?_)
  refine lv_aload_n hx hb dX2_init_68 rfl (lv_at hl 0 rfl) ?_
  refine lv_iconst (v := 4) hx hb dX2_init_69 (by decide) ?_
  refine e_newa_i (N := 4) hc hw (mem_g 135 (by decide +kernel) rfl) (by decide) (by decide) (by decide) (by have := hRc.1; omega) (by have := hRc.2; omega) dX2_init_70 (fun q7 H hw => ?_)
  have hw : xJ g A H0 s (X ++ [(h0, .inr (2, [.int 0, .int 0, .int 0, .int 0, .ref q1, .ref q2, .ref q3, .ref q4, .ref q5, .ref q6, .null, .int 0])), (q1, .inl (xc g 0, 6, .inl (fun _ => 0))), (q2, .inl (xc g 0, 48, .inl (fun _ => 0))), (q3, .inl (xc g 0, 4, .inl (fun _ => 0))), (q4, .inl (xc g 0, 4, .inl (fun _ => 0))), (q5, .inl (xc g 0, 4, .inl (fun _ => 0))), (q6, .inl (xc g 0, 4, .inl (fun _ => 0))), (q7, .inl (xc g 0, 4, .inl (fun _ => 0)))]) H locs := by have h := hw; rw [List.append_assoc] at h; exact h
  refine e_putF (ref := "OverTheHeads$Image") (C := RX2) (T := TX2) (N := 12) (L1 := [(h0, .inr (2, [.int 0, .int 0, .int 0, .int 0, .ref q1, .ref q2, .ref q3, .ref q4, .ref q5, .ref q6, .ref q7, .int 0])), (q1, .inl (xc g 0, 6, .inl (fun _ => 0))), (q2, .inl (xc g 0, 48, .inl (fun _ => 0))), (q3, .inl (xc g 0, 4, .inl (fun _ => 0))), (q4, .inl (xc g 0, 4, .inl (fun _ => 0))), (q5, .inl (xc g 0, 4, .inl (fun _ => 0))), (q6, .inl (xc g 0, 4, .inl (fun _ => 0))), (q7, .inl (xc g 0, 4, .inl (fun _ => 0)))]) hc hw inG2 tyX2 tyX2_ok nmX2 0 rfl rfl 10 (by decide) (mem_g 241 (by decide +kernel) rfl) (fun _ h => h) rfl hin rfl (ty := .array .int) (by decide +kernel) rfl rfl (Nat.le_of_ble_eq_true rfl) rfl dX2_init_72 (fun H locs hw => ?_)
  refine lv_aload_n hx hb dX2_init_75 rfl (lv_at hl 0 rfl) ?_
  refine lv_iconst (v := 0) hx hb dX2_init_76 (by decide) ?_
  refine e_put (ref := "OverTheHeads$Image") (C := RX2) (T := TX2) (N := 12) (L1 := [(h0, .inr (2, [.int 0, .int 0, .int 0, .int 0, .ref q1, .ref q2, .ref q3, .ref q4, .ref q5, .ref q6, .ref q7, .int 0])), (q1, .inl (xc g 0, 6, .inl (fun _ => 0))), (q2, .inl (xc g 0, 48, .inl (fun _ => 0))), (q3, .inl (xc g 0, 4, .inl (fun _ => 0))), (q4, .inl (xc g 0, 4, .inl (fun _ => 0))), (q5, .inl (xc g 0, 4, .inl (fun _ => 0))), (q6, .inl (xc g 0, 4, .inl (fun _ => 0))), (q7, .inl (xc g 0, 4, .inl (fun _ => 0)))]) hc hw inG2 tyX2 tyX2_ok nmX2 0 rfl rfl 11 (by decide) (mem_g 242 (by decide +kernel) rfl) (fun _ h => h) rfl (ty := .int) (by decide +kernel) rfl rfl (Nat.le_of_ble_eq_true rfl) rfl dX2_init_77 (fun H locs hw => ?_)
  exact hQ (fun k => if k = 0 then q1 else if k = 1 then q2 else if k = 2 then q3 else if k = 3 then q4 else if k = 4 then q5 else if k = 5 then q6 else if k = 6 then q7 else 0) _ _ _ _ dX2_init_80 hw
set_option maxHeartbeats 4000000 in
set_option maxRecDepth 100000 in
theorem ci_X7 (l : Launch) (g : xG) (h0 : Nat) : eMv l yX7_init cX7_init 1 1 2 163 [.ref h0] g [(h0, .inr (7, [.int 0, .null, .int 0, .int 0, .int 0, .int 0, .int 0, .int 0, .null, .null, .int 0]))] (fun u => [(h0, .inr (7, [.int (-1), .null, .int 0, .int 0, .int 0, .int 0, .int 0, .int 0, .ref (u 0), .ref (u 1), .int 0])), ((u 0), .inl (xc g 0, 160, .inl (fun _ => 0))), ((u 1), .inl (xc g 0, 3, .inl (fun _ => 0)))]) := by
  refine eMv_of (own := RX7) (by decide) rfl rfl (Nat.le_of_ble_eq_true rfl) ?_
  intro p e R s m args below meth c Q X A H0 H locs ls hc hR hRc hml hin hw hl hQ
  have hl : lv_has ls 1 [(0, .ref h0)] := hl
  have hx := hc.1
  have hb := hc.2.1
  refine lv_aload_n hx hb dX7_init_0 rfl (lv_at hl 0 rfl) ?_
  refine e_obj hc hR (by decide) (hml.trans hl.1.symm) (mem_g 275 (by decide +kernel) rfl) (mem_g 102 (by decide +kernel) rfl) (mem_g 103 (by decide +kernel) rfl) (Nat.le_of_ble_eq_true rfl) dX7_init_1 ?_
  refine lv_aload_n hx hb dX7_init_4 rfl (lv_at hl 0 rfl) ?_
  refine lv_iconst (v := (-1)) hx hb dX7_init_5 (by decide) ?_
  refine e_put (ref := "OverTheHeads$Reader") (C := RX7) (T := TX7) (N := 11) (L1 := [(h0, .inr (7, [.int (-1), .null, .int 0, .int 0, .int 0, .int 0, .int 0, .int 0, .null, .null, .int 0]))]) hc hw inG7 tyX7 tyX7_ok nmX7 0 rfl rfl 0 (by decide) (mem_g 276 (by decide +kernel) rfl) (fun _ h => h) rfl (ty := .int) (by decide +kernel) rfl rfl (Nat.le_of_ble_eq_true rfl) rfl dX7_init_6 (fun H locs hw => ?_)
  refine lv_aload_n hx hb dX7_init_9 rfl (lv_at hl 0 rfl) ?_
  refine lv_null hx hb dX7_init_10 ?_
  refine e_put (ref := "OverTheHeads$Reader") (C := RX7) (T := TX7) (N := 11) (L1 := [(h0, .inr (7, [.int (-1), .null, .int 0, .int 0, .int 0, .int 0, .int 0, .int 0, .null, .null, .int 0]))]) hc hw inG7 tyX7 tyX7_ok nmX7 0 rfl rfl 1 (by decide) (mem_g 278 (by decide +kernel) rfl) (fun _ h => h) rfl (ty := .array .byte) (by decide +kernel) rfl rfl (Nat.le_of_ble_eq_true rfl) rfl dX7_init_11 (fun H locs hw => ?_)
  refine lv_aload_n hx hb dX7_init_14 rfl (lv_at hl 0 rfl) ?_
  refine lv_iconst (v := 0) hx hb dX7_init_15 (by decide) ?_
  refine e_put (ref := "OverTheHeads$Reader") (C := RX7) (T := TX7) (N := 11) (L1 := [(h0, .inr (7, [.int (-1), .null, .int 0, .int 0, .int 0, .int 0, .int 0, .int 0, .null, .null, .int 0]))]) hc hw inG7 tyX7 tyX7_ok nmX7 0 rfl rfl 2 (by decide) (mem_g 279 (by decide +kernel) rfl) (fun _ h => h) rfl (ty := .int) (by decide +kernel) rfl rfl (Nat.le_of_ble_eq_true rfl) rfl dX7_init_16 (fun H locs hw => ?_)
  refine lv_aload_n hx hb dX7_init_19 rfl (lv_at hl 0 rfl) ?_
  refine lv_iconst (v := 0) hx hb dX7_init_20 (by decide) ?_
  refine e_put (ref := "OverTheHeads$Reader") (C := RX7) (T := TX7) (N := 11) (L1 := [(h0, .inr (7, [.int (-1), .null, .int 0, .int 0, .int 0, .int 0, .int 0, .int 0, .null, .null, .int 0]))]) hc hw inG7 tyX7 tyX7_ok nmX7 0 rfl rfl 3 (by decide) (mem_g 280 (by decide +kernel) rfl) (fun _ h => h) rfl (ty := .int) (by decide +kernel) rfl rfl (Nat.le_of_ble_eq_true rfl) rfl dX7_init_21 (fun H locs hw => ?_)
  refine lv_aload_n hx hb dX7_init_24 rfl (lv_at hl 0 rfl) ?_
  refine lv_iconst (v := 0) hx hb dX7_init_25 (by decide) ?_
  refine e_put (ref := "OverTheHeads$Reader") (C := RX7) (T := TX7) (N := 11) (L1 := [(h0, .inr (7, [.int (-1), .null, .int 0, .int 0, .int 0, .int 0, .int 0, .int 0, .null, .null, .int 0]))]) hc hw inG7 tyX7 tyX7_ok nmX7 0 rfl rfl 4 (by decide) (mem_g 281 (by decide +kernel) rfl) (fun _ h => h) rfl (ty := .int) (by decide +kernel) rfl rfl (Nat.le_of_ble_eq_true rfl) rfl dX7_init_26 (fun H locs hw => ?_)
  refine lv_aload_n hx hb dX7_init_29 rfl (lv_at hl 0 rfl) ?_
  refine lv_iconst (v := 0) hx hb dX7_init_30 (by decide) ?_
  refine e_put (ref := "OverTheHeads$Reader") (C := RX7) (T := TX7) (N := 11) (L1 := [(h0, .inr (7, [.int (-1), .null, .int 0, .int 0, .int 0, .int 0, .int 0, .int 0, .null, .null, .int 0]))]) hc hw inG7 tyX7 tyX7_ok nmX7 0 rfl rfl 5 (by decide) (mem_g 282 (by decide +kernel) rfl) (fun _ h => h) rfl (ty := .int) (by decide +kernel) rfl rfl (Nat.le_of_ble_eq_true rfl) rfl dX7_init_31 (fun H locs hw => ?_)
  refine lv_aload_n hx hb dX7_init_34 rfl (lv_at hl 0 rfl) ?_
  refine lv_iconst (v := 0) hx hb dX7_init_35 (by decide) ?_
  refine e_put (ref := "OverTheHeads$Reader") (C := RX7) (T := TX7) (N := 11) (L1 := [(h0, .inr (7, [.int (-1), .null, .int 0, .int 0, .int 0, .int 0, .int 0, .int 0, .null, .null, .int 0]))]) hc hw inG7 tyX7 tyX7_ok nmX7 0 rfl rfl 6 (by decide) (mem_g 283 (by decide +kernel) rfl) (fun _ h => h) rfl (ty := .int) (by decide +kernel) rfl rfl (Nat.le_of_ble_eq_true rfl) rfl dX7_init_36 (fun H locs hw => ?_)
  refine lv_aload_n hx hb dX7_init_39 rfl (lv_at hl 0 rfl) ?_
  refine lv_iconst (v := 0) hx hb dX7_init_40 (by decide) ?_
  refine e_put (ref := "OverTheHeads$Reader") (C := RX7) (T := TX7) (N := 11) (L1 := [(h0, .inr (7, [.int (-1), .null, .int 0, .int 0, .int 0, .int 0, .int 0, .int 0, .null, .null, .int 0]))]) hc hw inG7 tyX7 tyX7_ok nmX7 0 rfl rfl 7 (by decide) (mem_g 284 (by decide +kernel) rfl) (fun _ h => h) rfl (ty := .int) (by decide +kernel) rfl rfl (Nat.le_of_ble_eq_true rfl) rfl dX7_init_41 (fun H locs hw => ?_)
  refine lv_aload_n hx hb dX7_init_44 rfl (lv_at hl 0 rfl) ?_
  refine lv_sipush (v := 160) hx hb dX7_init_45 (by decide) ?_
  refine e_newa_i (N := 160) hc hw (mem_g 135 (by decide +kernel) rfl) (by decide) (by decide) (by decide) (by have := hRc.1; omega) (by have := hRc.2; omega) dX7_init_48 (fun q1 H hw => ?_)
  have hw : xJ g A H0 s (X ++ [(h0, .inr (7, [.int (-1), .null, .int 0, .int 0, .int 0, .int 0, .int 0, .int 0, .null, .null, .int 0])), (q1, .inl (xc g 0, 160, .inl (fun _ => 0)))]) H locs := by have h := hw; rw [List.append_assoc] at h; exact h
  refine e_putF (ref := "OverTheHeads$Reader") (C := RX7) (T := TX7) (N := 11) (L1 := [(h0, .inr (7, [.int (-1), .null, .int 0, .int 0, .int 0, .int 0, .int 0, .int 0, .ref q1, .null, .int 0])), (q1, .inl (xc g 0, 160, .inl (fun _ => 0)))]) hc hw inG7 tyX7 tyX7_ok nmX7 0 rfl rfl 8 (by decide) (mem_g 285 (by decide +kernel) rfl) (fun _ h => h) rfl hin rfl (ty := .array .int) (by decide +kernel) rfl rfl (Nat.le_of_ble_eq_true rfl) rfl dX7_init_50 (fun H locs hw => ?_)
  refine lv_aload_n hx hb dX7_init_53 rfl (lv_at hl 0 rfl) ?_
  refine lv_iconst (v := 3) hx hb dX7_init_54 (by decide) ?_
  refine e_newa_i (N := 3) hc hw (mem_g 135 (by decide +kernel) rfl) (by decide) (by decide) (by decide) (by have := hRc.1; omega) (by have := hRc.2; omega) dX7_init_55 (fun q2 H hw => ?_)
  have hw : xJ g A H0 s (X ++ [(h0, .inr (7, [.int (-1), .null, .int 0, .int 0, .int 0, .int 0, .int 0, .int 0, .ref q1, .null, .int 0])), (q1, .inl (xc g 0, 160, .inl (fun _ => 0))), (q2, .inl (xc g 0, 3, .inl (fun _ => 0)))]) H locs := by have h := hw; rw [List.append_assoc] at h; exact h
  refine e_putF (ref := "OverTheHeads$Reader") (C := RX7) (T := TX7) (N := 11) (L1 := [(h0, .inr (7, [.int (-1), .null, .int 0, .int 0, .int 0, .int 0, .int 0, .int 0, .ref q1, .ref q2, .int 0])), (q1, .inl (xc g 0, 160, .inl (fun _ => 0))), (q2, .inl (xc g 0, 3, .inl (fun _ => 0)))]) hc hw inG7 tyX7 tyX7_ok nmX7 0 rfl rfl 9 (by decide) (mem_g 286 (by decide +kernel) rfl) (fun _ h => h) rfl hin rfl (ty := .array .int) (by decide +kernel) rfl rfl (Nat.le_of_ble_eq_true rfl) rfl dX7_init_57 (fun H locs hw => ?_)
  refine lv_aload_n hx hb dX7_init_60 rfl (lv_at hl 0 rfl) ?_
  refine lv_iconst (v := 0) hx hb dX7_init_61 (by decide) ?_
  refine e_put (ref := "OverTheHeads$Reader") (C := RX7) (T := TX7) (N := 11) (L1 := [(h0, .inr (7, [.int (-1), .null, .int 0, .int 0, .int 0, .int 0, .int 0, .int 0, .ref q1, .ref q2, .int 0])), (q1, .inl (xc g 0, 160, .inl (fun _ => 0))), (q2, .inl (xc g 0, 3, .inl (fun _ => 0)))]) hc hw inG7 tyX7 tyX7_ok nmX7 0 rfl rfl 10 (by decide) (mem_g 287 (by decide +kernel) rfl) (fun _ h => h) rfl (ty := .int) (by decide +kernel) rfl rfl (Nat.le_of_ble_eq_true rfl) rfl dX7_init_62 (fun H locs hw => ?_)
  exact hQ (fun k => if k = 0 then q1 else if k = 1 then q2 else 0) _ _ _ _ dX7_init_65 hw
