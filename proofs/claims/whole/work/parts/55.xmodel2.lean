def mRho (h0 : Nat) (u : Nat → Nat) : Nat → Nat := fun k => bif Nat.beq k 0 then h0 else bif Nat.beq k 1 then (u 0) else bif Nat.beq k 2 then (u 1) else bif Nat.beq k 3 then (u 2) else bif Nat.beq k 5 then (u 3) else bif Nat.beq k 6 then (u 4) else bif Nat.beq k 7 then (u 5) else bif Nat.beq k 8 then (u 6) else bif Nat.beq k 9 then (u 7) else bif Nat.beq k 10 then (u 8) else bif Nat.beq k 12 then (u 9) else bif Nat.beq k 13 then (u 10) else bif Nat.beq k 14 then (u 11) else bif Nat.beq k 16 then (u 12) else bif Nat.beq k 17 then (u 13) else bif Nat.beq k 18 then (u 14) else bif Nat.beq k 20 then (u 15) else bif Nat.beq k 21 then (u 16) else bif Nat.beq k 30 then (u 17) else bif Nat.beq k 31 then (u 18) else bif Nat.beq k 32 then (u 19) else bif Nat.beq k 33 then (u 20) else bif Nat.beq k 34 then (u 21) else bif Nat.beq k 35 then (u 22) else bif Nat.beq k 36 then (u 23) else bif Nat.beq k 37 then (u 24) else bif Nat.beq k 38 then (u 25) else bif Nat.beq k 39 then (u 26) else bif Nat.beq k 40 then (u 27) else bif Nat.beq k 45 then (u 28) else bif Nat.beq k 46 then (u 29) else bif Nat.beq k 50 then (u 30) else bif Nat.beq k 51 then (u 31) else bif Nat.beq k 52 then (u 32) else bif Nat.beq k 55 then (u 33) else bif Nat.beq k 56 then (u 34) else bif Nat.beq k 59 then (u 35) else 0
/-- the state of a new reference before its first calls -/
def mM0 : mS := (fun k => bif Nat.beq k 0 then (upd (upd (upd (upd (fun _ => 0) (0 : Int32).toNatClampNeg 10) (1 : Int32).toNatClampNeg 12) (2 : Int32).toNatClampNeg 14) (3 : Int32).toNatClampNeg 7) else bif Nat.beq k 1 then (upd (upd (upd (upd (fun _ => 0) (0 : Int32).toNatClampNeg 14) (1 : Int32).toNatClampNeg 16) (2 : Int32).toNatClampNeg 19) (3 : Int32).toNatClampNeg 9) else bif Nat.beq k 2 then (upd (upd (upd (upd (fun _ => 0) (0 : Int32).toNatClampNeg 1) (1 : Int32).toNatClampNeg 1) (2 : Int32).toNatClampNeg 1) (3 : Int32).toNatClampNeg 1) else bif Nat.beq k 4 then (fun _ => 0) else bif Nat.beq k 5 then (fun _ => 0) else bif Nat.beq k 6 then (fun _ => 0) else bif Nat.beq k 7 then (fun _ => 0) else bif Nat.beq k 8 then (fun _ => 0) else bif Nat.beq k 9 then (fun _ => 0) else bif Nat.beq k 11 then (fun _ => 0) else bif Nat.beq k 12 then (fun _ => 0) else bif Nat.beq k 13 then (fun _ => 0) else bif Nat.beq k 15 then (fun _ => 0) else bif Nat.beq k 16 then (fun _ => 0) else bif Nat.beq k 17 then (fun _ => 0) else bif Nat.beq k 19 then (fun _ => 0) else bif Nat.beq k 20 then (fun _ => 0) else bif Nat.beq k 21 then (fun _ => 1) else bif Nat.beq k 23 then (fun _ => (-1)) else bif Nat.beq k 29 then (fun _ => 0) else bif Nat.beq k 30 then (fun _ => 0) else bif Nat.beq k 31 then (fun _ => 0) else bif Nat.beq k 32 then (fun _ => 0) else bif Nat.beq k 33 then (fun _ => 0) else bif Nat.beq k 34 then (fun _ => 0) else bif Nat.beq k 35 then (fun _ => 0) else bif Nat.beq k 36 then (fun _ => 0) else bif Nat.beq k 37 then (upd (upd (upd (upd (fun _ => 0) (0 : Int32).toNatClampNeg (-1)) (1 : Int32).toNatClampNeg (-1)) (2 : Int32).toNatClampNeg (-1)) (3 : Int32).toNatClampNeg (-1)) else bif Nat.beq k 38 then (fun _ => 0) else bif Nat.beq k 39 then (fun _ => 0) else bif Nat.beq k 45 then (fun _ => 0) else bif Nat.beq k 49 then (fun _ => 0) else bif Nat.beq k 50 then (fun _ => 0) else bif Nat.beq k 51 then (fun _ => 0) else bif Nat.beq k 54 then (fun _ => 0) else bif Nat.beq k 55 then (fun _ => 0) else bif Nat.beq k 58 then (fun _ => 0) else (fun _ => 0), fun k => bif Nat.beq k 44 then (vp_updL (vp_updL (vp_updL (vp_updL (vp_updL (vp_updL (vp_updL (vp_updL (vp_updL (vp_updL (vp_updL (vp_updL (fun _ => 0) (0 : Int32).toNatClampNeg 1818848101) (1 : Int32).toNatClampNeg 482955846501) (2 : Int32).toNatClampNeg 1668248436) (3 : Int32).toNatClampNeg 508440638821) (4 : Int32).toNatClampNeg 1751738216) (5 : Int32).toNatClampNeg 7499639) (6 : Int32).toNatClampNeg 482854658917) (7 : Int32).toNatClampNeg 1919513445) (8 : Int32).toNatClampNeg 1936683636) (9 : Int32).toNatClampNeg 28530) (10 : Int32).toNatClampNeg 6385252) (11 : Int32).toNatClampNeg 7237492) else (fun _ => 0))
set_option maxHeartbeats 4000000 in
set_option maxRecDepth 100000 in
theorem mcL_W (g : xG) (h0 : Nat) (u : Nat → Nat) : mcL g h0 u = mW (mgX g (mRho h0 u)) mM0 := rfl
set_option maxHeartbeats 4000000 in
set_option maxRecDepth 100000 in
theorem ci_X12 (l : Launch) (g : xG) (h0 N : Nat) (M1 M2 M3 : mS) (hf1 : mf_first N mM0 0 0 0 100002 18 = some M1) (hf2 : mf_first N M1 4 2 17 1 100003 = some M2) (hf3 : mf_first N M2 8 18 4 16 0 = some M3) : eMv l yX12_init cX12_init 1 3 36 3307 [.ref h0] g [(h0, .inr (12, [.null, .null, .null, .int 0, .null, .null, .null, .null, .null, .null, .int 0, .null, .null, .null, .int 0, .null, .null, .null, .int 0, .null, .null, .int 0, .int 0, .int 0, .int 0, .int 0, .int 0, .int 0, .int 0, .null, .null, .null, .null, .null, .null, .null, .null, .null, .null, .null, .int 0, .int 0, .int 0, .int 0, .null, .null, .int 0, .int 0, .int 0, .null, .null, .null, .int 0, .long 0, .null, .null, .int 0, .int 0, .null]))] (fun u => mW (mgX g (mRho h0 u)) (ms (ms (ms M3 20 1 1) 20 2 6) 20 3 11)) := by
  refine eMv_of (own := RX12) (by decide) rfl rfl (Nat.le_of_ble_eq_true rfl) ?_
  intro p e R s m args below meth c Q X A H0 H locs ls hc hR hRc hml hin hw hl hQ
  have hl : lv_has ls 1 [(0, .ref h0)] := hl
  have hx := hc.1
  have hb := hc.2.1
  refine we_X12 h0 hc hR (by decide) hRc hml hin hw hl (fun u H locs ls hw hl => ?_)
  rw [mcL_W] at hw
  refine lv_aload_n hx hb dX12_init_446 rfl (lv_at hl 0 rfl) ?_
  refine lv_iconst (v := 0) hx hb dX12_init_447 (by decide) ?_
  refine lv_iconst (v := 0) hx hb dX12_init_448 (by decide) ?_
  refine lv_iconst (v := 0) hx hb dX12_init_449 (by decide) ?_
  refine lv_ldc (v := 100002) hx hb hc.2.2.1 (hc.2.2.2 _ (mem_g 1141 (by decide +kernel) rfl)) dX12_init_450 ?_
  refine lv_bipush (v := 18) hx hb dX12_init_452 (by decide) ?_
  refine e_mcvv (As := [.int 0, .int 0, .int 0, .int 100002, .int 18]) (rest := []) hc hw hR (hml.trans hl.1.symm) (cm_first l N mM0 0 0 0 100002 18 M1 hf1) (⟨⟨(mem_g 1142 (by decide +kernel) rfl), (mem_g 1144 (by decide +kernel) rfl), (mem_g 33 (by decide +kernel) rfl), (mem_g 89 (by decide +kernel) rfl), (mem_g 1145 (by decide +kernel) rfl)⟩, by decide, by decide +kernel, by decide⟩ : qCv RX12 151 yX12_first cX12_first 6 none 5) rfl (by decide) rfl rfl rfl (Nat.le_of_ble_eq_true rfl) dX12_init_454 (fun H locs hw => ?_) ⟨by have := hRc.1; omega, by have := hRc.2; omega⟩
  refine lv_aload_n hx hb dX12_init_457 rfl (lv_at hl 0 rfl) ?_
  refine lv_iconst (v := 4) hx hb dX12_init_458 (by decide) ?_
  refine lv_iconst (v := 2) hx hb dX12_init_459 (by decide) ?_
  refine lv_bipush (v := 17) hx hb dX12_init_460 (by decide) ?_
  refine lv_iconst (v := 1) hx hb dX12_init_462 (by decide) ?_
  refine lv_ldc (v := 100003) hx hb hc.2.2.1 (hc.2.2.2 _ (mem_g 1146 (by decide +kernel) rfl)) dX12_init_463 ?_
  refine e_mcvv (As := [.int 4, .int 2, .int 17, .int 1, .int 100003]) (rest := []) hc hw hR (hml.trans hl.1.symm) (cm_first l N M1 4 2 17 1 100003 M2 hf2) (⟨⟨(mem_g 1142 (by decide +kernel) rfl), (mem_g 1144 (by decide +kernel) rfl), (mem_g 33 (by decide +kernel) rfl), (mem_g 89 (by decide +kernel) rfl), (mem_g 1145 (by decide +kernel) rfl)⟩, by decide, by decide +kernel, by decide⟩ : qCv RX12 151 yX12_first cX12_first 6 none 5) rfl (by decide) rfl rfl rfl (Nat.le_of_ble_eq_true rfl) dX12_init_465 (fun H locs hw => ?_) ⟨by have := hRc.1; omega, by have := hRc.2; omega⟩
  refine lv_aload_n hx hb dX12_init_468 rfl (lv_at hl 0 rfl) ?_
  refine lv_bipush (v := 8) hx hb dX12_init_469 (by decide) ?_
  refine lv_bipush (v := 18) hx hb dX12_init_471 (by decide) ?_
  refine lv_iconst (v := 4) hx hb dX12_init_473 (by decide) ?_
  refine lv_bipush (v := 16) hx hb dX12_init_474 (by decide) ?_
  refine lv_iconst (v := 0) hx hb dX12_init_476 (by decide) ?_
  refine e_mcvv (As := [.int 8, .int 18, .int 4, .int 16, .int 0]) (rest := []) hc hw hR (hml.trans hl.1.symm) (cm_first l N M2 8 18 4 16 0 M3 hf3) (⟨⟨(mem_g 1142 (by decide +kernel) rfl), (mem_g 1144 (by decide +kernel) rfl), (mem_g 33 (by decide +kernel) rfl), (mem_g 89 (by decide +kernel) rfl), (mem_g 1145 (by decide +kernel) rfl)⟩, by decide, by decide +kernel, by decide⟩ : qCv RX12 151 yX12_first cX12_first 6 none 5) rfl (by decide) rfl rfl rfl (Nat.le_of_ble_eq_true rfl) dX12_init_477 (fun H locs hw => ?_) ⟨by have := hRc.1; omega, by have := hRc.2; omega⟩
  refine lv_aload_n hx hb dX12_init_480 rfl (lv_at hl 0 rfl) ?_
  refine e_get (ref := "OverTheHeadsModel") (C := RX12) (T := TX12) (N := 59) hc hw inG12 0 rfl rfl 20 (by decide) (mem_g 1167 (by decide +kernel) rfl) (fun _ h => h) rfl dX12_init_481 ?_
  refine lv_iconst (v := 1) hx hb dX12_init_484 (by decide) ?_
  refine lv_iconst (v := 1) hx hb dX12_init_485 (by decide) ?_
  refine e_iast (L1 := mW (mgX g (mRho h0 u)) (ms M3 20 1 1)) hc hw 17 rfl (ok_in (by decide)) rfl dX12_init_486 (fun H locs hw => ?_)
  refine lv_aload_n hx hb dX12_init_487 rfl (lv_at hl 0 rfl) ?_
  refine e_get (ref := "OverTheHeadsModel") (C := RX12) (T := TX12) (N := 59) hc hw inG12 0 rfl rfl 20 (by decide) (mem_g 1167 (by decide +kernel) rfl) (fun _ h => h) rfl dX12_init_488 ?_
  refine lv_iconst (v := 2) hx hb dX12_init_491 (by decide) ?_
  refine lv_bipush (v := 6) hx hb dX12_init_492 (by decide) ?_
  refine e_iast (L1 := mW (mgX g (mRho h0 u)) (ms (ms M3 20 1 1) 20 2 6)) hc hw 17 rfl (ok_in (by decide)) rfl dX12_init_494 (fun H locs hw => ?_)
  refine lv_aload_n hx hb dX12_init_495 rfl (lv_at hl 0 rfl) ?_
  refine e_get (ref := "OverTheHeadsModel") (C := RX12) (T := TX12) (N := 59) hc hw inG12 0 rfl rfl 20 (by decide) (mem_g 1167 (by decide +kernel) rfl) (fun _ h => h) rfl dX12_init_496 ?_
  refine lv_iconst (v := 3) hx hb dX12_init_499 (by decide) ?_
  refine lv_bipush (v := 11) hx hb dX12_init_500 (by decide) ?_
  refine e_iast (L1 := mW (mgX g (mRho h0 u)) (ms (ms (ms M3 20 1 1) 20 2 6) 20 3 11)) hc hw 17 rfl (ok_in (by decide)) rfl dX12_init_502 (fun H locs hw => ?_)
  exact hQ u _ _ _ _ dX12_init_503 hw
