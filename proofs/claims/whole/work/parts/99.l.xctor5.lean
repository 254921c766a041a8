section XCTOR5
theorem xgS.symm {g g2 : xG} (h : xgS g g2) : xgS g2 g := ⟨h.1.symm, h.2.1.symm, fun k hk => (h.2.2 k hk).symm⟩
theorem xW_e (g : xG) (F : Nat → Nat → Int32) : xW g (F, xS0.2) = xA g (F, xS0.2) := List.append_nil _
set_option maxHeartbeats 16000000 in
set_option maxRecDepth 100000 in
theorem we_X11d {p : Program} {l : Launch} {e : Env} {R : Room} {s : State} {m : MethodId} {args : Array Value} {below : List Frame} {meth : Method} {c : Code} {Q : State → Prop} {cells slots : Nat} {g g2 : xG} {A : Nat → Prop} {H0 H : Heap} {locs : List Loc} {ls : Array Slot} {F : Nat → Nat → Int32} (h a b u : Nat) (hg : g = xgX g2 0 h a b u) (hc : qC RX11 cX11_init p s m args c) (hml : c.maxLocals = 2) (hw : xJ g A H0 s ([] ++ (xA g (F, xS0.2) ++ txL g2 (F, xS0.2) (F 48 0).toNatClampNeg h a b u)) H locs) (hl : lv_has ls 2 [(0, .ref (xr g 0))])
    (hQ : ∀ (H : Heap) (locs : List Loc) (ls : Array Slot), xJ g A H0 s ([] ++ (xA g (xFin (F, xS0.2)) ++ txL g2 (F, xS0.2) (F 48 0).toNatClampNeg h a b u)) H locs → W p l e R s m args below meth c H locs cells slots Q (F0 m 207 ls [])) : W p l e R s m args below meth c H locs cells slots Q (F0 m 181 ls [.ref h, .ref (xr g 1)]) := by
  have hx := hc.1
  have hb := hc.2.1
  have eL : xtv g 0 = .ref h := by
    subst hg
    unfold xtv
    rw [if_neg (by decide)]
    exact congrArg Value.ref xr_X0
  have eL1 : xtv g ((xs (F, xS0.2) 19 0 0).1 19 0) = .ref h := eL
  have eL2 : xtv g ((xs (xs (F, xS0.2) 19 0 0) 2 0 0).1 19 0) = .ref h := eL
  have h200 : xr g 200 = h := by
    subst hg
    exact xr_X0
  generalize hLL : txL g2 (F, xS0.2) (F 48 0).toNatClampNeg h a b u = LL at hw hQ
  have hset1 : (xA g (F, xS0.2) ++ LL).set 1 (xr g 1, .inr (1, (xO_hall g (F, xS0.2)).set 12 (.ref h))) = xA g (xs (F, xS0.2) 19 0 0) ++ LL := by
    rw [← eL1]
    rfl
  refine e_put (X := []) (L := xA g (F, xS0.2) ++ LL) (L1 := xA g (xs (F, xS0.2) 19 0 0) ++ LL) (ref := "OverTheHeads$Hall") (C := RX1) (T := TX1) (N := 20) (ci := 1) (fs := xO_hall g (F, xS0.2)) hc hw inG1 tyX1 tyX1_ok nmX1 1 rfl rfl 12 (by decide) fl_11_92 (fun _ h => h) rfl (ty := .object "OverTheHeads$Text") (by decide +kernel) rfl rfl (Nat.le_of_ble_eq_true rfl) hset1 dX11_init_181 (fun H locs hw => ?_)
  refine lv_aload_n hx hb dX11_init_184 rfl (lv_at hl 0 rfl) ?_
  refine lv_iconst (v := 0) hx hb dX11_init_185 (by decide) ?_
  refine e_put (X := []) (L := xA g (xs (F, xS0.2) 19 0 0) ++ LL) (L1 := xA g (xs (xs (F, xS0.2) 19 0 0) 2 0 0) ++ LL) (ref := "OverTheHeads") (C := RX11) (T := TX11) (N := 14) (ci := 11) (fs := xO_this g (xs (F, xS0.2) 19 0 0)) hc hw inG11 tyX11 tyX11_ok nmX11 0 rfl rfl 7 (by decide) fl_11_47 (fun _ h => h) rfl (ty := .int) (by decide +kernel) rfl rfl (Nat.le_of_ble_eq_true rfl) rfl dX11_init_186 (fun H locs hw => ?_)
  refine lv_aload_n hx hb dX11_init_189 rfl (lv_at hl 0 rfl) ?_
  refine e_get (X := []) (ref := "OverTheHeads") (C := RX11) (T := TX11) (N := 14) (ci := 11) (fs := xO_this g (xs (xs (F, xS0.2) 19 0 0) 2 0 0)) hc hw inG11 0 rfl rfl 2 (by decide) fl_11_25 (fun _ h => h) (v := .ref (xr g 30)) rfl dX11_init_190 ?_
  refine lv_iconst (v := 0) hx hb dX11_init_193 (by decide) ?_
  refine lv_aload_n hx hb dX11_init_194 rfl (lv_at hl 0 rfl) ?_
  refine e_get (X := []) (ref := "OverTheHeads") (C := RX11) (T := TX11) (N := 14) (ci := 11) (fs := xO_this g (xs (xs (F, xS0.2) 19 0 0) 2 0 0)) hc hw inG11 0 rfl rfl 0 (by decide) fl_11_10 (fun _ h => h) (v := .ref (xr g 1)) rfl dX11_init_195 ?_
  refine e_get (X := []) (ref := "OverTheHeads$Hall") (C := RX1) (T := TX1) (N := 20) (ci := 1) (fs := xO_hall g (xs (xs (F, xS0.2) 19 0 0) 2 0 0)) hc hw inG1 1 rfl rfl 12 (by decide) fl_11_92 (fun _ h => h) (v := .ref h) (congrArg some eL2) dX11_init_198 ?_
  have hup : va_up (fun j => if j < (xs (xs (F, xS0.2) 19 0 0) 2 0 0).2.2.2 then some (xr g (200 + 4 * j)) else none) (0 : Int32).toNatClampNeg (some h) = fun j => if j < (xTextNew (xs (xs (F, xS0.2) 19 0 0) 2 0 0)).2.2.2 then some (xr g (200 + 4 * j)) else none := funext fun j => by
    show (if j = 0 then some h else if j < 0 then some (xr g (200 + 4 * j)) else none) = if j < 0 + 1 then some (xr g (200 + 4 * j)) else none
    by_cases hj : j = 0
    · rw [if_pos hj, if_pos (by omega), hj]
      exact congrArg some h200.symm
    · rw [if_neg hj, if_neg (by omega), if_neg (by omega)]
  have hset3 : (xA g (xs (xs (F, xS0.2) 19 0 0) 2 0 0) ++ LL).set 30 (xr g 30, .inl (xc g 4, 6, .inr (.inr (.inr (.inr (va_up (fun j => if j < (xs (xs (F, xS0.2) 19 0 0) 2 0 0).2.2.2 then some (xr g (200 + 4 * j)) else none) (0 : Int32).toNatClampNeg (some h))))))) = xA g (xTextNew (xs (xs (F, xS0.2) 19 0 0) 2 0 0)) ++ LL := by
    rw [hup]
    rfl
  have hv : ([] ++ (xA g (xs (xs (F, xS0.2) 19 0 0) 2 0 0) ++ LL))[38]? = some (h, .inr (10, [.ref a, .ref b, .ref u])) := by
    rw [← hLL]
    rfl
  refine va_astq hc.1 hc.2.1 hw.1 hw.2.1 hw.2.2.1 hw.2.2.2.1 30 4 _ 10 (r := (RX10, TX10, 3)) (show ([] ++ (xA g (xs (xs (F, xS0.2) 19 0 0) 2 0 0) ++ LL))[30]? = some (xr g 30, .inl (xc g 4, 6, .inr (.inr (.inr (.inr (fun j => if j < (xs (xs (F, xS0.2) 19 0 0) 2 0 0).2.2.2 then some (xr g (200 + 4 * j)) else none)))))) from rfl) rfl hv rfl (ok_in (by decide)) dX11_init_201 (fun H1 locs1 k1 k2 k3 => ?_)
  have hw : xJ g A H0 s ([] ++ (xA g (xTextNew (xs (xs (F, xS0.2) 19 0 0) 2 0 0)) ++ LL)) H1 locs1 := ⟨hw.1, hset3 ▸ k1, hset3 ▸ k2, k3, hw.2.2.2.2⟩
  refine lv_aload_n hx hb dX11_init_202 rfl (lv_at hl 0 rfl) ?_
  refine lv_iconst (v := 1) hx hb dX11_init_203 (by decide) ?_
  refine e_put (X := []) (L := xA g (xTextNew (xs (xs (F, xS0.2) 19 0 0) 2 0 0)) ++ LL) (L1 := xA g (xFin (F, xS0.2)) ++ LL) (ref := "OverTheHeads") (C := RX11) (T := TX11) (N := 14) (ci := 11) (fs := xO_this g (xTextNew (xs (xs (F, xS0.2) 19 0 0) 2 0 0))) hc hw inG11 tyX11 tyX11_ok nmX11 0 rfl rfl 5 (by decide) fl_11_40 (fun _ h => h) rfl (ty := .int) (by decide +kernel) rfl rfl (Nat.le_of_ble_eq_true rfl) rfl dX11_init_204 (fun H locs hw => ?_)
  exact hQ _ _ _ hw
set_option maxHeartbeats 16000000 in
set_option maxRecDepth 100000 in
theorem xFin_perm {g2 : xG} {F : Nat → Nat → Int32} (h a b u : Nat) : (xA (xgX g2 0 h a b u) (xFin (F, xS0.2)) ++ txL g2 (F, xS0.2) (F 48 0).toNatClampNeg h a b u).Perm (xW (xgX g2 0 h a b u) (xFin (F, xS0.2))) := by
  refine List.Perm.append_left _ ?_
  have e0 : (xr (xgX g2 0 h a b u) 200, xTc (xgX g2 0 h a b u) (xFin (F, xS0.2)) 0) = (h, .inr (10, [.ref a, .ref b, .ref u])) := rfl
  have e1 : (xr (xgX g2 0 h a b u) 201, xTc (xgX g2 0 h a b u) (xFin (F, xS0.2)) 1) = (a, .inl (xc g2 0, (F 48 0).toNatClampNeg, .inl (va_cpy (F 46) (fun _ => 0) 0 0 (F 48 0).toNatClampNeg))) := rfl
  have e2 : (xr (xgX g2 0 h a b u) 202, xTc (xgX g2 0 h a b u) (xFin (F, xS0.2)) 2) = (b, .inl (xc g2 0, 3, .inl (va_cpy (F 47) (fun _ => 0) 0 0 3))) := rfl
  have e3 : (xr (xgX g2 0 h a b u) 203, xTc (xgX g2 0 h a b u) (xFin (F, xS0.2)) 3) = (u, .inl (xc g2 0, 32, .inl (fun _ => 0))) := rfl
  have e : xRw (xgX g2 0 h a b u) (xFin (F, xS0.2)) ++ xTx (xgX g2 0 h a b u) (xFin (F, xS0.2)) = [(h, .inr (10, [.ref a, .ref b, .ref u])), (a, .inl (xc g2 0, (F 48 0).toNatClampNeg, .inl (va_cpy (F 46) (fun _ => 0) 0 0 (F 48 0).toNatClampNeg))), (b, .inl (xc g2 0, 3, .inl (va_cpy (F 47) (fun _ => 0) 0 0 3))), (u, .inl (xc g2 0, 32, .inl (fun _ => 0)))] := by
    show [] ++ [(xr (xgX g2 0 h a b u) 200, xTc (xgX g2 0 h a b u) (xFin (F, xS0.2)) 0), (xr (xgX g2 0 h a b u) 201, xTc (xgX g2 0 h a b u) (xFin (F, xS0.2)) 1), (xr (xgX g2 0 h a b u) 202, xTc (xgX g2 0 h a b u) (xFin (F, xS0.2)) 2), (xr (xgX g2 0 h a b u) 203, xTc (xgX g2 0 h a b u) (xFin (F, xS0.2)) 3)] = _
    rw [e0, e1, e2, e3]
    rfl
  rw [e]
  exact ((List.Perm.swap _ _ _).cons _).trans (List.Perm.swap _ _ _)
set_option maxHeartbeats 4000000 in
set_option maxRecDepth 100000 in
theorem ci_X11 (l : Launch) (g : xG) (h0 N : Nat) (S1 : xS) (hrd : xf_R_read N (lawS 59) 59 = some (1, S1)) (h48 : S1.1 48 0 = 11) (h19 : S1.1 19 0 = -1) (h24 : S1.1 24 0 = -1) (h2 : S1.2 = xS0.2) : eM0 l yX11_init cX11_init 2 116 39 1007 [.ref h0] g [(h0, .inr (11, [.null, .null, .null, .null, .null, .int 0, .int 0, .int 0, .null, .null, .null, .null, .null, .null]))] (fun u => xW (xg0 g (xnm h0 u)) (xFin S1)) := by
  obtain ⟨F, r⟩ := S1
  have h2 : r = xS0.2 := h2
  subst h2
  have hok : ok (((F, xS0.2) : xS).1 48 0) 161 = true := by
    show ok (F 48 0) 161 = true
    rw [show F 48 0 = 11 from h48]
    decide
  refine eM0_of (own := RX11) (by decide) rfl rfl (Nat.le_of_ble_eq_true rfl) ?_
  intro p e R s m args below meth c Q A H0 H locs ls hc hR hRc hml hin hw hl hQ
  have hl : lv_has ls 2 [(0, .ref h0)] := hl
  have hx := hc.1
  have hb := hc.2.1
  have r1 := hRc.1
  have r2 := hRc.2
  refine we_X11 (X := []) h0 hc hR (by omega) ⟨by omega, by omega⟩ hml hin hw hl (fun u H locs ls hw hl => ?_)
  refine we_X11c h0 u hc ⟨by omega, by omega⟩ hw (fun v H hw => ?_)
  refine we_X11b (X := []) h0 u v hc hR ⟨by omega, by omega⟩ hml hin hw hl (fun w H locs ls hw hl => ?_)
  have hw := xJ_gS (xgS_0 g (xN0 h0 u v w)) (xJ_perm (X := [] ++ xcM g h0 u v w) (xcM_perm g h0 u v w) hw)
  rw [← xcY_A] at hw
  have hw : xI (xg0 g (xN0 h0 u v w)) A H0 s (lawS 0) H locs := hw
  refine lv_iconst (v := 0) hx hb dX11_init_134 (by decide) ?_
  refine lv_istore_n (lv' := [(1, .int 0), (0, .ref h0)]) hx hb dX11_init_135 rfl hl (by decide) rfl (fun ls hl => ?_)
  refine wl_X11 hc hR (by omega) hml ⟨by omega, by omega⟩ 59 0 H locs ls rfl hw (lv_sub hl [1, 0] rfl) (fun H locs ls hw hl => ?_)
  refine lv_aload_n hx hb dX11_init_162 rfl (lv_at hl 0 rfl) ?_
  refine x_g_this_hall hc hw fl_11_10 dX11_init_163 ?_
  refine lv_aload_n hx hb dX11_init_166 rfl (lv_at hl 0 rfl) ?_
  refine x_g_this_reader hc hw fl_11_32 dX11_init_167 ?_
  refine lv_aload_n hx hb dX11_init_170 rfl (lv_at hl 0 rfl) ?_
  refine x_g_this_tape hc hw fl_11_36 dX11_init_171 ?_
  refine lv_aload_n hx hb dX11_init_174 rfl (lv_at hl 0 rfl) ?_
  refine x_g_this_tapeSize hc hw fl_11_47 dX11_init_175 ?_
  have e59 : (lawS 59).1 2 0 = 59 := (lawS_ok 59).1
  rw [e59]
  refine x_cvt (As := [.ref (xr (xg0 g (xN0 h0 u v w)) 10), .int 59]) (rest := [.ref (xr (xg0 g (xN0 h0 u v w)) 1)]) hc hw hR (hml.trans hl.1.symm) (cx_R_read l N (lawS 59) 59 1 (F, xS0.2) hrd (Or.inl ⟨rfl, hok⟩)) xq_11_R_read (x_recv_reader hw) (by omega) rfl rfl rfl (Nat.le_of_ble_eq_true rfl) dX11_init_178 (fun z H locs hw => ?_) ⟨by omega, by omega⟩
  obtain ⟨h, a, b, u2⟩ := z
  have e1 : txR (xg0 g (xN0 h0 u v w)) (F, xS0.2) 1 (h, a, b, u2) = txL (xg0 g (xN0 h0 u v w)) (F, xS0.2) (F 48 0).toNatClampNeg h a b u2 := if_pos rfl
  rw [e1, xW_e] at hw
  refine W.eq (g2 := F0 m 181 ls [.ref h, .ref (xr (xg0 g (xN0 h0 u v w)) 1)]) rfl ?_
  have hw := xJ_g (xgT_X (xg0 g (xN0 h0 u v w)) (t := 0) h a b u2 (by omega)) hw
  rw [← xA_X0 h a b u2 (show F 19 0 = -1 from h19) (show F 24 0 = -1 from h24)] at hw
  refine we_X11d (g := xgX (xg0 g (xN0 h0 u v w)) 0 h a b u2) (g2 := xg0 g (xN0 h0 u v w)) h a b u2 rfl hc hml hw hl (fun H locs ls hw => ?_)
  refine hQ (fun k => xr (xgX (xg0 g (xN0 h0 u v w)) 0 h a b u2) k) H locs _ _ dX11_init_207 ?_
  have hw := xJ_perm (X := [] ++ (xA (xgX (xg0 g (xN0 h0 u v w)) 0 h a b u2) (xFin (F, xS0.2)) ++ txL (xg0 g (xN0 h0 u v w)) (F, xS0.2) (F 48 0).toNatClampNeg h a b u2)) (xFin_perm h a b u2) hw
  rw [xg0_eq g h0 (xN0 h0 u v w) h a b u2 rfl]
  exact xJ_gS (xgS.symm (g := g) (g2 := xgX (xg0 g (xN0 h0 u v w)) 0 h a b u2) ⟨rfl, rfl, fun k hk => ((xgT_X (xg0 g (xN0 h0 u v w)) (t := 0) h a b u2 (by omega)).2.2 k (.inr hk)).trans ((xgS_0 g (xN0 h0 u v w)).2.2 k hk)⟩) hw
end XCTOR5
