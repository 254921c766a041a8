section WHOLESTART
set_option maxHeartbeats 16000000 in
set_option maxRecDepth 100000 in
theorem whole_start {p : Program} {e : Env} {s : State} {m : MethodId} {below : List Frame} {meth : Method} {c : Code} (l : Launch) (hflags : l.flags = flags0) {b L : Nat} {xs : Nat → Int32} (hL : L ≤ 384) (C0 : lw_At p s m meth c b L xs) : W p l e room_1 s m #[Value.ref b] below meth c s.heap [] 0 0 (lw_Z below #[Value.ref b] s) (entryFrame m ([Value.ref b] : List Value).toArray 4) := by
  obtain ⟨hx, hb, hr, hml, hown, hts, hX, hbl, hlocks, hgv⟩ := id C0
  have hc : qC R_law code p s m #[Value.ref b] c := ⟨hx, hb, hown, fun w hw => hts w (List.mem_filter.mp hw).1⟩
  obtain ⟨D, cs, hK⟩ := law_K hts
  obtain ⟨r, hE⟩ := law_E hts hgv
  obtain ⟨S1, hrd, hU, h48, he, q0, q1, q2⟩ := rd_first (N := 2000) (S := lawS 59) (Nat.le_refl _) (lawS_ok 59).2.1
  have h19 : S1.1 19 0 = -1 := (congrFun (hU.1 19 (by decide)) 0).trans (congrFun ((lawS_ok 59).2.2.1 19 (by decide) (by decide)) 0)
  have h24 : S1.1 24 0 = -1 := (congrFun (hU.1 24 (by decide)) 0).trans (congrFun ((lawS_ok 59).2.2.1 24 (by decide) (by decide)) 0)
  have h2 : S1.2 = xS0.2 := hU.2.trans (lawS_ok 59).2.2.2
  have hR0 : Rl (xFin S1) mFin := Rl_init hU h48 he q0 q1 q2
  have hw : xJ (D, cs, r) (fun q : Nat => s.heap.size ≤ q) s.heap s [] s.heap [] := ⟨hK, fun k q h => by simp at h, ⟨fun i j p q h => by simp at h, fun k q h => by simp at h⟩, va_S.rf, fun _ h => h, rfl, hE (D, cs, r) (fun _ _ => rfl)⟩
  have hl := lv_entry ([.ref b]) (n := 4) (Nat.le_of_ble_eq_true rfl)
  rw [lg_entry_eq]
  generalize (lg_sl ([.ref b]) ++ List.replicate (4 - (lg_sl ([.ref b])).length) Slot.unset).toArray = ls at hl ⊢
  have hl : lv_has ls 4 [(0, .ref b)] := hl
  refine e_new hc hw inG11 tyX11 tyX11_ok (mem_g 96 (by decide +kernel) rfl) (mem_g 97 (by decide +kernel) rfl) (mem_g 77 (by decide +kernel) rfl) (ci := 11) rfl (fs := [.null, .null, .null, .null, .null, .int 0, .int 0, .int 0, .null, .null, .null, .null, .null, .null]) (fun j hj => by rcases (show j = 0 ∨ j = 1 ∨ j = 2 ∨ j = 3 ∨ j = 4 ∨ j = 5 ∨ j = 6 ∨ j = 7 ∨ j = 8 ∨ j = 9 ∨ j = 10 ∨ j = 11 ∨ j = 12 ∨ j = 13 by omega) with rfl | rfl | rfl | rfl | rfl | rfl | rfl | rfl | rfl | rfl | rfl | rfl | rfl | rfl <;> rfl) (Nat.le_of_ble_eq_true rfl) (Nat.le_of_ble_eq_true rfl) dL_0 (fun h0 H hw => ?_)
  refine lv_dup hx hb dL_3 rfl ?_
  refine e_cv0 (As := []) (rest := [.ref h0]) hc hw law_room (hml.trans hl.1.symm) (ci_X11 l (D, cs, r) h0 2000 S1 hrd h48 h19 h24 h2) (⟨⟨(mem_g 98 (by decide +kernel) rfl), (mem_g 99 (by decide +kernel) rfl), (mem_g 77 (by decide +kernel) rfl), (mem_g 100 (by decide +kernel) rfl)⟩, rfl, by decide, by decide +kernel, by decide⟩ : qCi R_law 9 yX11_init cX11_init 2 0) (Nat.le_of_ble_eq_true rfl) rfl rfl rfl (Nat.le_of_ble_eq_true rfl) dL_4 ⟨Nat.le_of_ble_eq_true rfl, Nat.le_of_ble_eq_true rfl⟩ (fun u H locs hw => ?_)
  refine lv_astore_n (lv' := [(1, .ref h0), (0, .ref b)]) hx hb dL_7 rfl hl (by decide) rfl (fun ls hl => ?_)
  have hw := xJ_gS (xgS_0 (D, cs, r) (xnm h0 u)) hw
  have e0 : xr (xg0 (D, cs, r) (xnm h0 u)) 0 = h0 := rfl
  generalize xg0 (D, cs, r) (xnm h0 u) = g at hw e0
  refine e_new hc hw inG12 tyX12 tyX12_ok (mem_g 1123 (by decide +kernel) rfl) (mem_g 1124 (by decide +kernel) rfl) (mem_g 89 (by decide +kernel) rfl) (ci := 12) rfl (fs := [.null, .null, .null, .int 0, .null, .null, .null, .null, .null, .null, .int 0, .null, .null, .null, .int 0, .null, .null, .null, .int 0, .null, .null, .int 0, .int 0, .int 0, .int 0, .int 0, .int 0, .int 0, .int 0, .null, .null, .null, .null, .null, .null, .null, .null, .null, .null, .null, .int 0, .int 0, .int 0, .int 0, .null, .null, .int 0, .int 0, .int 0, .null, .null, .null, .int 0, .long 0, .null, .null, .int 0, .int 0, .null]) (fun j hj => by rcases (show j = 0 ∨ j = 1 ∨ j = 2 ∨ j = 3 ∨ j = 4 ∨ j = 5 ∨ j = 6 ∨ j = 7 ∨ j = 8 ∨ j = 9 ∨ j = 10 ∨ j = 11 ∨ j = 12 ∨ j = 13 ∨ j = 14 ∨ j = 15 ∨ j = 16 ∨ j = 17 ∨ j = 18 ∨ j = 19 ∨ j = 20 ∨ j = 21 ∨ j = 22 ∨ j = 23 ∨ j = 24 ∨ j = 25 ∨ j = 26 ∨ j = 27 ∨ j = 28 ∨ j = 29 ∨ j = 30 ∨ j = 31 ∨ j = 32 ∨ j = 33 ∨ j = 34 ∨ j = 35 ∨ j = 36 ∨ j = 37 ∨ j = 38 ∨ j = 39 ∨ j = 40 ∨ j = 41 ∨ j = 42 ∨ j = 43 ∨ j = 44 ∨ j = 45 ∨ j = 46 ∨ j = 47 ∨ j = 48 ∨ j = 49 ∨ j = 50 ∨ j = 51 ∨ j = 52 ∨ j = 53 ∨ j = 54 ∨ j = 55 ∨ j = 56 ∨ j = 57 ∨ j = 58 by omega) with rfl | rfl | rfl | rfl | rfl | rfl | rfl | rfl | rfl | rfl | rfl | rfl | rfl | rfl | rfl | rfl | rfl | rfl | rfl | rfl | rfl | rfl | rfl | rfl | rfl | rfl | rfl | rfl | rfl | rfl | rfl | rfl | rfl | rfl | rfl | rfl | rfl | rfl | rfl | rfl | rfl | rfl | rfl | rfl | rfl | rfl | rfl | rfl | rfl | rfl | rfl | rfl | rfl | rfl | rfl | rfl | rfl | rfl | rfl <;> rfl) (Nat.le_of_ble_eq_true rfl) (Nat.le_of_ble_eq_true rfl) dL_8 (fun h1 H hw => ?_)
  refine lv_dup hx hb dL_11 rfl ?_
  refine e_cvi (As := []) (rest := [.ref h1]) hc hw law_room (hml.trans hl.1.symm) (ci_X12 l g h1 2000 mF1 mF2 mF3 (mf_first1 _) (mf_first2 _) (mf_first3 _)) (⟨⟨(mem_g 1125 (by decide +kernel) rfl), (mem_g 1126 (by decide +kernel) rfl), (mem_g 89 (by decide +kernel) rfl), (mem_g 1127 (by decide +kernel) rfl)⟩, rfl, by decide, by decide +kernel, by decide⟩ : qCi R_law 12 yX12_init cX12_init 1 0) (Nat.le_of_ble_eq_true rfl) rfl rfl rfl (Nat.le_of_ble_eq_true rfl) dL_12 ⟨Nat.le_of_ble_eq_true rfl, Nat.le_of_ble_eq_true rfl⟩ (fun u2 H locs hw => ?_)
  refine lv_astore_n (lv' := [(2, .ref h1), (1, .ref h0), (0, .ref b)]) hx hb dL_15 rfl hl (by decide) rfl (fun ls hl => ?_)
  refine lv_iconst (v := 0) hx hb dL_16 (by decide) ?_
  refine lv_istore_n (lv' := [(3, .int 0), (2, .ref h1), (1, .ref h0), (0, .ref b)]) hx hb dL_17 rfl hl (by decide) rfl (fun ls hl => ?_)
  have hw : xJ g (fun q : Nat => s.heap.size ≤ q) s.heap s (xW g (xFin S1) ++ mW (mgX g (mRho h1 u2)) mFin) H locs := hw
  have hw := xJ_perm List.perm_append_comm hw
  have hl : lv_has ls 4 [(0, .ref b), (1, .ref (xr g 0)), (2, .ref (mRho h1 u2 0)), (3, .int (nI (6 * 0)))] := by rw [e0]; exact lv_sub hl [3, 2, 1, 0] rfl
  exact law_loop hc hr hlocks hml hX hbl hL 65 0 _ _ g (xFin S1) mFin H locs ls rfl (Nat.le_of_ble_eq_true rfl) (Nat.le_of_ble_eq_true rfl) hR0 hw hl
end WHOLESTART
