theorem fl_11_32 : Cond.fieldLink RX11 32 "OverTheHeads" "reader" "LOverTheHeads$Reader;" ∈ lw_g := mem_g 483 (by decide +kernel) rfl
theorem fl_11_215 : Cond.fieldLink RX11 215 "OverTheHeads$Reader" "fault" "I" ∈ lw_g := mem_g 277 (by decide +kernel) rfl
theorem xq_11_R_read : qCv RX11 88 yX7_read cX7_read 4 (some (.object "OverTheHeads$Text")) 2 := ⟨⟨(mem_g 366 (by decide +kernel) rfl), (mem_g 367 (by decide +kernel) rfl), (mem_g 368 (by decide +kernel) rfl), (mem_g 81 (by decide +kernel) rfl), (mem_g 369 (by decide +kernel) rfl)⟩, by decide, by decide +kernel, by decide⟩
section XT
variable {p : Program} {l : Launch} {e : Env} {R : Room} {s : State} {m : MethodId} {args : Array Value} {below : List Frame} {meth : Method} {c : Code} {H : Heap} {locs : List Loc} {cells slots : Nat} {Q : State → Prop} {cc : ByteArray} {pc : Nat} {ls : Array Slot} {rest : List Value} {g : xG} {S S1 : xS} {A : Nat → Prop} {H0 : Heap} {L : va_W}
variable {y : MethodName} {bytes : ByteArray} {maxL d db idx k mc ms : Nat} {ty : FieldType} {avs : xG → List Value} {As st : List Value} {own : String} {b : Nat}
theorem x_cvt {r : Int32} (hc : qC own cc p s m args c) (hw : xI g A H0 s S H locs) (hR : qRoom R d) (hml : c.maxLocals = ls.size) (hM : xMt l y bytes maxL ty db mc ms avs S r S1) (hq : qCv own idx y bytes maxL (some ty) k) (hrec : xRecv s H y.cls b) (hlt : db + 1 ≤ d) (hk : As.length = k) (hav : avs g = .ref b :: As) (hst : st = As.reverse ++ .ref b :: rest) (hrm : (rest.map fun v => v.category).sum ≤ 8) (hd : decode cc pc = .ok (.invokevirtual idx, 3))
    (kk : ∀ (w : Nat × Nat × Nat × Nat) (H1 : Heap) (locs1 : List Loc), xJ g A H0 s (xW g S1 ++ txR g S1 r w) H1 locs1 → W p l e R s m args below meth c H1 locs1 (cells + mc) (slots + ms) Q (F0 m (pc + 3) ls (va_rf (txo r w) :: rest))) (hcs : cells + mc ≤ R.cells ∧ slots + ms ≤ R.slots) : W p l e R s m args below meth c H locs cells slots Q (F0 m pc ls st) := by
  subst hst
  have hrm2 := m_room hR hlt hq.2.2.2
  refine va_callq (va_runV (C := y.cls) (n := k) (As := As) (rest := rest) ⟨hc.1, hc.2.1, hml, hc.2.2.1, hc.2.2.2⟩ (hM g H.size) (cwV k hc.2.2.2 (gd_V hq) rfl rfl rfl ⟨rfl, hq.2.1.1, hq.2.1.2, hq.2.2.1⟩ hrm2) ⟨xPc_blind g avs S H.size, hrec, xPc_go hw hav⟩ rfl hk rfl rfl (lv_room hrm) hd hcs) hw.2.2.2.1 (fun q _ h => va_A_in hw.2.2.1 hw.2.2.2.1 hw.2.2.2.2.1 q h) (va_A_in hw.2.2.1 hw.2.2.2.1 hw.2.2.2.2.1) (fun r2 u t H1 locs1 ht hvm hr2 hB hz1 hk1 hS => ?_)
  subst hr2
  exact kk u H1 locs1 ⟨hw.1, by rw [← ht]; exact hB.1, hB.2.2.weaken (fun _ q _ h => va_A_in hw.2.2.1 hw.2.2.2.1 hw.2.2.2.2.1 q.1 h), hS, hw.2.2.2.2⟩
theorem e_p_tapeSize (hc : qC own cc p s m args c) (hw : xJ g A H0 s (xW g S ++ L) H locs) (hlink : Cond.fieldLink own idx "OverTheHeads" "tapeSize" "I" ∈ lw_g) {x : Int32} (hdg : decode cc pc = .ok (.putfield idx, 3)) (kk : ∀ (H1 : Heap) (locs1 : List Loc), xJ g A H0 s (xW g (xs S 2 0 x) ++ L) H1 locs1 → W p l e R s m args below meth c H1 locs1 cells slots Q (F0 m (pc + 3) ls rest)) : W p l e R s m args below meth c H locs cells slots Q (F0 m pc ls (.int x :: .ref (xr g 0) :: rest)) := by
  have hset : (xW g S ++ L).set 0 (xr g 0, .inr (11, (xO_this g S).set 7 (.int x))) = xW g (xs S 2 0 x) ++ L := by
    rw [List.set_append_left _ _ (by unfold xW; rw [List.length_append, xA_len]; omega)]
    rw [show (xW g S).set 0 (xr g 0, .inr (11, (xO_this g S).set 7 (.int x))) = xW g (xs S 2 0 x) from xW_setA (by decide) (rfl) (xs_R (by decide)) (xs_T (by decide))]
  exact va_put (own := own) (ref := "OverTheHeads") (C := RX11) (T := TX11) (N := 14) (ci := 11) hc.1 hc.2.1 hc.2.2.2 inG11 tyX11 tyX11_ok nmX11 hc.2.2.1 hw.1 hw.2.1 hw.2.2.1 hw.2.2.2.1 0 ((List.getElem?_append_left (by unfold xW; rw [List.length_append, xA_len]; omega)).trans ((xW_A (by decide)).trans rfl)) rfl 7 (by decide) (hc.2.2.2 _ hlink) (fun _ h => h) rfl (ty := .int) (by decide +kernel) rfl rfl (Nat.le_of_ble_eq_true rfl) hdg (fun H1 locs1 hP hD hS1 => kk H1 locs1 ⟨hw.1, hset ▸ hP, hset ▸ hD, hS1, hw.2.2.2.2⟩)
theorem x_text_in {h a b2 u : Nat} {i : Int32} (hc : qC own cc p s m args c) (hw : xJ g A H0 s (xW g S ++ txL g S (S.1 48 0).toNatClampNeg h a b2 u) H locs) (hr : S.2.2.1 ≤ 6) (ht : S.2.2.2 < 6) (hq : S.1 19 0 < 0 ∨ (S.1 19 0).toNatClampNeg < S.2.2.2) (hh : S.1 24 0 < 0 ∨ (S.1 24 0).toNatClampNeg < S.2.2.1) (hi : i.toNatClampNeg = S.2.2.2) (hin : vp_in i 6) (hd : decode cc pc = .ok (.aastore, 1))
    (kk : ∀ (H1 : Heap) (locs1 : List Loc), xI (xgX g S.2.2.2 h a b2 u) A H0 s (xTextNew S) H1 locs1 → W p l e R s m args below meth c H1 locs1 cells slots Q (F0 m (pc + 1) ls rest)) : W p l e R s m args below meth c H locs cells slots Q (F0 m pc ls (.ref h :: .int i :: .ref (xr g 30) :: rest)) := by
  have ha : (xW g S ++ txL g S (S.1 48 0).toNatClampNeg h a b2 u)[30]? = some (xr g 30, .inl (xc g 4, 6, .inr (.inr (.inr (.inr (fun j => if j < S.2.2.2 then some (xr g (200 + 4 * j)) else none)))))) := (List.getElem?_append_left (by unfold xW; rw [List.length_append, xA_len]; omega)).trans ((xW_A (by decide)).trans rfl)
  have hv : (xW g S ++ txL g S (S.1 48 0).toNatClampNeg h a b2 u)[(xW g S).length + 2]? = some (h, .inr (10, [.ref a, .ref b2, .ref u])) := by rw [ap_get]; rfl
  have hk : ∀ (H1 : Heap) (locs1 : List Loc), va_P g.1 vwCl ((xW g S ++ txL g S (S.1 48 0).toNatClampNeg h a b2 u).set 30 (xr g 30, .inl (xc g 4, 6, .inr (.inr (.inr (.inr (va_up (fun j => if j < S.2.2.2 then some (xr g (200 + 4 * j)) else none) i.toNatClampNeg (some h)))))))) H1 → va_D A ((xW g S ++ txL g S (S.1 48 0).toNatClampNeg h a b2 u).set 30 (xr g 30, .inl (xc g 4, 6, .inr (.inr (.inr (.inr (va_up (fun j => if j < S.2.2.2 then some (xr g (200 + 4 * j)) else none) i.toNatClampNeg (some h)))))))) → va_S A H0 H1 locs1 → W p l e R s m args below meth c H1 locs1 cells slots Q (F0 m (pc + 1) ls rest) := by
    rw [hi]
    intro H1 locs1 h1 h2 h3
    exact kk H1 locs1 (xJ_text hr ht hq hh ⟨hw.1, h1, h2, h3, hw.2.2.2.2⟩)
  exact va_astq hc.1 hc.2.1 hw.1 hw.2.1 hw.2.2.1 hw.2.2.2.1 30 4 _ 10 (r := (RX10, TX10, 3)) ha rfl hv rfl hin hd hk
end XT
def txok (S : xS) : Bool := ok (S.1 48 0) 161 && (ok (S.1 0 0) 6 && (decide ((S.1 0 0).toNatClampNeg = S.2.2.2) && (decide (S.2.2.1 ≤ 6) && ((decide (S.1 19 0 < 0) || decide ((S.1 19 0).toNatClampNeg < S.2.2.2)) && (decide (S.1 24 0 < 0) || decide ((S.1 24 0).toNatClampNeg < S.2.2.1))))))
/-- the class's state after a text is laid down -/
def xTextIn (S : xS) : xS := xs (xTextNew (xs S 2 0 0)) 0 0 ((xTextNew (xs S 2 0 0)).1 0 0 + 1)
def xf_X_text (N : Nat) (S : xS) : Option (Int32 × xS) := if S.1 0 0 < 6 then (bd2 (xf_R_read N S (S.1 2 0)) fun r S1 => if r = 1 then (if txok S1 = true then some ((xTextIn S1).1 0 0 - 1, xTextIn S1) else none) else (if r = 0 then some ((-100) - S1.1 38 0, xs S1 2 0 0) else none)) else some (-4, S)
set_option maxRecDepth 100000 in
theorem cx_X_text (l : Launch) (N : Nat) (S : xS) (res : Int32) (S1 : xS) (hf : xf_X_text N S = some (res, S1)) : xMix l yX11_text cX11_text 2 .int 115 4 198 (fun g => [.ref (xr g 0)]) S res S1 := by
  refine xMix_of (own := RX11) (by decide) rfl rfl (fun g => Nat.le_of_ble_eq_true rfl) ?_
  intro p e R s m args below meth c Q g A H0 H locs ls hc hR hRc hml hw hl hQ
  have hl : lv_has ls 2 [(0, .ref (xr g 0))] := hl
  have hx := hc.1
  have hb := hc.2.1
  unfold xf_X_text at hf
  refine lv_aload_n hx hb dX11_text_0 rfl (lv_at hl 0 rfl) ?_
  refine x_g_this_textCount hc hw fl_11_40 dX11_text_1 ?_
  refine lv_bipush (v := 6) hx hb dX11_text_4 (by decide) ?_
  refine lv_icmp_lt (tgt := 12) hx hb dX11_text_6 (by decide) (fun cn4 => ?_) (fun cn4 => ?_)
  · have hf := (if_pos cn4).symm.trans hf
    obtain ⟨r, S2, hread, hf⟩ := bd2_some hf
    refine lv_aload_n hx hb dX11_text_12 rfl (lv_at hl 0 rfl) ?_
    refine x_g_this_reader hc hw fl_11_32 dX11_text_13 ?_
    refine lv_aload_n hx hb dX11_text_16 rfl (lv_at hl 0 rfl) ?_
    refine x_g_this_tape hc hw fl_11_36 dX11_text_17 ?_
    refine lv_aload_n hx hb dX11_text_20 rfl (lv_at hl 0 rfl) ?_
    refine x_g_this_tapeSize hc hw fl_11_47 dX11_text_21 ?_
    by_cases h1 : r = 1
    · have hfa := (if_pos h1).symm.trans hf
      clear hf
      obtain ⟨hok, hfb⟩ := gd_some hfa
      subst h1
      obtain ⟨rfl, rfl⟩ := pr2_some hfb
      obtain ⟨hst, hok⟩ := Bool.and_eq_true_iff.mp hok
      obtain ⟨hct, hok⟩ := Bool.and_eq_true_iff.mp hok
      obtain ⟨hnt, hok⟩ := Bool.and_eq_true_iff.mp hok
      obtain ⟨hnr, hok⟩ := Bool.and_eq_true_iff.mp hok
      obtain ⟨hlaw, hhat⟩ := Bool.and_eq_true_iff.mp hok
      have hnt : (S2.1 0 0).toNatClampNeg = S2.2.2.2 := of_decide_eq_true hnt
      have hnr : S2.2.2.1 ≤ 6 := of_decide_eq_true hnr
      have hlaw : S2.1 19 0 < 0 ∨ (S2.1 19 0).toNatClampNeg < S2.2.2.2 := (Bool.or_eq_true_iff.mp hlaw).imp of_decide_eq_true of_decide_eq_true
      have hhat : S2.1 24 0 < 0 ∨ (S2.1 24 0).toNatClampNeg < S2.2.2.1 := (Bool.or_eq_true_iff.mp hhat).imp of_decide_eq_true of_decide_eq_true
      have hnt6 : S2.2.2.2 < 6 := hnt ▸ ok_nat hct
      refine x_cvt (As := [.ref (xr g 10), .int (S.1 2 0)]) (rest := []) hc hw hR (hml.trans hl.1.symm) (cx_R_read l N S (S.1 2 0) 1 S2 hread (Or.inl ⟨rfl, hst⟩)) xq_11_R_read (x_recv_reader hw) (by decide) rfl rfl rfl (Nat.le_of_ble_eq_true rfl) dX11_text_24 (fun w H locs hw => ?_) ⟨by have := hRc.1; omega, by have := hRc.2; omega⟩
      have e1 : txR g S2 1 w = txL g S2 (S2.1 48 0).toNatClampNeg w.1 w.2.1 w.2.2.1 w.2.2.2 := if_pos rfl
      rw [e1] at hw
      refine W.eq (g2 := F0 m 27 ls [.ref w.1]) rfl ?_
      refine lv_astore_n (lv' := [(1, .ref w.1), (0, .ref (xr g 0))]) hx hb dX11_text_27 rfl hl (by decide) rfl (fun ls hl => ?_)
      refine lv_aload_n hx hb dX11_text_28 rfl (lv_at hl 1 rfl) ?_
      refine lv_iconst (v := 0) hx hb dX11_text_29 (by decide) ?_
      refine e_p_tapeSize hc hw fl_11_47 dX11_text_30 (fun H locs hw => ?_)
      refine lv_aload_n hx hb dX11_text_33 rfl (lv_at hl 0 rfl) ?_
      refine lv_ifnonnull (tgt := 48) hx hb dX11_text_34 (by decide) ?_
      refine lv_aload_n hx hb dX11_text_48 rfl (lv_at hl 1 rfl) ?_
      refine x_g_this_texts hc (xJ_I (xJ_pre hw)) fl_11_25 dX11_text_49 ?_
      refine lv_aload_n hx hb dX11_text_52 rfl (lv_at hl 1 rfl) ?_
      refine x_g_this_textCount hc (xJ_I (xJ_pre hw)) fl_11_40 dX11_text_53 ?_
      refine lv_aload_n hx hb dX11_text_56 rfl (lv_at hl 0 rfl) ?_
      refine x_text_in (S := xs S2 2 0 0) (i := (xs S2 2 0 0).1 0 0) hc hw hnr hnt6 hlaw hhat hnt (ok_in hct) dX11_text_57 (fun H locs hw => ?_)
      have e0 : xr (xgX g (xs S2 2 0 0).2.2.2 w.1 w.2.1 w.2.2.1 w.2.2.2) 0 = xr g 0 := xr_X (by omega)
      rw [← e0] at hl
      refine lv_aload_n hx hb dX11_text_58 rfl (lv_at hl 1 rfl) ?_
      refine lv_dup hx hb dX11_text_59 rfl ?_
      refine x_g_this_textCount hc hw fl_11_40 dX11_text_60 ?_
      refine lv_iconst (v := 1) hx hb dX11_text_63 (by decide) ?_
      refine lv_iadd hx hb dX11_text_64 ?_
      refine x_p_this_textCount hc hw fl_11_40 dX11_text_65 (fun H locs hw => ?_)
      refine lv_aload_n hx hb dX11_text_68 rfl (lv_at hl 1 rfl) ?_
      refine x_g_this_textCount hc hw fl_11_40 dX11_text_69 ?_
      refine lv_iconst (v := 1) hx hb dX11_text_72 (by decide) ?_
      refine lv_isub hx hb dX11_text_73 ?_
      exact W.widen (by omega) (by omega) (hQ _ H locs _ _ dX11_text_74 (xgT_X g _ _ _ _ hnt6) hw)
    · have hfa := (if_neg h1).symm.trans hf
      clear hf
      obtain ⟨h0, hfb⟩ := gd_some hfa
      subst h0
      obtain ⟨rfl, rfl⟩ := pr2_some hfb
      refine x_cvt (As := [.ref (xr g 10), .int (S.1 2 0)]) (rest := []) hc hw hR (hml.trans hl.1.symm) (cx_R_read l N S (S.1 2 0) 0 S2 hread (Or.inr rfl)) xq_11_R_read (x_recv_reader hw) (by decide) rfl rfl rfl (Nat.le_of_ble_eq_true rfl) dX11_text_24 (fun w H locs hw => ?_) ⟨by have := hRc.1; omega, by have := hRc.2; omega⟩
      have hw := xJ_I (xJ_pre hw)
      refine W.eq (g2 := F0 m 27 ls [.null]) rfl ?_
      refine lv_astore_nN (lv' := [(1, .null), (0, .ref (xr g 0))]) hx hb dX11_text_27 rfl hl (by decide) rfl (fun ls hl => ?_)
      refine lv_aload_n hx hb dX11_text_28 rfl (lv_at hl 1 rfl) ?_
      refine lv_iconst (v := 0) hx hb dX11_text_29 (by decide) ?_
      refine x_p_this_tapeSize hc hw fl_11_47 dX11_text_30 (fun H locs hw => ?_)
      refine lv_aload_nN hx hb dX11_text_33 rfl (lv_at hl 0 rfl) ?_
      refine lv_ifnonnullN hx hb dX11_text_34 ?_
      refine lv_bipush (v := (-100)) hx hb dX11_text_37 (by decide) ?_
      refine lv_aload_n hx hb dX11_text_39 rfl (lv_at hl 1 rfl) ?_
      refine x_g_this_reader hc hw fl_11_32 dX11_text_40 ?_
      refine x_g_reader_fault hc hw fl_11_215 dX11_text_43 ?_
      refine lv_isub hx hb dX11_text_46 ?_
      exact W.widen (by omega) (by omega) (hQ g H locs _ _ dX11_text_47 (xgT_rf g) hw)
  · have hf := (if_neg cn4).symm.trans hf
    refine lv_bipush (v := (-4)) hx hb dX11_text_9 (by decide) ?_
    obtain ⟨rfl, rfl⟩ := pr2_some hf
    exact W.widen (Nat.zero_le _) (Nat.zero_le _) (hQ g H locs _ _ dX11_text_11 (xgT_rf g) hw)
