/-- what a new row's object holds, by its kind -/
def nrAside (k m : Int32) : Int32 := if k = 1 then 0 + 1 else if k = 3 then (0 + 1) + (m - m / 10 * 10) else 0
def nrAbove (k m : Int32) : Int32 := if k = 2 then 0 + m else if k = 4 then (0 + m) + (2 * m) else 0
def nrFar (k n : Int32) : Int32 := if k = 3 then (10 + (10 * n)) - 3 else 10 + (10 * n)
def nrLow (k m : Int32) : Int32 := if k = 5 then 0 + m else 0
def nrAmong (k : Int32) : Int32 := if k = 4 then 0 else 1
def nrL (g : xG) (a u : Nat) (k n s m : Int32) : va_W := [(a, .inr (xci k, [.int k, .int n, .int s, .ref u, .int 0, .int 0, .int (nrAside k m), .int (nrAbove k m), .int (nrFar k n), .int (nrLow k m), .int (nrAmong k)])), (u, .inl (xc g 0, 8, .inl (fun _ => 0)))]
def eMr (l : Launch) (y : MethodName) (bytes : ByteArray) (maxL d mc ms : Nat) (ty : FieldType) (avs : List Value) (g : xG) (X : va_W) (L1 : Nat → (Nat → Nat) → va_W) : Prop := ∀ (sz : Nat), Met l y (Cond.code y bytes maxL (some ty) :: lw_g) { frames := d, cells := mc, slots := ms, locals := 40 * d } (va_Pc avs (fun U => U.heap.size = sz ∧ va_P g.1 vwCl X U.heap ∧ va_K g.1 vwCl (xT g) U ∧ va_D (fun _ => True) X ∧ xE g (va_A X sz) U)) (va_Qr (fun (_ : Nat → Nat) => True) (fun u a t => va_P g.1 vwCl (X ++ L1 a u) t.heap ∧ va_K g.1 vwCl (xT g) t ∧ va_D (va_A X sz) (X ++ L1 a u)) (va_A X sz)) mc ms (va_A X sz)
theorem eMr_of {l : Launch} {y : MethodName} {own : String} {cc : ByteArray} {n d mc ms : Nat} {ty : FieldType} {avs : List Value} {g : xG} {X : va_W} {L1 : Nat → (Nat → Nat) → va_W} (hy : plainName y.cls = true) (ho : y.cls = own) (hty : (∃ n, ty = .object n) ∨ ∃ t, ty = .array t) (hav : (lg_sl avs).length ≤ n)
    (body : ∀ (p : Program) (e : Env) (R : Room) (s : State) (m : MethodId) (args : Array Value) (below : List Frame) (meth : Method) (c : Code) (Q : State → Prop) (A : Nat → Prop) (H0 H : Heap) (locs : List Loc) (ls : Array Slot), qC own cc p s m args c → qRoom R d → mc ≤ R.cells ∧ ms ≤ R.slots → c.maxLocals = n → xJ g A H0 s X H locs → lv_has ls n (lv_args 0 avs) →
      (∀ (a : Nat) (u : Nat → Nat) (H : Heap) (locs : List Loc) (pc : Nat) (ls : Array Slot), decode cc pc = .ok (.areturn, 1) → xJ g A H0 s (X ++ L1 a u) H locs → W p l e R s m args below meth c H locs mc ms Q (F0 m pc ls [.ref a])) → W p l e R s m args below meth c H locs 0 0 Q (F0 m 0 ls [])) : eMr l y cc n d mc ms ty avs g X L1 := by
  subst ho
  intro sz
  refine Met.ofW (cc := cc) (maxL := n) (ret := some ty) hy rfl ?_
  intro p e s m args below meth c s₁ B hml hv
  obtain ⟨rfl, hsz, hP, hK, hD0, hE⟩ := hv
  have hts := atoms_spec (ws := Cond.code y cc n (some ty) :: lw_g) B.pre
  have hown : s.vm.findClass y.cls = some m.cls := findClass_of_methodNamed B.named
  have hlocks := B.notSynchronized
  have hl := lv_entry avs (n := n) hav
  rw [lg_entry_eq]
  subst hsz
  refine body p e _ s m _ below meth c _ (va_A X s.heap.size) s.heap s.heap [] _ ⟨B.exec, B.bytes, hown, fun w hw => hts w (List.mem_cons_of_mem _ hw)⟩ ⟨Nat.le_refl _, Nat.le_refl _⟩ ⟨Nat.le_refl _, Nat.le_refl _⟩ hml ⟨hK, hP, hD0.self, va_S.rf, fun q h => Or.inr h, rfl, hE⟩ hl ?_
  intro a u H locs pc ls hd hw
  exact W.aret B.exec B.bytes B.returns hty (Or.inr ⟨a, rfl⟩) (fun t ht hW => ⟨⟨u, a, rfl, trivial, by rw [ht]; exact hw.2.1, va_K.moved hW.alike hw.1, hw.2.2.1⟩, hw.2.2.2.1.F ht⟩) hw.2.2.2.1.2.2 hd
section ER
variable {p : Program} {l : Launch} {e : Env} {R : Room} {s : State} {m : MethodId} {args : Array Value} {below : List Frame} {meth : Method} {c : Code} {H : Heap} {locs : List Loc} {cells slots : Nat} {Q : State → Prop} {cc : ByteArray} {pc : Nat} {ls : Array Slot} {rest : List Value} {g : xG} {X : va_W} {A : Nat → Prop} {H0 : Heap} {own : String} {idx : Nat}
variable {y : MethodName} {bytes : ByteArray} {maxL d db k mc ms : Nat} {ty : FieldType} {avs As st : List Value} {L1 : Nat → (Nat → Nat) → va_W}
theorem e_csr (hc : qC own cc p s m args c) (hw : xJ g A H0 s X H locs) (hR : qRoom R d) (hml : c.maxLocals = ls.size) (hM : eMr l y bytes maxL db mc ms ty avs g X L1) (hq : qCs own idx y bytes maxL (some ty) k) (hlt : db + 1 ≤ d) (hk : As.length = k) (hav : avs = As) (hst : st = As.reverse ++ rest) (hrm : (rest.map fun v => v.category).sum ≤ 8) (hd : decode cc pc = .ok (.invokestatic idx, 3)) (hcs : cells + mc ≤ R.cells ∧ slots + ms ≤ R.slots)
    (kk : ∀ (a : Nat) (u : Nat → Nat) (H1 : Heap) (locs1 : List Loc), xJ g A H0 s (X ++ L1 a u) H1 locs1 → W p l e R s m args below meth c H1 locs1 (cells + mc) (slots + ms) Q (F0 m (pc + 3) ls (.ref a :: rest))) : W p l e R s m args below meth c H locs cells slots Q (F0 m pc ls st) := by
  subst hst
  subst hav
  have hrm2 := m_room hR hlt hq.2.2.2
  have hpre : PreS s H (va_Pc avs (fun U => U.heap.size = H.size ∧ va_P g.1 vwCl X U.heap ∧ va_K g.1 vwCl (xT g) U ∧ va_D (fun _ => True) X ∧ xE g (va_A X H.size) U)) avs := by
    refine ⟨fun a U g2 mk q => ?_, fun U hU hW => ?_⟩
    · obtain ⟨q0, q1, qP, qK, qD, qE⟩ := q
      exact ⟨q0, q1, qP, va_K.moved (u := U) (U := U.calling g2 mk a) (Vm.Alike.refl U.vm) qK, qD, xE_same (u := U) (U := U.calling g2 mk a) rfl rfl qE⟩
    · have h0 := hw.2.2.2.2.2.1
      exact ⟨rfl, by rw [hU], by rw [hU]; exact hw.2.1, va_K.moved hW.alike hw.1, hw.2.2.1.weaken (fun _ _ _ _ => trivial), xE_go (h0 ▸ hw.2.2.2.1) hW hU (va_A_in hw.2.2.1 hw.2.2.2.1 hw.2.2.2.2.1) hw.2.2.2.2.2.2⟩
  refine va_callr (va_runS (n := k) (As := avs) (rest := rest) ⟨hc.1, hc.2.1, hml, hc.2.2.1, hc.2.2.2⟩ (hM H.size) ⟨callB_of k hc.2.2.2 (gd_ws hq.1.2.2.2) rfl rfl rfl (hc.2.2.2 _ hq.1.2.2.1) (hc.2.2.2 _ hq.1.1) ⟨hq.2.1.1, hq.2.1.2, hq.2.2.1⟩ hrm2, hc.2.2.2 _ hq.1.2.1⟩ hpre rfl hk rfl rfl (lv_room hrm) hd hcs) hw.2.2.2.1 (fun q _ h => va_A_in hw.2.2.1 hw.2.2.2.1 hw.2.2.2.2.1 q h) (va_A_in hw.2.2.1 hw.2.2.2.1 hw.2.2.2.2.1) (fun u a t H1 locs1 ht hvm hr2 hB hz1 hk1 hS => ?_)
  exact kk a u H1 locs1 ⟨hw.1, by rw [← ht]; exact hB.1, hB.2.2.weaken (fun _ q _ h => va_A_in hw.2.2.1 hw.2.2.2.1 hw.2.2.2.2.1 q.1 h), hS, hw.2.2.2.2⟩
end ER
set_option maxHeartbeats 4000000 in
set_option maxRecDepth 100000 in
theorem cx_newRow (l : Launch) (g : xG) (X : va_W) (k n s2 m2 : Int32) : eMr l yX11_newRow cX11_newRow 4 4 2 19 (.object "OverTheHeads$Row") [.int k, .int n, .int s2, .int m2] g X (fun a u => nrL g a (u 0) k n s2 m2) := by
  refine eMr_of (own := RX11) (by decide) rfl (Or.inl ⟨_, rfl⟩) (Nat.le_of_ble_eq_true rfl) ?_
  intro p e R s m args below meth c Q A H0 H locs ls hc hR hRc hml hw hl hQ
  have hl : lv_has ls 4 [(0, .int k), (1, .int n), (2, .int s2), (3, .int m2)] := hl
  have hx := hc.1
  have hb := hc.2.1
  refine lv_iload_n hx hb dX11_newRow_0 rfl (lv_at hl 0 rfl) ?_
  by_cases cn1 : k = 1
  · subst cn1
    refine lv_tableIn (tgt := 36) (off := 35) hx hb dX11_newRow_1 (by decide) (by decide) (by decide) (by decide) ?_
    refine e_new hc hw inG9 tyX9 tyX9_ok (mem_g 540 (by decide +kernel) rfl) (mem_g 541 (by decide +kernel) rfl) (mem_g 91 (by decide +kernel) rfl) (ci := 9) rfl (fs := [.int 0, .int 0, .int 0, .null, .int 0, .int 0, .int 0, .int 0, .int 0, .int 0, .int 0]) (fun j hj => by rcases (show j = 0 ∨ j = 1 ∨ j = 2 ∨ j = 3 ∨ j = 4 ∨ j = 5 ∨ j = 6 ∨ j = 7 ∨ j = 8 ∨ j = 9 ∨ j = 10 by omega) with rfl | rfl | rfl | rfl | rfl | rfl | rfl | rfl | rfl | rfl | rfl <;> rfl) (by have := hRc.1; omega) (by have := hRc.2; omega) dX11_newRow_36 (fun q H hw => ?_)
    refine lv_dup hx hb dX11_newRow_39 rfl ?_
    refine lv_iload_n hx hb dX11_newRow_40 rfl (lv_at hl 0 rfl) ?_
    refine lv_iload_n hx hb dX11_newRow_41 rfl (lv_at hl 1 rfl) ?_
    refine lv_iload_n hx hb dX11_newRow_42 rfl (lv_at hl 2 rfl) ?_
    refine e_cvi (As := [.int 1, .int n, .int s2]) (rest := [.ref q]) hc hw hR (hml.trans hl.1.symm) (ci_X9 l g q 1 n s2) (⟨⟨(mem_g 542 (by decide +kernel) rfl), (mem_g 543 (by decide +kernel) rfl), (mem_g 91 (by decide +kernel) rfl), (mem_g 544 (by decide +kernel) rfl)⟩, rfl, by decide, by decide +kernel, by decide⟩ : qCi RX11 126 yX9_init cX9_init 4 3) (by decide) rfl rfl rfl (Nat.le_of_ble_eq_true rfl) dX11_newRow_43 ⟨by have := hRc.1; omega, by have := hRc.2; omega⟩ (fun u H locs hw => ?_)
    exact hQ q u _ _ _ _ dX11_newRow_46 hw
  by_cases cn2 : k = 2
  · subst cn2
    refine lv_tableIn (tgt := 47) (off := 46) hx hb dX11_newRow_1 (by decide) (by decide) (by decide) (by decide) ?_
    refine e_new hc hw inG6 tyX6 tyX6_ok (mem_g 615 (by decide +kernel) rfl) (mem_g 616 (by decide +kernel) rfl) (mem_g 92 (by decide +kernel) rfl) (ci := 6) rfl (fs := [.int 0, .int 0, .int 0, .null, .int 0, .int 0, .int 0, .int 0, .int 0, .int 0, .int 0]) (fun j hj => by rcases (show j = 0 ∨ j = 1 ∨ j = 2 ∨ j = 3 ∨ j = 4 ∨ j = 5 ∨ j = 6 ∨ j = 7 ∨ j = 8 ∨ j = 9 ∨ j = 10 by omega) with rfl | rfl | rfl | rfl | rfl | rfl | rfl | rfl | rfl | rfl | rfl <;> rfl) (by have := hRc.1; omega) (by have := hRc.2; omega) dX11_newRow_47 (fun q H hw => ?_)
    refine lv_dup hx hb dX11_newRow_50 rfl ?_
    refine lv_iload_n hx hb dX11_newRow_51 rfl (lv_at hl 0 rfl) ?_
    refine lv_iload_n hx hb dX11_newRow_52 rfl (lv_at hl 1 rfl) ?_
    refine lv_iload_n hx hb dX11_newRow_53 rfl (lv_at hl 2 rfl) ?_
    refine lv_iload_n hx hb dX11_newRow_54 rfl (lv_at hl 3 rfl) ?_
    refine e_cvi (As := [.int 2, .int n, .int s2, .int m2]) (rest := [.ref q]) hc hw hR (hml.trans hl.1.symm) (ci_X6 l g q 2 n s2 m2) (⟨⟨(mem_g 617 (by decide +kernel) rfl), (mem_g 618 (by decide +kernel) rfl), (mem_g 92 (by decide +kernel) rfl), (mem_g 619 (by decide +kernel) rfl)⟩, rfl, by decide, by decide +kernel, by decide⟩ : qCi RX11 131 yX6_init cX6_init 5 4) (by decide) rfl rfl rfl (Nat.le_of_ble_eq_true rfl) dX11_newRow_55 ⟨by have := hRc.1; omega, by have := hRc.2; omega⟩ (fun u H locs hw => ?_)
    exact hQ q u _ _ _ _ dX11_newRow_58 hw
  by_cases cn3 : k = 3
  · subst cn3
    refine lv_tableIn (tgt := 59) (off := 58) hx hb dX11_newRow_1 (by decide) (by decide) (by decide) (by decide) ?_
    refine e_new hc hw inG3 tyX3 tyX3_ok (mem_g 633 (by decide +kernel) rfl) (mem_g 634 (by decide +kernel) rfl) (mem_g 93 (by decide +kernel) rfl) (ci := 3) rfl (fs := [.int 0, .int 0, .int 0, .null, .int 0, .int 0, .int 0, .int 0, .int 0, .int 0, .int 0]) (fun j hj => by rcases (show j = 0 ∨ j = 1 ∨ j = 2 ∨ j = 3 ∨ j = 4 ∨ j = 5 ∨ j = 6 ∨ j = 7 ∨ j = 8 ∨ j = 9 ∨ j = 10 by omega) with rfl | rfl | rfl | rfl | rfl | rfl | rfl | rfl | rfl | rfl | rfl <;> rfl) (by have := hRc.1; omega) (by have := hRc.2; omega) dX11_newRow_59 (fun q H hw => ?_)
    refine lv_dup hx hb dX11_newRow_62 rfl ?_
    refine lv_iload_n hx hb dX11_newRow_63 rfl (lv_at hl 0 rfl) ?_
    refine lv_iload_n hx hb dX11_newRow_64 rfl (lv_at hl 1 rfl) ?_
    refine lv_iload_n hx hb dX11_newRow_65 rfl (lv_at hl 2 rfl) ?_
    refine lv_iload_n hx hb dX11_newRow_66 rfl (lv_at hl 3 rfl) ?_
    refine e_cvi (As := [.int 3, .int n, .int s2, .int m2]) (rest := [.ref q]) hc hw hR (hml.trans hl.1.symm) (ci_X3 l g q 3 n s2 m2) (⟨⟨(mem_g 635 (by decide +kernel) rfl), (mem_g 636 (by decide +kernel) rfl), (mem_g 93 (by decide +kernel) rfl), (mem_g 637 (by decide +kernel) rfl)⟩, rfl, by decide, by decide +kernel, by decide⟩ : qCi RX11 136 yX3_init cX3_init 5 4) (by decide) rfl rfl rfl (Nat.le_of_ble_eq_true rfl) dX11_newRow_67 ⟨by have := hRc.1; omega, by have := hRc.2; omega⟩ (fun u H locs hw => ?_)
    exact hQ q u _ _ _ _ dX11_newRow_70 hw
  by_cases cn4 : k = 4
  · subst cn4
    refine lv_tableIn (tgt := 71) (off := 70) hx hb dX11_newRow_1 (by decide) (by decide) (by decide) (by decide) ?_
    refine e_new hc hw inG0 tyX0 tyX0_ok (mem_g 651 (by decide +kernel) rfl) (mem_g 652 (by decide +kernel) rfl) (mem_g 94 (by decide +kernel) rfl) (ci := 0) rfl (fs := [.int 0, .int 0, .int 0, .null, .int 0, .int 0, .int 0, .int 0, .int 0, .int 0, .int 0]) (fun j hj => by rcases (show j = 0 ∨ j = 1 ∨ j = 2 ∨ j = 3 ∨ j = 4 ∨ j = 5 ∨ j = 6 ∨ j = 7 ∨ j = 8 ∨ j = 9 ∨ j = 10 by omega) with rfl | rfl | rfl | rfl | rfl | rfl | rfl | rfl | rfl | rfl | rfl <;> rfl) (by have := hRc.1; omega) (by have := hRc.2; omega) dX11_newRow_71 (fun q H hw => ?_)
    refine lv_dup hx hb dX11_newRow_74 rfl ?_
    refine lv_iload_n hx hb dX11_newRow_75 rfl (lv_at hl 0 rfl) ?_
    refine lv_iload_n hx hb dX11_newRow_76 rfl (lv_at hl 1 rfl) ?_
    refine lv_iload_n hx hb dX11_newRow_77 rfl (lv_at hl 2 rfl) ?_
    refine lv_iload_n hx hb dX11_newRow_78 rfl (lv_at hl 3 rfl) ?_
    refine e_cvi (As := [.int 4, .int n, .int s2, .int m2]) (rest := [.ref q]) hc hw hR (hml.trans hl.1.symm) (ci_X0 l g q 4 n s2 m2) (⟨⟨(mem_g 653 (by decide +kernel) rfl), (mem_g 654 (by decide +kernel) rfl), (mem_g 94 (by decide +kernel) rfl), (mem_g 655 (by decide +kernel) rfl)⟩, rfl, by decide, by decide +kernel, by decide⟩ : qCi RX11 139 yX0_init cX0_init 5 4) (by decide) rfl rfl rfl (Nat.le_of_ble_eq_true rfl) dX11_newRow_79 ⟨by have := hRc.1; omega, by have := hRc.2; omega⟩ (fun u H locs hw => ?_)
    exact hQ q u _ _ _ _ dX11_newRow_82 hw
  by_cases cn5 : k = 5
  · subst cn5
    refine lv_tableIn (tgt := 83) (off := 82) hx hb dX11_newRow_1 (by decide) (by decide) (by decide) (by decide) ?_
    refine e_new hc hw inG5 tyX5 tyX5_ok (mem_g 669 (by decide +kernel) rfl) (mem_g 670 (by decide +kernel) rfl) (mem_g 95 (by decide +kernel) rfl) (ci := 5) rfl (fs := [.int 0, .int 0, .int 0, .null, .int 0, .int 0, .int 0, .int 0, .int 0, .int 0, .int 0]) (fun j hj => by rcases (show j = 0 ∨ j = 1 ∨ j = 2 ∨ j = 3 ∨ j = 4 ∨ j = 5 ∨ j = 6 ∨ j = 7 ∨ j = 8 ∨ j = 9 ∨ j = 10 by omega) with rfl | rfl | rfl | rfl | rfl | rfl | rfl | rfl | rfl | rfl | rfl <;> rfl) (by have := hRc.1; omega) (by have := hRc.2; omega) dX11_newRow_83 (fun q H hw => ?_)
    refine lv_dup hx hb dX11_newRow_86 rfl ?_
    refine lv_iload_n hx hb dX11_newRow_87 rfl (lv_at hl 0 rfl) ?_
    refine lv_iload_n hx hb dX11_newRow_88 rfl (lv_at hl 1 rfl) ?_
    refine lv_iload_n hx hb dX11_newRow_89 rfl (lv_at hl 2 rfl) ?_
    refine lv_iload_n hx hb dX11_newRow_90 rfl (lv_at hl 3 rfl) ?_
    refine e_cvi (As := [.int 5, .int n, .int s2, .int m2]) (rest := [.ref q]) hc hw hR (hml.trans hl.1.symm) (ci_X5 l g q 5 n s2 m2) (⟨⟨(mem_g 671 (by decide +kernel) rfl), (mem_g 672 (by decide +kernel) rfl), (mem_g 95 (by decide +kernel) rfl), (mem_g 673 (by decide +kernel) rfl)⟩, rfl, by decide, by decide +kernel, by decide⟩ : qCi RX11 142 yX5_init cX5_init 5 4) (by decide) rfl rfl rfl (Nat.le_of_ble_eq_true rfl) dX11_newRow_91 ⟨by have := hRc.1; omega, by have := hRc.2; omega⟩ (fun u H locs hw => ?_)
    exact hQ q u _ _ _ _ dX11_newRow_94 hw
  refine lv_tableOut (tgt := 95) hx hb dX11_newRow_1 (by have h1 := sw_ne cn1 (k := 1) (by decide); have h2 := sw_ne cn2 (k := 2) (by decide); have h3 := sw_ne cn3 (k := 3) (by decide); have h4 := sw_ne cn4 (k := 4) (by decide); have h5 := sw_ne cn5 (k := 5) (by decide); omega) (by decide) ?_
  refine e_new hc hw inG8 tyX8 tyX8_ok (mem_g 687 (by decide +kernel) rfl) (mem_g 688 (by decide +kernel) rfl) (mem_g 90 (by decide +kernel) rfl) (ci := 8) rfl (fs := [.int 0, .int 0, .int 0, .null, .int 0, .int 0, .int 0, .int 0, .int 0, .int 0, .int 0]) (fun j hj => by rcases (show j = 0 ∨ j = 1 ∨ j = 2 ∨ j = 3 ∨ j = 4 ∨ j = 5 ∨ j = 6 ∨ j = 7 ∨ j = 8 ∨ j = 9 ∨ j = 10 by omega) with rfl | rfl | rfl | rfl | rfl | rfl | rfl | rfl | rfl | rfl | rfl <;> rfl) (by have := hRc.1; omega) (by have := hRc.2; omega) dX11_newRow_95 (fun q H hw => ?_)
  refine lv_dup hx hb dX11_newRow_98 rfl ?_
  refine lv_iload_n hx hb dX11_newRow_99 rfl (lv_at hl 0 rfl) ?_
  refine lv_iload_n hx hb dX11_newRow_100 rfl (lv_at hl 1 rfl) ?_
  refine lv_iload_n hx hb dX11_newRow_101 rfl (lv_at hl 2 rfl) ?_
  refine e_cvi (As := [.int k, .int n, .int s2]) (rest := [.ref q]) hc hw hR (hml.trans hl.1.symm) (ci_X8 l g q k n s2) (⟨⟨(mem_g 689 (by decide +kernel) rfl), (mem_g 546 (by decide +kernel) rfl), (mem_g 90 (by decide +kernel) rfl), (mem_g 547 (by decide +kernel) rfl)⟩, rfl, by decide, by decide +kernel, by decide⟩ : qCi RX11 145 yX8_init cX8_init 4 3) (by decide) rfl rfl rfl (Nat.le_of_ble_eq_true rfl) dX11_newRow_102 ⟨by have := hRc.1; omega, by have := hRc.2; omega⟩ (fun u H locs hw => ?_)
  have e9 : nrL g q (u 0) k n s2 m2 = [(q, .inr (8, [.int k, .int n, .int s2, .ref (u 0), .int 0, .int 0, .int 0, .int 0, .int (10 + (10 * n)), .int 0, .int 1])), (u 0, .inl (xc g 0, 8, .inl (fun _ => 0)))] := by simp only [nrL, xci, nrAside, nrAbove, nrFar, nrLow, nrAmong, if_neg cn1, if_neg cn2, if_neg cn3, if_neg cn4, if_neg cn5]
  exact hQ q u _ _ _ _ dX11_newRow_105 (by rw [e9]; exact hw)
