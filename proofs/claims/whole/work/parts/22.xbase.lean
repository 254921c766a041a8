/-! contracts over the class's world, and calls -/
theorem xE_same {g : xG} {A : Nat → Prop} {u U : State} (hv : u.vm = U.vm) (hh : U.heap = u.heap) (h : xE g A u) : xE g A U := by
  obtain ⟨h1, h2, h3, h4, h5, h6, h7, h8, h9, h10⟩ := h
  have ha : u.vm.Alike U.vm := by rw [hv]; exact Vm.Alike.refl _
  refine ⟨fun q hq => va_Nw.same rfl hv (h1 q hq), fun q hq => va_Nw.same rfl hv (h2 q hq), fun q hq => va_Nc.moved ha (h3 q hq), fun i q hq => vk_R.same hv.symm (h4 i q hq), ?_⟩
  rw [hh]
  exact ⟨h5.moved ha, h6.moved ha, h7.moved ha, h8.moved ha, h9.moved ha, h10.moved ha⟩
theorem xE_go {g : xG} {A B : Nat → Prop} {s U : State} {H : Heap} {locs : List Loc} (hS : va_S A s.heap H locs) (hW : s.WarmedH U.vm) (hU : U.heap = H) (hAB : ∀ q, B q → A q) (h : xE g A s) : xE g B U := by
  obtain ⟨h1, h2, h3, h4, h5, h6, h7, h8, h9, h10⟩ := h
  refine ⟨fun q hq => va_Nw.warmM hW (h1 q hq), fun q hq => va_Nw.warmC hW (h2 q hq), fun q hq => va_Nc.moved hW.alike (h3 q hq), fun i q hq => vk_R.warm hW (h4 i q hq), ?_⟩
  rw [hU]
  exact ⟨((h5.kept hS.2.1).moved hW.alike).narrow hAB, ((h6.kept hS.2.1).moved hW.alike).narrow hAB, ((h7.kept hS.2.1).moved hW.alike).narrow hAB, h8.moved hW.alike, h9.moved hW.alike, h10.moved hW.alike⟩
def xPc (g : xG) (avs : xG → List Value) (S : xS) (sz : Nat) : Array Value → State → Prop := va_Pc (avs g) (fun U => U.heap.size = sz ∧ va_P g.1 vwCl (xW g S) U.heap ∧ va_K g.1 vwCl (xT g) U ∧ va_D (fun _ => True) (xW g S) ∧ xE g (va_A (xW g S) sz) U)
def xB (g : xG) (S S1 : xS) (sz : Nat) : Unit → State → Prop := fun _ t => va_P g.1 vwCl (xW g S1) t.heap ∧ va_K g.1 vwCl (xT g) t ∧ va_D (va_A (xW g S) sz) (xW g S1)
def xMi (l : Launch) (y : MethodName) (bytes : ByteArray) (maxL : Nat) (ty : FieldType) (d : Nat) (avs : xG → List Value) (S : xS) (r : Int32) (S1 : xS) : Prop := ∀ (g : xG) (sz : Nat), Met l y (Cond.code y bytes maxL (some ty) :: lw_g) { frames := d, cells := 0, slots := 0, locals := 40 * d } (xPc g avs S sz) (va_Qi (fun x (_ : Unit) => x = r) (xB g S S1 sz) (va_A (xW g S) sz)) 0 0 (va_A (xW g S) sz)
def xMl (l : Launch) (y : MethodName) (bytes : ByteArray) (maxL : Nat) (d : Nat) (avs : xG → List Value) (S : xS) (r : Int64) (S1 : xS) : Prop := ∀ (g : xG) (sz : Nat), Met l y (Cond.code y bytes maxL (some .long) :: lw_g) { frames := d, cells := 0, slots := 0, locals := 40 * d } (xPc g avs S sz) (va_Ql (fun x (_ : Unit) => x = r) (xB g S S1 sz) (va_A (xW g S) sz)) 0 0 (va_A (xW g S) sz)
def xMv (l : Launch) (y : MethodName) (bytes : ByteArray) (maxL : Nat) (d : Nat) (avs : xG → List Value) (S : xS) (S1 : xS) : Prop := ∀ (g : xG) (sz : Nat), Met l y (Cond.code y bytes maxL none :: lw_g) { frames := d, cells := 0, slots := 0, locals := 40 * d } (xPc g avs S sz) (va_Qv (fun (_ : Unit) => True) (xB g S S1 sz) (va_A (xW g S) sz)) 0 0 (va_A (xW g S) sz)
/-- a row, or none -/
def xro (g : xG) (x : Int32) : Option Nat := if x < 0 then none else some (xr g (100 + 2 * x.toNatClampNeg))
def xMr (l : Launch) (y : MethodName) (bytes : ByteArray) (maxL : Nat) (ty : FieldType) (d : Nat) (avs : xG → List Value) (S : xS) (r : Int32) (S1 : xS) : Prop := ∀ (g : xG) (sz : Nat), Met l y (Cond.code y bytes maxL (some ty) :: lw_g) { frames := d, cells := 0, slots := 0, locals := 40 * d } (xPc g avs S sz) (va_Qq (fun x (_ : Unit) => x = xro g r) (xB g S S1 sz) (va_A (xW g S) sz)) 0 0 (va_A (xW g S) sz)
theorem xPc_blind (g : xG) (avs : xG → List Value) (S : xS) (sz : Nat) : FrameBlind (xPc g avs S sz) := fun a U g2 mk q => by
  obtain ⟨q0, q1, qP, qK, qD, qE⟩ := q
  exact ⟨q0, q1, qP, va_K.moved (u := U) (U := U.calling g2 mk a) (Vm.Alike.refl U.vm) qK, qD, xE_same (u := U) (U := U.calling g2 mk a) rfl rfl qE⟩
section XB
variable {p : Program} {l : Launch} {e : Env} {R : Room} {s : State} {m : MethodId} {args : Array Value} {below : List Frame} {meth : Method} {c : Code} {H : Heap} {locs : List Loc} {cells slots : Nat} {Q : State → Prop} {cc : ByteArray} {pc : Nat} {ls : Array Slot} {rest : List Value} {g : xG} {S S1 : xS} {A : Nat → Prop} {H0 : Heap}
def xQi (p : Program) (l : Launch) (e : Env) (R : Room) (s : State) (m : MethodId) (args : Array Value) (below : List Frame) (meth : Method) (c : Code) (cc : ByteArray) (Q : State → Prop) (g : xG) (A : Nat → Prop) (H0 : Heap) (r : Int32) (S1 : xS) : Prop := ∀ (H : Heap) (locs : List Loc) (pc : Nat) (ls : Array Slot), decode cc pc = .ok (.ireturn, 1) → xI g A H0 s S1 H locs → W p l e R s m args below meth c H locs 0 0 Q (F0 m pc ls [.int r])
def xQl (p : Program) (l : Launch) (e : Env) (R : Room) (s : State) (m : MethodId) (args : Array Value) (below : List Frame) (meth : Method) (c : Code) (cc : ByteArray) (Q : State → Prop) (g : xG) (A : Nat → Prop) (H0 : Heap) (r : Int64) (S1 : xS) : Prop := ∀ (H : Heap) (locs : List Loc) (pc : Nat) (ls : Array Slot), decode cc pc = .ok (.lreturn, 1) → xI g A H0 s S1 H locs → W p l e R s m args below meth c H locs 0 0 Q (F0 m pc ls [.long r])
def xQv (p : Program) (l : Launch) (e : Env) (R : Room) (s : State) (m : MethodId) (args : Array Value) (below : List Frame) (meth : Method) (c : Code) (cc : ByteArray) (Q : State → Prop) (g : xG) (A : Nat → Prop) (H0 : Heap) (S1 : xS) : Prop := ∀ (H : Heap) (locs : List Loc) (pc : Nat) (ls : Array Slot), decode cc pc = .ok (.return_, 1) → xI g A H0 s S1 H locs → W p l e R s m args below meth c H locs 0 0 Q (F0 m pc ls [])
def xQr (p : Program) (l : Launch) (e : Env) (R : Room) (s : State) (m : MethodId) (args : Array Value) (below : List Frame) (meth : Method) (c : Code) (cc : ByteArray) (Q : State → Prop) (g : xG) (A : Nat → Prop) (H0 : Heap) (r : Int32) (S1 : xS) : Prop := ∀ (H : Heap) (locs : List Loc) (pc : Nat) (ls : Array Slot), decode cc pc = .ok (.areturn, 1) → xI g A H0 s S1 H locs → W p l e R s m args below meth c H locs 0 0 Q (F0 m pc ls [xrv g r])
theorem xI_of_Pc {g : xG} {S : xS} {s : State} {sz : Nat} (hsz : s.heap.size = sz) (hP : va_P g.1 vwCl (xW g S) s.heap) (hK : va_K g.1 vwCl (xT g) s) (hD : va_D (fun _ => True) (xW g S)) (hE : xE g (va_A (xW g S) sz) s) : xI g (va_A (xW g S) sz) s.heap s S s.heap [] := by
  subst hsz
  exact ⟨hK, hP, hD.self, va_S.rf, fun q h => Or.inr h, rfl, hE⟩
theorem xMi_of {y : MethodName} {own : String} {n d : Nat} {ty : FieldType} {avs : xG → List Value} {r : Int32} (hy : plainName y.cls = true) (ho : y.cls = own) (hn : narrow ty (.int r) = .int r) (hav : ∀ g, (lg_sl (avs g)).length ≤ n)
    (body : ∀ (p : Program) (e : Env) (R : Room) (s : State) (m : MethodId) (args : Array Value) (below : List Frame) (meth : Method) (c : Code) (Q : State → Prop) (g : xG) (A : Nat → Prop) (H0 H : Heap) (locs : List Loc) (ls : Array Slot), qC own cc p s m args c → qRoom R d → c.maxLocals = n → xI g A H0 s S H locs → lv_has ls n (lv_args 0 (avs g)) → xQi p l e R s m args below meth c cc Q g A H0 r S1 → W p l e R s m args below meth c H locs 0 0 Q (F0 m 0 ls [])) : xMi l y cc n ty d avs S r S1 := by
  subst ho
  intro g sz
  refine Met.ofW (cc := cc) (maxL := n) (ret := some ty) hy rfl ?_
  intro p e s m args below meth c s₁ B hml hv
  obtain ⟨rfl, hsz, hP, hK, hD0, hE⟩ := hv
  have hts := atoms_spec (ws := Cond.code y cc n (some ty) :: lw_g) B.pre
  have hown : s.vm.findClass y.cls = some m.cls := findClass_of_methodNamed B.named
  have hlocks := B.notSynchronized
  have hl := lv_entry (avs g) (n := n) (hav g)
  rw [lg_entry_eq]
  refine body p e _ s m _ below meth c _ g (va_A (xW g S) sz) s.heap s.heap [] _ ⟨B.exec, B.bytes, hown, fun w hw => hts w (List.mem_cons_of_mem _ hw)⟩ ⟨Nat.le_refl _, Nat.le_refl _⟩ hml (xI_of_Pc hsz hP hK hD0 hE) hl ?_
  intro H locs pc ls hd hw
  exact W.zret B.exec B.bytes B.returns hn (fun t ht hW => ⟨⟨r, (), rfl, rfl, by rw [ht]; exact hw.2.1, va_K.moved hW.alike hw.1, hw.2.2.1⟩, hw.2.2.2.1.F ht⟩) hw.2.2.2.1.2.2 hd
theorem xMl_of {y : MethodName} {own : String} {n d : Nat} {avs : xG → List Value} {r : Int64} (hy : plainName y.cls = true) (ho : y.cls = own) (hav : ∀ g, (lg_sl (avs g)).length ≤ n)
    (body : ∀ (p : Program) (e : Env) (R : Room) (s : State) (m : MethodId) (args : Array Value) (below : List Frame) (meth : Method) (c : Code) (Q : State → Prop) (g : xG) (A : Nat → Prop) (H0 H : Heap) (locs : List Loc) (ls : Array Slot), qC own cc p s m args c → qRoom R d → c.maxLocals = n → xI g A H0 s S H locs → lv_has ls n (lv_args 0 (avs g)) → xQl p l e R s m args below meth c cc Q g A H0 r S1 → W p l e R s m args below meth c H locs 0 0 Q (F0 m 0 ls [])) : xMl l y cc n d avs S r S1 := by
  subst ho
  intro g sz
  refine Met.ofW (cc := cc) (maxL := n) (ret := some .long) hy rfl ?_
  intro p e s m args below meth c s₁ B hml hv
  obtain ⟨rfl, hsz, hP, hK, hD0, hE⟩ := hv
  have hts := atoms_spec (ws := Cond.code y cc n (some .long) :: lw_g) B.pre
  have hown : s.vm.findClass y.cls = some m.cls := findClass_of_methodNamed B.named
  have hlocks := B.notSynchronized
  have hl := lv_entry (avs g) (n := n) (hav g)
  rw [lg_entry_eq]
  refine body p e _ s m _ below meth c _ g (va_A (xW g S) sz) s.heap s.heap [] _ ⟨B.exec, B.bytes, hown, fun w hw => hts w (List.mem_cons_of_mem _ hw)⟩ ⟨Nat.le_refl _, Nat.le_refl _⟩ hml (xI_of_Pc hsz hP hK hD0 hE) hl ?_
  intro H locs pc ls hd hw
  exact W.lret B.exec B.bytes B.returns (fun t ht hW => ⟨⟨r, (), rfl, rfl, by rw [ht]; exact hw.2.1, va_K.moved hW.alike hw.1, hw.2.2.1⟩, hw.2.2.2.1.F ht⟩) hw.2.2.2.1.2.2 hd
theorem xMv_of {y : MethodName} {own : String} {n d : Nat} {avs : xG → List Value} (hy : plainName y.cls = true) (ho : y.cls = own) (hav : ∀ g, (lg_sl (avs g)).length ≤ n)
    (body : ∀ (p : Program) (e : Env) (R : Room) (s : State) (m : MethodId) (args : Array Value) (below : List Frame) (meth : Method) (c : Code) (Q : State → Prop) (g : xG) (A : Nat → Prop) (H0 H : Heap) (locs : List Loc) (ls : Array Slot), qC own cc p s m args c → qRoom R d → c.maxLocals = n → xI g A H0 s S H locs → lv_has ls n (lv_args 0 (avs g)) → xQv p l e R s m args below meth c cc Q g A H0 S1 → W p l e R s m args below meth c H locs 0 0 Q (F0 m 0 ls [])) : xMv l y cc n d avs S S1 := by
  subst ho
  intro g sz
  refine Met.ofW (cc := cc) (maxL := n) (ret := none) hy rfl ?_
  intro p e s m args below meth c s₁ B hml hv
  obtain ⟨rfl, hsz, hP, hK, hD0, hE⟩ := hv
  have hts := atoms_spec (ws := Cond.code y cc n (none) :: lw_g) B.pre
  have hown : s.vm.findClass y.cls = some m.cls := findClass_of_methodNamed B.named
  have hlocks := B.notSynchronized
  have hl := lv_entry (avs g) (n := n) (hav g)
  rw [lg_entry_eq]
  refine body p e _ s m _ below meth c _ g (va_A (xW g S) sz) s.heap s.heap [] _ ⟨B.exec, B.bytes, hown, fun w hw => hts w (List.mem_cons_of_mem _ hw)⟩ ⟨Nat.le_refl _, Nat.le_refl _⟩ hml (xI_of_Pc hsz hP hK hD0 hE) hl ?_
  intro H locs pc ls hd hw
  exact W.vret B.exec B.bytes B.returns (fun t ht hW => ⟨⟨(), rfl, trivial, by rw [ht]; exact hw.2.1, va_K.moved hW.alike hw.1, hw.2.2.1⟩, hw.2.2.2.1.F ht⟩) hw.2.2.2.1.2.2 hd
theorem xMr_of {y : MethodName} {own : String} {n d : Nat} {ty : FieldType} {avs : xG → List Value} {r : Int32} (hy : plainName y.cls = true) (ho : y.cls = own) (hn : (∃ n, ty = .object n) ∨ ∃ t, ty = .array t) (hav : ∀ g, (lg_sl (avs g)).length ≤ n)
    (body : ∀ (p : Program) (e : Env) (R : Room) (s : State) (m : MethodId) (args : Array Value) (below : List Frame) (meth : Method) (c : Code) (Q : State → Prop) (g : xG) (A : Nat → Prop) (H0 H : Heap) (locs : List Loc) (ls : Array Slot), qC own cc p s m args c → qRoom R d → c.maxLocals = n → xI g A H0 s S H locs → lv_has ls n (lv_args 0 (avs g)) → xQr p l e R s m args below meth c cc Q g A H0 r S1 → W p l e R s m args below meth c H locs 0 0 Q (F0 m 0 ls [])) : xMr l y cc n ty d avs S r S1 := by
  subst ho
  intro g sz
  refine Met.ofW (cc := cc) (maxL := n) (ret := some ty) hy rfl ?_
  intro p e s m args below meth c s₁ B hml hv
  obtain ⟨rfl, hsz, hP, hK, hD0, hE⟩ := hv
  have hts := atoms_spec (ws := Cond.code y cc n (some ty) :: lw_g) B.pre
  have hown : s.vm.findClass y.cls = some m.cls := findClass_of_methodNamed B.named
  have hlocks := B.notSynchronized
  have hl := lv_entry (avs g) (n := n) (hav g)
  rw [lg_entry_eq]
  refine body p e _ s m _ below meth c _ g (va_A (xW g S) sz) s.heap s.heap [] _ ⟨B.exec, B.bytes, hown, fun w hw => hts w (List.mem_cons_of_mem _ hw)⟩ ⟨Nat.le_refl _, Nat.le_refl _⟩ hml (xI_of_Pc hsz hP hK hD0 hE) hl ?_
  intro H locs pc ls hd hw
  exact W.aret B.exec B.bytes B.returns hn (va_rf_or _) (fun t ht hW => ⟨⟨xro g r, (), rfl, rfl, by rw [ht]; exact hw.2.1, va_K.moved hW.alike hw.1, hw.2.2.1⟩, hw.2.2.2.1.F ht⟩) hw.2.2.2.1.2.2 hd
theorem xI_back {H1 : Heap} {locs1 : List Loc} {t : State} (hw : xI g A H0 s S H locs) (ht : t.heap = H1) (hB : xB g S S1 H.size () t) (hS1 : va_S A H0 H1 locs1) : xI g A H0 s S1 H1 locs1 :=
  ⟨hw.1, by rw [← ht]; exact hB.1, hB.2.2.weaken (fun _ q _ h => va_A_in hw.2.2.1 hw.2.2.2.1 hw.2.2.2.2.1 q.1 h), hS1, hw.2.2.2.2⟩
theorem xPc_go {As : List Value} {avs : xG → List Value} (hw : xI g A H0 s S H locs) (hav : avs g = As) : ∀ U : State, U.heap = H → s.WarmedH U.vm → xPc g avs S H.size As.toArray U := by
  intro U hU hW
  have h0 := hw.2.2.2.2.2.1
  exact ⟨by rw [hav], by rw [hU], by rw [hU]; exact hw.2.1, va_K.moved hW.alike hw.1, hw.2.2.1.weaken (fun _ _ _ _ => trivial), xE_go (h0 ▸ hw.2.2.2.1) hW hU (va_A_in hw.2.2.1 hw.2.2.2.1 hw.2.2.2.2.1) hw.2.2.2.2.2.2⟩
def xRecv (s : State) (H : Heap) (C : String) (b : Nat) : Prop := ∃ cell : Cell, H[b]? = some cell ∧ cell.vm.isStatics = false ∧ s.vm.findClass C = some cell.cls
theorem x_recv_this (hw : xI g A H0 s S H locs) : xRecv s H RX11 (xr g 0) := va_recv hw.1 hw.2.1 (ci := 11) (q0 := 0) (q := (RX11, TX11, 14)) rfl ((xW_A (by decide)).trans rfl)
theorem x_recv_hall (hw : xI g A H0 s S H locs) : xRecv s H RX1 (xr g 1) := va_recv hw.1 hw.2.1 (ci := 1) (q0 := 1) (q := (RX1, TX1, 20)) rfl ((xW_A (by decide)).trans rfl)
theorem x_recv_image (hw : xI g A H0 s S H locs) : xRecv s H RX2 (xr g 2) := va_recv hw.1 hw.2.1 (ci := 2) (q0 := 2) (q := (RX2, TX2, 12)) rfl ((xW_A (by decide)).trans rfl)
theorem x_recv_reader (hw : xI g A H0 s S H locs) : xRecv s H RX7 (xr g 3) := va_recv hw.1 hw.2.1 (ci := 7) (q0 := 3) (q := (RX7, TX7, 11)) rfl ((xW_A (by decide)).trans rfl)
theorem x_recv_line (hw : xI g A H0 s S H locs) : xRecv s H RX4 (xr g 4) := va_recv hw.1 hw.2.1 (ci := 4) (q0 := 4) (q := (RX4, TX4, 5)) rfl ((xW_A (by decide)).trans rfl)
theorem x_recv_text {t : Nat} (hw : xI g A H0 s S H locs) (ht : t < S.2.2.2) : xRecv s H RX10 (xr g (200 + 4 * t)) := va_recv hw.1 hw.2.1 (ci := 10) (q := (RX10, TX10, 3)) rfl (xW_text ht)
variable {y : MethodName} {bytes : ByteArray} {maxL d db idx k : Nat} {ty : FieldType} {avs : xG → List Value} {As st : List Value} {own : String} {b : Nat}
theorem x_cvi {r : Int32} (hc : qC own cc p s m args c) (hw : xI g A H0 s S H locs) (hR : qRoom R d) (hml : c.maxLocals = ls.size) (hM : xMi l y bytes maxL ty db avs S r S1) (hq : qCv own idx y bytes maxL (some ty) k) (hrec : xRecv s H y.cls b) (hlt : db + 1 ≤ d) (hk : As.length = k) (hav : avs g = .ref b :: As) (hst : st = As.reverse ++ .ref b :: rest) (hrm : (rest.map fun v => v.category).sum ≤ 8) (hd : decode cc pc = .ok (.invokevirtual idx, 3))
    (kk : ∀ (H1 : Heap) (locs1 : List Loc), xI g A H0 s S1 H1 locs1 → W p l e R s m args below meth c H1 locs1 cells slots Q (F0 m (pc + 3) ls (.int r :: rest))) (hcs : cells ≤ R.cells ∧ slots ≤ R.slots) : W p l e R s m args below meth c H locs cells slots Q (F0 m pc ls st) := by
  subst hst
  have hrm2 := m_room hR hlt hq.2.2.2
  refine va_calli (va_runV (C := y.cls) (n := k) (As := As) (rest := rest) ⟨hc.1, hc.2.1, hml, hc.2.2.1, hc.2.2.2⟩ (hM g H.size) (cwV k hc.2.2.2 (gd_V hq) rfl rfl rfl ⟨rfl, hq.2.1.1, hq.2.1.2, hq.2.2.1⟩ hrm2) ⟨xPc_blind g avs S H.size, hrec, xPc_go hw hav⟩ rfl hk rfl rfl (lv_room hrm) hd hcs) hw.2.2.2.1 (fun q _ h => va_A_in hw.2.2.1 hw.2.2.2.1 hw.2.2.2.2.1 q h) (va_A_in hw.2.2.1 hw.2.2.2.1 hw.2.2.2.2.1) (fun r2 u t H1 locs1 ht hvm hr2 hB hz1 hk1 hS => ?_)
  subst hr2
  exact kk H1 locs1 (xI_back hw ht hB hS)
theorem x_csi {r : Int32} (hc : qC own cc p s m args c) (hw : xI g A H0 s S H locs) (hR : qRoom R d) (hml : c.maxLocals = ls.size) (hM : xMi l y bytes maxL ty db avs S r S1) (hq : qCs own idx y bytes maxL (some ty) k) (hlt : db + 1 ≤ d) (hk : As.length = k) (hav : avs g = As) (hst : st = As.reverse ++ rest) (hrm : (rest.map fun v => v.category).sum ≤ 8) (hd : decode cc pc = .ok (.invokestatic idx, 3))
    (kk : ∀ (H1 : Heap) (locs1 : List Loc), xI g A H0 s S1 H1 locs1 → W p l e R s m args below meth c H1 locs1 cells slots Q (F0 m (pc + 3) ls (.int r :: rest))) (hcs : cells ≤ R.cells ∧ slots ≤ R.slots) : W p l e R s m args below meth c H locs cells slots Q (F0 m pc ls st) := by
  subst hst
  refine va_calli (va_runS (n := k) (As := As) (rest := rest) ⟨hc.1, hc.2.1, hml, hc.2.2.1, hc.2.2.2⟩ (hM g H.size) (m_cwS hc hR hlt hq) ⟨xPc_blind g avs S H.size, xPc_go hw hav⟩ rfl hk rfl rfl (lv_room hrm) hd hcs) hw.2.2.2.1 (fun q _ h => va_A_in hw.2.2.1 hw.2.2.2.1 hw.2.2.2.2.1 q h) (va_A_in hw.2.2.1 hw.2.2.2.1 hw.2.2.2.2.1) (fun r2 u t H1 locs1 ht hvm hr2 hB hz1 hk1 hS => ?_)
  subst hr2
  exact kk H1 locs1 (xI_back hw ht hB hS)
theorem x_cvl {r : Int64} (hc : qC own cc p s m args c) (hw : xI g A H0 s S H locs) (hR : qRoom R d) (hml : c.maxLocals = ls.size) (hM : xMl l y bytes maxL db avs S r S1) (hq : qCv own idx y bytes maxL (some .long) k) (hrec : xRecv s H y.cls b) (hlt : db + 1 ≤ d) (hk : As.length = k) (hav : avs g = .ref b :: As) (hst : st = As.reverse ++ .ref b :: rest) (hrm : (rest.map fun v => v.category).sum ≤ 8) (hd : decode cc pc = .ok (.invokevirtual idx, 3))
    (kk : ∀ (H1 : Heap) (locs1 : List Loc), xI g A H0 s S1 H1 locs1 → W p l e R s m args below meth c H1 locs1 cells slots Q (F0 m (pc + 3) ls (.long r :: rest))) (hcs : cells ≤ R.cells ∧ slots ≤ R.slots) : W p l e R s m args below meth c H locs cells slots Q (F0 m pc ls st) := by
  subst hst
  have hrm2 := m_room hR hlt hq.2.2.2
  refine va_calll (va_runV (C := y.cls) (n := k) (As := As) (rest := rest) ⟨hc.1, hc.2.1, hml, hc.2.2.1, hc.2.2.2⟩ (hM g H.size) (cwV k hc.2.2.2 (gd_V hq) rfl rfl rfl ⟨rfl, hq.2.1.1, hq.2.1.2, hq.2.2.1⟩ hrm2) ⟨xPc_blind g avs S H.size, hrec, xPc_go hw hav⟩ rfl hk rfl rfl (lv_room hrm) hd hcs) hw.2.2.2.1 (fun q _ h => va_A_in hw.2.2.1 hw.2.2.2.1 hw.2.2.2.2.1 q h) (va_A_in hw.2.2.1 hw.2.2.2.1 hw.2.2.2.2.1) (fun r2 u t H1 locs1 ht hvm hr2 hB hz1 hk1 hS => ?_)
  subst hr2
  exact kk H1 locs1 (xI_back hw ht hB hS)
theorem x_csl {r : Int64} (hc : qC own cc p s m args c) (hw : xI g A H0 s S H locs) (hR : qRoom R d) (hml : c.maxLocals = ls.size) (hM : xMl l y bytes maxL db avs S r S1) (hq : qCs own idx y bytes maxL (some .long) k) (hlt : db + 1 ≤ d) (hk : As.length = k) (hav : avs g = As) (hst : st = As.reverse ++ rest) (hrm : (rest.map fun v => v.category).sum ≤ 8) (hd : decode cc pc = .ok (.invokestatic idx, 3))
    (kk : ∀ (H1 : Heap) (locs1 : List Loc), xI g A H0 s S1 H1 locs1 → W p l e R s m args below meth c H1 locs1 cells slots Q (F0 m (pc + 3) ls (.long r :: rest))) (hcs : cells ≤ R.cells ∧ slots ≤ R.slots) : W p l e R s m args below meth c H locs cells slots Q (F0 m pc ls st) := by
  subst hst
  refine va_calll (va_runS (n := k) (As := As) (rest := rest) ⟨hc.1, hc.2.1, hml, hc.2.2.1, hc.2.2.2⟩ (hM g H.size) (m_cwS hc hR hlt hq) ⟨xPc_blind g avs S H.size, xPc_go hw hav⟩ rfl hk rfl rfl (lv_room hrm) hd hcs) hw.2.2.2.1 (fun q _ h => va_A_in hw.2.2.1 hw.2.2.2.1 hw.2.2.2.2.1 q h) (va_A_in hw.2.2.1 hw.2.2.2.1 hw.2.2.2.2.1) (fun r2 u t H1 locs1 ht hvm hr2 hB hz1 hk1 hS => ?_)
  subst hr2
  exact kk H1 locs1 (xI_back hw ht hB hS)
theorem x_cvv (hc : qC own cc p s m args c) (hw : xI g A H0 s S H locs) (hR : qRoom R d) (hml : c.maxLocals = ls.size) (hM : xMv l y bytes maxL db avs S S1) (hq : qCv own idx y bytes maxL none k) (hrec : xRecv s H y.cls b) (hlt : db + 1 ≤ d) (hk : As.length = k) (hav : avs g = .ref b :: As) (hst : st = As.reverse ++ .ref b :: rest) (hrm : (rest.map fun v => v.category).sum ≤ 8) (hd : decode cc pc = .ok (.invokevirtual idx, 3))
    (kk : ∀ (H1 : Heap) (locs1 : List Loc), xI g A H0 s S1 H1 locs1 → W p l e R s m args below meth c H1 locs1 cells slots Q (F0 m (pc + 3) ls (rest))) (hcs : cells ≤ R.cells ∧ slots ≤ R.slots) : W p l e R s m args below meth c H locs cells slots Q (F0 m pc ls st) := by
  subst hst
  have hrm2 := m_room hR hlt hq.2.2.2
  refine va_callv (va_runV (C := y.cls) (n := k) (As := As) (rest := rest) ⟨hc.1, hc.2.1, hml, hc.2.2.1, hc.2.2.2⟩ (hM g H.size) (cwV k hc.2.2.2 (gd_V hq) rfl rfl rfl ⟨rfl, hq.2.1.1, hq.2.1.2, hq.2.2.1⟩ hrm2) ⟨xPc_blind g avs S H.size, hrec, xPc_go hw hav⟩ rfl hk rfl rfl (lv_room hrm) hd hcs) hw.2.2.2.1 (fun q _ h => va_A_in hw.2.2.1 hw.2.2.2.1 hw.2.2.2.2.1 q h) (va_A_in hw.2.2.1 hw.2.2.2.1 hw.2.2.2.2.1) (fun u t H1 locs1 ht hvm hr2 hB hz1 hk1 hS => ?_)
  exact kk H1 locs1 (xI_back hw ht hB hS)
theorem x_csv (hc : qC own cc p s m args c) (hw : xI g A H0 s S H locs) (hR : qRoom R d) (hml : c.maxLocals = ls.size) (hM : xMv l y bytes maxL db avs S S1) (hq : qCs own idx y bytes maxL none k) (hlt : db + 1 ≤ d) (hk : As.length = k) (hav : avs g = As) (hst : st = As.reverse ++ rest) (hrm : (rest.map fun v => v.category).sum ≤ 8) (hd : decode cc pc = .ok (.invokestatic idx, 3))
    (kk : ∀ (H1 : Heap) (locs1 : List Loc), xI g A H0 s S1 H1 locs1 → W p l e R s m args below meth c H1 locs1 cells slots Q (F0 m (pc + 3) ls (rest))) (hcs : cells ≤ R.cells ∧ slots ≤ R.slots) : W p l e R s m args below meth c H locs cells slots Q (F0 m pc ls st) := by
  subst hst
  refine va_callv (va_runS (n := k) (As := As) (rest := rest) ⟨hc.1, hc.2.1, hml, hc.2.2.1, hc.2.2.2⟩ (hM g H.size) (m_cwS hc hR hlt hq) ⟨xPc_blind g avs S H.size, xPc_go hw hav⟩ rfl hk rfl rfl (lv_room hrm) hd hcs) hw.2.2.2.1 (fun q _ h => va_A_in hw.2.2.1 hw.2.2.2.1 hw.2.2.2.2.1 q h) (va_A_in hw.2.2.1 hw.2.2.2.1 hw.2.2.2.2.1) (fun u t H1 locs1 ht hvm hr2 hB hz1 hk1 hS => ?_)
  exact kk H1 locs1 (xI_back hw ht hB hS)
theorem x_cvr {r : Int32} (hc : qC own cc p s m args c) (hw : xI g A H0 s S H locs) (hR : qRoom R d) (hml : c.maxLocals = ls.size) (hM : xMr l y bytes maxL ty db avs S r S1) (hq : qCv own idx y bytes maxL (some ty) k) (hrec : xRecv s H y.cls b) (hlt : db + 1 ≤ d) (hk : As.length = k) (hav : avs g = .ref b :: As) (hst : st = As.reverse ++ .ref b :: rest) (hrm : (rest.map fun v => v.category).sum ≤ 8) (hd : decode cc pc = .ok (.invokevirtual idx, 3))
    (kk : ∀ (H1 : Heap) (locs1 : List Loc), xI g A H0 s S1 H1 locs1 → W p l e R s m args below meth c H1 locs1 cells slots Q (F0 m (pc + 3) ls (xrv g r :: rest))) (hcs : cells ≤ R.cells ∧ slots ≤ R.slots) : W p l e R s m args below meth c H locs cells slots Q (F0 m pc ls st) := by
  subst hst
  have hrm2 := m_room hR hlt hq.2.2.2
  refine va_callq (va_runV (C := y.cls) (n := k) (As := As) (rest := rest) ⟨hc.1, hc.2.1, hml, hc.2.2.1, hc.2.2.2⟩ (hM g H.size) (cwV k hc.2.2.2 (gd_V hq) rfl rfl rfl ⟨rfl, hq.2.1.1, hq.2.1.2, hq.2.2.1⟩ hrm2) ⟨xPc_blind g avs S H.size, hrec, xPc_go hw hav⟩ rfl hk rfl rfl (lv_room hrm) hd hcs) hw.2.2.2.1 (fun q _ h => va_A_in hw.2.2.1 hw.2.2.2.1 hw.2.2.2.2.1 q h) (va_A_in hw.2.2.1 hw.2.2.2.1 hw.2.2.2.2.1) (fun r2 u t H1 locs1 ht hvm hr2 hB hz1 hk1 hS => ?_)
  subst hr2
  exact kk H1 locs1 (xI_back hw ht hB hS)
theorem x_csr {r : Int32} (hc : qC own cc p s m args c) (hw : xI g A H0 s S H locs) (hR : qRoom R d) (hml : c.maxLocals = ls.size) (hM : xMr l y bytes maxL ty db avs S r S1) (hq : qCs own idx y bytes maxL (some ty) k) (hlt : db + 1 ≤ d) (hk : As.length = k) (hav : avs g = As) (hst : st = As.reverse ++ rest) (hrm : (rest.map fun v => v.category).sum ≤ 8) (hd : decode cc pc = .ok (.invokestatic idx, 3))
    (kk : ∀ (H1 : Heap) (locs1 : List Loc), xI g A H0 s S1 H1 locs1 → W p l e R s m args below meth c H1 locs1 cells slots Q (F0 m (pc + 3) ls (xrv g r :: rest))) (hcs : cells ≤ R.cells ∧ slots ≤ R.slots) : W p l e R s m args below meth c H locs cells slots Q (F0 m pc ls st) := by
  subst hst
  refine va_callq (va_runS (n := k) (As := As) (rest := rest) ⟨hc.1, hc.2.1, hml, hc.2.2.1, hc.2.2.2⟩ (hM g H.size) (m_cwS hc hR hlt hq) ⟨xPc_blind g avs S H.size, xPc_go hw hav⟩ rfl hk rfl rfl (lv_room hrm) hd hcs) hw.2.2.2.1 (fun q _ h => va_A_in hw.2.2.1 hw.2.2.2.1 hw.2.2.2.2.1 q h) (va_A_in hw.2.2.1 hw.2.2.2.1 hw.2.2.2.2.1) (fun r2 u t H1 locs1 ht hvm hr2 hB hz1 hk1 hS => ?_)
  subst hr2
  exact kk H1 locs1 (xI_back hw ht hB hS)
def qCr (own : String) (idx : Nat) (y : MethodName) (bytes : ByteArray) (maxL : Nat) (ret : Option FieldType) (n : Nat) : Prop := (Cond.methodLink own idx y ∈ lw_g ∧ Cond.sameMethod y.cls RX8 y.name y.desc ∈ lw_g ∧ (Cond.selects RX9 y y ∈ lw_g ∧ Cond.selects RX6 y y ∈ lw_g ∧ Cond.selects RX3 y y ∈ lw_g ∧ Cond.selects RX0 y y ∈ lw_g ∧ Cond.selects RX5 y y ∈ lw_g ∧ Cond.selects RX8 y y ∈ lw_g) ∧ Cond.instanceMethod y ∈ lw_g ∧ Cond.initialized y.cls ∈ lw_g ∧ Cond.code y bytes maxL ret ∈ lw_g) ∧ y = ⟨RX8, y.name, y.desc⟩ ∧ (parseMethodDescriptor y.desc).map (fun d => d.parameters.length) = some n ∧ maxL ≤ 21
theorem gd_U {C : String} {n : Nat} {ret : Option FieldType} (h : qCr own idx y bytes maxL ret n) (hs : Cond.selects C y y ∈ lw_g) : GoodIn lw_g (va_wsU own idx C RX8 y y (Cond.code y bytes maxL ret :: lw_g)) := by
  intro w hw
  rcases List.mem_append.mp hw with hw | hw
  · have h2 : w ∈ lw_g := by
      simp only [List.mem_cons, List.mem_nil_iff, or_false] at hw
      rcases hw with rfl | rfl | rfl | rfl | rfl
      · exact h.1.1
      · exact h.1.2.1
      · exact hs
      · exact h.1.2.2.2.1
      · exact h.1.2.2.2.2.1
    exact ⟨h2, lw_g_good h2⟩
  · exact gd_ws h.1.2.2.2.2.2 w hw
theorem x_cri {r : Int32} {rr : Nat} (hc : qC own cc p s m args c) (hw : xI g A H0 s S H locs) (hR : qRoom R d) (hml : c.maxLocals = ls.size) (hM : xMi l y bytes maxL ty db avs S r S1) (hq : qCr own idx y bytes maxL (some ty) k) (hrr : rr < S.2.2.1) (hlt : db + 1 ≤ d) (hk : As.length = k) (hav : avs g = .ref (xr g (100 + 2 * rr)) :: As) (hst : st = As.reverse ++ .ref (xr g (100 + 2 * rr)) :: rest) (hrm : (rest.map fun v => v.category).sum ≤ 8) (hd : decode cc pc = .ok (.invokevirtual idx, 3))
    (kk : ∀ (H1 : Heap) (locs1 : List Loc), xI g A H0 s S1 H1 locs1 → W p l e R s m args below meth c H1 locs1 cells slots Q (F0 m (pc + 3) ls (.int r :: rest))) (hcs : cells ≤ R.cells ∧ slots ≤ R.slots) : W p l e R s m args below meth c H locs cells slots Q (F0 m pc ls st) := by
  subst hst
  have hrm2 := m_room hR hlt hq.2.2.2
  have he := xW_row (g := g) hrr
  obtain ⟨C, hsel, hrec⟩ : ∃ C : String, Cond.selects C y y ∈ lw_g ∧ xRecv s H C (xr g (100 + 2 * rr)) := by
    rcases xci_or (S.1 54 rr) with h | h | h | h | h | h <;> rw [h] at he
    · exact ⟨RX9, hq.1.2.2.1.1, va_recv hw.1 hw.2.1 (ci := 9) (q := (RX9, TX9, 11)) rfl he⟩
    · exact ⟨RX6, hq.1.2.2.1.2.1, va_recv hw.1 hw.2.1 (ci := 6) (q := (RX6, TX6, 11)) rfl he⟩
    · exact ⟨RX3, hq.1.2.2.1.2.2.1, va_recv hw.1 hw.2.1 (ci := 3) (q := (RX3, TX3, 11)) rfl he⟩
    · exact ⟨RX0, hq.1.2.2.1.2.2.2.1, va_recv hw.1 hw.2.1 (ci := 0) (q := (RX0, TX0, 11)) rfl he⟩
    · exact ⟨RX5, hq.1.2.2.1.2.2.2.2.1, va_recv hw.1 hw.2.1 (ci := 5) (q := (RX5, TX5, 11)) rfl he⟩
    · exact ⟨RX8, hq.1.2.2.1.2.2.2.2.2, va_recv hw.1 hw.2.1 (ci := 8) (q := (RX8, TX8, 11)) rfl he⟩
  refine va_calli (va_runU (C := C) (owner := RX8) (x := y) (n := k) (As := As) (rest := rest) ⟨hc.1, hc.2.1, hml, hc.2.2.1, hc.2.2.2⟩ (hM g H.size) (va_cwU k hc.2.2.2 (gd_U hq hsel) rfl rfl rfl hq.2.1 ⟨by decide, by decide, hq.2.2.1⟩ hrm2) ⟨xPc_blind g avs S H.size, hrec, xPc_go hw hav⟩ rfl hk rfl rfl (lv_room hrm) hd hcs) hw.2.2.2.1 (fun q _ h => va_A_in hw.2.2.1 hw.2.2.2.1 hw.2.2.2.2.1 q h) (va_A_in hw.2.2.1 hw.2.2.2.1 hw.2.2.2.2.1) (fun r2 u t H1 locs1 ht hvm hr2 hB hz1 hk1 hS => ?_)
  subst hr2
  exact kk H1 locs1 (xI_back hw ht hB hS)
end XB
