/-! contracts over the model's world: what a method is asked, and its calls -/
def bi (b : Bool) : Int32 := if b then 1 else 0
theorem narrow_bi (b : Bool) : narrow .boolean (.int (bi b)) = .int (bi b) := by cases b <;> rfl
def qRoom (R : Room) (d : Nat) : Prop := d ≤ R.frames ∧ 40 * d ≤ R.locals
/-- a callee of class own's code at place idx: an own method, not static -/
def qCv (own : String) (idx : Nat) (y : MethodName) (bytes : ByteArray) (maxL : Nat) (ret : Option FieldType) (n : Nat) : Prop := (Cond.methodLink own idx y ∈ lw_g ∧ Cond.instanceMethod y ∈ lw_g ∧ Cond.selects y.cls y y ∈ lw_g ∧ Cond.initialized y.cls ∈ lw_g ∧ Cond.code y bytes maxL ret ∈ lw_g) ∧ (y.cls ≠ "java/lang/invoke/MethodHandle" ∧ y.cls ≠ "java/lang/invoke/VarHandle") ∧ (parseMethodDescriptor y.desc).map (fun d => d.parameters.length) = some n ∧ maxL ≤ 21
def qCs (own : String) (idx : Nat) (y : MethodName) (bytes : ByteArray) (maxL : Nat) (ret : Option FieldType) (n : Nat) : Prop := (Cond.methodLink own idx y ∈ lw_g ∧ Cond.static y ∈ lw_g ∧ Cond.initialized y.cls ∈ lw_g ∧ Cond.code y bytes maxL ret ∈ lw_g) ∧ (y.cls ≠ "java/lang/invoke/MethodHandle" ∧ y.cls ≠ "java/lang/invoke/VarHandle") ∧ (parseMethodDescriptor y.desc).map (fun d => d.parameters.length) = some n ∧ maxL ≤ 21
theorem lw_g_good {w : Cond} (h : w ∈ lw_g) : (w.onTables && w.keeps) = true ∨ ∃ ty, w = .arrayClass ty := good_of_word (List.mem_filter.mp h).2
theorem gd_ws {y : MethodName} {bytes : ByteArray} {maxL : Nat} {ret : Option FieldType} (h : Cond.code y bytes maxL ret ∈ lw_g) : GoodIn lw_g (Cond.code y bytes maxL ret :: lw_g) := by
  intro w hw
  rcases List.mem_cons.mp hw with rfl | hw
  · exact ⟨h, lw_g_good h⟩
  · exact ⟨hw, lw_g_good hw⟩
theorem gd_V {own : String} {idx : Nat} {y : MethodName} {bytes : ByteArray} {maxL n : Nat} {ret : Option FieldType} (h : qCv own idx y bytes maxL ret n) : GoodIn lw_g (wsV own idx y.cls y (Cond.code y bytes maxL ret :: lw_g)) := by
  intro w hw
  rcases List.mem_append.mp hw with hw | hw
  · have h2 : w ∈ lw_g := by
      simp only [List.mem_cons, List.mem_nil_iff, or_false] at hw
      rcases hw with rfl | rfl | rfl | rfl
      · exact h.1.1
      · exact h.1.2.1
      · exact h.1.2.2.1
      · exact h.1.2.2.2.1
    exact ⟨h2, lw_g_good h2⟩
  · exact gd_ws h.1.2.2.2.2 w hw
theorem va_A_in {A : Nat → Prop} {ws : va_W} {H0 H : Heap} {locs : List Loc} (hD : va_D A ws) (hS : va_S A H0 H locs) (hA : ∀ q : Nat, H0.size ≤ q → A q) : ∀ q, va_A ws H.size q → A q := by
  intro q h
  rcases h with ⟨k, e, h⟩ | h
  · exact hD.2 k _ h
  · exact hA q (Nat.le_trans hS.1 h)
def mPc (g : mG) (avs : mG → List Value) (S : mS) (sz : Nat) : Array Value → State → Prop := va_Pc (avs g) (fun U => U.heap.size = sz ∧ va_P g.1 vwCl (mW g S) U.heap ∧ va_K g.1 vwCl (mT g) U ∧ va_D (fun _ => True) (mW g S))
def mB (g : mG) (S S1 : mS) (sz : Nat) : Unit → State → Prop := fun _ t => va_P g.1 vwCl (mW g S1) t.heap ∧ va_K g.1 vwCl (mT g) t ∧ va_D (va_A (mW g S) sz) (mW g S1)
def mMi (l : Launch) (y : MethodName) (bytes : ByteArray) (maxL : Nat) (ty : FieldType) (d : Nat) (avs : mG → List Value) (S : mS) (r : Int32) (S1 : mS) : Prop := ∀ (g : mG) (sz : Nat), Met l y (Cond.code y bytes maxL (some ty) :: lw_g) { frames := d, cells := 0, slots := 0, locals := 40 * d } (mPc g avs S sz) (va_Qi (fun x (_ : Unit) => x = r) (mB g S S1 sz) (va_A (mW g S) sz)) 0 0 (va_A (mW g S) sz)
def mMl (l : Launch) (y : MethodName) (bytes : ByteArray) (maxL : Nat) (d : Nat) (avs : mG → List Value) (S : mS) (r : Int64) (S1 : mS) : Prop := ∀ (g : mG) (sz : Nat), Met l y (Cond.code y bytes maxL (some .long) :: lw_g) { frames := d, cells := 0, slots := 0, locals := 40 * d } (mPc g avs S sz) (va_Ql (fun x (_ : Unit) => x = r) (mB g S S1 sz) (va_A (mW g S) sz)) 0 0 (va_A (mW g S) sz)
def mMv (l : Launch) (y : MethodName) (bytes : ByteArray) (maxL : Nat) (d : Nat) (avs : mG → List Value) (S : mS) (S1 : mS) : Prop := ∀ (g : mG) (sz : Nat), Met l y (Cond.code y bytes maxL none :: lw_g) { frames := d, cells := 0, slots := 0, locals := 40 * d } (mPc g avs S sz) (va_Qv (fun (_ : Unit) => True) (mB g S S1 sz) (va_A (mW g S) sz)) 0 0 (va_A (mW g S) sz)
theorem mPc_blind (g : mG) (avs : mG → List Value) (S : mS) (sz : Nat) : FrameBlind (mPc g avs S sz) := fun a U g2 mk q => by
  obtain ⟨q0, q1, qP, qK, qD⟩ := q
  exact ⟨q0, q1, qP, va_K.moved (u := U) (U := U.calling g2 mk a) (Vm.Alike.refl U.vm) qK, qD⟩
section MB
variable {p : Program} {l : Launch} {e : Env} {R : Room} {s : State} {m : MethodId} {args : Array Value} {below : List Frame} {meth : Method} {c : Code} {H : Heap} {locs : List Loc} {cells slots : Nat} {Q : State → Prop} {cc : ByteArray} {pc : Nat} {ls : Array Slot} {rest : List Value} {g : mG} {S S1 : mS} {A : Nat → Prop} {H0 : Heap}
def mQi (p : Program) (l : Launch) (e : Env) (R : Room) (s : State) (m : MethodId) (args : Array Value) (below : List Frame) (meth : Method) (c : Code) (cc : ByteArray) (Q : State → Prop) (g : mG) (A : Nat → Prop) (H0 : Heap) (r : Int32) (S1 : mS) : Prop := ∀ (H : Heap) (locs : List Loc) (pc : Nat) (ls : Array Slot), decode cc pc = .ok (.ireturn, 1) → mI g A H0 s S1 H locs → W p l e R s m args below meth c H locs 0 0 Q (F0 m pc ls [.int r])
def mQl (p : Program) (l : Launch) (e : Env) (R : Room) (s : State) (m : MethodId) (args : Array Value) (below : List Frame) (meth : Method) (c : Code) (cc : ByteArray) (Q : State → Prop) (g : mG) (A : Nat → Prop) (H0 : Heap) (r : Int64) (S1 : mS) : Prop := ∀ (H : Heap) (locs : List Loc) (pc : Nat) (ls : Array Slot), decode cc pc = .ok (.lreturn, 1) → mI g A H0 s S1 H locs → W p l e R s m args below meth c H locs 0 0 Q (F0 m pc ls [.long r])
def mQv (p : Program) (l : Launch) (e : Env) (R : Room) (s : State) (m : MethodId) (args : Array Value) (below : List Frame) (meth : Method) (c : Code) (cc : ByteArray) (Q : State → Prop) (g : mG) (A : Nat → Prop) (H0 : Heap) (S1 : mS) : Prop := ∀ (H : Heap) (locs : List Loc) (pc : Nat) (ls : Array Slot), decode cc pc = .ok (.return_, 1) → mI g A H0 s S1 H locs → W p l e R s m args below meth c H locs 0 0 Q (F0 m pc ls [])
theorem mI_of_Pc {g : mG} {S : mS} {s : State} {sz : Nat} (hsz : s.heap.size = sz) (hP : va_P g.1 vwCl (mW g S) s.heap) (hK : va_K g.1 vwCl (mT g) s) (hD : va_D (fun _ => True) (mW g S)) : mI g (va_A (mW g S) sz) s.heap s S s.heap [] := by
  subst hsz
  exact ⟨hK, hP, hD.self, va_S.rf, fun q h => Or.inr h⟩
theorem mMi_of {y : MethodName} {own : String} {n d : Nat} {ty : FieldType} {avs : mG → List Value} {r : Int32} (hy : plainName y.cls = true) (ho : y.cls = own) (hn : narrow ty (.int r) = .int r) (hav : ∀ g, (lg_sl (avs g)).length ≤ n)
    (body : ∀ (p : Program) (e : Env) (R : Room) (s : State) (m : MethodId) (args : Array Value) (below : List Frame) (meth : Method) (c : Code) (Q : State → Prop) (g : mG) (A : Nat → Prop) (H0 H : Heap) (locs : List Loc) (ls : Array Slot), qC own cc p s m args c → qRoom R d → c.maxLocals = n → mI g A H0 s S H locs → lv_has ls n (lv_args 0 (avs g)) → mQi p l e R s m args below meth c cc Q g A H0 r S1 → W p l e R s m args below meth c H locs 0 0 Q (F0 m 0 ls [])) : mMi l y cc n ty d avs S r S1 := by
  subst ho
  intro g sz
  refine Met.ofW (cc := cc) (maxL := n) (ret := some ty) hy rfl ?_
  intro p e s m args below meth c s₁ B hml hv
  obtain ⟨rfl, hsz, hP, hK, hD0⟩ := hv
  have hts := atoms_spec (ws := Cond.code y cc n (some ty) :: lw_g) B.pre
  have hown : s.vm.findClass y.cls = some m.cls := findClass_of_methodNamed B.named
  have hlocks := B.notSynchronized
  have hl := lv_entry (avs g) (n := n) (hav g)
  rw [lg_entry_eq]
  refine body p e _ s m _ below meth c _ g (va_A (mW g S) sz) s.heap s.heap [] _ ⟨B.exec, B.bytes, hown, fun w hw => hts w (List.mem_cons_of_mem _ hw)⟩ ⟨Nat.le_refl _, Nat.le_refl _⟩ hml (mI_of_Pc hsz hP hK hD0) hl ?_
  intro H locs pc ls hd hw
  exact W.zret B.exec B.bytes B.returns hn (fun t ht hW => ⟨⟨r, (), rfl, rfl, by rw [ht]; exact hw.2.1, va_K.moved hW.alike hw.1, hw.2.2.1⟩, hw.2.2.2.1.F ht⟩) hw.2.2.2.1.2.2 hd
theorem mMl_of {y : MethodName} {own : String} {n d : Nat} {avs : mG → List Value} {r : Int64} (hy : plainName y.cls = true) (ho : y.cls = own) (hav : ∀ g, (lg_sl (avs g)).length ≤ n)
    (body : ∀ (p : Program) (e : Env) (R : Room) (s : State) (m : MethodId) (args : Array Value) (below : List Frame) (meth : Method) (c : Code) (Q : State → Prop) (g : mG) (A : Nat → Prop) (H0 H : Heap) (locs : List Loc) (ls : Array Slot), qC own cc p s m args c → qRoom R d → c.maxLocals = n → mI g A H0 s S H locs → lv_has ls n (lv_args 0 (avs g)) → mQl p l e R s m args below meth c cc Q g A H0 r S1 → W p l e R s m args below meth c H locs 0 0 Q (F0 m 0 ls [])) : mMl l y cc n d avs S r S1 := by
  subst ho
  intro g sz
  refine Met.ofW (cc := cc) (maxL := n) (ret := some .long) hy rfl ?_
  intro p e s m args below meth c s₁ B hml hv
  obtain ⟨rfl, hsz, hP, hK, hD0⟩ := hv
  have hts := atoms_spec (ws := Cond.code y cc n (some .long) :: lw_g) B.pre
  have hown : s.vm.findClass y.cls = some m.cls := findClass_of_methodNamed B.named
  have hlocks := B.notSynchronized
  have hl := lv_entry (avs g) (n := n) (hav g)
  rw [lg_entry_eq]
  refine body p e _ s m _ below meth c _ g (va_A (mW g S) sz) s.heap s.heap [] _ ⟨B.exec, B.bytes, hown, fun w hw => hts w (List.mem_cons_of_mem _ hw)⟩ ⟨Nat.le_refl _, Nat.le_refl _⟩ hml (mI_of_Pc hsz hP hK hD0) hl ?_
  intro H locs pc ls hd hw
  exact W.lret B.exec B.bytes B.returns (fun t ht hW => ⟨⟨r, (), rfl, rfl, by rw [ht]; exact hw.2.1, va_K.moved hW.alike hw.1, hw.2.2.1⟩, hw.2.2.2.1.F ht⟩) hw.2.2.2.1.2.2 hd
theorem mMv_of {y : MethodName} {own : String} {n d : Nat} {avs : mG → List Value} (hy : plainName y.cls = true) (ho : y.cls = own) (hav : ∀ g, (lg_sl (avs g)).length ≤ n)
    (body : ∀ (p : Program) (e : Env) (R : Room) (s : State) (m : MethodId) (args : Array Value) (below : List Frame) (meth : Method) (c : Code) (Q : State → Prop) (g : mG) (A : Nat → Prop) (H0 H : Heap) (locs : List Loc) (ls : Array Slot), qC own cc p s m args c → qRoom R d → c.maxLocals = n → mI g A H0 s S H locs → lv_has ls n (lv_args 0 (avs g)) → mQv p l e R s m args below meth c cc Q g A H0 S1 → W p l e R s m args below meth c H locs 0 0 Q (F0 m 0 ls [])) : mMv l y cc n d avs S S1 := by
  subst ho
  intro g sz
  refine Met.ofW (cc := cc) (maxL := n) (ret := none) hy rfl ?_
  intro p e s m args below meth c s₁ B hml hv
  obtain ⟨rfl, hsz, hP, hK, hD0⟩ := hv
  have hts := atoms_spec (ws := Cond.code y cc n none :: lw_g) B.pre
  have hown : s.vm.findClass y.cls = some m.cls := findClass_of_methodNamed B.named
  have hlocks := B.notSynchronized
  have hl := lv_entry (avs g) (n := n) (hav g)
  rw [lg_entry_eq]
  refine body p e _ s m _ below meth c _ g (va_A (mW g S) sz) s.heap s.heap [] _ ⟨B.exec, B.bytes, hown, fun w hw => hts w (List.mem_cons_of_mem _ hw)⟩ ⟨Nat.le_refl _, Nat.le_refl _⟩ hml (mI_of_Pc hsz hP hK hD0) hl ?_
  intro H locs pc ls hd hw
  exact W.vret B.exec B.bytes B.returns (fun t ht hW => ⟨⟨(), rfl, trivial, by rw [ht]; exact hw.2.1, va_K.moved hW.alike hw.1, hw.2.2.1⟩, hw.2.2.2.1.F ht⟩) hw.2.2.2.1.2.2 hd
theorem mI_back {H1 : Heap} {locs1 : List Loc} {t : State} (hw : mI g A H0 s S H locs) (ht : t.heap = H1) (hB : mB g S S1 H.size () t) (hS1 : va_S A H0 H1 locs1) : mI g A H0 s S1 H1 locs1 :=
  ⟨hw.1, by rw [← ht]; exact hB.1, hB.2.2.weaken (fun _ q _ h => va_A_in hw.2.2.1 hw.2.2.2.1 hw.2.2.2.2 q.1 h), hS1, hw.2.2.2.2⟩
theorem mPc_go {As : List Value} {avs : mG → List Value} (hw : mI g A H0 s S H locs) (hav : avs g = As) : ∀ U : State, U.heap = H → s.WarmedH U.vm → mPc g avs S H.size As.toArray U :=
  fun U hU hW => ⟨by rw [hav], by rw [hU], by rw [hU]; exact hw.2.1, va_K.moved hW.alike hw.1, hw.2.2.1.weaken (fun _ _ _ _ => trivial)⟩
theorem m_recv (hw : mI g A H0 s S H locs) : ∃ cell : Cell, H[mr g 0]? = some cell ∧ cell.vm.isStatics = false ∧ s.vm.findClass RX12 = some cell.cls := va_recv hw.1 hw.2.1 (ci := 12) (q0 := 0) (q := (RX12, TX12, 59)) rfl rfl
variable {y : MethodName} {bytes : ByteArray} {maxL d db idx k : Nat} {ty : FieldType} {avs : mG → List Value} {As st : List Value} {own : String}
theorem m_room (hR : qRoom R d) (hlt : db + 1 ≤ d) (hm : maxL ≤ 21) : db + 1 ≤ R.frames ∧ 8 + (maxL + 11) + 40 * db ≤ R.locals := by
  obtain ⟨h1, h2⟩ := hR
  omega
theorem m_cvi {r : Int32} (hc : qC own cc p s m args c) (hw : mI g A H0 s S H locs) (hR : qRoom R d) (hml : c.maxLocals = ls.size) (hM : mMi l y bytes maxL ty db avs S r S1) (hq : qCv own idx y bytes maxL (some ty) k) (hy : y.cls = RX12) (hlt : db + 1 ≤ d) (hk : As.length = k) (hav : avs g = .ref (mr g 0) :: As) (hst : st = As.reverse ++ .ref (mr g 0) :: rest) (hrm : (rest.map fun v => v.category).sum ≤ 8) (hd : decode cc pc = .ok (.invokevirtual idx, 3))
    (kk : ∀ (H1 : Heap) (locs1 : List Loc), mI g A H0 s S1 H1 locs1 → W p l e R s m args below meth c H1 locs1 cells slots Q (F0 m (pc + 3) ls (.int r :: rest))) (hcs : cells ≤ R.cells ∧ slots ≤ R.slots) : W p l e R s m args below meth c H locs cells slots Q (F0 m pc ls st) := by
  subst hst
  have hrm2 := m_room hR hlt hq.2.2.2
  refine va_calli (va_runV (C := y.cls) (n := k) (As := As) (rest := rest) ⟨hc.1, hc.2.1, hml, hc.2.2.1, hc.2.2.2⟩ (hM g H.size) (cwV k hc.2.2.2 (gd_V hq) rfl rfl rfl ⟨rfl, hq.2.1.1, hq.2.1.2, hq.2.2.1⟩ hrm2) ⟨mPc_blind g avs S H.size, by rw [hy]; exact m_recv hw, mPc_go hw hav⟩ rfl hk rfl rfl (lv_room hrm) hd hcs) hw.2.2.2.1 (fun q _ h => va_A_in hw.2.2.1 hw.2.2.2.1 hw.2.2.2.2 q h) (va_A_in hw.2.2.1 hw.2.2.2.1 hw.2.2.2.2) (fun r2 u t H1 locs1 ht hvm hr2 hB hz1 hk1 hS => ?_)
  subst hr2
  exact kk H1 locs1 (mI_back hw ht hB hS)
theorem m_cvl {r : Int64} (hc : qC own cc p s m args c) (hw : mI g A H0 s S H locs) (hR : qRoom R d) (hml : c.maxLocals = ls.size) (hM : mMl l y bytes maxL db avs S r S1) (hq : qCv own idx y bytes maxL (some .long) k) (hy : y.cls = RX12) (hlt : db + 1 ≤ d) (hk : As.length = k) (hav : avs g = .ref (mr g 0) :: As) (hst : st = As.reverse ++ .ref (mr g 0) :: rest) (hrm : (rest.map fun v => v.category).sum ≤ 8) (hd : decode cc pc = .ok (.invokevirtual idx, 3))
    (kk : ∀ (H1 : Heap) (locs1 : List Loc), mI g A H0 s S1 H1 locs1 → W p l e R s m args below meth c H1 locs1 cells slots Q (F0 m (pc + 3) ls (.long r :: rest))) (hcs : cells ≤ R.cells ∧ slots ≤ R.slots) : W p l e R s m args below meth c H locs cells slots Q (F0 m pc ls st) := by
  subst hst
  have hrm2 := m_room hR hlt hq.2.2.2
  refine va_calll (va_runV (C := y.cls) (n := k) (As := As) (rest := rest) ⟨hc.1, hc.2.1, hml, hc.2.2.1, hc.2.2.2⟩ (hM g H.size) (cwV k hc.2.2.2 (gd_V hq) rfl rfl rfl ⟨rfl, hq.2.1.1, hq.2.1.2, hq.2.2.1⟩ hrm2) ⟨mPc_blind g avs S H.size, by rw [hy]; exact m_recv hw, mPc_go hw hav⟩ rfl hk rfl rfl (lv_room hrm) hd hcs) hw.2.2.2.1 (fun q _ h => va_A_in hw.2.2.1 hw.2.2.2.1 hw.2.2.2.2 q h) (va_A_in hw.2.2.1 hw.2.2.2.1 hw.2.2.2.2) (fun r2 u t H1 locs1 ht hvm hr2 hB hz1 hk1 hS => ?_)
  subst hr2
  exact kk H1 locs1 (mI_back hw ht hB hS)
theorem m_cvv (hc : qC own cc p s m args c) (hw : mI g A H0 s S H locs) (hR : qRoom R d) (hml : c.maxLocals = ls.size) (hM : mMv l y bytes maxL db avs S S1) (hq : qCv own idx y bytes maxL none k) (hy : y.cls = RX12) (hlt : db + 1 ≤ d) (hk : As.length = k) (hav : avs g = .ref (mr g 0) :: As) (hst : st = As.reverse ++ .ref (mr g 0) :: rest) (hrm : (rest.map fun v => v.category).sum ≤ 8) (hd : decode cc pc = .ok (.invokevirtual idx, 3))
    (kk : ∀ (H1 : Heap) (locs1 : List Loc), mI g A H0 s S1 H1 locs1 → W p l e R s m args below meth c H1 locs1 cells slots Q (F0 m (pc + 3) ls rest)) (hcs : cells ≤ R.cells ∧ slots ≤ R.slots) : W p l e R s m args below meth c H locs cells slots Q (F0 m pc ls st) := by
  subst hst
  have hrm2 := m_room hR hlt hq.2.2.2
  refine va_callv (va_runV (C := y.cls) (n := k) (As := As) (rest := rest) ⟨hc.1, hc.2.1, hml, hc.2.2.1, hc.2.2.2⟩ (hM g H.size) (cwV k hc.2.2.2 (gd_V hq) rfl rfl rfl ⟨rfl, hq.2.1.1, hq.2.1.2, hq.2.2.1⟩ hrm2) ⟨mPc_blind g avs S H.size, by rw [hy]; exact m_recv hw, mPc_go hw hav⟩ rfl hk rfl rfl (lv_room hrm) hd hcs) hw.2.2.2.1 (fun q _ h => va_A_in hw.2.2.1 hw.2.2.2.1 hw.2.2.2.2 q h) (va_A_in hw.2.2.1 hw.2.2.2.1 hw.2.2.2.2) (fun u t H1 locs1 ht hvm hr2 hB hz1 hk1 hS => ?_)
  exact kk H1 locs1 (mI_back hw ht hB hS)
theorem m_cwS (hc : qC own cc p s m args c) (hR : qRoom R d) (hlt : db + 1 ≤ d) {ret : Option FieldType} (hq : qCs own idx y bytes maxL ret k) : CallB R s args own idx y bytes maxL ret (Cond.code y bytes maxL ret :: lw_g) { frames := db, cells := 0, slots := 0, locals := 40 * db } 0 0 k ∧ (Cond.static y).before args s = true :=
  ⟨callB_of k hc.2.2.2 (gd_ws hq.1.2.2.2) rfl rfl rfl (hc.2.2.2 _ hq.1.2.2.1) (hc.2.2.2 _ hq.1.1) ⟨hq.2.1.1, hq.2.1.2, hq.2.2.1⟩ (m_room hR hlt hq.2.2.2), hc.2.2.2 _ hq.1.2.1⟩
theorem m_csi {r : Int32} (hc : qC own cc p s m args c) (hw : mI g A H0 s S H locs) (hR : qRoom R d) (hml : c.maxLocals = ls.size) (hM : mMi l y bytes maxL ty db avs S r S1) (hq : qCs own idx y bytes maxL (some ty) k) (hlt : db + 1 ≤ d) (hk : As.length = k) (hav : avs g = As) (hst : st = As.reverse ++ rest) (hrm : (rest.map fun v => v.category).sum ≤ 8) (hd : decode cc pc = .ok (.invokestatic idx, 3))
    (kk : ∀ (H1 : Heap) (locs1 : List Loc), mI g A H0 s S1 H1 locs1 → W p l e R s m args below meth c H1 locs1 cells slots Q (F0 m (pc + 3) ls (.int r :: rest))) (hcs : cells ≤ R.cells ∧ slots ≤ R.slots) : W p l e R s m args below meth c H locs cells slots Q (F0 m pc ls st) := by
  subst hst
  refine va_calli (va_runS (n := k) (As := As) (rest := rest) ⟨hc.1, hc.2.1, hml, hc.2.2.1, hc.2.2.2⟩ (hM g H.size) (m_cwS hc hR hlt hq) ⟨mPc_blind g avs S H.size, mPc_go hw hav⟩ rfl hk rfl rfl (lv_room hrm) hd hcs) hw.2.2.2.1 (fun q _ h => va_A_in hw.2.2.1 hw.2.2.2.1 hw.2.2.2.2 q h) (va_A_in hw.2.2.1 hw.2.2.2.1 hw.2.2.2.2) (fun r2 u t H1 locs1 ht hvm hr2 hB hz1 hk1 hS => ?_)
  subst hr2
  exact kk H1 locs1 (mI_back hw ht hB hS)
theorem m_csl {r : Int64} (hc : qC own cc p s m args c) (hw : mI g A H0 s S H locs) (hR : qRoom R d) (hml : c.maxLocals = ls.size) (hM : mMl l y bytes maxL db avs S r S1) (hq : qCs own idx y bytes maxL (some .long) k) (hlt : db + 1 ≤ d) (hk : As.length = k) (hav : avs g = As) (hst : st = As.reverse ++ rest) (hrm : (rest.map fun v => v.category).sum ≤ 8) (hd : decode cc pc = .ok (.invokestatic idx, 3))
    (kk : ∀ (H1 : Heap) (locs1 : List Loc), mI g A H0 s S1 H1 locs1 → W p l e R s m args below meth c H1 locs1 cells slots Q (F0 m (pc + 3) ls (.long r :: rest))) (hcs : cells ≤ R.cells ∧ slots ≤ R.slots) : W p l e R s m args below meth c H locs cells slots Q (F0 m pc ls st) := by
  subst hst
  refine va_calll (va_runS (n := k) (As := As) (rest := rest) ⟨hc.1, hc.2.1, hml, hc.2.2.1, hc.2.2.2⟩ (hM g H.size) (m_cwS hc hR hlt hq) ⟨mPc_blind g avs S H.size, mPc_go hw hav⟩ rfl hk rfl rfl (lv_room hrm) hd hcs) hw.2.2.2.1 (fun q _ h => va_A_in hw.2.2.1 hw.2.2.2.1 hw.2.2.2.2 q h) (va_A_in hw.2.2.1 hw.2.2.2.1 hw.2.2.2.2) (fun r2 u t H1 locs1 ht hvm hr2 hB hz1 hk1 hS => ?_)
  subst hr2
  exact kk H1 locs1 (mI_back hw ht hB hS)
end MB
/-! pure helpers: a guard, a call that may fail, a loop that may give the answer -/
def ok (i : Int32) (n : Nat) : Bool := decide (0 ≤ i) && decide (i.toNatClampNeg < n)
theorem ok_in {i : Int32} {n : Nat} (h : ok i n = true) : vp_in i n := by
  unfold ok at h
  simp only [Bool.and_eq_true, decide_eq_true_eq] at h
  intro q
  rcases q with q | q
  · exact absurd h.1 (Int32.not_le.mpr q)
  · omega
theorem gd_some {α : Type} {P : Prop} {dP : Decidable P} {x : Option α} {r : α} (h : (if P then x else none) = some r) : P ∧ x = some r := by
  by_cases hp : P
  · rw [if_pos hp] at h; exact ⟨hp, h⟩
  · rw [if_neg hp] at h; cases h
theorem sw_ne {x c : Int32} {k : Int} (h : ¬ x = c) (hc : c.toInt = k) : x.toInt ≠ k := fun e => h (Int32.toInt_inj.mp (e.trans hc.symm))
def bd0 {σ : Type} (x : Option (Unit)) (f : Unit → Option σ) : Option σ := match x with | none => none | some q => f ()
theorem bd0_some {σ : Type} {x : Option (Unit)} {f : Unit → Option σ} {r : σ} (h : bd0 x f = some r) : x = some () ∧ f () = some r := by
  cases x with
  | none => cases h
  | some q => exact ⟨rfl, h⟩
def br0 {ρ σ : Type} (x : Option (ρ ⊕ (Unit))) (k : ρ → Option σ) (f : Unit → Option σ) : Option σ := match x with | none => none | some (.inl q) => k q | some (.inr q) => f ()
theorem br0_some {ρ σ : Type} {x : Option (ρ ⊕ (Unit))} {k : ρ → Option σ} {f : Unit → Option σ} {r : σ} (h : br0 x k f = some r) : (∃ q, x = some (.inl q) ∧ k q = some r) ∨ (x = some (.inr ()) ∧ f () = some r) := by
  cases x with
  | none => cases h
  | some q => cases q with
    | inl q => exact Or.inl ⟨q, rfl, h⟩
    | inr q => exact Or.inr ⟨rfl, h⟩
def bd1 {Az σ : Type} (x : Option (Az)) (f : Az → Option σ) : Option σ := match x with | none => none | some q => f q
theorem bd1_some {Az σ : Type} {x : Option (Az)} {f : Az → Option σ} {r : σ} (h : bd1 x f = some r) : ∃ a, x = some a ∧ f a = some r := by
  cases x with
  | none => cases h
  | some q => exact ⟨q, rfl, h⟩
def br1 {Az ρ σ : Type} (x : Option (ρ ⊕ (Az))) (k : ρ → Option σ) (f : Az → Option σ) : Option σ := match x with | none => none | some (.inl q) => k q | some (.inr q) => f q
theorem br1_some {Az ρ σ : Type} {x : Option (ρ ⊕ (Az))} {k : ρ → Option σ} {f : Az → Option σ} {r : σ} (h : br1 x k f = some r) : (∃ q, x = some (.inl q) ∧ k q = some r) ∨ (∃ a, x = some (.inr a) ∧ f a = some r) := by
  cases x with
  | none => cases h
  | some q => cases q with
    | inl q => exact Or.inl ⟨q, rfl, h⟩
    | inr q => exact Or.inr ⟨q, rfl, h⟩
def bd2 {Az Bz σ : Type} (x : Option (Az × Bz)) (f : Az → Bz → Option σ) : Option σ := match x with | none => none | some q => f q.1 q.2
theorem bd2_some {Az Bz σ : Type} {x : Option (Az × Bz)} {f : Az → Bz → Option σ} {r : σ} (h : bd2 x f = some r) : ∃ a b, x = some (a, b) ∧ f a b = some r := by
  cases x with
  | none => cases h
  | some q => exact ⟨q.1, q.2, rfl, h⟩
def br2 {Az Bz ρ σ : Type} (x : Option (ρ ⊕ (Az × Bz))) (k : ρ → Option σ) (f : Az → Bz → Option σ) : Option σ := match x with | none => none | some (.inl q) => k q | some (.inr q) => f q.1 q.2
theorem br2_some {Az Bz ρ σ : Type} {x : Option (ρ ⊕ (Az × Bz))} {k : ρ → Option σ} {f : Az → Bz → Option σ} {r : σ} (h : br2 x k f = some r) : (∃ q, x = some (.inl q) ∧ k q = some r) ∨ (∃ a b, x = some (.inr (a, b)) ∧ f a b = some r) := by
  cases x with
  | none => cases h
  | some q => cases q with
    | inl q => exact Or.inl ⟨q, rfl, h⟩
    | inr q => exact Or.inr ⟨q.1, q.2, rfl, h⟩
def bd3 {Az Bz Cz σ : Type} (x : Option (Az × Bz × Cz)) (f : Az → Bz → Cz → Option σ) : Option σ := match x with | none => none | some q => f q.1 q.2.1 q.2.2
theorem bd3_some {Az Bz Cz σ : Type} {x : Option (Az × Bz × Cz)} {f : Az → Bz → Cz → Option σ} {r : σ} (h : bd3 x f = some r) : ∃ a b c, x = some (a, b, c) ∧ f a b c = some r := by
  cases x with
  | none => cases h
  | some q => exact ⟨q.1, q.2.1, q.2.2, rfl, h⟩
def br3 {Az Bz Cz ρ σ : Type} (x : Option (ρ ⊕ (Az × Bz × Cz))) (k : ρ → Option σ) (f : Az → Bz → Cz → Option σ) : Option σ := match x with | none => none | some (.inl q) => k q | some (.inr q) => f q.1 q.2.1 q.2.2
theorem br3_some {Az Bz Cz ρ σ : Type} {x : Option (ρ ⊕ (Az × Bz × Cz))} {k : ρ → Option σ} {f : Az → Bz → Cz → Option σ} {r : σ} (h : br3 x k f = some r) : (∃ q, x = some (.inl q) ∧ k q = some r) ∨ (∃ a b c, x = some (.inr (a, b, c)) ∧ f a b c = some r) := by
  cases x with
  | none => cases h
  | some q => cases q with
    | inl q => exact Or.inl ⟨q, rfl, h⟩
    | inr q => exact Or.inr ⟨q.1, q.2.1, q.2.2, rfl, h⟩
def bd4 {Az Bz Cz Dz σ : Type} (x : Option (Az × Bz × Cz × Dz)) (f : Az → Bz → Cz → Dz → Option σ) : Option σ := match x with | none => none | some q => f q.1 q.2.1 q.2.2.1 q.2.2.2
theorem bd4_some {Az Bz Cz Dz σ : Type} {x : Option (Az × Bz × Cz × Dz)} {f : Az → Bz → Cz → Dz → Option σ} {r : σ} (h : bd4 x f = some r) : ∃ a b c d, x = some (a, b, c, d) ∧ f a b c d = some r := by
  cases x with
  | none => cases h
  | some q => exact ⟨q.1, q.2.1, q.2.2.1, q.2.2.2, rfl, h⟩
def br4 {Az Bz Cz Dz ρ σ : Type} (x : Option (ρ ⊕ (Az × Bz × Cz × Dz))) (k : ρ → Option σ) (f : Az → Bz → Cz → Dz → Option σ) : Option σ := match x with | none => none | some (.inl q) => k q | some (.inr q) => f q.1 q.2.1 q.2.2.1 q.2.2.2
theorem br4_some {Az Bz Cz Dz ρ σ : Type} {x : Option (ρ ⊕ (Az × Bz × Cz × Dz))} {k : ρ → Option σ} {f : Az → Bz → Cz → Dz → Option σ} {r : σ} (h : br4 x k f = some r) : (∃ q, x = some (.inl q) ∧ k q = some r) ∨ (∃ a b c d, x = some (.inr (a, b, c, d)) ∧ f a b c d = some r) := by
  cases x with
  | none => cases h
  | some q => cases q with
    | inl q => exact Or.inl ⟨q, rfl, h⟩
    | inr q => exact Or.inr ⟨q.1, q.2.1, q.2.2.1, q.2.2.2, rfl, h⟩
def bd5 {Az Bz Cz Dz Ez σ : Type} (x : Option (Az × Bz × Cz × Dz × Ez)) (f : Az → Bz → Cz → Dz → Ez → Option σ) : Option σ := match x with | none => none | some q => f q.1 q.2.1 q.2.2.1 q.2.2.2.1 q.2.2.2.2
theorem bd5_some {Az Bz Cz Dz Ez σ : Type} {x : Option (Az × Bz × Cz × Dz × Ez)} {f : Az → Bz → Cz → Dz → Ez → Option σ} {r : σ} (h : bd5 x f = some r) : ∃ a b c d e, x = some (a, b, c, d, e) ∧ f a b c d e = some r := by
  cases x with
  | none => cases h
  | some q => exact ⟨q.1, q.2.1, q.2.2.1, q.2.2.2.1, q.2.2.2.2, rfl, h⟩
def br5 {Az Bz Cz Dz Ez ρ σ : Type} (x : Option (ρ ⊕ (Az × Bz × Cz × Dz × Ez))) (k : ρ → Option σ) (f : Az → Bz → Cz → Dz → Ez → Option σ) : Option σ := match x with | none => none | some (.inl q) => k q | some (.inr q) => f q.1 q.2.1 q.2.2.1 q.2.2.2.1 q.2.2.2.2
theorem br5_some {Az Bz Cz Dz Ez ρ σ : Type} {x : Option (ρ ⊕ (Az × Bz × Cz × Dz × Ez))} {k : ρ → Option σ} {f : Az → Bz → Cz → Dz → Ez → Option σ} {r : σ} (h : br5 x k f = some r) : (∃ q, x = some (.inl q) ∧ k q = some r) ∨ (∃ a b c d e, x = some (.inr (a, b, c, d, e)) ∧ f a b c d e = some r) := by
  cases x with
  | none => cases h
  | some q => cases q with
    | inl q => exact Or.inl ⟨q, rfl, h⟩
    | inr q => exact Or.inr ⟨q.1, q.2.1, q.2.2.1, q.2.2.2.1, q.2.2.2.2, rfl, h⟩
def bc0 {σ : Type} (Y : Option σ ⊕ (Unit)) (f : Unit → Option σ) : Option σ := match Y with | .inl r => r | .inr q => f ()
def bm0 {σ : Type} (x : Option (Option σ ⊕ (Unit))) (f : Unit → Option σ) : Option σ := match x with | none => none | some Y => bc0 Y f
theorem bm0_some {σ : Type} {x : Option (Option σ ⊕ (Unit))} {f : Unit → Option σ} {r : σ} (h : bm0 x f = some r) : ∃ Y, x = some Y ∧ bc0 Y f = some r := by
  cases x with
  | none => cases h
  | some Y => exact ⟨Y, rfl, h⟩
theorem bc0_l {σ : Type} {f : Unit → Option σ} {r x : Option σ} (h : bc0 (.inl r) f = x) : r = x := h
theorem bc0_r {σ : Type} {f : Unit → Option σ} {x : Option σ} (h : bc0 (.inr ()) f = x) : f () = x := h
def bc1 {Az σ : Type} (Y : Option σ ⊕ (Az)) (f : Az → Option σ) : Option σ := match Y with | .inl r => r | .inr q => f q
def bm1 {Az σ : Type} (x : Option (Option σ ⊕ (Az))) (f : Az → Option σ) : Option σ := match x with | none => none | some Y => bc1 Y f
theorem bm1_some {Az σ : Type} {x : Option (Option σ ⊕ (Az))} {f : Az → Option σ} {r : σ} (h : bm1 x f = some r) : ∃ Y, x = some Y ∧ bc1 Y f = some r := by
  cases x with
  | none => cases h
  | some Y => exact ⟨Y, rfl, h⟩
theorem bc1_l {Az σ : Type} {f : Az → Option σ} {r x : Option σ} (h : bc1 (.inl r) f = x) : r = x := h
theorem bc1_r {Az σ : Type} {f : Az → Option σ} {a : Az} {x : Option σ} (h : bc1 (.inr a) f = x) : f a = x := h
def bc2 {Az Bz σ : Type} (Y : Option σ ⊕ (Az × Bz)) (f : Az → Bz → Option σ) : Option σ := match Y with | .inl r => r | .inr q => f q.1 q.2
def bm2 {Az Bz σ : Type} (x : Option (Option σ ⊕ (Az × Bz))) (f : Az → Bz → Option σ) : Option σ := match x with | none => none | some Y => bc2 Y f
theorem bm2_some {Az Bz σ : Type} {x : Option (Option σ ⊕ (Az × Bz))} {f : Az → Bz → Option σ} {r : σ} (h : bm2 x f = some r) : ∃ Y, x = some Y ∧ bc2 Y f = some r := by
  cases x with
  | none => cases h
  | some Y => exact ⟨Y, rfl, h⟩
theorem bc2_l {Az Bz σ : Type} {f : Az → Bz → Option σ} {r x : Option σ} (h : bc2 (.inl r) f = x) : r = x := h
theorem bc2_r {Az Bz σ : Type} {f : Az → Bz → Option σ} {a : Az} {b : Bz} {x : Option σ} (h : bc2 (.inr (a, b)) f = x) : f a b = x := h
def bc3 {Az Bz Cz σ : Type} (Y : Option σ ⊕ (Az × Bz × Cz)) (f : Az → Bz → Cz → Option σ) : Option σ := match Y with | .inl r => r | .inr q => f q.1 q.2.1 q.2.2
def bm3 {Az Bz Cz σ : Type} (x : Option (Option σ ⊕ (Az × Bz × Cz))) (f : Az → Bz → Cz → Option σ) : Option σ := match x with | none => none | some Y => bc3 Y f
theorem bm3_some {Az Bz Cz σ : Type} {x : Option (Option σ ⊕ (Az × Bz × Cz))} {f : Az → Bz → Cz → Option σ} {r : σ} (h : bm3 x f = some r) : ∃ Y, x = some Y ∧ bc3 Y f = some r := by
  cases x with
  | none => cases h
  | some Y => exact ⟨Y, rfl, h⟩
theorem bc3_l {Az Bz Cz σ : Type} {f : Az → Bz → Cz → Option σ} {r x : Option σ} (h : bc3 (.inl r) f = x) : r = x := h
theorem bc3_r {Az Bz Cz σ : Type} {f : Az → Bz → Cz → Option σ} {a : Az} {b : Bz} {c : Cz} {x : Option σ} (h : bc3 (.inr (a, b, c)) f = x) : f a b c = x := h
def bc4 {Az Bz Cz Dz σ : Type} (Y : Option σ ⊕ (Az × Bz × Cz × Dz)) (f : Az → Bz → Cz → Dz → Option σ) : Option σ := match Y with | .inl r => r | .inr q => f q.1 q.2.1 q.2.2.1 q.2.2.2
def bm4 {Az Bz Cz Dz σ : Type} (x : Option (Option σ ⊕ (Az × Bz × Cz × Dz))) (f : Az → Bz → Cz → Dz → Option σ) : Option σ := match x with | none => none | some Y => bc4 Y f
theorem bm4_some {Az Bz Cz Dz σ : Type} {x : Option (Option σ ⊕ (Az × Bz × Cz × Dz))} {f : Az → Bz → Cz → Dz → Option σ} {r : σ} (h : bm4 x f = some r) : ∃ Y, x = some Y ∧ bc4 Y f = some r := by
  cases x with
  | none => cases h
  | some Y => exact ⟨Y, rfl, h⟩
theorem bc4_l {Az Bz Cz Dz σ : Type} {f : Az → Bz → Cz → Dz → Option σ} {r x : Option σ} (h : bc4 (.inl r) f = x) : r = x := h
theorem bc4_r {Az Bz Cz Dz σ : Type} {f : Az → Bz → Cz → Dz → Option σ} {a : Az} {b : Bz} {c : Cz} {d : Dz} {x : Option σ} (h : bc4 (.inr (a, b, c, d)) f = x) : f a b c d = x := h
def bc5 {Az Bz Cz Dz Ez σ : Type} (Y : Option σ ⊕ (Az × Bz × Cz × Dz × Ez)) (f : Az → Bz → Cz → Dz → Ez → Option σ) : Option σ := match Y with | .inl r => r | .inr q => f q.1 q.2.1 q.2.2.1 q.2.2.2.1 q.2.2.2.2
def bm5 {Az Bz Cz Dz Ez σ : Type} (x : Option (Option σ ⊕ (Az × Bz × Cz × Dz × Ez))) (f : Az → Bz → Cz → Dz → Ez → Option σ) : Option σ := match x with | none => none | some Y => bc5 Y f
theorem bm5_some {Az Bz Cz Dz Ez σ : Type} {x : Option (Option σ ⊕ (Az × Bz × Cz × Dz × Ez))} {f : Az → Bz → Cz → Dz → Ez → Option σ} {r : σ} (h : bm5 x f = some r) : ∃ Y, x = some Y ∧ bc5 Y f = some r := by
  cases x with
  | none => cases h
  | some Y => exact ⟨Y, rfl, h⟩
theorem bc5_l {Az Bz Cz Dz Ez σ : Type} {f : Az → Bz → Cz → Dz → Ez → Option σ} {r x : Option σ} (h : bc5 (.inl r) f = x) : r = x := h
theorem bc5_r {Az Bz Cz Dz Ez σ : Type} {f : Az → Bz → Cz → Dz → Ez → Option σ} {a : Az} {b : Bz} {c : Cz} {d : Dz} {e : Ez} {x : Option σ} (h : bc5 (.inr (a, b, c, d, e)) f = x) : f a b c d e = x := h
theorem pr2_some {Az Bz : Type} {a a2 : Az} {b b2 : Bz} (h : some (a, b) = some (a2, b2)) : a = a2 ∧ b = b2 := by
  have h := Option.some.inj h
  simp only [Prod.mk.injEq] at h
  exact h
theorem pr3_some {Az Bz Cz : Type} {a a2 : Az} {b b2 : Bz} {c c2 : Cz} (h : some (a, b, c) = some (a2, b2, c2)) : a = a2 ∧ b = b2 ∧ c = c2 := by
  have h := Option.some.inj h
  simp only [Prod.mk.injEq] at h
  exact h
theorem pr4_some {Az Bz Cz Dz : Type} {a a2 : Az} {b b2 : Bz} {c c2 : Cz} {d d2 : Dz} (h : some (a, b, c, d) = some (a2, b2, c2, d2)) : a = a2 ∧ b = b2 ∧ c = c2 ∧ d = d2 := by
  have h := Option.some.inj h
  simp only [Prod.mk.injEq] at h
  exact h
theorem pr5_some {Az Bz Cz Dz Ez : Type} {a a2 : Az} {b b2 : Bz} {c c2 : Cz} {d d2 : Dz} {e e2 : Ez} (h : some (a, b, c, d, e) = some (a2, b2, c2, d2, e2)) : a = a2 ∧ b = b2 ∧ c = c2 ∧ d = d2 ∧ e = e2 := by
  have h := Option.some.inj h
  simp only [Prod.mk.injEq] at h
  exact h
section BB
variable {p : Program} {l : Launch} {e : Env} {R : Room} {s : State} {m : MethodId} {args : Array Value} {below : List Frame} {meth : Method} {c : Code} {H : Heap} {locs : List Loc} {cells slots : Nat} {Q : State → Prop} {cc : ByteArray} {pc : Nat} {ls : Array Slot} {rest : List Value}
theorem bi_ne {b : Bool} (h : ¬ bi b = 0) : b = true := by cases b <;> first | rfl | exact absurd rfl h
theorem bi_eq {b : Bool} (h : bi b = 0) : ¬ b = true := by
  cases b with
  | false => intro q; cases q
  | true => exact absurd h (by decide)
theorem lv_if_eqb (hexec : p.tables.exec = Jvm.exec) (hb : c.code = cc) {b : Bool} {off : Int} {tgt : Nat} (hdg : decode cc pc = .ok (.ifCond .eq off, 3)) (ht : (pc : Int) + off = (tgt : Int))
    (kt : ¬ b = true → W p l e R s m args below meth c H locs cells slots Q (F0 m tgt ls rest)) (kf : b = true → W p l e R s m args below meth c H locs cells slots Q (F0 m (pc + 3) ls rest)) : W p l e R s m args below meth c H locs cells slots Q (F0 m pc ls (.int (bi b) :: rest)) := lv_if_eq hexec hb hdg ht (fun h => kt (bi_eq h)) (fun h => kf (bi_ne h))
theorem lv_if_neb (hexec : p.tables.exec = Jvm.exec) (hb : c.code = cc) {b : Bool} {off : Int} {tgt : Nat} (hdg : decode cc pc = .ok (.ifCond .ne off, 3)) (ht : (pc : Int) + off = (tgt : Int))
    (kt : b = true → W p l e R s m args below meth c H locs cells slots Q (F0 m tgt ls rest)) (kf : ¬ b = true → W p l e R s m args below meth c H locs cells slots Q (F0 m (pc + 3) ls rest)) : W p l e R s m args below meth c H locs cells slots Q (F0 m pc ls (.int (bi b) :: rest)) := lv_if_ne hexec hb hdg ht (fun h => kt (bi_ne h)) (fun h => kf (bi_eq h))
end BB
