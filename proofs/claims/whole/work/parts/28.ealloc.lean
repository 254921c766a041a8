/-! any world of cells, ahead of which others may stand -/
def xJ (g : xG) (A : Nat → Prop) (H0 : Heap) (s : State) (X : va_W) (H : Heap) (locs : List Loc) : Prop := va_K g.1 vwCl (xT g) s ∧ va_P g.1 vwCl X H ∧ va_D A X ∧ va_S A H0 H locs ∧ (∀ q : Nat, H0.size ≤ q → A q) ∧ H0 = s.heap ∧ xE g A s
theorem xJ_I {g : xG} {A : Nat → Prop} {H0 : Heap} {s : State} {S : xS} {H : Heap} {locs : List Loc} (h : xJ g A H0 s (xW g S) H locs) : xI g A H0 s S H locs := h
theorem xI_J {g : xG} {A : Nat → Prop} {H0 : Heap} {s : State} {S : xS} {H : Heap} {locs : List Loc} (h : xI g A H0 s S H locs) : xJ g A H0 s (xW g S) H locs := h
theorem ap_get {α : Type} {X L : List α} {k : Nat} {q : α} (h : L[k]? = some q) : (X ++ L)[X.length + k]? = some q := by
  rw [List.getElem?_append_right (by omega), show X.length + k - X.length = k by omega]
  exact h
theorem ap_set {α : Type} {X L : List α} {k : Nat} {q : α} : (X ++ L).set (X.length + k) q = X ++ L.set k q := by
  rw [List.set_append_right _ _ (by omega), show X.length + k - X.length = k by omega]
section EA
variable {p : Program} {l : Launch} {e : Env} {R : Room} {s : State} {m : MethodId} {args : Array Value} {below : List Frame} {meth : Method} {c : Code} {H : Heap} {locs : List Loc} {cells slots : Nat} {Q : State → Prop} {cc : ByteArray} {pc : Nat} {ls : Array Slot} {rest : List Value} {g : xG} {X L L1 : va_W} {A : Nat → Prop} {H0 : Heap} {own : String} {idx : Nat}
theorem e_newa_i (hc : qC own cc p s m args c) (hw : xJ g A H0 s X H locs) {n : Int32} {N : Nat} (harr : Cond.arrayClass .int ∈ lw_g) (hn : ¬ n < 0) (hN : n.toNatClampNeg = N) (hbytes : N * 8 ≤ 536870912) (hcells : cells + 1 ≤ R.cells) (hslots : slots + N ≤ R.slots) (hdg : decode cc pc = .ok (.newarray .int, 2))
    (kk : ∀ (q : Nat) (H1 : Heap), xJ g A H0 s (X ++ [(q, .inl (xc g 0, N, .inl (fun _ => 0)))]) H1 locs → W p l e R s m args below meth c H1 locs (cells + 1) (slots + N) Q (F0 m (pc + 2) ls (.ref q :: rest))) : W p l e R s m args below meth c H locs cells slots Q (F0 m pc ls (.int n :: rest)) := by
  refine va_newa (atype := .int) (ty := .int) (a0 := (N, .inl (fun _ => 0))) hc.1 hc.2.1 (hc.2.2.2 _ harr) rfl hw.1 hw.2.1 hw.2.2.1 hw.2.2.2.1 hw.2.2.2.2.1 (fun cA => rfl) hn hN (Nat.le_trans (Nat.mul_le_mul_left N (by decide)) hbytes) hcells hslots hdg (fun q cA H1 hK hP hD hS => ?_)
  have h1 : s.vm.findClass ("[" ++ (FieldType.int).toString) = some cA := (hK.2 6 (cA, .int) rfl).2
  have h2 : s.vm.findClass ("[" ++ (FieldType.int).toString) = some (xc g 0) := (hw.1.2 0 _ rfl).2
  cases Option.some.inj (h1.symm.trans h2)
  exact kk q H1 ⟨hw.1, hP, hD, hS, hw.2.2.2.2⟩
theorem e_newa_b (hc : qC own cc p s m args c) (hw : xJ g A H0 s X H locs) {n : Int32} {N : Nat} (harr : Cond.arrayClass .byte ∈ lw_g) (hn : ¬ n < 0) (hN : n.toNatClampNeg = N) (hbytes : N * 8 ≤ 536870912) (hcells : cells + 1 ≤ R.cells) (hslots : slots + N ≤ R.slots) (hdg : decode cc pc = .ok (.newarray .byte, 2))
    (kk : ∀ (q : Nat) (H1 : Heap), xJ g A H0 s (X ++ [(q, .inl (xc g 1, N, .inl (fun _ => 0)))]) H1 locs → W p l e R s m args below meth c H1 locs (cells + 1) (slots + N) Q (F0 m (pc + 2) ls (.ref q :: rest))) : W p l e R s m args below meth c H locs cells slots Q (F0 m pc ls (.int n :: rest)) := by
  refine va_newa (atype := .byte) (ty := .byte) (a0 := (N, .inl (fun _ => 0))) hc.1 hc.2.1 (hc.2.2.2 _ harr) rfl hw.1 hw.2.1 hw.2.2.1 hw.2.2.2.1 hw.2.2.2.2.1 (fun cA => rfl) hn hN (Nat.le_trans (Nat.mul_le_mul_left N (by decide)) hbytes) hcells hslots hdg (fun q cA H1 hK hP hD hS => ?_)
  have h1 : s.vm.findClass ("[" ++ (FieldType.byte).toString) = some cA := (hK.2 6 (cA, .byte) rfl).2
  have h2 : s.vm.findClass ("[" ++ (FieldType.byte).toString) = some (xc g 1) := (hw.1.2 1 _ rfl).2
  cases Option.some.inj (h1.symm.trans h2)
  exact kk q H1 ⟨hw.1, hP, hD, hS, hw.2.2.2.2⟩
theorem e_newa_l (hc : qC own cc p s m args c) (hw : xJ g A H0 s X H locs) {n : Int32} {N : Nat} (harr : Cond.arrayClass .long ∈ lw_g) (hn : ¬ n < 0) (hN : n.toNatClampNeg = N) (hbytes : N * 8 ≤ 536870912) (hcells : cells + 1 ≤ R.cells) (hslots : slots + N ≤ R.slots) (hdg : decode cc pc = .ok (.newarray .long, 2))
    (kk : ∀ (q : Nat) (H1 : Heap), xJ g A H0 s (X ++ [(q, .inl (xc g 2, N, .inr (.inl (fun _ => 0))))]) H1 locs → W p l e R s m args below meth c H1 locs (cells + 1) (slots + N) Q (F0 m (pc + 2) ls (.ref q :: rest))) : W p l e R s m args below meth c H locs cells slots Q (F0 m pc ls (.int n :: rest)) := by
  refine va_newa (atype := .long) (ty := .long) (a0 := (N, .inr (.inl (fun _ => 0)))) hc.1 hc.2.1 (hc.2.2.2 _ harr) rfl hw.1 hw.2.1 hw.2.2.1 hw.2.2.2.1 hw.2.2.2.2.1 (fun cA => rfl) hn hN (Nat.le_trans (Nat.mul_le_mul_left N (by decide)) hbytes) hcells hslots hdg (fun q cA H1 hK hP hD hS => ?_)
  have h1 : s.vm.findClass ("[" ++ (FieldType.long).toString) = some cA := (hK.2 6 (cA, .long) rfl).2
  have h2 : s.vm.findClass ("[" ++ (FieldType.long).toString) = some (xc g 2) := (hw.1.2 2 _ rfl).2
  cases Option.some.inj (h1.symm.trans h2)
  exact kk q H1 ⟨hw.1, hP, hD, hS, hw.2.2.2.2⟩
theorem e_newq (hc : qC own cc p s m args c) (hw : xJ g A H0 s X H locs) {C : String} (t0 : Nat) (ht : (xT g)[t0]? = some (xc g t0, .object C)) {n : Int32} {N : Nat} (hcl : Cond.classLink own idx C ∈ lw_g) (hover : va_AO C s) (hn : ¬ n < 0) (hN : n.toNatClampNeg = N) (hbytes : N * 4 ≤ 536870912) (hcells : cells + 1 ≤ R.cells) (hslots : slots + N ≤ R.slots) (hdg : decode cc pc = .ok (.anewarray idx, 3))
    (kk : ∀ (q : Nat) (H1 : Heap), xJ g A H0 s (X ++ [(q, .inl (xc g t0, N, .inr (.inr (.inr (.inr (fun _ => none))))))]) H1 locs → W p l e R s m args below meth c H1 locs (cells + 1) (slots + N) Q (F0 m (pc + 3) ls (.ref q :: rest))) : W p l e R s m args below meth c H locs cells slots Q (F0 m pc ls (.int n :: rest)) := by
  refine va_newq hc.1 hc.2.1 hc.2.2.1 (hc.2.2.2 _ hcl) hover hw.1 hw.2.1 hw.2.2.1 hw.2.2.2.1 hw.2.2.2.2.1 hn hN hbytes hcells hslots hdg (fun q cA H1 hK hP hD hS => ?_)
  obtain ⟨_, _, _, _, _, h1⟩ := (hK.2 6 (cA, .object C) rfl).2
  obtain ⟨_, _, _, _, _, h2⟩ := (hw.1.2 t0 _ ht).2
  cases Option.some.inj (h1.symm.trans h2)
  exact kk q H1 ⟨hw.1, hP, hD, hS, hw.2.2.2.2⟩
theorem e_new (hc : qC own cc p s m args c) (hw : xJ g A H0 s X H locs) {C : String} {T : u_T} {N ci : Nat} (hin : ∀ w ∈ u_ws C T N, w ∈ lw_g) (ty : Nat → FieldType) (hty : ∀ k, k < N → parseFieldDescriptor (T k).2.2.1 = some (ty k)) (hcl : Cond.classLink own idx C ∈ lw_g) (hinst : Cond.instantiable C N ∈ lw_g) (hini : Cond.initialized C ∈ lw_g) (hcc : vwCl[ci]? = some (C, T, N)) {fs : List Value} (hfs : ∀ j, j < N → defaultValue (ty j) = vp_V fs j) (hcells : cells + 1 ≤ R.cells) (hslots : slots + N ≤ R.slots) (hdg : decode cc pc = .ok (.new idx, 3))
    (kk : ∀ (q : Nat) (H1 : Heap), xJ g A H0 s (X ++ [(q, .inr (ci, fs))]) H1 locs → W p l e R s m args below meth c H1 locs (cells + 1) (slots + N) Q (F0 m (pc + 3) ls (.ref q :: rest))) : W p l e R s m args below meth c H locs cells slots Q (F0 m pc ls rest) :=
  va_new hc.1 hc.2.1 hc.2.2.2 hin ty hty hc.2.2.1 (hc.2.2.2 _ hcl) (hc.2.2.2 _ hinst) (hc.2.2.2 _ hini) hw.1 hw.2.1 hw.2.2.1 hw.2.2.2.1 hw.2.2.2.2.1 hcc hfs hcells hslots hdg (fun q H1 hP hD hS => kk q H1 ⟨hw.1, hP, hD, hS, hw.2.2.2.2⟩)
theorem e_get (hc : qC own cc p s m args c) (hw : xJ g A H0 s (X ++ L) H locs) {C ref : String} {T : u_T} {N ci a : Nat} {fs : List Value} (hin : ∀ w ∈ u_ws C T N, w ∈ lw_g) (q0 : Nat) (he : L[q0]? = some (a, .inr (ci, fs))) (hcc : vwCl[ci]? = some (C, T, N)) (k : Nat) (hk : k < N) (hlink : Cond.fieldLink own idx ref (T k).2.1 (T k).2.2.1 ∈ lw_g) (hsame : ∀ x, s.fieldFound? (T k).1 (T k).2.1 (T k).2.2.1 = some x → s.fieldFound? ref (T k).2.1 (T k).2.2.1 = some x) {v : Value} (hv : fs[k]? = some v) (hdg : decode cc pc = .ok (.getfield idx, 3)) (kk : W p l e R s m args below meth c H locs cells slots Q (F0 m (pc + 3) ls (v :: rest))) : W p l e R s m args below meth c H locs cells slots Q (F0 m pc ls (.ref a :: rest)) :=
  va_get hc.1 hc.2.1 hc.2.2.2 hin hc.2.2.1 hw.1 hw.2.1 (X.length + q0) (ap_get he) hcc k hk (hc.2.2.2 _ hlink) hsame hv hdg kk
theorem e_put (hc : qC own cc p s m args c) (hw : xJ g A H0 s (X ++ L) H locs) {C ref : String} {T : u_T} {N ci a : Nat} {fs : List Value} (hin : ∀ w ∈ u_ws C T N, w ∈ lw_g) (ty0 : Nat → FieldType) (hty : ∀ k, k < N → parseFieldDescriptor (T k).2.2.1 = some (ty0 k)) (hnm : ∀ a, a < N → ∀ b, b < N → a ≠ b → (T a).2.1 ≠ (T b).2.1) (q0 : Nat) (he : L[q0]? = some (a, .inr (ci, fs))) (hcc : vwCl[ci]? = some (C, T, N)) (k : Nat) (hk : k < N) (hlink : Cond.fieldLink own idx ref (T k).2.1 (T k).2.2.1 ∈ lw_g) (hsame : ∀ x, s.fieldFound? (T k).1 (T k).2.1 (T k).2.2.1 = some x → s.fieldFound? ref (T k).2.1 (T k).2.2.1 = some x) (hfin : (T k).2.2.2 = false) {ty : FieldType} {v : Value} (hd : parseFieldDescriptor (T k).2.2.1 = some ty) (hn : narrow ty v = v) (hfit : fits ty v = true) (hl : k < fs.length) (hL : L.set q0 (a, .inr (ci, fs.set k v)) = L1) (hdg : decode cc pc = .ok (.putfield idx, 3))
    (kk : ∀ (H1 : Heap) (locs1 : List Loc), xJ g A H0 s (X ++ L1) H1 locs1 → W p l e R s m args below meth c H1 locs1 cells slots Q (F0 m (pc + 3) ls rest)) : W p l e R s m args below meth c H locs cells slots Q (F0 m pc ls (v :: .ref a :: rest)) := by
  have hset : (X ++ L).set (X.length + q0) (a, .inr (ci, fs.set k v)) = X ++ L1 := by rw [ap_set, hL]
  exact va_put hc.1 hc.2.1 hc.2.2.2 hin ty0 hty hnm hc.2.2.1 hw.1 hw.2.1 hw.2.2.1 hw.2.2.2.1 (X.length + q0) (ap_get he) hcc k hk (hc.2.2.2 _ hlink) hsame hfin hd hn hfit hl hdg (fun H1 locs1 hP hD hS1 => kk H1 locs1 ⟨hw.1, hset ▸ hP, hset ▸ hD, hS1, hw.2.2.2.2⟩)
theorem e_putF (hc : qC own cc p s m args c) (hw : xJ g A H0 s (X ++ L) H locs) {C ref : String} {T : u_T} {N ci a : Nat} {fs : List Value} (hin : ∀ w ∈ u_ws C T N, w ∈ lw_g) (ty0 : Nat → FieldType) (hty : ∀ k, k < N → parseFieldDescriptor (T k).2.2.1 = some (ty0 k)) (hnm : ∀ a, a < N → ∀ b, b < N → a ≠ b → (T a).2.1 ≠ (T b).2.1) (q0 : Nat) (he : L[q0]? = some (a, .inr (ci, fs))) (hcc : vwCl[ci]? = some (C, T, N)) (k : Nat) (hk : k < N) (hlink : Cond.fieldLink own idx ref (T k).2.1 (T k).2.2.1 ∈ lw_g) (hsame : ∀ x, s.fieldFound? (T k).1 (T k).2.1 (T k).2.2.1 = some x → s.fieldFound? ref (T k).2.1 (T k).2.2.1 = some x) (hfin : (T k).2.2.2 = true) (hin2 : meth.name = "<init>") (hdecl : (T k).1 = own) {ty : FieldType} {v : Value} (hd : parseFieldDescriptor (T k).2.2.1 = some ty) (hn : narrow ty v = v) (hfit : fits ty v = true) (hl : k < fs.length) (hL : L.set q0 (a, .inr (ci, fs.set k v)) = L1) (hdg : decode cc pc = .ok (.putfield idx, 3))
    (kk : ∀ (H1 : Heap) (locs1 : List Loc), xJ g A H0 s (X ++ L1) H1 locs1 → W p l e R s m args below meth c H1 locs1 cells slots Q (F0 m (pc + 3) ls rest)) : W p l e R s m args below meth c H locs cells slots Q (F0 m pc ls (v :: .ref a :: rest)) := by
  have hset : (X ++ L).set (X.length + q0) (a, .inr (ci, fs.set k v)) = X ++ L1 := by rw [ap_set, hL]
  exact va_putF hc.1 hc.2.1 hc.2.2.2 hin ty0 hty hnm hc.2.2.1 hw.1 hw.2.1 hw.2.2.1 hw.2.2.2.1 (X.length + q0) (ap_get he) hcc k hk (hc.2.2.2 _ hlink) hsame hfin hin2 hdecl hd hn hfit hl hdg (fun H1 locs1 hP hD hS1 => kk H1 locs1 ⟨hw.1, hset ▸ hP, hset ▸ hD, hS1, hw.2.2.2.2⟩)
theorem e_iast (hc : qC own cc p s m args c) (hw : xJ g A H0 s (X ++ L) H locs) {n a : Nat} {f : Nat → Int32} (q0 : Nat) (he : L[q0]? = some (a, .inl (xc g 0, n, .inl f))) {i x : Int32} (hin : vp_in i n) (hL : L.set q0 (a, .inl (xc g 0, n, .inl (upd f i.toNatClampNeg x))) = L1) (hdg : decode cc pc = .ok (.iastore, 1))
    (kk : ∀ (H1 : Heap) (locs1 : List Loc), xJ g A H0 s (X ++ L1) H1 locs1 → W p l e R s m args below meth c H1 locs1 cells slots Q (F0 m (pc + 1) ls rest)) : W p l e R s m args below meth c H locs cells slots Q (F0 m pc ls (.int x :: .int i :: .ref a :: rest)) := by
  have hset : (X ++ L).set (X.length + q0) (a, .inl (xc g 0, n, .inl (upd f i.toNatClampNeg x))) = X ++ L1 := by rw [ap_set, hL]
  exact va_iast hc.1 hc.2.1 hw.1 hw.2.1 hw.2.2.1 hw.2.2.2.1 (X.length + q0) 0 (ap_get he) rfl hin hdg (fun H1 locs1 hP hD hS1 => kk H1 locs1 ⟨hw.1, hset ▸ hP, hset ▸ hD, hS1, hw.2.2.2.2⟩)
theorem e_last (hc : qC own cc p s m args c) (hw : xJ g A H0 s (X ++ L) H locs) {n a : Nat} {f : Nat → Int64} (q0 : Nat) (he : L[q0]? = some (a, .inl (xc g 2, n, .inr (.inl f)))) {i : Int32} {x : Int64} (hin : vp_in i n) (hL : L.set q0 (a, .inl (xc g 2, n, .inr (.inl (vp_updL f i.toNatClampNeg x)))) = L1) (hdg : decode cc pc = .ok (.lastore, 1))
    (kk : ∀ (H1 : Heap) (locs1 : List Loc), xJ g A H0 s (X ++ L1) H1 locs1 → W p l e R s m args below meth c H1 locs1 cells slots Q (F0 m (pc + 1) ls rest)) : W p l e R s m args below meth c H locs cells slots Q (F0 m pc ls (.long x :: .int i :: .ref a :: rest)) := by
  have hset : (X ++ L).set (X.length + q0) (a, .inl (xc g 2, n, .inr (.inl (vp_updL f i.toNatClampNeg x)))) = X ++ L1 := by rw [ap_set, hL]
  exact va_last hc.1 hc.2.1 hw.1 hw.2.1 hw.2.2.1 hw.2.2.2.1 (X.length + q0) 2 (ap_get he) rfl hin hdg (fun H1 locs1 hP hD hS1 => kk H1 locs1 ⟨hw.1, hset ▸ hP, hset ▸ hD, hS1, hw.2.2.2.2⟩)
end EA
/-- a constructor's contract: ahead of its cells any others X may stand; u: the addresses of what it makes -/
def eMv (l : Launch) (y : MethodName) (bytes : ByteArray) (maxL d mc ms : Nat) (avs : List Value) (g : xG) (L : va_W) (L1 : (Nat → Nat) → va_W) : Prop := ∀ (X : va_W) (sz : Nat), Met l y (Cond.code y bytes maxL none :: lw_g) { frames := d, cells := mc, slots := ms, locals := 40 * d } (va_Pc avs (fun U => U.heap.size = sz ∧ va_P g.1 vwCl (X ++ L) U.heap ∧ va_K g.1 vwCl (xT g) U ∧ va_D (fun _ => True) (X ++ L) ∧ xE g (va_A (X ++ L) sz) U)) (va_Qv (fun (_ : Nat → Nat) => True) (fun u t => va_P g.1 vwCl (X ++ L1 u) t.heap ∧ va_K g.1 vwCl (xT g) t ∧ va_D (va_A (X ++ L) sz) (X ++ L1 u)) (va_A (X ++ L) sz)) mc ms (va_A (X ++ L) sz)
theorem eMv_of {l : Launch} {y : MethodName} {own : String} {cc : ByteArray} {n d mc ms : Nat} {avs : List Value} {g : xG} {L : va_W} {L1 : (Nat → Nat) → va_W} (hy : plainName y.cls = true) (ho : y.cls = own) (hi : y.name = "<init>") (hav : (lg_sl avs).length ≤ n)
    (body : ∀ (p : Program) (e : Env) (R : Room) (s : State) (m : MethodId) (args : Array Value) (below : List Frame) (meth : Method) (c : Code) (Q : State → Prop) (X : va_W) (A : Nat → Prop) (H0 H : Heap) (locs : List Loc) (ls : Array Slot), qC own cc p s m args c → qRoom R d → mc ≤ R.cells ∧ ms ≤ R.slots → c.maxLocals = n → meth.name = "<init>" → xJ g A H0 s (X ++ L) H locs → lv_has ls n (lv_args 0 avs) →
      (∀ (u : Nat → Nat) (H : Heap) (locs : List Loc) (pc : Nat) (ls : Array Slot), decode cc pc = .ok (.return_, 1) → xJ g A H0 s (X ++ L1 u) H locs → W p l e R s m args below meth c H locs mc ms Q (F0 m pc ls [])) → W p l e R s m args below meth c H locs 0 0 Q (F0 m 0 ls [])) : eMv l y cc n d mc ms avs g L L1 := by
  subst ho
  intro X sz
  refine Met.ofW (cc := cc) (maxL := n) (ret := none) hy rfl ?_
  intro p e s m args below meth c s₁ B hml hv
  obtain ⟨rfl, hsz, hP, hK, hD0, hE⟩ := hv
  have hts := atoms_spec (ws := Cond.code y cc n none :: lw_g) B.pre
  have hown : s.vm.findClass y.cls = some m.cls := findClass_of_methodNamed B.named
  have hlocks := B.notSynchronized
  have hin : meth.name = "<init>" := (name_of_methodNamed B.named B.method).1.trans hi
  have hl := lv_entry avs (n := n) hav
  rw [lg_entry_eq]
  subst hsz
  refine body p e _ s m _ below meth c _ X (va_A (X ++ L) s.heap.size) s.heap s.heap [] _ ⟨B.exec, B.bytes, hown, fun w hw => hts w (List.mem_cons_of_mem _ hw)⟩ ⟨Nat.le_refl _, Nat.le_refl _⟩ ⟨Nat.le_refl _, Nat.le_refl _⟩ hml hin ⟨hK, hP, hD0.self, va_S.rf, fun q h => Or.inr h, rfl, hE⟩ hl ?_
  intro u H locs pc ls hd hw
  exact W.vret B.exec B.bytes B.returns (fun t ht hW => ⟨⟨u, rfl, trivial, by rw [ht]; exact hw.2.1, va_K.moved hW.alike hw.1, hw.2.2.1⟩, hw.2.2.2.1.F ht⟩) hw.2.2.2.1.2.2 hd
section EC
variable {p : Program} {l : Launch} {e : Env} {R : Room} {s : State} {m : MethodId} {args : Array Value} {below : List Frame} {meth : Method} {c : Code} {H : Heap} {locs : List Loc} {cells slots : Nat} {Q : State → Prop} {cc : ByteArray} {pc : Nat} {ls : Array Slot} {rest : List Value} {g : xG} {X Y L : va_W} {A : Nat → Prop} {H0 : Heap} {own : String} {idx : Nat}
variable {y : MethodName} {bytes : ByteArray} {maxL d db k mc ms b : Nat} {avs As st : List Value} {L1 : (Nat → Nat) → va_W}
def qCi (own : String) (idx : Nat) (y : MethodName) (bytes : ByteArray) (maxL n : Nat) : Prop := (Cond.methodLink own idx y ∈ lw_g ∧ Cond.instanceMethod y ∈ lw_g ∧ Cond.initialized y.cls ∈ lw_g ∧ Cond.code y bytes maxL none ∈ lw_g) ∧ y.name = "<init>" ∧ (y.cls ≠ "java/lang/invoke/MethodHandle" ∧ y.cls ≠ "java/lang/invoke/VarHandle") ∧ (parseMethodDescriptor y.desc).map (fun d => d.parameters.length) = some n ∧ maxL ≤ 21
def qCin (own : String) (idx : Nat) (y : MethodName) (bytes : ByteArray) (maxL n : Nat) : Prop := ((own, idx, y) ∈ xNest ∧ Cond.instanceMethod y ∈ lw_g ∧ Cond.initialized y.cls ∈ lw_g ∧ Cond.code y bytes maxL none ∈ lw_g) ∧ y.name = "<init>" ∧ (y.cls ≠ "java/lang/invoke/MethodHandle" ∧ y.cls ≠ "java/lang/invoke/VarHandle") ∧ (parseMethodDescriptor y.desc).map (fun d => d.parameters.length) = some n ∧ maxL ≤ 21
theorem ePre (hw : xJ g A H0 s (Y ++ L) H locs) : PreS s H (va_Pc avs (fun U => U.heap.size = H.size ∧ va_P g.1 vwCl (Y ++ L) U.heap ∧ va_K g.1 vwCl (xT g) U ∧ va_D (fun _ => True) (Y ++ L) ∧ xE g (va_A (Y ++ L) H.size) U)) avs := by
  refine ⟨fun a U g2 mk q => ?_, fun U hU hW => ?_⟩
  · obtain ⟨q0, q1, qP, qK, qD, qE⟩ := q
    exact ⟨q0, q1, qP, va_K.moved (u := U) (U := U.calling g2 mk a) (Vm.Alike.refl U.vm) qK, qD, xE_same (u := U) (U := U.calling g2 mk a) rfl rfl qE⟩
  · have h0 := hw.2.2.2.2.2.1
    exact ⟨rfl, by rw [hU], by rw [hU]; exact hw.2.1, va_K.moved hW.alike hw.1, hw.2.2.1.weaken (fun _ _ _ _ => trivial), xE_go (h0 ▸ hw.2.2.2.1) hW hU (va_A_in hw.2.2.1 hw.2.2.2.1 hw.2.2.2.2.1) hw.2.2.2.2.2.2⟩
theorem e_cvi (hc : qC own cc p s m args c) (hw : xJ g A H0 s (Y ++ L) H locs) (hR : qRoom R d) (hml : c.maxLocals = ls.size) (hM : eMv l y bytes maxL db mc ms avs g L L1) (hq : qCi own idx y bytes maxL k) (hlt : db + 1 ≤ d) (hk : As.length = k) (hav : avs = .ref b :: As) (hst : st = As.reverse ++ .ref b :: rest) (hrm : (rest.map fun v => v.category).sum ≤ 8) (hd : decode cc pc = .ok (.invokespecial idx, 3)) (hcs : cells + mc ≤ R.cells ∧ slots + ms ≤ R.slots)
    (kk : ∀ (u : Nat → Nat) (H1 : Heap) (locs1 : List Loc), xJ g A H0 s (Y ++ L1 u) H1 locs1 → W p l e R s m args below meth c H1 locs1 (cells + mc) (slots + ms) Q (F0 m (pc + 3) ls rest)) : W p l e R s m args below meth c H locs cells slots Q (F0 m pc ls st) := by
  subst hst
  subst hav
  have hrm2 := m_room hR hlt hq.2.2.2.2
  refine va_callv (va_runI (n := k) (As := As) (rest := rest) ⟨hc.1, hc.2.1, hml, hc.2.2.1, hc.2.2.2⟩ (hM Y H.size) (cwI k hc.2.2.2 (gd_ws hq.1.2.2.2) rfl rfl rfl (hc.2.2.2 _ hq.1.2.2.1) (hc.2.2.2 _ hq.1.1) (hc.2.2.2 _ hq.1.2.1) hq.2.1 ⟨hq.2.2.1.1, hq.2.2.1.2, hq.2.2.2.1⟩ hrm2) (ePre hw) rfl hk rfl rfl (lv_room hrm) hd hcs) hw.2.2.2.1 (fun q _ h => va_A_in hw.2.2.1 hw.2.2.2.1 hw.2.2.2.2.1 q h) (va_A_in hw.2.2.1 hw.2.2.2.1 hw.2.2.2.2.1) (fun u t H1 locs1 ht hvm hr2 hB hz1 hk1 hS => ?_)
  exact kk u H1 locs1 ⟨hw.1, by rw [← ht]; exact hB.1, hB.2.2.weaken (fun _ q _ h => va_A_in hw.2.2.1 hw.2.2.2.1 hw.2.2.2.2.1 q.1 h), hS, hw.2.2.2.2⟩
theorem e_cvn (hc : qC own cc p s m args c) (hw : xJ g A H0 s (Y ++ L) H locs) (hR : qRoom R d) (hml : c.maxLocals = ls.size) (hM : eMv l y bytes maxL db mc ms avs g L L1) (hq : qCin own idx y bytes maxL k) (hlt : db + 1 ≤ d) (hk : As.length = k) (hav : avs = .ref b :: As) (hst : st = As.reverse ++ .ref b :: rest) (hrm : (rest.map fun v => v.category).sum ≤ 8) (hd : decode cc pc = .ok (.invokespecial idx, 3)) (hcs : cells + mc ≤ R.cells ∧ slots + ms ≤ R.slots)
    (kk : ∀ (u : Nat → Nat) (H1 : Heap) (locs1 : List Loc), xJ g A H0 s (Y ++ L1 u) H1 locs1 → W p l e R s m args below meth c H1 locs1 (cells + mc) (slots + ms) Q (F0 m (pc + 3) ls rest)) : W p l e R s m args below meth c H locs cells slots Q (F0 m pc ls st) := by
  subst hst
  subst hav
  have hrm2 := m_room hR hlt hq.2.2.2.2
  refine va_callv (va_runIN (n := k) (host := "OverTheHeads") (As := As) (rest := rest) ⟨hc.1, hc.2.1, hml, hc.2.2.1, hc.2.2.2⟩ (hM Y H.size) ⟨va_cnB k hc.2.2.2 (gd_ws hq.1.2.2.2) rfl rfl rfl (hw.2.2.2.2.2.2.1 _ hq.1.1) (hc.2.2.2 _ hq.1.2.2.1) ⟨hq.2.2.1.1, hq.2.2.1.2, hq.2.2.2.1⟩ hrm2, hq.2.1, hc.2.2.2 _ hq.1.2.1⟩ (ePre hw) rfl hk rfl rfl (lv_room hrm) hd hcs) hw.2.2.2.1 (fun q _ h => va_A_in hw.2.2.1 hw.2.2.2.1 hw.2.2.2.2.1 q h) (va_A_in hw.2.2.1 hw.2.2.2.1 hw.2.2.2.2.1) (fun u t H1 locs1 ht hvm hr2 hB hz1 hk1 hS => ?_)
  exact kk u H1 locs1 ⟨hw.1, by rw [← ht]; exact hB.1, hB.2.2.weaken (fun _ q _ h => va_A_in hw.2.2.1 hw.2.2.2.1 hw.2.2.2.2.1 q.1 h), hS, hw.2.2.2.2⟩
end EC
