section XCTOR3
/-- the names of a new hall -/
def xN0 (h0 : Nat) (u v w : Nat → Nat) : Nat → Nat := fun k => bif Nat.beq k 0 then h0 else bif Nat.beq k 1 then (u 0) else bif Nat.beq k 2 then (u 12) else bif Nat.beq k 3 then (u 21) else bif Nat.beq k 4 then (u 10) else bif Nat.beq k 5 then (w 4) else bif Nat.beq k 6 then (w 3) else bif Nat.beq k 7 then (w 2) else bif Nat.beq k 8 then (w 1) else bif Nat.beq k 9 then (w 0) else bif Nat.beq k 10 then (u 24) else bif Nat.beq k 11 then (u 3) else bif Nat.beq k 12 then (u 1) else bif Nat.beq k 13 then (u 2) else bif Nat.beq k 14 then (u 11) else bif Nat.beq k 15 then (u 6) else bif Nat.beq k 16 then (u 5) else bif Nat.beq k 17 then (u 7) else bif Nat.beq k 18 then (u 9) else bif Nat.beq k 19 then (u 8) else bif Nat.beq k 20 then (u 17) else bif Nat.beq k 21 then (u 15) else bif Nat.beq k 22 then (u 16) else bif Nat.beq k 23 then (u 19) else bif Nat.beq k 24 then (u 18) else bif Nat.beq k 25 then (u 13) else bif Nat.beq k 26 then (u 14) else bif Nat.beq k 27 then (u 23) else bif Nat.beq k 28 then (u 22) else bif Nat.beq k 29 then (u 4) else bif Nat.beq k 30 then (u 20) else bif Nat.beq k 31 then (v 0) else bif Nat.beq k 32 then (v 1) else bif Nat.beq k 33 then (v 2) else bif Nat.beq k 34 then (v 3) else bif Nat.beq k 35 then (v 4) else 0
/-- other names below 300 -/
def xg0 (g : xG) (n : Nat → Nat) : xG := (g.1, g.2.1, fun k => bif Nat.blt k 300 then n k else g.2.2 k)
def xgS (g g2 : xG) : Prop := g2.1 = g.1 ∧ g2.2.1 = g.2.1 ∧ ∀ k, 300 ≤ k → g2.2.2 k = g.2.2 k
theorem xgS_0 (g : xG) (n : Nat → Nat) : xgS g (xg0 g n) := ⟨rfl, rfl, fun k hk => by
  show (bif Nat.blt k 300 then n k else g.2.2 k) = _
  have : Nat.blt k 300 = false := by
    cases hb : Nat.blt k 300 with
    | false => rfl
    | true => rw [Nat.blt_eq] at hb; omega
  rw [this]
  rfl⟩
theorem xgT.s {g g2 : xG} (h : xgT g g2) : xgS g g2 := ⟨h.1, h.2.1, fun k hk => h.2.2 k (.inr hk)⟩
theorem xE_gS {g g2 : xG} {A : Nat → Prop} {s : State} (hg : xgS g g2) (h : xE g A s) : xE g2 A s := by
  obtain ⟨h1, h2, h3, h4, h5, h6⟩ := h
  have e1 : (fun i => xr g2 (300 + i)) = fun i => xr g (300 + i) := funext fun i => hg.2.2 _ (by omega)
  have e2 : (fun i => xr g2 (320 + i)) = fun i => xr g (320 + i) := funext fun i => hg.2.2 _ (by omega)
  refine ⟨h1, h2, h3, fun i q hq => ?_, ?_, h6⟩
  · show vk_R _ _ _ (g2.2.2 (300 + i)) s
    rw [hg.2.2 _ (by omega)]
    exact h4 i q hq
  · rw [e1, e2]
    exact h5
theorem xJ_gS {g g2 : xG} {A : Nat → Prop} {H0 H : Heap} {s : State} {X : va_W} {locs : List Loc} (hg : xgS g g2) (h : xJ g A H0 s X H locs) : xJ g2 A H0 s X H locs := by
  obtain ⟨D, cs, r⟩ := g
  obtain ⟨D2, cs2, r2⟩ := g2
  obtain ⟨h1, h2, h3⟩ := hg
  have h1 : D2 = D := h1
  have h2 : cs2 = cs := h2
  subst h1
  subst h2
  exact ⟨h.1, h.2.1, h.2.2.1, h.2.2.2.1, h.2.2.2.2.1, h.2.2.2.2.2.1, xE_gS (g := (D2, cs2, r)) (g2 := (D2, cs2, r2)) ⟨rfl, rfl, h3⟩ h.2.2.2.2.2.2⟩
/-- the cells of a new hall in the world's order -/
def xcY (g : xG) (h0 : Nat) (u v w : Nat → Nat) : va_W := [(h0, .inr (11, [.ref (u 0), .ref (u 12), .ref (u 20), .ref (u 21), .ref (u 24), .int 0, .int 0, .int 0, .ref (v 0), .ref (w 0), .ref (w 1), .ref (w 2), .ref (w 3), .ref (w 4)])), ((u 0), .inr (1, [.ref (u 1), .ref (u 2), .ref (u 3), .ref (u 4), .ref (u 5), .ref (u 6), .ref (u 7), .ref (u 8), .ref (u 9), .int 0, .int 0, .int 0, .null, .int (-1), .int 0, .int 0, .int 0, .null, .ref (u 10), .ref (u 11)])), ((u 12), .inr (2, [.int 0, .int 0, .int 0, .int 0, .ref (u 13), .ref (u 14), .ref (u 15), .ref (u 16), .ref (u 17), .ref (u 18), .ref (u 19), .int 0])), ((u 21), .inr (7, [.int (-1), .null, .int 0, .int 0, .int 0, .int 0, .int 0, .int 0, .ref (u 22), .ref (u 23), .int 0])), ((u 10), .inr (4, [.int 0, .int 0, .int 0, .int 0, .int 0])), ((w 4), .inl (xc g 2, 2, .inr (.inl (fun _ => 0)))), ((w 3), .inl (xc g 0, 48, .inl (fun _ => 0))), ((w 2), .inl (xc g 0, 6, .inl (fun _ => 0))), ((w 1), .inl (xc g 0, 4, .inl (fun _ => 0))), ((w 0), .inl (xc g 0, 4, .inl (upd (upd (upd (upd (fun _ => 0) (0 : Int32).toNatClampNeg (-1)) (1 : Int32).toNatClampNeg (-1)) (2 : Int32).toNatClampNeg (-1)) (3 : Int32).toNatClampNeg (-1)))), ((u 24), .inl (xc g 1, 160, .inl (fun _ => 0))), ((u 3), .inl (xc g 0, 4, .inl (upd (upd (upd (upd (fun _ => 0) (0 : Int32).toNatClampNeg 1) (1 : Int32).toNatClampNeg 1) (2 : Int32).toNatClampNeg 1) (3 : Int32).toNatClampNeg 1))), ((u 1), .inl (xc g 0, 4, .inl (upd (upd (upd (upd (fun _ => 0) (0 : Int32).toNatClampNeg 10) (1 : Int32).toNatClampNeg 12) (2 : Int32).toNatClampNeg 14) (3 : Int32).toNatClampNeg 7))), ((u 2), .inl (xc g 0, 4, .inl (upd (upd (upd (upd (fun _ => 0) (0 : Int32).toNatClampNeg 14) (1 : Int32).toNatClampNeg 16) (2 : Int32).toNatClampNeg 19) (3 : Int32).toNatClampNeg 9))), ((u 11), .inl (xc g 0, 6, .inl (fun _ => 0))), ((u 6), .inl (xc g 0, 6, .inl (fun _ => 0))), ((u 5), .inl (xc g 0, 6, .inl (fun _ => 0))), ((u 7), .inl (xc g 0, 6, .inl (fun _ => 0))), ((u 9), .inl (xc g 0, 4, .inl (fun _ => 0))), ((u 8), .inl (xc g 0, 4, .inl (fun _ => 0))), ((u 17), .inl (xc g 0, 4, .inl (fun _ => 0))), ((u 15), .inl (xc g 0, 4, .inl (fun _ => 0))), ((u 16), .inl (xc g 0, 4, .inl (fun _ => 0))), ((u 19), .inl (xc g 0, 4, .inl (fun _ => 0))), ((u 18), .inl (xc g 0, 4, .inl (fun _ => 0))), ((u 13), .inl (xc g 0, 6, .inl (fun _ => 0))), ((u 14), .inl (xc g 0, 48, .inl (fun _ => 0))), ((u 23), .inl (xc g 0, 3, .inl (fun _ => 0))), ((u 22), .inl (xc g 0, 160, .inl (fun _ => 0))), ((u 4), .inl (xc g 3, 6, .inr (.inr (.inr (.inr (fun _ => none)))))), ((u 20), .inl (xc g 4, 6, .inr (.inr (.inr (.inr (fun _ => none)))))), ((v 0), .inl (xc g 5, 4, .inr (.inr (.inr (.inr (fun j => if j < 4 then some (v (1 + j)) else none)))))), ((v 1), .inl (xc g 0, 60, .inl (fun _ => 0))), ((v 2), .inl (xc g 0, 60, .inl (fun _ => 0))), ((v 3), .inl (xc g 0, 60, .inl (fun _ => 0))), ((v 4), .inl (xc g 0, 60, .inl (fun _ => 0)))]
set_option maxRecDepth 100000 in
theorem xcM_perm (g : xG) (h0 : Nat) (u v w : Nat → Nat) : (xcM g h0 u v w).Perm (xcY g h0 u v w) := by
  have h1 : xcM g h0 u v w = ([0, 1, 12, 13, 11, 29, 16, 15, 17, 19, 18, 4, 14, 2, 25, 26, 21, 22, 20, 24, 23, 30, 3, 28, 27, 10, 31, 32, 33, 34, 35, 9, 8, 7, 6, 5] : List Nat).map (fun k => (xcY g h0 u v w).getD k (0, .inr (0, []))) := rfl
  have h2 : xcY g h0 u v w = ([0, 1, 2, 3, 4, 5, 6, 7, 8, 9, 10, 11, 12, 13, 14, 15, 16, 17, 18, 19, 20, 21, 22, 23, 24, 25, 26, 27, 28, 29, 30, 31, 32, 33, 34, 35] : List Nat).map (fun k => (xcY g h0 u v w).getD k (0, .inr (0, []))) := rfl
  rw [h1]
  conv => rhs; rw [h2]
  exact List.Perm.map _ (by decide)
set_option maxRecDepth 100000 in
set_option maxHeartbeats 4000000 in
theorem xcY_A (g : xG) (h0 : Nat) (u v w : Nat → Nat) : xW (xg0 g (xN0 h0 u v w)) xS0 = xcY g h0 u v w := by
  have e29 : (fun j : Nat => if j < 0 then some (xr (xg0 g (xN0 h0 u v w)) (100 + 2 * j)) else none) = fun _ => none := funext fun j => if_neg (Nat.not_lt_zero j)
  have e30 : (fun j : Nat => if j < 0 then some (xr (xg0 g (xN0 h0 u v w)) (200 + 4 * j)) else none) = fun _ => none := funext fun j => if_neg (Nat.not_lt_zero j)
  have e31 : (fun j : Nat => if j < 4 then some (xr (xg0 g (xN0 h0 u v w)) (32 + j)) else none) = fun j => if j < 4 then some (v (1 + j)) else none := funext fun j => by
    by_cases h : j < 4
    · rw [if_pos h, if_pos h]
      have : j = 0 ∨ j = 1 ∨ j = 2 ∨ j = 3 := by omega
      rcases this with rfl | rfl | rfl | rfl <;> rfl
    · rw [if_neg h, if_neg h]
  show [(h0, .inr (11, [.ref (u 0), .ref (u 12), .ref (u 20), .ref (u 21), .ref (u 24), .int 0, .int 0, .int 0, .ref (v 0), .ref (w 0), .ref (w 1), .ref (w 2), .ref (w 3), .ref (w 4)])), ((u 0), .inr (1, [.ref (u 1), .ref (u 2), .ref (u 3), .ref (u 4), .ref (u 5), .ref (u 6), .ref (u 7), .ref (u 8), .ref (u 9), .int 0, .int 0, .int 0, .null, .int (-1), .int 0, .int 0, .int 0, .null, .ref (u 10), .ref (u 11)])), ((u 12), .inr (2, [.int 0, .int 0, .int 0, .int 0, .ref (u 13), .ref (u 14), .ref (u 15), .ref (u 16), .ref (u 17), .ref (u 18), .ref (u 19), .int 0])), ((u 21), .inr (7, [.int (-1), .null, .int 0, .int 0, .int 0, .int 0, .int 0, .int 0, .ref (u 22), .ref (u 23), .int 0])), ((u 10), .inr (4, [.int 0, .int 0, .int 0, .int 0, .int 0])), ((w 4), .inl (xc g 2, 2, .inr (.inl (fun _ => 0)))), ((w 3), .inl (xc g 0, 48, .inl (fun _ => 0))), ((w 2), .inl (xc g 0, 6, .inl (fun _ => 0))), ((w 1), .inl (xc g 0, 4, .inl (fun _ => 0))), ((w 0), .inl (xc g 0, 4, .inl (upd (upd (upd (upd (fun _ => 0) (0 : Int32).toNatClampNeg (-1)) (1 : Int32).toNatClampNeg (-1)) (2 : Int32).toNatClampNeg (-1)) (3 : Int32).toNatClampNeg (-1)))), ((u 24), .inl (xc g 1, 160, .inl (fun _ => 0))), ((u 3), .inl (xc g 0, 4, .inl (upd (upd (upd (upd (fun _ => 0) (0 : Int32).toNatClampNeg 1) (1 : Int32).toNatClampNeg 1) (2 : Int32).toNatClampNeg 1) (3 : Int32).toNatClampNeg 1))), ((u 1), .inl (xc g 0, 4, .inl (upd (upd (upd (upd (fun _ => 0) (0 : Int32).toNatClampNeg 10) (1 : Int32).toNatClampNeg 12) (2 : Int32).toNatClampNeg 14) (3 : Int32).toNatClampNeg 7))), ((u 2), .inl (xc g 0, 4, .inl (upd (upd (upd (upd (fun _ => 0) (0 : Int32).toNatClampNeg 14) (1 : Int32).toNatClampNeg 16) (2 : Int32).toNatClampNeg 19) (3 : Int32).toNatClampNeg 9))), ((u 11), .inl (xc g 0, 6, .inl (fun _ => 0))), ((u 6), .inl (xc g 0, 6, .inl (fun _ => 0))), ((u 5), .inl (xc g 0, 6, .inl (fun _ => 0))), ((u 7), .inl (xc g 0, 6, .inl (fun _ => 0))), ((u 9), .inl (xc g 0, 4, .inl (fun _ => 0))), ((u 8), .inl (xc g 0, 4, .inl (fun _ => 0))), ((u 17), .inl (xc g 0, 4, .inl (fun _ => 0))), ((u 15), .inl (xc g 0, 4, .inl (fun _ => 0))), ((u 16), .inl (xc g 0, 4, .inl (fun _ => 0))), ((u 19), .inl (xc g 0, 4, .inl (fun _ => 0))), ((u 18), .inl (xc g 0, 4, .inl (fun _ => 0))), ((u 13), .inl (xc g 0, 6, .inl (fun _ => 0))), ((u 14), .inl (xc g 0, 48, .inl (fun _ => 0))), ((u 23), .inl (xc g 0, 3, .inl (fun _ => 0))), ((u 22), .inl (xc g 0, 160, .inl (fun _ => 0))), ((u 4), .inl (xc g 3, 6, .inr (.inr (.inr (.inr (fun j => if j < 0 then some (xr (xg0 g (xN0 h0 u v w)) (100 + 2 * j)) else none)))))), ((u 20), .inl (xc g 4, 6, .inr (.inr (.inr (.inr (fun j => if j < 0 then some (xr (xg0 g (xN0 h0 u v w)) (200 + 4 * j)) else none)))))), ((v 0), .inl (xc g 5, 4, .inr (.inr (.inr (.inr (fun j => if j < 4 then some (xr (xg0 g (xN0 h0 u v w)) (32 + j)) else none)))))), ((v 1), .inl (xc g 0, 60, .inl (fun _ => 0))), ((v 2), .inl (xc g 0, 60, .inl (fun _ => 0))), ((v 3), .inl (xc g 0, 60, .inl (fun _ => 0))), ((v 4), .inl (xc g 0, 60, .inl (fun _ => 0)))] = xcY g h0 u v w
  rw [e29, e30, e31]
  rfl
/-- a constructor's contract where nothing stands ahead of its cells -/
def eM0 (l : Launch) (y : MethodName) (bytes : ByteArray) (maxL d mc ms : Nat) (avs : List Value) (g : xG) (L : va_W) (L1 : (Nat → Nat) → va_W) : Prop := ∀ (sz : Nat), Met l y (Cond.code y bytes maxL none :: lw_g) { frames := d, cells := mc, slots := ms, locals := 40 * d } (va_Pc avs (fun U => U.heap.size = sz ∧ va_P g.1 vwCl ([] ++ L) U.heap ∧ va_K g.1 vwCl (xT g) U ∧ va_D (fun _ => True) ([] ++ L) ∧ xE g (va_A ([] ++ L) sz) U)) (va_Qv (fun (_ : Nat → Nat) => True) (fun u t => va_P g.1 vwCl ([] ++ L1 u) t.heap ∧ va_K g.1 vwCl (xT g) t ∧ va_D (va_A ([] ++ L) sz) ([] ++ L1 u)) (va_A ([] ++ L) sz)) mc ms (va_A ([] ++ L) sz)
theorem eM0_of {l : Launch} {y : MethodName} {own : String} {cc : ByteArray} {n d mc ms : Nat} {avs : List Value} {g : xG} {L : va_W} {L1 : (Nat → Nat) → va_W} (hy : plainName y.cls = true) (ho : y.cls = own) (hi : y.name = "<init>") (hav : (lg_sl avs).length ≤ n)
    (body : ∀ (p : Program) (e : Env) (R : Room) (s : State) (m : MethodId) (args : Array Value) (below : List Frame) (meth : Method) (c : Code) (Q : State → Prop) (A : Nat → Prop) (H0 H : Heap) (locs : List Loc) (ls : Array Slot), qC own cc p s m args c → qRoom R d → mc ≤ R.cells ∧ ms ≤ R.slots → c.maxLocals = n → meth.name = "<init>" → xJ g A H0 s ([] ++ L) H locs → lv_has ls n (lv_args 0 avs) →
      (∀ (u : Nat → Nat) (H : Heap) (locs : List Loc) (pc : Nat) (ls : Array Slot), decode cc pc = .ok (.return_, 1) → xJ g A H0 s ([] ++ L1 u) H locs → W p l e R s m args below meth c H locs mc ms Q (F0 m pc ls [])) → W p l e R s m args below meth c H locs 0 0 Q (F0 m 0 ls [])) : eM0 l y cc n d mc ms avs g L L1 := by
  subst ho
  intro sz
  refine Met.ofW (cc := cc) (maxL := n) (ret := none) hy rfl ?_
  intro p e s m args below meth c s₁ B hml hv
  obtain ⟨rfl, hsz, hP, hK, hD0, hE⟩ := hv
  have hts := atoms_spec (ws := Cond.code y cc n none :: lw_g) B.pre
  have hown : s.vm.findClass y.cls = some m.cls := findClass_of_methodNamed B.named
  have hlocks := B.notSynchronized
  have hin : meth.name = "<init>" := (name_of_methodNamed B.named B.method).1.trans hi
  have hl := lv_entry avs (n := n) hav
  rw [lg_entry_eq]
  subst hsz
  refine body p e _ s m _ below meth c _ (va_A ([] ++ L) s.heap.size) s.heap s.heap [] _ ⟨B.exec, B.bytes, hown, fun w hw => hts w (List.mem_cons_of_mem _ hw)⟩ ⟨Nat.le_refl _, Nat.le_refl _⟩ ⟨Nat.le_refl _, Nat.le_refl _⟩ hml hin ⟨hK, hP, hD0.self, va_S.rf, fun q h => Or.inr h, rfl, hE⟩ hl ?_
  intro u H locs pc ls hd hw
  exact W.vret B.exec B.bytes B.returns (fun t ht hW => ⟨⟨u, rfl, trivial, by rw [ht]; exact hw.2.1, va_K.moved hW.alike hw.1, hw.2.2.1⟩, hw.2.2.2.1.F ht⟩) hw.2.2.2.1.2.2 hd
section EC
variable {p : Program} {l : Launch} {e : Env} {R : Room} {s : State} {m : MethodId} {args : Array Value} {below : List Frame} {meth : Method} {c : Code} {H : Heap} {locs : List Loc} {cells slots : Nat} {Q : State → Prop} {cc : ByteArray} {pc : Nat} {ls : Array Slot} {rest : List Value} {g : xG} {L : va_W} {A : Nat → Prop} {H0 : Heap} {own : String} {idx : Nat}
variable {y : MethodName} {bytes : ByteArray} {maxL d db k mc ms b : Nat} {avs As st : List Value} {L1 : (Nat → Nat) → va_W}
theorem e_cv0 (hc : qC own cc p s m args c) (hw : xJ g A H0 s ([] ++ L) H locs) (hR : qRoom R d) (hml : c.maxLocals = ls.size) (hM : eM0 l y bytes maxL db mc ms avs g L L1) (hq : qCi own idx y bytes maxL k) (hlt : db + 1 ≤ d) (hk : As.length = k) (hav : avs = .ref b :: As) (hst : st = As.reverse ++ .ref b :: rest) (hrm : (rest.map fun v => v.category).sum ≤ 8) (hd : decode cc pc = .ok (.invokespecial idx, 3)) (hcs : cells + mc ≤ R.cells ∧ slots + ms ≤ R.slots)
    (kk : ∀ (u : Nat → Nat) (H1 : Heap) (locs1 : List Loc), xJ g A H0 s ([] ++ L1 u) H1 locs1 → W p l e R s m args below meth c H1 locs1 (cells + mc) (slots + ms) Q (F0 m (pc + 3) ls rest)) : W p l e R s m args below meth c H locs cells slots Q (F0 m pc ls st) := by
  subst hst
  subst hav
  have hrm2 := m_room hR hlt hq.2.2.2.2
  refine va_callv (va_runI (n := k) (As := As) (rest := rest) ⟨hc.1, hc.2.1, hml, hc.2.2.1, hc.2.2.2⟩ (hM H.size) (cwI k hc.2.2.2 (gd_ws hq.1.2.2.2) rfl rfl rfl (hc.2.2.2 _ hq.1.2.2.1) (hc.2.2.2 _ hq.1.1) (hc.2.2.2 _ hq.1.2.1) hq.2.1 ⟨hq.2.2.1.1, hq.2.2.1.2, hq.2.2.2.1⟩ hrm2) (ePre hw) rfl hk rfl rfl (lv_room hrm) hd hcs) hw.2.2.2.1 (fun q _ h => va_A_in hw.2.2.1 hw.2.2.2.1 hw.2.2.2.2.1 q h) (va_A_in hw.2.2.1 hw.2.2.2.1 hw.2.2.2.2.1) (fun u t H1 locs1 ht hvm hr2 hB hz1 hk1 hS => ?_)
  exact kk u H1 locs1 ⟨hw.1, by rw [← ht]; exact hB.1, hB.2.2.weaken (fun _ q _ h => va_A_in hw.2.2.1 hw.2.2.2.1 hw.2.2.2.2.1 q.1 h), hS, hw.2.2.2.2⟩
end EC
theorem vr_up_same {α : Type} (l : List Nat) (v : α) : vr_up (fun _ => v) l v = fun _ => v := by
  funext a
  unfold vr_up
  split <;> rfl
end XCTOR3
