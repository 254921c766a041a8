/-! a text read, or none -/
def txL (g : xG) (S : xS) (K : Nat) (h a b u : Nat) : va_W := [(a, .inl (xc g 0, K, .inl (va_cpy (S.1 46) (fun _ => 0) 0 0 K))), (b, .inl (xc g 0, 3, .inl (va_cpy (S.1 47) (fun _ => 0) 0 0 3))), (h, .inr (10, [.ref a, .ref b, .ref u])), (u, .inl (xc g 0, 32, .inl (fun _ => 0)))]
def txR (g : xG) (S : xS) (res : Int32) (w : Nat × Nat × Nat × Nat) : va_W := if res = 1 then txL g S (S.1 48 0).toNatClampNeg w.1 w.2.1 w.2.2.1 w.2.2.2 else []
def txo (res : Int32) (w : Nat × Nat × Nat × Nat) : Option Nat := if res = 1 then some w.1 else none
def xMt (l : Launch) (y : MethodName) (bytes : ByteArray) (maxL : Nat) (ty : FieldType) (d mc ms : Nat) (avs : xG → List Value) (S : xS) (res : Int32) (S1 : xS) : Prop := ∀ (g : xG) (sz : Nat), Met l y (Cond.code y bytes maxL (some ty) :: lw_g) { frames := d, cells := mc, slots := ms, locals := 40 * d } (xPc g avs S sz) (va_Qq (fun x (w : Nat × Nat × Nat × Nat) => x = txo res w) (fun w t => va_P g.1 vwCl (xW g S1 ++ txR g S1 res w) t.heap ∧ va_K g.1 vwCl (xT g) t ∧ va_D (va_A (xW g S) sz) (xW g S1 ++ txR g S1 res w)) (va_A (xW g S) sz)) mc ms (va_A (xW g S) sz)
theorem xMt_of {l : Launch} {y : MethodName} {own : String} {cc : ByteArray} {n d mc ms : Nat} {ty : FieldType} {avs : xG → List Value} {S S1 : xS} {r : Int32} (hy : plainName y.cls = true) (ho : y.cls = own) (hn : (∃ n, ty = .object n) ∨ ∃ t, ty = .array t) (hav : ∀ g, (lg_sl (avs g)).length ≤ n)
    (body : ∀ (p : Program) (e : Env) (R : Room) (s : State) (m : MethodId) (args : Array Value) (below : List Frame) (meth : Method) (c : Code) (Q : State → Prop) (g : xG) (A : Nat → Prop) (H0 H : Heap) (locs : List Loc) (ls : Array Slot), qC own cc p s m args c → qRoom R d → mc ≤ R.cells ∧ ms ≤ R.slots → c.maxLocals = n → xI g A H0 s S H locs → lv_has ls n (lv_args 0 (avs g)) →
      (∀ (w : Nat × Nat × Nat × Nat) (H : Heap) (locs : List Loc) (pc : Nat) (ls : Array Slot), decode cc pc = .ok (.areturn, 1) → xJ g A H0 s (xW g S1 ++ txR g S1 r w) H locs → W p l e R s m args below meth c H locs mc ms Q (F0 m pc ls [va_rf (txo r w)])) → W p l e R s m args below meth c H locs 0 0 Q (F0 m 0 ls [])) : xMt l y cc n ty d mc ms avs S r S1 := by
  subst ho
  intro g sz
  refine Met.ofW (cc := cc) (maxL := n) (ret := some ty) hy rfl ?_
  intro p e s m args below meth c s₁ B hml hv
  obtain ⟨rfl, hsz, hP, hK, hD0, hE⟩ := hv
  have hts := atoms_spec (ws := Cond.code y cc n (some ty) :: lw_g) B.pre
  have hown : s.vm.findClass y.cls = some m.cls := findClass_of_methodNamed B.named
  have hlocks := B.notSynchronized
  have hl := lv_entry (avs g) (n := n) (hav g)
  rw [lg_entry_eq]
  refine body p e _ s m _ below meth c _ g (va_A (xW g S) sz) s.heap s.heap [] _ ⟨B.exec, B.bytes, hown, fun w hw => hts w (List.mem_cons_of_mem _ hw)⟩ ⟨Nat.le_refl _, Nat.le_refl _⟩ ⟨Nat.le_refl _, Nat.le_refl _⟩ hml (xI_of_Pc hsz hP hK hD0 hE) hl ?_
  intro w H locs pc ls hd hw
  exact W.aret B.exec B.bytes B.returns hn (va_rf_or _) (fun t ht hW => ⟨⟨txo r w, w, rfl, rfl, by rw [ht]; exact hw.2.1, va_K.moved hW.alike hw.1, hw.2.2.1⟩, hw.2.2.2.1.F ht⟩) hw.2.2.2.1.2.2 hd
theorem xJ_pre {g : xG} {A : Nat → Prop} {H0 H : Heap} {s : State} {X L : va_W} {locs : List Loc} (h : xJ g A H0 s (X ++ L) H locs) : xJ g A H0 s X H locs := by
  have hm : ∀ (k : Nat) (q : Nat × va_E), X[k]? = some q → (X ++ L)[k]? = some q := fun k q hk => (List.getElem?_append_left (List.getElem?_eq_some_iff.mp hk).1).trans hk
  exact ⟨h.1, fun k q hk => h.2.1 k q (hm k q hk), ⟨fun i j p q hi hj => h.2.2.1.1 i j p q (hm i p hi) (hm j q hj), fun k q hk => h.2.2.1.2 k q (hm k q hk)⟩, h.2.2.2⟩
theorem ok_160 {k : Int32} (h : ok k 161 = true) : ¬ k < 0 ∧ k.toNatClampNeg ≤ 160 ∧ ¬ Int32.ofNat 160 < k := by
  have h0 : ¬ k < 0 := ok_nn h
  have h1 : k.toNatClampNeg < 161 := ok_nat h
  refine ⟨h0, by omega, ?_⟩
  rw [← ofNat_clamp h0, Int32.lt_iff_toInt_lt, Int32.toInt_ofNat_of_lt (by omega), Int32.toInt_ofNat_of_lt (by omega)]
  omega
set_option maxRecDepth 100000 in
theorem cx_R_read (l : Launch) (N : Nat) (S : xS) (a2 res : Int32) (S1 : xS) (hf : xf_R_read N S a2 = some (res, S1)) (hr : (res = 1 ∧ ok (S1.1 48 0) 161 = true) ∨ res = 0) : xMt l yX7_read cX7_read 4 (.object "OverTheHeads$Text") 114 4 198 (fun g => [.ref (xr g 3), .ref (xr g 10), .int a2]) S res S1 := by
  refine xMt_of (own := RX7) (by decide) rfl (Or.inl ⟨_, rfl⟩) (fun g => Nat.le_of_ble_eq_true rfl) ?_
  intro p e R s m args below meth c Q g A H0 H locs ls hc hR hRc hml hw hl hQ
  have hl : lv_has ls 4 [(0, .ref (xr g 3)), (1, .ref (xr g 10)), (2, .int a2)] := hl
  have hx := hc.1
  have hb := hc.2.1
  refine wx_R_read hc hR hml N S a2 res S1 hf H locs ls hw hl (fun h1 H locs ls hw hl => ?_) (fun h0 H locs ls hw hl => ?_)
  · subst h1
    have hok : ok (S1.1 48 0) 161 = true := by
      rcases hr with h | h
      · exact h.2
      · exact absurd h (by decide)
    obtain ⟨hk, hk160, hmin⟩ := ok_160 hok
    refine e_new hc hw inG10 tyX10 tyX10_ok (mem_g 456 (by decide +kernel) rfl) (mem_g 457 (by decide +kernel) rfl) (mem_g 87 (by decide +kernel) rfl) (ci := 10) rfl (fs := [.null, .null, .null]) (fun j hj => by rcases (show j = 0 ∨ j = 1 ∨ j = 2 by omega) with rfl | rfl | rfl <;> rfl) (by have := hRc.1; omega) (by have := hRc.2; omega) dX7_read_110 (fun h H hw => ?_)
    refine lv_dup hx hb dX7_read_113 rfl ?_
    refine lv_aload_n hx hb dX7_read_114 rfl (lv_at hl 0 rfl) ?_
    refine x_g_reader_steps hc (xJ_I (xJ_pre hw)) fl_7_37 dX7_read_115 ?_
    refine lv_aload_n hx hb dX7_read_118 rfl (lv_at hl 0 rfl) ?_
    refine x_g_reader_stepCount hc (xJ_I (xJ_pre hw)) fl_7_44 dX7_read_119 ?_
    have hX1 : (xW g S1 ++ [(h, (.inr (10, [.null, .null, .null]) : va_E))])[28]? = some (xr g 28, .inl (xc g 0, 160, .inl (S1.1 46))) := (List.getElem?_append_left (by unfold xW; rw [List.length_append, xA_len]; omega)).trans ((xW_A (by decide)).trans rfl)
    refine e_csr (As := [.ref (xr g 28), .int (S1.1 48 0)]) (rest := [.ref h, .ref h]) hc hw hR (hml.trans hl.1.symm) (cx_firstOf l g _ (xr g 28) 160 28 (S1.1 46) (S1.1 48 0) hX1 hk hk160 hmin (by omega)) xq_7_firstOf (by decide) rfl rfl rfl (Nat.le_of_ble_eq_true rfl) dX7_read_122 ⟨by have := hRc.1; omega, by have := hRc.2; omega⟩ (fun a u1 H locs hw => ?_)
    refine lv_aload_n hx hb dX7_read_125 rfl (lv_at hl 0 rfl) ?_
    refine x_g_reader_ends hc (xJ_I (xJ_pre (xJ_pre hw))) fl_7_41 dX7_read_126 ?_
    refine lv_iconst (v := 3) hx hb dX7_read_129 (by decide) ?_
    have hX2 : ((xW g S1 ++ [(h, (.inr (10, [.null, .null, .null]) : va_E))]) ++ [(a, .inl (xc g 0, (S1.1 48 0).toNatClampNeg, .inl (va_cpy (S1.1 46) (fun _ => 0) 0 0 (S1.1 48 0).toNatClampNeg)))])[27]? = some (xr g 27, .inl (xc g 0, 3, .inl (S1.1 47))) := (List.getElem?_append_left (by unfold xW; rw [List.length_append, List.length_append, xA_len]; omega)).trans ((List.getElem?_append_left (by unfold xW; rw [List.length_append, xA_len]; omega)).trans ((xW_A (by decide)).trans rfl))
    refine e_csr (As := [.ref (xr g 27), .int 3]) (rest := [.ref a, .ref h, .ref h]) hc hw hR (hml.trans hl.1.symm) (cx_firstOf l g _ (xr g 27) 3 27 (S1.1 47) 3 hX2 (by decide) (by decide) (by decide) (by decide)) xq_7_firstOf (by decide) rfl rfl rfl (Nat.le_of_ble_eq_true rfl) dX7_read_130 ⟨by have := hRc.1; omega, by have := hRc.2; have h3 : (3 : Int32).toNatClampNeg = 3 := (by decide); omega⟩ (fun b u2 H locs hw => ?_)
    have hw := xJ_perm (Y := (xW g S1 ++ [(a, .inl (xc g 0, (S1.1 48 0).toNatClampNeg, .inl (va_cpy (S1.1 46) (fun _ => 0) 0 0 (S1.1 48 0).toNatClampNeg))), (b, .inl (xc g 0, 3, .inl (va_cpy (S1.1 47) (fun _ => 0) 0 0 3)))]) ++ [(h, .inr (10, [.null, .null, .null]))]) (by
      rw [List.append_assoc, List.append_assoc, List.append_assoc]
      refine List.Perm.append_left _ ?_
      exact (List.Perm.swap _ _ _).trans ((List.Perm.swap _ _ _).cons _)) hw
    refine e_cvi (As := [.ref a, .ref b]) (rest := [.ref h]) hc hw hR (hml.trans hl.1.symm) (ci_X10 l g h a b) (⟨⟨(mem_g 464 (by decide +kernel) rfl), (mem_g 465 (by decide +kernel) rfl), (mem_g 87 (by decide +kernel) rfl), (mem_g 466 (by decide +kernel) rfl)⟩, rfl, by decide, by decide +kernel, by decide⟩ : qCi RX7 69 yX10_init cX10_init 3 2) (by decide) rfl rfl rfl (Nat.le_of_ble_eq_true rfl) dX7_read_133 ⟨by have := hRc.1; omega, by have := hRc.2; have h3 : (3 : Int32).toNatClampNeg = 3 := (by decide); omega⟩ (fun u H locs hw => ?_)
    refine lv_goto (tgt := 140) hx hb dX7_read_136 (by decide) ?_
    have h3 : (3 : Int32).toNatClampNeg = 3 := by decide
    exact W.widen (by omega) (by omega) (hQ (h, a, b, u 0) H locs _ _ dX7_read_140 (by
      rw [List.append_assoc] at hw
      exact hw))
  · subst h0
    refine lv_null hx hb dX7_read_139 ?_
    exact W.widen (Nat.zero_le _) (Nat.zero_le _) (hQ (0, 0, 0, 0) H locs _ _ dX7_read_140 (by
      have : txR g S1 0 (0, 0, 0, 0) = [] := if_neg (by decide)
      rw [this, List.append_nil]
      exact hw))
