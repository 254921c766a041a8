section EC
variable {p : Program} {l : Launch} {e : Env} {R : Room} {s : State} {m : MethodId} {args : Array Value} {below : List Frame} {meth : Method} {c : Code} {H : Heap} {locs : List Loc} {cells slots : Nat} {Q : State → Prop} {cc : ByteArray} {pc d : Nat} {ls : Array Slot} {rest : List Value} {g : xG} {X : va_W} {A : Nat → Prop} {H0 : Heap} {own : String} {idx : Nat}
theorem e_copy (hc : qC own cc p s m args c) (hw : xJ g A H0 s X H locs) (hR : qRoom R d) (hd1 : 1 ≤ d) (hml : c.maxLocals = ls.size) (hlink : Cond.methodLink own idx arraycopyName ∈ lw_g) (hnat : Cond.native arraycopyName ∈ lw_g) (hstat : Cond.static arraycopyName ∈ lw_g) (hini : Cond.initialized "java/lang/System" ∈ lw_g) (hrm : (rest.map fun v => v.category).sum ≤ 8)
    {q0 q1 a0 a1 n0 n1 : Nat} {f f1 : Nat → Int32} {sp dp n : Int32} (ha0 : X[q0]? = some (a0, .inl (xc g 0, n0, .inl f))) (ha1 : X[q1]? = some (a1, .inl (xc g 0, n1, .inl f1))) {Y : va_W} (hset : X.set q1 (a1, .inl (xc g 0, n1, .inl (va_cpy f f1 sp.toNatClampNeg dp.toNatClampNeg n.toNatClampNeg))) = Y) (h1 : ¬ sp < 0) (h2 : ¬ dp < 0) (h3 : ¬ n < 0) (h4 : sp.toNatClampNeg + n.toNatClampNeg ≤ n0) (h5 : dp.toNatClampNeg + n.toNatClampNeg ≤ n1) (hdg : decode cc pc = .ok (.invokestatic idx, 3))
    (kk : ∀ (H1 : Heap) (locs1 : List Loc), xJ g A H0 s Y H1 locs1 → W p l e R s m args below meth c H1 locs1 cells slots Q (F0 m (pc + 3) ls rest)) : W p l e R s m args below meth c H locs cells slots Q (F0 m pc ls (.int n :: .int dp :: .ref a1 :: .int sp :: .ref a0 :: rest)) := by
  exact va_copyi hc.1 hc.2.1 hml hc.2.2.1 (hc.2.2.2 _ hlink) (hc.2.2.2 _ hnat) (hc.2.2.2 _ hstat) (hc.2.2.2 _ hini) hw.1 hw.2.1 hw.2.2.1 hw.2.2.2.1 q0 q1 0 0 ha0 ha1 rfl rfl rfl h1 h2 h3 h4 h5 (fun _ _ => rfl) (by have := hR.1; omega) (by have := hR.2; have := nfw; omega) hdg (fun H1 locs1 hP hD hS1 => kk H1 locs1 ⟨hw.1, hset ▸ hP, hset ▸ hD, hS1, hw.2.2.2.2⟩)
end EC
theorem xq_7_min : qMw RX7 47 Lib.Math.min.name Lib.Math.min.code 2 (some .int) := ⟨mem_g 370 (by decide +kernel) rfl, mem_g 371 (by decide +kernel) rfl, mem_g 86 (by decide +kernel) rfl, mem_g 372 (by decide +kernel) rfl⟩
theorem xq_7_firstOf : qCs RX7 65 yX7_firstOf cX7_firstOf 3 (some (.array .int)) 2 := ⟨⟨(mem_g 458 (by decide +kernel) rfl), (mem_g 459 (by decide +kernel) rfl), (mem_g 81 (by decide +kernel) rfl), (mem_g 460 (by decide +kernel) rfl)⟩, by decide, by decide +kernel, by decide⟩
theorem ofNat_clamp {k : Int32} (h : ¬ k < 0) : Int32.ofNat k.toNatClampNeg = k := by
  have h0 : (0 : Int32) ≤ k := by
    rw [Int32.le_iff_toInt_le]
    rw [Int32.lt_iff_toInt_lt] at h
    omega
  rw [Int32.le_iff_toInt_le] at h0
  have h0 : 0 ≤ k.toInt := h0
  refine Int32.toInt_inj.mp ?_
  have hz : ((k.toNatClampNeg : Nat) : Int) = k.toInt := Int.toNat_of_nonneg h0
  have hlt := Int32.toInt_lt k
  rw [Int32.toInt_ofNat_of_lt (by omega)]
  exact hz
set_option maxRecDepth 100000 in
theorem cx_firstOf (l : Launch) (g : xG) (X : va_W) (b n0 q0 : Nat) (f : Nat → Int32) (k : Int32) (hX : X[q0]? = some (b, .inl (xc g 0, n0, .inl f))) (hk : ¬ k < 0) (hn : k.toNatClampNeg ≤ n0) (hmin : ¬ Int32.ofNat n0 < k) (hbig : k.toNatClampNeg ≤ 1000) : eMr l yX7_firstOf cX7_firstOf 3 2 1 k.toNatClampNeg (.array .int) [.ref b, .int k] g X (fun a _ => [(a, .inl (xc g 0, k.toNatClampNeg, .inl (va_cpy f (fun _ => 0) 0 0 k.toNatClampNeg)))]) := by
  refine eMr_of (own := RX7) (by decide) rfl (Or.inr ⟨_, rfl⟩) (Nat.le_of_ble_eq_true rfl) ?_
  intro p e R s m args below meth c Q A H0 H locs ls hc hR hRc hml hw hl hQ
  have hl : lv_has ls 3 [(0, .ref b), (1, .int k)] := hl
  have hx := hc.1
  have hb := hc.2.1
  refine lv_iload_n hx hb dX7_firstOf_0 rfl (lv_at hl 1 rfl) ?_
  refine lv_aload_n hx hb dX7_firstOf_1 rfl (lv_at hl 0 rfl) ?_
  refine va_alen hx hb hw.1 hw.2.1 q0 0 hX rfl rfl dX7_firstOf_2 ?_
  refine x_mmin hc hR (by decide) (hml.trans hl.1.symm) xq_7_min (Nat.le_of_ble_eq_true rfl) dX7_firstOf_3 ?_ ⟨Nat.zero_le _, Nat.zero_le _⟩
  rw [if_neg hmin]
  refine e_newa_i hc hw (mem_g 135 (by decide +kernel) rfl) hk rfl (by omega) (by have := hRc.1; omega) (by have := hRc.2; omega) dX7_firstOf_6 (fun q H hw => ?_)
  refine lv_astore_n (lv' := [(2, .ref q), (0, .ref b), (1, .int k)]) hx hb dX7_firstOf_8 rfl hl (by decide) rfl (fun ls hl => ?_)
  have hN : (X ++ [(q, (.inl (xc g 0, k.toNatClampNeg, .inl (fun _ => 0)) : va_E))])[X.length + 0]? = some (q, .inl (xc g 0, k.toNatClampNeg, .inl (fun _ => 0))) := ap_get rfl
  have hq0 : q0 < X.length := (List.getElem?_eq_some_iff.mp hX).1
  refine lv_aload_n hx hb dX7_firstOf_9 rfl (lv_at hl 1 rfl) ?_
  refine lv_iconst (v := 0) hx hb dX7_firstOf_10 (by decide) ?_
  refine lv_aload_n hx hb dX7_firstOf_11 rfl (lv_at hl 0 rfl) ?_
  refine lv_iconst (v := 0) hx hb dX7_firstOf_12 (by decide) ?_
  refine lv_aload_n hx hb dX7_firstOf_13 rfl (lv_at hl 0 rfl) ?_
  refine va_alen hx hb hw.1 hw.2.1 (X.length + 0) 0 hN rfl (ofNat_clamp hk) dX7_firstOf_14 ?_
  refine e_copy (q0 := q0) (q1 := X.length + 0) hc hw hR (by decide) (hml.trans hl.1.symm) (mem_g 461 (by decide +kernel) rfl) (mem_g 463 (by decide +kernel) rfl) (mem_g 462 (by decide +kernel) rfl) (mem_g 88 (by decide +kernel) rfl) (Nat.le_of_ble_eq_true rfl) ((List.getElem?_append_left hq0).trans hX) hN ap_set (by decide) (by decide) hk (by show 0 + _ ≤ _; omega) (by show 0 + _ ≤ _; omega) dX7_firstOf_15 (fun H locs hw => ?_)
  refine lv_aload_n hx hb dX7_firstOf_18 rfl (lv_at hl 0 rfl) ?_
  exact W.widen (by omega) (by omega) (hQ q (fun _ => 0) H locs _ _ dX7_firstOf_19 hw)
