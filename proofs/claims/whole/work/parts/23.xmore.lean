/-! more rows over the class's world: splits of what may be none, two rows the same, Math, copies -/
def xf (S : xS) (k : Nat) (f : Nat → Int32) : xS := (fun j => bif Nat.beq j k then f else S.1 j, S.2)
theorem xf_1 {S : xS} {k j : Nat} {f : Nat → Int32} (h : j ≠ k) : (xf S k f).1 j = S.1 j := by
  have hb : Nat.beq j k = false := by
    cases hb : Nat.beq j k with
    | false => rfl
    | true => exact absurd (Nat.eq_of_beq_eq_true hb) h
  simp only [xf, hb, cond_false]
theorem xf_1s {S : xS} {k : Nat} {f : Nat → Int32} : (xf S k f).1 k = f := by
  simp only [xf, Nat.beq_refl, cond_true]
theorem xf_R {g : xG} {S : xS} {k : Nat} {f : Nat → Int32} (hk : k < 54 ∨ (69 < k ∧ k < 76)) : xRw g (xf S k f) = xRw g S := xRw_congr (fun j hj => xf_1 (by omega)) (fun r => xf_1 (by omega)) rfl
theorem xf_T {g : xG} {S : xS} {k : Nat} {f : Nat → Int32} (hk : k < 76) : xTx g (xf S k f) = xTx g S := xTx_congr (xf_1 (by omega)) (fun r => xf_1 (by omega)) (fun r => xf_1 (by omega)) (fun r => xf_1 (by omega)) rfl
theorem xW_putf_sorts {g : xG} {S : xS} {r : Nat} {f : Nat → Int32} (h : r < S.2.2.1) : (xW g S).set (36 + (2 * r + 1)) (xr g (100 + (2 * r + 1)), .inl (xc g 0, 8, .inl f)) = xW g (xf S (80 + 4 * r) f) := by
  refine xW_setR (by omega) ?_ (xA_congr (fun j hj => xf_1 (by omega)) rfl) (xTx_congr (xf_1 (by omega)) (fun r => xf_1 (by omega)) (fun r => xf_1 (by omega)) (fun r => xf_1 (by omega)) rfl)
  unfold xRw
  refine map_range_set ?_ ?_
  · simp only [xRc, show (2 * r + 1) % 2 = 1 by omega, show (2 * r + 1) / 2 = r by omega, Nat.one_ne_zero, if_false, xf_1s]
  · intro j hj
    by_cases h2 : j % 2 = 0
    · have e : ∀ c, c < 80 → (xf S (80 + 4 * r) f).1 c = S.1 c := fun c hc => xf_1 (by omega)
      simp only [xRc, h2, if_true, xRf, e 54 (by decide), e 55 (by decide), e 56 (by decide), e 57 (by decide), e 58 (by decide), e 59 (by decide), e 60 (by decide), e 61 (by decide), e 62 (by decide), e 63 (by decide)]
    · have e : (xf S (80 + 4 * r) f).1 (80 + 4 * (j / 2)) = S.1 (80 + 4 * (j / 2)) := xf_1 (by omega)
      simp only [xRc, h2, if_false, e]
theorem xW_putf_sheet {g : xG} {S : xS} {r : Nat} {f : Nat → Int32} (h : r < 4) : (xW g S).set (32 + r) (xr g (32 + r), .inl (xc g 0, 60, .inl f)) = xW g (xf S (70 + r) f) := xW_setA (by omega) (match r, h with | 0, _ => rfl | 1, _ => rfl | 2, _ => rfl | 3, _ => rfl) (xf_R (by omega)) (xf_T (by omega))
def cpok (sp dp n : Int32) (n0 n1 : Nat) : Bool := decide (¬ sp < 0) && (decide (¬ dp < 0) && (decide (¬ n < 0) && (decide (sp.toNatClampNeg + n.toNatClampNeg ≤ n0) && decide (dp.toNatClampNeg + n.toNatClampNeg ≤ n1))))
section XC
variable {p : Program} {l : Launch} {e : Env} {R : Room} {s : State} {m : MethodId} {args : Array Value} {below : List Frame} {meth : Method} {c : Code} {H : Heap} {locs : List Loc} {cells slots : Nat} {Q : State → Prop} {cc : ByteArray} {pc : Nat} {ls : Array Slot} {rest : List Value} {g : xG} {S S1 : xS} {A : Nat → Prop} {H0 : Heap} {own : String} {idx d : Nat}
theorem x_splitr {v : Int32} (k0 : v < 0 → W p l e R s m args below meth c H locs cells slots Q (F0 m pc ls (.null :: rest))) (k1 : ¬ v < 0 → W p l e R s m args below meth c H locs cells slots Q (F0 m pc ls (.ref (xr g (100 + 2 * v.toNatClampNeg)) :: rest))) : W p l e R s m args below meth c H locs cells slots Q (F0 m pc ls (xrv g v :: rest)) := by
  by_cases h : v < 0
  · rw [xrv_neg h]; exact k0 h
  · rw [xrv_pos h]; exact k1 h
theorem x_splitt {v : Int32} (k0 : v < 0 → W p l e R s m args below meth c H locs cells slots Q (F0 m pc ls (.null :: rest))) (k1 : ¬ v < 0 → W p l e R s m args below meth c H locs cells slots Q (F0 m pc ls (.ref (xr g (200 + 4 * v.toNatClampNeg)) :: rest))) : W p l e R s m args below meth c H locs cells slots Q (F0 m pc ls (xtv g v :: rest)) := by
  by_cases h : v < 0
  · rw [xtv_neg h]; exact k0 h
  · rw [xtv_pos h]; exact k1 h
theorem x_splitb {v : Int32} (k0 : v < 0 → W p l e R s m args below meth c H locs cells slots Q (F0 m pc ls (.null :: rest))) (k1 : ¬ v < 0 → W p l e R s m args below meth c H locs cells slots Q (F0 m pc ls (.ref (xr g 10) :: rest))) : W p l e R s m args below meth c H locs cells slots Q (F0 m pc ls (xbv g v :: rest)) := by
  by_cases h : v < 0
  · rw [xbv_neg h]; exact k0 h
  · rw [xbv_pos h]; exact k1 h
theorem x_rows_apart (hw : xI g A H0 s S H locs) {a b : Nat} (ha : a < S.2.2.1) (hb : b < S.2.2.1) (h : xr g (100 + 2 * a) = xr g (100 + 2 * b)) : a = b := by
  have h1 := hw.2.2.1.1 _ _ _ _ (xW_row (g := g) ha) (xW_row (g := g) hb) h
  omega
theorem x_acmp_ne (hc : qC own cc p s m args c) (hw : xI g A H0 s S H locs) {a b : Nat} (ha : a < S.2.2.1) (hb : b < S.2.2.1) {off : Int} {tgt : Nat} (hdg : decode cc pc = .ok (.if_acmp .ne off, 3)) (ht : (pc : Int) + off = (tgt : Int))
    (kt : ¬ a = b → W p l e R s m args below meth c H locs cells slots Q (F0 m tgt ls rest)) (kf : a = b → W p l e R s m args below meth c H locs cells slots Q (F0 m (pc + 3) ls rest)) : W p l e R s m args below meth c H locs cells slots Q (F0 m pc ls (.ref (xr g (100 + 2 * b)) :: .ref (xr g (100 + 2 * a)) :: rest)) :=
  lv_acmp_ne (rx := some (xr g (100 + 2 * a))) (ry := some (xr g (100 + 2 * b))) hc.1 hc.2.1 hdg ht (fun h => kt (fun q => h (by rw [q]))) (fun h => kf (x_rows_apart hw ha hb (Option.some.inj h)))
def qMw (own : String) (idx : Nat) (y : MethodName) (bytes : ByteArray) (maxL : Nat) (ret : Option FieldType) : Prop := Cond.methodLink own idx y ∈ lw_g ∧ Cond.static y ∈ lw_g ∧ Cond.initialized "java/lang/Math" ∈ lw_g ∧ Cond.code y bytes maxL ret ∈ lw_g
theorem x_mmax (hc : qC own cc p s m args c) (hR : qRoom R d) (hd1 : 1 ≤ d) (hml : c.maxLocals = ls.size) (hq : qMw own idx Lib.Math.max.name Lib.Math.max.code 2 (some .int)) (hrm : (rest.map fun v => v.category).sum ≤ 8) {x y : Int32} (hdg : decode cc pc = .ok (.invokestatic idx, 3)) (kk : W p l e R s m args below meth c H locs cells slots Q (F0 m (pc + 3) ls (.int (if x < y then y else x) :: rest))) (hcs : cells ≤ R.cells ∧ slots ≤ R.slots) : W p l e R s m args below meth c H locs cells slots Q (F0 m pc ls (.int y :: .int x :: rest)) :=
  va_mmax hc.1 hc.2.1 hml hc.2.2.1 (hc.2.2.2 _ hq.1) (hc.2.2.2 _ hq.2.1) (hc.2.2.2 _ hq.2.2.1) (hc.2.2.2 _ hq.2.2.2) (by have := hR.1; omega) (by have := hR.2; omega) hcs.1 hcs.2 hdg kk
theorem x_mmin (hc : qC own cc p s m args c) (hR : qRoom R d) (hd1 : 1 ≤ d) (hml : c.maxLocals = ls.size) (hq : qMw own idx Lib.Math.min.name Lib.Math.min.code 2 (some .int)) (hrm : (rest.map fun v => v.category).sum ≤ 8) {x y : Int32} (hdg : decode cc pc = .ok (.invokestatic idx, 3)) (kk : W p l e R s m args below meth c H locs cells slots Q (F0 m (pc + 3) ls (.int (if y < x then y else x) :: rest))) (hcs : cells ≤ R.cells ∧ slots ≤ R.slots) : W p l e R s m args below meth c H locs cells slots Q (F0 m pc ls (.int y :: .int x :: rest)) :=
  va_mmin hc.1 hc.2.1 hml hc.2.2.1 (hc.2.2.2 _ hq.1) (hc.2.2.2 _ hq.2.1) (hc.2.2.2 _ hq.2.2.1) (hc.2.2.2 _ hq.2.2.2) (by have := hR.1; omega) (by have := hR.2; omega) hcs.1 hcs.2 hdg kk
theorem x_mabs (hc : qC own cc p s m args c) (hR : qRoom R d) (hd1 : 1 ≤ d) (hml : c.maxLocals = ls.size) (hq : qMw own idx Lib.Math.abs.name Lib.Math.abs.code 1 (some .int)) (hrm : (rest.map fun v => v.category).sum ≤ 8) {x : Int32} (hdg : decode cc pc = .ok (.invokestatic idx, 3)) (kk : W p l e R s m args below meth c H locs cells slots Q (F0 m (pc + 3) ls (.int (if 0 ≤ x then x else 0 - x) :: rest))) (hcs : cells ≤ R.cells ∧ slots ≤ R.slots) : W p l e R s m args below meth c H locs cells slots Q (F0 m pc ls (.int x :: rest)) :=
  va_mabs hc.1 hc.2.1 hml hc.2.2.1 (hc.2.2.2 _ hq.1) (hc.2.2.2 _ hq.2.1) (hc.2.2.2 _ hq.2.2.1) (hc.2.2.2 _ hq.2.2.2) (by have := hR.1; omega) (by have := hR.2; omega) hcs.1 hcs.2 hdg kk
theorem x_mmaxl (hc : qC own cc p s m args c) (hR : qRoom R d) (hd1 : 1 ≤ d) (hml : c.maxLocals = ls.size) (hq : qMw own idx Lib.MathLoose.max_long.x Lib.MathLoose.max_long.code 4 (some .long)) (hrm : (rest.map fun v => v.category).sum ≤ 8) {x y : Int64} (hdg : decode cc pc = .ok (.invokestatic idx, 3)) (kk : W p l e R s m args below meth c H locs cells slots Q (F0 m (pc + 3) ls (.long (if y < x then x else y) :: rest))) (hcs : cells ≤ R.cells ∧ slots ≤ R.slots) : W p l e R s m args below meth c H locs cells slots Q (F0 m pc ls (.long y :: .long x :: rest)) :=
  va_mmax_long hc.1 hc.2.1 hml hc.2.2.1 (hc.2.2.2 _ hq.1) (hc.2.2.2 _ hq.2.1) (hc.2.2.2 _ hq.2.2.1) (hc.2.2.2 _ hq.2.2.2) (by have := hR.1; omega) (by have := hR.2; omega) hcs.1 hcs.2 hdg kk
theorem nfw : nativeFrameWords "java/lang/System" "arraycopy" 5 + 11 ≤ 32 := by decide
theorem x_copy (hc : qC own cc p s m args c) (hw : xI g A H0 s S H locs) (hR : qRoom R d) (hd1 : 1 ≤ d) (hml : c.maxLocals = ls.size) (hlink : Cond.methodLink own idx arraycopyName ∈ lw_g) (hnat : Cond.native arraycopyName ∈ lw_g) (hstat : Cond.static arraycopyName ∈ lw_g) (hini : Cond.initialized "java/lang/System" ∈ lw_g) (hrm : (rest.map fun v => v.category).sum ≤ 8)
    {q0 q1 a0 a1 n0 n1 : Nat} {f f1 : Nat → Int32} {sp dp n : Int32} (ha0 : (xW g S)[q0]? = some (a0, .inl (xc g 0, n0, .inl f))) (ha1 : (xW g S)[q1]? = some (a1, .inl (xc g 0, n1, .inl f1))) (hset : (xW g S).set q1 (a1, .inl (xc g 0, n1, .inl (va_cpy f f1 sp.toNatClampNeg dp.toNatClampNeg n.toNatClampNeg))) = xW g S1) (hok : cpok sp dp n n0 n1 = true) (hdg : decode cc pc = .ok (.invokestatic idx, 3))
    (kk : ∀ (H1 : Heap) (locs1 : List Loc), xI g A H0 s S1 H1 locs1 → W p l e R s m args below meth c H1 locs1 cells slots Q (F0 m (pc + 3) ls rest)) : W p l e R s m args below meth c H locs cells slots Q (F0 m pc ls (.int n :: .int dp :: .ref a1 :: .int sp :: .ref a0 :: rest)) := by
  unfold cpok at hok
  simp only [Bool.and_eq_true, decide_eq_true_eq] at hok
  obtain ⟨h1, h2, h3, h4, h5⟩ := hok
  exact va_copyi hc.1 hc.2.1 hml hc.2.2.1 (hc.2.2.2 _ hlink) (hc.2.2.2 _ hnat) (hc.2.2.2 _ hstat) (hc.2.2.2 _ hini) hw.1 hw.2.1 hw.2.2.1 hw.2.2.2.1 q0 q1 0 0 ha0 ha1 rfl rfl rfl h1 h2 h3 h4 h5 (fun _ _ => rfl) (by have := hR.1; omega) (by have := hR.2; have := nfw; omega) hdg (fun H1 locs1 hP hD hS1 => kk H1 locs1 ⟨hw.1, hset ▸ hP, hset ▸ hD, hS1, hw.2.2.2.2⟩)
end XC
/-! a static method of a nest mate -/
def qCn (own : String) (idx : Nat) (y : MethodName) (bytes : ByteArray) (maxL : Nat) (ret : Option FieldType) (n : Nat) : Prop := ((own, idx, y) ∈ xNest ∧ Cond.static y ∈ lw_g ∧ Cond.initialized y.cls ∈ lw_g ∧ Cond.code y bytes maxL ret ∈ lw_g) ∧ (y.cls ≠ "java/lang/invoke/MethodHandle" ∧ y.cls ≠ "java/lang/invoke/VarHandle") ∧ (parseMethodDescriptor y.desc).map (fun d => d.parameters.length) = some n ∧ maxL ≤ 21
section XN
variable {p : Program} {l : Launch} {e : Env} {R : Room} {s : State} {m : MethodId} {args : Array Value} {below : List Frame} {meth : Method} {c : Code} {H : Heap} {locs : List Loc} {cells slots : Nat} {Q : State → Prop} {cc : ByteArray} {pc : Nat} {ls : Array Slot} {rest : List Value} {g : xG} {S S1 : xS} {A : Nat → Prop} {H0 : Heap} {own : String}
variable {y : MethodName} {bytes : ByteArray} {maxL d db idx k : Nat} {ty : FieldType} {avs : xG → List Value} {As st : List Value}
theorem x_csvN (hc : qC own cc p s m args c) (hw : xI g A H0 s S H locs) (hR : qRoom R d) (hml : c.maxLocals = ls.size) (hM : xMv l y bytes maxL db avs S S1) (hq : qCn own idx y bytes maxL none k) (hlt : db + 1 ≤ d) (hk : As.length = k) (hav : avs g = As) (hst : st = As.reverse ++ rest) (hrm : (rest.map fun v => v.category).sum ≤ 8) (hd : decode cc pc = .ok (.invokestatic idx, 3))
    (kk : ∀ (H1 : Heap) (locs1 : List Loc), xI g A H0 s S1 H1 locs1 → W p l e R s m args below meth c H1 locs1 cells slots Q (F0 m (pc + 3) ls rest)) (hcs : cells ≤ R.cells ∧ slots ≤ R.slots) : W p l e R s m args below meth c H locs cells slots Q (F0 m pc ls st) := by
  subst hst
  refine va_callv (va_runSN (n := k) (host := "OverTheHeads") (As := As) (rest := rest) ⟨hc.1, hc.2.1, hml, hc.2.2.1, hc.2.2.2⟩ (hM g H.size) ⟨va_cnB k hc.2.2.2 (gd_ws hq.1.2.2.2) rfl rfl rfl (hw.2.2.2.2.2.2.1 _ hq.1.1) (hc.2.2.2 _ hq.1.2.2.1) ⟨hq.2.1.1, hq.2.1.2, hq.2.2.1⟩ (m_room hR hlt hq.2.2.2), hc.2.2.2 _ hq.1.2.1, trivial⟩ ⟨xPc_blind g avs S H.size, xPc_go hw hav⟩ rfl hk rfl rfl (lv_room hrm) hd hcs) hw.2.2.2.1 (fun q _ h => va_A_in hw.2.2.1 hw.2.2.2.1 hw.2.2.2.2.1 q h) (va_A_in hw.2.2.1 hw.2.2.2.1 hw.2.2.2.2.1) (fun u t H1 locs1 ht hvm hr2 hB hz1 hk1 hS => ?_)
  exact kk H1 locs1 (xI_back hw ht hB hS)
end XN
