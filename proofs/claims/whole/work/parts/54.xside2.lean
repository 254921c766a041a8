theorem xJ_g {g g2 : xG} {A : Nat → Prop} {H0 H : Heap} {s : State} {X : va_W} {locs : List Loc} (hg : xgT g g2) (h : xJ g A H0 s X H locs) : xJ g2 A H0 s X H locs := by
  obtain ⟨D, cs, r⟩ := g
  obtain ⟨D2, cs2, r2⟩ := g2
  obtain ⟨h1, h2, h3⟩ := hg
  have h1 : D2 = D := h1
  have h2 : cs2 = cs := h2
  subst h1
  subst h2
  exact ⟨h.1, h.2.1, h.2.2.1, h.2.2.2.1, h.2.2.2.2.1, h.2.2.2.2.2.1, xE_g (g := (D2, cs2, r)) (g2 := (D2, cs2, r2)) ⟨rfl, rfl, h3⟩ h.2.2.2.2.2.2⟩
theorem mgX_g {g g2 : xG} (ρ : Nat → Nat) (hg : xgT g g2) : mgX g2 ρ = mgX g ρ := by
  unfold mgX
  show (g2.1, (g2.2.1 0, g2.2.1 2), ρ) = (g.1, (g.2.1 0, g.2.1 2), ρ)
  rw [hg.1, hg.2.1]
section SX
variable {p : Program} {l : Launch} {e : Env} {R : Room} {s : State} {m : MethodId} {args : Array Value} {below : List Frame} {meth : Method} {c : Code} {H : Heap} {locs : List Loc} {cells slots : Nat} {Q : State → Prop} {cc : ByteArray} {pc : Nat} {ls : Array Slot} {rest : List Value} {g : xG} {S S1 : xS} {A : Nat → Prop} {H0 : Heap} {X : va_W}
variable {y : MethodName} {bytes : ByteArray} {maxL d db idx k mc ms : Nat} {ty : FieldType} {avs : xG → List Value} {As st : List Value} {own : String} {b : Nat}
theorem e_xcvv (hc : qC own cc p s m args c) (hw : xJ g A H0 s (X ++ xW g S) H locs) (hR : qRoom R d) (hml : c.maxLocals = ls.size) (hM : xMv l y bytes maxL db avs S S1) (hq : qCv own idx y bytes maxL none k) (hrec : xRecv s H y.cls b) (hlt : db + 1 ≤ d) (hk : As.length = k) (hav : avs g = .ref b :: As) (hst : st = As.reverse ++ .ref b :: rest) (hrm : (rest.map fun v => v.category).sum ≤ 8) (hd : decode cc pc = .ok (.invokevirtual idx, 3))
    (kk : ∀ (H1 : Heap) (locs1 : List Loc), xJ g A H0 s (X ++ xW g S1) H1 locs1 → W p l e R s m args below meth c H1 locs1 cells slots Q (F0 m (pc + 3) ls rest)) (hcs : cells ≤ R.cells ∧ slots ≤ R.slots) : W p l e R s m args below meth c H locs cells slots Q (F0 m pc ls st) := by
  subst hst
  have hrm2 := m_room hR hlt hq.2.2.2
  have hw2 : xI g A H0 s S H locs := xJ_I (xJ_post hw)
  refine va_callv (va_runV (C := y.cls) (n := k) (As := As) (rest := rest) ⟨hc.1, hc.2.1, hml, hc.2.2.1, hc.2.2.2⟩ (hM g H.size) (cwV k hc.2.2.2 (gd_V hq) rfl rfl rfl ⟨rfl, hq.2.1.1, hq.2.1.2, hq.2.2.1⟩ hrm2) ⟨xPc_blind g avs S H.size, hrec, xPc_go hw2 hav⟩ rfl hk rfl rfl (lv_room hrm) hd hcs) hw2.2.2.2.1 (fun q _ h => va_A_in hw2.2.2.1 hw2.2.2.2.1 hw2.2.2.2.2.1 q h) (va_A_in hw2.2.2.1 hw2.2.2.2.1 hw2.2.2.2.2.1) (fun u t H1 locs1 ht hvm hr2 hB hz1 hk1 hS => ?_)
  exact kk H1 locs1 (xJ_side hw (ht ▸ hB.1) hB.2.2 hk1 hS)
theorem e_xcvi {r : Int32} (hc : qC own cc p s m args c) (hw : xJ g A H0 s (X ++ xW g S) H locs) (hR : qRoom R d) (hml : c.maxLocals = ls.size) (hM : xMi l y bytes maxL ty db avs S r S1) (hq : qCv own idx y bytes maxL (some ty) k) (hrec : xRecv s H y.cls b) (hlt : db + 1 ≤ d) (hk : As.length = k) (hav : avs g = .ref b :: As) (hst : st = As.reverse ++ .ref b :: rest) (hrm : (rest.map fun v => v.category).sum ≤ 8) (hd : decode cc pc = .ok (.invokevirtual idx, 3))
    (kk : ∀ (H1 : Heap) (locs1 : List Loc), xJ g A H0 s (X ++ xW g S1) H1 locs1 → W p l e R s m args below meth c H1 locs1 cells slots Q (F0 m (pc + 3) ls (.int r :: rest))) (hcs : cells ≤ R.cells ∧ slots ≤ R.slots) : W p l e R s m args below meth c H locs cells slots Q (F0 m pc ls st) := by
  subst hst
  have hrm2 := m_room hR hlt hq.2.2.2
  have hw2 : xI g A H0 s S H locs := xJ_I (xJ_post hw)
  refine va_calli (va_runV (C := y.cls) (n := k) (As := As) (rest := rest) ⟨hc.1, hc.2.1, hml, hc.2.2.1, hc.2.2.2⟩ (hM g H.size) (cwV k hc.2.2.2 (gd_V hq) rfl rfl rfl ⟨rfl, hq.2.1.1, hq.2.1.2, hq.2.2.1⟩ hrm2) ⟨xPc_blind g avs S H.size, hrec, xPc_go hw2 hav⟩ rfl hk rfl rfl (lv_room hrm) hd hcs) hw2.2.2.2.1 (fun q _ h => va_A_in hw2.2.2.1 hw2.2.2.2.1 hw2.2.2.2.2.1 q h) (va_A_in hw2.2.2.1 hw2.2.2.2.1 hw2.2.2.2.2.1) (fun r2 u t H1 locs1 ht hvm hr2 hB hz1 hk1 hS => ?_)
  subst hr2
  exact kk H1 locs1 (xJ_side hw (ht ▸ hB.1) hB.2.2 hk1 hS)
theorem e_xcvl {r : Int64} (hc : qC own cc p s m args c) (hw : xJ g A H0 s (X ++ xW g S) H locs) (hR : qRoom R d) (hml : c.maxLocals = ls.size) (hM : xMl l y bytes maxL db avs S r S1) (hq : qCv own idx y bytes maxL (some .long) k) (hrec : xRecv s H y.cls b) (hlt : db + 1 ≤ d) (hk : As.length = k) (hav : avs g = .ref b :: As) (hst : st = As.reverse ++ .ref b :: rest) (hrm : (rest.map fun v => v.category).sum ≤ 8) (hd : decode cc pc = .ok (.invokevirtual idx, 3))
    (kk : ∀ (H1 : Heap) (locs1 : List Loc), xJ g A H0 s (X ++ xW g S1) H1 locs1 → W p l e R s m args below meth c H1 locs1 cells slots Q (F0 m (pc + 3) ls (.long r :: rest))) (hcs : cells ≤ R.cells ∧ slots ≤ R.slots) : W p l e R s m args below meth c H locs cells slots Q (F0 m pc ls st) := by
  subst hst
  have hrm2 := m_room hR hlt hq.2.2.2
  have hw2 : xI g A H0 s S H locs := xJ_I (xJ_post hw)
  refine va_calll (va_runV (C := y.cls) (n := k) (As := As) (rest := rest) ⟨hc.1, hc.2.1, hml, hc.2.2.1, hc.2.2.2⟩ (hM g H.size) (cwV k hc.2.2.2 (gd_V hq) rfl rfl rfl ⟨rfl, hq.2.1.1, hq.2.1.2, hq.2.2.1⟩ hrm2) ⟨xPc_blind g avs S H.size, hrec, xPc_go hw2 hav⟩ rfl hk rfl rfl (lv_room hrm) hd hcs) hw2.2.2.2.1 (fun q _ h => va_A_in hw2.2.2.1 hw2.2.2.2.1 hw2.2.2.2.2.1 q h) (va_A_in hw2.2.2.1 hw2.2.2.2.1 hw2.2.2.2.2.1) (fun r2 u t H1 locs1 ht hvm hr2 hB hz1 hk1 hS => ?_)
  subst hr2
  exact kk H1 locs1 (xJ_side hw (ht ▸ hB.1) hB.2.2 hk1 hS)
theorem e_xcvix {r : Int32} (hc : qC own cc p s m args c) (hw : xJ g A H0 s (X ++ xW g S) H locs) (hR : qRoom R d) (hml : c.maxLocals = ls.size) (hM : xMix l y bytes maxL ty db mc ms avs S r S1) (hq : qCv own idx y bytes maxL (some ty) k) (hrec : xRecv s H y.cls b) (hlt : db + 1 ≤ d) (hk : As.length = k) (hav : avs g = .ref b :: As) (hst : st = As.reverse ++ .ref b :: rest) (hrm : (rest.map fun v => v.category).sum ≤ 8) (hd : decode cc pc = .ok (.invokevirtual idx, 3))
    (kk : ∀ (g2 : xG) (H1 : Heap) (locs1 : List Loc), xgT g g2 → xJ g2 A H0 s (X ++ xW g2 S1) H1 locs1 → W p l e R s m args below meth c H1 locs1 (cells + mc) (slots + ms) Q (F0 m (pc + 3) ls (.int r :: rest))) (hcs : cells + mc ≤ R.cells ∧ slots + ms ≤ R.slots) : W p l e R s m args below meth c H locs cells slots Q (F0 m pc ls st) := by
  subst hst
  have hrm2 := m_room hR hlt hq.2.2.2
  have hw2 : xI g A H0 s S H locs := xJ_I (xJ_post hw)
  refine va_calli (va_runV (C := y.cls) (n := k) (As := As) (rest := rest) ⟨hc.1, hc.2.1, hml, hc.2.2.1, hc.2.2.2⟩ (hM g H.size) (cwV k hc.2.2.2 (gd_V hq) rfl rfl rfl ⟨rfl, hq.2.1.1, hq.2.1.2, hq.2.2.1⟩ hrm2) ⟨xPc_blind g avs S H.size, hrec, xPc_go hw2 hav⟩ rfl hk rfl rfl (lv_room hrm) hd hcs) hw2.2.2.2.1 (fun q _ h => va_A_in hw2.2.2.1 hw2.2.2.2.1 hw2.2.2.2.2.1 q h) (va_A_in hw2.2.2.1 hw2.2.2.2.1 hw2.2.2.2.2.1) (fun r2 u t H1 locs1 ht hvm hr2 hB hz1 hk1 hS => ?_)
  obtain ⟨hr3, hg2⟩ := hr2
  subst hr3
  exact kk u H1 locs1 hg2 (xJ_g hg2 (xJ_side hw (by have h := hB.1; rw [hg2.1] at h; exact ht ▸ h) hB.2.2 hk1 hS))
end SX
