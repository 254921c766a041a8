/-! two worlds side by side: a call on one keeps the other -/
section SD
variable {g : xG} {A : Nat → Prop} {H0 H H1 : Heap} {s : State} {X Y Y1 L : va_W} {locs locs1 : List Loc} {ρ : Nat → Nat} {M M1 : mS}
theorem xJ_post (h : xJ g A H0 s (X ++ L) H locs) : xJ g A H0 s L H locs :=
  ⟨h.1, fun k q hk => h.2.1 (X.length + k) q (ap_get hk), ⟨fun i j p q hi hj he => by have := h.2.2.1.1 (X.length + i) (X.length + j) p q (ap_get hi) (ap_get hj) he; omega, fun k q hk => h.2.2.1.2 (X.length + k) q (ap_get hk)⟩, h.2.2.2⟩
theorem xJ_side (hw : xJ g A H0 s (X ++ Y) H locs) (hP1 : va_P g.1 vwCl Y1 H1) (hD1 : va_D (va_A Y H.size) Y1) (hkeep : ∀ q : Nat, q < H.size → ¬ va_A Y H.size q → H1[q]? = H[q]?) (hS : va_S A H0 H1 locs1) : xJ g A H0 s (X ++ Y1) H1 locs1 := by
  have hx := xJ_pre hw
  have hy := xJ_post hw
  have hlt : ∀ (k : Nat) (q : Nat × va_E), X[k]? = some q → q.1 < H.size := fun k q hk => (hx.2.1 k q hk).lt
  have hnot : ∀ (k : Nat) (q : Nat × va_E), X[k]? = some q → ¬ va_A Y H.size q.1 := by
    intro k q hk ha
    rcases ha with ⟨j, e, hj⟩ | h
    · have hkl : k < X.length := (List.getElem?_eq_some_iff.mp hk).1
      have := hw.2.2.1.1 k (X.length + j) q (q.1, e) ((List.getElem?_append_left hkl).trans hk) (ap_get hj) rfl
      omega
    · exact absurd (hlt k q hk) (Nat.not_lt.mpr h)
  have hin : ∀ q, va_A Y H.size q → A q := fun q h => va_A_in hy.2.2.1 hy.2.2.2.1 hy.2.2.2.2.1 q h
  have hsplit : ∀ (k : Nat) (q : Nat × va_E), (X ++ Y1)[k]? = some q → (k < X.length ∧ X[k]? = some q) ∨ (X.length ≤ k ∧ Y1[k - X.length]? = some q) := by
    intro k q hk
    by_cases h : k < X.length
    · exact Or.inl ⟨h, (List.getElem?_append_left h).symm.trans hk⟩
    · exact Or.inr ⟨by omega, (List.getElem?_append_right (by omega)).symm.trans hk⟩
  refine ⟨hw.1, fun k q hk => ?_, ⟨fun i j p q hi hj he => ?_, fun k q hk => ?_⟩, hS, hw.2.2.2.2⟩
  · rcases hsplit k q hk with ⟨_, h⟩ | ⟨_, h⟩
    · exact (hx.2.1 k q h).kept (hkeep q.1 (hlt k q h) (hnot k q h))
    · exact hP1 _ q h
  · rcases hsplit i p hi with ⟨h1, h2⟩ | ⟨h1, h2⟩ <;> rcases hsplit j q hj with ⟨h3, h4⟩ | ⟨h3, h4⟩
    · exact hx.2.2.1.1 i j p q h2 h4 he
    · exact absurd (hD1.2 _ q h4) (he ▸ hnot i p h2)
    · exact absurd (hD1.2 _ p h2) (he ▸ hnot j q h4)
    · have := hD1.1 _ _ p q h2 h4 he
      omega
  · rcases hsplit k q hk with ⟨_, h⟩ | ⟨_, h⟩
    · exact hx.2.2.1.2 k q h
    · exact hin q.1 (hD1.2 _ q h)
/-- the reference's names, over the class ids of the class's world -/
def mgX (g : xG) (ρ : Nat → Nat) : mG := (g.1, (xc g 0, xc g 2), ρ)
theorem xJ_m (hw : xJ g A H0 s (X ++ mW (mgX g ρ) M) H locs) : mI (mgX g ρ) A H0 s M H locs := by
  have h := xJ_post hw
  refine ⟨⟨h.1.1, fun k q hk => ?_⟩, h.2.1, h.2.2.1, h.2.2.2.1, h.2.2.2.2.1⟩
  match k, hk with
  | 0, hk => exact h.1.2 0 q hk
  | 1, hk => exact h.1.2 2 q hk
  | k + 2, hk => exact nomatch hk
end SD
section SC
variable {p : Program} {l : Launch} {e : Env} {R : Room} {s : State} {m : MethodId} {args : Array Value} {below : List Frame} {meth : Method} {c : Code} {H : Heap} {locs : List Loc} {cells slots : Nat} {Q : State → Prop} {cc : ByteArray} {pc : Nat} {ls : Array Slot} {rest : List Value} {g : xG} {ρ : Nat → Nat} {M M1 : mS} {A : Nat → Prop} {H0 : Heap} {X : va_W}
variable {y : MethodName} {bytes : ByteArray} {maxL d db idx k : Nat} {ty : FieldType} {avs : mG → List Value} {As st : List Value} {own : String}
theorem e_mcvv (hc : qC own cc p s m args c) (hw : xJ g A H0 s (X ++ mW (mgX g ρ) M) H locs) (hR : qRoom R d) (hml : c.maxLocals = ls.size) (hM : mMv l y bytes maxL db avs M M1) (hq : qCv own idx y bytes maxL none k) (hy : y.cls = RX12) (hlt : db + 1 ≤ d) (hk : As.length = k) (hav : avs (mgX g ρ) = .ref (ρ 0) :: As) (hst : st = As.reverse ++ .ref (ρ 0) :: rest) (hrm : (rest.map fun v => v.category).sum ≤ 8) (hd : decode cc pc = .ok (.invokevirtual idx, 3))
    (kk : ∀ (H1 : Heap) (locs1 : List Loc), xJ g A H0 s (X ++ mW (mgX g ρ) M1) H1 locs1 → W p l e R s m args below meth c H1 locs1 cells slots Q (F0 m (pc + 3) ls rest)) (hcs : cells ≤ R.cells ∧ slots ≤ R.slots) : W p l e R s m args below meth c H locs cells slots Q (F0 m pc ls st) := by
  subst hst
  have hrm2 := m_room hR hlt hq.2.2.2
  have hw2 := xJ_m hw
  refine va_callv (va_runV (C := y.cls) (n := k) (As := As) (rest := rest) ⟨hc.1, hc.2.1, hml, hc.2.2.1, hc.2.2.2⟩ (hM (mgX g ρ) H.size) (cwV k hc.2.2.2 (gd_V hq) rfl rfl rfl ⟨rfl, hq.2.1.1, hq.2.1.2, hq.2.2.1⟩ hrm2) ⟨mPc_blind (mgX g ρ) avs M H.size, by rw [hy]; exact m_recv hw2, mPc_go hw2 hav⟩ rfl hk rfl rfl (lv_room hrm) hd hcs) hw2.2.2.2.1 (fun q _ h => va_A_in hw2.2.2.1 hw2.2.2.2.1 hw2.2.2.2.2 q h) (va_A_in hw2.2.2.1 hw2.2.2.2.1 hw2.2.2.2.2) (fun u t H1 locs1 ht hvm hr2 hB hz1 hk1 hS => ?_)
  exact kk H1 locs1 (xJ_side hw (ht ▸ hB.1) hB.2.2 hk1 hS)
theorem e_mcvi {r : Int32} (hc : qC own cc p s m args c) (hw : xJ g A H0 s (X ++ mW (mgX g ρ) M) H locs) (hR : qRoom R d) (hml : c.maxLocals = ls.size) (hM : mMi l y bytes maxL ty db avs M r M1) (hq : qCv own idx y bytes maxL (some ty) k) (hy : y.cls = RX12) (hlt : db + 1 ≤ d) (hk : As.length = k) (hav : avs (mgX g ρ) = .ref (ρ 0) :: As) (hst : st = As.reverse ++ .ref (ρ 0) :: rest) (hrm : (rest.map fun v => v.category).sum ≤ 8) (hd : decode cc pc = .ok (.invokevirtual idx, 3))
    (kk : ∀ (H1 : Heap) (locs1 : List Loc), xJ g A H0 s (X ++ mW (mgX g ρ) M1) H1 locs1 → W p l e R s m args below meth c H1 locs1 cells slots Q (F0 m (pc + 3) ls (.int r :: rest))) (hcs : cells ≤ R.cells ∧ slots ≤ R.slots) : W p l e R s m args below meth c H locs cells slots Q (F0 m pc ls st) := by
  subst hst
  have hrm2 := m_room hR hlt hq.2.2.2
  have hw2 := xJ_m hw
  refine va_calli (va_runV (C := y.cls) (n := k) (As := As) (rest := rest) ⟨hc.1, hc.2.1, hml, hc.2.2.1, hc.2.2.2⟩ (hM (mgX g ρ) H.size) (cwV k hc.2.2.2 (gd_V hq) rfl rfl rfl ⟨rfl, hq.2.1.1, hq.2.1.2, hq.2.2.1⟩ hrm2) ⟨mPc_blind (mgX g ρ) avs M H.size, by rw [hy]; exact m_recv hw2, mPc_go hw2 hav⟩ rfl hk rfl rfl (lv_room hrm) hd hcs) hw2.2.2.2.1 (fun q _ h => va_A_in hw2.2.2.1 hw2.2.2.2.1 hw2.2.2.2.2 q h) (va_A_in hw2.2.2.1 hw2.2.2.2.1 hw2.2.2.2.2) (fun r2 u t H1 locs1 ht hvm hr2 hB hz1 hk1 hS => ?_)
  subst hr2
  exact kk H1 locs1 (xJ_side hw (ht ▸ hB.1) hB.2.2 hk1 hS)
theorem e_mcvl {r : Int64} (hc : qC own cc p s m args c) (hw : xJ g A H0 s (X ++ mW (mgX g ρ) M) H locs) (hR : qRoom R d) (hml : c.maxLocals = ls.size) (hM : mMl l y bytes maxL db avs M r M1) (hq : qCv own idx y bytes maxL (some .long) k) (hy : y.cls = RX12) (hlt : db + 1 ≤ d) (hk : As.length = k) (hav : avs (mgX g ρ) = .ref (ρ 0) :: As) (hst : st = As.reverse ++ .ref (ρ 0) :: rest) (hrm : (rest.map fun v => v.category).sum ≤ 8) (hd : decode cc pc = .ok (.invokevirtual idx, 3))
    (kk : ∀ (H1 : Heap) (locs1 : List Loc), xJ g A H0 s (X ++ mW (mgX g ρ) M1) H1 locs1 → W p l e R s m args below meth c H1 locs1 cells slots Q (F0 m (pc + 3) ls (.long r :: rest))) (hcs : cells ≤ R.cells ∧ slots ≤ R.slots) : W p l e R s m args below meth c H locs cells slots Q (F0 m pc ls st) := by
  subst hst
  have hrm2 := m_room hR hlt hq.2.2.2
  have hw2 := xJ_m hw
  refine va_calll (va_runV (C := y.cls) (n := k) (As := As) (rest := rest) ⟨hc.1, hc.2.1, hml, hc.2.2.1, hc.2.2.2⟩ (hM (mgX g ρ) H.size) (cwV k hc.2.2.2 (gd_V hq) rfl rfl rfl ⟨rfl, hq.2.1.1, hq.2.1.2, hq.2.2.1⟩ hrm2) ⟨mPc_blind (mgX g ρ) avs M H.size, by rw [hy]; exact m_recv hw2, mPc_go hw2 hav⟩ rfl hk rfl rfl (lv_room hrm) hd hcs) hw2.2.2.2.1 (fun q _ h => va_A_in hw2.2.2.1 hw2.2.2.2.1 hw2.2.2.2.2 q h) (va_A_in hw2.2.2.1 hw2.2.2.2.1 hw2.2.2.2.2) (fun r2 u t H1 locs1 ht hvm hr2 hB hz1 hk1 hS => ?_)
  subst hr2
  exact kk H1 locs1 (xJ_side hw (ht ▸ hB.1) hB.2.2 hk1 hS)
end SC
