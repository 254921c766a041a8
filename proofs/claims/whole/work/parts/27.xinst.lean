theorem xci_k (k : Int32) : (k = 1 ∧ xci k = 9) ∨ (k = 2 ∧ xci k = 6) ∨ (k = 3 ∧ xci k = 3) ∨ (k = 4 ∧ xci k = 0) ∨ (k = 5 ∧ xci k = 5) ∨ ((¬ k = 1 ∧ ¬ k = 2 ∧ ¬ k = 3 ∧ ¬ k = 4 ∧ ¬ k = 5) ∧ xci k = 8) := by
  by_cases h1 : k = 1
  · subst h1; exact Or.inl ⟨rfl, rfl⟩
  · by_cases h2 : k = 2
    · subst h2; exact Or.inr (Or.inl ⟨rfl, rfl⟩)
    · by_cases h3 : k = 3
      · subst h3; exact Or.inr (Or.inr (Or.inl ⟨rfl, rfl⟩))
      · by_cases h4 : k = 4
        · subst h4; exact Or.inr (Or.inr (Or.inr (Or.inl ⟨rfl, rfl⟩)))
        · by_cases h5 : k = 5
          · subst h5; exact Or.inr (Or.inr (Or.inr (Or.inr (Or.inl ⟨rfl, rfl⟩))))
          · exact Or.inr (Or.inr (Or.inr (Or.inr (Or.inr ⟨⟨h1, h2, h3, h4, h5⟩, by unfold xci; simp [h1, h2, h3, h4, h5]⟩))))
section XINST
variable {p : Program} {l : Launch} {e : Env} {R : Room} {s : State} {m : MethodId} {args : Array Value} {below : List Frame} {meth : Method} {c : Code} {H : Heap} {locs : List Loc} {cells slots : Nat} {Q : State → Prop} {cc : ByteArray} {pc : Nat} {ls : Array Slot} {rest : List Value} {g : xG} {S : xS} {A : Nat → Prop} {H0 : Heap} {own : String} {idx : Nat}
def xb_Shifted (k : Int32) : Bool := decide (k = 1) || decide (k = 3)
theorem x_inst_Shifted (hc : qC own cc p s m args c) (hw : xI g A H0 s S H locs) {r : Nat} (hr : r < S.2.2.1) (hlink : Cond.classLink own idx "OverTheHeads$Shifted" ∈ lw_g) (hdg : decode cc pc = .ok (.instanceof idx, 3)) (kk : W p l e R s m args below meth c H locs cells slots Q (F0 m (pc + 3) ls (.int (bi (xb_Shifted (S.1 54 r))) :: rest))) : W p l e R s m args below meth c H locs cells slots Q (F0 m pc ls (.ref (xr g (100 + 2 * r)) :: rest)) := by
  have he := xW_row (g := g) hr
  have hE := hw.2.2.2.2.2.2
  rcases xci_k (S.1 54 r) with ⟨hk, h⟩ | ⟨hk, h⟩ | ⟨hk, h⟩ | ⟨hk, h⟩ | ⟨hk, h⟩ | ⟨hk, h⟩ <;> rw [h] at he
  · have hv : xb_Shifted (S.1 54 r) = true := by rw [hk]; rfl
    rw [hv] at kk
    exact va_instE hc.1 hc.2.1 hc.2.2.1 (hc.2.2.2 _ hlink) (va_recv hw.1 hw.2.1 (ci := 9) (q := (RX9, TX9, 11)) rfl he) hdg kk
  · have hv : xb_Shifted (S.1 54 r) = false := by rw [hk]; rfl
    rw [hv] at kk
    exact va_instNo (C := RX6) hc.1 hc.2.1 hc.2.2.1 (hc.2.2.2 _ hlink) (hE.2.2.1 ("OverTheHeads$Raised", "OverTheHeads$Shifted") (by decide)) (va_recv hw.1 hw.2.1 (ci := 6) (q := (RX6, TX6, 11)) rfl he) hdg kk
  · have hv : xb_Shifted (S.1 54 r) = true := by rw [hk]; rfl
    rw [hv] at kk
    exact va_instY (C := RX3) hc.1 hc.2.1 hc.2.2.1 (hc.2.2.2 _ hlink) (hE.2.1 ("OverTheHeads$Inner", "OverTheHeads$Shifted") (by decide)) (va_recv hw.1 hw.2.1 (ci := 3) (q := (RX3, TX3, 11)) rfl he) hdg kk
  · have hv : xb_Shifted (S.1 54 r) = false := by rw [hk]; rfl
    rw [hv] at kk
    exact va_instNo (C := RX0) hc.1 hc.2.1 hc.2.2.1 (hc.2.2.2 _ hlink) (hE.2.2.1 ("OverTheHeads$Balcony", "OverTheHeads$Shifted") (by decide)) (va_recv hw.1 hw.2.1 (ci := 0) (q := (RX0, TX0, 11)) rfl he) hdg kk
  · have hv : xb_Shifted (S.1 54 r) = false := by rw [hk]; rfl
    rw [hv] at kk
    exact va_instNo (C := RX5) hc.1 hc.2.1 hc.2.2.1 (hc.2.2.2 _ hlink) (hE.2.2.1 ("OverTheHeads$Low", "OverTheHeads$Shifted") (by decide)) (va_recv hw.1 hw.2.1 (ci := 5) (q := (RX5, TX5, 11)) rfl he) hdg kk
  · have hv : xb_Shifted (S.1 54 r) = false := by simp [xb_Shifted, hk.1, hk.2.1, hk.2.2.1, hk.2.2.2.1, hk.2.2.2.2]
    rw [hv] at kk
    exact va_instNo (C := RX8) hc.1 hc.2.1 hc.2.2.1 (hc.2.2.2 _ hlink) (hE.2.2.1 ("OverTheHeads$Row", "OverTheHeads$Shifted") (by decide)) (va_recv hw.1 hw.2.1 (ci := 8) (q := (RX8, TX8, 11)) rfl he) hdg kk
def xb_Raised (k : Int32) : Bool := decide (k = 2) || decide (k = 4)
theorem x_inst_Raised (hc : qC own cc p s m args c) (hw : xI g A H0 s S H locs) {r : Nat} (hr : r < S.2.2.1) (hlink : Cond.classLink own idx "OverTheHeads$Raised" ∈ lw_g) (hdg : decode cc pc = .ok (.instanceof idx, 3)) (kk : W p l e R s m args below meth c H locs cells slots Q (F0 m (pc + 3) ls (.int (bi (xb_Raised (S.1 54 r))) :: rest))) : W p l e R s m args below meth c H locs cells slots Q (F0 m pc ls (.ref (xr g (100 + 2 * r)) :: rest)) := by
  have he := xW_row (g := g) hr
  have hE := hw.2.2.2.2.2.2
  rcases xci_k (S.1 54 r) with ⟨hk, h⟩ | ⟨hk, h⟩ | ⟨hk, h⟩ | ⟨hk, h⟩ | ⟨hk, h⟩ | ⟨hk, h⟩ <;> rw [h] at he
  · have hv : xb_Raised (S.1 54 r) = false := by rw [hk]; rfl
    rw [hv] at kk
    exact va_instNo (C := RX9) hc.1 hc.2.1 hc.2.2.1 (hc.2.2.2 _ hlink) (hE.2.2.1 ("OverTheHeads$Shifted", "OverTheHeads$Raised") (by decide)) (va_recv hw.1 hw.2.1 (ci := 9) (q := (RX9, TX9, 11)) rfl he) hdg kk
  · have hv : xb_Raised (S.1 54 r) = true := by rw [hk]; rfl
    rw [hv] at kk
    exact va_instE hc.1 hc.2.1 hc.2.2.1 (hc.2.2.2 _ hlink) (va_recv hw.1 hw.2.1 (ci := 6) (q := (RX6, TX6, 11)) rfl he) hdg kk
  · have hv : xb_Raised (S.1 54 r) = false := by rw [hk]; rfl
    rw [hv] at kk
    exact va_instNo (C := RX3) hc.1 hc.2.1 hc.2.2.1 (hc.2.2.2 _ hlink) (hE.2.2.1 ("OverTheHeads$Inner", "OverTheHeads$Raised") (by decide)) (va_recv hw.1 hw.2.1 (ci := 3) (q := (RX3, TX3, 11)) rfl he) hdg kk
  · have hv : xb_Raised (S.1 54 r) = true := by rw [hk]; rfl
    rw [hv] at kk
    exact va_instY (C := RX0) hc.1 hc.2.1 hc.2.2.1 (hc.2.2.2 _ hlink) (hE.2.1 ("OverTheHeads$Balcony", "OverTheHeads$Raised") (by decide)) (va_recv hw.1 hw.2.1 (ci := 0) (q := (RX0, TX0, 11)) rfl he) hdg kk
  · have hv : xb_Raised (S.1 54 r) = false := by rw [hk]; rfl
    rw [hv] at kk
    exact va_instNo (C := RX5) hc.1 hc.2.1 hc.2.2.1 (hc.2.2.2 _ hlink) (hE.2.2.1 ("OverTheHeads$Low", "OverTheHeads$Raised") (by decide)) (va_recv hw.1 hw.2.1 (ci := 5) (q := (RX5, TX5, 11)) rfl he) hdg kk
  · have hv : xb_Raised (S.1 54 r) = false := by simp [xb_Raised, hk.1, hk.2.1, hk.2.2.1, hk.2.2.2.1, hk.2.2.2.2]
    rw [hv] at kk
    exact va_instNo (C := RX8) hc.1 hc.2.1 hc.2.2.1 (hc.2.2.2 _ hlink) (hE.2.2.1 ("OverTheHeads$Row", "OverTheHeads$Raised") (by decide)) (va_recv hw.1 hw.2.1 (ci := 8) (q := (RX8, TX8, 11)) rfl he) hdg kk
def xb_Inner (k : Int32) : Bool := decide (k = 3)
theorem x_inst_Inner (hc : qC own cc p s m args c) (hw : xI g A H0 s S H locs) {r : Nat} (hr : r < S.2.2.1) (hlink : Cond.classLink own idx "OverTheHeads$Inner" ∈ lw_g) (hdg : decode cc pc = .ok (.instanceof idx, 3)) (kk : W p l e R s m args below meth c H locs cells slots Q (F0 m (pc + 3) ls (.int (bi (xb_Inner (S.1 54 r))) :: rest))) : W p l e R s m args below meth c H locs cells slots Q (F0 m pc ls (.ref (xr g (100 + 2 * r)) :: rest)) := by
  have he := xW_row (g := g) hr
  have hE := hw.2.2.2.2.2.2
  rcases xci_k (S.1 54 r) with ⟨hk, h⟩ | ⟨hk, h⟩ | ⟨hk, h⟩ | ⟨hk, h⟩ | ⟨hk, h⟩ | ⟨hk, h⟩ <;> rw [h] at he
  · have hv : xb_Inner (S.1 54 r) = false := by rw [hk]; rfl
    rw [hv] at kk
    exact va_instNo (C := RX9) hc.1 hc.2.1 hc.2.2.1 (hc.2.2.2 _ hlink) (hE.2.2.1 ("OverTheHeads$Shifted", "OverTheHeads$Inner") (by decide)) (va_recv hw.1 hw.2.1 (ci := 9) (q := (RX9, TX9, 11)) rfl he) hdg kk
  · have hv : xb_Inner (S.1 54 r) = false := by rw [hk]; rfl
    rw [hv] at kk
    exact va_instNo (C := RX6) hc.1 hc.2.1 hc.2.2.1 (hc.2.2.2 _ hlink) (hE.2.2.1 ("OverTheHeads$Raised", "OverTheHeads$Inner") (by decide)) (va_recv hw.1 hw.2.1 (ci := 6) (q := (RX6, TX6, 11)) rfl he) hdg kk
  · have hv : xb_Inner (S.1 54 r) = true := by rw [hk]; rfl
    rw [hv] at kk
    exact va_instE hc.1 hc.2.1 hc.2.2.1 (hc.2.2.2 _ hlink) (va_recv hw.1 hw.2.1 (ci := 3) (q := (RX3, TX3, 11)) rfl he) hdg kk
  · have hv : xb_Inner (S.1 54 r) = false := by rw [hk]; rfl
    rw [hv] at kk
    exact va_instNo (C := RX0) hc.1 hc.2.1 hc.2.2.1 (hc.2.2.2 _ hlink) (hE.2.2.1 ("OverTheHeads$Balcony", "OverTheHeads$Inner") (by decide)) (va_recv hw.1 hw.2.1 (ci := 0) (q := (RX0, TX0, 11)) rfl he) hdg kk
  · have hv : xb_Inner (S.1 54 r) = false := by rw [hk]; rfl
    rw [hv] at kk
    exact va_instNo (C := RX5) hc.1 hc.2.1 hc.2.2.1 (hc.2.2.2 _ hlink) (hE.2.2.1 ("OverTheHeads$Low", "OverTheHeads$Inner") (by decide)) (va_recv hw.1 hw.2.1 (ci := 5) (q := (RX5, TX5, 11)) rfl he) hdg kk
  · have hv : xb_Inner (S.1 54 r) = false := by simp [xb_Inner, hk.1, hk.2.1, hk.2.2.1, hk.2.2.2.1, hk.2.2.2.2]
    rw [hv] at kk
    exact va_instNo (C := RX8) hc.1 hc.2.1 hc.2.2.1 (hc.2.2.2 _ hlink) (hE.2.2.1 ("OverTheHeads$Row", "OverTheHeads$Inner") (by decide)) (va_recv hw.1 hw.2.1 (ci := 8) (q := (RX8, TX8, 11)) rfl he) hdg kk
def xb_Balcony (k : Int32) : Bool := decide (k = 4)
theorem x_inst_Balcony (hc : qC own cc p s m args c) (hw : xI g A H0 s S H locs) {r : Nat} (hr : r < S.2.2.1) (hlink : Cond.classLink own idx "OverTheHeads$Balcony" ∈ lw_g) (hdg : decode cc pc = .ok (.instanceof idx, 3)) (kk : W p l e R s m args below meth c H locs cells slots Q (F0 m (pc + 3) ls (.int (bi (xb_Balcony (S.1 54 r))) :: rest))) : W p l e R s m args below meth c H locs cells slots Q (F0 m pc ls (.ref (xr g (100 + 2 * r)) :: rest)) := by
  have he := xW_row (g := g) hr
  have hE := hw.2.2.2.2.2.2
  rcases xci_k (S.1 54 r) with ⟨hk, h⟩ | ⟨hk, h⟩ | ⟨hk, h⟩ | ⟨hk, h⟩ | ⟨hk, h⟩ | ⟨hk, h⟩ <;> rw [h] at he
  · have hv : xb_Balcony (S.1 54 r) = false := by rw [hk]; rfl
    rw [hv] at kk
    exact va_instNo (C := RX9) hc.1 hc.2.1 hc.2.2.1 (hc.2.2.2 _ hlink) (hE.2.2.1 ("OverTheHeads$Shifted", "OverTheHeads$Balcony") (by decide)) (va_recv hw.1 hw.2.1 (ci := 9) (q := (RX9, TX9, 11)) rfl he) hdg kk
  · have hv : xb_Balcony (S.1 54 r) = false := by rw [hk]; rfl
    rw [hv] at kk
    exact va_instNo (C := RX6) hc.1 hc.2.1 hc.2.2.1 (hc.2.2.2 _ hlink) (hE.2.2.1 ("OverTheHeads$Raised", "OverTheHeads$Balcony") (by decide)) (va_recv hw.1 hw.2.1 (ci := 6) (q := (RX6, TX6, 11)) rfl he) hdg kk
  · have hv : xb_Balcony (S.1 54 r) = false := by rw [hk]; rfl
    rw [hv] at kk
    exact va_instNo (C := RX3) hc.1 hc.2.1 hc.2.2.1 (hc.2.2.2 _ hlink) (hE.2.2.1 ("OverTheHeads$Inner", "OverTheHeads$Balcony") (by decide)) (va_recv hw.1 hw.2.1 (ci := 3) (q := (RX3, TX3, 11)) rfl he) hdg kk
  · have hv : xb_Balcony (S.1 54 r) = true := by rw [hk]; rfl
    rw [hv] at kk
    exact va_instE hc.1 hc.2.1 hc.2.2.1 (hc.2.2.2 _ hlink) (va_recv hw.1 hw.2.1 (ci := 0) (q := (RX0, TX0, 11)) rfl he) hdg kk
  · have hv : xb_Balcony (S.1 54 r) = false := by rw [hk]; rfl
    rw [hv] at kk
    exact va_instNo (C := RX5) hc.1 hc.2.1 hc.2.2.1 (hc.2.2.2 _ hlink) (hE.2.2.1 ("OverTheHeads$Low", "OverTheHeads$Balcony") (by decide)) (va_recv hw.1 hw.2.1 (ci := 5) (q := (RX5, TX5, 11)) rfl he) hdg kk
  · have hv : xb_Balcony (S.1 54 r) = false := by simp [xb_Balcony, hk.1, hk.2.1, hk.2.2.1, hk.2.2.2.1, hk.2.2.2.2]
    rw [hv] at kk
    exact va_instNo (C := RX8) hc.1 hc.2.1 hc.2.2.1 (hc.2.2.2 _ hlink) (hE.2.2.1 ("OverTheHeads$Row", "OverTheHeads$Balcony") (by decide)) (va_recv hw.1 hw.2.1 (ci := 8) (q := (RX8, TX8, 11)) rfl he) hdg kk
def xb_Low (k : Int32) : Bool := decide (k = 5)
theorem x_inst_Low (hc : qC own cc p s m args c) (hw : xI g A H0 s S H locs) {r : Nat} (hr : r < S.2.2.1) (hlink : Cond.classLink own idx "OverTheHeads$Low" ∈ lw_g) (hdg : decode cc pc = .ok (.instanceof idx, 3)) (kk : W p l e R s m args below meth c H locs cells slots Q (F0 m (pc + 3) ls (.int (bi (xb_Low (S.1 54 r))) :: rest))) : W p l e R s m args below meth c H locs cells slots Q (F0 m pc ls (.ref (xr g (100 + 2 * r)) :: rest)) := by
  have he := xW_row (g := g) hr
  have hE := hw.2.2.2.2.2.2
  rcases xci_k (S.1 54 r) with ⟨hk, h⟩ | ⟨hk, h⟩ | ⟨hk, h⟩ | ⟨hk, h⟩ | ⟨hk, h⟩ | ⟨hk, h⟩ <;> rw [h] at he
  · have hv : xb_Low (S.1 54 r) = false := by rw [hk]; rfl
    rw [hv] at kk
    exact va_instNo (C := RX9) hc.1 hc.2.1 hc.2.2.1 (hc.2.2.2 _ hlink) (hE.2.2.1 ("OverTheHeads$Shifted", "OverTheHeads$Low") (by decide)) (va_recv hw.1 hw.2.1 (ci := 9) (q := (RX9, TX9, 11)) rfl he) hdg kk
  · have hv : xb_Low (S.1 54 r) = false := by rw [hk]; rfl
    rw [hv] at kk
    exact va_instNo (C := RX6) hc.1 hc.2.1 hc.2.2.1 (hc.2.2.2 _ hlink) (hE.2.2.1 ("OverTheHeads$Raised", "OverTheHeads$Low") (by decide)) (va_recv hw.1 hw.2.1 (ci := 6) (q := (RX6, TX6, 11)) rfl he) hdg kk
  · have hv : xb_Low (S.1 54 r) = false := by rw [hk]; rfl
    rw [hv] at kk
    exact va_instNo (C := RX3) hc.1 hc.2.1 hc.2.2.1 (hc.2.2.2 _ hlink) (hE.2.2.1 ("OverTheHeads$Inner", "OverTheHeads$Low") (by decide)) (va_recv hw.1 hw.2.1 (ci := 3) (q := (RX3, TX3, 11)) rfl he) hdg kk
  · have hv : xb_Low (S.1 54 r) = false := by rw [hk]; rfl
    rw [hv] at kk
    exact va_instNo (C := RX0) hc.1 hc.2.1 hc.2.2.1 (hc.2.2.2 _ hlink) (hE.2.2.1 ("OverTheHeads$Balcony", "OverTheHeads$Low") (by decide)) (va_recv hw.1 hw.2.1 (ci := 0) (q := (RX0, TX0, 11)) rfl he) hdg kk
  · have hv : xb_Low (S.1 54 r) = true := by rw [hk]; rfl
    rw [hv] at kk
    exact va_instE hc.1 hc.2.1 hc.2.2.1 (hc.2.2.2 _ hlink) (va_recv hw.1 hw.2.1 (ci := 5) (q := (RX5, TX5, 11)) rfl he) hdg kk
  · have hv : xb_Low (S.1 54 r) = false := by simp [xb_Low, hk.1, hk.2.1, hk.2.2.1, hk.2.2.2.1, hk.2.2.2.2]
    rw [hv] at kk
    exact va_instNo (C := RX8) hc.1 hc.2.1 hc.2.2.1 (hc.2.2.2 _ hlink) (hE.2.2.1 ("OverTheHeads$Row", "OverTheHeads$Low") (by decide)) (va_recv hw.1 hw.2.1 (ci := 8) (q := (RX8, TX8, 11)) rfl he) hdg kk
theorem lv_case {v : Int32} (k : Int32) (k0 : v = k → W p l e R s m args below meth c H locs cells slots Q (F0 m pc ls (.int k :: rest))) (k1 : ¬ v = k → W p l e R s m args below meth c H locs cells slots Q (F0 m pc ls (.int v :: rest))) : W p l e R s m args below meth c H locs cells slots Q (F0 m pc ls (.int v :: rest)) := by
  by_cases h : v = k
  · subst h; exact k0 rfl
  · exact k1 h
end XINST
theorem xstr_0 {g : xG} {A : Nat → Prop} {s : State} {S : xS} {H H0 : Heap} {locs : List Loc} (hw : xI g A H0 s S H locs) : vk_R RX11 72 "like value ; price value * 2 - row ; cost high * 3 + rise ;" (xr g (300 + 0)) s := hw.2.2.2.2.2.2.2.2.2.1 0 ("OverTheHeads", 72, "like value ; price value * 2 - row ; cost high * 3 + rise ;") rfl
theorem xstr_1 {g : xG} {A : Nat → Prop} {s : State} {S : xS} {H H0 : Heap} {locs : List Loc} (hw : xI g A H0 s S H locs) : vk_R RX7 123 "value" (xr g (300 + 1)) s := hw.2.2.2.2.2.2.2.2.2.1 1 ("OverTheHeads$Reader", 123, "value") rfl
theorem xstr_2 {g : xG} {A : Nat → Prop} {s : State} {S : xS} {H H0 : Heap} {locs : List Loc} (hw : xI g A H0 s S H locs) : vk_R RX7 131 "high" (xr g (300 + 2)) s := hw.2.2.2.2.2.2.2.2.2.1 2 ("OverTheHeads$Reader", 131, "high") rfl
theorem xstr_3 {g : xG} {A : Nat → Prop} {s : State} {S : xS} {H H0 : Heap} {locs : List Loc} (hw : xI g A H0 s S H locs) : vk_R RX7 133 "row" (xr g (300 + 3)) s := hw.2.2.2.2.2.2.2.2.2.1 3 ("OverTheHeads$Reader", 133, "row") rfl
theorem xstr_4 {g : xG} {A : Nat → Prop} {s : State} {S : xS} {H H0 : Heap} {locs : List Loc} (hw : xI g A H0 s S H locs) : vk_R RX7 135 "place" (xr g (300 + 4)) s := hw.2.2.2.2.2.2.2.2.2.1 4 ("OverTheHeads$Reader", 135, "place") rfl
theorem xstr_5 {g : xG} {A : Nat → Prop} {s : State} {S : xS} {H H0 : Heap} {locs : List Loc} (hw : xI g A H0 s S H locs) : vk_R RX7 137 "rise" (xr g (300 + 5)) s := hw.2.2.2.2.2.2.2.2.2.1 5 ("OverTheHeads$Reader", 137, "rise") rfl
theorem xstr_6 {g : xG} {A : Nat → Prop} {s : State} {S : xS} {H H0 : Heap} {locs : List Loc} (hw : xI g A H0 s S H locs) : vk_R RX7 139 "sort" (xr g (300 + 6)) s := hw.2.2.2.2.2.2.2.2.2.1 6 ("OverTheHeads$Reader", 139, "sort") rfl
theorem xstr_7 {g : xG} {A : Nat → Prop} {s : State} {S : xS} {H H0 : Heap} {locs : List Loc} (hw : xI g A H0 s S H locs) : vk_R RX7 141 "like" (xr g (300 + 7)) s := hw.2.2.2.2.2.2.2.2.2.1 7 ("OverTheHeads$Reader", 141, "like") rfl
theorem xstr_8 {g : xG} {A : Nat → Prop} {s : State} {S : xS} {H H0 : Heap} {locs : List Loc} (hw : xI g A H0 s S H locs) : vk_R RX7 143 "price" (xr g (300 + 8)) s := hw.2.2.2.2.2.2.2.2.2.1 8 ("OverTheHeads$Reader", 143, "price") rfl
theorem xstr_9 {g : xG} {A : Nat → Prop} {s : State} {S : xS} {H H0 : Heap} {locs : List Loc} (hw : xI g A H0 s S H locs) : vk_R RX7 145 "cost" (xr g (300 + 9)) s := hw.2.2.2.2.2.2.2.2.2.1 9 ("OverTheHeads$Reader", 145, "cost") rfl
theorem xstr_10 {g : xG} {A : Nat → Prop} {s : State} {S : xS} {H H0 : Heap} {locs : List Loc} (hw : xI g A H0 s S H locs) : vk_R RX7 147 "or" (xr g (300 + 10)) s := hw.2.2.2.2.2.2.2.2.2.1 10 ("OverTheHeads$Reader", 147, "or") rfl
theorem xstr_11 {g : xG} {A : Nat → Prop} {s : State} {S : xS} {H H0 : Heap} {locs : List Loc} (hw : xI g A H0 s S H locs) : vk_R RX7 149 "and" (xr g (300 + 11)) s := hw.2.2.2.2.2.2.2.2.2.1 11 ("OverTheHeads$Reader", 149, "and") rfl
theorem xstr_12 {g : xG} {A : Nat → Prop} {s : State} {S : xS} {H H0 : Heap} {locs : List Loc} (hw : xI g A H0 s S H locs) : vk_R RX7 151 "not" (xr g (300 + 12)) s := hw.2.2.2.2.2.2.2.2.2.1 12 ("OverTheHeads$Reader", 151, "not") rfl
/-- the contracts of the reader's methods that call one another, by their places -/
def xKr (l : Launch) (k d : Nat) (S S1 : xS) : Prop := match k with
  | 0 => xMv l yX7_readOr cX7_readOr 2 d (fun g => [.ref (xr g 3)]) S S1
  | 1 => xMv l yX7_readAnd cX7_readAnd 2 d (fun g => [.ref (xr g 3)]) S S1
  | 2 => xMv l yX7_readNot cX7_readNot 1 d (fun g => [.ref (xr g 3)]) S S1
  | 3 => xMv l yX7_readComparison cX7_readComparison 2 d (fun g => [.ref (xr g 3)]) S S1
  | 4 => xMv l yX7_readSum cX7_readSum 3 d (fun g => [.ref (xr g 3)]) S S1
  | 5 => xMv l yX7_readTerm cX7_readTerm 2 d (fun g => [.ref (xr g 3)]) S S1
  | _ => xMv l yX7_readOne cX7_readOne 1 d (fun g => [.ref (xr g 3)]) S S1
