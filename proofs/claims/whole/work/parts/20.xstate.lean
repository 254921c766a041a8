def va_AOA (t : FieldType) (U : State) : Prop := (Cond.arrayOver (.array t)).before #[] U = true
theorem va_AOA.use {t : FieldType} {A : Array Value} {U : State} (h : va_AOA t U) : (Cond.arrayOver (.array t)).before A U = true := h
theorem aoa_spec {t : FieldType} {s : State} (h : va_AOA t s) : ∃ (comp c : ClassId) (k : Class), s.vm.findClass (FieldType.array t).toString = some comp ∧ (s.vm.classes.findIdx? fun (x : Class) => match x.kind with | .array component _ => component == comp | _ => false) = some c ∧ s.vm.classes[c]? = some k ∧ k.kind = .array comp (.array t) ∧ s.vm.findClass ("[" ++ (FieldType.array t).toString) = some c := by
  unfold va_AOA Cond.before at h
  simp only [Cond.holds, Cond.value, beq_iff_eq] at h
  cases hc : s.vm.findClass (FieldType.array t).toString with
  | none => simp [hc] at h
  | some comp =>
    simp only [hc, Option.bind_some, Option.bind_eq_some_iff, Option.map_eq_some_iff] at h
    obtain ⟨c, hi, k, hk, hb⟩ := h
    obtain ⟨hlt, hp, -⟩ := Array.findIdx?_eq_some_iff_getElem.mp hi
    have hkk : s.vm.classes[c] = k := (Array.getElem?_eq_some_iff.mp hk).2
    rw [hkk] at hp
    cases hkind : k.kind with
    | array component ty =>
      rw [hkind] at hb hp
      simp at hb hp
      exact ⟨comp, c, k, rfl, hi, hk, by rw [hkind, hp, hb.1], hb.2⟩
    | _ => rw [hkind] at hb; simp at hb
theorem va_AOA.moved {t : FieldType} {u U : State} (hvm : u.vm.Alike U.vm) (h : va_AOA t u) : va_AOA t U := by
  obtain ⟨comp, c, k, h1, h2, h3, h4, h5⟩ := aoa_spec h
  obtain ⟨k', hk', he⟩ := hvm.2.2 _ _ h3
  have hi : (U.vm.classes.findIdx? fun (x : Class) => match x.kind with | .array component _ => component == comp | _ => false) = some c := by
    refine Eq.trans (va_idx_bare _ _).symm ?_
    first | rw [hvm.bare_eq] | rw [← hvm.bare_eq]
    exact (va_idx_bare _ _).trans h2
  have hkind : k'.kind = .array comp (.array t) := by rw [he]; exact h4
  have f1 : U.vm.findClass (FieldType.array t).toString = some comp := by rw [hvm.findClass]; exact h1
  have f2 : U.vm.findClass ("[" ++ (FieldType.array t).toString) = some c := by rw [hvm.findClass]; exact h5
  unfold va_AOA Cond.before Cond.holds
  simp only [Cond.value]
  rw [f1, Option.bind_some]
  refine (congrArg (fun o : Option Nat => (o.bind (fun c => (U.vm.classes[c]?).map fun (k : Class) => match k.kind with | .array _ ty => decide (ty = FieldType.array t) && decide (U.vm.findClass ("[" ++ (FieldType.array t).toString) = some c) | _ => false) == some true)) hi).trans ?_
  simp [hk', hkind, f2]
set_option maxRecDepth 20000 in
theorem inG0 : ∀ w ∈ u_ws RX0 TX0 11, w ∈ lw_g := mem_gs [657, 658, 659, 660, 661, 662, 663, 664, 665, 666, 667] (by decide +kernel) (by decide +kernel)
set_option maxRecDepth 20000 in
theorem inG1 : ∀ w ∈ u_ws RX1 TX1 20, w ∈ lw_g := mem_gs [182, 184, 186, 188, 190, 192, 194, 196, 198, 200, 202, 204, 206, 208, 210, 212, 214, 216, 218, 220] (by decide +kernel) (by decide +kernel)
set_option maxRecDepth 20000 in
theorem inG2 : ∀ w ∈ u_ws RX2 TX2 12, w ∈ lw_g := mem_gs [243, 245, 247, 249, 251, 253, 255, 257, 259, 261, 263, 265] (by decide +kernel) (by decide +kernel)
set_option maxRecDepth 20000 in
theorem inG3 : ∀ w ∈ u_ws RX3 TX3 11, w ∈ lw_g := mem_gs [639, 640, 641, 642, 643, 644, 645, 646, 647, 648, 649] (by decide +kernel) (by decide +kernel)
set_option maxRecDepth 20000 in
theorem inG4 : ∀ w ∈ u_ws RX4 TX4 5, w ∈ lw_g := mem_gs [124, 126, 128, 130, 132] (by decide +kernel) (by decide +kernel)
set_option maxRecDepth 20000 in
theorem inG5 : ∀ w ∈ u_ws RX5 TX5 11, w ∈ lw_g := mem_gs [675, 676, 677, 678, 679, 680, 681, 682, 683, 684, 685] (by decide +kernel) (by decide +kernel)
set_option maxRecDepth 20000 in
theorem inG6 : ∀ w ∈ u_ws RX6 TX6 11, w ∈ lw_g := mem_gs [621, 622, 623, 624, 625, 626, 627, 628, 629, 630, 631] (by decide +kernel) (by decide +kernel)
set_option maxRecDepth 20000 in
theorem inG7 : ∀ w ∈ u_ws RX7 TX7 11, w ∈ lw_g := mem_gs [288, 290, 292, 294, 296, 298, 300, 302, 304, 306, 308] (by decide +kernel) (by decide +kernel)
set_option maxRecDepth 20000 in
theorem inG8 : ∀ w ∈ u_ws RX8 TX8 11, w ∈ lw_g := mem_gs [690, 691, 692, 693, 694, 695, 696, 697, 698, 699, 700] (by decide +kernel) (by decide +kernel)
set_option maxRecDepth 20000 in
theorem inG9 : ∀ w ∈ u_ws RX9 TX9 11, w ∈ lw_g := mem_gs [592, 594, 596, 598, 600, 602, 604, 606, 608, 610, 612] (by decide +kernel) (by decide +kernel)
set_option maxRecDepth 20000 in
theorem inG10 : ∀ w ∈ u_ws RX10 TX10 3, w ∈ lw_g := mem_gs [471, 473, 475] (by decide +kernel) (by decide +kernel)
set_option maxRecDepth 20000 in
theorem inG11 : ∀ w ∈ u_ws RX11 TX11 14, w ∈ lw_g := mem_gs [494, 496, 498, 500, 502, 504, 506, 508, 510, 512, 514, 516, 518, 520] (by decide +kernel) (by decide +kernel)
abbrev xS : Type := (Nat → Nat → Int32) × (Nat → Nat → Int64) × (Nat × Nat)
abbrev xG : Type := va_G × (Nat → ClassId) × (Nat → Nat)
def xs (S : xS) (k i : Nat) (x : Int32) : xS := (fun j => bif Nat.beq j k then upd (S.1 j) i x else S.1 j, S.2)
def xt (S : xS) (k i : Nat) (x : Int64) : xS := (S.1, fun j => bif Nat.beq j k then vp_updL (S.2.1 j) i x else S.2.1 j, S.2.2)
abbrev xr (g : xG) (k : Nat) : Nat := g.2.2 k
abbrev xc (g : xG) (k : Nat) : ClassId := g.2.1 k
/-- a row, a text, the tape, by its number; below 0: none -/
def xrv (g : xG) (x : Int32) : Value := va_rf (if x < 0 then none else some (xr g (100 + 2 * x.toNatClampNeg)))
def xtv (g : xG) (x : Int32) : Value := va_rf (if x < 0 then none else some (xr g (200 + 4 * x.toNatClampNeg)))
def xbv (g : xG) (x : Int32) : Value := va_rf (if x < 0 then none else some (xr g 10))
/-- which class a kind of row is -/
def xci (k : Int32) : Nat := if k = 1 then 9 else if k = 2 then 6 else if k = 3 then 3 else if k = 4 then 0 else if k = 5 then 5 else 8
def xO_this (g : xG) (S : xS) : List Value := [.ref (xr g 1), .ref (xr g 2), .ref (xr g 30), .ref (xr g 3), .ref (xr g 10), .int (S.1 0 0), .int (S.1 1 0), .int (S.1 2 0), .ref (xr g 31), .ref (xr g 9), .ref (xr g 8), .ref (xr g 7), .ref (xr g 6), .ref (xr g 5)]
def xO_hall (g : xG) (S : xS) : List Value := [.ref (xr g 12), .ref (xr g 13), .ref (xr g 11), .ref (xr g 29), .ref (xr g 16), .ref (xr g 15), .ref (xr g 17), .ref (xr g 19), .ref (xr g 18), .int (S.1 16 0), .int (S.1 17 0), .int (S.1 18 0), xtv g (S.1 19 0), .int (S.1 20 0), .int (S.1 21 0), .int (S.1 22 0), .int (S.1 23 0), xrv g (S.1 24 0), .ref (xr g 4), .ref (xr g 14)]
def xO_image (g : xG) (S : xS) : List Value := [.int (S.1 26 0), .int (S.1 27 0), .int (S.1 28 0), .int (S.1 29 0), .ref (xr g 25), .ref (xr g 26), .ref (xr g 21), .ref (xr g 22), .ref (xr g 20), .ref (xr g 24), .ref (xr g 23), .int (S.1 37 0)]
def xO_reader (g : xG) (S : xS) : List Value := [.int (S.1 38 0), xbv g (S.1 39 0), .int (S.1 40 0), .int (S.1 41 0), .int (S.1 42 0), .int (S.1 43 0), .int (S.1 44 0), .int (S.1 45 0), .ref (xr g 28), .ref (xr g 27), .int (S.1 48 0)]
def xO_line (g : xG) (S : xS) : List Value := [.int (S.1 49 0), .int (S.1 50 0), .int (S.1 51 0), .int (S.1 52 0), .int (S.1 53 0)]
def xRf (g : xG) (S : xS) (r : Nat) : List Value := [.int (S.1 54 r), .int (S.1 55 r), .int (S.1 56 r), .ref (xr g (100 + (2 * r + 1))), .int (S.1 57 r), .int (S.1 58 r), .int (S.1 59 r), .int (S.1 60 r), .int (S.1 61 r), .int (S.1 62 r), .int (S.1 63 r)]
def xTf (g : xG) (t : Nat) : List Value := [.ref (xr g (200 + (4 * t + 1))), .ref (xr g (200 + (4 * t + 2))), .ref (xr g (200 + (4 * t + 3)))]
def xRc (g : xG) (S : xS) (k : Nat) : va_E := if k % 2 = 0 then .inr (xci (S.1 54 (k / 2)), xRf g S (k / 2)) else .inl (xc g 0, 8, .inl (S.1 (80 + 4 * (k / 2))))
def xTc (g : xG) (S : xS) (k : Nat) : va_E := if k % 4 = 0 then .inr (10, xTf g (k / 4)) else if k % 4 = 1 then .inl (xc g 0, (S.1 76 (k / 4)).toNatClampNeg, .inl (S.1 (81 + 4 * (k / 4)))) else if k % 4 = 2 then .inl (xc g 0, 3, .inl (S.1 (82 + 4 * (k / 4)))) else .inl (xc g 0, 32, .inl (S.1 (83 + 4 * (k / 4))))
def xA (g : xG) (S : xS) : va_W := [(xr g 0, .inr (11, xO_this g S)), (xr g 1, .inr (1, xO_hall g S)), (xr g 2, .inr (2, xO_image g S)), (xr g 3, .inr (7, xO_reader g S)), (xr g 4, .inr (4, xO_line g S)), (xr g 5, .inl (xc g 2, 2, .inr (.inl (S.2.1 0)))), (xr g 6, .inl (xc g 0, 48, .inl (S.1 7))), (xr g 7, .inl (xc g 0, 6, .inl (S.1 6))), (xr g 8, .inl (xc g 0, 4, .inl (S.1 5))), (xr g 9, .inl (xc g 0, 4, .inl (S.1 4))), (xr g 10, .inl (xc g 1, 160, .inl (S.1 3))), (xr g 11, .inl (xc g 0, 4, .inl (S.1 10))), (xr g 12, .inl (xc g 0, 4, .inl (S.1 8))), (xr g 13, .inl (xc g 0, 4, .inl (S.1 9))), (xr g 14, .inl (xc g 0, 6, .inl (S.1 25))), (xr g 15, .inl (xc g 0, 6, .inl (S.1 12))), (xr g 16, .inl (xc g 0, 6, .inl (S.1 11))), (xr g 17, .inl (xc g 0, 6, .inl (S.1 13))), (xr g 18, .inl (xc g 0, 4, .inl (S.1 15))), (xr g 19, .inl (xc g 0, 4, .inl (S.1 14))), (xr g 20, .inl (xc g 0, 4, .inl (S.1 34))), (xr g 21, .inl (xc g 0, 4, .inl (S.1 32))), (xr g 22, .inl (xc g 0, 4, .inl (S.1 33))), (xr g 23, .inl (xc g 0, 4, .inl (S.1 36))), (xr g 24, .inl (xc g 0, 4, .inl (S.1 35))), (xr g 25, .inl (xc g 0, 6, .inl (S.1 30))), (xr g 26, .inl (xc g 0, 48, .inl (S.1 31))), (xr g 27, .inl (xc g 0, 3, .inl (S.1 47))), (xr g 28, .inl (xc g 0, 160, .inl (S.1 46))), (xr g 29, .inl (xc g 3, 6, .inr (.inr (.inr (.inr (fun j => if j < S.2.2.1 then some (xr g (100 + 2 * j)) else none)))))), (xr g 30, .inl (xc g 4, 6, .inr (.inr (.inr (.inr (fun j => if j < S.2.2.2 then some (xr g (200 + 4 * j)) else none)))))), (xr g 31, .inl (xc g 5, 4, .inr (.inr (.inr (.inr (fun j => if j < 4 then some (xr g (32 + j)) else none)))))), (xr g 32, .inl (xc g 0, 60, .inl (S.1 70))), (xr g 33, .inl (xc g 0, 60, .inl (S.1 71))), (xr g 34, .inl (xc g 0, 60, .inl (S.1 72))), (xr g 35, .inl (xc g 0, 60, .inl (S.1 73)))]
def xRw (g : xG) (S : xS) : va_W := (List.range (2 * S.2.2.1)).map (fun k => (xr g (100 + k), xRc g S k))
def xTx (g : xG) (S : xS) : va_W := (List.range (4 * S.2.2.2)).map (fun k => (xr g (200 + k), xTc g S k))
def xW (g : xG) (S : xS) : va_W := xA g S ++ (xRw g S ++ xTx g S)
def xT (g : xG) : List (ClassId × FieldType) := [(xc g 0, .int), (xc g 1, .byte), (xc g 2, .long), (xc g 3, .object RX8), (xc g 4, .object RX10), (xc g 5, .array .int)]
def xNest : List (String × Nat × MethodName) := [(RX11, 9, yX1_init), (RX1, 74, yX4_init), (RX11, 18, yX2_init), (RX11, 31, yX7_init), (RX1, 161, yX11_reduce)]
def xCast : List (String × String) := [("OverTheHeads$Inner", "OverTheHeads$Shifted"), ("OverTheHeads$Balcony", "OverTheHeads$Raised"), ("OverTheHeads$Shifted", "OverTheHeads$Row"), ("OverTheHeads$Raised", "OverTheHeads$Row"), ("OverTheHeads$Inner", "OverTheHeads$Row"), ("OverTheHeads$Balcony", "OverTheHeads$Row"), ("OverTheHeads$Low", "OverTheHeads$Row")]
def xNc : List (String × String) := [("OverTheHeads$Shifted", "OverTheHeads$Raised"), ("OverTheHeads$Shifted", "OverTheHeads$Inner"), ("OverTheHeads$Shifted", "OverTheHeads$Balcony"), ("OverTheHeads$Shifted", "OverTheHeads$Low"), ("OverTheHeads$Raised", "OverTheHeads$Shifted"), ("OverTheHeads$Raised", "OverTheHeads$Inner"), ("OverTheHeads$Raised", "OverTheHeads$Balcony"), ("OverTheHeads$Raised", "OverTheHeads$Low"), ("OverTheHeads$Inner", "OverTheHeads$Raised"), ("OverTheHeads$Inner", "OverTheHeads$Balcony"), ("OverTheHeads$Inner", "OverTheHeads$Low"), ("OverTheHeads$Balcony", "OverTheHeads$Shifted"), ("OverTheHeads$Balcony", "OverTheHeads$Inner"), ("OverTheHeads$Balcony", "OverTheHeads$Low"), ("OverTheHeads$Low", "OverTheHeads$Shifted"), ("OverTheHeads$Low", "OverTheHeads$Raised"), ("OverTheHeads$Low", "OverTheHeads$Inner"), ("OverTheHeads$Low", "OverTheHeads$Balcony"), ("OverTheHeads$Row", "OverTheHeads$Shifted"), ("OverTheHeads$Row", "OverTheHeads$Raised"), ("OverTheHeads$Row", "OverTheHeads$Inner"), ("OverTheHeads$Row", "OverTheHeads$Balcony"), ("OverTheHeads$Row", "OverTheHeads$Low")]
def xStr : List (String × Nat × String) := [("OverTheHeads", 72, "like value ; price value * 2 - row ; cost high * 3 + rise ;"), ("OverTheHeads$Reader", 123, "value"), ("OverTheHeads$Reader", 131, "high"), ("OverTheHeads$Reader", 133, "row"), ("OverTheHeads$Reader", 135, "place"), ("OverTheHeads$Reader", 137, "rise"), ("OverTheHeads$Reader", 139, "sort"), ("OverTheHeads$Reader", 141, "like"), ("OverTheHeads$Reader", 143, "price"), ("OverTheHeads$Reader", 145, "cost"), ("OverTheHeads$Reader", 147, "or"), ("OverTheHeads$Reader", 149, "and"), ("OverTheHeads$Reader", 151, "not")]
def xLen : List Nat := [59, 5, 4, 3, 5, 4, 4, 4, 5, 4, 2, 3, 3]
def xByt : List (List Int32) := [[108, 105, 107, 101, 32, 118, 97, 108, 117, 101, 32, 59, 32, 112, 114, 105, 99, 101, 32, 118, 97, 108, 117, 101, 32, 42, 32, 50, 32, 45, 32, 114, 111, 119, 32, 59, 32, 99, 111, 115, 116, 32, 104, 105, 103, 104, 32, 42, 32, 51, 32, 43, 32, 114, 105, 115, 101, 32, 59], [118, 97, 108, 117, 101], [104, 105, 103, 104], [114, 111, 119], [112, 108, 97, 99, 101], [114, 105, 115, 101], [115, 111, 114, 116], [108, 105, 107, 101], [112, 114, 105, 99, 101], [99, 111, 115, 116], [111, 114], [97, 110, 100], [110, 111, 116]]
def xE (g : xG) (A : Nat → Prop) (s : State) : Prop := (∀ q ∈ xNest, va_Nw (.methodLinkNest q.1 q.2.1 q.2.2 "OverTheHeads") s) ∧ (∀ q ∈ xCast, va_Nw (.castable q.1 q.2) s) ∧ (∀ q ∈ xNc, va_Nc q.1 q.2 s) ∧ (∀ i q, xStr[i]? = some q → vk_R q.1 q.2.1 q.2.2 (xr g (300 + i)) s) ∧ vk_S 13 xLen xByt (fun i => xr g (300 + i)) (fun i => xr g (320 + i)) A s s.heap ∧ va_Z "java/lang/String" "COMPACT_STRINGS" "Z" (.int 1) A s s.heap ∧ va_Zq "jdk/internal/util/Preconditions" "SIOOBE_FORMATTER" "Ljava/util/function/BiFunction;" A s s.heap ∧ va_AO "OverTheHeads$Row" s ∧ va_AO "OverTheHeads$Text" s ∧ va_AOA .int s
def xI (g : xG) (A : Nat → Prop) (H0 : Heap) (s : State) (S : xS) (H : Heap) (locs : List Loc) : Prop := va_K g.1 vwCl (xT g) s ∧ va_P g.1 vwCl (xW g S) H ∧ va_D A (xW g S) ∧ va_S A H0 H locs ∧ (∀ q : Nat, H0.size ≤ q → A q) ∧ H0 = s.heap ∧ xE g A s
theorem xA_len (g : xG) (S : xS) : (xA g S).length = 36 := rfl
theorem xW_A {g : xG} {S : xS} {k : Nat} (h : k < 36) : (xW g S)[k]? = (xA g S)[k]? := List.getElem?_append_left (by rw [xA_len]; exact h)
theorem xRw_len (g : xG) (S : xS) : (xRw g S).length = 2 * S.2.2.1 := by simp [xRw]
theorem xTx_len (g : xG) (S : xS) : (xTx g S).length = 4 * S.2.2.2 := by simp [xTx]
theorem xW_R {g : xG} {S : xS} {k : Nat} (h : k < 2 * S.2.2.1) : (xW g S)[36 + k]? = some (xr g (100 + k), xRc g S k) := by
  unfold xW
  rw [List.getElem?_append_right (by rw [xA_len]; omega), xA_len, show 36 + k - 36 = k by omega, List.getElem?_append_left (by rw [xRw_len]; exact h)]
  simp [xRw, h]
theorem xW_T {g : xG} {S : xS} {k : Nat} (h : k < 4 * S.2.2.2) : (xW g S)[36 + 2 * S.2.2.1 + k]? = some (xr g (200 + k), xTc g S k) := by
  unfold xW
  rw [List.getElem?_append_right (by rw [xA_len]; omega), xA_len, show 36 + 2 * S.2.2.1 + k - 36 = 2 * S.2.2.1 + k by omega, List.getElem?_append_right (by rw [xRw_len]; omega), xRw_len, show 2 * S.2.2.1 + k - 2 * S.2.2.1 = k by omega]
  simp [xTx, h]
theorem xW_row {g : xG} {S : xS} {r : Nat} (h : r < S.2.2.1) : (xW g S)[36 + 2 * r]? = some (xr g (100 + 2 * r), .inr (xci (S.1 54 r), xRf g S r)) := by
  rw [xW_R (by omega)]
  simp only [xRc, show 2 * r % 2 = 0 by omega, show 2 * r / 2 = r by omega, if_true]
theorem xW_sorts {g : xG} {S : xS} {r : Nat} (h : r < S.2.2.1) : (xW g S)[36 + (2 * r + 1)]? = some (xr g (100 + (2 * r + 1)), .inl (xc g 0, 8, .inl (S.1 (80 + 4 * r)))) := by
  rw [xW_R (by omega)]
  simp only [xRc, show (2 * r + 1) % 2 = 1 by omega, show (2 * r + 1) / 2 = r by omega, Nat.one_ne_zero, if_false]
theorem xW_text {g : xG} {S : xS} {t : Nat} (h : t < S.2.2.2) : (xW g S)[36 + 2 * S.2.2.1 + 4 * t]? = some (xr g (200 + 4 * t), .inr (10, xTf g t)) := by
  rw [xW_T (by omega)]
  simp only [xTc, show 4 * t % 4 = 0 by omega, show 4 * t / 4 = t by omega, if_true]
theorem xW_steps {g : xG} {S : xS} {t : Nat} (h : t < S.2.2.2) : (xW g S)[36 + 2 * S.2.2.1 + (4 * t + 1)]? = some (xr g (200 + (4 * t + 1)), .inl (xc g 0, (S.1 76 t).toNatClampNeg, .inl (S.1 (81 + 4 * t)))) := by
  rw [xW_T (by omega)]
  simp only [xTc, show (4 * t + 1) % 4 = 1 by omega, show (4 * t + 1) / 4 = t by omega, Nat.one_ne_zero, if_true, if_false]
theorem xW_ends {g : xG} {S : xS} {t : Nat} (h : t < S.2.2.2) : (xW g S)[36 + 2 * S.2.2.1 + (4 * t + 2)]? = some (xr g (200 + (4 * t + 2)), .inl (xc g 0, 3, .inl (S.1 (82 + 4 * t)))) := by
  rw [xW_T (by omega)]
  simp only [xTc, show (4 * t + 2) % 4 = 2 by omega, show (4 * t + 2) / 4 = t by omega, if_true, if_false, show ¬ (2 = 0) by decide, show ¬ (2 = 1) by decide]
theorem xW_pile {g : xG} {S : xS} {t : Nat} (h : t < S.2.2.2) : (xW g S)[36 + 2 * S.2.2.1 + (4 * t + 3)]? = some (xr g (200 + (4 * t + 3)), .inl (xc g 0, 32, .inl (S.1 (83 + 4 * t)))) := by
  rw [xW_T (by omega)]
  simp only [xTc, show (4 * t + 3) % 4 = 3 by omega, show (4 * t + 3) / 4 = t by omega, if_false, show ¬ (3 = 0) by decide, show ¬ (3 = 1) by decide, show ¬ (3 = 2) by decide]
theorem xA_congr {g : xG} {S S1 : xS} (h : ∀ j, j < 54 ∨ (69 < j ∧ j < 74) → S1.1 j = S.1 j) (h2 : S1.2 = S.2) : xA g S1 = xA g S := by
  have h_0 := h 0 (by omega)
  have h_1 := h 1 (by omega)
  have h_2 := h 2 (by omega)
  have h_3 := h 3 (by omega)
  have h_4 := h 4 (by omega)
  have h_5 := h 5 (by omega)
  have h_6 := h 6 (by omega)
  have h_7 := h 7 (by omega)
  have h_8 := h 8 (by omega)
  have h_9 := h 9 (by omega)
  have h_10 := h 10 (by omega)
  have h_11 := h 11 (by omega)
  have h_12 := h 12 (by omega)
  have h_13 := h 13 (by omega)
  have h_14 := h 14 (by omega)
  have h_15 := h 15 (by omega)
  have h_16 := h 16 (by omega)
  have h_17 := h 17 (by omega)
  have h_18 := h 18 (by omega)
  have h_19 := h 19 (by omega)
  have h_20 := h 20 (by omega)
  have h_21 := h 21 (by omega)
  have h_22 := h 22 (by omega)
  have h_23 := h 23 (by omega)
  have h_24 := h 24 (by omega)
  have h_25 := h 25 (by omega)
  have h_26 := h 26 (by omega)
  have h_27 := h 27 (by omega)
  have h_28 := h 28 (by omega)
  have h_29 := h 29 (by omega)
  have h_30 := h 30 (by omega)
  have h_31 := h 31 (by omega)
  have h_32 := h 32 (by omega)
  have h_33 := h 33 (by omega)
  have h_34 := h 34 (by omega)
  have h_35 := h 35 (by omega)
  have h_36 := h 36 (by omega)
  have h_37 := h 37 (by omega)
  have h_38 := h 38 (by omega)
  have h_39 := h 39 (by omega)
  have h_40 := h 40 (by omega)
  have h_41 := h 41 (by omega)
  have h_42 := h 42 (by omega)
  have h_43 := h 43 (by omega)
  have h_44 := h 44 (by omega)
  have h_45 := h 45 (by omega)
  have h_46 := h 46 (by omega)
  have h_47 := h 47 (by omega)
  have h_48 := h 48 (by omega)
  have h_49 := h 49 (by omega)
  have h_50 := h 50 (by omega)
  have h_51 := h 51 (by omega)
  have h_52 := h 52 (by omega)
  have h_53 := h 53 (by omega)
  have h_70 := h 70 (by omega)
  have h_71 := h 71 (by omega)
  have h_72 := h 72 (by omega)
  have h_73 := h 73 (by omega)
  simp only [xA, xO_this, xO_hall, xO_image, xO_reader, xO_line, h2, h_0, h_1, h_2, h_3, h_4, h_5, h_6, h_7, h_8, h_9, h_10, h_11, h_12, h_13, h_14, h_15, h_16, h_17, h_18, h_19, h_20, h_21, h_22, h_23, h_24, h_25, h_26, h_27, h_28, h_29, h_30, h_31, h_32, h_33, h_34, h_35, h_36, h_37, h_38, h_39, h_40, h_41, h_42, h_43, h_44, h_45, h_46, h_47, h_48, h_49, h_50, h_51, h_52, h_53, h_70, h_71, h_72, h_73]
theorem xRw_congr {g : xG} {S S1 : xS} (h : ∀ j, 53 < j ∧ j < 64 → S1.1 j = S.1 j) (h3 : ∀ r, S1.1 (80 + 4 * r) = S.1 (80 + 4 * r)) (h2 : S1.2 = S.2) : xRw g S1 = xRw g S := by
  have hc : ∀ k, xRc g S1 k = xRc g S k := by
    intro k
    simp only [xRc, xRf, h3, h 54 (by omega), h 55 (by omega), h 56 (by omega), h 57 (by omega), h 58 (by omega), h 59 (by omega), h 60 (by omega), h 61 (by omega), h 62 (by omega), h 63 (by omega)]
  simp only [xRw, hc, h2]
theorem xTx_congr {g : xG} {S S1 : xS} (h : S1.1 76 = S.1 76) (h3 : ∀ r, S1.1 (81 + 4 * r) = S.1 (81 + 4 * r)) (h4 : ∀ r, S1.1 (82 + 4 * r) = S.1 (82 + 4 * r)) (h5 : ∀ r, S1.1 (83 + 4 * r) = S.1 (83 + 4 * r)) (h2 : S1.2 = S.2) : xTx g S1 = xTx g S := by
  have hc : ∀ k, xTc g S1 k = xTc g S k := by
    intro k
    simp only [xTc, h, h3, h4, h5]
  simp only [xTx, hc, h2]
theorem xs_1 {S : xS} {k i j : Nat} {x : Int32} (h : j ≠ k) : (xs S k i x).1 j = S.1 j := by
  have hb : Nat.beq j k = false := by
    cases hb : Nat.beq j k with
    | false => rfl
    | true => exact absurd (Nat.eq_of_beq_eq_true hb) h
  simp only [xs, hb, cond_false]
theorem xs_1s {S : xS} {k i : Nat} {x : Int32} : (xs S k i x).1 k = upd (S.1 k) i x := by
  simp only [xs, Nat.beq_refl, cond_true]
theorem map_range_set {α : Type} {n k : Nat} {f f2 : Nat → α} {e : α} (he : f2 k = e) (hf : ∀ j, j ≠ k → f2 j = f j) : ((List.range n).map f).set k e = (List.range n).map f2 := by
  apply List.ext_getElem?
  intro j
  rw [List.getElem?_set]
  simp only [List.length_map, List.length_range, List.getElem?_map]
  by_cases hj : k = j
  · subst hj
    by_cases hk : k < n
    · simp [hk, he]
    · simp [hk]
  · simp only [if_neg hj, hf j (fun h => hj h.symm)]
    cases h : (List.range n)[j]? with
    | none => rfl
    | some v =>
      have hv : v = j := by
        rw [List.getElem?_eq_some_iff] at h
        obtain ⟨h1, h2⟩ := h
        simpa using h2.symm
      subst hv
      simp [hf v (fun h => hj h.symm)]
theorem xW_setA {g : xG} {S S1 : xS} {k : Nat} {e : Nat × va_E} (hk : k < 36) (hA : (xA g S).set k e = xA g S1) (hR : xRw g S1 = xRw g S) (hT : xTx g S1 = xTx g S) : (xW g S).set k e = xW g S1 := by
  unfold xW
  rw [List.set_append_left _ _ (by rw [xA_len]; exact hk), hA, hR, hT]
theorem xW_setR {g : xG} {S S1 : xS} {k : Nat} {e : Nat × va_E} (hk : k < 2 * S.2.2.1) (hR : (xRw g S).set k e = xRw g S1) (hA : xA g S1 = xA g S) (hT : xTx g S1 = xTx g S) : (xW g S).set (36 + k) e = xW g S1 := by
  unfold xW
  rw [List.set_append_right _ _ (by rw [xA_len]; omega), xA_len, show 36 + k - 36 = k by omega, List.set_append_left _ _ (by rw [xRw_len]; exact hk), hA, hR, hT]
theorem xW_setT {g : xG} {S S1 : xS} {k : Nat} {e : Nat × va_E} (hk : k < 4 * S.2.2.2) (hT : (xTx g S).set k e = xTx g S1) (hA : xA g S1 = xA g S) (hR : xRw g S1 = xRw g S) : (xW g S).set (36 + 2 * S.2.2.1 + k) e = xW g S1 := by
  unfold xW
  rw [List.set_append_right _ _ (by rw [xA_len]; omega), xA_len, show 36 + 2 * S.2.2.1 + k - 36 = 2 * S.2.2.1 + k by omega, List.set_append_right _ _ (by rw [xRw_len]; omega), xRw_len, show 2 * S.2.2.1 + k - 2 * S.2.2.1 = k by omega, hA, hR, hT]
theorem xs_R {g : xG} {S : xS} {k i : Nat} {x : Int32} (hk : k < 54 ∨ (69 < k ∧ k < 76)) : xRw g (xs S k i x) = xRw g S := xRw_congr (fun j hj => xs_1 (by omega)) (fun r => xs_1 (by omega)) rfl
theorem xs_T {g : xG} {S : xS} {k i : Nat} {x : Int32} (hk : k < 76) : xTx g (xs S k i x) = xTx g S := xTx_congr (xs_1 (by omega)) (fun r => xs_1 (by omega)) (fun r => xs_1 (by omega)) (fun r => xs_1 (by omega)) rfl
theorem xW_put_rise {g : xG} {S : xS} {r : Nat} {x : Int32} (h : r < S.2.2.1) : (xW g S).set (36 + 2 * r) (xr g (100 + 2 * r), .inr (xci (S.1 54 r), (xRf g S r).set 4 (.int x))) = xW g (xs S 57 r x) := by
  refine xW_setR (by omega) ?_ (xA_congr (fun j hj => xs_1 (by omega)) rfl) (xs_T (by omega))
  unfold xRw
  refine map_range_set ?_ ?_
  · simp only [xRc, show 2 * r % 2 = 0 by omega, show 2 * r / 2 = r by omega, if_true, xRf, List.set, xs_1s, upd]
    simp only [xs_1 (show (54 : Nat) ≠ 57 by decide), xs_1 (show (55 : Nat) ≠ 57 by decide), xs_1 (show (56 : Nat) ≠ 57 by decide), xs_1 (show (58 : Nat) ≠ 57 by decide), xs_1 (show (59 : Nat) ≠ 57 by decide), xs_1 (show (60 : Nat) ≠ 57 by decide), xs_1 (show (61 : Nat) ≠ 57 by decide), xs_1 (show (62 : Nat) ≠ 57 by decide), xs_1 (show (63 : Nat) ≠ 57 by decide)]
  · intro j hj
    have h80 : (xs S 57 r x).1 (80 + 4 * (j / 2)) = S.1 (80 + 4 * (j / 2)) := xs_1 (by omega)
    by_cases h2 : j % 2 = 0
    · have hq : ¬ j / 2 = r := by omega
      simp only [xRc, h2, if_true, xRf, xs_1s, upd, hq, if_false]
      simp only [xs_1 (show (54 : Nat) ≠ 57 by decide), xs_1 (show (55 : Nat) ≠ 57 by decide), xs_1 (show (56 : Nat) ≠ 57 by decide), xs_1 (show (58 : Nat) ≠ 57 by decide), xs_1 (show (59 : Nat) ≠ 57 by decide), xs_1 (show (60 : Nat) ≠ 57 by decide), xs_1 (show (61 : Nat) ≠ 57 by decide), xs_1 (show (62 : Nat) ≠ 57 by decide), xs_1 (show (63 : Nat) ≠ 57 by decide)]
    · simp only [xRc, h2, if_false, h80]
theorem xW_put_shift {g : xG} {S : xS} {r : Nat} {x : Int32} (h : r < S.2.2.1) : (xW g S).set (36 + 2 * r) (xr g (100 + 2 * r), .inr (xci (S.1 54 r), (xRf g S r).set 5 (.int x))) = xW g (xs S 58 r x) := by
  refine xW_setR (by omega) ?_ (xA_congr (fun j hj => xs_1 (by omega)) rfl) (xs_T (by omega))
  unfold xRw
  refine map_range_set ?_ ?_
  · simp only [xRc, show 2 * r % 2 = 0 by omega, show 2 * r / 2 = r by omega, if_true, xRf, List.set, xs_1s, upd]
    simp only [xs_1 (show (54 : Nat) ≠ 58 by decide), xs_1 (show (55 : Nat) ≠ 58 by decide), xs_1 (show (56 : Nat) ≠ 58 by decide), xs_1 (show (57 : Nat) ≠ 58 by decide), xs_1 (show (59 : Nat) ≠ 58 by decide), xs_1 (show (60 : Nat) ≠ 58 by decide), xs_1 (show (61 : Nat) ≠ 58 by decide), xs_1 (show (62 : Nat) ≠ 58 by decide), xs_1 (show (63 : Nat) ≠ 58 by decide)]
  · intro j hj
    have h80 : (xs S 58 r x).1 (80 + 4 * (j / 2)) = S.1 (80 + 4 * (j / 2)) := xs_1 (by omega)
    by_cases h2 : j % 2 = 0
    · have hq : ¬ j / 2 = r := by omega
      simp only [xRc, h2, if_true, xRf, xs_1s, upd, hq, if_false]
      simp only [xs_1 (show (54 : Nat) ≠ 58 by decide), xs_1 (show (55 : Nat) ≠ 58 by decide), xs_1 (show (56 : Nat) ≠ 58 by decide), xs_1 (show (57 : Nat) ≠ 58 by decide), xs_1 (show (59 : Nat) ≠ 58 by decide), xs_1 (show (60 : Nat) ≠ 58 by decide), xs_1 (show (61 : Nat) ≠ 58 by decide), xs_1 (show (62 : Nat) ≠ 58 by decide), xs_1 (show (63 : Nat) ≠ 58 by decide)]
    · simp only [xRc, h2, if_false, h80]
theorem xW_put_sorts {g : xG} {S : xS} {r i : Nat} {x : Int32} (h : r < S.2.2.1) : (xW g S).set (36 + (2 * r + 1)) (xr g (100 + (2 * r + 1)), .inl (xc g 0, 8, .inl (upd (S.1 (80 + 4 * r)) i x))) = xW g (xs S (80 + 4 * r) i x) := by
  refine xW_setR (by omega) ?_ (xA_congr (fun j hj => xs_1 (by omega)) rfl) (xTx_congr (xs_1 (by omega)) (fun r => xs_1 (by omega)) (fun r => xs_1 (by omega)) (fun r => xs_1 (by omega)) rfl)
  unfold xRw
  refine map_range_set ?_ ?_
  · simp only [xRc, show (2 * r + 1) % 2 = 1 by omega, show (2 * r + 1) / 2 = r by omega, Nat.one_ne_zero, if_false, xs_1s]
  · intro j hj
    by_cases h2 : j % 2 = 0
    · have e : ∀ c, c < 80 → (xs S (80 + 4 * r) i x).1 c = S.1 c := fun c hc => xs_1 (by omega)
      simp only [xRc, h2, if_true, xRf, e 54 (by decide), e 55 (by decide), e 56 (by decide), e 57 (by decide), e 58 (by decide), e 59 (by decide), e 60 (by decide), e 61 (by decide), e 62 (by decide), e 63 (by decide)]
    · have e : (xs S (80 + 4 * r) i x).1 (80 + 4 * (j / 2)) = S.1 (80 + 4 * (j / 2)) := xs_1 (by omega)
      simp only [xRc, h2, if_false, e]
theorem xW_put_pile {g : xG} {S : xS} {t i : Nat} {x : Int32} (h : t < S.2.2.2) : (xW g S).set (36 + 2 * S.2.2.1 + (4 * t + 3)) (xr g (200 + (4 * t + 3)), .inl (xc g 0, 32, .inl (upd (S.1 (83 + 4 * t)) i x))) = xW g (xs S (83 + 4 * t) i x) := by
  refine xW_setT (by omega) ?_ (xA_congr (fun j hj => xs_1 (by omega)) rfl) (xRw_congr (fun j hj => xs_1 (by omega)) (fun r => xs_1 (by omega)) rfl)
  unfold xTx
  refine map_range_set ?_ ?_
  · simp only [xTc, show (4 * t + 3) % 4 = 3 by omega, show (4 * t + 3) / 4 = t by omega, if_false, show ¬ (3 = 0) by decide, show ¬ (3 = 1) by decide, show ¬ (3 = 2) by decide, xs_1s]
  · intro j hj
    have e76 : (xs S (83 + 4 * t) i x).1 76 = S.1 76 := xs_1 (by omega)
    have e1 : (xs S (83 + 4 * t) i x).1 (81 + 4 * (j / 4)) = S.1 (81 + 4 * (j / 4)) := xs_1 (by omega)
    have e2 : (xs S (83 + 4 * t) i x).1 (82 + 4 * (j / 4)) = S.1 (82 + 4 * (j / 4)) := xs_1 (by omega)
    by_cases h0 : j % 4 = 0
    · simp only [xTc, h0, if_true]
    · by_cases h1 : j % 4 = 1
      · simp only [xTc, h1, Nat.one_ne_zero, if_true, if_false, e76, e1]
      · by_cases h2 : j % 4 = 2
        · simp only [xTc, h2, if_true, if_false, show ¬ (2 = 0) by decide, show ¬ (2 = 1) by decide, e2]
        · have e3 : (xs S (83 + 4 * t) i x).1 (83 + 4 * (j / 4)) = S.1 (83 + 4 * (j / 4)) := xs_1 (by omega)
          simp only [xTc, h0, h1, h2, if_false, e3]
