section PSPEC
/-! what the reference answers, as numbers of its lasting state -/
def nr (a : aS) : Nat := (a 3 0).toNatClampNeg
def np (a : aS) : Nat := (a 10 0).toNatClampNeg
def nk (a : aS) : Nat := (a 14 0).toNatClampNeg
def ns (a : aS) (r : Nat) : Nat := (a 5 r).toNatClampNeg
def nt (a : aS) : Nat := (a 21 0).toNatClampNeg
def rl (a : aS) : Nat := (a 22 0).toNatClampNeg
def st (a : aS) (t j : Nat) : Nat := (a 20 (4 * t + j)).toNatClampNeg
def cd (a : aS) (t i : Nat) : Int32 := a 19 (200 * t + i)
def fPlace (a : aS) (r : Nat) (c : Int32) : Int32 := (2 * c + a 8 r) + (if a 4 r = 1 then 1 else if a 4 r = 3 then 1 + (a 6 r - a 6 r / 10 * 10) else 0)
def fFloor (a : aS) (r : Nat) : Int32 := a 7 r + (if a 4 r = 2 then a 6 r else if a 4 r = 4 then 3 * a 6 r else 0)
def fFar (a : aS) (r : Nat) : Int32 := (10 + 10 * nI r) - (if a 4 r = 3 then 3 else 0)
def fAmong (a : aS) (r : Nat) : Bool := !decide (a 4 r = 4)
def fLow (a : aS) (r : Nat) : Int32 := if a 4 r = 5 then a 6 r else 0
def fAbove (a : aS) (r : Nat) (v : Int32) : Int32 := fFloor a r + (if v ≤ fLow a r then 0 else v - fLow a r)
def fSort (a : aS) (r c : Nat) : Int32 := a 9 (8 * r + c)
def fEyes (a : aS) (r c : Nat) : Int32 := fAbove a r (a 0 (fSort a r c).toNatClampNeg)
def fTop (a : aS) (r c : Nat) : Int32 := fAbove a r (a 1 (fSort a r c).toNatClampNeg) + (if nI (8 * r + c) = a 23 0 then a 24 0 else 0)
def fAbs (x : Int32) : Int32 := if 0 ≤ x then x else -x
def fBes (a : aS) (r c p : Nat) (place far : Int32) : Int32 := (a 11 p * fFar a r + (fPlace a r (nI c) - a 11 p) * far) - place * fFar a r
def fNear (a : aS) (r c p q e : Nat) : Bool := fAmong a r && fAmong a q && decide (fAbs (fBes a r c p (fPlace a q (nI e)) (fFar a q)) ≤ fFar a r)
def fHigh (a : aS) (r c p : Nat) (high far : Int32) : Bool := !decide (high * fFar a r < a 12 p * fFar a r + (fEyes a r c - a 12 p) * far)
def fHid (a : aS) (r c p q e : Nat) : Bool := fNear a r c p q e && fHigh a r c p (fTop a q e) (fFar a q)
def fHeads (a : aS) (r c p : Nat) : Nat → Nat → Option Int32
  | 0, _ => none
  | k + 1, q => match fFirst (fHid a r c p q) (ns a q) 0 with
    | some e => some (10 * nI q + nI e)
    | none => fHeads a r c p k (q + 1)
def fPosts (a : aS) (r c p k : Nat) : Bool := decide (a 16 k < fFar a r) && decide (fAbs (fBes a r c p (a 15 k) (a 16 k)) < fFar a r)
def fPost (a : aS) (r c p : Nat) : Option Nat := fFirst (fPosts a r c p) (nk a) 0
def fPostI (a : aS) (r c p : Nat) : Int32 := match fPost a r c p with
  | some k => nI k
  | none => -1
def fHider (a : aS) (r c p : Nat) : Int32 := match fHeads a r c p r 0 with
  | some x => x
  | none => match fPost a r c p with
    | some k => 100 + nI k
    | none => -1
def fSeesL (a : aS) (r c : Nat) : Nat → Nat → Int32 → Int32
  | 0, _, v => v
  | k + 1, p, v => fSeesL a r c k (p + 1) (v ||| (if fHider a r c p = -1 then (1 : Int32) <<< (nI p &&& 31) else 0))
def fSees (a : aS) (r c : Nat) : Int32 := fSeesL a r c (np a) 0 0
def fAllBits (a : aS) : Int32 := ((1 : Int32) <<< (a 10 0 &&& 31)) - 1
/-! a text's codes: valid ones, how deep the pile gets, what they come to -/
def cOK (c : Int32) : Prop := ∃ n : Nat, c = nI n ∧ (n ≤ 5 ∨ (11 ≤ n ∧ n ≤ 19) ∨ (100000 ≤ n ∧ n < 110000))
def dStep (c : Int32) (d : Nat) : Option Nat := if 100000 ≤ c then (if d < 32 then some (d + 1) else none) else if 11 ≤ c then (if c = 13 then (if 0 < d then some d else none) else if c = 19 then (if 0 < d then some d else none) else (if 1 < d then some (d - 1) else none)) else (if d < 32 then some (d + 1) else none)
def dRun (code : Nat → Int32) : Nat → Nat → Nat → Option Nat
  | 0, _, d => some d
  | k + 1, i, d => match dStep (code i) d with
    | none => none
    | some d1 => dRun code k (i + 1) d1
def eStep (env : Nat → Int32) (c : Int32) (s : List Int32) : List Int32 := if 100000 ≤ c then (c - 100000) :: s else if 11 ≤ c then (if c = 13 then (match s with
    | x :: t => (if x = 0 then 1 else 0) :: t
    | [] => []) else if c = 19 then (match s with
    | x :: t => (-x) :: t
    | [] => []) else (match s with
    | y :: x :: t => mf_two c x y :: t
    | _ => s)) else env c.toNatClampNeg :: s
def eRun (code : Nat → Int32) (env : Nat → Int32) : Nat → Nat → List Int32 → List Int32
  | 0, _, s => s
  | k + 1, i, s => eRun code env k (i + 1) (eStep env (code i) s)
def eTop : List Int32 → Int32
  | [] => 0
  | x :: _ => x
def fClamp (x most : Int32) : Int32 := if 0 ≤ x then (if x ≤ most then x else most) else 0
def fLaw (a : aS) (part : Nat) (env : Nat → Int32) : Int32 := eTop (eRun (cd a (rl a)) env (st a (rl a) (part + 1) - st a (rl a) part) (st a (rl a) part) [])
def fEnv (v h r p f s : Int32) : Nat → Int32 := fun i => bif Nat.beq i 0 then v else bif Nat.beq i 1 then h else bif Nat.beq i 2 then r else bif Nat.beq i 3 then p else bif Nat.beq i 4 then f else s
def fLike (a : aS) (r c p : Nat) : Int32 := fClamp (fLaw a 0 (fEnv (a 13 p) (a 12 p) (nI r) (fPlace a r (nI c)) (fFloor a r) (fSort a r c))) 99
def fWorth (a : aS) (r c : Nat) : Int32 := fSum (fun p => if fHider a r c p = -1 then fLike a r c p else 0) (np a) 0 0
def fRows (a : aS) (f : Nat → Nat → Int32) : Nat → Nat → Int32 → Int32
  | 0, _, v => v
  | k + 1, r, v => fRows a f k (r + 1) (fSum (f r) (ns a r) 0 v)
def fAll (a : aS) : Int32 := fRows a (fWorth a) (nr a) 0 0
def fPrice (a : aS) (r c : Nat) : Int32 := fClamp (fLaw a 1 (fEnv (fWorth a r c) 0 (nI r) (fPlace a r (nI c)) (fFloor a r) (fSort a r c))) 999
def fStep (a : aS) (r : Nat) : Int32 := if r = 0 then a 7 r - 0 else a 7 r - a 7 (r - 1)
def fCost1 (a : aS) (r : Nat) : Int32 := if fStep a r = 0 then 0 else fClamp (fLaw a 2 (fEnv 0 (fStep a r) (nI r) 0 (a 7 r) 0)) 999
def fCost (a : aS) : Int32 := fSum (fCost1 a) (nr a) 0 0
/-! a code as the class keeps it -/
def encW (c : Int32) : Int32 := if 100000 ≤ c then 1 else if 11 ≤ c then (if c = 11 then 3 else if c = 12 then 4 else if c = 13 then 5 else if c = 14 then 60 else if c = 15 then 61 else if c = 16 then 43 else if c = 17 then 45 else if c = 18 then 42 else 6) else 2
def encA (c : Int32) : Int32 := if 100000 ≤ c then c - 100000 else if 11 ≤ c then 0 else c
def enc (c : Int32) : Int32 := (encW c <<< (14 &&& 31)) ||| encA c
/-! what holds of the lasting state while a question is answered -/
def tOK (a : aS) (t : Nat) : Prop := (∀ j, j < 4 → a 20 (4 * t + j) = nI (st a t j)) ∧ st a t 0 = 0 ∧ (∀ j, j < 3 → st a t j ≤ st a t (j + 1)) ∧ st a t 3 ≤ 160 ∧ (∀ i, i < st a t 3 → cOK (cd a t i)) ∧ ∀ j, j < 3 → dRun (cd a t) (st a t (j + 1) - st a t j) (st a t j) 0 = some 1
def IS_n (a : aS) : Prop := a 3 0 = nI (nr a) ∧ nr a ≤ 6 ∧ a 10 0 = nI (np a) ∧ np a ≤ 6 ∧ a 14 0 = nI (nk a) ∧ nk a ≤ 4
def IS_k (a : aS) : Prop := ∀ k, k < 4 → iv (a 0 k) 0 40 ∧ iv (a 1 k) 0 40 ∧ iv (a 2 k) 0 9
def IS_r (a : aS) : Prop := ∀ r, r < nr a → iv (a 4 r) 0 5 ∧ a 5 r = nI (ns a r) ∧ 1 ≤ ns a r ∧ ns a r ≤ 8 ∧ iv (a 6 r) 0 20 ∧ iv (a 7 r) (-1) 100 ∧ iv (a 8 r) 0 1
def IS_s (a : aS) : Prop := ∀ r, r < nr a → ∀ c, c < 8 → iv (a 9 (8 * r + c)) 0 3
def IS_p (a : aS) : Prop := ∀ p, p < np a → iv (a 11 p) 0 20 ∧ iv (a 12 p) 0 70 ∧ iv (a 13 p) 0 99
def IS_o (a : aS) : Prop := ∀ k, k < nk a → iv (a 15 k) 0 20 ∧ iv (a 16 k) 1 69
def IS_h (a : aS) : Prop := a 23 0 = -1 ∨ iv (a 24 0) 0 40
def IS_t (a : aS) : Prop := a 21 0 = nI (nt a) ∧ 1 ≤ nt a ∧ nt a ≤ 6 ∧ a 22 0 = nI (rl a) ∧ rl a < nt a ∧ ∀ t, t < nt a → tOK a t
def IS (a : aS) : Prop := IS_n a ∧ IS_k a ∧ IS_r a ∧ IS_s a ∧ IS_p a ∧ IS_o a ∧ IS_h a ∧ IS_t a
/-! the class's cells for it -/
def RS_n (X : xS) (a : aS) : Prop := X.1 16 0 = a 3 0 ∧ X.1 17 0 = a 10 0 ∧ X.1 18 0 = a 14 0 ∧ X.2.2.1 = nr a
def RS_k (X : xS) (a : aS) : Prop := X.1 8 = a 0 ∧ X.1 9 = a 1 ∧ X.1 10 = a 2
def RS_r (X : xS) (a : aS) : Prop := ∀ r, r < nr a → X.1 54 r = a 4 r ∧ X.1 55 r = nI r ∧ X.1 56 r = a 5 r ∧ X.1 57 r = a 7 r ∧ X.1 58 r = a 8 r ∧ X.1 59 r = nrAside (a 4 r) (a 6 r) ∧ X.1 60 r = nrAbove (a 4 r) (a 6 r) ∧ X.1 61 r = nrFar (a 4 r) (nI r) ∧ X.1 62 r = nrLow (a 4 r) (a 6 r) ∧ X.1 63 r = nrAmong (a 4 r)
def RS_s (X : xS) (a : aS) : Prop := ∀ r, r < nr a → ∀ c, c < 8 → a 9 (8 * r + c) = if X.1 20 0 = -1 then X.1 (80 + 4 * r) c else X.1 20 0
def RS_p (X : xS) (a : aS) : Prop := ∀ p, p < np a → X.1 11 p = a 11 p ∧ X.1 12 p + X.1 21 0 = a 12 p ∧ X.1 13 p = a 13 p
def RS_o (X : xS) (a : aS) : Prop := ∀ k, k < nk a → X.1 14 k = a 15 k ∧ X.1 15 k = a 16 k
def RS_h (X : xS) (a : aS) : Prop := (X.1 24 0 < 0 ∧ a 23 0 = -1) ∨ ∃ r c, r < nr a ∧ c < 8 ∧ X.1 24 0 = nI r ∧ X.1 22 0 = nI c ∧ a 23 0 = nI (8 * r + c) ∧ a 24 0 = X.1 23 0
def RS_t (X : xS) (a : aS) : Prop := X.1 0 0 = a 21 0 ∧ X.1 1 0 = a 22 0 ∧ X.1 19 0 = a 22 0 ∧ X.2.2.2 = nt a ∧ ∀ t, t < nt a → X.1 76 t = nI (st a t 3) ∧ (∀ j, j < 3 → X.1 (82 + 4 * t) j = a 20 (4 * t + (j + 1))) ∧ ∀ i, i < st a t 3 → X.1 (81 + 4 * t) i = enc (cd a t i)
def RS (X : xS) (a : aS) : Prop := RS_n X a ∧ RS_k X a ∧ RS_r X a ∧ RS_s X a ∧ RS_p X a ∧ RS_o X a ∧ RS_h X a ∧ RS_t X a
theorem RS.frameL {X X1 : xS} {a : aS} (h : RS X a) (hq : xL X X1) : RS X1 a := by
  obtain ⟨h1, h2, h3, h4, h5, h6, h7, h8⟩ := h
  obtain ⟨q1, q2⟩ := hq
  have k : ∀ j, xcoreL j = true → X1.1 j = X.1 j := q1
  refine ⟨?_, ?_, ?_, ?_, ?_, ?_, ?_, ?_⟩
  · unfold RS_n at h1 ⊢
    rw [k 16 rfl, k 17 rfl, k 18 rfl, q2]
    exact h1
  · unfold RS_k at h2 ⊢
    rw [k 8 rfl, k 9 rfl, k 10 rfl]
    exact h2
  · unfold RS_r at h3 ⊢
    rw [k 54 rfl, k 55 rfl, k 56 rfl, k 57 rfl, k 58 rfl, k 59 rfl, k 60 rfl, k 61 rfl, k 62 rfl, k 63 rfl]
    exact h3
  · intro r hr c hc
    rw [k 20 rfl, k (80 + 4 * r) (xcoreL_row r)]
    exact h4 r hr c hc
  · unfold RS_p at h5 ⊢
    rw [k 11 rfl, k 12 rfl, k 13 rfl, k 21 rfl]
    exact h5
  · unfold RS_o at h6 ⊢
    rw [k 14 rfl, k 15 rfl]
    exact h6
  · unfold RS_h at h7 ⊢
    rw [k 24 rfl, k 22 rfl, k 23 rfl]
    exact h7
  · unfold RS_t at h8 ⊢
    rw [k 0 rfl, k 1 rfl, k 19 rfl, q2, k 76 rfl]
    refine ⟨h8.1, h8.2.1, h8.2.2.1, h8.2.2.2.1, fun t ht => ?_⟩
    rw [k (82 + 4 * t) (xcoreL_ends t), k (81 + 4 * t) (xcoreL_steps t)]
    exact h8.2.2.2.2 t ht
theorem RS.frame {X X1 : xS} {a : aS} (h : RS X a) (hq : xQ X X1) : RS X1 a := h.frameL hq.l
end PSPEC
