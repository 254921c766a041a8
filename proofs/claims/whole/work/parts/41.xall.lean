/-- the reader's methods that call one another, D calls deep at most -/
def xr_all (N : Nat) : Nat → Nat → xS → Option xS
  | 0, _, _ => none
  | D + 1, k, S => match k with
    | 0 => xf_R_readOr N (xr_all N D) S
    | 1 => xf_R_readAnd N (xr_all N D) S
    | 2 => xf_R_readNot N (xr_all N D) S
    | 3 => xf_R_readComparison N (xr_all N D) S
    | 4 => xf_R_readSum N (xr_all N D) S
    | 5 => xf_R_readTerm N (xr_all N D) S
    | _ => xf_R_readOne N (xr_all N D) S
theorem cx_R_all (l : Launch) (N : Nat) : ∀ (D k : Nat) (S S1 : xS), xr_all N D k S = some S1 → xKr l k (D + 12) S S1 := by
  intro D
  induction D with
  | zero => intro k S S1 h; exact nomatch (show none = some S1 from h)
  | succ D ih =>
    intro k S S1 h
    match k, h with
    | 0, h => exact cx_R_readOr l N (xr_all N D) D ih S S1 h
    | 1, h => exact cx_R_readAnd l N (xr_all N D) D ih S S1 h
    | 2, h => exact cx_R_readNot l N (xr_all N D) D ih S S1 h
    | 3, h => exact cx_R_readComparison l N (xr_all N D) D ih S S1 h
    | 4, h => exact cx_R_readSum l N (xr_all N D) D ih S S1 h
    | 5, h => exact cx_R_readTerm l N (xr_all N D) D ih S S1 h
    | k + 6, h => exact cx_R_readOne l N (xr_all N D) D ih S S1 h
