/-! nI against a literal -/
theorem nl_le0 {j : Nat} (h : j < 2 ^ 31) : (nI j ≤ (0 : Int32)) ↔ j ≤ 0 := nI_leI (b := 0) h (by decide)
theorem nl_lt0 {j : Nat} (h : j < 2 ^ 31) : (nI j < (0 : Int32)) ↔ j < 0 := nI_ltI (b := 0) h (by decide)
theorem nl_ge0 {j : Nat} (h : j < 2 ^ 31) : ((0 : Int32) ≤ nI j) ↔ 0 ≤ j := nI_leI (a := 0) (by decide) h
theorem nl_gt0 {j : Nat} (h : j < 2 ^ 31) : ((0 : Int32) < nI j) ↔ 0 < j := nI_ltI (a := 0) (by decide) h
theorem nl_eq0 {j : Nat} (h : j < 2 ^ 31) : (nI j = (0 : Int32)) ↔ j = 0 := nI_eq (b := 0) h (by decide)
theorem nl_le1 {j : Nat} (h : j < 2 ^ 31) : (nI j ≤ (1 : Int32)) ↔ j ≤ 1 := nI_leI (b := 1) h (by decide)
theorem nl_lt1 {j : Nat} (h : j < 2 ^ 31) : (nI j < (1 : Int32)) ↔ j < 1 := nI_ltI (b := 1) h (by decide)
theorem nl_ge1 {j : Nat} (h : j < 2 ^ 31) : ((1 : Int32) ≤ nI j) ↔ 1 ≤ j := nI_leI (a := 1) (by decide) h
theorem nl_gt1 {j : Nat} (h : j < 2 ^ 31) : ((1 : Int32) < nI j) ↔ 1 < j := nI_ltI (a := 1) (by decide) h
theorem nl_eq1 {j : Nat} (h : j < 2 ^ 31) : (nI j = (1 : Int32)) ↔ j = 1 := nI_eq (b := 1) h (by decide)
theorem nl_le2 {j : Nat} (h : j < 2 ^ 31) : (nI j ≤ (2 : Int32)) ↔ j ≤ 2 := nI_leI (b := 2) h (by decide)
theorem nl_lt2 {j : Nat} (h : j < 2 ^ 31) : (nI j < (2 : Int32)) ↔ j < 2 := nI_ltI (b := 2) h (by decide)
theorem nl_ge2 {j : Nat} (h : j < 2 ^ 31) : ((2 : Int32) ≤ nI j) ↔ 2 ≤ j := nI_leI (a := 2) (by decide) h
theorem nl_gt2 {j : Nat} (h : j < 2 ^ 31) : ((2 : Int32) < nI j) ↔ 2 < j := nI_ltI (a := 2) (by decide) h
theorem nl_eq2 {j : Nat} (h : j < 2 ^ 31) : (nI j = (2 : Int32)) ↔ j = 2 := nI_eq (b := 2) h (by decide)
theorem nl_le3 {j : Nat} (h : j < 2 ^ 31) : (nI j ≤ (3 : Int32)) ↔ j ≤ 3 := nI_leI (b := 3) h (by decide)
theorem nl_lt3 {j : Nat} (h : j < 2 ^ 31) : (nI j < (3 : Int32)) ↔ j < 3 := nI_ltI (b := 3) h (by decide)
theorem nl_ge3 {j : Nat} (h : j < 2 ^ 31) : ((3 : Int32) ≤ nI j) ↔ 3 ≤ j := nI_leI (a := 3) (by decide) h
theorem nl_gt3 {j : Nat} (h : j < 2 ^ 31) : ((3 : Int32) < nI j) ↔ 3 < j := nI_ltI (a := 3) (by decide) h
theorem nl_eq3 {j : Nat} (h : j < 2 ^ 31) : (nI j = (3 : Int32)) ↔ j = 3 := nI_eq (b := 3) h (by decide)
theorem nl_le4 {j : Nat} (h : j < 2 ^ 31) : (nI j ≤ (4 : Int32)) ↔ j ≤ 4 := nI_leI (b := 4) h (by decide)
theorem nl_lt4 {j : Nat} (h : j < 2 ^ 31) : (nI j < (4 : Int32)) ↔ j < 4 := nI_ltI (b := 4) h (by decide)
theorem nl_ge4 {j : Nat} (h : j < 2 ^ 31) : ((4 : Int32) ≤ nI j) ↔ 4 ≤ j := nI_leI (a := 4) (by decide) h
theorem nl_gt4 {j : Nat} (h : j < 2 ^ 31) : ((4 : Int32) < nI j) ↔ 4 < j := nI_ltI (a := 4) (by decide) h
theorem nl_eq4 {j : Nat} (h : j < 2 ^ 31) : (nI j = (4 : Int32)) ↔ j = 4 := nI_eq (b := 4) h (by decide)
theorem nl_le5 {j : Nat} (h : j < 2 ^ 31) : (nI j ≤ (5 : Int32)) ↔ j ≤ 5 := nI_leI (b := 5) h (by decide)
theorem nl_lt5 {j : Nat} (h : j < 2 ^ 31) : (nI j < (5 : Int32)) ↔ j < 5 := nI_ltI (b := 5) h (by decide)
theorem nl_ge5 {j : Nat} (h : j < 2 ^ 31) : ((5 : Int32) ≤ nI j) ↔ 5 ≤ j := nI_leI (a := 5) (by decide) h
theorem nl_gt5 {j : Nat} (h : j < 2 ^ 31) : ((5 : Int32) < nI j) ↔ 5 < j := nI_ltI (a := 5) (by decide) h
theorem nl_eq5 {j : Nat} (h : j < 2 ^ 31) : (nI j = (5 : Int32)) ↔ j = 5 := nI_eq (b := 5) h (by decide)
theorem nl_le6 {j : Nat} (h : j < 2 ^ 31) : (nI j ≤ (6 : Int32)) ↔ j ≤ 6 := nI_leI (b := 6) h (by decide)
theorem nl_lt6 {j : Nat} (h : j < 2 ^ 31) : (nI j < (6 : Int32)) ↔ j < 6 := nI_ltI (b := 6) h (by decide)
theorem nl_ge6 {j : Nat} (h : j < 2 ^ 31) : ((6 : Int32) ≤ nI j) ↔ 6 ≤ j := nI_leI (a := 6) (by decide) h
theorem nl_gt6 {j : Nat} (h : j < 2 ^ 31) : ((6 : Int32) < nI j) ↔ 6 < j := nI_ltI (a := 6) (by decide) h
theorem nl_eq6 {j : Nat} (h : j < 2 ^ 31) : (nI j = (6 : Int32)) ↔ j = 6 := nI_eq (b := 6) h (by decide)
theorem nl_le7 {j : Nat} (h : j < 2 ^ 31) : (nI j ≤ (7 : Int32)) ↔ j ≤ 7 := nI_leI (b := 7) h (by decide)
theorem nl_lt7 {j : Nat} (h : j < 2 ^ 31) : (nI j < (7 : Int32)) ↔ j < 7 := nI_ltI (b := 7) h (by decide)
theorem nl_ge7 {j : Nat} (h : j < 2 ^ 31) : ((7 : Int32) ≤ nI j) ↔ 7 ≤ j := nI_leI (a := 7) (by decide) h
theorem nl_gt7 {j : Nat} (h : j < 2 ^ 31) : ((7 : Int32) < nI j) ↔ 7 < j := nI_ltI (a := 7) (by decide) h
theorem nl_eq7 {j : Nat} (h : j < 2 ^ 31) : (nI j = (7 : Int32)) ↔ j = 7 := nI_eq (b := 7) h (by decide)
theorem nl_le8 {j : Nat} (h : j < 2 ^ 31) : (nI j ≤ (8 : Int32)) ↔ j ≤ 8 := nI_leI (b := 8) h (by decide)
theorem nl_lt8 {j : Nat} (h : j < 2 ^ 31) : (nI j < (8 : Int32)) ↔ j < 8 := nI_ltI (b := 8) h (by decide)
theorem nl_ge8 {j : Nat} (h : j < 2 ^ 31) : ((8 : Int32) ≤ nI j) ↔ 8 ≤ j := nI_leI (a := 8) (by decide) h
theorem nl_gt8 {j : Nat} (h : j < 2 ^ 31) : ((8 : Int32) < nI j) ↔ 8 < j := nI_ltI (a := 8) (by decide) h
theorem nl_eq8 {j : Nat} (h : j < 2 ^ 31) : (nI j = (8 : Int32)) ↔ j = 8 := nI_eq (b := 8) h (by decide)
theorem nl_le9 {j : Nat} (h : j < 2 ^ 31) : (nI j ≤ (9 : Int32)) ↔ j ≤ 9 := nI_leI (b := 9) h (by decide)
theorem nl_lt9 {j : Nat} (h : j < 2 ^ 31) : (nI j < (9 : Int32)) ↔ j < 9 := nI_ltI (b := 9) h (by decide)
theorem nl_ge9 {j : Nat} (h : j < 2 ^ 31) : ((9 : Int32) ≤ nI j) ↔ 9 ≤ j := nI_leI (a := 9) (by decide) h
theorem nl_gt9 {j : Nat} (h : j < 2 ^ 31) : ((9 : Int32) < nI j) ↔ 9 < j := nI_ltI (a := 9) (by decide) h
theorem nl_eq9 {j : Nat} (h : j < 2 ^ 31) : (nI j = (9 : Int32)) ↔ j = 9 := nI_eq (b := 9) h (by decide)
theorem nl_le10 {j : Nat} (h : j < 2 ^ 31) : (nI j ≤ (10 : Int32)) ↔ j ≤ 10 := nI_leI (b := 10) h (by decide)
theorem nl_lt10 {j : Nat} (h : j < 2 ^ 31) : (nI j < (10 : Int32)) ↔ j < 10 := nI_ltI (b := 10) h (by decide)
theorem nl_ge10 {j : Nat} (h : j < 2 ^ 31) : ((10 : Int32) ≤ nI j) ↔ 10 ≤ j := nI_leI (a := 10) (by decide) h
theorem nl_gt10 {j : Nat} (h : j < 2 ^ 31) : ((10 : Int32) < nI j) ↔ 10 < j := nI_ltI (a := 10) (by decide) h
theorem nl_eq10 {j : Nat} (h : j < 2 ^ 31) : (nI j = (10 : Int32)) ↔ j = 10 := nI_eq (b := 10) h (by decide)
theorem nl_le11 {j : Nat} (h : j < 2 ^ 31) : (nI j ≤ (11 : Int32)) ↔ j ≤ 11 := nI_leI (b := 11) h (by decide)
theorem nl_lt11 {j : Nat} (h : j < 2 ^ 31) : (nI j < (11 : Int32)) ↔ j < 11 := nI_ltI (b := 11) h (by decide)
theorem nl_ge11 {j : Nat} (h : j < 2 ^ 31) : ((11 : Int32) ≤ nI j) ↔ 11 ≤ j := nI_leI (a := 11) (by decide) h
theorem nl_gt11 {j : Nat} (h : j < 2 ^ 31) : ((11 : Int32) < nI j) ↔ 11 < j := nI_ltI (a := 11) (by decide) h
theorem nl_eq11 {j : Nat} (h : j < 2 ^ 31) : (nI j = (11 : Int32)) ↔ j = 11 := nI_eq (b := 11) h (by decide)
theorem nl_le12 {j : Nat} (h : j < 2 ^ 31) : (nI j ≤ (12 : Int32)) ↔ j ≤ 12 := nI_leI (b := 12) h (by decide)
theorem nl_lt12 {j : Nat} (h : j < 2 ^ 31) : (nI j < (12 : Int32)) ↔ j < 12 := nI_ltI (b := 12) h (by decide)
theorem nl_ge12 {j : Nat} (h : j < 2 ^ 31) : ((12 : Int32) ≤ nI j) ↔ 12 ≤ j := nI_leI (a := 12) (by decide) h
theorem nl_gt12 {j : Nat} (h : j < 2 ^ 31) : ((12 : Int32) < nI j) ↔ 12 < j := nI_ltI (a := 12) (by decide) h
theorem nl_eq12 {j : Nat} (h : j < 2 ^ 31) : (nI j = (12 : Int32)) ↔ j = 12 := nI_eq (b := 12) h (by decide)
theorem nl_le13 {j : Nat} (h : j < 2 ^ 31) : (nI j ≤ (13 : Int32)) ↔ j ≤ 13 := nI_leI (b := 13) h (by decide)
theorem nl_lt13 {j : Nat} (h : j < 2 ^ 31) : (nI j < (13 : Int32)) ↔ j < 13 := nI_ltI (b := 13) h (by decide)
theorem nl_ge13 {j : Nat} (h : j < 2 ^ 31) : ((13 : Int32) ≤ nI j) ↔ 13 ≤ j := nI_leI (a := 13) (by decide) h
theorem nl_gt13 {j : Nat} (h : j < 2 ^ 31) : ((13 : Int32) < nI j) ↔ 13 < j := nI_ltI (a := 13) (by decide) h
theorem nl_eq13 {j : Nat} (h : j < 2 ^ 31) : (nI j = (13 : Int32)) ↔ j = 13 := nI_eq (b := 13) h (by decide)
theorem nl_le14 {j : Nat} (h : j < 2 ^ 31) : (nI j ≤ (14 : Int32)) ↔ j ≤ 14 := nI_leI (b := 14) h (by decide)
theorem nl_lt14 {j : Nat} (h : j < 2 ^ 31) : (nI j < (14 : Int32)) ↔ j < 14 := nI_ltI (b := 14) h (by decide)
theorem nl_ge14 {j : Nat} (h : j < 2 ^ 31) : ((14 : Int32) ≤ nI j) ↔ 14 ≤ j := nI_leI (a := 14) (by decide) h
theorem nl_gt14 {j : Nat} (h : j < 2 ^ 31) : ((14 : Int32) < nI j) ↔ 14 < j := nI_ltI (a := 14) (by decide) h
theorem nl_eq14 {j : Nat} (h : j < 2 ^ 31) : (nI j = (14 : Int32)) ↔ j = 14 := nI_eq (b := 14) h (by decide)
theorem nl_le15 {j : Nat} (h : j < 2 ^ 31) : (nI j ≤ (15 : Int32)) ↔ j ≤ 15 := nI_leI (b := 15) h (by decide)
theorem nl_lt15 {j : Nat} (h : j < 2 ^ 31) : (nI j < (15 : Int32)) ↔ j < 15 := nI_ltI (b := 15) h (by decide)
theorem nl_ge15 {j : Nat} (h : j < 2 ^ 31) : ((15 : Int32) ≤ nI j) ↔ 15 ≤ j := nI_leI (a := 15) (by decide) h
theorem nl_gt15 {j : Nat} (h : j < 2 ^ 31) : ((15 : Int32) < nI j) ↔ 15 < j := nI_ltI (a := 15) (by decide) h
theorem nl_eq15 {j : Nat} (h : j < 2 ^ 31) : (nI j = (15 : Int32)) ↔ j = 15 := nI_eq (b := 15) h (by decide)
theorem nl_le16 {j : Nat} (h : j < 2 ^ 31) : (nI j ≤ (16 : Int32)) ↔ j ≤ 16 := nI_leI (b := 16) h (by decide)
theorem nl_lt16 {j : Nat} (h : j < 2 ^ 31) : (nI j < (16 : Int32)) ↔ j < 16 := nI_ltI (b := 16) h (by decide)
theorem nl_ge16 {j : Nat} (h : j < 2 ^ 31) : ((16 : Int32) ≤ nI j) ↔ 16 ≤ j := nI_leI (a := 16) (by decide) h
theorem nl_gt16 {j : Nat} (h : j < 2 ^ 31) : ((16 : Int32) < nI j) ↔ 16 < j := nI_ltI (a := 16) (by decide) h
theorem nl_eq16 {j : Nat} (h : j < 2 ^ 31) : (nI j = (16 : Int32)) ↔ j = 16 := nI_eq (b := 16) h (by decide)
theorem nl_le32 {j : Nat} (h : j < 2 ^ 31) : (nI j ≤ (32 : Int32)) ↔ j ≤ 32 := nI_leI (b := 32) h (by decide)
theorem nl_lt32 {j : Nat} (h : j < 2 ^ 31) : (nI j < (32 : Int32)) ↔ j < 32 := nI_ltI (b := 32) h (by decide)
theorem nl_ge32 {j : Nat} (h : j < 2 ^ 31) : ((32 : Int32) ≤ nI j) ↔ 32 ≤ j := nI_leI (a := 32) (by decide) h
theorem nl_gt32 {j : Nat} (h : j < 2 ^ 31) : ((32 : Int32) < nI j) ↔ 32 < j := nI_ltI (a := 32) (by decide) h
theorem nl_eq32 {j : Nat} (h : j < 2 ^ 31) : (nI j = (32 : Int32)) ↔ j = 32 := nI_eq (b := 32) h (by decide)
theorem nl_pre {P n : Nat} (hP : P < 2 ^ 31) (hn : n < 2 ^ 31) : nI P ≤ nI n - 1 ↔ P < n := by
  cases n with
  | zero =>
    have e : nI 0 - 1 = (-1 : Int32) := by decide
    rw [e]
    constructor
    · intro h
      have a := nI_pos' hP
      exact absurd (Int32.le_trans a h) (by decide)
    · intro h
      omega
  | succ m =>
    rw [nI_pred, nI_leI hP (by omega)]
    omega
theorem nl_m1 {j : Nat} (h : j < 2 ^ 31) : (nI j = (-1 : Int32)) ↔ False := iff_false_intro (nc_m1 h)
