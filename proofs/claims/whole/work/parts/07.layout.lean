/-! LAYOUTS of the two systems; forms of contracts -/
def gp (k : Nat) : Nat := 6 + 7 * k
def yp (k : Nat) : Nat := 49 + 5 * k
def ep (k : Nat) : Nat := 59 + 2 * k
def op (k : Nat) : Nat := 63 + 3 * k
def shCl : List (Nat × Nat) := [(0, 0), (1, 24), (1, 24), (1, 24), (1, 24), (1, 24), (0, 2), (1, 2), (1, 4), (1, 24), (1, 24), (1, 24), (1, 64), (0, 2), (1, 2), (1, 4), (1, 24), (1, 24), (1, 24), (1, 64), (0, 2), (1, 2), (1, 4), (1, 24), (1, 24), (1, 24), (1, 64), (0, 2), (1, 2), (1, 4), (1, 24), (1, 24), (1, 24), (1, 64), (0, 2), (1, 2), (1, 4), (1, 24), (1, 24), (1, 24), (1, 64), (0, 2), (1, 2), (1, 4), (1, 24), (1, 24), (1, 24), (1, 64), (3, 4), (0, 3), (1, 4), (1, 24), (1, 24), (1, 4), (0, 3), (1, 4), (1, 24), (1, 24), (1, 4), (0, 1), (1, 24), (0, 1), (1, 24), (0, 4), (1, 40), (1, 40), (0, 4), (1, 40), (1, 40), (0, 5), (1, 201), (1, 201), (1, 201), (1, 201), (2, 3216), (0, 6), (0, 7), (1, 120), (1, 10), (1, 10), (1, 10), (1, 10), (1, 8), (0, 8)]
def rfCl : List (List Nat) := [[1, 2, 3, 4, 5], [], [], [], [], [], [0, 7, 8, 9, 10, 11, 12, 0, 0, 0, 0, 0, 0, 0, 0], [], [], [], [], [], [], [0, 14, 15, 16, 17, 18, 19, 0, 0, 0, 0, 0, 0, 0, 0], [], [], [], [], [], [], [0, 21, 22, 23, 24, 25, 26, 0, 0, 0, 0, 0, 0, 0, 0], [], [], [], [], [], [], [0, 28, 29, 30, 31, 32, 33, 0, 0, 0, 0, 0, 0, 0, 0], [], [], [], [], [], [], [0, 35, 36, 37, 38, 39, 40, 0, 0, 0, 0, 0, 0, 0, 0], [], [], [], [], [], [], [0, 42, 43, 44, 45, 46, 47, 0, 0, 0, 0, 0, 0, 0, 0], [], [], [], [], [], [], [20, 27, 34, 41], [0, 50, 51, 0, 52, 53, 0], [], [], [], [], [0, 55, 56, 0, 57, 58, 0], [], [], [], [], [0, 0, 0, 0, 60, 0, 0], [], [0, 0, 0, 0, 62, 0, 0], [], [64, 65, 0, 0], [], [], [67, 68, 0, 0], [], [], [70, 71, 72, 73, 74], [], [], [], [], [], [0, 54, 61, 69, 0, 0, 0, 0], [77, 0, 0, 78, 79, 80, 81, 0], [], [], [], [], [], [], [0, 6, 13, 0, 20, 48, 75, 49, 59, 63, 66, 76, 82, 0, 0, 0]]
def lyC : LY := (84, fun p => shCl.getD p (9, 0), fun p j => (rfCl.getD p []).getD j 0)
theorem sC_0 : sh lyC 0 0 0 := ⟨by decide, rfl⟩
theorem sC_1 : sh lyC 1 1 24 := ⟨by decide, rfl⟩
theorem sC_2 : sh lyC 2 1 24 := ⟨by decide, rfl⟩
theorem sC_3 : sh lyC 3 1 24 := ⟨by decide, rfl⟩
theorem sC_4 : sh lyC 4 1 24 := ⟨by decide, rfl⟩
theorem sC_5 : sh lyC 5 1 24 := ⟨by decide, rfl⟩
theorem sC_6 : sh lyC 6 0 2 := ⟨by decide, rfl⟩
theorem sC_7 : sh lyC 7 1 2 := ⟨by decide, rfl⟩
theorem sC_8 : sh lyC 8 1 4 := ⟨by decide, rfl⟩
theorem sC_9 : sh lyC 9 1 24 := ⟨by decide, rfl⟩
theorem sC_10 : sh lyC 10 1 24 := ⟨by decide, rfl⟩
theorem sC_11 : sh lyC 11 1 24 := ⟨by decide, rfl⟩
theorem sC_12 : sh lyC 12 1 64 := ⟨by decide, rfl⟩
theorem sC_13 : sh lyC 13 0 2 := ⟨by decide, rfl⟩
theorem sC_14 : sh lyC 14 1 2 := ⟨by decide, rfl⟩
theorem sC_15 : sh lyC 15 1 4 := ⟨by decide, rfl⟩
theorem sC_16 : sh lyC 16 1 24 := ⟨by decide, rfl⟩
theorem sC_17 : sh lyC 17 1 24 := ⟨by decide, rfl⟩
theorem sC_18 : sh lyC 18 1 24 := ⟨by decide, rfl⟩
theorem sC_19 : sh lyC 19 1 64 := ⟨by decide, rfl⟩
theorem sC_20 : sh lyC 20 0 2 := ⟨by decide, rfl⟩
theorem sC_21 : sh lyC 21 1 2 := ⟨by decide, rfl⟩
theorem sC_22 : sh lyC 22 1 4 := ⟨by decide, rfl⟩
theorem sC_23 : sh lyC 23 1 24 := ⟨by decide, rfl⟩
theorem sC_24 : sh lyC 24 1 24 := ⟨by decide, rfl⟩
theorem sC_25 : sh lyC 25 1 24 := ⟨by decide, rfl⟩
theorem sC_26 : sh lyC 26 1 64 := ⟨by decide, rfl⟩
theorem sC_27 : sh lyC 27 0 2 := ⟨by decide, rfl⟩
theorem sC_28 : sh lyC 28 1 2 := ⟨by decide, rfl⟩
theorem sC_29 : sh lyC 29 1 4 := ⟨by decide, rfl⟩
theorem sC_30 : sh lyC 30 1 24 := ⟨by decide, rfl⟩
theorem sC_31 : sh lyC 31 1 24 := ⟨by decide, rfl⟩
theorem sC_32 : sh lyC 32 1 24 := ⟨by decide, rfl⟩
theorem sC_33 : sh lyC 33 1 64 := ⟨by decide, rfl⟩
theorem sC_34 : sh lyC 34 0 2 := ⟨by decide, rfl⟩
theorem sC_35 : sh lyC 35 1 2 := ⟨by decide, rfl⟩
theorem sC_36 : sh lyC 36 1 4 := ⟨by decide, rfl⟩
theorem sC_37 : sh lyC 37 1 24 := ⟨by decide, rfl⟩
theorem sC_38 : sh lyC 38 1 24 := ⟨by decide, rfl⟩
theorem sC_39 : sh lyC 39 1 24 := ⟨by decide, rfl⟩
theorem sC_40 : sh lyC 40 1 64 := ⟨by decide, rfl⟩
theorem sC_41 : sh lyC 41 0 2 := ⟨by decide, rfl⟩
theorem sC_42 : sh lyC 42 1 2 := ⟨by decide, rfl⟩
theorem sC_43 : sh lyC 43 1 4 := ⟨by decide, rfl⟩
theorem sC_44 : sh lyC 44 1 24 := ⟨by decide, rfl⟩
theorem sC_45 : sh lyC 45 1 24 := ⟨by decide, rfl⟩
theorem sC_46 : sh lyC 46 1 24 := ⟨by decide, rfl⟩
theorem sC_47 : sh lyC 47 1 64 := ⟨by decide, rfl⟩
theorem sC_48 : sh lyC 48 3 4 := ⟨by decide, rfl⟩
theorem sC_49 : sh lyC 49 0 3 := ⟨by decide, rfl⟩
theorem sC_50 : sh lyC 50 1 4 := ⟨by decide, rfl⟩
theorem sC_51 : sh lyC 51 1 24 := ⟨by decide, rfl⟩
theorem sC_52 : sh lyC 52 1 24 := ⟨by decide, rfl⟩
theorem sC_53 : sh lyC 53 1 4 := ⟨by decide, rfl⟩
theorem sC_54 : sh lyC 54 0 3 := ⟨by decide, rfl⟩
theorem sC_55 : sh lyC 55 1 4 := ⟨by decide, rfl⟩
theorem sC_56 : sh lyC 56 1 24 := ⟨by decide, rfl⟩
theorem sC_57 : sh lyC 57 1 24 := ⟨by decide, rfl⟩
theorem sC_58 : sh lyC 58 1 4 := ⟨by decide, rfl⟩
theorem sC_59 : sh lyC 59 0 1 := ⟨by decide, rfl⟩
theorem sC_60 : sh lyC 60 1 24 := ⟨by decide, rfl⟩
theorem sC_61 : sh lyC 61 0 1 := ⟨by decide, rfl⟩
theorem sC_62 : sh lyC 62 1 24 := ⟨by decide, rfl⟩
theorem sC_63 : sh lyC 63 0 4 := ⟨by decide, rfl⟩
theorem sC_64 : sh lyC 64 1 40 := ⟨by decide, rfl⟩
theorem sC_65 : sh lyC 65 1 40 := ⟨by decide, rfl⟩
theorem sC_66 : sh lyC 66 0 4 := ⟨by decide, rfl⟩
theorem sC_67 : sh lyC 67 1 40 := ⟨by decide, rfl⟩
theorem sC_68 : sh lyC 68 1 40 := ⟨by decide, rfl⟩
theorem sC_69 : sh lyC 69 0 5 := ⟨by decide, rfl⟩
theorem sC_70 : sh lyC 70 1 201 := ⟨by decide, rfl⟩
theorem sC_71 : sh lyC 71 1 201 := ⟨by decide, rfl⟩
theorem sC_72 : sh lyC 72 1 201 := ⟨by decide, rfl⟩
theorem sC_73 : sh lyC 73 1 201 := ⟨by decide, rfl⟩
theorem sC_74 : sh lyC 74 2 3216 := ⟨by decide, rfl⟩
theorem sC_75 : sh lyC 75 0 6 := ⟨by decide, rfl⟩
theorem sC_76 : sh lyC 76 0 7 := ⟨by decide, rfl⟩
theorem sC_77 : sh lyC 77 1 120 := ⟨by decide, rfl⟩
theorem sC_78 : sh lyC 78 1 10 := ⟨by decide, rfl⟩
theorem sC_79 : sh lyC 79 1 10 := ⟨by decide, rfl⟩
theorem sC_80 : sh lyC 80 1 10 := ⟨by decide, rfl⟩
theorem sC_81 : sh lyC 81 1 10 := ⟨by decide, rfl⟩
theorem sC_82 : sh lyC 82 1 8 := ⟨by decide, rfl⟩
theorem sC_83 : sh lyC 83 0 8 := ⟨by decide, rfl⟩
theorem shG0 {k : Nat} (hk : k < 6) : sh lyC (gp k) 0 2 := (by decide +kernel : ∀ k, k < 6 → (gp k < lyC.1 ∧ lyC.2.1 (gp k) = (0, 2))) k hk
theorem shG1 {k : Nat} (hk : k < 6) : sh lyC (gp k + 1) 1 2 := (by decide +kernel : ∀ k, k < 6 → (gp k + 1 < lyC.1 ∧ lyC.2.1 (gp k + 1) = (1, 2))) k hk
theorem shG2 {k : Nat} (hk : k < 6) : sh lyC (gp k + 2) 1 4 := (by decide +kernel : ∀ k, k < 6 → (gp k + 2 < lyC.1 ∧ lyC.2.1 (gp k + 2) = (1, 4))) k hk
theorem shG3 {k : Nat} (hk : k < 6) : sh lyC (gp k + 3) 1 24 := (by decide +kernel : ∀ k, k < 6 → (gp k + 3 < lyC.1 ∧ lyC.2.1 (gp k + 3) = (1, 24))) k hk
theorem shG4 {k : Nat} (hk : k < 6) : sh lyC (gp k + 4) 1 24 := (by decide +kernel : ∀ k, k < 6 → (gp k + 4 < lyC.1 ∧ lyC.2.1 (gp k + 4) = (1, 24))) k hk
theorem shG5 {k : Nat} (hk : k < 6) : sh lyC (gp k + 5) 1 24 := (by decide +kernel : ∀ k, k < 6 → (gp k + 5 < lyC.1 ∧ lyC.2.1 (gp k + 5) = (1, 24))) k hk
theorem shG6 {k : Nat} (hk : k < 6) : sh lyC (gp k + 6) 1 64 := (by decide +kernel : ∀ k, k < 6 → (gp k + 6 < lyC.1 ∧ lyC.2.1 (gp k + 6) = (1, 64))) k hk
theorem rf_G_0 {k : Nat} (hk : k < 6) : lyC.2.2 (gp k) 0 = 0 := (by decide +kernel : ∀ k, k < 6 → lyC.2.2 (gp k) 0 = 0) k hk
theorem rf_G_1 {k : Nat} (hk : k < 6) : lyC.2.2 (gp k) 1 = (gp k + 1) := (by decide +kernel : ∀ k, k < 6 → lyC.2.2 (gp k) 1 = (gp k + 1)) k hk
theorem rf_G_2 {k : Nat} (hk : k < 6) : lyC.2.2 (gp k) 2 = (gp k + 2) := (by decide +kernel : ∀ k, k < 6 → lyC.2.2 (gp k) 2 = (gp k + 2)) k hk
theorem rf_G_3 {k : Nat} (hk : k < 6) : lyC.2.2 (gp k) 3 = (gp k + 3) := (by decide +kernel : ∀ k, k < 6 → lyC.2.2 (gp k) 3 = (gp k + 3)) k hk
theorem rf_G_4 {k : Nat} (hk : k < 6) : lyC.2.2 (gp k) 4 = (gp k + 4) := (by decide +kernel : ∀ k, k < 6 → lyC.2.2 (gp k) 4 = (gp k + 4)) k hk
theorem rf_G_5 {k : Nat} (hk : k < 6) : lyC.2.2 (gp k) 5 = (gp k + 5) := (by decide +kernel : ∀ k, k < 6 → lyC.2.2 (gp k) 5 = (gp k + 5)) k hk
theorem rf_G_6 {k : Nat} (hk : k < 6) : lyC.2.2 (gp k) 6 = (gp k + 6) := (by decide +kernel : ∀ k, k < 6 → lyC.2.2 (gp k) 6 = (gp k + 6)) k hk
theorem shY0 {k : Nat} (hk : k < 2) : sh lyC (yp k) 0 3 := (by decide +kernel : ∀ k, k < 2 → (yp k < lyC.1 ∧ lyC.2.1 (yp k) = (0, 3))) k hk
theorem shY1 {k : Nat} (hk : k < 2) : sh lyC (yp k + 1) 1 4 := (by decide +kernel : ∀ k, k < 2 → (yp k + 1 < lyC.1 ∧ lyC.2.1 (yp k + 1) = (1, 4))) k hk
theorem shY2 {k : Nat} (hk : k < 2) : sh lyC (yp k + 2) 1 24 := (by decide +kernel : ∀ k, k < 2 → (yp k + 2 < lyC.1 ∧ lyC.2.1 (yp k + 2) = (1, 24))) k hk
theorem shY3 {k : Nat} (hk : k < 2) : sh lyC (yp k + 3) 1 24 := (by decide +kernel : ∀ k, k < 2 → (yp k + 3 < lyC.1 ∧ lyC.2.1 (yp k + 3) = (1, 24))) k hk
theorem shY4 {k : Nat} (hk : k < 2) : sh lyC (yp k + 4) 1 4 := (by decide +kernel : ∀ k, k < 2 → (yp k + 4 < lyC.1 ∧ lyC.2.1 (yp k + 4) = (1, 4))) k hk
theorem rf_Y_0 {k : Nat} (hk : k < 2) : lyC.2.2 (yp k) 0 = 0 := (by decide +kernel : ∀ k, k < 2 → lyC.2.2 (yp k) 0 = 0) k hk
theorem rf_Y_1 {k : Nat} (hk : k < 2) : lyC.2.2 (yp k) 1 = (yp k + 1) := (by decide +kernel : ∀ k, k < 2 → lyC.2.2 (yp k) 1 = (yp k + 1)) k hk
theorem rf_Y_2 {k : Nat} (hk : k < 2) : lyC.2.2 (yp k) 2 = (yp k + 2) := (by decide +kernel : ∀ k, k < 2 → lyC.2.2 (yp k) 2 = (yp k + 2)) k hk
theorem rf_Y_4 {k : Nat} (hk : k < 2) : lyC.2.2 (yp k) 4 = (yp k + 3) := (by decide +kernel : ∀ k, k < 2 → lyC.2.2 (yp k) 4 = (yp k + 3)) k hk
theorem rf_Y_5 {k : Nat} (hk : k < 2) : lyC.2.2 (yp k) 5 = (yp k + 4) := (by decide +kernel : ∀ k, k < 2 → lyC.2.2 (yp k) 5 = (yp k + 4)) k hk
theorem shE0 {k : Nat} (hk : k < 2) : sh lyC (ep k) 0 1 := (by decide +kernel : ∀ k, k < 2 → (ep k < lyC.1 ∧ lyC.2.1 (ep k) = (0, 1))) k hk
theorem shE1 {k : Nat} (hk : k < 2) : sh lyC (ep k + 1) 1 24 := (by decide +kernel : ∀ k, k < 2 → (ep k + 1 < lyC.1 ∧ lyC.2.1 (ep k + 1) = (1, 24))) k hk
theorem rf_E_0 {k : Nat} (hk : k < 2) : lyC.2.2 (ep k) 0 = 0 := (by decide +kernel : ∀ k, k < 2 → lyC.2.2 (ep k) 0 = 0) k hk
theorem rf_E_4 {k : Nat} (hk : k < 2) : lyC.2.2 (ep k) 4 = (ep k + 1) := (by decide +kernel : ∀ k, k < 2 → lyC.2.2 (ep k) 4 = (ep k + 1)) k hk
theorem shO0 {k : Nat} (hk : k < 2) : sh lyC (op k) 0 4 := (by decide +kernel : ∀ k, k < 2 → (op k < lyC.1 ∧ lyC.2.1 (op k) = (0, 4))) k hk
theorem shO1 {k : Nat} (hk : k < 2) : sh lyC (op k + 1) 1 40 := (by decide +kernel : ∀ k, k < 2 → (op k + 1 < lyC.1 ∧ lyC.2.1 (op k + 1) = (1, 40))) k hk
theorem shO2 {k : Nat} (hk : k < 2) : sh lyC (op k + 2) 1 40 := (by decide +kernel : ∀ k, k < 2 → (op k + 2 < lyC.1 ∧ lyC.2.1 (op k + 2) = (1, 40))) k hk
theorem rf_O_0 {k : Nat} (hk : k < 2) : lyC.2.2 (op k) 0 = (op k + 1) := (by decide +kernel : ∀ k, k < 2 → lyC.2.2 (op k) 0 = (op k + 1)) k hk
theorem rf_O_1 {k : Nat} (hk : k < 2) : lyC.2.2 (op k) 1 = (op k + 2) := (by decide +kernel : ∀ k, k < 2 → lyC.2.2 (op k) 1 = (op k + 2)) k hk
def shR1 : List (Nat × Nat) := [(0, 9), (1, 24), (1, 24), (1, 24), (1, 24), (1, 24), (1, 123), (4, 6), (1, 123), (1, 123), (1, 123), (1, 123), (1, 123), (1, 123), (1, 123), (4, 201)]
def shR2 : List (Nat × Nat) := [(1, 4), (1, 24), (1, 24), (1, 120), (1, 8), (1, 40), (1, 40)]
def rfR0 : List Nat := [1, 2, 3, 4, 5, 0, 6, 7, 14, 0, 15, 217, 218, 0, 219, 0, 0, 0, 0, 220, 0, 221, 0, 0, 0, 0, 0, 0, 222, 0, 223, 0, 0, 0, 0]
def lyR : LY := (224, fun p => if p < 16 then shR1.getD p (9, 0) else if p < 217 then (1, 116) else shR2.getD (p - 217) (9, 0), fun p j => if p = 7 then 8 + j else if p = 15 then 16 + j else rfR0.getD j 0)
theorem sR_0 : sh lyR 0 0 9 := ⟨by decide, rfl⟩
theorem sR_1 : sh lyR 1 1 24 := ⟨by decide, rfl⟩
theorem sR_2 : sh lyR 2 1 24 := ⟨by decide, rfl⟩
theorem sR_3 : sh lyR 3 1 24 := ⟨by decide, rfl⟩
theorem sR_4 : sh lyR 4 1 24 := ⟨by decide, rfl⟩
theorem sR_5 : sh lyR 5 1 24 := ⟨by decide, rfl⟩
theorem sR_6 : sh lyR 6 1 123 := ⟨by decide, rfl⟩
theorem sR_7 : sh lyR 7 4 6 := ⟨by decide, rfl⟩
theorem sR_8 : sh lyR 8 1 123 := ⟨by decide, rfl⟩
theorem sR_9 : sh lyR 9 1 123 := ⟨by decide, rfl⟩
theorem sR_10 : sh lyR 10 1 123 := ⟨by decide, rfl⟩
theorem sR_11 : sh lyR 11 1 123 := ⟨by decide, rfl⟩
theorem sR_12 : sh lyR 12 1 123 := ⟨by decide, rfl⟩
theorem sR_13 : sh lyR 13 1 123 := ⟨by decide, rfl⟩
theorem sR_14 : sh lyR 14 1 123 := ⟨by decide, rfl⟩
theorem sR_15 : sh lyR 15 4 201 := ⟨by decide, rfl⟩
theorem sR_217 : sh lyR 217 1 4 := ⟨by decide, rfl⟩
theorem sR_218 : sh lyR 218 1 24 := ⟨by decide, rfl⟩
theorem sR_219 : sh lyR 219 1 24 := ⟨by decide, rfl⟩
theorem sR_220 : sh lyR 220 1 120 := ⟨by decide, rfl⟩
theorem sR_221 : sh lyR 221 1 8 := ⟨by decide, rfl⟩
theorem sR_222 : sh lyR 222 1 40 := ⟨by decide, rfl⟩
theorem sR_223 : sh lyR 223 1 40 := ⟨by decide, rfl⟩
theorem sS {j : Nat} (hj : j < 201) : sh lyR (16 + j) 1 116 := by
  refine ⟨by show 16 + j < 224; omega, ?_⟩
  show (if 16 + j < 16 then _ else if 16 + j < 217 then _ else _) = _
  rw [if_neg (by omega), if_pos (by omega)]
/-- forms of contracts -/
def Pi (P : Int32 → Mem → Prop) : Option Value → Mem → Prop := fun v M => ∃ r : Int32, v = some (.int r) ∧ P r M
def Pa (P : Nat → Mem → Prop) : Option Value → Mem → Prop := fun v M => ∃ r : Nat, v = some (.ref r) ∧ P r M
def Pv (P : Mem → Prop) : Option Value → Mem → Prop := fun v M => v = none ∧ P M
section RC
variable {κ : KX} {y : LY} {own : String} {cc : ByteArray} {nL d pc : Nat} {ret : Option FieldType} {L : List (Option Value)} {st : List Value} {M : Mem}
theorem u_top {x : Int32} (kk : ∀ z : Int32, z = x → G κ y pc L (.int z :: st) M) : G κ y pc L (.int x :: st) M := kk x rfl
theorem u_mem {M2 : Mem} (h : M = M2) (kk : G κ y pc L st M2) : G κ y pc L st M := h ▸ kk
theorem u_callSi (C : Cx κ y own cc nL ret d) {idx n : Nat} {x : MethodName} {cc2 : ByteArray} {nL2 d2 : Nat} {ret2 : Option FieldType} {As stk : List Value} {P : Int32 → Mem → Prop} (hd : decode cc pc = .ok (.invokestatic idx, 3)) (mx : MX x cc2 nL2 ret2 n true) (mw : MW own idx x) (h : Ct y x cc2 nL2 ret2 d2 As M (Pi P)) (hn : (decide (As.length = n) && decide (d2 < d) && decide (nL2 ≤ 40)) = true) (hst : As.reverse ++ st = stk) (hroom : (st.map fun v => v.category).sum ≤ 8) (kk : ∀ (r : Int32) (M' : Mem), P r M' → G κ y (pc + 3) L (.int r :: st) M') : G κ y pc L stk M :=
  u_callS C hd mx mw h hn hst hroom (fun v M' q => by
    obtain ⟨r, rfl, q⟩ := q
    exact kk r M' q)
theorem u_callSa (C : Cx κ y own cc nL ret d) {idx n : Nat} {x : MethodName} {cc2 : ByteArray} {nL2 d2 : Nat} {ret2 : Option FieldType} {As stk : List Value} {P : Nat → Mem → Prop} (hd : decode cc pc = .ok (.invokestatic idx, 3)) (mx : MX x cc2 nL2 ret2 n true) (mw : MW own idx x) (h : Ct y x cc2 nL2 ret2 d2 As M (Pa P)) (hn : (decide (As.length = n) && decide (d2 < d) && decide (nL2 ≤ 40)) = true) (hst : As.reverse ++ st = stk) (hroom : (st.map fun v => v.category).sum ≤ 8) (kk : ∀ (r : Nat) (M' : Mem), P r M' → G κ y (pc + 3) L (.ref r :: st) M') : G κ y pc L stk M :=
  u_callS C hd mx mw h hn hst hroom (fun v M' q => by
    obtain ⟨r, rfl, q⟩ := q
    exact kk r M' q)
theorem u_callSv (C : Cx κ y own cc nL ret d) {idx n : Nat} {x : MethodName} {cc2 : ByteArray} {nL2 d2 : Nat} {ret2 : Option FieldType} {As stk : List Value} {P : Mem → Prop} (hd : decode cc pc = .ok (.invokestatic idx, 3)) (mx : MX x cc2 nL2 ret2 n true) (mw : MW own idx x) (h : Ct y x cc2 nL2 ret2 d2 As M (Pv P)) (hn : (decide (As.length = n) && decide (d2 < d) && decide (nL2 ≤ 40)) = true) (hst : As.reverse ++ st = stk) (hroom : (st.map fun v => v.category).sum ≤ 8) (kk : ∀ (M' : Mem), P M' → G κ y (pc + 3) L st M') : G κ y pc L stk M :=
  u_callS C hd mx mw h hn hst hroom (fun v M' q => by
    obtain ⟨rfl, q⟩ := q
    exact kk M' q)
theorem u_callVi (C : Cx κ y own cc nL ret d) {idx p ci n : Nat} {x : MethodName} {cc2 : ByteArray} {nL2 d2 : Nat} {ret2 : Option FieldType} {As stk : List Value} {P : Int32 → Mem → Prop} (hd : decode cc pc = .ok (.invokevirtual idx, 3)) (mx : MX x cc2 nL2 ret2 n false) (mw : MW own idx x) (hs : sh y p 0 ci) (hci : (cls0[ci]?).map (fun q => q.1) = some x.cls) (h : Ct y x cc2 nL2 ret2 d2 (.ref p :: As) M (Pi P)) (hn : (decide (As.length = n) && decide (d2 < d) && decide (nL2 ≤ 40)) = true) (hst : As.reverse ++ .ref p :: st = stk) (hroom : (st.map fun v => v.category).sum ≤ 8) (kk : ∀ (r : Int32) (M' : Mem), P r M' → G κ y (pc + 3) L (.int r :: st) M') : G κ y pc L stk M :=
  u_callV C hd mx mw hs hci h hn hst hroom (fun v M' q => by
    obtain ⟨r, rfl, q⟩ := q
    exact kk r M' q)
theorem u_callVa (C : Cx κ y own cc nL ret d) {idx p ci n : Nat} {x : MethodName} {cc2 : ByteArray} {nL2 d2 : Nat} {ret2 : Option FieldType} {As stk : List Value} {P : Nat → Mem → Prop} (hd : decode cc pc = .ok (.invokevirtual idx, 3)) (mx : MX x cc2 nL2 ret2 n false) (mw : MW own idx x) (hs : sh y p 0 ci) (hci : (cls0[ci]?).map (fun q => q.1) = some x.cls) (h : Ct y x cc2 nL2 ret2 d2 (.ref p :: As) M (Pa P)) (hn : (decide (As.length = n) && decide (d2 < d) && decide (nL2 ≤ 40)) = true) (hst : As.reverse ++ .ref p :: st = stk) (hroom : (st.map fun v => v.category).sum ≤ 8) (kk : ∀ (r : Nat) (M' : Mem), P r M' → G κ y (pc + 3) L (.ref r :: st) M') : G κ y pc L stk M :=
  u_callV C hd mx mw hs hci h hn hst hroom (fun v M' q => by
    obtain ⟨r, rfl, q⟩ := q
    exact kk r M' q)
theorem u_callVv (C : Cx κ y own cc nL ret d) {idx p ci n : Nat} {x : MethodName} {cc2 : ByteArray} {nL2 d2 : Nat} {ret2 : Option FieldType} {As stk : List Value} {P : Mem → Prop} (hd : decode cc pc = .ok (.invokevirtual idx, 3)) (mx : MX x cc2 nL2 ret2 n false) (mw : MW own idx x) (hs : sh y p 0 ci) (hci : (cls0[ci]?).map (fun q => q.1) = some x.cls) (h : Ct y x cc2 nL2 ret2 d2 (.ref p :: As) M (Pv P)) (hn : (decide (As.length = n) && decide (d2 < d) && decide (nL2 ≤ 40)) = true) (hst : As.reverse ++ .ref p :: st = stk) (hroom : (st.map fun v => v.category).sum ≤ 8) (kk : ∀ (M' : Mem), P M' → G κ y (pc + 3) L st M') : G κ y pc L stk M :=
  u_callV C hd mx mw hs hci h hn hst hroom (fun v M' q => by
    obtain ⟨rfl, q⟩ := q
    exact kk M' q)
end RC
theorem sw_0_2 (x : Int32) : x = 0 ∨ x = 1 ∨ x = 2 ∨ (x.toInt < 0 ∨ 2 < x.toInt) := by
  by_cases h1 : x.toInt < 0
  · exact (Or.inr (Or.inr (Or.inr (Or.inl h1))))
  · by_cases h2 : 2 < x.toInt
    · exact (Or.inr (Or.inr (Or.inr (Or.inr h2))))
    · have e : ∀ z : Int32, x.toInt = z.toInt → x = z := fun z q => Int32.toInt_inj.mp q
      rcases (show x.toInt = 0 ∨ x.toInt = 1 ∨ x.toInt = 2 by omega) with q | q | q
      · exact (Or.inl (e 0 q))
      · exact (Or.inr (Or.inl (e 1 q)))
      · exact (Or.inr (Or.inr (Or.inl (e 2 q))))
theorem sw_0_3 (x : Int32) : x = 0 ∨ x = 1 ∨ x = 2 ∨ x = 3 ∨ (x.toInt < 0 ∨ 3 < x.toInt) := by
  by_cases h1 : x.toInt < 0
  · exact (Or.inr (Or.inr (Or.inr (Or.inr (Or.inl h1)))))
  · by_cases h2 : 3 < x.toInt
    · exact (Or.inr (Or.inr (Or.inr (Or.inr (Or.inr h2)))))
    · have e : ∀ z : Int32, x.toInt = z.toInt → x = z := fun z q => Int32.toInt_inj.mp q
      rcases (show x.toInt = 0 ∨ x.toInt = 1 ∨ x.toInt = 2 ∨ x.toInt = 3 by omega) with q | q | q | q
      · exact (Or.inl (e 0 q))
      · exact (Or.inr (Or.inl (e 1 q)))
      · exact (Or.inr (Or.inr (Or.inl (e 2 q))))
      · exact (Or.inr (Or.inr (Or.inr (Or.inl (e 3 q)))))
theorem sw_0_4 (x : Int32) : x = 0 ∨ x = 1 ∨ x = 2 ∨ x = 3 ∨ x = 4 ∨ (x.toInt < 0 ∨ 4 < x.toInt) := by
  by_cases h1 : x.toInt < 0
  · exact (Or.inr (Or.inr (Or.inr (Or.inr (Or.inr (Or.inl h1))))))
  · by_cases h2 : 4 < x.toInt
    · exact (Or.inr (Or.inr (Or.inr (Or.inr (Or.inr (Or.inr h2))))))
    · have e : ∀ z : Int32, x.toInt = z.toInt → x = z := fun z q => Int32.toInt_inj.mp q
      rcases (show x.toInt = 0 ∨ x.toInt = 1 ∨ x.toInt = 2 ∨ x.toInt = 3 ∨ x.toInt = 4 by omega) with q | q | q | q | q
      · exact (Or.inl (e 0 q))
      · exact (Or.inr (Or.inl (e 1 q)))
      · exact (Or.inr (Or.inr (Or.inl (e 2 q))))
      · exact (Or.inr (Or.inr (Or.inr (Or.inl (e 3 q)))))
      · exact (Or.inr (Or.inr (Or.inr (Or.inr (Or.inl (e 4 q))))))
theorem sw_0_6 (x : Int32) : x = 0 ∨ x = 1 ∨ x = 2 ∨ x = 3 ∨ x = 4 ∨ x = 5 ∨ x = 6 ∨ (x.toInt < 0 ∨ 6 < x.toInt) := by
  by_cases h1 : x.toInt < 0
  · exact (Or.inr (Or.inr (Or.inr (Or.inr (Or.inr (Or.inr (Or.inr (Or.inl h1))))))))
  · by_cases h2 : 6 < x.toInt
    · exact (Or.inr (Or.inr (Or.inr (Or.inr (Or.inr (Or.inr (Or.inr (Or.inr h2))))))))
    · have e : ∀ z : Int32, x.toInt = z.toInt → x = z := fun z q => Int32.toInt_inj.mp q
      rcases (show x.toInt = 0 ∨ x.toInt = 1 ∨ x.toInt = 2 ∨ x.toInt = 3 ∨ x.toInt = 4 ∨ x.toInt = 5 ∨ x.toInt = 6 by omega) with q | q | q | q | q | q | q
      · exact (Or.inl (e 0 q))
      · exact (Or.inr (Or.inl (e 1 q)))
      · exact (Or.inr (Or.inr (Or.inl (e 2 q))))
      · exact (Or.inr (Or.inr (Or.inr (Or.inl (e 3 q)))))
      · exact (Or.inr (Or.inr (Or.inr (Or.inr (Or.inl (e 4 q))))))
      · exact (Or.inr (Or.inr (Or.inr (Or.inr (Or.inr (Or.inl (e 5 q)))))))
      · exact (Or.inr (Or.inr (Or.inr (Or.inr (Or.inr (Or.inr (Or.inl (e 6 q))))))))
theorem sw_0_8 (x : Int32) : x = 0 ∨ x = 1 ∨ x = 2 ∨ x = 3 ∨ x = 4 ∨ x = 5 ∨ x = 6 ∨ x = 7 ∨ x = 8 ∨ (x.toInt < 0 ∨ 8 < x.toInt) := by
  by_cases h1 : x.toInt < 0
  · exact (Or.inr (Or.inr (Or.inr (Or.inr (Or.inr (Or.inr (Or.inr (Or.inr (Or.inr (Or.inl h1))))))))))
  · by_cases h2 : 8 < x.toInt
    · exact (Or.inr (Or.inr (Or.inr (Or.inr (Or.inr (Or.inr (Or.inr (Or.inr (Or.inr (Or.inr h2))))))))))
    · have e : ∀ z : Int32, x.toInt = z.toInt → x = z := fun z q => Int32.toInt_inj.mp q
      rcases (show x.toInt = 0 ∨ x.toInt = 1 ∨ x.toInt = 2 ∨ x.toInt = 3 ∨ x.toInt = 4 ∨ x.toInt = 5 ∨ x.toInt = 6 ∨ x.toInt = 7 ∨ x.toInt = 8 by omega) with q | q | q | q | q | q | q | q | q
      · exact (Or.inl (e 0 q))
      · exact (Or.inr (Or.inl (e 1 q)))
      · exact (Or.inr (Or.inr (Or.inl (e 2 q))))
      · exact (Or.inr (Or.inr (Or.inr (Or.inl (e 3 q)))))
      · exact (Or.inr (Or.inr (Or.inr (Or.inr (Or.inl (e 4 q))))))
      · exact (Or.inr (Or.inr (Or.inr (Or.inr (Or.inr (Or.inl (e 5 q)))))))
      · exact (Or.inr (Or.inr (Or.inr (Or.inr (Or.inr (Or.inr (Or.inl (e 6 q))))))))
      · exact (Or.inr (Or.inr (Or.inr (Or.inr (Or.inr (Or.inr (Or.inr (Or.inl (e 7 q)))))))))
      · exact (Or.inr (Or.inr (Or.inr (Or.inr (Or.inr (Or.inr (Or.inr (Or.inr (Or.inl (e 8 q))))))))))
theorem sw_0_13 (x : Int32) : x = 0 ∨ x = 1 ∨ x = 2 ∨ x = 3 ∨ x = 4 ∨ x = 5 ∨ x = 6 ∨ x = 7 ∨ x = 8 ∨ x = 9 ∨ x = 10 ∨ x = 11 ∨ x = 12 ∨ x = 13 ∨ (x.toInt < 0 ∨ 13 < x.toInt) := by
  by_cases h1 : x.toInt < 0
  · exact (Or.inr (Or.inr (Or.inr (Or.inr (Or.inr (Or.inr (Or.inr (Or.inr (Or.inr (Or.inr (Or.inr (Or.inr (Or.inr (Or.inr (Or.inl h1)))))))))))))))
  · by_cases h2 : 13 < x.toInt
    · exact (Or.inr (Or.inr (Or.inr (Or.inr (Or.inr (Or.inr (Or.inr (Or.inr (Or.inr (Or.inr (Or.inr (Or.inr (Or.inr (Or.inr (Or.inr h2)))))))))))))))
    · have e : ∀ z : Int32, x.toInt = z.toInt → x = z := fun z q => Int32.toInt_inj.mp q
      rcases (show x.toInt = 0 ∨ x.toInt = 1 ∨ x.toInt = 2 ∨ x.toInt = 3 ∨ x.toInt = 4 ∨ x.toInt = 5 ∨ x.toInt = 6 ∨ x.toInt = 7 ∨ x.toInt = 8 ∨ x.toInt = 9 ∨ x.toInt = 10 ∨ x.toInt = 11 ∨ x.toInt = 12 ∨ x.toInt = 13 by omega) with q | q | q | q | q | q | q | q | q | q | q | q | q | q
      · exact (Or.inl (e 0 q))
      · exact (Or.inr (Or.inl (e 1 q)))
      · exact (Or.inr (Or.inr (Or.inl (e 2 q))))
      · exact (Or.inr (Or.inr (Or.inr (Or.inl (e 3 q)))))
      · exact (Or.inr (Or.inr (Or.inr (Or.inr (Or.inl (e 4 q))))))
      · exact (Or.inr (Or.inr (Or.inr (Or.inr (Or.inr (Or.inl (e 5 q)))))))
      · exact (Or.inr (Or.inr (Or.inr (Or.inr (Or.inr (Or.inr (Or.inl (e 6 q))))))))
      · exact (Or.inr (Or.inr (Or.inr (Or.inr (Or.inr (Or.inr (Or.inr (Or.inl (e 7 q)))))))))
      · exact (Or.inr (Or.inr (Or.inr (Or.inr (Or.inr (Or.inr (Or.inr (Or.inr (Or.inl (e 8 q))))))))))
      · exact (Or.inr (Or.inr (Or.inr (Or.inr (Or.inr (Or.inr (Or.inr (Or.inr (Or.inr (Or.inl (e 9 q)))))))))))
      · exact (Or.inr (Or.inr (Or.inr (Or.inr (Or.inr (Or.inr (Or.inr (Or.inr (Or.inr (Or.inr (Or.inl (e 10 q))))))))))))
      · exact (Or.inr (Or.inr (Or.inr (Or.inr (Or.inr (Or.inr (Or.inr (Or.inr (Or.inr (Or.inr (Or.inr (Or.inl (e 11 q)))))))))))))
      · exact (Or.inr (Or.inr (Or.inr (Or.inr (Or.inr (Or.inr (Or.inr (Or.inr (Or.inr (Or.inr (Or.inr (Or.inr (Or.inl (e 12 q))))))))))))))
      · exact (Or.inr (Or.inr (Or.inr (Or.inr (Or.inr (Or.inr (Or.inr (Or.inr (Or.inr (Or.inr (Or.inr (Or.inr (Or.inr (Or.inl (e 13 q)))))))))))))))
theorem sw_0_14 (x : Int32) : x = 0 ∨ x = 1 ∨ x = 2 ∨ x = 3 ∨ x = 4 ∨ x = 5 ∨ x = 6 ∨ x = 7 ∨ x = 8 ∨ x = 9 ∨ x = 10 ∨ x = 11 ∨ x = 12 ∨ x = 13 ∨ x = 14 ∨ (x.toInt < 0 ∨ 14 < x.toInt) := by
  by_cases h1 : x.toInt < 0
  · exact (Or.inr (Or.inr (Or.inr (Or.inr (Or.inr (Or.inr (Or.inr (Or.inr (Or.inr (Or.inr (Or.inr (Or.inr (Or.inr (Or.inr (Or.inr (Or.inl h1))))))))))))))))
  · by_cases h2 : 14 < x.toInt
    · exact (Or.inr (Or.inr (Or.inr (Or.inr (Or.inr (Or.inr (Or.inr (Or.inr (Or.inr (Or.inr (Or.inr (Or.inr (Or.inr (Or.inr (Or.inr (Or.inr h2))))))))))))))))
    · have e : ∀ z : Int32, x.toInt = z.toInt → x = z := fun z q => Int32.toInt_inj.mp q
      rcases (show x.toInt = 0 ∨ x.toInt = 1 ∨ x.toInt = 2 ∨ x.toInt = 3 ∨ x.toInt = 4 ∨ x.toInt = 5 ∨ x.toInt = 6 ∨ x.toInt = 7 ∨ x.toInt = 8 ∨ x.toInt = 9 ∨ x.toInt = 10 ∨ x.toInt = 11 ∨ x.toInt = 12 ∨ x.toInt = 13 ∨ x.toInt = 14 by omega) with q | q | q | q | q | q | q | q | q | q | q | q | q | q | q
      · exact (Or.inl (e 0 q))
      · exact (Or.inr (Or.inl (e 1 q)))
      · exact (Or.inr (Or.inr (Or.inl (e 2 q))))
      · exact (Or.inr (Or.inr (Or.inr (Or.inl (e 3 q)))))
      · exact (Or.inr (Or.inr (Or.inr (Or.inr (Or.inl (e 4 q))))))
      · exact (Or.inr (Or.inr (Or.inr (Or.inr (Or.inr (Or.inl (e 5 q)))))))
      · exact (Or.inr (Or.inr (Or.inr (Or.inr (Or.inr (Or.inr (Or.inl (e 6 q))))))))
      · exact (Or.inr (Or.inr (Or.inr (Or.inr (Or.inr (Or.inr (Or.inr (Or.inl (e 7 q)))))))))
      · exact (Or.inr (Or.inr (Or.inr (Or.inr (Or.inr (Or.inr (Or.inr (Or.inr (Or.inl (e 8 q))))))))))
      · exact (Or.inr (Or.inr (Or.inr (Or.inr (Or.inr (Or.inr (Or.inr (Or.inr (Or.inr (Or.inl (e 9 q)))))))))))
      · exact (Or.inr (Or.inr (Or.inr (Or.inr (Or.inr (Or.inr (Or.inr (Or.inr (Or.inr (Or.inr (Or.inl (e 10 q))))))))))))
      · exact (Or.inr (Or.inr (Or.inr (Or.inr (Or.inr (Or.inr (Or.inr (Or.inr (Or.inr (Or.inr (Or.inr (Or.inl (e 11 q)))))))))))))
      · exact (Or.inr (Or.inr (Or.inr (Or.inr (Or.inr (Or.inr (Or.inr (Or.inr (Or.inr (Or.inr (Or.inr (Or.inr (Or.inl (e 12 q))))))))))))))
      · exact (Or.inr (Or.inr (Or.inr (Or.inr (Or.inr (Or.inr (Or.inr (Or.inr (Or.inr (Or.inr (Or.inr (Or.inr (Or.inr (Or.inl (e 13 q)))))))))))))))
      · exact (Or.inr (Or.inr (Or.inr (Or.inr (Or.inr (Or.inr (Or.inr (Or.inr (Or.inr (Or.inr (Or.inr (Or.inr (Or.inr (Or.inr (Or.inl (e 14 q))))))))))))))))
theorem sw_0_32 (x : Int32) : x = 0 ∨ x = 1 ∨ x = 2 ∨ x = 3 ∨ x = 4 ∨ x = 5 ∨ x = 6 ∨ x = 7 ∨ x = 8 ∨ x = 9 ∨ x = 10 ∨ x = 11 ∨ x = 12 ∨ x = 13 ∨ x = 14 ∨ x = 15 ∨ x = 16 ∨ x = 17 ∨ x = 18 ∨ x = 19 ∨ x = 20 ∨ x = 21 ∨ x = 22 ∨ x = 23 ∨ x = 24 ∨ x = 25 ∨ x = 26 ∨ x = 27 ∨ x = 28 ∨ x = 29 ∨ x = 30 ∨ x = 31 ∨ x = 32 ∨ (x.toInt < 0 ∨ 32 < x.toInt) := by
  by_cases h1 : x.toInt < 0
  · exact (Or.inr (Or.inr (Or.inr (Or.inr (Or.inr (Or.inr (Or.inr (Or.inr (Or.inr (Or.inr (Or.inr (Or.inr (Or.inr (Or.inr (Or.inr (Or.inr (Or.inr (Or.inr (Or.inr (Or.inr (Or.inr (Or.inr (Or.inr (Or.inr (Or.inr (Or.inr (Or.inr (Or.inr (Or.inr (Or.inr (Or.inr (Or.inr (Or.inr (Or.inl h1))))))))))))))))))))))))))))))))))
  · by_cases h2 : 32 < x.toInt
    · exact (Or.inr (Or.inr (Or.inr (Or.inr (Or.inr (Or.inr (Or.inr (Or.inr (Or.inr (Or.inr (Or.inr (Or.inr (Or.inr (Or.inr (Or.inr (Or.inr (Or.inr (Or.inr (Or.inr (Or.inr (Or.inr (Or.inr (Or.inr (Or.inr (Or.inr (Or.inr (Or.inr (Or.inr (Or.inr (Or.inr (Or.inr (Or.inr (Or.inr (Or.inr h2))))))))))))))))))))))))))))))))))
    · have e : ∀ z : Int32, x.toInt = z.toInt → x = z := fun z q => Int32.toInt_inj.mp q
      rcases (show x.toInt = 0 ∨ x.toInt = 1 ∨ x.toInt = 2 ∨ x.toInt = 3 ∨ x.toInt = 4 ∨ x.toInt = 5 ∨ x.toInt = 6 ∨ x.toInt = 7 ∨ x.toInt = 8 ∨ x.toInt = 9 ∨ x.toInt = 10 ∨ x.toInt = 11 ∨ x.toInt = 12 ∨ x.toInt = 13 ∨ x.toInt = 14 ∨ x.toInt = 15 ∨ x.toInt = 16 ∨ x.toInt = 17 ∨ x.toInt = 18 ∨ x.toInt = 19 ∨ x.toInt = 20 ∨ x.toInt = 21 ∨ x.toInt = 22 ∨ x.toInt = 23 ∨ x.toInt = 24 ∨ x.toInt = 25 ∨ x.toInt = 26 ∨ x.toInt = 27 ∨ x.toInt = 28 ∨ x.toInt = 29 ∨ x.toInt = 30 ∨ x.toInt = 31 ∨ x.toInt = 32 by omega) with q | q | q | q | q | q | q | q | q | q | q | q | q | q | q | q | q | q | q | q | q | q | q | q | q | q | q | q | q | q | q | q | q
      · exact (Or.inl (e 0 q))
      · exact (Or.inr (Or.inl (e 1 q)))
      · exact (Or.inr (Or.inr (Or.inl (e 2 q))))
      · exact (Or.inr (Or.inr (Or.inr (Or.inl (e 3 q)))))
      · exact (Or.inr (Or.inr (Or.inr (Or.inr (Or.inl (e 4 q))))))
      · exact (Or.inr (Or.inr (Or.inr (Or.inr (Or.inr (Or.inl (e 5 q)))))))
      · exact (Or.inr (Or.inr (Or.inr (Or.inr (Or.inr (Or.inr (Or.inl (e 6 q))))))))
      · exact (Or.inr (Or.inr (Or.inr (Or.inr (Or.inr (Or.inr (Or.inr (Or.inl (e 7 q)))))))))
      · exact (Or.inr (Or.inr (Or.inr (Or.inr (Or.inr (Or.inr (Or.inr (Or.inr (Or.inl (e 8 q))))))))))
      · exact (Or.inr (Or.inr (Or.inr (Or.inr (Or.inr (Or.inr (Or.inr (Or.inr (Or.inr (Or.inl (e 9 q)))))))))))
      · exact (Or.inr (Or.inr (Or.inr (Or.inr (Or.inr (Or.inr (Or.inr (Or.inr (Or.inr (Or.inr (Or.inl (e 10 q))))))))))))
      · exact (Or.inr (Or.inr (Or.inr (Or.inr (Or.inr (Or.inr (Or.inr (Or.inr (Or.inr (Or.inr (Or.inr (Or.inl (e 11 q)))))))))))))
      · exact (Or.inr (Or.inr (Or.inr (Or.inr (Or.inr (Or.inr (Or.inr (Or.inr (Or.inr (Or.inr (Or.inr (Or.inr (Or.inl (e 12 q))))))))))))))
      · exact (Or.inr (Or.inr (Or.inr (Or.inr (Or.inr (Or.inr (Or.inr (Or.inr (Or.inr (Or.inr (Or.inr (Or.inr (Or.inr (Or.inl (e 13 q)))))))))))))))
      · exact (Or.inr (Or.inr (Or.inr (Or.inr (Or.inr (Or.inr (Or.inr (Or.inr (Or.inr (Or.inr (Or.inr (Or.inr (Or.inr (Or.inr (Or.inl (e 14 q))))))))))))))))
      · exact (Or.inr (Or.inr (Or.inr (Or.inr (Or.inr (Or.inr (Or.inr (Or.inr (Or.inr (Or.inr (Or.inr (Or.inr (Or.inr (Or.inr (Or.inr (Or.inl (e 15 q)))))))))))))))))
      · exact (Or.inr (Or.inr (Or.inr (Or.inr (Or.inr (Or.inr (Or.inr (Or.inr (Or.inr (Or.inr (Or.inr (Or.inr (Or.inr (Or.inr (Or.inr (Or.inr (Or.inl (e 16 q))))))))))))))))))
      · exact (Or.inr (Or.inr (Or.inr (Or.inr (Or.inr (Or.inr (Or.inr (Or.inr (Or.inr (Or.inr (Or.inr (Or.inr (Or.inr (Or.inr (Or.inr (Or.inr (Or.inr (Or.inl (e 17 q)))))))))))))))))))
      · exact (Or.inr (Or.inr (Or.inr (Or.inr (Or.inr (Or.inr (Or.inr (Or.inr (Or.inr (Or.inr (Or.inr (Or.inr (Or.inr (Or.inr (Or.inr (Or.inr (Or.inr (Or.inr (Or.inl (e 18 q))))))))))))))))))))
      · exact (Or.inr (Or.inr (Or.inr (Or.inr (Or.inr (Or.inr (Or.inr (Or.inr (Or.inr (Or.inr (Or.inr (Or.inr (Or.inr (Or.inr (Or.inr (Or.inr (Or.inr (Or.inr (Or.inr (Or.inl (e 19 q)))))))))))))))))))))
      · exact (Or.inr (Or.inr (Or.inr (Or.inr (Or.inr (Or.inr (Or.inr (Or.inr (Or.inr (Or.inr (Or.inr (Or.inr (Or.inr (Or.inr (Or.inr (Or.inr (Or.inr (Or.inr (Or.inr (Or.inr (Or.inl (e 20 q))))))))))))))))))))))
      · exact (Or.inr (Or.inr (Or.inr (Or.inr (Or.inr (Or.inr (Or.inr (Or.inr (Or.inr (Or.inr (Or.inr (Or.inr (Or.inr (Or.inr (Or.inr (Or.inr (Or.inr (Or.inr (Or.inr (Or.inr (Or.inr (Or.inl (e 21 q)))))))))))))))))))))))
      · exact (Or.inr (Or.inr (Or.inr (Or.inr (Or.inr (Or.inr (Or.inr (Or.inr (Or.inr (Or.inr (Or.inr (Or.inr (Or.inr (Or.inr (Or.inr (Or.inr (Or.inr (Or.inr (Or.inr (Or.inr (Or.inr (Or.inr (Or.inl (e 22 q))))))))))))))))))))))))
      · exact (Or.inr (Or.inr (Or.inr (Or.inr (Or.inr (Or.inr (Or.inr (Or.inr (Or.inr (Or.inr (Or.inr (Or.inr (Or.inr (Or.inr (Or.inr (Or.inr (Or.inr (Or.inr (Or.inr (Or.inr (Or.inr (Or.inr (Or.inr (Or.inl (e 23 q)))))))))))))))))))))))))
      · exact (Or.inr (Or.inr (Or.inr (Or.inr (Or.inr (Or.inr (Or.inr (Or.inr (Or.inr (Or.inr (Or.inr (Or.inr (Or.inr (Or.inr (Or.inr (Or.inr (Or.inr (Or.inr (Or.inr (Or.inr (Or.inr (Or.inr (Or.inr (Or.inr (Or.inl (e 24 q))))))))))))))))))))))))))
      · exact (Or.inr (Or.inr (Or.inr (Or.inr (Or.inr (Or.inr (Or.inr (Or.inr (Or.inr (Or.inr (Or.inr (Or.inr (Or.inr (Or.inr (Or.inr (Or.inr (Or.inr (Or.inr (Or.inr (Or.inr (Or.inr (Or.inr (Or.inr (Or.inr (Or.inr (Or.inl (e 25 q)))))))))))))))))))))))))))
      · exact (Or.inr (Or.inr (Or.inr (Or.inr (Or.inr (Or.inr (Or.inr (Or.inr (Or.inr (Or.inr (Or.inr (Or.inr (Or.inr (Or.inr (Or.inr (Or.inr (Or.inr (Or.inr (Or.inr (Or.inr (Or.inr (Or.inr (Or.inr (Or.inr (Or.inr (Or.inr (Or.inl (e 26 q))))))))))))))))))))))))))))
      · exact (Or.inr (Or.inr (Or.inr (Or.inr (Or.inr (Or.inr (Or.inr (Or.inr (Or.inr (Or.inr (Or.inr (Or.inr (Or.inr (Or.inr (Or.inr (Or.inr (Or.inr (Or.inr (Or.inr (Or.inr (Or.inr (Or.inr (Or.inr (Or.inr (Or.inr (Or.inr (Or.inr (Or.inl (e 27 q)))))))))))))))))))))))))))))
      · exact (Or.inr (Or.inr (Or.inr (Or.inr (Or.inr (Or.inr (Or.inr (Or.inr (Or.inr (Or.inr (Or.inr (Or.inr (Or.inr (Or.inr (Or.inr (Or.inr (Or.inr (Or.inr (Or.inr (Or.inr (Or.inr (Or.inr (Or.inr (Or.inr (Or.inr (Or.inr (Or.inr (Or.inr (Or.inl (e 28 q))))))))))))))))))))))))))))))
      · exact (Or.inr (Or.inr (Or.inr (Or.inr (Or.inr (Or.inr (Or.inr (Or.inr (Or.inr (Or.inr (Or.inr (Or.inr (Or.inr (Or.inr (Or.inr (Or.inr (Or.inr (Or.inr (Or.inr (Or.inr (Or.inr (Or.inr (Or.inr (Or.inr (Or.inr (Or.inr (Or.inr (Or.inr (Or.inr (Or.inl (e 29 q)))))))))))))))))))))))))))))))
      · exact (Or.inr (Or.inr (Or.inr (Or.inr (Or.inr (Or.inr (Or.inr (Or.inr (Or.inr (Or.inr (Or.inr (Or.inr (Or.inr (Or.inr (Or.inr (Or.inr (Or.inr (Or.inr (Or.inr (Or.inr (Or.inr (Or.inr (Or.inr (Or.inr (Or.inr (Or.inr (Or.inr (Or.inr (Or.inr (Or.inr (Or.inl (e 30 q))))))))))))))))))))))))))))))))
      · exact (Or.inr (Or.inr (Or.inr (Or.inr (Or.inr (Or.inr (Or.inr (Or.inr (Or.inr (Or.inr (Or.inr (Or.inr (Or.inr (Or.inr (Or.inr (Or.inr (Or.inr (Or.inr (Or.inr (Or.inr (Or.inr (Or.inr (Or.inr (Or.inr (Or.inr (Or.inr (Or.inr (Or.inr (Or.inr (Or.inr (Or.inr (Or.inl (e 31 q)))))))))))))))))))))))))))))))))
      · exact (Or.inr (Or.inr (Or.inr (Or.inr (Or.inr (Or.inr (Or.inr (Or.inr (Or.inr (Or.inr (Or.inr (Or.inr (Or.inr (Or.inr (Or.inr (Or.inr (Or.inr (Or.inr (Or.inr (Or.inr (Or.inr (Or.inr (Or.inr (Or.inr (Or.inr (Or.inr (Or.inr (Or.inr (Or.inr (Or.inr (Or.inr (Or.inr (Or.inl (e 32 q))))))))))))))))))))))))))))))))))
theorem sw_1_3 (x : Int32) : x = 1 ∨ x = 2 ∨ x = 3 ∨ (x.toInt < 1 ∨ 3 < x.toInt) := by
  by_cases h1 : x.toInt < 1
  · exact (Or.inr (Or.inr (Or.inr (Or.inl h1))))
  · by_cases h2 : 3 < x.toInt
    · exact (Or.inr (Or.inr (Or.inr (Or.inr h2))))
    · have e : ∀ z : Int32, x.toInt = z.toInt → x = z := fun z q => Int32.toInt_inj.mp q
      rcases (show x.toInt = 1 ∨ x.toInt = 2 ∨ x.toInt = 3 by omega) with q | q | q
      · exact (Or.inl (e 1 q))
      · exact (Or.inr (Or.inl (e 2 q)))
      · exact (Or.inr (Or.inr (Or.inl (e 3 q))))
theorem mc_L_159 : Cond.constant R_L 159 (-2000000000) ∈ tbl := tbl_in (List.mem_of_getElem? (i := 622) (by decide +kernel)) rfl
theorem mc_L_328 : Cond.constant R_L 328 (1103515245) ∈ tbl := tbl_in (List.mem_of_getElem? (i := 803) (by decide +kernel)) rfl
theorem mc_M_167 : Cond.constant R_M 167 (-2000000000) ∈ tbl := tbl_in (List.mem_of_getElem? (i := 1181) (by decide +kernel)) rfl
theorem mc_M_223 : Cond.constant R_M 223 (1103515245) ∈ tbl := tbl_in (List.mem_of_getElem? (i := 1301) (by decide +kernel)) rfl
theorem mm_R_180 : Cond.methodLink R_R 180 Lib.Math.max.name ∈ tbl := tbl_in (List.mem_of_getElem? (i := 816) (by decide +kernel)) rfl
theorem mm_T_64 : Cond.methodLink R_T 64 Lib.Math.max.name ∈ tbl := tbl_in (List.mem_of_getElem? (i := 589) (by decide +kernel)) rfl
theorem mm_max_s : Cond.static Lib.Math.max.name ∈ tbl := tbl_in (List.mem_of_getElem? (i := 590) (by decide +kernel)) rfl
theorem mm_max_c : Cond.code Lib.Math.max.name Lib.Math.max.code 2 (some .int) ∈ tbl := tbl_in (List.mem_of_getElem? (i := 591) (by decide +kernel)) rfl
theorem mm_L_314 : Cond.methodLink R_L 314 Lib.Math.min.name ∈ tbl := tbl_in (List.mem_of_getElem? (i := 648) (by decide +kernel)) rfl
theorem mm_min_s : Cond.static Lib.Math.min.name ∈ tbl := tbl_in (List.mem_of_getElem? (i := 649) (by decide +kernel)) rfl
theorem mm_min_c : Cond.code Lib.Math.min.name Lib.Math.min.code 2 (some .int) ∈ tbl := tbl_in (List.mem_of_getElem? (i := 650) (by decide +kernel)) rfl
theorem mm_i : Cond.initialized "java/lang/Math" ∈ tbl := tbl_in (List.mem_of_getElem? (i := 114) (by decide +kernel)) rfl
theorem ma_L_319 : Cond.methodLink R_L 319 arraycopyName ∈ tbl := tbl_in (List.mem_of_getElem? (i := 651) (by decide +kernel)) rfl
theorem ma_n : Cond.native arraycopyName ∈ tbl := tbl_in (List.mem_of_getElem? (i := 653) (by decide +kernel)) rfl
theorem ma_s : Cond.static arraycopyName ∈ tbl := tbl_in (List.mem_of_getElem? (i := 652) (by decide +kernel)) rfl
theorem ma_i : Cond.initialized "java/lang/System" ∈ tbl := tbl_in (List.mem_of_getElem? (i := 115) (by decide +kernel)) rfl
