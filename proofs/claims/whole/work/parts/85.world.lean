/-! THE TWO WORLDS AT THE START -/
def tCl : List Nat := [1, 2, 3, 4, 5, 6, 7, 8, 9, 10, 11, 12, 13, 14, 15, 16, 17, 18, 19, 20, 21, 22, 23, 24, 25, 26, 27, 63, 64, 65, 66, 67, 68, 69, 70, 71, 72, 73, 74, 75, 76, 77, 78, 79, 80, 81, 82, 83, 28, 43, 44, 45, 46, 47, 36, 37, 38, 39, 40, 48, 49, 41, 42, 50, 51, 52, 53, 54, 55, 30, 31, 32, 33, 34, 35, 29, 56, 57, 58, 59, 60, 61, 62, 0]
def tC (p : Nat) : Nat := tCl.getD p 0
def mCl : List (Nat → Int32) := [fun j => ([0, 0, 0, 0, 0] : List Int32).getD j 0, fun _ => 0, fun _ => 0, fun _ => 0, fun _ => 0, fun _ => 0, fun j => ([0, 0, 0, 0, 0, 0, 0, 0, 0, 0, 0, 0, 0, 1, 0] : List Int32).getD j 0, upd (upd (fun _ => 0) 0 20) 1 20, upd (upd (upd (upd (fun _ => 0) 0 1) 1 2) 2 1) 3 7, fun _ => 0, fun _ => 0, fun _ => 0, fun _ => 0, fun j => ([0, 0, 0, 0, 0, 0, 0, 0, 0, 0, 0, 0, 0, 1, 0] : List Int32).getD j 0, upd (upd (fun _ => 0) 0 20) 1 20, upd (upd (upd (upd (fun _ => 0) 0 1) 1 2) 2 1) 3 7, fun _ => 0, fun _ => 0, fun _ => 0, fun _ => 0, fun j => ([0, 0, 0, 0, 0, 0, 0, 0, 0, 0, 0, 0, 0, 1, 0] : List Int32).getD j 0, upd (upd (fun _ => 0) 0 20) 1 20, upd (upd (upd (upd (fun _ => 0) 0 1) 1 2) 2 1) 3 7, fun _ => 0, fun _ => 0, fun _ => 0, fun _ => 0, fun j => ([0, 0, 0, 0, 0, 0, 0, 0, 0, 0, 0, 0, 0, 1, 0] : List Int32).getD j 0, upd (upd (fun _ => 0) 0 20) 1 20, upd (upd (upd (upd (fun _ => 0) 0 1) 1 2) 2 1) 3 7, fun _ => 0, fun _ => 0, fun _ => 0, fun _ => 0, fun j => ([0, 0, 0, 0, 0, 0, 0, 0, 0, 0, 0, 0, 0, 1, 0] : List Int32).getD j 0, upd (upd (fun _ => 0) 0 20) 1 20, upd (upd (upd (upd (fun _ => 0) 0 1) 1 2) 2 1) 3 7, fun _ => 0, fun _ => 0, fun _ => 0, fun _ => 0, fun j => ([0, 0, 0, 0, 0, 0, 0, 0, 0, 0, 0, 0, 0, 1, 0] : List Int32).getD j 0, upd (upd (fun _ => 0) 0 20) 1 20, upd (upd (upd (upd (fun _ => 0) 0 1) 1 2) 2 1) 3 7, fun _ => 0, fun _ => 0, fun _ => 0, fun _ => 0, fun _ => 0, fun j => ([0, 0, 0, 0, 0, 0, 0] : List Int32).getD j 0, fun _ => 0, fun _ => 0, fun _ => 0, fun _ => 0, fun j => ([0, 0, 0, 0, 0, 0, 0] : List Int32).getD j 0, fun _ => 0, fun _ => 0, fun _ => 0, fun _ => 0, fun j => ([0, 0, 0, 0, 0, 0, 0] : List Int32).getD j 0, fun _ => 0, fun j => ([0, 0, 0, 0, 0, 0, 0] : List Int32).getD j 0, fun _ => 0, fun j => ([0, 0, 0, 0] : List Int32).getD j 0, fun _ => 0, fun _ => 0, fun j => ([0, 0, 0, 0] : List Int32).getD j 0, fun _ => 0, fun _ => 0, fun j => ([0, 0, 0, 0, 0] : List Int32).getD j 0, fun _ => 0, fun _ => 0, fun _ => 0, fun _ => 0, fun _ => 0, fun j => ([0, 0, 0, 0, 0, 0, 0, 0] : List Int32).getD j 0, fun j => ([0, 0, 0, 0, 0, 0, 0, 0] : List Int32).getD j 0, fun _ => 0, fun _ => 0, fun _ => 0, fun _ => 0, fun _ => 0, upd (upd (upd (upd (upd (upd (upd (upd (fun _ => 0) 0 (-2)) 1 (-2)) 2 (-2)) 3 (-2)) 4 (-2)) 5 (-2)) 6 (-2)) 7 (-2), fun j => ([0, 0, 0, 0, 0, 0, 0, 0, 0, 0, 0, 0, 0, 0, -2, -2] : List Int32).getD j 0]
def M0C : Mem := (fun p => mCl.getD p (fun _ => 0), fun _ _ => 0)
def fR0 : Nat → Int32 := fun j => ([0, 0, 0, 0, 0, 0, 0, 0, 0, -1, 0, 0, 0, 0, 0, 0, 0, 0, 0, 0, 0, 0, 0, 0, 0, 0, -2, -2, 0, 0, 0, 0, 0, 0, 0] : List Int32).getD j 0
def fR6 : Nat → Int32 := upd (upd (upd (upd (upd (upd (upd (fun _ => 0) 0 20) 1 20) 3 1) 119 1) 120 2) 121 1) 122 7
def fR221 : Nat → Int32 := upd (upd (upd (upd (upd (upd (upd (upd (fun _ => 0) 0 (-1)) 1 (-1)) 2 (-1)) 3 (-1)) 4 (-1)) 5 (-1)) 6 (-1)) 7 (-1)
def M0R : Mem := (fun p => if p = 0 then fR0 else if p = 6 then fR6 else if p = 221 then fR221 else fun _ => 0, fun _ _ => 0)
/-- what lies where behind both constructors -/
def EL (cA : Nat → ClassId) (b : Nat) : Nat → va_E := ce_L cA b (eu (fun _ => .inr (0, [])) 0 (.inr (8, bl_L)))
def EW (cA : Nat → ClassId) (b : Nat) : Nat → va_E := ce_M cA b (eu (EL cA b) 84 (.inr (9, bl_M)))
def wC (sa : Nat → Nat) (D : va_G) (cA : Nat → ClassId) (b : Nat) : WD := (fun p => if p < 84 then b + tC p else sa p, D, cA)
def wR (sa : Nat → Nat) (D : va_G) (cA : Nat → ClassId) (b : Nat) : WD := (fun p => if p < 224 then b + (84 + p) else sa p, D, cA)
section EWS
variable {sa : Nat → Nat} {D : va_G} {cA : Nat → ClassId} {b : Nat}
set_option maxRecDepth 100000
theorem eC_0 : EW cA b 1 = ent (wC sa D cA b) lyC M0C 0 := rfl
theorem eC_1 : EW cA b 2 = ent (wC sa D cA b) lyC M0C 1 := rfl
theorem eC_2 : EW cA b 3 = ent (wC sa D cA b) lyC M0C 2 := rfl
theorem eC_3 : EW cA b 4 = ent (wC sa D cA b) lyC M0C 3 := rfl
theorem eC_4 : EW cA b 5 = ent (wC sa D cA b) lyC M0C 4 := rfl
theorem eC_5 : EW cA b 6 = ent (wC sa D cA b) lyC M0C 5 := rfl
theorem eC_6 : EW cA b 7 = ent (wC sa D cA b) lyC M0C 6 := rfl
theorem eC_7 : EW cA b 8 = ent (wC sa D cA b) lyC M0C 7 := rfl
theorem eC_8 : EW cA b 9 = ent (wC sa D cA b) lyC M0C 8 := rfl
theorem eC_9 : EW cA b 10 = ent (wC sa D cA b) lyC M0C 9 := rfl
theorem eC_10 : EW cA b 11 = ent (wC sa D cA b) lyC M0C 10 := rfl
theorem eC_11 : EW cA b 12 = ent (wC sa D cA b) lyC M0C 11 := rfl
theorem eC_12 : EW cA b 13 = ent (wC sa D cA b) lyC M0C 12 := rfl
theorem eC_13 : EW cA b 14 = ent (wC sa D cA b) lyC M0C 13 := rfl
theorem eC_14 : EW cA b 15 = ent (wC sa D cA b) lyC M0C 14 := rfl
theorem eC_15 : EW cA b 16 = ent (wC sa D cA b) lyC M0C 15 := rfl
theorem eC_16 : EW cA b 17 = ent (wC sa D cA b) lyC M0C 16 := rfl
theorem eC_17 : EW cA b 18 = ent (wC sa D cA b) lyC M0C 17 := rfl
theorem eC_18 : EW cA b 19 = ent (wC sa D cA b) lyC M0C 18 := rfl
theorem eC_19 : EW cA b 20 = ent (wC sa D cA b) lyC M0C 19 := rfl
theorem eC_20 : EW cA b 21 = ent (wC sa D cA b) lyC M0C 20 := rfl
theorem eC_21 : EW cA b 22 = ent (wC sa D cA b) lyC M0C 21 := rfl
theorem eC_22 : EW cA b 23 = ent (wC sa D cA b) lyC M0C 22 := rfl
theorem eC_23 : EW cA b 24 = ent (wC sa D cA b) lyC M0C 23 := rfl
theorem eC_24 : EW cA b 25 = ent (wC sa D cA b) lyC M0C 24 := rfl
theorem eC_25 : EW cA b 26 = ent (wC sa D cA b) lyC M0C 25 := rfl
theorem eC_26 : EW cA b 27 = ent (wC sa D cA b) lyC M0C 26 := rfl
theorem eC_27 : EW cA b 63 = ent (wC sa D cA b) lyC M0C 27 := rfl
theorem eC_28 : EW cA b 64 = ent (wC sa D cA b) lyC M0C 28 := rfl
theorem eC_29 : EW cA b 65 = ent (wC sa D cA b) lyC M0C 29 := rfl
theorem eC_30 : EW cA b 66 = ent (wC sa D cA b) lyC M0C 30 := rfl
theorem eC_31 : EW cA b 67 = ent (wC sa D cA b) lyC M0C 31 := rfl
theorem eC_32 : EW cA b 68 = ent (wC sa D cA b) lyC M0C 32 := rfl
theorem eC_33 : EW cA b 69 = ent (wC sa D cA b) lyC M0C 33 := rfl
theorem eC_34 : EW cA b 70 = ent (wC sa D cA b) lyC M0C 34 := rfl
theorem eC_35 : EW cA b 71 = ent (wC sa D cA b) lyC M0C 35 := rfl
theorem eC_36 : EW cA b 72 = ent (wC sa D cA b) lyC M0C 36 := rfl
theorem eC_37 : EW cA b 73 = ent (wC sa D cA b) lyC M0C 37 := rfl
theorem eC_38 : EW cA b 74 = ent (wC sa D cA b) lyC M0C 38 := rfl
theorem eC_39 : EW cA b 75 = ent (wC sa D cA b) lyC M0C 39 := rfl
theorem eC_40 : EW cA b 76 = ent (wC sa D cA b) lyC M0C 40 := rfl
theorem eC_41 : EW cA b 77 = ent (wC sa D cA b) lyC M0C 41 := rfl
theorem eC_42 : EW cA b 78 = ent (wC sa D cA b) lyC M0C 42 := rfl
theorem eC_43 : EW cA b 79 = ent (wC sa D cA b) lyC M0C 43 := rfl
theorem eC_44 : EW cA b 80 = ent (wC sa D cA b) lyC M0C 44 := rfl
theorem eC_45 : EW cA b 81 = ent (wC sa D cA b) lyC M0C 45 := rfl
theorem eC_46 : EW cA b 82 = ent (wC sa D cA b) lyC M0C 46 := rfl
theorem eC_47 : EW cA b 83 = ent (wC sa D cA b) lyC M0C 47 := rfl
theorem eC_49 : EW cA b 43 = ent (wC sa D cA b) lyC M0C 49 := rfl
theorem eC_50 : EW cA b 44 = ent (wC sa D cA b) lyC M0C 50 := rfl
theorem eC_51 : EW cA b 45 = ent (wC sa D cA b) lyC M0C 51 := rfl
theorem eC_52 : EW cA b 46 = ent (wC sa D cA b) lyC M0C 52 := rfl
theorem eC_53 : EW cA b 47 = ent (wC sa D cA b) lyC M0C 53 := rfl
theorem eC_54 : EW cA b 36 = ent (wC sa D cA b) lyC M0C 54 := rfl
theorem eC_55 : EW cA b 37 = ent (wC sa D cA b) lyC M0C 55 := rfl
theorem eC_56 : EW cA b 38 = ent (wC sa D cA b) lyC M0C 56 := rfl
theorem eC_57 : EW cA b 39 = ent (wC sa D cA b) lyC M0C 57 := rfl
theorem eC_58 : EW cA b 40 = ent (wC sa D cA b) lyC M0C 58 := rfl
theorem eC_59 : EW cA b 48 = ent (wC sa D cA b) lyC M0C 59 := rfl
theorem eC_60 : EW cA b 49 = ent (wC sa D cA b) lyC M0C 60 := rfl
theorem eC_61 : EW cA b 41 = ent (wC sa D cA b) lyC M0C 61 := rfl
theorem eC_62 : EW cA b 42 = ent (wC sa D cA b) lyC M0C 62 := rfl
theorem eC_63 : EW cA b 50 = ent (wC sa D cA b) lyC M0C 63 := rfl
theorem eC_64 : EW cA b 51 = ent (wC sa D cA b) lyC M0C 64 := rfl
theorem eC_65 : EW cA b 52 = ent (wC sa D cA b) lyC M0C 65 := rfl
theorem eC_66 : EW cA b 53 = ent (wC sa D cA b) lyC M0C 66 := rfl
theorem eC_67 : EW cA b 54 = ent (wC sa D cA b) lyC M0C 67 := rfl
theorem eC_68 : EW cA b 55 = ent (wC sa D cA b) lyC M0C 68 := rfl
theorem eC_69 : EW cA b 30 = ent (wC sa D cA b) lyC M0C 69 := rfl
theorem eC_70 : EW cA b 31 = ent (wC sa D cA b) lyC M0C 70 := rfl
theorem eC_71 : EW cA b 32 = ent (wC sa D cA b) lyC M0C 71 := rfl
theorem eC_72 : EW cA b 33 = ent (wC sa D cA b) lyC M0C 72 := rfl
theorem eC_73 : EW cA b 34 = ent (wC sa D cA b) lyC M0C 73 := rfl
theorem eC_74 : EW cA b 35 = ent (wC sa D cA b) lyC M0C 74 := rfl
theorem eC_75 : EW cA b 29 = ent (wC sa D cA b) lyC M0C 75 := rfl
theorem eC_76 : EW cA b 56 = ent (wC sa D cA b) lyC M0C 76 := rfl
theorem eC_77 : EW cA b 57 = ent (wC sa D cA b) lyC M0C 77 := rfl
theorem eC_78 : EW cA b 58 = ent (wC sa D cA b) lyC M0C 78 := rfl
theorem eC_79 : EW cA b 59 = ent (wC sa D cA b) lyC M0C 79 := rfl
theorem eC_80 : EW cA b 60 = ent (wC sa D cA b) lyC M0C 80 := rfl
theorem eC_81 : EW cA b 61 = ent (wC sa D cA b) lyC M0C 81 := rfl
theorem eC_82 : EW cA b 62 = ent (wC sa D cA b) lyC M0C 82 := rfl
theorem eC_83 : EW cA b 0 = ent (wC sa D cA b) lyC M0C 83 := rfl
theorem eR_0 : EW cA b 84 = ent (wR sa D cA b) lyR M0R 0 := rfl
theorem eR_1 : EW cA b 85 = ent (wR sa D cA b) lyR M0R 1 := rfl
theorem eR_2 : EW cA b 86 = ent (wR sa D cA b) lyR M0R 2 := rfl
theorem eR_3 : EW cA b 87 = ent (wR sa D cA b) lyR M0R 3 := rfl
theorem eR_4 : EW cA b 88 = ent (wR sa D cA b) lyR M0R 4 := rfl
theorem eR_5 : EW cA b 89 = ent (wR sa D cA b) lyR M0R 5 := rfl
theorem eR_6 : EW cA b 90 = ent (wR sa D cA b) lyR M0R 6 := rfl
theorem eR_8 : EW cA b 92 = ent (wR sa D cA b) lyR M0R 8 := rfl
theorem eR_9 : EW cA b 93 = ent (wR sa D cA b) lyR M0R 9 := rfl
theorem eR_10 : EW cA b 94 = ent (wR sa D cA b) lyR M0R 10 := rfl
theorem eR_11 : EW cA b 95 = ent (wR sa D cA b) lyR M0R 11 := rfl
theorem eR_12 : EW cA b 96 = ent (wR sa D cA b) lyR M0R 12 := rfl
theorem eR_13 : EW cA b 97 = ent (wR sa D cA b) lyR M0R 13 := rfl
theorem eR_14 : EW cA b 98 = ent (wR sa D cA b) lyR M0R 14 := rfl
theorem eR_217 : EW cA b 301 = ent (wR sa D cA b) lyR M0R 217 := rfl
theorem eR_218 : EW cA b 302 = ent (wR sa D cA b) lyR M0R 218 := rfl
theorem eR_219 : EW cA b 303 = ent (wR sa D cA b) lyR M0R 219 := rfl
theorem eR_220 : EW cA b 304 = ent (wR sa D cA b) lyR M0R 220 := rfl
theorem eR_221 : EW cA b 305 = ent (wR sa D cA b) lyR M0R 221 := rfl
theorem eR_222 : EW cA b 306 = ent (wR sa D cA b) lyR M0R 222 := rfl
theorem eR_223 : EW cA b 307 = ent (wR sa D cA b) lyR M0R 223 := rfl
end EWS
