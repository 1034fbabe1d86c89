theorem n_K : ∀ a, a < 5 → ∀ b, b < 5 → a ≠ b → (F_K a).2.1 ≠ (F_K b).2.1 := by decide +kernel
theorem ft_K_ok : ∀ k, k < 5 → parseFieldDescriptor (F_K k).2.2.1 = some (ft_K k) := by decide +kernel
theorem i_K : ∀ w ∈ u_ws R_K F_K 5, w ∈ tbl := by
  intro w hw
  obtain ⟨k, hk, rfl⟩ := List.mem_map.mp hw
  have hk := List.mem_range.mp hk
  match k, hk with
  | 0, _ => exact tbl_in (List.mem_of_getElem? (i := 155) (by decide +kernel)) rfl
  | 1, _ => exact tbl_in (List.mem_of_getElem? (i := 157) (by decide +kernel)) rfl
  | 2, _ => exact tbl_in (List.mem_of_getElem? (i := 159) (by decide +kernel)) rfl
  | 3, _ => exact tbl_in (List.mem_of_getElem? (i := 161) (by decide +kernel)) rfl
  | 4, _ => exact tbl_in (List.mem_of_getElem? (i := 163) (by decide +kernel)) rfl
  | k + 5, h => exact absurd h (by omega)
theorem n_E : ∀ a, a < 7 → ∀ b, b < 7 → a ≠ b → (F_E a).2.1 ≠ (F_E b).2.1 := by decide +kernel
theorem ft_E_ok : ∀ k, k < 7 → parseFieldDescriptor (F_E k).2.2.1 = some (ft_E k) := by decide +kernel
theorem i_E : ∀ w ∈ u_ws R_E F_E 7, w ∈ tbl := by
  intro w hw
  obtain ⟨k, hk, rfl⟩ := List.mem_map.mp hw
  have hk := List.mem_range.mp hk
  match k, hk with
  | 0, _ => exact tbl_in (List.mem_of_getElem? (i := 325) (by decide +kernel)) rfl
  | 1, _ => exact tbl_in (List.mem_of_getElem? (i := 327) (by decide +kernel)) rfl
  | 2, _ => exact tbl_in (List.mem_of_getElem? (i := 329) (by decide +kernel)) rfl
  | 3, _ => exact tbl_in (List.mem_of_getElem? (i := 331) (by decide +kernel)) rfl
  | 4, _ => exact tbl_in (List.mem_of_getElem? (i := 333) (by decide +kernel)) rfl
  | 5, _ => exact tbl_in (List.mem_of_getElem? (i := 335) (by decide +kernel)) rfl
  | 6, _ => exact tbl_in (List.mem_of_getElem? (i := 337) (by decide +kernel)) rfl
  | k + 7, h => exact absurd h (by omega)
theorem n_G : ∀ a, a < 15 → ∀ b, b < 15 → a ≠ b → (F_G a).2.1 ≠ (F_G b).2.1 := by decide +kernel
theorem ft_G_ok : ∀ k, k < 15 → parseFieldDescriptor (F_G k).2.2.1 = some (ft_G k) := by decide +kernel
theorem i_G : ∀ w ∈ u_ws R_G F_G 15, w ∈ tbl := by
  intro w hw
  obtain ⟨k, hk, rfl⟩ := List.mem_map.mp hw
  have hk := List.mem_range.mp hk
  match k, hk with
  | 0, _ => exact tbl_in (List.mem_of_getElem? (i := 214) (by decide +kernel)) rfl
  | 1, _ => exact tbl_in (List.mem_of_getElem? (i := 216) (by decide +kernel)) rfl
  | 2, _ => exact tbl_in (List.mem_of_getElem? (i := 218) (by decide +kernel)) rfl
  | 3, _ => exact tbl_in (List.mem_of_getElem? (i := 220) (by decide +kernel)) rfl
  | 4, _ => exact tbl_in (List.mem_of_getElem? (i := 222) (by decide +kernel)) rfl
  | 5, _ => exact tbl_in (List.mem_of_getElem? (i := 224) (by decide +kernel)) rfl
  | 6, _ => exact tbl_in (List.mem_of_getElem? (i := 226) (by decide +kernel)) rfl
  | 7, _ => exact tbl_in (List.mem_of_getElem? (i := 228) (by decide +kernel)) rfl
  | 8, _ => exact tbl_in (List.mem_of_getElem? (i := 230) (by decide +kernel)) rfl
  | 9, _ => exact tbl_in (List.mem_of_getElem? (i := 232) (by decide +kernel)) rfl
  | 10, _ => exact tbl_in (List.mem_of_getElem? (i := 234) (by decide +kernel)) rfl
  | 11, _ => exact tbl_in (List.mem_of_getElem? (i := 236) (by decide +kernel)) rfl
  | 12, _ => exact tbl_in (List.mem_of_getElem? (i := 238) (by decide +kernel)) rfl
  | 13, _ => exact tbl_in (List.mem_of_getElem? (i := 240) (by decide +kernel)) rfl
  | 14, _ => exact tbl_in (List.mem_of_getElem? (i := 242) (by decide +kernel)) rfl
  | k + 15, h => exact absurd h (by omega)
theorem n_Y : ∀ a, a < 7 → ∀ b, b < 7 → a ≠ b → (F_Y a).2.1 ≠ (F_Y b).2.1 := by decide +kernel
theorem ft_Y_ok : ∀ k, k < 7 → parseFieldDescriptor (F_Y k).2.2.1 = some (ft_Y k) := by decide +kernel
theorem i_Y : ∀ w ∈ u_ws R_Y F_Y 7, w ∈ tbl := by
  intro w hw
  obtain ⟨k, hk, rfl⟩ := List.mem_map.mp hw
  have hk := List.mem_range.mp hk
  match k, hk with
  | 0, _ => exact tbl_in (List.mem_of_getElem? (i := 292) (by decide +kernel)) rfl
  | 1, _ => exact tbl_in (List.mem_of_getElem? (i := 294) (by decide +kernel)) rfl
  | 2, _ => exact tbl_in (List.mem_of_getElem? (i := 296) (by decide +kernel)) rfl
  | 3, _ => exact tbl_in (List.mem_of_getElem? (i := 298) (by decide +kernel)) rfl
  | 4, _ => exact tbl_in (List.mem_of_getElem? (i := 300) (by decide +kernel)) rfl
  | 5, _ => exact tbl_in (List.mem_of_getElem? (i := 302) (by decide +kernel)) rfl
  | 6, _ => exact tbl_in (List.mem_of_getElem? (i := 304) (by decide +kernel)) rfl
  | k + 7, h => exact absurd h (by omega)
theorem n_O : ∀ a, a < 4 → ∀ b, b < 4 → a ≠ b → (F_O a).2.1 ≠ (F_O b).2.1 := by decide +kernel
theorem ft_O_ok : ∀ k, k < 4 → parseFieldDescriptor (F_O k).2.2.1 = some (ft_O k) := by decide +kernel
theorem i_O : ∀ w ∈ u_ws R_O F_O 4, w ∈ tbl := by
  intro w hw
  obtain ⟨k, hk, rfl⟩ := List.mem_map.mp hw
  have hk := List.mem_range.mp hk
  match k, hk with
  | 0, _ => exact tbl_in (List.mem_of_getElem? (i := 387) (by decide +kernel)) rfl
  | 1, _ => exact tbl_in (List.mem_of_getElem? (i := 389) (by decide +kernel)) rfl
  | 2, _ => exact tbl_in (List.mem_of_getElem? (i := 391) (by decide +kernel)) rfl
  | 3, _ => exact tbl_in (List.mem_of_getElem? (i := 393) (by decide +kernel)) rfl
  | k + 4, h => exact absurd h (by omega)
theorem n_P : ∀ a, a < 5 → ∀ b, b < 5 → a ≠ b → (F_P a).2.1 ≠ (F_P b).2.1 := by decide +kernel
theorem ft_P_ok : ∀ k, k < 5 → parseFieldDescriptor (F_P k).2.2.1 = some (ft_P k) := by decide +kernel
theorem i_P : ∀ w ∈ u_ws R_P F_P 5, w ∈ tbl := by
  intro w hw
  obtain ⟨k, hk, rfl⟩ := List.mem_map.mp hw
  have hk := List.mem_range.mp hk
  match k, hk with
  | 0, _ => exact tbl_in (List.mem_of_getElem? (i := 263) (by decide +kernel)) rfl
  | 1, _ => exact tbl_in (List.mem_of_getElem? (i := 265) (by decide +kernel)) rfl
  | 2, _ => exact tbl_in (List.mem_of_getElem? (i := 267) (by decide +kernel)) rfl
  | 3, _ => exact tbl_in (List.mem_of_getElem? (i := 269) (by decide +kernel)) rfl
  | 4, _ => exact tbl_in (List.mem_of_getElem? (i := 271) (by decide +kernel)) rfl
  | k + 5, h => exact absurd h (by omega)
theorem n_R : ∀ a, a < 8 → ∀ b, b < 8 → a ≠ b → (F_R a).2.1 ≠ (F_R b).2.1 := by decide +kernel
theorem ft_R_ok : ∀ k, k < 8 → parseFieldDescriptor (F_R k).2.2.1 = some (ft_R k) := by decide +kernel
theorem i_R : ∀ w ∈ u_ws R_R F_R 8, w ∈ tbl := by
  intro w hw
  obtain ⟨k, hk, rfl⟩ := List.mem_map.mp hw
  have hk := List.mem_range.mp hk
  match k, hk with
  | 0, _ => exact tbl_in (List.mem_of_getElem? (i := 352) (by decide +kernel)) rfl
  | 1, _ => exact tbl_in (List.mem_of_getElem? (i := 354) (by decide +kernel)) rfl
  | 2, _ => exact tbl_in (List.mem_of_getElem? (i := 356) (by decide +kernel)) rfl
  | 3, _ => exact tbl_in (List.mem_of_getElem? (i := 358) (by decide +kernel)) rfl
  | 4, _ => exact tbl_in (List.mem_of_getElem? (i := 360) (by decide +kernel)) rfl
  | 5, _ => exact tbl_in (List.mem_of_getElem? (i := 362) (by decide +kernel)) rfl
  | 6, _ => exact tbl_in (List.mem_of_getElem? (i := 364) (by decide +kernel)) rfl
  | 7, _ => exact tbl_in (List.mem_of_getElem? (i := 366) (by decide +kernel)) rfl
  | k + 8, h => exact absurd h (by omega)
theorem n_T : ∀ a, a < 8 → ∀ b, b < 8 → a ≠ b → (F_T a).2.1 ≠ (F_T b).2.1 := by decide +kernel
theorem ft_T_ok : ∀ k, k < 8 → parseFieldDescriptor (F_T k).2.2.1 = some (ft_T k) := by decide +kernel
theorem i_T : ∀ w ∈ u_ws R_T F_T 8, w ∈ tbl := by
  intro w hw
  obtain ⟨k, hk, rfl⟩ := List.mem_map.mp hw
  have hk := List.mem_range.mp hk
  match k, hk with
  | 0, _ => exact tbl_in (List.mem_of_getElem? (i := 416) (by decide +kernel)) rfl
  | 1, _ => exact tbl_in (List.mem_of_getElem? (i := 418) (by decide +kernel)) rfl
  | 2, _ => exact tbl_in (List.mem_of_getElem? (i := 420) (by decide +kernel)) rfl
  | 3, _ => exact tbl_in (List.mem_of_getElem? (i := 422) (by decide +kernel)) rfl
  | 4, _ => exact tbl_in (List.mem_of_getElem? (i := 424) (by decide +kernel)) rfl
  | 5, _ => exact tbl_in (List.mem_of_getElem? (i := 426) (by decide +kernel)) rfl
  | 6, _ => exact tbl_in (List.mem_of_getElem? (i := 428) (by decide +kernel)) rfl
  | 7, _ => exact tbl_in (List.mem_of_getElem? (i := 430) (by decide +kernel)) rfl
  | k + 8, h => exact absurd h (by omega)
theorem n_L : ∀ a, a < 16 → ∀ b, b < 16 → a ≠ b → (F_L a).2.1 ≠ (F_L b).2.1 := by decide +kernel
theorem ft_L_ok : ∀ k, k < 16 → parseFieldDescriptor (F_L k).2.2.1 = some (ft_L k) := by decide +kernel
theorem i_L : ∀ w ∈ u_ws R_L F_L 16, w ∈ tbl := by
  intro w hw
  obtain ⟨k, hk, rfl⟩ := List.mem_map.mp hw
  have hk := List.mem_range.mp hk
  match k, hk with
  | 0, _ => exact tbl_in (List.mem_of_getElem? (i := 449) (by decide +kernel)) rfl
  | 1, _ => exact tbl_in (List.mem_of_getElem? (i := 451) (by decide +kernel)) rfl
  | 2, _ => exact tbl_in (List.mem_of_getElem? (i := 453) (by decide +kernel)) rfl
  | 3, _ => exact tbl_in (List.mem_of_getElem? (i := 455) (by decide +kernel)) rfl
  | 4, _ => exact tbl_in (List.mem_of_getElem? (i := 457) (by decide +kernel)) rfl
  | 5, _ => exact tbl_in (List.mem_of_getElem? (i := 459) (by decide +kernel)) rfl
  | 6, _ => exact tbl_in (List.mem_of_getElem? (i := 461) (by decide +kernel)) rfl
  | 7, _ => exact tbl_in (List.mem_of_getElem? (i := 463) (by decide +kernel)) rfl
  | 8, _ => exact tbl_in (List.mem_of_getElem? (i := 465) (by decide +kernel)) rfl
  | 9, _ => exact tbl_in (List.mem_of_getElem? (i := 467) (by decide +kernel)) rfl
  | 10, _ => exact tbl_in (List.mem_of_getElem? (i := 469) (by decide +kernel)) rfl
  | 11, _ => exact tbl_in (List.mem_of_getElem? (i := 471) (by decide +kernel)) rfl
  | 12, _ => exact tbl_in (List.mem_of_getElem? (i := 473) (by decide +kernel)) rfl
  | 13, _ => exact tbl_in (List.mem_of_getElem? (i := 475) (by decide +kernel)) rfl
  | 14, _ => exact tbl_in (List.mem_of_getElem? (i := 477) (by decide +kernel)) rfl
  | 15, _ => exact tbl_in (List.mem_of_getElem? (i := 479) (by decide +kernel)) rfl
  | k + 16, h => exact absurd h (by omega)
theorem n_M : ∀ a, a < 35 → ∀ b, b < 35 → a ≠ b → (F_M a).2.1 ≠ (F_M b).2.1 := by decide +kernel
theorem ft_M_ok : ∀ k, k < 35 → parseFieldDescriptor (F_M k).2.2.1 = some (ft_M k) := by decide +kernel
theorem i_M : ∀ w ∈ u_ws R_M F_M 35, w ∈ tbl := by
  intro w hw
  obtain ⟨k, hk, rfl⟩ := List.mem_map.mp hw
  have hk := List.mem_range.mp hk
  match k, hk with
  | 0, _ => exact tbl_in (List.mem_of_getElem? (i := 1023) (by decide +kernel)) rfl
  | 1, _ => exact tbl_in (List.mem_of_getElem? (i := 1025) (by decide +kernel)) rfl
  | 2, _ => exact tbl_in (List.mem_of_getElem? (i := 1027) (by decide +kernel)) rfl
  | 3, _ => exact tbl_in (List.mem_of_getElem? (i := 1029) (by decide +kernel)) rfl
  | 4, _ => exact tbl_in (List.mem_of_getElem? (i := 1031) (by decide +kernel)) rfl
  | 5, _ => exact tbl_in (List.mem_of_getElem? (i := 1033) (by decide +kernel)) rfl
  | 6, _ => exact tbl_in (List.mem_of_getElem? (i := 1035) (by decide +kernel)) rfl
  | 7, _ => exact tbl_in (List.mem_of_getElem? (i := 1037) (by decide +kernel)) rfl
  | 8, _ => exact tbl_in (List.mem_of_getElem? (i := 1039) (by decide +kernel)) rfl
  | 9, _ => exact tbl_in (List.mem_of_getElem? (i := 1041) (by decide +kernel)) rfl
  | 10, _ => exact tbl_in (List.mem_of_getElem? (i := 1043) (by decide +kernel)) rfl
  | 11, _ => exact tbl_in (List.mem_of_getElem? (i := 1045) (by decide +kernel)) rfl
  | 12, _ => exact tbl_in (List.mem_of_getElem? (i := 1047) (by decide +kernel)) rfl
  | 13, _ => exact tbl_in (List.mem_of_getElem? (i := 1049) (by decide +kernel)) rfl
  | 14, _ => exact tbl_in (List.mem_of_getElem? (i := 1051) (by decide +kernel)) rfl
  | 15, _ => exact tbl_in (List.mem_of_getElem? (i := 1053) (by decide +kernel)) rfl
  | 16, _ => exact tbl_in (List.mem_of_getElem? (i := 1055) (by decide +kernel)) rfl
  | 17, _ => exact tbl_in (List.mem_of_getElem? (i := 1057) (by decide +kernel)) rfl
  | 18, _ => exact tbl_in (List.mem_of_getElem? (i := 1059) (by decide +kernel)) rfl
  | 19, _ => exact tbl_in (List.mem_of_getElem? (i := 1061) (by decide +kernel)) rfl
  | 20, _ => exact tbl_in (List.mem_of_getElem? (i := 1063) (by decide +kernel)) rfl
  | 21, _ => exact tbl_in (List.mem_of_getElem? (i := 1065) (by decide +kernel)) rfl
  | 22, _ => exact tbl_in (List.mem_of_getElem? (i := 1067) (by decide +kernel)) rfl
  | 23, _ => exact tbl_in (List.mem_of_getElem? (i := 1069) (by decide +kernel)) rfl
  | 24, _ => exact tbl_in (List.mem_of_getElem? (i := 1071) (by decide +kernel)) rfl
  | 25, _ => exact tbl_in (List.mem_of_getElem? (i := 1073) (by decide +kernel)) rfl
  | 26, _ => exact tbl_in (List.mem_of_getElem? (i := 1075) (by decide +kernel)) rfl
  | 27, _ => exact tbl_in (List.mem_of_getElem? (i := 1077) (by decide +kernel)) rfl
  | 28, _ => exact tbl_in (List.mem_of_getElem? (i := 1079) (by decide +kernel)) rfl
  | 29, _ => exact tbl_in (List.mem_of_getElem? (i := 1081) (by decide +kernel)) rfl
  | 30, _ => exact tbl_in (List.mem_of_getElem? (i := 1083) (by decide +kernel)) rfl
  | 31, _ => exact tbl_in (List.mem_of_getElem? (i := 1085) (by decide +kernel)) rfl
  | 32, _ => exact tbl_in (List.mem_of_getElem? (i := 1087) (by decide +kernel)) rfl
  | 33, _ => exact tbl_in (List.mem_of_getElem? (i := 1089) (by decide +kernel)) rfl
  | 34, _ => exact tbl_in (List.mem_of_getElem? (i := 1091) (by decide +kernel)) rfl
  | k + 35, h => exact absurd h (by omega)
theorem fw_L_10 : FW R_L 10 8 0 := ⟨_, rfl, Or.inl (tbl_in (List.mem_of_getElem? (i := 433) (by decide +kernel)) rfl)⟩
theorem fw_L_21 : FW R_L 21 8 1 := ⟨_, rfl, Or.inl (tbl_in (List.mem_of_getElem? (i := 434) (by decide +kernel)) rfl)⟩
theorem fw_L_25 : FW R_L 25 8 2 := ⟨_, rfl, Or.inl (tbl_in (List.mem_of_getElem? (i := 435) (by decide +kernel)) rfl)⟩
theorem fw_L_28 : FW R_L 28 8 3 := ⟨_, rfl, Or.inl (tbl_in (List.mem_of_getElem? (i := 436) (by decide +kernel)) rfl)⟩
theorem fw_L_32 : FW R_L 32 8 4 := ⟨_, rfl, Or.inl (tbl_in (List.mem_of_getElem? (i := 437) (by decide +kernel)) rfl)⟩
theorem fw_L_35 : FW R_L 35 8 5 := ⟨_, rfl, Or.inl (tbl_in (List.mem_of_getElem? (i := 438) (by decide +kernel)) rfl)⟩
theorem fw_L_42 : FW R_L 42 8 6 := ⟨_, rfl, Or.inl (tbl_in (List.mem_of_getElem? (i := 439) (by decide +kernel)) rfl)⟩
theorem fw_L_49 : FW R_L 49 8 7 := ⟨_, rfl, Or.inl (tbl_in (List.mem_of_getElem? (i := 440) (by decide +kernel)) rfl)⟩
theorem fw_L_56 : FW R_L 56 8 8 := ⟨_, rfl, Or.inl (tbl_in (List.mem_of_getElem? (i := 441) (by decide +kernel)) rfl)⟩
theorem fw_L_63 : FW R_L 63 8 9 := ⟨_, rfl, Or.inl (tbl_in (List.mem_of_getElem? (i := 442) (by decide +kernel)) rfl)⟩
theorem fw_L_67 : FW R_L 67 8 10 := ⟨_, rfl, Or.inl (tbl_in (List.mem_of_getElem? (i := 443) (by decide +kernel)) rfl)⟩
theorem fw_L_73 : FW R_L 73 8 11 := ⟨_, rfl, Or.inl (tbl_in (List.mem_of_getElem? (i := 444) (by decide +kernel)) rfl)⟩
theorem fw_L_77 : FW R_L 77 8 12 := ⟨_, rfl, Or.inl (tbl_in (List.mem_of_getElem? (i := 445) (by decide +kernel)) rfl)⟩
theorem fw_L_81 : FW R_L 81 8 13 := ⟨_, rfl, Or.inl (tbl_in (List.mem_of_getElem? (i := 446) (by decide +kernel)) rfl)⟩
theorem fw_L_85 : FW R_L 85 8 14 := ⟨_, rfl, Or.inl (tbl_in (List.mem_of_getElem? (i := 447) (by decide +kernel)) rfl)⟩
theorem fw_L_88 : FW R_L 88 8 15 := ⟨_, rfl, Or.inl (tbl_in (List.mem_of_getElem? (i := 448) (by decide +kernel)) rfl)⟩
theorem fw_L_98 : FW R_L 98 2 7 := ⟨_, rfl, Or.inr ⟨"LayeredCards", nst_in (List.mem_of_getElem? (i := 191) (by decide +kernel)) rfl⟩⟩
theorem fw_L_108 : FW R_L 108 7 1 := ⟨_, rfl, Or.inr ⟨"LayeredCards", nst_in (List.mem_of_getElem? (i := 404) (by decide +kernel)) rfl⟩⟩
theorem fw_L_118 : FW R_L 118 7 7 := ⟨_, rfl, Or.inr ⟨"LayeredCards", nst_in (List.mem_of_getElem? (i := 415) (by decide +kernel)) rfl⟩⟩
theorem fw_L_121 : FW R_L 121 7 3 := ⟨_, rfl, Or.inr ⟨"LayeredCards", nst_in (List.mem_of_getElem? (i := 407) (by decide +kernel)) rfl⟩⟩
theorem fw_L_128 : FW R_L 128 7 4 := ⟨_, rfl, Or.inr ⟨"LayeredCards", nst_in (List.mem_of_getElem? (i := 409) (by decide +kernel)) rfl⟩⟩
theorem fw_L_131 : FW R_L 131 7 5 := ⟨_, rfl, Or.inr ⟨"LayeredCards", nst_in (List.mem_of_getElem? (i := 411) (by decide +kernel)) rfl⟩⟩
theorem fw_L_134 : FW R_L 134 7 6 := ⟨_, rfl, Or.inr ⟨"LayeredCards", nst_in (List.mem_of_getElem? (i := 413) (by decide +kernel)) rfl⟩⟩
theorem fw_L_140 : FW R_L 140 0 0 := ⟨_, rfl, Or.inr ⟨"LayeredCards", nst_in (List.mem_of_getElem? (i := 134) (by decide +kernel)) rfl⟩⟩
theorem fw_L_141 : FW R_L 141 0 1 := ⟨_, rfl, Or.inr ⟨"LayeredCards", nst_in (List.mem_of_getElem? (i := 138) (by decide +kernel)) rfl⟩⟩
theorem fw_L_142 : FW R_L 142 0 2 := ⟨_, rfl, Or.inr ⟨"LayeredCards", nst_in (List.mem_of_getElem? (i := 143) (by decide +kernel)) rfl⟩⟩
theorem fw_L_145 : FW R_L 145 0 3 := ⟨_, rfl, Or.inr ⟨"LayeredCards", nst_in (List.mem_of_getElem? (i := 147) (by decide +kernel)) rfl⟩⟩
theorem fw_L_148 : FW R_L 148 0 4 := ⟨_, rfl, Or.inr ⟨"LayeredCards", nst_in (List.mem_of_getElem? (i := 152) (by decide +kernel)) rfl⟩⟩
theorem fw_L_149 : FW R_L 149 2 3 := ⟨_, rfl, Or.inr ⟨"LayeredCards", nst_in (List.mem_of_getElem? (i := 181) (by decide +kernel)) rfl⟩⟩
theorem fw_L_152 : FW R_L 152 2 4 := ⟨_, rfl, Or.inr ⟨"LayeredCards", nst_in (List.mem_of_getElem? (i := 183) (by decide +kernel)) rfl⟩⟩
theorem fw_L_160 : FW R_L 160 2 2 := ⟨_, rfl, Or.inr ⟨"LayeredCards", nst_in (List.mem_of_getElem? (i := 179) (by decide +kernel)) rfl⟩⟩
theorem fw_L_167 : FW R_L 167 2 1 := ⟨_, rfl, Or.inr ⟨"LayeredCards", nst_in (List.mem_of_getElem? (i := 176) (by decide +kernel)) rfl⟩⟩
theorem fw_L_178 : FW R_L 178 3 1 := ⟨_, rfl, Or.inr ⟨"LayeredCards", nst_in (List.mem_of_getElem? (i := 284) (by decide +kernel)) rfl⟩⟩
theorem fw_L_181 : FW R_L 181 3 3 := ⟨_, rfl, Or.inr ⟨"LayeredCards", nst_in (List.mem_of_getElem? (i := 288) (by decide +kernel)) rfl⟩⟩
theorem fw_L_184 : FW R_L 184 3 2 := ⟨_, rfl, Or.inr ⟨"LayeredCards", nst_in (List.mem_of_getElem? (i := 286) (by decide +kernel)) rfl⟩⟩
theorem fw_L_207 : FW R_L 207 1 5 := ⟨_, rfl, Or.inr ⟨"LayeredCards", nst_in (List.mem_of_getElem? (i := 323) (by decide +kernel)) rfl⟩⟩
theorem fw_L_208 : FW R_L 208 1 4 := ⟨_, rfl, Or.inr ⟨"LayeredCards", nst_in (List.mem_of_getElem? (i := 321) (by decide +kernel)) rfl⟩⟩
theorem fw_L_211 : FW R_L 211 2 9 := ⟨_, rfl, Or.inr ⟨"LayeredCards", nst_in (List.mem_of_getElem? (i := 201) (by decide +kernel)) rfl⟩⟩
theorem fw_L_217 : FW R_L 217 2 6 := ⟨_, rfl, Or.inr ⟨"LayeredCards", nst_in (List.mem_of_getElem? (i := 190) (by decide +kernel)) rfl⟩⟩
theorem fw_L_230 : FW R_L 230 6 4 := ⟨_, rfl, Or.inr ⟨"LayeredCards", nst_in (List.mem_of_getElem? (i := 345) (by decide +kernel)) rfl⟩⟩
theorem fw_L_233 : FW R_L 233 6 5 := ⟨_, rfl, Or.inr ⟨"LayeredCards", nst_in (List.mem_of_getElem? (i := 347) (by decide +kernel)) rfl⟩⟩
theorem fw_L_236 : FW R_L 236 6 6 := ⟨_, rfl, Or.inr ⟨"LayeredCards", nst_in (List.mem_of_getElem? (i := 349) (by decide +kernel)) rfl⟩⟩
theorem fw_L_239 : FW R_L 239 6 7 := ⟨_, rfl, Or.inr ⟨"LayeredCards", nst_in (List.mem_of_getElem? (i := 351) (by decide +kernel)) rfl⟩⟩
theorem fw_L_249 : FW R_L 249 2 11 := ⟨_, rfl, Or.inr ⟨"LayeredCards", nst_in (List.mem_of_getElem? (i := 206) (by decide +kernel)) rfl⟩⟩
theorem fw_L_275 : FW R_L 275 2 13 := ⟨_, rfl, Or.inr ⟨"LayeredCards", nst_in (List.mem_of_getElem? (i := 211) (by decide +kernel)) rfl⟩⟩
theorem fw_L_284 : FW R_L 284 4 2 := ⟨_, rfl, Or.inr ⟨"LayeredCards", nst_in (List.mem_of_getElem? (i := 384) (by decide +kernel)) rfl⟩⟩
theorem fw_L_287 : FW R_L 287 4 0 := ⟨_, rfl, Or.inr ⟨"LayeredCards", nst_in (List.mem_of_getElem? (i := 380) (by decide +kernel)) rfl⟩⟩
theorem fw_L_290 : FW R_L 290 4 3 := ⟨_, rfl, Or.inr ⟨"LayeredCards", nst_in (List.mem_of_getElem? (i := 386) (by decide +kernel)) rfl⟩⟩
theorem fw_L_293 : FW R_L 293 4 1 := ⟨_, rfl, Or.inr ⟨"LayeredCards", nst_in (List.mem_of_getElem? (i := 382) (by decide +kernel)) rfl⟩⟩
theorem fw_L_302 : FW R_L 302 2 8 := ⟨_, rfl, Or.inr ⟨"LayeredCards", nst_in (List.mem_of_getElem? (i := 197) (by decide +kernel)) rfl⟩⟩
theorem fw_L_305 : FW R_L 305 2 10 := ⟨_, rfl, Or.inr ⟨"LayeredCards", nst_in (List.mem_of_getElem? (i := 203) (by decide +kernel)) rfl⟩⟩
theorem fw_L_308 : FW R_L 308 2 12 := ⟨_, rfl, Or.inr ⟨"LayeredCards", nst_in (List.mem_of_getElem? (i := 209) (by decide +kernel)) rfl⟩⟩
theorem fw_K_9 : FW R_K 9 0 0 := ⟨_, rfl, Or.inl (tbl_in (List.mem_of_getElem? (i := 130) (by decide +kernel)) rfl)⟩
theorem fw_K_15 : FW R_K 15 0 1 := ⟨_, rfl, Or.inl (tbl_in (List.mem_of_getElem? (i := 135) (by decide +kernel)) rfl)⟩
theorem fw_K_18 : FW R_K 18 0 2 := ⟨_, rfl, Or.inl (tbl_in (List.mem_of_getElem? (i := 140) (by decide +kernel)) rfl)⟩
theorem fw_K_21 : FW R_K 21 0 3 := ⟨_, rfl, Or.inl (tbl_in (List.mem_of_getElem? (i := 145) (by decide +kernel)) rfl)⟩
theorem fw_K_24 : FW R_K 24 0 4 := ⟨_, rfl, Or.inl (tbl_in (List.mem_of_getElem? (i := 150) (by decide +kernel)) rfl)⟩
theorem fw_E_9 : FW R_E 9 1 4 := ⟨_, rfl, Or.inl (tbl_in (List.mem_of_getElem? (i := 320) (by decide +kernel)) rfl)⟩
theorem fw_E_15 : FW R_E 15 1 0 := ⟨_, rfl, Or.inl (tbl_in (List.mem_of_getElem? (i := 313) (by decide +kernel)) rfl)⟩
theorem fw_E_19 : FW R_E 19 1 1 := ⟨_, rfl, Or.inl (tbl_in (List.mem_of_getElem? (i := 314) (by decide +kernel)) rfl)⟩
theorem fw_E_23 : FW R_E 23 1 2 := ⟨_, rfl, Or.inl (tbl_in (List.mem_of_getElem? (i := 316) (by decide +kernel)) rfl)⟩
theorem fw_E_30 : FW R_E 30 1 3 := ⟨_, rfl, Or.inl (tbl_in (List.mem_of_getElem? (i := 318) (by decide +kernel)) rfl)⟩
theorem fw_E_33 : FW R_E 33 1 5 := ⟨_, rfl, Or.inl (tbl_in (List.mem_of_getElem? (i := 322) (by decide +kernel)) rfl)⟩
theorem fw_E_36 : FW R_E 36 1 6 := ⟨_, rfl, Or.inl (tbl_in (List.mem_of_getElem? (i := 324) (by decide +kernel)) rfl)⟩
theorem fw_E_46 : FW R_E 46 2 8 := ⟨_, rfl, Or.inr ⟨"LayeredCards", nst_in (List.mem_of_getElem? (i := 195) (by decide +kernel)) rfl⟩⟩
theorem fw_E_51 : FW R_E 51 2 5 := ⟨_, rfl, Or.inr ⟨"LayeredCards", nst_in (List.mem_of_getElem? (i := 186) (by decide +kernel)) rfl⟩⟩
theorem fw_E_66 : FW R_E 66 0 0 := ⟨_, rfl, Or.inr ⟨"LayeredCards", nst_in (List.mem_of_getElem? (i := 133) (by decide +kernel)) rfl⟩⟩
theorem fw_E_75 : FW R_E 75 0 2 := ⟨_, rfl, Or.inr ⟨"LayeredCards", nst_in (List.mem_of_getElem? (i := 142) (by decide +kernel)) rfl⟩⟩
theorem fw_E_78 : FW R_E 78 0 1 := ⟨_, rfl, Or.inr ⟨"LayeredCards", nst_in (List.mem_of_getElem? (i := 137) (by decide +kernel)) rfl⟩⟩
theorem fw_E_85 : FW R_E 85 0 4 := ⟨_, rfl, Or.inr ⟨"LayeredCards", nst_in (List.mem_of_getElem? (i := 153) (by decide +kernel)) rfl⟩⟩
theorem fw_E_91 : FW R_E 91 0 3 := ⟨_, rfl, Or.inr ⟨"LayeredCards", nst_in (List.mem_of_getElem? (i := 148) (by decide +kernel)) rfl⟩⟩
theorem fw_G_9 : FW R_G 9 2 1 := ⟨_, rfl, Or.inl (tbl_in (List.mem_of_getElem? (i := 174) (by decide +kernel)) rfl)⟩
theorem fw_G_15 : FW R_G 15 2 2 := ⟨_, rfl, Or.inl (tbl_in (List.mem_of_getElem? (i := 177) (by decide +kernel)) rfl)⟩
theorem fw_G_18 : FW R_G 18 2 3 := ⟨_, rfl, Or.inl (tbl_in (List.mem_of_getElem? (i := 180) (by decide +kernel)) rfl)⟩
theorem fw_G_21 : FW R_G 21 2 4 := ⟨_, rfl, Or.inl (tbl_in (List.mem_of_getElem? (i := 182) (by decide +kernel)) rfl)⟩
theorem fw_G_24 : FW R_G 24 2 5 := ⟨_, rfl, Or.inl (tbl_in (List.mem_of_getElem? (i := 184) (by decide +kernel)) rfl)⟩
theorem fw_G_27 : FW R_G 27 2 6 := ⟨_, rfl, Or.inl (tbl_in (List.mem_of_getElem? (i := 188) (by decide +kernel)) rfl)⟩
theorem fw_G_30 : FW R_G 30 2 13 := ⟨_, rfl, Or.inl (tbl_in (List.mem_of_getElem? (i := 210) (by decide +kernel)) rfl)⟩
theorem fw_G_34 : FW R_G 34 2 0 := ⟨_, rfl, Or.inl (tbl_in (List.mem_of_getElem? (i := 173) (by decide +kernel)) rfl)⟩
theorem fw_G_42 : FW R_G 42 2 7 := ⟨_, rfl, Or.inl (tbl_in (List.mem_of_getElem? (i := 192) (by decide +kernel)) rfl)⟩
theorem fw_G_45 : FW R_G 45 2 8 := ⟨_, rfl, Or.inl (tbl_in (List.mem_of_getElem? (i := 193) (by decide +kernel)) rfl)⟩
theorem fw_G_48 : FW R_G 48 2 9 := ⟨_, rfl, Or.inl (tbl_in (List.mem_of_getElem? (i := 199) (by decide +kernel)) rfl)⟩
theorem fw_G_51 : FW R_G 51 2 10 := ⟨_, rfl, Or.inl (tbl_in (List.mem_of_getElem? (i := 202) (by decide +kernel)) rfl)⟩
theorem fw_G_54 : FW R_G 54 2 11 := ⟨_, rfl, Or.inl (tbl_in (List.mem_of_getElem? (i := 204) (by decide +kernel)) rfl)⟩
theorem fw_G_57 : FW R_G 57 2 12 := ⟨_, rfl, Or.inl (tbl_in (List.mem_of_getElem? (i := 207) (by decide +kernel)) rfl)⟩
theorem fw_G_60 : FW R_G 60 2 14 := ⟨_, rfl, Or.inl (tbl_in (List.mem_of_getElem? (i := 213) (by decide +kernel)) rfl)⟩
theorem fw_G_85 : FW R_G 85 0 1 := ⟨_, rfl, Or.inr ⟨"LayeredCards", nst_in (List.mem_of_getElem? (i := 139) (by decide +kernel)) rfl⟩⟩
theorem fw_Y_9 : FW R_Y 9 3 1 := ⟨_, rfl, Or.inl (tbl_in (List.mem_of_getElem? (i := 282) (by decide +kernel)) rfl)⟩
theorem fw_Y_15 : FW R_Y 15 3 2 := ⟨_, rfl, Or.inl (tbl_in (List.mem_of_getElem? (i := 285) (by decide +kernel)) rfl)⟩
theorem fw_Y_18 : FW R_Y 18 3 4 := ⟨_, rfl, Or.inl (tbl_in (List.mem_of_getElem? (i := 289) (by decide +kernel)) rfl)⟩
theorem fw_Y_21 : FW R_Y 21 3 5 := ⟨_, rfl, Or.inl (tbl_in (List.mem_of_getElem? (i := 290) (by decide +kernel)) rfl)⟩
theorem fw_Y_24 : FW R_Y 24 3 0 := ⟨_, rfl, Or.inl (tbl_in (List.mem_of_getElem? (i := 281) (by decide +kernel)) rfl)⟩
theorem fw_Y_28 : FW R_Y 28 2 2 := ⟨_, rfl, Or.inr ⟨"LayeredCards", nst_in (List.mem_of_getElem? (i := 178) (by decide +kernel)) rfl⟩⟩
theorem fw_Y_41 : FW R_Y 41 3 3 := ⟨_, rfl, Or.inl (tbl_in (List.mem_of_getElem? (i := 287) (by decide +kernel)) rfl)⟩
theorem fw_Y_45 : FW R_Y 45 3 6 := ⟨_, rfl, Or.inl (tbl_in (List.mem_of_getElem? (i := 291) (by decide +kernel)) rfl)⟩
theorem fw_Y_60 : FW R_Y 60 2 8 := ⟨_, rfl, Or.inr ⟨"LayeredCards", nst_in (List.mem_of_getElem? (i := 194) (by decide +kernel)) rfl⟩⟩
theorem fw_Y_63 : FW R_Y 63 2 5 := ⟨_, rfl, Or.inr ⟨"LayeredCards", nst_in (List.mem_of_getElem? (i := 185) (by decide +kernel)) rfl⟩⟩
theorem fw_Y_70 : FW R_Y 70 0 0 := ⟨_, rfl, Or.inr ⟨"LayeredCards", nst_in (List.mem_of_getElem? (i := 131) (by decide +kernel)) rfl⟩⟩
theorem fw_Y_83 : FW R_Y 83 0 2 := ⟨_, rfl, Or.inr ⟨"LayeredCards", nst_in (List.mem_of_getElem? (i := 141) (by decide +kernel)) rfl⟩⟩
theorem fw_Y_93 : FW R_Y 93 0 3 := ⟨_, rfl, Or.inr ⟨"LayeredCards", nst_in (List.mem_of_getElem? (i := 146) (by decide +kernel)) rfl⟩⟩
theorem fw_Y_96 : FW R_Y 96 0 4 := ⟨_, rfl, Or.inr ⟨"LayeredCards", nst_in (List.mem_of_getElem? (i := 154) (by decide +kernel)) rfl⟩⟩
theorem fw_O_9 : FW R_O 9 4 0 := ⟨_, rfl, Or.inl (tbl_in (List.mem_of_getElem? (i := 379) (by decide +kernel)) rfl)⟩
theorem fw_O_15 : FW R_O 15 4 1 := ⟨_, rfl, Or.inl (tbl_in (List.mem_of_getElem? (i := 381) (by decide +kernel)) rfl)⟩
theorem fw_O_18 : FW R_O 18 4 2 := ⟨_, rfl, Or.inl (tbl_in (List.mem_of_getElem? (i := 383) (by decide +kernel)) rfl)⟩
theorem fw_O_22 : FW R_O 22 4 3 := ⟨_, rfl, Or.inl (tbl_in (List.mem_of_getElem? (i := 385) (by decide +kernel)) rfl)⟩
theorem fw_P_9 : FW R_P 9 5 0 := ⟨_, rfl, Or.inl (tbl_in (List.mem_of_getElem? (i := 258) (by decide +kernel)) rfl)⟩
theorem fw_P_15 : FW R_P 15 5 1 := ⟨_, rfl, Or.inl (tbl_in (List.mem_of_getElem? (i := 259) (by decide +kernel)) rfl)⟩
theorem fw_P_18 : FW R_P 18 5 2 := ⟨_, rfl, Or.inl (tbl_in (List.mem_of_getElem? (i := 260) (by decide +kernel)) rfl)⟩
theorem fw_P_21 : FW R_P 21 5 3 := ⟨_, rfl, Or.inl (tbl_in (List.mem_of_getElem? (i := 261) (by decide +kernel)) rfl)⟩
theorem fw_P_24 : FW R_P 24 5 4 := ⟨_, rfl, Or.inl (tbl_in (List.mem_of_getElem? (i := 262) (by decide +kernel)) rfl)⟩
theorem fw_P_28 : FW R_P 28 2 14 := ⟨_, rfl, Or.inr ⟨"LayeredCards", nst_in (List.mem_of_getElem? (i := 212) (by decide +kernel)) rfl⟩⟩
theorem fw_P_37 : FW R_P 37 2 1 := ⟨_, rfl, Or.inr ⟨"LayeredCards", nst_in (List.mem_of_getElem? (i := 175) (by decide +kernel)) rfl⟩⟩
theorem fw_P_44 : FW R_P 44 2 9 := ⟨_, rfl, Or.inr ⟨"LayeredCards", nst_in (List.mem_of_getElem? (i := 198) (by decide +kernel)) rfl⟩⟩
theorem fw_P_47 : FW R_P 47 2 6 := ⟨_, rfl, Or.inr ⟨"LayeredCards", nst_in (List.mem_of_getElem? (i := 189) (by decide +kernel)) rfl⟩⟩
theorem fw_R_12 : FW R_R 12 6 3 := ⟨_, rfl, Or.inl (tbl_in (List.mem_of_getElem? (i := 343) (by decide +kernel)) rfl)⟩
theorem fw_R_18 : FW R_R 18 6 0 := ⟨_, rfl, Or.inl (tbl_in (List.mem_of_getElem? (i := 340) (by decide +kernel)) rfl)⟩
theorem fw_R_27 : FW R_R 27 6 1 := ⟨_, rfl, Or.inl (tbl_in (List.mem_of_getElem? (i := 341) (by decide +kernel)) rfl)⟩
theorem fw_R_34 : FW R_R 34 6 2 := ⟨_, rfl, Or.inl (tbl_in (List.mem_of_getElem? (i := 342) (by decide +kernel)) rfl)⟩
theorem fw_R_38 : FW R_R 38 6 5 := ⟨_, rfl, Or.inl (tbl_in (List.mem_of_getElem? (i := 346) (by decide +kernel)) rfl)⟩
theorem fw_R_42 : FW R_R 42 6 6 := ⟨_, rfl, Or.inl (tbl_in (List.mem_of_getElem? (i := 348) (by decide +kernel)) rfl)⟩
theorem fw_R_45 : FW R_R 45 6 4 := ⟨_, rfl, Or.inl (tbl_in (List.mem_of_getElem? (i := 344) (by decide +kernel)) rfl)⟩
theorem fw_R_48 : FW R_R 48 6 7 := ⟨_, rfl, Or.inl (tbl_in (List.mem_of_getElem? (i := 350) (by decide +kernel)) rfl)⟩
theorem fw_R_65 : FW R_R 65 2 9 := ⟨_, rfl, Or.inr ⟨"LayeredCards", nst_in (List.mem_of_getElem? (i := 200) (by decide +kernel)) rfl⟩⟩
theorem fw_R_91 : FW R_R 91 0 0 := ⟨_, rfl, Or.inr ⟨"LayeredCards", nst_in (List.mem_of_getElem? (i := 132) (by decide +kernel)) rfl⟩⟩
theorem fw_R_115 : FW R_R 115 0 1 := ⟨_, rfl, Or.inr ⟨"LayeredCards", nst_in (List.mem_of_getElem? (i := 136) (by decide +kernel)) rfl⟩⟩
theorem fw_R_125 : FW R_R 125 0 4 := ⟨_, rfl, Or.inr ⟨"LayeredCards", nst_in (List.mem_of_getElem? (i := 151) (by decide +kernel)) rfl⟩⟩
theorem fw_R_132 : FW R_R 132 2 8 := ⟨_, rfl, Or.inr ⟨"LayeredCards", nst_in (List.mem_of_getElem? (i := 196) (by decide +kernel)) rfl⟩⟩
theorem fw_R_135 : FW R_R 135 2 5 := ⟨_, rfl, Or.inr ⟨"LayeredCards", nst_in (List.mem_of_getElem? (i := 187) (by decide +kernel)) rfl⟩⟩
theorem fw_R_141 : FW R_R 141 3 1 := ⟨_, rfl, Or.inr ⟨"LayeredCards", nst_in (List.mem_of_getElem? (i := 283) (by decide +kernel)) rfl⟩⟩
theorem fw_R_156 : FW R_R 156 1 1 := ⟨_, rfl, Or.inr ⟨"LayeredCards", nst_in (List.mem_of_getElem? (i := 315) (by decide +kernel)) rfl⟩⟩
theorem fw_R_159 : FW R_R 159 1 2 := ⟨_, rfl, Or.inr ⟨"LayeredCards", nst_in (List.mem_of_getElem? (i := 317) (by decide +kernel)) rfl⟩⟩
theorem fw_R_162 : FW R_R 162 1 3 := ⟨_, rfl, Or.inr ⟨"LayeredCards", nst_in (List.mem_of_getElem? (i := 319) (by decide +kernel)) rfl⟩⟩
theorem fw_R_174 : FW R_R 174 0 2 := ⟨_, rfl, Or.inr ⟨"LayeredCards", nst_in (List.mem_of_getElem? (i := 144) (by decide +kernel)) rfl⟩⟩
theorem fw_R_177 : FW R_R 177 0 3 := ⟨_, rfl, Or.inr ⟨"LayeredCards", nst_in (List.mem_of_getElem? (i := 149) (by decide +kernel)) rfl⟩⟩
theorem fw_R_194 : FW R_R 194 2 11 := ⟨_, rfl, Or.inr ⟨"LayeredCards", nst_in (List.mem_of_getElem? (i := 205) (by decide +kernel)) rfl⟩⟩
theorem fw_R_203 : FW R_R 203 2 12 := ⟨_, rfl, Or.inr ⟨"LayeredCards", nst_in (List.mem_of_getElem? (i := 208) (by decide +kernel)) rfl⟩⟩
theorem fw_T_9 : FW R_T 9 7 0 := ⟨_, rfl, Or.inl (tbl_in (List.mem_of_getElem? (i := 402) (by decide +kernel)) rfl)⟩
theorem fw_T_15 : FW R_T 15 7 3 := ⟨_, rfl, Or.inl (tbl_in (List.mem_of_getElem? (i := 406) (by decide +kernel)) rfl)⟩
theorem fw_T_18 : FW R_T 18 7 4 := ⟨_, rfl, Or.inl (tbl_in (List.mem_of_getElem? (i := 408) (by decide +kernel)) rfl)⟩
theorem fw_T_21 : FW R_T 21 7 5 := ⟨_, rfl, Or.inl (tbl_in (List.mem_of_getElem? (i := 410) (by decide +kernel)) rfl)⟩
theorem fw_T_24 : FW R_T 24 7 6 := ⟨_, rfl, Or.inl (tbl_in (List.mem_of_getElem? (i := 412) (by decide +kernel)) rfl)⟩
theorem fw_T_27 : FW R_T 27 7 1 := ⟨_, rfl, Or.inl (tbl_in (List.mem_of_getElem? (i := 403) (by decide +kernel)) rfl)⟩
theorem fw_T_35 : FW R_T 35 7 2 := ⟨_, rfl, Or.inl (tbl_in (List.mem_of_getElem? (i := 405) (by decide +kernel)) rfl)⟩
theorem fw_T_38 : FW R_T 38 7 7 := ⟨_, rfl, Or.inl (tbl_in (List.mem_of_getElem? (i := 414) (by decide +kernel)) rfl)⟩
theorem fw_M_9 : FW R_M 9 9 0 := ⟨_, rfl, Or.inl (tbl_in (List.mem_of_getElem? (i := 988) (by decide +kernel)) rfl)⟩
theorem fw_M_13 : FW R_M 13 9 1 := ⟨_, rfl, Or.inl (tbl_in (List.mem_of_getElem? (i := 989) (by decide +kernel)) rfl)⟩
theorem fw_M_16 : FW R_M 16 9 2 := ⟨_, rfl, Or.inl (tbl_in (List.mem_of_getElem? (i := 990) (by decide +kernel)) rfl)⟩
theorem fw_M_19 : FW R_M 19 9 3 := ⟨_, rfl, Or.inl (tbl_in (List.mem_of_getElem? (i := 991) (by decide +kernel)) rfl)⟩
theorem fw_M_22 : FW R_M 22 9 4 := ⟨_, rfl, Or.inl (tbl_in (List.mem_of_getElem? (i := 992) (by decide +kernel)) rfl)⟩
theorem fw_M_25 : FW R_M 25 9 6 := ⟨_, rfl, Or.inl (tbl_in (List.mem_of_getElem? (i := 994) (by decide +kernel)) rfl)⟩
theorem fw_M_30 : FW R_M 30 9 7 := ⟨_, rfl, Or.inl (tbl_in (List.mem_of_getElem? (i := 995) (by decide +kernel)) rfl)⟩
theorem fw_M_33 : FW R_M 33 9 8 := ⟨_, rfl, Or.inl (tbl_in (List.mem_of_getElem? (i := 996) (by decide +kernel)) rfl)⟩
theorem fw_M_36 : FW R_M 36 9 9 := ⟨_, rfl, Or.inl (tbl_in (List.mem_of_getElem? (i := 997) (by decide +kernel)) rfl)⟩
theorem fw_M_40 : FW R_M 40 9 10 := ⟨_, rfl, Or.inl (tbl_in (List.mem_of_getElem? (i := 998) (by decide +kernel)) rfl)⟩
theorem fw_M_43 : FW R_M 43 9 11 := ⟨_, rfl, Or.inl (tbl_in (List.mem_of_getElem? (i := 999) (by decide +kernel)) rfl)⟩
theorem fw_M_46 : FW R_M 46 9 12 := ⟨_, rfl, Or.inl (tbl_in (List.mem_of_getElem? (i := 1000) (by decide +kernel)) rfl)⟩
theorem fw_M_49 : FW R_M 49 9 14 := ⟨_, rfl, Or.inl (tbl_in (List.mem_of_getElem? (i := 1002) (by decide +kernel)) rfl)⟩
theorem fw_M_52 : FW R_M 52 9 19 := ⟨_, rfl, Or.inl (tbl_in (List.mem_of_getElem? (i := 1007) (by decide +kernel)) rfl)⟩
theorem fw_M_55 : FW R_M 55 9 21 := ⟨_, rfl, Or.inl (tbl_in (List.mem_of_getElem? (i := 1009) (by decide +kernel)) rfl)⟩
theorem fw_M_58 : FW R_M 58 9 26 := ⟨_, rfl, Or.inl (tbl_in (List.mem_of_getElem? (i := 1014) (by decide +kernel)) rfl)⟩
theorem fw_M_61 : FW R_M 61 9 27 := ⟨_, rfl, Or.inl (tbl_in (List.mem_of_getElem? (i := 1015) (by decide +kernel)) rfl)⟩
theorem fw_M_64 : FW R_M 64 9 28 := ⟨_, rfl, Or.inl (tbl_in (List.mem_of_getElem? (i := 1016) (by decide +kernel)) rfl)⟩
theorem fw_M_67 : FW R_M 67 9 30 := ⟨_, rfl, Or.inl (tbl_in (List.mem_of_getElem? (i := 1018) (by decide +kernel)) rfl)⟩
theorem fw_M_70 : FW R_M 70 9 5 := ⟨_, rfl, Or.inl (tbl_in (List.mem_of_getElem? (i := 993) (by decide +kernel)) rfl)⟩
theorem fw_M_81 : FW R_M 81 9 20 := ⟨_, rfl, Or.inl (tbl_in (List.mem_of_getElem? (i := 1008) (by decide +kernel)) rfl)⟩
theorem fw_M_113 : FW R_M 113 9 33 := ⟨_, rfl, Or.inl (tbl_in (List.mem_of_getElem? (i := 1021) (by decide +kernel)) rfl)⟩
theorem fw_M_116 : FW R_M 116 9 34 := ⟨_, rfl, Or.inl (tbl_in (List.mem_of_getElem? (i := 1022) (by decide +kernel)) rfl)⟩
theorem fw_M_171 : FW R_M 171 9 13 := ⟨_, rfl, Or.inl (tbl_in (List.mem_of_getElem? (i := 1001) (by decide +kernel)) rfl)⟩
theorem fw_M_202 : FW R_M 202 9 16 := ⟨_, rfl, Or.inl (tbl_in (List.mem_of_getElem? (i := 1004) (by decide +kernel)) rfl)⟩
theorem fw_M_205 : FW R_M 205 9 17 := ⟨_, rfl, Or.inl (tbl_in (List.mem_of_getElem? (i := 1005) (by decide +kernel)) rfl)⟩
theorem fw_M_208 : FW R_M 208 9 15 := ⟨_, rfl, Or.inl (tbl_in (List.mem_of_getElem? (i := 1003) (by decide +kernel)) rfl)⟩
theorem fw_M_217 : FW R_M 217 9 18 := ⟨_, rfl, Or.inl (tbl_in (List.mem_of_getElem? (i := 1006) (by decide +kernel)) rfl)⟩
theorem fw_M_234 : FW R_M 234 9 32 := ⟨_, rfl, Or.inl (tbl_in (List.mem_of_getElem? (i := 1020) (by decide +kernel)) rfl)⟩
theorem fw_M_238 : FW R_M 238 9 31 := ⟨_, rfl, Or.inl (tbl_in (List.mem_of_getElem? (i := 1019) (by decide +kernel)) rfl)⟩
theorem fw_M_257 : FW R_M 257 9 29 := ⟨_, rfl, Or.inl (tbl_in (List.mem_of_getElem? (i := 1017) (by decide +kernel)) rfl)⟩
theorem fw_M_269 : FW R_M 269 9 23 := ⟨_, rfl, Or.inl (tbl_in (List.mem_of_getElem? (i := 1011) (by decide +kernel)) rfl)⟩
theorem fw_M_272 : FW R_M 272 9 24 := ⟨_, rfl, Or.inl (tbl_in (List.mem_of_getElem? (i := 1012) (by decide +kernel)) rfl)⟩
theorem fw_M_279 : FW R_M 279 9 22 := ⟨_, rfl, Or.inl (tbl_in (List.mem_of_getElem? (i := 1010) (by decide +kernel)) rfl)⟩
theorem fw_M_291 : FW R_M 291 9 25 := ⟨_, rfl, Or.inl (tbl_in (List.mem_of_getElem? (i := 1013) (by decide +kernel)) rfl)⟩
theorem mx_K_write : MX y_K_write b_K_write 6 none 5 false := ⟨tbl_in (List.mem_of_getElem? (i := 499) (by decide +kernel)) rfl, tbl_in (List.mem_of_getElem? (i := 101) (by decide +kernel)) rfl, by decide +kernel, ⟨by decide +kernel, by decide +kernel, by decide +kernel⟩, ⟨tbl_in (List.mem_of_getElem? (i := 498) (by decide +kernel)) rfl, tbl_in (List.mem_of_getElem? (i := 1) (by decide +kernel)) rfl⟩⟩
theorem mx_E_become : MX y_E_become b_E_become 4 none 3 false := ⟨tbl_in (List.mem_of_getElem? (i := 713) (by decide +kernel)) rfl, tbl_in (List.mem_of_getElem? (i := 106) (by decide +kernel)) rfl, by decide +kernel, ⟨by decide +kernel, by decide +kernel, by decide +kernel⟩, ⟨tbl_in (List.mem_of_getElem? (i := 712) (by decide +kernel)) rfl, tbl_in (List.mem_of_getElem? (i := 21) (by decide +kernel)) rfl⟩⟩
theorem mx_E_becomeTold : MX y_E_becomeTold b_E_becomeTold 2 none 1 false := ⟨tbl_in (List.mem_of_getElem? (i := 709) (by decide +kernel)) rfl, tbl_in (List.mem_of_getElem? (i := 106) (by decide +kernel)) rfl, by decide +kernel, ⟨by decide +kernel, by decide +kernel, by decide +kernel⟩, ⟨tbl_in (List.mem_of_getElem? (i := 708) (by decide +kernel)) rfl, tbl_in (List.mem_of_getElem? (i := 20) (by decide +kernel)) rfl⟩⟩
theorem mx_E_told : MX y_E_told b_E_told 1 (some .int) 0 false := ⟨tbl_in (List.mem_of_getElem? (i := 736) (by decide +kernel)) rfl, tbl_in (List.mem_of_getElem? (i := 106) (by decide +kernel)) rfl, by decide +kernel, ⟨by decide +kernel, by decide +kernel, by decide +kernel⟩, ⟨tbl_in (List.mem_of_getElem? (i := 735) (by decide +kernel)) rfl, tbl_in (List.mem_of_getElem? (i := 25) (by decide +kernel)) rfl⟩⟩
theorem mx_E_replaceBy : MX y_E_replaceBy b_E_replaceBy 5 none 1 false := ⟨tbl_in (List.mem_of_getElem? (i := 718) (by decide +kernel)) rfl, tbl_in (List.mem_of_getElem? (i := 106) (by decide +kernel)) rfl, by decide +kernel, ⟨by decide +kernel, by decide +kernel, by decide +kernel⟩, ⟨tbl_in (List.mem_of_getElem? (i := 717) (by decide +kernel)) rfl, tbl_in (List.mem_of_getElem? (i := 22) (by decide +kernel)) rfl⟩⟩
theorem mx_E_fits : MX y_E_fits b_E_fits 3 (some .boolean) 1 false := ⟨tbl_in (List.mem_of_getElem? (i := 723) (by decide +kernel)) rfl, tbl_in (List.mem_of_getElem? (i := 106) (by decide +kernel)) rfl, by decide +kernel, ⟨by decide +kernel, by decide +kernel, by decide +kernel⟩, ⟨tbl_in (List.mem_of_getElem? (i := 722) (by decide +kernel)) rfl, tbl_in (List.mem_of_getElem? (i := 23) (by decide +kernel)) rfl⟩⟩
theorem mx_E_use : MX y_E_use b_E_use 3 none 1 false := ⟨tbl_in (List.mem_of_getElem? (i := 728) (by decide +kernel)) rfl, tbl_in (List.mem_of_getElem? (i := 106) (by decide +kernel)) rfl, by decide +kernel, ⟨by decide +kernel, by decide +kernel, by decide +kernel⟩, ⟨tbl_in (List.mem_of_getElem? (i := 727) (by decide +kernel)) rfl, tbl_in (List.mem_of_getElem? (i := 24) (by decide +kernel)) rfl⟩⟩
theorem mx_G_copyFrom : MX y_G_copyFrom b_G_copyFrom 2 none 1 false := ⟨tbl_in (List.mem_of_getElem? (i := 900) (by decide +kernel)) rfl, tbl_in (List.mem_of_getElem? (i := 102) (by decide +kernel)) rfl, by decide +kernel, ⟨by decide +kernel, by decide +kernel, by decide +kernel⟩, ⟨tbl_in (List.mem_of_getElem? (i := 899) (by decide +kernel)) rfl, tbl_in (List.mem_of_getElem? (i := 51) (by decide +kernel)) rfl⟩⟩
theorem mx_G_has : MX y_G_has b_G_has 2 (some .boolean) 1 false := ⟨tbl_in (List.mem_of_getElem? (i := 609) (by decide +kernel)) rfl, tbl_in (List.mem_of_getElem? (i := 102) (by decide +kernel)) rfl, by decide +kernel, ⟨by decide +kernel, by decide +kernel, by decide +kernel⟩, ⟨tbl_in (List.mem_of_getElem? (i := 608) (by decide +kernel)) rfl, tbl_in (List.mem_of_getElem? (i := 10) (by decide +kernel)) rfl⟩⟩
theorem mx_G_addCard : MX y_G_addCard b_G_addCard 6 (some .int) 4 false := ⟨tbl_in (List.mem_of_getElem? (i := 495) (by decide +kernel)) rfl, tbl_in (List.mem_of_getElem? (i := 102) (by decide +kernel)) rfl, by decide +kernel, ⟨by decide +kernel, by decide +kernel, by decide +kernel⟩, ⟨tbl_in (List.mem_of_getElem? (i := 494) (by decide +kernel)) rfl, tbl_in (List.mem_of_getElem? (i := 0) (by decide +kernel)) rfl⟩⟩
theorem mx_G_moveTo : MX y_G_moveTo b_G_moveTo 3 none 2 false := ⟨tbl_in (List.mem_of_getElem? (i := 617) (by decide +kernel)) rfl, tbl_in (List.mem_of_getElem? (i := 102) (by decide +kernel)) rfl, by decide +kernel, ⟨by decide +kernel, by decide +kernel, by decide +kernel⟩, ⟨tbl_in (List.mem_of_getElem? (i := 616) (by decide +kernel)) rfl, tbl_in (List.mem_of_getElem? (i := 11) (by decide +kernel)) rfl⟩⟩
theorem mx_G_playCard : MX y_G_playCard b_G_playCard 2 none 1 false := ⟨tbl_in (List.mem_of_getElem? (i := 747) (by decide +kernel)) rfl, tbl_in (List.mem_of_getElem? (i := 102) (by decide +kernel)) rfl, by decide +kernel, ⟨by decide +kernel, by decide +kernel, by decide +kernel⟩, ⟨tbl_in (List.mem_of_getElem? (i := 746) (by decide +kernel)) rfl, tbl_in (List.mem_of_getElem? (i := 26) (by decide +kernel)) rfl⟩⟩
theorem mx_G_layDown : MX y_G_layDown b_G_layDown 2 none 1 false := ⟨tbl_in (List.mem_of_getElem? (i := 823) (by decide +kernel)) rfl, tbl_in (List.mem_of_getElem? (i := 102) (by decide +kernel)) rfl, by decide +kernel, ⟨by decide +kernel, by decide +kernel, by decide +kernel⟩, ⟨tbl_in (List.mem_of_getElem? (i := 822) (by decide +kernel)) rfl, tbl_in (List.mem_of_getElem? (i := 38) (by decide +kernel)) rfl⟩⟩
theorem mx_G_takeOff : MX y_G_takeOff b_G_takeOff 5 none 1 false := ⟨tbl_in (List.mem_of_getElem? (i := 836) (by decide +kernel)) rfl, tbl_in (List.mem_of_getElem? (i := 102) (by decide +kernel)) rfl, by decide +kernel, ⟨by decide +kernel, by decide +kernel, by decide +kernel⟩, ⟨tbl_in (List.mem_of_getElem? (i := 835) (by decide +kernel)) rfl, tbl_in (List.mem_of_getElem? (i := 41) (by decide +kernel)) rfl⟩⟩
theorem mx_G_push : MX y_G_push b_G_push 2 (some .boolean) 1 false := ⟨tbl_in (List.mem_of_getElem? (i := 751) (by decide +kernel)) rfl, tbl_in (List.mem_of_getElem? (i := 102) (by decide +kernel)) rfl, by decide +kernel, ⟨by decide +kernel, by decide +kernel, by decide +kernel⟩, ⟨tbl_in (List.mem_of_getElem? (i := 750) (by decide +kernel)) rfl, tbl_in (List.mem_of_getElem? (i := 27) (by decide +kernel)) rfl⟩⟩
theorem mx_G_pop : MX y_G_pop b_G_pop 1 (some .int) 0 false := ⟨tbl_in (List.mem_of_getElem? (i := 772) (by decide +kernel)) rfl, tbl_in (List.mem_of_getElem? (i := 102) (by decide +kernel)) rfl, by decide +kernel, ⟨by decide +kernel, by decide +kernel, by decide +kernel⟩, ⟨tbl_in (List.mem_of_getElem? (i := 771) (by decide +kernel)) rfl, tbl_in (List.mem_of_getElem? (i := 30) (by decide +kernel)) rfl⟩⟩
theorem mx_G_countIn : MX y_G_countIn b_G_countIn 5 (some .int) 2 false := ⟨tbl_in (List.mem_of_getElem? (i := 635) (by decide +kernel)) rfl, tbl_in (List.mem_of_getElem? (i := 102) (by decide +kernel)) rfl, by decide +kernel, ⟨by decide +kernel, by decide +kernel, by decide +kernel⟩, ⟨tbl_in (List.mem_of_getElem? (i := 634) (by decide +kernel)) rfl, tbl_in (List.mem_of_getElem? (i := 12) (by decide +kernel)) rfl⟩⟩
theorem mx_G_nthIn : MX y_G_nthIn b_G_nthIn 6 (some .int) 3 false := ⟨tbl_in (List.mem_of_getElem? (i := 810) (by decide +kernel)) rfl, tbl_in (List.mem_of_getElem? (i := 102) (by decide +kernel)) rfl, by decide +kernel, ⟨by decide +kernel, by decide +kernel, by decide +kernel⟩, ⟨tbl_in (List.mem_of_getElem? (i := 809) (by decide +kernel)) rfl, tbl_in (List.mem_of_getElem? (i := 36) (by decide +kernel)) rfl⟩⟩
theorem mx_G_drawOne : MX y_G_drawOne b_G_drawOne 3 none 1 false := ⟨tbl_in (List.mem_of_getElem? (i := 797) (by decide +kernel)) rfl, tbl_in (List.mem_of_getElem? (i := 102) (by decide +kernel)) rfl, by decide +kernel, ⟨by decide +kernel, by decide +kernel, by decide +kernel⟩, ⟨tbl_in (List.mem_of_getElem? (i := 796) (by decide +kernel)) rfl, tbl_in (List.mem_of_getElem? (i := 35) (by decide +kernel)) rfl⟩⟩
theorem mx_G_changeLife : MX y_G_changeLife b_G_changeLife 3 none 2 false := ⟨tbl_in (List.mem_of_getElem? (i := 792) (by decide +kernel)) rfl, tbl_in (List.mem_of_getElem? (i := 102) (by decide +kernel)) rfl, by decide +kernel, ⟨by decide +kernel, by decide +kernel, by decide +kernel⟩, ⟨tbl_in (List.mem_of_getElem? (i := 791) (by decide +kernel)) rfl, tbl_in (List.mem_of_getElem? (i := 34) (by decide +kernel)) rfl⟩⟩
theorem mx_G_worthTo : MX y_G_worthTo b_G_worthTo 2 (some .int) 1 false := ⟨tbl_in (List.mem_of_getElem? (i := 913) (by decide +kernel)) rfl, tbl_in (List.mem_of_getElem? (i := 102) (by decide +kernel)) rfl, by decide +kernel, ⟨by decide +kernel, by decide +kernel, by decide +kernel⟩, ⟨tbl_in (List.mem_of_getElem? (i := 912) (by decide +kernel)) rfl, tbl_in (List.mem_of_getElem? (i := 53) (by decide +kernel)) rfl⟩⟩
theorem mx_G_lostBits : MX y_G_lostBits b_G_lostBits 1 (some .int) 0 false := ⟨tbl_in (List.mem_of_getElem? (i := 858) (by decide +kernel)) rfl, tbl_in (List.mem_of_getElem? (i := 102) (by decide +kernel)) rfl, by decide +kernel, ⟨by decide +kernel, by decide +kernel, by decide +kernel⟩, ⟨tbl_in (List.mem_of_getElem? (i := 857) (by decide +kernel)) rfl, tbl_in (List.mem_of_getElem? (i := 45) (by decide +kernel)) rfl⟩⟩
theorem mx_G_isQuiet : MX y_G_isQuiet b_G_isQuiet 1 (some .boolean) 0 false := ⟨tbl_in (List.mem_of_getElem? (i := 885) (by decide +kernel)) rfl, tbl_in (List.mem_of_getElem? (i := 102) (by decide +kernel)) rfl, by decide +kernel, ⟨by decide +kernel, by decide +kernel, by decide +kernel⟩, ⟨tbl_in (List.mem_of_getElem? (i := 884) (by decide +kernel)) rfl, tbl_in (List.mem_of_getElem? (i := 49) (by decide +kernel)) rfl⟩⟩
theorem mx_Y_workOut : MX y_Y_workOut b_Y_workOut 4 none 1 false := ⟨tbl_in (List.mem_of_getElem? (i := 644) (by decide +kernel)) rfl, tbl_in (List.mem_of_getElem? (i := 105) (by decide +kernel)) rfl, by decide +kernel, ⟨by decide +kernel, by decide +kernel, by decide +kernel⟩, ⟨tbl_in (List.mem_of_getElem? (i := 643) (by decide +kernel)) rfl, tbl_in (List.mem_of_getElem? (i := 13) (by decide +kernel)) rfl⟩⟩
theorem mx_Y_gather : MX y_Y_gather b_Y_gather 4 none 1 false := ⟨tbl_in (List.mem_of_getElem? (i := 657) (by decide +kernel)) rfl, tbl_in (List.mem_of_getElem? (i := 105) (by decide +kernel)) rfl, by decide +kernel, ⟨by decide +kernel, by decide +kernel, by decide +kernel⟩, ⟨tbl_in (List.mem_of_getElem? (i := 656) (by decide +kernel)) rfl, tbl_in (List.mem_of_getElem? (i := 14) (by decide +kernel)) rfl⟩⟩
theorem mx_Y_countOn : MX y_Y_countOn b_Y_countOn 4 none 2 false := ⟨tbl_in (List.mem_of_getElem? (i := 666) (by decide +kernel)) rfl, tbl_in (List.mem_of_getElem? (i := 105) (by decide +kernel)) rfl, by decide +kernel, ⟨by decide +kernel, by decide +kernel, by decide +kernel⟩, ⟨tbl_in (List.mem_of_getElem? (i := 665) (by decide +kernel)) rfl, tbl_in (List.mem_of_getElem? (i := 15) (by decide +kernel)) rfl⟩⟩
theorem mx_Y_takeNext : MX y_Y_takeNext b_Y_takeNext 4 (some .int) 0 false := ⟨tbl_in (List.mem_of_getElem? (i := 670) (by decide +kernel)) rfl, tbl_in (List.mem_of_getElem? (i := 105) (by decide +kernel)) rfl, by decide +kernel, ⟨by decide +kernel, by decide +kernel, by decide +kernel⟩, ⟨tbl_in (List.mem_of_getElem? (i := 669) (by decide +kernel)) rfl, tbl_in (List.mem_of_getElem? (i := 16) (by decide +kernel)) rfl⟩⟩
theorem mx_Y_waits : MX y_Y_waits b_Y_waits 4 (some .boolean) 1 false := ⟨tbl_in (List.mem_of_getElem? (i := 674) (by decide +kernel)) rfl, tbl_in (List.mem_of_getElem? (i := 105) (by decide +kernel)) rfl, by decide +kernel, ⟨by decide +kernel, by decide +kernel, by decide +kernel⟩, ⟨tbl_in (List.mem_of_getElem? (i := 673) (by decide +kernel)) rfl, tbl_in (List.mem_of_getElem? (i := 17) (by decide +kernel)) rfl⟩⟩
theorem mx_Y_use : MX y_Y_use b_Y_use 5 none 1 false := ⟨tbl_in (List.mem_of_getElem? (i := 681) (by decide +kernel)) rfl, tbl_in (List.mem_of_getElem? (i := 105) (by decide +kernel)) rfl, by decide +kernel, ⟨by decide +kernel, by decide +kernel, by decide +kernel⟩, ⟨tbl_in (List.mem_of_getElem? (i := 680) (by decide +kernel)) rfl, tbl_in (List.mem_of_getElem? (i := 18) (by decide +kernel)) rfl⟩⟩
theorem mx_O_empty : MX y_O_empty b_O_empty 1 none 0 false := ⟨tbl_in (List.mem_of_getElem? (i := 764) (by decide +kernel)) rfl, tbl_in (List.mem_of_getElem? (i := 107) (by decide +kernel)) rfl, by decide +kernel, ⟨by decide +kernel, by decide +kernel, by decide +kernel⟩, ⟨tbl_in (List.mem_of_getElem? (i := 763) (by decide +kernel)) rfl, tbl_in (List.mem_of_getElem? (i := 28) (by decide +kernel)) rfl⟩⟩
theorem mx_O_addThing : MX y_O_addThing b_O_addThing 2 none 1 false := ⟨tbl_in (List.mem_of_getElem? (i := 776) (by decide +kernel)) rfl, tbl_in (List.mem_of_getElem? (i := 107) (by decide +kernel)) rfl, by decide +kernel, ⟨by decide +kernel, by decide +kernel, by decide +kernel⟩, ⟨tbl_in (List.mem_of_getElem? (i := 775) (by decide +kernel)) rfl, tbl_in (List.mem_of_getElem? (i := 31) (by decide +kernel)) rfl⟩⟩
theorem mx_O_addEvent : MX y_O_addEvent b_O_addEvent 2 none 1 false := ⟨tbl_in (List.mem_of_getElem? (i := 788) (by decide +kernel)) rfl, tbl_in (List.mem_of_getElem? (i := 107) (by decide +kernel)) rfl, by decide +kernel, ⟨by decide +kernel, by decide +kernel, by decide +kernel⟩, ⟨tbl_in (List.mem_of_getElem? (i := 787) (by decide +kernel)) rfl, tbl_in (List.mem_of_getElem? (i := 33) (by decide +kernel)) rfl⟩⟩
theorem mx_P_keep : MX y_P_keep b_P_keep 7 none 2 false := ⟨tbl_in (List.mem_of_getElem? (i := 862) (by decide +kernel)) rfl, tbl_in (List.mem_of_getElem? (i := 104) (by decide +kernel)) rfl, by decide +kernel, ⟨by decide +kernel, by decide +kernel, by decide +kernel⟩, ⟨tbl_in (List.mem_of_getElem? (i := 861) (by decide +kernel)) rfl, tbl_in (List.mem_of_getElem? (i := 46) (by decide +kernel)) rfl⟩⟩
theorem mx_P_sameAs : MX y_P_sameAs b_P_sameAs 3 (some .int) 1 false := ⟨tbl_in (List.mem_of_getElem? (i := 868) (by decide +kernel)) rfl, tbl_in (List.mem_of_getElem? (i := 104) (by decide +kernel)) rfl, by decide +kernel, ⟨by decide +kernel, by decide +kernel, by decide +kernel⟩, ⟨tbl_in (List.mem_of_getElem? (i := 867) (by decide +kernel)) rfl, tbl_in (List.mem_of_getElem? (i := 47) (by decide +kernel)) rfl⟩⟩
theorem mx_P_samePiles : MX y_P_samePiles b_P_samePiles 7 (some .boolean) 2 false := ⟨tbl_in (List.mem_of_getElem? (i := 872) (by decide +kernel)) rfl, tbl_in (List.mem_of_getElem? (i := 104) (by decide +kernel)) rfl, by decide +kernel, ⟨by decide +kernel, by decide +kernel, by decide +kernel⟩, ⟨tbl_in (List.mem_of_getElem? (i := 871) (by decide +kernel)) rfl, tbl_in (List.mem_of_getElem? (i := 48) (by decide +kernel)) rfl⟩⟩
theorem mx_R_runPile : MX y_R_runPile b_R_runPile 4 none 2 false := ⟨tbl_in (List.mem_of_getElem? (i := 850) (by decide +kernel)) rfl, tbl_in (List.mem_of_getElem? (i := 103) (by decide +kernel)) rfl, by decide +kernel, ⟨by decide +kernel, by decide +kernel, by decide +kernel⟩, ⟨tbl_in (List.mem_of_getElem? (i := 849) (by decide +kernel)) rfl, tbl_in (List.mem_of_getElem? (i := 43) (by decide +kernel)) rfl⟩⟩
theorem mx_R_hasEnded : MX y_R_hasEnded b_R_hasEnded 2 (some .boolean) 1 false := ⟨tbl_in (List.mem_of_getElem? (i := 854) (by decide +kernel)) rfl, tbl_in (List.mem_of_getElem? (i := 103) (by decide +kernel)) rfl, by decide +kernel, ⟨by decide +kernel, by decide +kernel, by decide +kernel⟩, ⟨tbl_in (List.mem_of_getElem? (i := 853) (by decide +kernel)) rfl, tbl_in (List.mem_of_getElem? (i := 44) (by decide +kernel)) rfl⟩⟩
theorem mx_R_resolveTop : MX y_R_resolveTop b_R_resolveTop 5 none 2 false := ⟨tbl_in (List.mem_of_getElem? (i := 768) (by decide +kernel)) rfl, tbl_in (List.mem_of_getElem? (i := 103) (by decide +kernel)) rfl, by decide +kernel, ⟨by decide +kernel, by decide +kernel, by decide +kernel⟩, ⟨tbl_in (List.mem_of_getElem? (i := 767) (by decide +kernel)) rfl, tbl_in (List.mem_of_getElem? (i := 29) (by decide +kernel)) rfl⟩⟩
theorem mx_R_stopTop : MX y_R_stopTop b_R_stopTop 3 none 1 false := ⟨tbl_in (List.mem_of_getElem? (i := 828) (by decide +kernel)) rfl, tbl_in (List.mem_of_getElem? (i := 103) (by decide +kernel)) rfl, by decide +kernel, ⟨by decide +kernel, by decide +kernel, by decide +kernel⟩, ⟨tbl_in (List.mem_of_getElem? (i := 827) (by decide +kernel)) rfl, tbl_in (List.mem_of_getElem? (i := 39) (by decide +kernel)) rfl⟩⟩
theorem mx_R_clearYoungest : MX y_R_clearYoungest b_R_clearYoungest 5 none 2 false := ⟨tbl_in (List.mem_of_getElem? (i := 832) (by decide +kernel)) rfl, tbl_in (List.mem_of_getElem? (i := 103) (by decide +kernel)) rfl, by decide +kernel, ⟨by decide +kernel, by decide +kernel, by decide +kernel⟩, ⟨tbl_in (List.mem_of_getElem? (i := 831) (by decide +kernel)) rfl, tbl_in (List.mem_of_getElem? (i := 40) (by decide +kernel)) rfl⟩⟩
theorem mx_R_begin : MX y_R_begin b_R_begin 4 none 3 false := ⟨tbl_in (List.mem_of_getElem? (i := 841) (by decide +kernel)) rfl, tbl_in (List.mem_of_getElem? (i := 103) (by decide +kernel)) rfl, by decide +kernel, ⟨by decide +kernel, by decide +kernel, by decide +kernel⟩, ⟨tbl_in (List.mem_of_getElem? (i := 840) (by decide +kernel)) rfl, tbl_in (List.mem_of_getElem? (i := 42) (by decide +kernel)) rfl⟩⟩
theorem mx_R_happen : MX y_R_happen b_R_happen 4 none 2 false := ⟨tbl_in (List.mem_of_getElem? (i := 782) (by decide +kernel)) rfl, tbl_in (List.mem_of_getElem? (i := 103) (by decide +kernel)) rfl, by decide +kernel, ⟨by decide +kernel, by decide +kernel, by decide +kernel⟩, ⟨tbl_in (List.mem_of_getElem? (i := 781) (by decide +kernel)) rfl, tbl_in (List.mem_of_getElem? (i := 32) (by decide +kernel)) rfl⟩⟩
theorem mx_R_castShadows : MX y_R_castShadows b_R_castShadows 7 none 1 false := ⟨tbl_in (List.mem_of_getElem? (i := 814) (by decide +kernel)) rfl, tbl_in (List.mem_of_getElem? (i := 103) (by decide +kernel)) rfl, by decide +kernel, ⟨by decide +kernel, by decide +kernel, by decide +kernel⟩, ⟨tbl_in (List.mem_of_getElem? (i := 813) (by decide +kernel)) rfl, tbl_in (List.mem_of_getElem? (i := 37) (by decide +kernel)) rfl⟩⟩
theorem mx_R_takeTurn : MX y_R_takeTurn b_R_takeTurn 6 none 2 false := ⟨tbl_in (List.mem_of_getElem? (i := 890) (by decide +kernel)) rfl, tbl_in (List.mem_of_getElem? (i := 103) (by decide +kernel)) rfl, by decide +kernel, ⟨by decide +kernel, by decide +kernel, by decide +kernel⟩, ⟨tbl_in (List.mem_of_getElem? (i := 889) (by decide +kernel)) rfl, tbl_in (List.mem_of_getElem? (i := 50) (by decide +kernel)) rfl⟩⟩
theorem mx_T_append : MX y_T_append b_T_append 2 (some .boolean) 1 false := ⟨tbl_in (List.mem_of_getElem? (i := 511) (by decide +kernel)) rfl, tbl_in (List.mem_of_getElem? (i := 108) (by decide +kernel)) rfl, by decide +kernel, ⟨by decide +kernel, by decide +kernel, by decide +kernel⟩, ⟨tbl_in (List.mem_of_getElem? (i := 510) (by decide +kernel)) rfl, tbl_in (List.mem_of_getElem? (i := 2) (by decide +kernel)) rfl⟩⟩
theorem mx_T_readText : MX y_T_readText b_T_readText 2 (some .int) 0 false := ⟨tbl_in (List.mem_of_getElem? (i := 524) (by decide +kernel)) rfl, tbl_in (List.mem_of_getElem? (i := 108) (by decide +kernel)) rfl, by decide +kernel, ⟨by decide +kernel, by decide +kernel, by decide +kernel⟩, ⟨tbl_in (List.mem_of_getElem? (i := 523) (by decide +kernel)) rfl, tbl_in (List.mem_of_getElem? (i := 4) (by decide +kernel)) rfl⟩⟩
theorem mx_T_readLine : MX y_T_readLine b_T_readLine 7 (some .boolean) 0 false := ⟨tbl_in (List.mem_of_getElem? (i := 528) (by decide +kernel)) rfl, tbl_in (List.mem_of_getElem? (i := 108) (by decide +kernel)) rfl, by decide +kernel, ⟨by decide +kernel, by decide +kernel, by decide +kernel⟩, ⟨tbl_in (List.mem_of_getElem? (i := 527) (by decide +kernel)) rfl, tbl_in (List.mem_of_getElem? (i := 5) (by decide +kernel)) rfl⟩⟩
theorem mx_T_readWord : MX y_T_readWord b_T_readWord 4 (some .int) 0 false := ⟨tbl_in (List.mem_of_getElem? (i := 532) (by decide +kernel)) rfl, tbl_in (List.mem_of_getElem? (i := 108) (by decide +kernel)) rfl, by decide +kernel, ⟨by decide +kernel, by decide +kernel, by decide +kernel⟩, ⟨tbl_in (List.mem_of_getElem? (i := 531) (by decide +kernel)) rfl, tbl_in (List.mem_of_getElem? (i := 6) (by decide +kernel)) rfl⟩⟩
theorem mx_T_lettersAlike : MX y_T_lettersAlike b_T_lettersAlike 4 (some .int) 1 false := ⟨tbl_in (List.mem_of_getElem? (i := 536) (by decide +kernel)) rfl, tbl_in (List.mem_of_getElem? (i := 108) (by decide +kernel)) rfl, by decide +kernel, ⟨by decide +kernel, by decide +kernel, by decide +kernel⟩, ⟨tbl_in (List.mem_of_getElem? (i := 535) (by decide +kernel)) rfl, tbl_in (List.mem_of_getElem? (i := 7) (by decide +kernel)) rfl⟩⟩
theorem mx_T_readDigit : MX y_T_readDigit b_T_readDigit 3 (some .int) 1 false := ⟨tbl_in (List.mem_of_getElem? (i := 595) (by decide +kernel)) rfl, tbl_in (List.mem_of_getElem? (i := 108) (by decide +kernel)) rfl, by decide +kernel, ⟨by decide +kernel, by decide +kernel, by decide +kernel⟩, ⟨tbl_in (List.mem_of_getElem? (i := 594) (by decide +kernel)) rfl, tbl_in (List.mem_of_getElem? (i := 8) (by decide +kernel)) rfl⟩⟩
theorem mx_T_skip : MX y_T_skip b_T_skip 2 (some .boolean) 1 false := ⟨tbl_in (List.mem_of_getElem? (i := 599) (by decide +kernel)) rfl, tbl_in (List.mem_of_getElem? (i := 108) (by decide +kernel)) rfl, by decide +kernel, ⟨by decide +kernel, by decide +kernel, by decide +kernel⟩, ⟨tbl_in (List.mem_of_getElem? (i := 598) (by decide +kernel)) rfl, tbl_in (List.mem_of_getElem? (i := 9) (by decide +kernel)) rfl⟩⟩
theorem mx_L_card : MX y_L_card b_L_card 5 (some .int) 4 false := ⟨tbl_in (List.mem_of_getElem? (i := 485) (by decide +kernel)) rfl, tbl_in (List.mem_of_getElem? (i := 100) (by decide +kernel)) rfl, by decide +kernel, ⟨by decide +kernel, by decide +kernel, by decide +kernel⟩, ⟨tbl_in (List.mem_of_getElem? (i := 483) (by decide +kernel)) rfl, tbl_in (List.mem_of_getElem? (i := 484) (by decide +kernel)) rfl⟩⟩
theorem mx_L_feed : MX y_L_feed b_L_feed 2 (some .int) 1 false := ⟨tbl_in (List.mem_of_getElem? (i := 507) (by decide +kernel)) rfl, tbl_in (List.mem_of_getElem? (i := 100) (by decide +kernel)) rfl, by decide +kernel, ⟨by decide +kernel, by decide +kernel, by decide +kernel⟩, ⟨tbl_in (List.mem_of_getElem? (i := 505) (by decide +kernel)) rfl, tbl_in (List.mem_of_getElem? (i := 506) (by decide +kernel)) rfl⟩⟩
theorem mx_L_deck : MX y_L_deck b_L_deck 2 (some .int) 0 false := ⟨tbl_in (List.mem_of_getElem? (i := 516) (by decide +kernel)) rfl, tbl_in (List.mem_of_getElem? (i := 100) (by decide +kernel)) rfl, by decide +kernel, ⟨by decide +kernel, by decide +kernel, by decide +kernel⟩, ⟨tbl_in (List.mem_of_getElem? (i := 514) (by decide +kernel)) rfl, tbl_in (List.mem_of_getElem? (i := 515) (by decide +kernel)) rfl⟩⟩
theorem mx_L_deckOnTape : MX y_L_deckOnTape b_L_deckOnTape 3 (some .int) 0 false := ⟨tbl_in (List.mem_of_getElem? (i := 520) (by decide +kernel)) rfl, tbl_in (List.mem_of_getElem? (i := 100) (by decide +kernel)) rfl, by decide +kernel, ⟨by decide +kernel, by decide +kernel, by decide +kernel⟩, ⟨tbl_in (List.mem_of_getElem? (i := 519) (by decide +kernel)) rfl, tbl_in (List.mem_of_getElem? (i := 3) (by decide +kernel)) rfl⟩⟩
theorem mx_L_of : MX y_L_of b_L_of 3 (some .int) 2 false := ⟨tbl_in (List.mem_of_getElem? (i := 605) (by decide +kernel)) rfl, tbl_in (List.mem_of_getElem? (i := 100) (by decide +kernel)) rfl, by decide +kernel, ⟨by decide +kernel, by decide +kernel, by decide +kernel⟩, ⟨tbl_in (List.mem_of_getElem? (i := 603) (by decide +kernel)) rfl, tbl_in (List.mem_of_getElem? (i := 604) (by decide +kernel)) rfl⟩⟩
theorem mx_L_deal : MX y_L_deal b_L_deal 2 (some .int) 1 false := ⟨tbl_in (List.mem_of_getElem? (i := 613) (by decide +kernel)) rfl, tbl_in (List.mem_of_getElem? (i := 100) (by decide +kernel)) rfl, by decide +kernel, ⟨by decide +kernel, by decide +kernel, by decide +kernel⟩, ⟨tbl_in (List.mem_of_getElem? (i := 611) (by decide +kernel)) rfl, tbl_in (List.mem_of_getElem? (i := 612) (by decide +kernel)) rfl⟩⟩
theorem mx_L_base : MX y_L_base b_L_base 4 (some .int) 2 false := ⟨tbl_in (List.mem_of_getElem? (i := 621) (by decide +kernel)) rfl, tbl_in (List.mem_of_getElem? (i := 100) (by decide +kernel)) rfl, by decide +kernel, ⟨by decide +kernel, by decide +kernel, by decide +kernel⟩, ⟨tbl_in (List.mem_of_getElem? (i := 619) (by decide +kernel)) rfl, tbl_in (List.mem_of_getElem? (i := 620) (by decide +kernel)) rfl⟩⟩
theorem mx_L_mend : MX y_L_mend b_L_mend 4 (some .int) 2 false := ⟨tbl_in (List.mem_of_getElem? (i := 627) (by decide +kernel)) rfl, tbl_in (List.mem_of_getElem? (i := 100) (by decide +kernel)) rfl, by decide +kernel, ⟨by decide +kernel, by decide +kernel, by decide +kernel⟩, ⟨tbl_in (List.mem_of_getElem? (i := 625) (by decide +kernel)) rfl, tbl_in (List.mem_of_getElem? (i := 626) (by decide +kernel)) rfl⟩⟩
theorem mx_L_player : MX y_L_player b_L_player 3 (some .int) 2 false := ⟨tbl_in (List.mem_of_getElem? (i := 631) (by decide +kernel)) rfl, tbl_in (List.mem_of_getElem? (i := 100) (by decide +kernel)) rfl, by decide +kernel, ⟨by decide +kernel, by decide +kernel, by decide +kernel⟩, ⟨tbl_in (List.mem_of_getElem? (i := 629) (by decide +kernel)) rfl, tbl_in (List.mem_of_getElem? (i := 630) (by decide +kernel)) rfl⟩⟩
theorem mx_L_value : MX y_L_value b_L_value 2 (some .int) 1 false := ⟨tbl_in (List.mem_of_getElem? (i := 640) (by decide +kernel)) rfl, tbl_in (List.mem_of_getElem? (i := 100) (by decide +kernel)) rfl, by decide +kernel, ⟨by decide +kernel, by decide +kernel, by decide +kernel⟩, ⟨tbl_in (List.mem_of_getElem? (i := 638) (by decide +kernel)) rfl, tbl_in (List.mem_of_getElem? (i := 639) (by decide +kernel)) rfl⟩⟩
theorem mx_L_layer : MX y_L_layer b_L_layer 2 (some .int) 1 false := ⟨tbl_in (List.mem_of_getElem? (i := 691) (by decide +kernel)) rfl, tbl_in (List.mem_of_getElem? (i := 100) (by decide +kernel)) rfl, by decide +kernel, ⟨by decide +kernel, by decide +kernel, by decide +kernel⟩, ⟨tbl_in (List.mem_of_getElem? (i := 689) (by decide +kernel)) rfl, tbl_in (List.mem_of_getElem? (i := 690) (by decide +kernel)) rfl⟩⟩
theorem mx_L_depends : MX y_L_depends b_L_depends 3 (some .int) 2 false := ⟨tbl_in (List.mem_of_getElem? (i := 695) (by decide +kernel)) rfl, tbl_in (List.mem_of_getElem? (i := 100) (by decide +kernel)) rfl, by decide +kernel, ⟨by decide +kernel, by decide +kernel, by decide +kernel⟩, ⟨tbl_in (List.mem_of_getElem? (i := 693) (by decide +kernel)) rfl, tbl_in (List.mem_of_getElem? (i := 694) (by decide +kernel)) rfl⟩⟩
theorem mx_L_isLayerOnTable : MX y_L_isLayerOnTable b_L_isLayerOnTable 2 (some .boolean) 1 false := ⟨tbl_in (List.mem_of_getElem? (i := 699) (by decide +kernel)) rfl, tbl_in (List.mem_of_getElem? (i := 100) (by decide +kernel)) rfl, by decide +kernel, ⟨by decide +kernel, by decide +kernel, by decide +kernel⟩, ⟨tbl_in (List.mem_of_getElem? (i := 698) (by decide +kernel)) rfl, tbl_in (List.mem_of_getElem? (i := 19) (by decide +kernel)) rfl⟩⟩
theorem mx_L_used : MX y_L_used b_L_used 3 (some .int) 2 false := ⟨tbl_in (List.mem_of_getElem? (i := 705) (by decide +kernel)) rfl, tbl_in (List.mem_of_getElem? (i := 100) (by decide +kernel)) rfl, by decide +kernel, ⟨by decide +kernel, by decide +kernel, by decide +kernel⟩, ⟨tbl_in (List.mem_of_getElem? (i := 703) (by decide +kernel)) rfl, tbl_in (List.mem_of_getElem? (i := 704) (by decide +kernel)) rfl⟩⟩
theorem mx_L_play : MX y_L_play b_L_play 2 (some .int) 1 false := ⟨tbl_in (List.mem_of_getElem? (i := 743) (by decide +kernel)) rfl, tbl_in (List.mem_of_getElem? (i := 100) (by decide +kernel)) rfl, by decide +kernel, ⟨by decide +kernel, by decide +kernel, by decide +kernel⟩, ⟨tbl_in (List.mem_of_getElem? (i := 741) (by decide +kernel)) rfl, tbl_in (List.mem_of_getElem? (i := 742) (by decide +kernel)) rfl⟩⟩
theorem mx_L_pile : MX y_L_pile b_L_pile 2 (some .int) 1 false := ⟨tbl_in (List.mem_of_getElem? (i := 756) (by decide +kernel)) rfl, tbl_in (List.mem_of_getElem? (i := 100) (by decide +kernel)) rfl, by decide +kernel, ⟨by decide +kernel, by decide +kernel, by decide +kernel⟩, ⟨tbl_in (List.mem_of_getElem? (i := 754) (by decide +kernel)) rfl, tbl_in (List.mem_of_getElem? (i := 755) (by decide +kernel)) rfl⟩⟩
theorem mx_L_resolve : MX y_L_resolve b_L_resolve 1 (some .int) 0 false := ⟨tbl_in (List.mem_of_getElem? (i := 760) (by decide +kernel)) rfl, tbl_in (List.mem_of_getElem? (i := 100) (by decide +kernel)) rfl, by decide +kernel, ⟨by decide +kernel, by decide +kernel, by decide +kernel⟩, ⟨tbl_in (List.mem_of_getElem? (i := 758) (by decide +kernel)) rfl, tbl_in (List.mem_of_getElem? (i := 759) (by decide +kernel)) rfl⟩⟩
theorem mx_L_run : MX y_L_run b_L_run 1 (some .int) 0 false := ⟨tbl_in (List.mem_of_getElem? (i := 846) (by decide +kernel)) rfl, tbl_in (List.mem_of_getElem? (i := 100) (by decide +kernel)) rfl, by decide +kernel, ⟨by decide +kernel, by decide +kernel, by decide +kernel⟩, ⟨tbl_in (List.mem_of_getElem? (i := 844) (by decide +kernel)) rfl, tbl_in (List.mem_of_getElem? (i := 845) (by decide +kernel)) rfl⟩⟩
theorem mx_L_ended : MX y_L_ended b_L_ended 2 (some .int) 1 false := ⟨tbl_in (List.mem_of_getElem? (i := 877) (by decide +kernel)) rfl, tbl_in (List.mem_of_getElem? (i := 100) (by decide +kernel)) rfl, by decide +kernel, ⟨by decide +kernel, by decide +kernel, by decide +kernel⟩, ⟨tbl_in (List.mem_of_getElem? (i := 875) (by decide +kernel)) rfl, tbl_in (List.mem_of_getElem? (i := 876) (by decide +kernel)) rfl⟩⟩
theorem mx_L_turn : MX y_L_turn b_L_turn 1 (some .int) 0 false := ⟨tbl_in (List.mem_of_getElem? (i := 881) (by decide +kernel)) rfl, tbl_in (List.mem_of_getElem? (i := 100) (by decide +kernel)) rfl, by decide +kernel, ⟨by decide +kernel, by decide +kernel, by decide +kernel⟩, ⟨tbl_in (List.mem_of_getElem? (i := 879) (by decide +kernel)) rfl, tbl_in (List.mem_of_getElem? (i := 880) (by decide +kernel)) rfl⟩⟩
theorem mx_L_dry : MX y_L_dry b_L_dry 2 (some .int) 1 false := ⟨tbl_in (List.mem_of_getElem? (i := 896) (by decide +kernel)) rfl, tbl_in (List.mem_of_getElem? (i := 100) (by decide +kernel)) rfl, by decide +kernel, ⟨by decide +kernel, by decide +kernel, by decide +kernel⟩, ⟨tbl_in (List.mem_of_getElem? (i := 894) (by decide +kernel)) rfl, tbl_in (List.mem_of_getElem? (i := 895) (by decide +kernel)) rfl⟩⟩
theorem mx_L_worth : MX y_L_worth b_L_worth 2 (some .int) 1 false := ⟨tbl_in (List.mem_of_getElem? (i := 905) (by decide +kernel)) rfl, tbl_in (List.mem_of_getElem? (i := 100) (by decide +kernel)) rfl, by decide +kernel, ⟨by decide +kernel, by decide +kernel, by decide +kernel⟩, ⟨tbl_in (List.mem_of_getElem? (i := 903) (by decide +kernel)) rfl, tbl_in (List.mem_of_getElem? (i := 904) (by decide +kernel)) rfl⟩⟩
theorem mx_L_worthPlayed : MX y_L_worthPlayed b_L_worthPlayed 2 (some .int) 1 false := ⟨tbl_in (List.mem_of_getElem? (i := 909) (by decide +kernel)) rfl, tbl_in (List.mem_of_getElem? (i := 100) (by decide +kernel)) rfl, by decide +kernel, ⟨by decide +kernel, by decide +kernel, by decide +kernel⟩, ⟨tbl_in (List.mem_of_getElem? (i := 908) (by decide +kernel)) rfl, tbl_in (List.mem_of_getElem? (i := 52) (by decide +kernel)) rfl⟩⟩
theorem mx_L_best : MX y_L_best b_L_best 7 (some .int) 2 false := ⟨tbl_in (List.mem_of_getElem? (i := 917) (by decide +kernel)) rfl, tbl_in (List.mem_of_getElem? (i := 100) (by decide +kernel)) rfl, by decide +kernel, ⟨by decide +kernel, by decide +kernel, by decide +kernel⟩, ⟨tbl_in (List.mem_of_getElem? (i := 915) (by decide +kernel)) rfl, tbl_in (List.mem_of_getElem? (i := 916) (by decide +kernel)) rfl⟩⟩
theorem mx_L_byTurns : MX y_L_byTurns b_L_byTurns 2 (some .int) 1 false := ⟨tbl_in (List.mem_of_getElem? (i := 921) (by decide +kernel)) rfl, tbl_in (List.mem_of_getElem? (i := 100) (by decide +kernel)) rfl, by decide +kernel, ⟨by decide +kernel, by decide +kernel, by decide +kernel⟩, ⟨tbl_in (List.mem_of_getElem? (i := 919) (by decide +kernel)) rfl, tbl_in (List.mem_of_getElem? (i := 920) (by decide +kernel)) rfl⟩⟩
theorem mx_L_outcome : MX y_L_outcome b_L_outcome 13 (some .int) 5 true := ⟨tbl_in (List.mem_of_getElem? (i := 924) (by decide +kernel)) rfl, tbl_in (List.mem_of_getElem? (i := 100) (by decide +kernel)) rfl, by decide +kernel, ⟨by decide +kernel, by decide +kernel, by decide +kernel⟩, tbl_in (List.mem_of_getElem? (i := 923) (by decide +kernel)) rfl⟩
theorem mx_L_matter : MX y_L_matter b_L_matter 6 (some .int) 0 false := ⟨tbl_in (List.mem_of_getElem? (i := 929) (by decide +kernel)) rfl, tbl_in (List.mem_of_getElem? (i := 100) (by decide +kernel)) rfl, by decide +kernel, ⟨by decide +kernel, by decide +kernel, by decide +kernel⟩, ⟨tbl_in (List.mem_of_getElem? (i := 927) (by decide +kernel)) rfl, tbl_in (List.mem_of_getElem? (i := 928) (by decide +kernel)) rfl⟩⟩
theorem mx_L_runWithout : MX y_L_runWithout b_L_runWithout 2 none 1 false := ⟨tbl_in (List.mem_of_getElem? (i := 933) (by decide +kernel)) rfl, tbl_in (List.mem_of_getElem? (i := 100) (by decide +kernel)) rfl, by decide +kernel, ⟨by decide +kernel, by decide +kernel, by decide +kernel⟩, ⟨tbl_in (List.mem_of_getElem? (i := 932) (by decide +kernel)) rfl, tbl_in (List.mem_of_getElem? (i := 54) (by decide +kernel)) rfl⟩⟩
theorem mx_L_swing : MX y_L_swing b_L_swing 4 (some .int) 1 false := ⟨tbl_in (List.mem_of_getElem? (i := 938) (by decide +kernel)) rfl, tbl_in (List.mem_of_getElem? (i := 100) (by decide +kernel)) rfl, by decide +kernel, ⟨by decide +kernel, by decide +kernel, by decide +kernel⟩, ⟨tbl_in (List.mem_of_getElem? (i := 936) (by decide +kernel)) rfl, tbl_in (List.mem_of_getElem? (i := 937) (by decide +kernel)) rfl⟩⟩
theorem mx_L_next : MX y_L_next b_L_next 3 (some .int) 1 false := ⟨tbl_in (List.mem_of_getElem? (i := 942) (by decide +kernel)) rfl, tbl_in (List.mem_of_getElem? (i := 100) (by decide +kernel)) rfl, by decide +kernel, ⟨by decide +kernel, by decide +kernel, by decide +kernel⟩, ⟨tbl_in (List.mem_of_getElem? (i := 940) (by decide +kernel)) rfl, tbl_in (List.mem_of_getElem? (i := 941) (by decide +kernel)) rfl⟩⟩
theorem mx_L_ahead : MX y_L_ahead b_L_ahead 4 (some .int) 2 false := ⟨tbl_in (List.mem_of_getElem? (i := 948) (by decide +kernel)) rfl, tbl_in (List.mem_of_getElem? (i := 100) (by decide +kernel)) rfl, by decide +kernel, ⟨by decide +kernel, by decide +kernel, by decide +kernel⟩, ⟨tbl_in (List.mem_of_getElem? (i := 946) (by decide +kernel)) rfl, tbl_in (List.mem_of_getElem? (i := 947) (by decide +kernel)) rfl⟩⟩
theorem mx_L_trace : MX y_L_trace b_L_trace 3 (some .int) 2 false := ⟨tbl_in (List.mem_of_getElem? (i := 952) (by decide +kernel)) rfl, tbl_in (List.mem_of_getElem? (i := 100) (by decide +kernel)) rfl, by decide +kernel, ⟨by decide +kernel, by decide +kernel, by decide +kernel⟩, ⟨tbl_in (List.mem_of_getElem? (i := 950) (by decide +kernel)) rfl, tbl_in (List.mem_of_getElem? (i := 951) (by decide +kernel)) rfl⟩⟩
theorem mx_L_seed : MX y_L_seed b_L_seed 3 (some .int) 1 false := ⟨tbl_in (List.mem_of_getElem? (i := 956) (by decide +kernel)) rfl, tbl_in (List.mem_of_getElem? (i := 100) (by decide +kernel)) rfl, by decide +kernel, ⟨by decide +kernel, by decide +kernel, by decide +kernel⟩, ⟨tbl_in (List.mem_of_getElem? (i := 954) (by decide +kernel)) rfl, tbl_in (List.mem_of_getElem? (i := 955) (by decide +kernel)) rfl⟩⟩
theorem mx_L_image : MX y_L_image b_L_image 1 (some .int) 0 false := ⟨tbl_in (List.mem_of_getElem? (i := 960) (by decide +kernel)) rfl, tbl_in (List.mem_of_getElem? (i := 100) (by decide +kernel)) rfl, by decide +kernel, ⟨by decide +kernel, by decide +kernel, by decide +kernel⟩, ⟨tbl_in (List.mem_of_getElem? (i := 958) (by decide +kernel)) rfl, tbl_in (List.mem_of_getElem? (i := 959) (by decide +kernel)) rfl⟩⟩
theorem mx_L_back : MX y_L_back b_L_back 2 (some .int) 0 false := ⟨tbl_in (List.mem_of_getElem? (i := 964) (by decide +kernel)) rfl, tbl_in (List.mem_of_getElem? (i := 100) (by decide +kernel)) rfl, by decide +kernel, ⟨by decide +kernel, by decide +kernel, by decide +kernel⟩, ⟨tbl_in (List.mem_of_getElem? (i := 962) (by decide +kernel)) rfl, tbl_in (List.mem_of_getElem? (i := 963) (by decide +kernel)) rfl⟩⟩
theorem mx_L_hold : MX y_L_hold b_L_hold 3 (some .int) 2 false := ⟨tbl_in (List.mem_of_getElem? (i := 968) (by decide +kernel)) rfl, tbl_in (List.mem_of_getElem? (i := 100) (by decide +kernel)) rfl, by decide +kernel, ⟨by decide +kernel, by decide +kernel, by decide +kernel⟩, ⟨tbl_in (List.mem_of_getElem? (i := 966) (by decide +kernel)) rfl, tbl_in (List.mem_of_getElem? (i := 967) (by decide +kernel)) rfl⟩⟩
theorem mx_L_tells : MX y_L_tells b_L_tells 6 (some .int) 2 false := ⟨tbl_in (List.mem_of_getElem? (i := 972) (by decide +kernel)) rfl, tbl_in (List.mem_of_getElem? (i := 100) (by decide +kernel)) rfl, by decide +kernel, ⟨by decide +kernel, by decide +kernel, by decide +kernel⟩, ⟨tbl_in (List.mem_of_getElem? (i := 970) (by decide +kernel)) rfl, tbl_in (List.mem_of_getElem? (i := 971) (by decide +kernel)) rfl⟩⟩
theorem mx_L_count : MX y_L_count b_L_count 2 (some .int) 1 false := ⟨tbl_in (List.mem_of_getElem? (i := 978) (by decide +kernel)) rfl, tbl_in (List.mem_of_getElem? (i := 100) (by decide +kernel)) rfl, by decide +kernel, ⟨by decide +kernel, by decide +kernel, by decide +kernel⟩, ⟨tbl_in (List.mem_of_getElem? (i := 976) (by decide +kernel)) rfl, tbl_in (List.mem_of_getElem? (i := 977) (by decide +kernel)) rfl⟩⟩
theorem mx_L_at : MX y_L_at b_L_at 2 (some .int) 2 true := ⟨tbl_in (List.mem_of_getElem? (i := 588) (by decide +kernel)) rfl, tbl_in (List.mem_of_getElem? (i := 100) (by decide +kernel)) rfl, by decide +kernel, ⟨by decide +kernel, by decide +kernel, by decide +kernel⟩, tbl_in (List.mem_of_getElem? (i := 587) (by decide +kernel)) rfl⟩
theorem mx_L_put : MX y_L_put b_L_put 3 none 3 true := ⟨tbl_in (List.mem_of_getElem? (i := 502) (by decide +kernel)) rfl, tbl_in (List.mem_of_getElem? (i := 100) (by decide +kernel)) rfl, by decide +kernel, ⟨by decide +kernel, by decide +kernel, by decide +kernel⟩, tbl_in (List.mem_of_getElem? (i := 501) (by decide +kernel)) rfl⟩
theorem mx_L_copyRow : MX y_L_copyRow b_L_copyRow 2 none 2 true := ⟨tbl_in (List.mem_of_getElem? (i := 647) (by decide +kernel)) rfl, tbl_in (List.mem_of_getElem? (i := 100) (by decide +kernel)) rfl, by decide +kernel, ⟨by decide +kernel, by decide +kernel, by decide +kernel⟩, tbl_in (List.mem_of_getElem? (i := 646) (by decide +kernel)) rfl⟩
theorem mx_L_within : MX y_L_within b_L_within 3 (some .int) 3 true := ⟨tbl_in (List.mem_of_getElem? (i := 687) (by decide +kernel)) rfl, tbl_in (List.mem_of_getElem? (i := 100) (by decide +kernel)) rfl, by decide +kernel, ⟨by decide +kernel, by decide +kernel, by decide +kernel⟩, tbl_in (List.mem_of_getElem? (i := 686) (by decide +kernel)) rfl⟩
theorem mx_L_isPlayer : MX y_L_isPlayer b_L_isPlayer 1 (some .boolean) 1 true := ⟨tbl_in (List.mem_of_getElem? (i := 488) (by decide +kernel)) rfl, tbl_in (List.mem_of_getElem? (i := 100) (by decide +kernel)) rfl, by decide +kernel, ⟨by decide +kernel, by decide +kernel, by decide +kernel⟩, tbl_in (List.mem_of_getElem? (i := 487) (by decide +kernel)) rfl⟩
theorem mx_L_isPair : MX y_L_isPair b_L_isPair 1 (some .boolean) 1 true := ⟨tbl_in (List.mem_of_getElem? (i := 491) (by decide +kernel)) rfl, tbl_in (List.mem_of_getElem? (i := 100) (by decide +kernel)) rfl, by decide +kernel, ⟨by decide +kernel, by decide +kernel, by decide +kernel⟩, tbl_in (List.mem_of_getElem? (i := 490) (by decide +kernel)) rfl⟩
theorem mx_L_familyOf : MX y_L_familyOf b_L_familyOf 1 (some .int) 1 true := ⟨tbl_in (List.mem_of_getElem? (i := 661) (by decide +kernel)) rfl, tbl_in (List.mem_of_getElem? (i := 100) (by decide +kernel)) rfl, by decide +kernel, ⟨by decide +kernel, by decide +kernel, by decide +kernel⟩, tbl_in (List.mem_of_getElem? (i := 660) (by decide +kernel)) rfl⟩
theorem mx_L_looksAtOther : MX y_L_looksAtOther b_L_looksAtOther 1 (some .boolean) 1 true := ⟨tbl_in (List.mem_of_getElem? (i := 677) (by decide +kernel)) rfl, tbl_in (List.mem_of_getElem? (i := 100) (by decide +kernel)) rfl, by decide +kernel, ⟨by decide +kernel, by decide +kernel, by decide +kernel⟩, tbl_in (List.mem_of_getElem? (i := 676) (by decide +kernel)) rfl⟩
theorem mx_L_layered : MX y_L_layered b_L_layered 4 (some .int) 4 true := ⟨tbl_in (List.mem_of_getElem? (i := 684) (by decide +kernel)) rfl, tbl_in (List.mem_of_getElem? (i := 100) (by decide +kernel)) rfl, by decide +kernel, ⟨by decide +kernel, by decide +kernel, by decide +kernel⟩, tbl_in (List.mem_of_getElem? (i := 683) (by decide +kernel)) rfl⟩
theorem mx_L_replacedAmount : MX y_L_replacedAmount b_L_replacedAmount 3 (some .int) 3 true := ⟨tbl_in (List.mem_of_getElem? (i := 732) (by decide +kernel)) rfl, tbl_in (List.mem_of_getElem? (i := 100) (by decide +kernel)) rfl, by decide +kernel, ⟨by decide +kernel, by decide +kernel, by decide +kernel⟩, tbl_in (List.mem_of_getElem? (i := 731) (by decide +kernel)) rfl⟩
theorem mx_L_codeOf : MX y_L_codeOf b_L_codeOf 3 (some .int) 3 true := ⟨tbl_in (List.mem_of_getElem? (i := 739) (by decide +kernel)) rfl, tbl_in (List.mem_of_getElem? (i := 100) (by decide +kernel)) rfl, by decide +kernel, ⟨by decide +kernel, by decide +kernel, by decide +kernel⟩, tbl_in (List.mem_of_getElem? (i := 738) (by decide +kernel)) rfl⟩
theorem mx_L_seedAfter : MX y_L_seedAfter b_L_seedAfter 1 (some .int) 1 true := ⟨tbl_in (List.mem_of_getElem? (i := 802) (by decide +kernel)) rfl, tbl_in (List.mem_of_getElem? (i := 100) (by decide +kernel)) rfl, by decide +kernel, ⟨by decide +kernel, by decide +kernel, by decide +kernel⟩, tbl_in (List.mem_of_getElem? (i := 801) (by decide +kernel)) rfl⟩
theorem mx_L_drawnBelow : MX y_L_drawnBelow b_L_drawnBelow 2 (some .int) 2 true := ⟨tbl_in (List.mem_of_getElem? (i := 806) (by decide +kernel)) rfl, tbl_in (List.mem_of_getElem? (i := 100) (by decide +kernel)) rfl, by decide +kernel, ⟨by decide +kernel, by decide +kernel, by decide +kernel⟩, tbl_in (List.mem_of_getElem? (i := 805) (by decide +kernel)) rfl⟩
theorem mx_M_in : MX y_M_in b_M_in 3 (some .boolean) 3 true := ⟨tbl_in (List.mem_of_getElem? (i := 1100) (by decide +kernel)) rfl, tbl_in (List.mem_of_getElem? (i := 109) (by decide +kernel)) rfl, by decide +kernel, ⟨by decide +kernel, by decide +kernel, by decide +kernel⟩, tbl_in (List.mem_of_getElem? (i := 1099) (by decide +kernel)) rfl⟩
theorem mx_M_held : MX y_M_held b_M_held 3 (some .int) 3 true := ⟨tbl_in (List.mem_of_getElem? (i := 1232) (by decide +kernel)) rfl, tbl_in (List.mem_of_getElem? (i := 109) (by decide +kernel)) rfl, by decide +kernel, ⟨by decide +kernel, by decide +kernel, by decide +kernel⟩, tbl_in (List.mem_of_getElem? (i := 1231) (by decide +kernel)) rfl⟩
theorem mx_M_isCard : MX y_M_isCard b_M_isCard 2 (some .boolean) 1 false := ⟨tbl_in (List.mem_of_getElem? (i := 1168) (by decide +kernel)) rfl, tbl_in (List.mem_of_getElem? (i := 109) (by decide +kernel)) rfl, by decide +kernel, ⟨by decide +kernel, by decide +kernel, by decide +kernel⟩, ⟨tbl_in (List.mem_of_getElem? (i := 1167) (by decide +kernel)) rfl, tbl_in (List.mem_of_getElem? (i := 63) (by decide +kernel)) rfl⟩⟩
theorem mx_M_isAt : MX y_M_isAt b_M_isAt 3 (some .boolean) 2 false := ⟨tbl_in (List.mem_of_getElem? (i := 1172) (by decide +kernel)) rfl, tbl_in (List.mem_of_getElem? (i := 109) (by decide +kernel)) rfl, by decide +kernel, ⟨by decide +kernel, by decide +kernel, by decide +kernel⟩, ⟨tbl_in (List.mem_of_getElem? (i := 1171) (by decide +kernel)) rfl, tbl_in (List.mem_of_getElem? (i := 64) (by decide +kernel)) rfl⟩⟩
theorem mx_M_copy : MX y_M_copy b_M_copy 3 none 2 true := ⟨tbl_in (List.mem_of_getElem? (i := 1360) (by decide +kernel)) rfl, tbl_in (List.mem_of_getElem? (i := 109) (by decide +kernel)) rfl, by decide +kernel, ⟨by decide +kernel, by decide +kernel, by decide +kernel⟩, tbl_in (List.mem_of_getElem? (i := 1359) (by decide +kernel)) rfl⟩
theorem mx_M_add : MX y_M_add b_M_add 6 (some .int) 5 false := ⟨tbl_in (List.mem_of_getElem? (i := 1104) (by decide +kernel)) rfl, tbl_in (List.mem_of_getElem? (i := 109) (by decide +kernel)) rfl, by decide +kernel, ⟨by decide +kernel, by decide +kernel, by decide +kernel⟩, ⟨tbl_in (List.mem_of_getElem? (i := 1103) (by decide +kernel)) rfl, tbl_in (List.mem_of_getElem? (i := 55) (by decide +kernel)) rfl⟩⟩
theorem mx_M_card : MX y_M_card b_M_card 5 (some .int) 4 false := ⟨tbl_in (List.mem_of_getElem? (i := 1097) (by decide +kernel)) rfl, tbl_in (List.mem_of_getElem? (i := 109) (by decide +kernel)) rfl, by decide +kernel, ⟨by decide +kernel, by decide +kernel, by decide +kernel⟩, ⟨tbl_in (List.mem_of_getElem? (i := 1095) (by decide +kernel)) rfl, tbl_in (List.mem_of_getElem? (i := 1096) (by decide +kernel)) rfl⟩⟩
theorem mx_M_feed : MX y_M_feed b_M_feed 2 (some .int) 1 false := ⟨tbl_in (List.mem_of_getElem? (i := 1108) (by decide +kernel)) rfl, tbl_in (List.mem_of_getElem? (i := 109) (by decide +kernel)) rfl, by decide +kernel, ⟨by decide +kernel, by decide +kernel, by decide +kernel⟩, ⟨tbl_in (List.mem_of_getElem? (i := 1106) (by decide +kernel)) rfl, tbl_in (List.mem_of_getElem? (i := 1107) (by decide +kernel)) rfl⟩⟩
theorem mx_M_wordOf : MX y_M_wordOf b_M_wordOf 1 (some (.object "java/lang/String")) 1 true := ⟨tbl_in (List.mem_of_getElem? (i := 1127) (by decide +kernel)) rfl, tbl_in (List.mem_of_getElem? (i := 109) (by decide +kernel)) rfl, by decide +kernel, ⟨by decide +kernel, by decide +kernel, by decide +kernel⟩, tbl_in (List.mem_of_getElem? (i := 1126) (by decide +kernel)) rfl⟩
theorem mx_M_sees : MX y_M_sees b_M_sees 3 (some .boolean) 2 false := ⟨tbl_in (List.mem_of_getElem? (i := 1160) (by decide +kernel)) rfl, tbl_in (List.mem_of_getElem? (i := 109) (by decide +kernel)) rfl, by decide +kernel, ⟨by decide +kernel, by decide +kernel, by decide +kernel⟩, ⟨tbl_in (List.mem_of_getElem? (i := 1159) (by decide +kernel)) rfl, tbl_in (List.mem_of_getElem? (i := 62) (by decide +kernel)) rfl⟩⟩
theorem mx_M_must : MX y_M_must b_M_must 3 (some .int) 2 false := ⟨tbl_in (List.mem_of_getElem? (i := 1156) (by decide +kernel)) rfl, tbl_in (List.mem_of_getElem? (i := 109) (by decide +kernel)) rfl, by decide +kernel, ⟨by decide +kernel, by decide +kernel, by decide +kernel⟩, ⟨tbl_in (List.mem_of_getElem? (i := 1155) (by decide +kernel)) rfl, tbl_in (List.mem_of_getElem? (i := 61) (by decide +kernel)) rfl⟩⟩
theorem mx_M_goes : MX y_M_goes b_M_goes 3 (some .int) 1 false := ⟨tbl_in (List.mem_of_getElem? (i := 1146) (by decide +kernel)) rfl, tbl_in (List.mem_of_getElem? (i := 109) (by decide +kernel)) rfl, by decide +kernel, ⟨by decide +kernel, by decide +kernel, by decide +kernel⟩, ⟨tbl_in (List.mem_of_getElem? (i := 1145) (by decide +kernel)) rfl, tbl_in (List.mem_of_getElem? (i := 59) (by decide +kernel)) rfl⟩⟩
theorem mx_M_wordHere : MX y_M_wordHere b_M_wordHere 4 (some .int) 0 false := ⟨tbl_in (List.mem_of_getElem? (i := 1124) (by decide +kernel)) rfl, tbl_in (List.mem_of_getElem? (i := 109) (by decide +kernel)) rfl, by decide +kernel, ⟨by decide +kernel, by decide +kernel, by decide +kernel⟩, ⟨tbl_in (List.mem_of_getElem? (i := 1123) (by decide +kernel)) rfl, tbl_in (List.mem_of_getElem? (i := 58) (by decide +kernel)) rfl⟩⟩
theorem mx_M_digit : MX y_M_digit b_M_digit 2 (some .int) 1 false := ⟨tbl_in (List.mem_of_getElem? (i := 1152) (by decide +kernel)) rfl, tbl_in (List.mem_of_getElem? (i := 109) (by decide +kernel)) rfl, by decide +kernel, ⟨by decide +kernel, by decide +kernel, by decide +kernel⟩, ⟨tbl_in (List.mem_of_getElem? (i := 1151) (by decide +kernel)) rfl, tbl_in (List.mem_of_getElem? (i := 60) (by decide +kernel)) rfl⟩⟩
theorem mx_M_line : MX y_M_line b_M_line 8 none 1 false := ⟨tbl_in (List.mem_of_getElem? (i := 1120) (by decide +kernel)) rfl, tbl_in (List.mem_of_getElem? (i := 109) (by decide +kernel)) rfl, by decide +kernel, ⟨by decide +kernel, by decide +kernel, by decide +kernel⟩, ⟨tbl_in (List.mem_of_getElem? (i := 1119) (by decide +kernel)) rfl, tbl_in (List.mem_of_getElem? (i := 57) (by decide +kernel)) rfl⟩⟩
theorem mx_M_lines : MX y_M_lines b_M_lines 3 (some .int) 1 false := ⟨tbl_in (List.mem_of_getElem? (i := 1116) (by decide +kernel)) rfl, tbl_in (List.mem_of_getElem? (i := 109) (by decide +kernel)) rfl, by decide +kernel, ⟨by decide +kernel, by decide +kernel, by decide +kernel⟩, ⟨tbl_in (List.mem_of_getElem? (i := 1115) (by decide +kernel)) rfl, tbl_in (List.mem_of_getElem? (i := 56) (by decide +kernel)) rfl⟩⟩
theorem mx_M_deck : MX y_M_deck b_M_deck 4 (some .int) 0 false := ⟨tbl_in (List.mem_of_getElem? (i := 1112) (by decide +kernel)) rfl, tbl_in (List.mem_of_getElem? (i := 109) (by decide +kernel)) rfl, by decide +kernel, ⟨by decide +kernel, by decide +kernel, by decide +kernel⟩, ⟨tbl_in (List.mem_of_getElem? (i := 1110) (by decide +kernel)) rfl, tbl_in (List.mem_of_getElem? (i := 1111) (by decide +kernel)) rfl⟩⟩
theorem mx_M_of : MX y_M_of b_M_of 3 (some .int) 2 false := ⟨tbl_in (List.mem_of_getElem? (i := 1164) (by decide +kernel)) rfl, tbl_in (List.mem_of_getElem? (i := 109) (by decide +kernel)) rfl, by decide +kernel, ⟨by decide +kernel, by decide +kernel, by decide +kernel⟩, ⟨tbl_in (List.mem_of_getElem? (i := 1162) (by decide +kernel)) rfl, tbl_in (List.mem_of_getElem? (i := 1163) (by decide +kernel)) rfl⟩⟩
theorem mx_M_deal : MX y_M_deal b_M_deal 2 (some .int) 1 false := ⟨tbl_in (List.mem_of_getElem? (i := 1176) (by decide +kernel)) rfl, tbl_in (List.mem_of_getElem? (i := 109) (by decide +kernel)) rfl, by decide +kernel, ⟨by decide +kernel, by decide +kernel, by decide +kernel⟩, ⟨tbl_in (List.mem_of_getElem? (i := 1174) (by decide +kernel)) rfl, tbl_in (List.mem_of_getElem? (i := 1175) (by decide +kernel)) rfl⟩⟩
theorem mx_M_base : MX y_M_base b_M_base 4 (some .int) 2 false := ⟨tbl_in (List.mem_of_getElem? (i := 1180) (by decide +kernel)) rfl, tbl_in (List.mem_of_getElem? (i := 109) (by decide +kernel)) rfl, by decide +kernel, ⟨by decide +kernel, by decide +kernel, by decide +kernel⟩, ⟨tbl_in (List.mem_of_getElem? (i := 1178) (by decide +kernel)) rfl, tbl_in (List.mem_of_getElem? (i := 1179) (by decide +kernel)) rfl⟩⟩
theorem mx_M_mend : MX y_M_mend b_M_mend 4 (some .int) 2 false := ⟨tbl_in (List.mem_of_getElem? (i := 1185) (by decide +kernel)) rfl, tbl_in (List.mem_of_getElem? (i := 109) (by decide +kernel)) rfl, by decide +kernel, ⟨by decide +kernel, by decide +kernel, by decide +kernel⟩, ⟨tbl_in (List.mem_of_getElem? (i := 1183) (by decide +kernel)) rfl, tbl_in (List.mem_of_getElem? (i := 1184) (by decide +kernel)) rfl⟩⟩
theorem mx_M_manyAt : MX y_M_manyAt b_M_manyAt 5 (some .int) 2 false := ⟨tbl_in (List.mem_of_getElem? (i := 1193) (by decide +kernel)) rfl, tbl_in (List.mem_of_getElem? (i := 109) (by decide +kernel)) rfl, by decide +kernel, ⟨by decide +kernel, by decide +kernel, by decide +kernel⟩, ⟨tbl_in (List.mem_of_getElem? (i := 1192) (by decide +kernel)) rfl, tbl_in (List.mem_of_getElem? (i := 65) (by decide +kernel)) rfl⟩⟩
theorem mx_M_player : MX y_M_player b_M_player 3 (some .int) 2 false := ⟨tbl_in (List.mem_of_getElem? (i := 1189) (by decide +kernel)) rfl, tbl_in (List.mem_of_getElem? (i := 109) (by decide +kernel)) rfl, by decide +kernel, ⟨by decide +kernel, by decide +kernel, by decide +kernel⟩, ⟨tbl_in (List.mem_of_getElem? (i := 1187) (by decide +kernel)) rfl, tbl_in (List.mem_of_getElem? (i := 1188) (by decide +kernel)) rfl⟩⟩
theorem mx_M_isLayer : MX y_M_isLayer b_M_isLayer 2 (some .boolean) 1 false := ⟨tbl_in (List.mem_of_getElem? (i := 1213) (by decide +kernel)) rfl, tbl_in (List.mem_of_getElem? (i := 109) (by decide +kernel)) rfl, by decide +kernel, ⟨by decide +kernel, by decide +kernel, by decide +kernel⟩, ⟨tbl_in (List.mem_of_getElem? (i := 1212) (by decide +kernel)) rfl, tbl_in (List.mem_of_getElem? (i := 69) (by decide +kernel)) rfl⟩⟩
theorem mx_M_hangs : MX y_M_hangs b_M_hangs 3 (some .boolean) 2 false := ⟨tbl_in (List.mem_of_getElem? (i := 1225) (by decide +kernel)) rfl, tbl_in (List.mem_of_getElem? (i := 109) (by decide +kernel)) rfl, by decide +kernel, ⟨by decide +kernel, by decide +kernel, by decide +kernel⟩, ⟨tbl_in (List.mem_of_getElem? (i := 1224) (by decide +kernel)) rfl, tbl_in (List.mem_of_getElem? (i := 72) (by decide +kernel)) rfl⟩⟩
theorem mx_M_isUsed : MX y_M_isUsed b_M_isUsed 3 (some .boolean) 1 false := ⟨tbl_in (List.mem_of_getElem? (i := 1217) (by decide +kernel)) rfl, tbl_in (List.mem_of_getElem? (i := 109) (by decide +kernel)) rfl, by decide +kernel, ⟨by decide +kernel, by decide +kernel, by decide +kernel⟩, ⟨tbl_in (List.mem_of_getElem? (i := 1216) (by decide +kernel)) rfl, tbl_in (List.mem_of_getElem? (i := 70) (by decide +kernel)) rfl⟩⟩
theorem mx_M_isFree : MX y_M_isFree b_M_isFree 3 (some .boolean) 1 false := ⟨tbl_in (List.mem_of_getElem? (i := 1221) (by decide +kernel)) rfl, tbl_in (List.mem_of_getElem? (i := 109) (by decide +kernel)) rfl, by decide +kernel, ⟨by decide +kernel, by decide +kernel, by decide +kernel⟩, ⟨tbl_in (List.mem_of_getElem? (i := 1220) (by decide +kernel)) rfl, tbl_in (List.mem_of_getElem? (i := 71) (by decide +kernel)) rfl⟩⟩
theorem mx_M_nextLayer : MX y_M_nextLayer b_M_nextLayer 4 (some .int) 1 false := ⟨tbl_in (List.mem_of_getElem? (i := 1209) (by decide +kernel)) rfl, tbl_in (List.mem_of_getElem? (i := 109) (by decide +kernel)) rfl, by decide +kernel, ⟨by decide +kernel, by decide +kernel, by decide +kernel⟩, ⟨tbl_in (List.mem_of_getElem? (i := 1208) (by decide +kernel)) rfl, tbl_in (List.mem_of_getElem? (i := 68) (by decide +kernel)) rfl⟩⟩
theorem mx_M_use : MX y_M_use b_M_use 5 none 1 false := ⟨tbl_in (List.mem_of_getElem? (i := 1229) (by decide +kernel)) rfl, tbl_in (List.mem_of_getElem? (i := 109) (by decide +kernel)) rfl, by decide +kernel, ⟨by decide +kernel, by decide +kernel, by decide +kernel⟩, ⟨tbl_in (List.mem_of_getElem? (i := 1228) (by decide +kernel)) rfl, tbl_in (List.mem_of_getElem? (i := 73) (by decide +kernel)) rfl⟩⟩
theorem mx_M_layered : MX y_M_layered b_M_layered 2 none 0 false := ⟨tbl_in (List.mem_of_getElem? (i := 1205) (by decide +kernel)) rfl, tbl_in (List.mem_of_getElem? (i := 109) (by decide +kernel)) rfl, by decide +kernel, ⟨by decide +kernel, by decide +kernel, by decide +kernel⟩, ⟨tbl_in (List.mem_of_getElem? (i := 1204) (by decide +kernel)) rfl, tbl_in (List.mem_of_getElem? (i := 67) (by decide +kernel)) rfl⟩⟩
theorem mx_M_valueNow : MX y_M_valueNow b_M_valueNow 2 (some .int) 1 false := ⟨tbl_in (List.mem_of_getElem? (i := 1201) (by decide +kernel)) rfl, tbl_in (List.mem_of_getElem? (i := 109) (by decide +kernel)) rfl, by decide +kernel, ⟨by decide +kernel, by decide +kernel, by decide +kernel⟩, ⟨tbl_in (List.mem_of_getElem? (i := 1200) (by decide +kernel)) rfl, tbl_in (List.mem_of_getElem? (i := 66) (by decide +kernel)) rfl⟩⟩
theorem mx_M_value : MX y_M_value b_M_value 2 (some .int) 1 false := ⟨tbl_in (List.mem_of_getElem? (i := 1197) (by decide +kernel)) rfl, tbl_in (List.mem_of_getElem? (i := 109) (by decide +kernel)) rfl, by decide +kernel, ⟨by decide +kernel, by decide +kernel, by decide +kernel⟩, ⟨tbl_in (List.mem_of_getElem? (i := 1195) (by decide +kernel)) rfl, tbl_in (List.mem_of_getElem? (i := 1196) (by decide +kernel)) rfl⟩⟩
theorem mx_M_layer : MX y_M_layer b_M_layer 2 (some .int) 1 false := ⟨tbl_in (List.mem_of_getElem? (i := 1236) (by decide +kernel)) rfl, tbl_in (List.mem_of_getElem? (i := 109) (by decide +kernel)) rfl, by decide +kernel, ⟨by decide +kernel, by decide +kernel, by decide +kernel⟩, ⟨tbl_in (List.mem_of_getElem? (i := 1234) (by decide +kernel)) rfl, tbl_in (List.mem_of_getElem? (i := 1235) (by decide +kernel)) rfl⟩⟩
theorem mx_M_depends : MX y_M_depends b_M_depends 3 (some .int) 2 false := ⟨tbl_in (List.mem_of_getElem? (i := 1240) (by decide +kernel)) rfl, tbl_in (List.mem_of_getElem? (i := 109) (by decide +kernel)) rfl, by decide +kernel, ⟨by decide +kernel, by decide +kernel, by decide +kernel⟩, ⟨tbl_in (List.mem_of_getElem? (i := 1238) (by decide +kernel)) rfl, tbl_in (List.mem_of_getElem? (i := 1239) (by decide +kernel)) rfl⟩⟩
theorem mx_M_fits : MX y_M_fits b_M_fits 2 (some .boolean) 1 false := ⟨tbl_in (List.mem_of_getElem? (i := 1256) (by decide +kernel)) rfl, tbl_in (List.mem_of_getElem? (i := 109) (by decide +kernel)) rfl, by decide +kernel, ⟨by decide +kernel, by decide +kernel, by decide +kernel⟩, ⟨tbl_in (List.mem_of_getElem? (i := 1255) (by decide +kernel)) rfl, tbl_in (List.mem_of_getElem? (i := 76) (by decide +kernel)) rfl⟩⟩
theorem mx_M_wasUsed : MX y_M_wasUsed b_M_wasUsed 3 (some .boolean) 1 false := ⟨tbl_in (List.mem_of_getElem? (i := 1260) (by decide +kernel)) rfl, tbl_in (List.mem_of_getElem? (i := 109) (by decide +kernel)) rfl, by decide +kernel, ⟨by decide +kernel, by decide +kernel, by decide +kernel⟩, ⟨tbl_in (List.mem_of_getElem? (i := 1259) (by decide +kernel)) rfl, tbl_in (List.mem_of_getElem? (i := 77) (by decide +kernel)) rfl⟩⟩
theorem mx_M_nextReplacer : MX y_M_nextReplacer b_M_nextReplacer 3 (some .int) 0 false := ⟨tbl_in (List.mem_of_getElem? (i := 1252) (by decide +kernel)) rfl, tbl_in (List.mem_of_getElem? (i := 109) (by decide +kernel)) rfl, by decide +kernel, ⟨by decide +kernel, by decide +kernel, by decide +kernel⟩, ⟨tbl_in (List.mem_of_getElem? (i := 1251) (by decide +kernel)) rfl, tbl_in (List.mem_of_getElem? (i := 75) (by decide +kernel)) rfl⟩⟩
theorem mx_M_replaced : MX y_M_replaced b_M_replaced 5 none 3 false := ⟨tbl_in (List.mem_of_getElem? (i := 1248) (by decide +kernel)) rfl, tbl_in (List.mem_of_getElem? (i := 109) (by decide +kernel)) rfl, by decide +kernel, ⟨by decide +kernel, by decide +kernel, by decide +kernel⟩, ⟨tbl_in (List.mem_of_getElem? (i := 1247) (by decide +kernel)) rfl, tbl_in (List.mem_of_getElem? (i := 74) (by decide +kernel)) rfl⟩⟩
theorem mx_M_draw : MX y_M_draw b_M_draw 2 (some .int) 1 false := ⟨tbl_in (List.mem_of_getElem? (i := 1300) (by decide +kernel)) rfl, tbl_in (List.mem_of_getElem? (i := 109) (by decide +kernel)) rfl, by decide +kernel, ⟨by decide +kernel, by decide +kernel, by decide +kernel⟩, ⟨tbl_in (List.mem_of_getElem? (i := 1299) (by decide +kernel)) rfl, tbl_in (List.mem_of_getElem? (i := 84) (by decide +kernel)) rfl⟩⟩
theorem mx_M_drawOne : MX y_M_drawOne b_M_drawOne 4 none 0 false := ⟨tbl_in (List.mem_of_getElem? (i := 1296) (by decide +kernel)) rfl, tbl_in (List.mem_of_getElem? (i := 109) (by decide +kernel)) rfl, by decide +kernel, ⟨by decide +kernel, by decide +kernel, by decide +kernel⟩, ⟨tbl_in (List.mem_of_getElem? (i := 1295) (by decide +kernel)) rfl, tbl_in (List.mem_of_getElem? (i := 83) (by decide +kernel)) rfl⟩⟩
theorem mx_M_push : MX y_M_push b_M_push 2 none 1 false := ⟨tbl_in (List.mem_of_getElem? (i := 1272) (by decide +kernel)) rfl, tbl_in (List.mem_of_getElem? (i := 109) (by decide +kernel)) rfl, by decide +kernel, ⟨by decide +kernel, by decide +kernel, by decide +kernel⟩, ⟨tbl_in (List.mem_of_getElem? (i := 1271) (by decide +kernel)) rfl, tbl_in (List.mem_of_getElem? (i := 79) (by decide +kernel)) rfl⟩⟩
theorem mx_M_echoes : MX y_M_echoes b_M_echoes 5 none 0 false := ⟨tbl_in (List.mem_of_getElem? (i := 1305) (by decide +kernel)) rfl, tbl_in (List.mem_of_getElem? (i := 109) (by decide +kernel)) rfl, by decide +kernel, ⟨by decide +kernel, by decide +kernel, by decide +kernel⟩, ⟨tbl_in (List.mem_of_getElem? (i := 1304) (by decide +kernel)) rfl, tbl_in (List.mem_of_getElem? (i := 85) (by decide +kernel)) rfl⟩⟩
theorem mx_M_event : MX y_M_event b_M_event 5 none 3 false := ⟨tbl_in (List.mem_of_getElem? (i := 1292) (by decide +kernel)) rfl, tbl_in (List.mem_of_getElem? (i := 109) (by decide +kernel)) rfl, by decide +kernel, ⟨by decide +kernel, by decide +kernel, by decide +kernel⟩, ⟨tbl_in (List.mem_of_getElem? (i := 1291) (by decide +kernel)) rfl, tbl_in (List.mem_of_getElem? (i := 82) (by decide +kernel)) rfl⟩⟩
theorem mx_M_used : MX y_M_used b_M_used 3 (some .int) 2 false := ⟨tbl_in (List.mem_of_getElem? (i := 1244) (by decide +kernel)) rfl, tbl_in (List.mem_of_getElem? (i := 109) (by decide +kernel)) rfl, by decide +kernel, ⟨by decide +kernel, by decide +kernel, by decide +kernel⟩, ⟨tbl_in (List.mem_of_getElem? (i := 1242) (by decide +kernel)) rfl, tbl_in (List.mem_of_getElem? (i := 1243) (by decide +kernel)) rfl⟩⟩
theorem mx_M_play : MX y_M_play b_M_play 2 (some .int) 1 false := ⟨tbl_in (List.mem_of_getElem? (i := 1264) (by decide +kernel)) rfl, tbl_in (List.mem_of_getElem? (i := 109) (by decide +kernel)) rfl, by decide +kernel, ⟨by decide +kernel, by decide +kernel, by decide +kernel⟩, ⟨tbl_in (List.mem_of_getElem? (i := 1262) (by decide +kernel)) rfl, tbl_in (List.mem_of_getElem? (i := 1263) (by decide +kernel)) rfl⟩⟩
theorem mx_M_playIt : MX y_M_playIt b_M_playIt 2 none 1 false := ⟨tbl_in (List.mem_of_getElem? (i := 1268) (by decide +kernel)) rfl, tbl_in (List.mem_of_getElem? (i := 109) (by decide +kernel)) rfl, by decide +kernel, ⟨by decide +kernel, by decide +kernel, by decide +kernel⟩, ⟨tbl_in (List.mem_of_getElem? (i := 1267) (by decide +kernel)) rfl, tbl_in (List.mem_of_getElem? (i := 78) (by decide +kernel)) rfl⟩⟩
theorem mx_M_pile : MX y_M_pile b_M_pile 2 (some .int) 1 false := ⟨tbl_in (List.mem_of_getElem? (i := 1276) (by decide +kernel)) rfl, tbl_in (List.mem_of_getElem? (i := 109) (by decide +kernel)) rfl, by decide +kernel, ⟨by decide +kernel, by decide +kernel, by decide +kernel⟩, ⟨tbl_in (List.mem_of_getElem? (i := 1274) (by decide +kernel)) rfl, tbl_in (List.mem_of_getElem? (i := 1275) (by decide +kernel)) rfl⟩⟩
theorem mx_M_stop : MX y_M_stop b_M_stop 2 none 0 false := ⟨tbl_in (List.mem_of_getElem? (i := 1313) (by decide +kernel)) rfl, tbl_in (List.mem_of_getElem? (i := 109) (by decide +kernel)) rfl, by decide +kernel, ⟨by decide +kernel, by decide +kernel, by decide +kernel⟩, ⟨tbl_in (List.mem_of_getElem? (i := 1312) (by decide +kernel)) rfl, tbl_in (List.mem_of_getElem? (i := 87) (by decide +kernel)) rfl⟩⟩
theorem mx_M_clear : MX y_M_clear b_M_clear 4 none 1 false := ⟨tbl_in (List.mem_of_getElem? (i := 1317) (by decide +kernel)) rfl, tbl_in (List.mem_of_getElem? (i := 109) (by decide +kernel)) rfl, by decide +kernel, ⟨by decide +kernel, by decide +kernel, by decide +kernel⟩, ⟨tbl_in (List.mem_of_getElem? (i := 1316) (by decide +kernel)) rfl, tbl_in (List.mem_of_getElem? (i := 88) (by decide +kernel)) rfl⟩⟩
theorem mx_M_answer : MX y_M_answer b_M_answer 3 none 1 false := ⟨tbl_in (List.mem_of_getElem? (i := 1309) (by decide +kernel)) rfl, tbl_in (List.mem_of_getElem? (i := 109) (by decide +kernel)) rfl, by decide +kernel, ⟨by decide +kernel, by decide +kernel, by decide +kernel⟩, ⟨tbl_in (List.mem_of_getElem? (i := 1308) (by decide +kernel)) rfl, tbl_in (List.mem_of_getElem? (i := 86) (by decide +kernel)) rfl⟩⟩
theorem mx_M_resolveTop : MX y_M_resolveTop b_M_resolveTop 2 none 0 false := ⟨tbl_in (List.mem_of_getElem? (i := 1288) (by decide +kernel)) rfl, tbl_in (List.mem_of_getElem? (i := 109) (by decide +kernel)) rfl, by decide +kernel, ⟨by decide +kernel, by decide +kernel, by decide +kernel⟩, ⟨tbl_in (List.mem_of_getElem? (i := 1287) (by decide +kernel)) rfl, tbl_in (List.mem_of_getElem? (i := 81) (by decide +kernel)) rfl⟩⟩
theorem mx_M_traces : MX y_M_traces b_M_traces 1 none 0 false := ⟨tbl_in (List.mem_of_getElem? (i := 1284) (by decide +kernel)) rfl, tbl_in (List.mem_of_getElem? (i := 109) (by decide +kernel)) rfl, by decide +kernel, ⟨by decide +kernel, by decide +kernel, by decide +kernel⟩, ⟨tbl_in (List.mem_of_getElem? (i := 1283) (by decide +kernel)) rfl, tbl_in (List.mem_of_getElem? (i := 80) (by decide +kernel)) rfl⟩⟩
theorem mx_M_resolve : MX y_M_resolve b_M_resolve 1 (some .int) 0 false := ⟨tbl_in (List.mem_of_getElem? (i := 1280) (by decide +kernel)) rfl, tbl_in (List.mem_of_getElem? (i := 109) (by decide +kernel)) rfl, by decide +kernel, ⟨by decide +kernel, by decide +kernel, by decide +kernel⟩, ⟨tbl_in (List.mem_of_getElem? (i := 1278) (by decide +kernel)) rfl, tbl_in (List.mem_of_getElem? (i := 1279) (by decide +kernel)) rfl⟩⟩
theorem mx_M_isLost : MX y_M_isLost b_M_isLost 1 (some .boolean) 0 false := ⟨tbl_in (List.mem_of_getElem? (i := 1329) (by decide +kernel)) rfl, tbl_in (List.mem_of_getElem? (i := 109) (by decide +kernel)) rfl, by decide +kernel, ⟨by decide +kernel, by decide +kernel, by decide +kernel⟩, ⟨tbl_in (List.mem_of_getElem? (i := 1328) (by decide +kernel)) rfl, tbl_in (List.mem_of_getElem? (i := 90) (by decide +kernel)) rfl⟩⟩
theorem mx_M_see : MX y_M_see b_M_see 6 none 1 false := ⟨tbl_in (List.mem_of_getElem? (i := 1333) (by decide +kernel)) rfl, tbl_in (List.mem_of_getElem? (i := 109) (by decide +kernel)) rfl, by decide +kernel, ⟨by decide +kernel, by decide +kernel, by decide +kernel⟩, ⟨tbl_in (List.mem_of_getElem? (i := 1332) (by decide +kernel)) rfl, tbl_in (List.mem_of_getElem? (i := 91) (by decide +kernel)) rfl⟩⟩
theorem mx_M_sameAs : MX y_M_sameAs b_M_sameAs 5 (some .int) 1 false := ⟨tbl_in (List.mem_of_getElem? (i := 1337) (by decide +kernel)) rfl, tbl_in (List.mem_of_getElem? (i := 109) (by decide +kernel)) rfl, by decide +kernel, ⟨by decide +kernel, by decide +kernel, by decide +kernel⟩, ⟨tbl_in (List.mem_of_getElem? (i := 1336) (by decide +kernel)) rfl, tbl_in (List.mem_of_getElem? (i := 92) (by decide +kernel)) rfl⟩⟩
theorem mx_M_runIt : MX y_M_runIt b_M_runIt 3 (some .int) 0 false := ⟨tbl_in (List.mem_of_getElem? (i := 1325) (by decide +kernel)) rfl, tbl_in (List.mem_of_getElem? (i := 109) (by decide +kernel)) rfl, by decide +kernel, ⟨by decide +kernel, by decide +kernel, by decide +kernel⟩, ⟨tbl_in (List.mem_of_getElem? (i := 1324) (by decide +kernel)) rfl, tbl_in (List.mem_of_getElem? (i := 89) (by decide +kernel)) rfl⟩⟩
theorem mx_M_run : MX y_M_run b_M_run 2 (some .int) 0 false := ⟨tbl_in (List.mem_of_getElem? (i := 1321) (by decide +kernel)) rfl, tbl_in (List.mem_of_getElem? (i := 109) (by decide +kernel)) rfl, by decide +kernel, ⟨by decide +kernel, by decide +kernel, by decide +kernel⟩, ⟨tbl_in (List.mem_of_getElem? (i := 1319) (by decide +kernel)) rfl, tbl_in (List.mem_of_getElem? (i := 1320) (by decide +kernel)) rfl⟩⟩
theorem mx_M_ended : MX y_M_ended b_M_ended 2 (some .int) 1 false := ⟨tbl_in (List.mem_of_getElem? (i := 1341) (by decide +kernel)) rfl, tbl_in (List.mem_of_getElem? (i := 109) (by decide +kernel)) rfl, by decide +kernel, ⟨by decide +kernel, by decide +kernel, by decide +kernel⟩, ⟨tbl_in (List.mem_of_getElem? (i := 1339) (by decide +kernel)) rfl, tbl_in (List.mem_of_getElem? (i := 1340) (by decide +kernel)) rfl⟩⟩
theorem mx_M_greatestIn : MX y_M_greatestIn b_M_greatestIn 4 (some .int) 1 false := ⟨tbl_in (List.mem_of_getElem? (i := 1353) (by decide +kernel)) rfl, tbl_in (List.mem_of_getElem? (i := 109) (by decide +kernel)) rfl, by decide +kernel, ⟨by decide +kernel, by decide +kernel, by decide +kernel⟩, ⟨tbl_in (List.mem_of_getElem? (i := 1352) (by decide +kernel)) rfl, tbl_in (List.mem_of_getElem? (i := 94) (by decide +kernel)) rfl⟩⟩
theorem mx_M_turn : MX y_M_turn b_M_turn 1 (some .int) 0 false := ⟨tbl_in (List.mem_of_getElem? (i := 1345) (by decide +kernel)) rfl, tbl_in (List.mem_of_getElem? (i := 109) (by decide +kernel)) rfl, by decide +kernel, ⟨by decide +kernel, by decide +kernel, by decide +kernel⟩, ⟨tbl_in (List.mem_of_getElem? (i := 1343) (by decide +kernel)) rfl, tbl_in (List.mem_of_getElem? (i := 1344) (by decide +kernel)) rfl⟩⟩
theorem mx_M_turnIt : MX y_M_turnIt b_M_turnIt 2 none 0 false := ⟨tbl_in (List.mem_of_getElem? (i := 1349) (by decide +kernel)) rfl, tbl_in (List.mem_of_getElem? (i := 109) (by decide +kernel)) rfl, by decide +kernel, ⟨by decide +kernel, by decide +kernel, by decide +kernel⟩, ⟨tbl_in (List.mem_of_getElem? (i := 1348) (by decide +kernel)) rfl, tbl_in (List.mem_of_getElem? (i := 93) (by decide +kernel)) rfl⟩⟩
theorem mx_M_dry : MX y_M_dry b_M_dry 4 (some .int) 1 false := ⟨tbl_in (List.mem_of_getElem? (i := 1357) (by decide +kernel)) rfl, tbl_in (List.mem_of_getElem? (i := 109) (by decide +kernel)) rfl, by decide +kernel, ⟨by decide +kernel, by decide +kernel, by decide +kernel⟩, ⟨tbl_in (List.mem_of_getElem? (i := 1355) (by decide +kernel)) rfl, tbl_in (List.mem_of_getElem? (i := 1356) (by decide +kernel)) rfl⟩⟩
theorem mx_M_worthOf : MX y_M_worthOf b_M_worthOf 2 (some .int) 1 false := ⟨tbl_in (List.mem_of_getElem? (i := 1372) (by decide +kernel)) rfl, tbl_in (List.mem_of_getElem? (i := 109) (by decide +kernel)) rfl, by decide +kernel, ⟨by decide +kernel, by decide +kernel, by decide +kernel⟩, ⟨tbl_in (List.mem_of_getElem? (i := 1371) (by decide +kernel)) rfl, tbl_in (List.mem_of_getElem? (i := 96) (by decide +kernel)) rfl⟩⟩
theorem mx_M_worthIf : MX y_M_worthIf b_M_worthIf 4 (some .int) 2 false := ⟨tbl_in (List.mem_of_getElem? (i := 1368) (by decide +kernel)) rfl, tbl_in (List.mem_of_getElem? (i := 109) (by decide +kernel)) rfl, by decide +kernel, ⟨by decide +kernel, by decide +kernel, by decide +kernel⟩, ⟨tbl_in (List.mem_of_getElem? (i := 1367) (by decide +kernel)) rfl, tbl_in (List.mem_of_getElem? (i := 95) (by decide +kernel)) rfl⟩⟩
theorem mx_M_worth : MX y_M_worth b_M_worth 2 (some .int) 1 false := ⟨tbl_in (List.mem_of_getElem? (i := 1364) (by decide +kernel)) rfl, tbl_in (List.mem_of_getElem? (i := 109) (by decide +kernel)) rfl, by decide +kernel, ⟨by decide +kernel, by decide +kernel, by decide +kernel⟩, ⟨tbl_in (List.mem_of_getElem? (i := 1362) (by decide +kernel)) rfl, tbl_in (List.mem_of_getElem? (i := 1363) (by decide +kernel)) rfl⟩⟩
theorem mx_M_best : MX y_M_best b_M_best 7 (some .int) 2 false := ⟨tbl_in (List.mem_of_getElem? (i := 1376) (by decide +kernel)) rfl, tbl_in (List.mem_of_getElem? (i := 109) (by decide +kernel)) rfl, by decide +kernel, ⟨by decide +kernel, by decide +kernel, by decide +kernel⟩, ⟨tbl_in (List.mem_of_getElem? (i := 1374) (by decide +kernel)) rfl, tbl_in (List.mem_of_getElem? (i := 1375) (by decide +kernel)) rfl⟩⟩
theorem mx_M_reach : MX y_M_reach b_M_reach 9 (some .int) 4 false := ⟨tbl_in (List.mem_of_getElem? (i := 1404) (by decide +kernel)) rfl, tbl_in (List.mem_of_getElem? (i := 109) (by decide +kernel)) rfl, by decide +kernel, ⟨by decide +kernel, by decide +kernel, by decide +kernel⟩, ⟨tbl_in (List.mem_of_getElem? (i := 1403) (by decide +kernel)) rfl, tbl_in (List.mem_of_getElem? (i := 97) (by decide +kernel)) rfl⟩⟩
theorem mx_M_matter : MX y_M_matter b_M_matter 6 (some .int) 0 false := ⟨tbl_in (List.mem_of_getElem? (i := 1380) (by decide +kernel)) rfl, tbl_in (List.mem_of_getElem? (i := 109) (by decide +kernel)) rfl, by decide +kernel, ⟨by decide +kernel, by decide +kernel, by decide +kernel⟩, ⟨tbl_in (List.mem_of_getElem? (i := 1378) (by decide +kernel)) rfl, tbl_in (List.mem_of_getElem? (i := 1379) (by decide +kernel)) rfl⟩⟩
theorem mx_M_swing : MX y_M_swing b_M_swing 4 (some .int) 1 false := ⟨tbl_in (List.mem_of_getElem? (i := 1384) (by decide +kernel)) rfl, tbl_in (List.mem_of_getElem? (i := 109) (by decide +kernel)) rfl, by decide +kernel, ⟨by decide +kernel, by decide +kernel, by decide +kernel⟩, ⟨tbl_in (List.mem_of_getElem? (i := 1382) (by decide +kernel)) rfl, tbl_in (List.mem_of_getElem? (i := 1383) (by decide +kernel)) rfl⟩⟩
theorem mx_M_next : MX y_M_next b_M_next 7 (some .int) 1 false := ⟨tbl_in (List.mem_of_getElem? (i := 1388) (by decide +kernel)) rfl, tbl_in (List.mem_of_getElem? (i := 109) (by decide +kernel)) rfl, by decide +kernel, ⟨by decide +kernel, by decide +kernel, by decide +kernel⟩, ⟨tbl_in (List.mem_of_getElem? (i := 1386) (by decide +kernel)) rfl, tbl_in (List.mem_of_getElem? (i := 1387) (by decide +kernel)) rfl⟩⟩
theorem mx_M_ahead : MX y_M_ahead b_M_ahead 5 (some .int) 2 false := ⟨tbl_in (List.mem_of_getElem? (i := 1392) (by decide +kernel)) rfl, tbl_in (List.mem_of_getElem? (i := 109) (by decide +kernel)) rfl, by decide +kernel, ⟨by decide +kernel, by decide +kernel, by decide +kernel⟩, ⟨tbl_in (List.mem_of_getElem? (i := 1390) (by decide +kernel)) rfl, tbl_in (List.mem_of_getElem? (i := 1391) (by decide +kernel)) rfl⟩⟩
theorem mx_M_trace : MX y_M_trace b_M_trace 4 (some .int) 2 false := ⟨tbl_in (List.mem_of_getElem? (i := 1396) (by decide +kernel)) rfl, tbl_in (List.mem_of_getElem? (i := 109) (by decide +kernel)) rfl, by decide +kernel, ⟨by decide +kernel, by decide +kernel, by decide +kernel⟩, ⟨tbl_in (List.mem_of_getElem? (i := 1394) (by decide +kernel)) rfl, tbl_in (List.mem_of_getElem? (i := 1395) (by decide +kernel)) rfl⟩⟩
theorem mx_M_byTurns : MX y_M_byTurns b_M_byTurns 2 (some .int) 1 false := ⟨tbl_in (List.mem_of_getElem? (i := 1400) (by decide +kernel)) rfl, tbl_in (List.mem_of_getElem? (i := 109) (by decide +kernel)) rfl, by decide +kernel, ⟨by decide +kernel, by decide +kernel, by decide +kernel⟩, ⟨tbl_in (List.mem_of_getElem? (i := 1398) (by decide +kernel)) rfl, tbl_in (List.mem_of_getElem? (i := 1399) (by decide +kernel)) rfl⟩⟩
theorem mx_M_seed : MX y_M_seed b_M_seed 3 (some .int) 1 false := ⟨tbl_in (List.mem_of_getElem? (i := 1408) (by decide +kernel)) rfl, tbl_in (List.mem_of_getElem? (i := 109) (by decide +kernel)) rfl, by decide +kernel, ⟨by decide +kernel, by decide +kernel, by decide +kernel⟩, ⟨tbl_in (List.mem_of_getElem? (i := 1406) (by decide +kernel)) rfl, tbl_in (List.mem_of_getElem? (i := 1407) (by decide +kernel)) rfl⟩⟩
theorem mx_M_image : MX y_M_image b_M_image 1 (some .int) 0 false := ⟨tbl_in (List.mem_of_getElem? (i := 1412) (by decide +kernel)) rfl, tbl_in (List.mem_of_getElem? (i := 109) (by decide +kernel)) rfl, by decide +kernel, ⟨by decide +kernel, by decide +kernel, by decide +kernel⟩, ⟨tbl_in (List.mem_of_getElem? (i := 1410) (by decide +kernel)) rfl, tbl_in (List.mem_of_getElem? (i := 1411) (by decide +kernel)) rfl⟩⟩
theorem mx_M_back : MX y_M_back b_M_back 2 (some .int) 0 false := ⟨tbl_in (List.mem_of_getElem? (i := 1416) (by decide +kernel)) rfl, tbl_in (List.mem_of_getElem? (i := 109) (by decide +kernel)) rfl, by decide +kernel, ⟨by decide +kernel, by decide +kernel, by decide +kernel⟩, ⟨tbl_in (List.mem_of_getElem? (i := 1414) (by decide +kernel)) rfl, tbl_in (List.mem_of_getElem? (i := 1415) (by decide +kernel)) rfl⟩⟩
theorem mx_M_hold : MX y_M_hold b_M_hold 3 (some .int) 2 false := ⟨tbl_in (List.mem_of_getElem? (i := 1420) (by decide +kernel)) rfl, tbl_in (List.mem_of_getElem? (i := 109) (by decide +kernel)) rfl, by decide +kernel, ⟨by decide +kernel, by decide +kernel, by decide +kernel⟩, ⟨tbl_in (List.mem_of_getElem? (i := 1418) (by decide +kernel)) rfl, tbl_in (List.mem_of_getElem? (i := 1419) (by decide +kernel)) rfl⟩⟩
theorem mx_M_familyOf : MX y_M_familyOf b_M_familyOf 1 (some .int) 1 true := ⟨tbl_in (List.mem_of_getElem? (i := 1427) (by decide +kernel)) rfl, tbl_in (List.mem_of_getElem? (i := 109) (by decide +kernel)) rfl, by decide +kernel, ⟨by decide +kernel, by decide +kernel, by decide +kernel⟩, tbl_in (List.mem_of_getElem? (i := 1426) (by decide +kernel)) rfl⟩
theorem mx_M_toldBy : MX y_M_toldBy b_M_toldBy 3 (some .int) 1 false := ⟨tbl_in (List.mem_of_getElem? (i := 1431) (by decide +kernel)) rfl, tbl_in (List.mem_of_getElem? (i := 109) (by decide +kernel)) rfl, by decide +kernel, ⟨by decide +kernel, by decide +kernel, by decide +kernel⟩, ⟨tbl_in (List.mem_of_getElem? (i := 1430) (by decide +kernel)) rfl, tbl_in (List.mem_of_getElem? (i := 98) (by decide +kernel)) rfl⟩⟩
theorem mx_M_tells : MX y_M_tells b_M_tells 4 (some .int) 2 false := ⟨tbl_in (List.mem_of_getElem? (i := 1424) (by decide +kernel)) rfl, tbl_in (List.mem_of_getElem? (i := 109) (by decide +kernel)) rfl, by decide +kernel, ⟨by decide +kernel, by decide +kernel, by decide +kernel⟩, ⟨tbl_in (List.mem_of_getElem? (i := 1422) (by decide +kernel)) rfl, tbl_in (List.mem_of_getElem? (i := 1423) (by decide +kernel)) rfl⟩⟩
theorem mx_M_count : MX y_M_count b_M_count 2 (some .int) 1 false := ⟨tbl_in (List.mem_of_getElem? (i := 1435) (by decide +kernel)) rfl, tbl_in (List.mem_of_getElem? (i := 109) (by decide +kernel)) rfl, by decide +kernel, ⟨by decide +kernel, by decide +kernel, by decide +kernel⟩, ⟨tbl_in (List.mem_of_getElem? (i := 1433) (by decide +kernel)) rfl, tbl_in (List.mem_of_getElem? (i := 1434) (by decide +kernel)) rfl⟩⟩
theorem mw_L_91 : MW R_L 91 y_L_isPlayer := Or.inl (tbl_in (List.mem_of_getElem? (i := 486) (by decide +kernel)) rfl)
theorem mw_L_95 : MW R_L 95 y_L_isPair := Or.inl (tbl_in (List.mem_of_getElem? (i := 489) (by decide +kernel)) rfl)
theorem mw_L_101 : MW R_L 101 y_G_addCard := Or.inr ⟨"LayeredCards", nst_in (List.mem_of_getElem? (i := 492) (by decide +kernel)) rfl⟩
theorem mw_L_105 : MW R_L 105 y_T_append := Or.inr ⟨"LayeredCards", nst_in (List.mem_of_getElem? (i := 508) (by decide +kernel)) rfl⟩
theorem mw_L_111 : MW R_L 111 y_L_deckOnTape := Or.inl (tbl_in (List.mem_of_getElem? (i := 517) (by decide +kernel)) rfl)
theorem mw_L_115 : MW R_L 115 y_T_readText := Or.inr ⟨"LayeredCards", nst_in (List.mem_of_getElem? (i := 521) (by decide +kernel)) rfl⟩
theorem mw_L_124 : MW R_L 124 y_L_at := Or.inl (tbl_in (List.mem_of_getElem? (i := 600) (by decide +kernel)) rfl)
theorem mw_L_137 : MW R_L 137 y_G_has := Or.inr ⟨"LayeredCards", nst_in (List.mem_of_getElem? (i := 606) (by decide +kernel)) rfl⟩
theorem mw_L_155 : MW R_L 155 y_G_moveTo := Or.inr ⟨"LayeredCards", nst_in (List.mem_of_getElem? (i := 614) (by decide +kernel)) rfl⟩
theorem mw_L_163 : MW R_L 163 y_L_put := Or.inl (tbl_in (List.mem_of_getElem? (i := 623) (by decide +kernel)) rfl)
theorem mw_L_170 : MW R_L 170 y_G_countIn := Or.inr ⟨"LayeredCards", nst_in (List.mem_of_getElem? (i := 632) (by decide +kernel)) rfl⟩
theorem mw_L_174 : MW R_L 174 y_Y_workOut := Or.inr ⟨"LayeredCards", nst_in (List.mem_of_getElem? (i := 641) (by decide +kernel)) rfl⟩
theorem mw_L_187 : MW R_L 187 y_L_isLayerOnTable := Or.inl (tbl_in (List.mem_of_getElem? (i := 696) (by decide +kernel)) rfl)
theorem mw_L_190 : MW R_L 190 y_L_looksAtOther := Or.inl (tbl_in (List.mem_of_getElem? (i := 701) (by decide +kernel)) rfl)
theorem mw_L_193 : MW R_L 193 y_L_familyOf := Or.inl (tbl_in (List.mem_of_getElem? (i := 700) (by decide +kernel)) rfl)
theorem mw_L_197 : MW R_L 197 y_E_becomeTold := Or.inr ⟨"LayeredCards", nst_in (List.mem_of_getElem? (i := 706) (by decide +kernel)) rfl⟩
theorem mw_L_201 : MW R_L 201 y_E_replaceBy := Or.inr ⟨"LayeredCards", nst_in (List.mem_of_getElem? (i := 715) (by decide +kernel)) rfl⟩
theorem mw_L_204 : MW R_L 204 y_E_told := Or.inr ⟨"LayeredCards", nst_in (List.mem_of_getElem? (i := 733) (by decide +kernel)) rfl⟩
theorem mw_L_214 : MW R_L 214 y_G_playCard := Or.inr ⟨"LayeredCards", nst_in (List.mem_of_getElem? (i := 744) (by decide +kernel)) rfl⟩
theorem mw_L_220 : MW R_L 220 y_O_empty := Or.inr ⟨"LayeredCards", nst_in (List.mem_of_getElem? (i := 761) (by decide +kernel)) rfl⟩
theorem mw_L_223 : MW R_L 223 y_R_resolveTop := Or.inr ⟨"LayeredCards", nst_in (List.mem_of_getElem? (i := 765) (by decide +kernel)) rfl⟩
theorem mw_L_227 : MW R_L 227 y_R_runPile := Or.inr ⟨"LayeredCards", nst_in (List.mem_of_getElem? (i := 847) (by decide +kernel)) rfl⟩
theorem mw_L_242 : MW R_L 242 y_G_isQuiet := Or.inr ⟨"LayeredCards", nst_in (List.mem_of_getElem? (i := 882) (by decide +kernel)) rfl⟩
theorem mw_L_246 : MW R_L 246 y_R_takeTurn := Or.inr ⟨"LayeredCards", nst_in (List.mem_of_getElem? (i := 887) (by decide +kernel)) rfl⟩
theorem mw_L_252 : MW R_L 252 y_G_copyFrom := Or.inr ⟨"LayeredCards", nst_in (List.mem_of_getElem? (i := 897) (by decide +kernel)) rfl⟩
theorem mw_L_255 : MW R_L 255 y_L_worthPlayed := Or.inl (tbl_in (List.mem_of_getElem? (i := 906) (by decide +kernel)) rfl)
theorem mw_L_258 : MW R_L 258 y_G_worthTo := Or.inr ⟨"LayeredCards", nst_in (List.mem_of_getElem? (i := 910) (by decide +kernel)) rfl⟩
theorem mw_L_261 : MW R_L 261 y_L_outcome := Or.inl (tbl_in (List.mem_of_getElem? (i := 922) (by decide +kernel)) rfl)
theorem mw_L_265 : MW R_L 265 y_G_nthIn := Or.inr ⟨"LayeredCards", nst_in (List.mem_of_getElem? (i := 925) (by decide +kernel)) rfl⟩
theorem mw_L_269 : MW R_L 269 y_L_runWithout := Or.inl (tbl_in (List.mem_of_getElem? (i := 930) (by decide +kernel)) rfl)
theorem mw_L_272 : MW R_L 272 y_G_takeOff := Or.inr ⟨"LayeredCards", nst_in (List.mem_of_getElem? (i := 934) (by decide +kernel)) rfl⟩
theorem mw_L_278 : MW R_L 278 y_L_seedAfter := Or.inl (tbl_in (List.mem_of_getElem? (i := 943) (by decide +kernel)) rfl)
theorem mw_L_281 : MW R_L 281 y_L_drawnBelow := Or.inl (tbl_in (List.mem_of_getElem? (i := 944) (by decide +kernel)) rfl)
theorem mw_L_296 : MW R_L 296 y_L_layered := Or.inl (tbl_in (List.mem_of_getElem? (i := 973) (by decide +kernel)) rfl)
theorem mw_L_299 : MW R_L 299 y_L_replacedAmount := Or.inl (tbl_in (List.mem_of_getElem? (i := 974) (by decide +kernel)) rfl)
theorem mw_L_311 : MW R_L 311 y_G_lostBits := Or.inr ⟨"LayeredCards", nst_in (List.mem_of_getElem? (i := 979) (by decide +kernel)) rfl⟩
theorem mw_L_325 : MW R_L 325 y_L_within := Or.inl (tbl_in (List.mem_of_getElem? (i := 685) (by decide +kernel)) rfl)
theorem mw_K_27 : MW R_K 27 y_L_put := Or.inr ⟨"LayeredCards", nst_in (List.mem_of_getElem? (i := 500) (by decide +kernel)) rfl⟩
theorem mw_E_26 : MW R_E 26 y_L_within := Or.inr ⟨"LayeredCards", nst_in (List.mem_of_getElem? (i := 714) (by decide +kernel)) rfl⟩
theorem mw_E_39 : MW R_E 39 y_E_become := Or.inl (tbl_in (List.mem_of_getElem? (i := 710) (by decide +kernel)) rfl)
theorem mw_E_43 : MW R_E 43 y_L_codeOf := Or.inr ⟨"LayeredCards", nst_in (List.mem_of_getElem? (i := 737) (by decide +kernel)) rfl⟩
theorem mw_E_54 : MW R_E 54 y_L_at := Or.inr ⟨"LayeredCards", nst_in (List.mem_of_getElem? (i := 719) (by decide +kernel)) rfl⟩
theorem mw_E_58 : MW R_E 58 y_E_fits := Or.inl (tbl_in (List.mem_of_getElem? (i := 720) (by decide +kernel)) rfl)
theorem mw_E_62 : MW R_E 62 y_E_use := Or.inl (tbl_in (List.mem_of_getElem? (i := 725) (by decide +kernel)) rfl)
theorem mw_E_71 : MW R_E 71 y_L_familyOf := Or.inr ⟨"LayeredCards", nst_in (List.mem_of_getElem? (i := 724) (by decide +kernel)) rfl⟩
theorem mw_E_81 : MW R_E 81 y_L_put := Or.inr ⟨"LayeredCards", nst_in (List.mem_of_getElem? (i := 729) (by decide +kernel)) rfl⟩
theorem mw_E_88 : MW R_E 88 y_L_replacedAmount := Or.inr ⟨"LayeredCards", nst_in (List.mem_of_getElem? (i := 730) (by decide +kernel)) rfl⟩
theorem mw_G_38 : MW R_G 38 y_L_copyRow := Or.inr ⟨"LayeredCards", nst_in (List.mem_of_getElem? (i := 901) (by decide +kernel)) rfl⟩
theorem mw_G_63 : MW R_G 63 y_K_write := Or.inr ⟨"LayeredCards", nst_in (List.mem_of_getElem? (i := 496) (by decide +kernel)) rfl⟩
theorem mw_G_69 : MW R_G 69 y_L_put := Or.inr ⟨"LayeredCards", nst_in (List.mem_of_getElem? (i := 503) (by decide +kernel)) rfl⟩
theorem mw_G_73 : MW R_G 73 y_G_push := Or.inl (tbl_in (List.mem_of_getElem? (i := 748) (by decide +kernel)) rfl)
theorem mw_G_77 : MW R_G 77 y_G_moveTo := Or.inl (tbl_in (List.mem_of_getElem? (i := 752) (by decide +kernel)) rfl)
theorem mw_G_81 : MW R_G 81 y_L_at := Or.inr ⟨"LayeredCards", nst_in (List.mem_of_getElem? (i := 636) (by decide +kernel)) rfl⟩
theorem mw_G_88 : MW R_G 88 y_G_countIn := Or.inl (tbl_in (List.mem_of_getElem? (i := 798) (by decide +kernel)) rfl)
theorem mw_G_92 : MW R_G 92 y_G_changeLife := Or.inl (tbl_in (List.mem_of_getElem? (i := 799) (by decide +kernel)) rfl)
theorem mw_G_95 : MW R_G 95 y_L_seedAfter := Or.inr ⟨"LayeredCards", nst_in (List.mem_of_getElem? (i := 800) (by decide +kernel)) rfl⟩
theorem mw_G_99 : MW R_G 99 y_L_drawnBelow := Or.inr ⟨"LayeredCards", nst_in (List.mem_of_getElem? (i := 804) (by decide +kernel)) rfl⟩
theorem mw_G_102 : MW R_G 102 y_G_nthIn := Or.inl (tbl_in (List.mem_of_getElem? (i := 807) (by decide +kernel)) rfl)
theorem mw_G_106 : MW R_G 106 y_L_within := Or.inr ⟨"LayeredCards", nst_in (List.mem_of_getElem? (i := 793) (by decide +kernel)) rfl⟩
theorem mw_G_109 : MW R_G 109 y_G_lostBits := Or.inl (tbl_in (List.mem_of_getElem? (i := 886) (by decide +kernel)) rfl)
theorem mw_Y_33 : MW R_Y 33 y_L_copyRow := Or.inr ⟨"LayeredCards", nst_in (List.mem_of_getElem? (i := 645) (by decide +kernel)) rfl⟩
theorem mw_Y_37 : MW R_Y 37 y_Y_gather := Or.inl (tbl_in (List.mem_of_getElem? (i := 654) (by decide +kernel)) rfl)
theorem mw_Y_48 : MW R_Y 48 y_Y_takeNext := Or.inl (tbl_in (List.mem_of_getElem? (i := 667) (by decide +kernel)) rfl)
theorem mw_Y_52 : MW R_Y 52 y_L_put := Or.inr ⟨"LayeredCards", nst_in (List.mem_of_getElem? (i := 662) (by decide +kernel)) rfl⟩
theorem mw_Y_56 : MW R_Y 56 y_Y_use := Or.inl (tbl_in (List.mem_of_getElem? (i := 678) (by decide +kernel)) rfl)
theorem mw_Y_66 : MW R_Y 66 y_L_at := Or.inr ⟨"LayeredCards", nst_in (List.mem_of_getElem? (i := 658) (by decide +kernel)) rfl⟩
theorem mw_Y_75 : MW R_Y 75 y_L_familyOf := Or.inr ⟨"LayeredCards", nst_in (List.mem_of_getElem? (i := 659) (by decide +kernel)) rfl⟩
theorem mw_Y_79 : MW R_Y 79 y_Y_countOn := Or.inl (tbl_in (List.mem_of_getElem? (i := 663) (by decide +kernel)) rfl)
theorem mw_Y_86 : MW R_Y 86 y_Y_waits := Or.inl (tbl_in (List.mem_of_getElem? (i := 671) (by decide +kernel)) rfl)
theorem mw_Y_90 : MW R_Y 90 y_L_looksAtOther := Or.inr ⟨"LayeredCards", nst_in (List.mem_of_getElem? (i := 675) (by decide +kernel)) rfl⟩
theorem mw_Y_99 : MW R_Y 99 y_L_layered := Or.inr ⟨"LayeredCards", nst_in (List.mem_of_getElem? (i := 682) (by decide +kernel)) rfl⟩
theorem mw_O_25 : MW R_O 25 y_L_put := Or.inr ⟨"LayeredCards", nst_in (List.mem_of_getElem? (i := 777) (by decide +kernel)) rfl⟩
theorem mw_P_33 : MW R_P 33 y_L_put := Or.inr ⟨"LayeredCards", nst_in (List.mem_of_getElem? (i := 863) (by decide +kernel)) rfl⟩
theorem mw_P_40 : MW R_P 40 y_L_at := Or.inr ⟨"LayeredCards", nst_in (List.mem_of_getElem? (i := 864) (by decide +kernel)) rfl⟩
theorem mw_P_50 : MW R_P 50 y_P_samePiles := Or.inl (tbl_in (List.mem_of_getElem? (i := 869) (by decide +kernel)) rfl)
theorem mw_R_51 : MW R_R 51 y_R_hasEnded := Or.inl (tbl_in (List.mem_of_getElem? (i := 851) (by decide +kernel)) rfl)
theorem mw_R_55 : MW R_R 55 y_R_resolveTop := Or.inl (tbl_in (List.mem_of_getElem? (i := 873) (by decide +kernel)) rfl)
theorem mw_R_59 : MW R_R 59 y_G_lostBits := Or.inr ⟨"LayeredCards", nst_in (List.mem_of_getElem? (i := 855) (by decide +kernel)) rfl⟩
theorem mw_R_68 : MW R_R 68 y_P_keep := Or.inr ⟨"LayeredCards", nst_in (List.mem_of_getElem? (i := 859) (by decide +kernel)) rfl⟩
theorem mw_R_72 : MW R_R 72 y_P_sameAs := Or.inr ⟨"LayeredCards", nst_in (List.mem_of_getElem? (i := 865) (by decide +kernel)) rfl⟩
theorem mw_R_76 : MW R_R 76 y_G_pop := Or.inr ⟨"LayeredCards", nst_in (List.mem_of_getElem? (i := 769) (by decide +kernel)) rfl⟩
theorem mw_R_79 : MW R_R 79 y_O_addThing := Or.inr ⟨"LayeredCards", nst_in (List.mem_of_getElem? (i := 773) (by decide +kernel)) rfl⟩
theorem mw_R_85 : MW R_R 85 y_E_becomeTold := Or.inr ⟨"LayeredCards", nst_in (List.mem_of_getElem? (i := 778) (by decide +kernel)) rfl⟩
theorem mw_R_88 : MW R_R 88 y_R_happen := Or.inl (tbl_in (List.mem_of_getElem? (i := 779) (by decide +kernel)) rfl)
theorem mw_R_97 : MW R_R 97 y_L_at := Or.inr ⟨"LayeredCards", nst_in (List.mem_of_getElem? (i := 815) (by decide +kernel)) rfl⟩
theorem mw_R_101 : MW R_R 101 y_L_familyOf := Or.inr ⟨"LayeredCards", nst_in (List.mem_of_getElem? (i := 819) (by decide +kernel)) rfl⟩
theorem mw_R_104 : MW R_R 104 y_G_layDown := Or.inr ⟨"LayeredCards", nst_in (List.mem_of_getElem? (i := 820) (by decide +kernel)) rfl⟩
theorem mw_R_107 : MW R_R 107 y_G_moveTo := Or.inr ⟨"LayeredCards", nst_in (List.mem_of_getElem? (i := 824) (by decide +kernel)) rfl⟩
theorem mw_R_111 : MW R_R 111 y_R_stopTop := Or.inl (tbl_in (List.mem_of_getElem? (i := 825) (by decide +kernel)) rfl)
theorem mw_R_118 : MW R_R 118 y_R_clearYoungest := Or.inl (tbl_in (List.mem_of_getElem? (i := 829) (by decide +kernel)) rfl)
theorem mw_R_122 : MW R_R 122 y_Y_workOut := Or.inr ⟨"LayeredCards", nst_in (List.mem_of_getElem? (i := 837) (by decide +kernel)) rfl⟩
theorem mw_R_128 : MW R_R 128 y_R_begin := Or.inl (tbl_in (List.mem_of_getElem? (i := 838) (by decide +kernel)) rfl)
theorem mw_R_138 : MW R_R 138 y_G_takeOff := Or.inr ⟨"LayeredCards", nst_in (List.mem_of_getElem? (i := 833) (by decide +kernel)) rfl⟩
theorem mw_R_144 : MW R_R 144 y_E_become := Or.inr ⟨"LayeredCards", nst_in (List.mem_of_getElem? (i := 842) (by decide +kernel)) rfl⟩
theorem mw_R_147 : MW R_R 147 y_E_replaceBy := Or.inr ⟨"LayeredCards", nst_in (List.mem_of_getElem? (i := 783) (by decide +kernel)) rfl⟩
theorem mw_R_150 : MW R_R 150 y_E_told := Or.inr ⟨"LayeredCards", nst_in (List.mem_of_getElem? (i := 784) (by decide +kernel)) rfl⟩
theorem mw_R_153 : MW R_R 153 y_O_addEvent := Or.inr ⟨"LayeredCards", nst_in (List.mem_of_getElem? (i := 785) (by decide +kernel)) rfl⟩
theorem mw_R_165 : MW R_R 165 y_G_changeLife := Or.inr ⟨"LayeredCards", nst_in (List.mem_of_getElem? (i := 789) (by decide +kernel)) rfl⟩
theorem mw_R_168 : MW R_R 168 y_G_drawOne := Or.inr ⟨"LayeredCards", nst_in (List.mem_of_getElem? (i := 794) (by decide +kernel)) rfl⟩
theorem mw_R_171 : MW R_R 171 y_R_castShadows := Or.inl (tbl_in (List.mem_of_getElem? (i := 811) (by decide +kernel)) rfl)
theorem mw_R_186 : MW R_R 186 y_L_codeOf := Or.inr ⟨"LayeredCards", nst_in (List.mem_of_getElem? (i := 817) (by decide +kernel)) rfl⟩
theorem mw_R_190 : MW R_R 190 y_G_push := Or.inr ⟨"LayeredCards", nst_in (List.mem_of_getElem? (i := 818) (by decide +kernel)) rfl⟩
theorem mw_R_197 : MW R_R 197 y_G_countIn := Or.inr ⟨"LayeredCards", nst_in (List.mem_of_getElem? (i := 891) (by decide +kernel)) rfl⟩
theorem mw_R_200 : MW R_R 200 y_G_nthIn := Or.inr ⟨"LayeredCards", nst_in (List.mem_of_getElem? (i := 892) (by decide +kernel)) rfl⟩
theorem mw_T_31 : MW R_T 31 y_L_put := Or.inr ⟨"LayeredCards", nst_in (List.mem_of_getElem? (i := 512) (by decide +kernel)) rfl⟩
theorem mw_T_41 : MW R_T 41 y_T_readLine := Or.inl (tbl_in (List.mem_of_getElem? (i := 525) (by decide +kernel)) rfl)
theorem mw_T_45 : MW R_T 45 y_T_skip := Or.inl (tbl_in (List.mem_of_getElem? (i := 596) (by decide +kernel)) rfl)
theorem mw_T_49 : MW R_T 49 y_T_readWord := Or.inl (tbl_in (List.mem_of_getElem? (i := 529) (by decide +kernel)) rfl)
theorem mw_T_53 : MW R_T 53 y_T_readDigit := Or.inl (tbl_in (List.mem_of_getElem? (i := 592) (by decide +kernel)) rfl)
theorem mw_T_57 : MW R_T 57 y_T_lettersAlike := Or.inl (tbl_in (List.mem_of_getElem? (i := 533) (by decide +kernel)) rfl)
theorem mw_T_60 : MW R_T 60 y_L_at := Or.inr ⟨"LayeredCards", nst_in (List.mem_of_getElem? (i := 586) (by decide +kernel)) rfl⟩
theorem mw_W_13 : MW RW 13 y_L_card := Or.inl (tbl_in (List.mem_of_getElem? (i := 482) (by decide +kernel)) rfl)
theorem mw_W_17 : MW RW 17 y_M_card := Or.inl (tbl_in (List.mem_of_getElem? (i := 1094) (by decide +kernel)) rfl)
theorem mw_W_18 : MW RW 18 y_L_feed := Or.inl (tbl_in (List.mem_of_getElem? (i := 504) (by decide +kernel)) rfl)
theorem mw_W_22 : MW RW 22 y_M_feed := Or.inl (tbl_in (List.mem_of_getElem? (i := 1105) (by decide +kernel)) rfl)
theorem mw_W_23 : MW RW 23 y_L_deck := Or.inl (tbl_in (List.mem_of_getElem? (i := 513) (by decide +kernel)) rfl)
theorem mw_W_27 : MW RW 27 y_M_deck := Or.inl (tbl_in (List.mem_of_getElem? (i := 1109) (by decide +kernel)) rfl)
theorem mw_W_28 : MW RW 28 y_L_of := Or.inl (tbl_in (List.mem_of_getElem? (i := 602) (by decide +kernel)) rfl)
theorem mw_W_32 : MW RW 32 y_M_of := Or.inl (tbl_in (List.mem_of_getElem? (i := 1161) (by decide +kernel)) rfl)
theorem mw_W_33 : MW RW 33 y_L_deal := Or.inl (tbl_in (List.mem_of_getElem? (i := 610) (by decide +kernel)) rfl)
theorem mw_W_36 : MW RW 36 y_M_deal := Or.inl (tbl_in (List.mem_of_getElem? (i := 1173) (by decide +kernel)) rfl)
theorem mw_W_37 : MW RW 37 y_L_base := Or.inl (tbl_in (List.mem_of_getElem? (i := 618) (by decide +kernel)) rfl)
theorem mw_W_40 : MW RW 40 y_M_base := Or.inl (tbl_in (List.mem_of_getElem? (i := 1177) (by decide +kernel)) rfl)
theorem mw_W_41 : MW RW 41 y_L_mend := Or.inl (tbl_in (List.mem_of_getElem? (i := 624) (by decide +kernel)) rfl)
theorem mw_W_44 : MW RW 44 y_M_mend := Or.inl (tbl_in (List.mem_of_getElem? (i := 1182) (by decide +kernel)) rfl)
theorem mw_W_45 : MW RW 45 y_L_player := Or.inl (tbl_in (List.mem_of_getElem? (i := 628) (by decide +kernel)) rfl)
theorem mw_W_48 : MW RW 48 y_M_player := Or.inl (tbl_in (List.mem_of_getElem? (i := 1186) (by decide +kernel)) rfl)
theorem mw_W_49 : MW RW 49 y_L_value := Or.inl (tbl_in (List.mem_of_getElem? (i := 637) (by decide +kernel)) rfl)
theorem mw_W_52 : MW RW 52 y_M_value := Or.inl (tbl_in (List.mem_of_getElem? (i := 1194) (by decide +kernel)) rfl)
theorem mw_W_53 : MW RW 53 y_L_layer := Or.inl (tbl_in (List.mem_of_getElem? (i := 688) (by decide +kernel)) rfl)
theorem mw_W_56 : MW RW 56 y_M_layer := Or.inl (tbl_in (List.mem_of_getElem? (i := 1233) (by decide +kernel)) rfl)
theorem mw_W_57 : MW RW 57 y_L_depends := Or.inl (tbl_in (List.mem_of_getElem? (i := 692) (by decide +kernel)) rfl)
theorem mw_W_60 : MW RW 60 y_M_depends := Or.inl (tbl_in (List.mem_of_getElem? (i := 1237) (by decide +kernel)) rfl)
theorem mw_W_61 : MW RW 61 y_L_used := Or.inl (tbl_in (List.mem_of_getElem? (i := 702) (by decide +kernel)) rfl)
theorem mw_W_64 : MW RW 64 y_M_used := Or.inl (tbl_in (List.mem_of_getElem? (i := 1241) (by decide +kernel)) rfl)
theorem mw_W_65 : MW RW 65 y_L_play := Or.inl (tbl_in (List.mem_of_getElem? (i := 740) (by decide +kernel)) rfl)
theorem mw_W_68 : MW RW 68 y_M_play := Or.inl (tbl_in (List.mem_of_getElem? (i := 1261) (by decide +kernel)) rfl)
theorem mw_W_69 : MW RW 69 y_L_pile := Or.inl (tbl_in (List.mem_of_getElem? (i := 753) (by decide +kernel)) rfl)
theorem mw_W_72 : MW RW 72 y_M_pile := Or.inl (tbl_in (List.mem_of_getElem? (i := 1273) (by decide +kernel)) rfl)
theorem mw_W_73 : MW RW 73 y_L_resolve := Or.inl (tbl_in (List.mem_of_getElem? (i := 757) (by decide +kernel)) rfl)
theorem mw_W_76 : MW RW 76 y_M_resolve := Or.inl (tbl_in (List.mem_of_getElem? (i := 1277) (by decide +kernel)) rfl)
theorem mw_W_77 : MW RW 77 y_L_run := Or.inl (tbl_in (List.mem_of_getElem? (i := 843) (by decide +kernel)) rfl)
theorem mw_W_80 : MW RW 80 y_M_run := Or.inl (tbl_in (List.mem_of_getElem? (i := 1318) (by decide +kernel)) rfl)
theorem mw_W_81 : MW RW 81 y_L_ended := Or.inl (tbl_in (List.mem_of_getElem? (i := 874) (by decide +kernel)) rfl)
theorem mw_W_84 : MW RW 84 y_M_ended := Or.inl (tbl_in (List.mem_of_getElem? (i := 1338) (by decide +kernel)) rfl)
theorem mw_W_85 : MW RW 85 y_L_turn := Or.inl (tbl_in (List.mem_of_getElem? (i := 878) (by decide +kernel)) rfl)
theorem mw_W_88 : MW RW 88 y_M_turn := Or.inl (tbl_in (List.mem_of_getElem? (i := 1342) (by decide +kernel)) rfl)
theorem mw_W_89 : MW RW 89 y_L_dry := Or.inl (tbl_in (List.mem_of_getElem? (i := 893) (by decide +kernel)) rfl)
theorem mw_W_92 : MW RW 92 y_M_dry := Or.inl (tbl_in (List.mem_of_getElem? (i := 1354) (by decide +kernel)) rfl)
theorem mw_W_93 : MW RW 93 y_L_worth := Or.inl (tbl_in (List.mem_of_getElem? (i := 902) (by decide +kernel)) rfl)
theorem mw_W_96 : MW RW 96 y_M_worth := Or.inl (tbl_in (List.mem_of_getElem? (i := 1361) (by decide +kernel)) rfl)
theorem mw_W_97 : MW RW 97 y_L_best := Or.inl (tbl_in (List.mem_of_getElem? (i := 914) (by decide +kernel)) rfl)
theorem mw_W_100 : MW RW 100 y_M_best := Or.inl (tbl_in (List.mem_of_getElem? (i := 1373) (by decide +kernel)) rfl)
theorem mw_W_101 : MW RW 101 y_L_byTurns := Or.inl (tbl_in (List.mem_of_getElem? (i := 918) (by decide +kernel)) rfl)
theorem mw_W_104 : MW RW 104 y_M_byTurns := Or.inl (tbl_in (List.mem_of_getElem? (i := 1397) (by decide +kernel)) rfl)
theorem mw_W_105 : MW RW 105 y_L_matter := Or.inl (tbl_in (List.mem_of_getElem? (i := 926) (by decide +kernel)) rfl)
theorem mw_W_108 : MW RW 108 y_M_matter := Or.inl (tbl_in (List.mem_of_getElem? (i := 1377) (by decide +kernel)) rfl)
theorem mw_W_109 : MW RW 109 y_L_swing := Or.inl (tbl_in (List.mem_of_getElem? (i := 935) (by decide +kernel)) rfl)
theorem mw_W_112 : MW RW 112 y_M_swing := Or.inl (tbl_in (List.mem_of_getElem? (i := 1381) (by decide +kernel)) rfl)
theorem mw_W_113 : MW RW 113 y_L_next := Or.inl (tbl_in (List.mem_of_getElem? (i := 939) (by decide +kernel)) rfl)
theorem mw_W_116 : MW RW 116 y_M_next := Or.inl (tbl_in (List.mem_of_getElem? (i := 1385) (by decide +kernel)) rfl)
theorem mw_W_117 : MW RW 117 y_L_ahead := Or.inl (tbl_in (List.mem_of_getElem? (i := 945) (by decide +kernel)) rfl)
theorem mw_W_120 : MW RW 120 y_M_ahead := Or.inl (tbl_in (List.mem_of_getElem? (i := 1389) (by decide +kernel)) rfl)
theorem mw_W_121 : MW RW 121 y_L_trace := Or.inl (tbl_in (List.mem_of_getElem? (i := 949) (by decide +kernel)) rfl)
theorem mw_W_124 : MW RW 124 y_M_trace := Or.inl (tbl_in (List.mem_of_getElem? (i := 1393) (by decide +kernel)) rfl)
theorem mw_W_125 : MW RW 125 y_L_seed := Or.inl (tbl_in (List.mem_of_getElem? (i := 953) (by decide +kernel)) rfl)
theorem mw_W_128 : MW RW 128 y_M_seed := Or.inl (tbl_in (List.mem_of_getElem? (i := 1405) (by decide +kernel)) rfl)
theorem mw_W_129 : MW RW 129 y_L_image := Or.inl (tbl_in (List.mem_of_getElem? (i := 957) (by decide +kernel)) rfl)
theorem mw_W_132 : MW RW 132 y_M_image := Or.inl (tbl_in (List.mem_of_getElem? (i := 1409) (by decide +kernel)) rfl)
theorem mw_W_133 : MW RW 133 y_L_back := Or.inl (tbl_in (List.mem_of_getElem? (i := 961) (by decide +kernel)) rfl)
theorem mw_W_136 : MW RW 136 y_M_back := Or.inl (tbl_in (List.mem_of_getElem? (i := 1413) (by decide +kernel)) rfl)
theorem mw_W_137 : MW RW 137 y_L_hold := Or.inl (tbl_in (List.mem_of_getElem? (i := 965) (by decide +kernel)) rfl)
theorem mw_W_140 : MW RW 140 y_M_hold := Or.inl (tbl_in (List.mem_of_getElem? (i := 1417) (by decide +kernel)) rfl)
theorem mw_W_141 : MW RW 141 y_L_tells := Or.inl (tbl_in (List.mem_of_getElem? (i := 969) (by decide +kernel)) rfl)
theorem mw_W_144 : MW RW 144 y_M_tells := Or.inl (tbl_in (List.mem_of_getElem? (i := 1421) (by decide +kernel)) rfl)
theorem mw_W_145 : MW RW 145 y_L_count := Or.inl (tbl_in (List.mem_of_getElem? (i := 975) (by decide +kernel)) rfl)
theorem mw_W_148 : MW RW 148 y_M_count := Or.inl (tbl_in (List.mem_of_getElem? (i := 1432) (by decide +kernel)) rfl)
theorem mw_M_73 : MW R_M 73 y_M_in := Or.inl (tbl_in (List.mem_of_getElem? (i := 1098) (by decide +kernel)) rfl)
theorem mw_M_77 : MW R_M 77 y_M_add := Or.inl (tbl_in (List.mem_of_getElem? (i := 1101) (by decide +kernel)) rfl)
theorem mw_M_119 : MW R_M 119 y_M_sees := Or.inl (tbl_in (List.mem_of_getElem? (i := 1157) (by decide +kernel)) rfl)
theorem mw_M_133 : MW R_M 133 y_M_wordOf := Or.inl (tbl_in (List.mem_of_getElem? (i := 1125) (by decide +kernel)) rfl)
theorem mw_M_137 : MW R_M 137 y_M_goes := Or.inl (tbl_in (List.mem_of_getElem? (i := 1143) (by decide +kernel)) rfl)
theorem mw_M_141 : MW R_M 141 y_M_must := Or.inl (tbl_in (List.mem_of_getElem? (i := 1153) (by decide +kernel)) rfl)
theorem mw_M_145 : MW R_M 145 y_M_wordHere := Or.inl (tbl_in (List.mem_of_getElem? (i := 1121) (by decide +kernel)) rfl)
theorem mw_M_148 : MW R_M 148 y_M_digit := Or.inl (tbl_in (List.mem_of_getElem? (i := 1149) (by decide +kernel)) rfl)
theorem mw_M_152 : MW R_M 152 y_M_line := Or.inl (tbl_in (List.mem_of_getElem? (i := 1117) (by decide +kernel)) rfl)
theorem mw_M_156 : MW R_M 156 y_M_lines := Or.inl (tbl_in (List.mem_of_getElem? (i := 1113) (by decide +kernel)) rfl)
theorem mw_M_160 : MW R_M 160 y_M_isCard := Or.inl (tbl_in (List.mem_of_getElem? (i := 1165) (by decide +kernel)) rfl)
theorem mw_M_164 : MW R_M 164 y_M_isAt := Or.inl (tbl_in (List.mem_of_getElem? (i := 1169) (by decide +kernel)) rfl)
theorem mw_M_168 : MW R_M 168 y_M_manyAt := Or.inl (tbl_in (List.mem_of_getElem? (i := 1190) (by decide +kernel)) rfl)
theorem mw_M_174 : MW R_M 174 y_M_isLayer := Or.inl (tbl_in (List.mem_of_getElem? (i := 1210) (by decide +kernel)) rfl)
theorem mw_M_177 : MW R_M 177 y_M_isUsed := Or.inl (tbl_in (List.mem_of_getElem? (i := 1214) (by decide +kernel)) rfl)
theorem mw_M_180 : MW R_M 180 y_M_hangs := Or.inl (tbl_in (List.mem_of_getElem? (i := 1222) (by decide +kernel)) rfl)
theorem mw_M_183 : MW R_M 183 y_M_isFree := Or.inl (tbl_in (List.mem_of_getElem? (i := 1218) (by decide +kernel)) rfl)
theorem mw_M_186 : MW R_M 186 y_M_held := Or.inl (tbl_in (List.mem_of_getElem? (i := 1230) (by decide +kernel)) rfl)
theorem mw_M_189 : MW R_M 189 y_M_nextLayer := Or.inl (tbl_in (List.mem_of_getElem? (i := 1206) (by decide +kernel)) rfl)
theorem mw_M_192 : MW R_M 192 y_M_use := Or.inl (tbl_in (List.mem_of_getElem? (i := 1226) (by decide +kernel)) rfl)
theorem mw_M_196 : MW R_M 196 y_M_layered := Or.inl (tbl_in (List.mem_of_getElem? (i := 1202) (by decide +kernel)) rfl)
theorem mw_M_199 : MW R_M 199 y_M_valueNow := Or.inl (tbl_in (List.mem_of_getElem? (i := 1198) (by decide +kernel)) rfl)
theorem mw_M_211 : MW R_M 211 y_M_fits := Or.inl (tbl_in (List.mem_of_getElem? (i := 1253) (by decide +kernel)) rfl)
theorem mw_M_214 : MW R_M 214 y_M_wasUsed := Or.inl (tbl_in (List.mem_of_getElem? (i := 1257) (by decide +kernel)) rfl)
theorem mw_M_220 : MW R_M 220 y_M_nextReplacer := Or.inl (tbl_in (List.mem_of_getElem? (i := 1249) (by decide +kernel)) rfl)
theorem mw_M_224 : MW R_M 224 y_M_draw := Or.inl (tbl_in (List.mem_of_getElem? (i := 1297) (by decide +kernel)) rfl)
theorem mw_M_227 : MW R_M 227 y_M_push := Or.inl (tbl_in (List.mem_of_getElem? (i := 1269) (by decide +kernel)) rfl)
theorem mw_M_230 : MW R_M 230 y_M_replaced := Or.inl (tbl_in (List.mem_of_getElem? (i := 1245) (by decide +kernel)) rfl)
theorem mw_M_241 : MW R_M 241 y_M_drawOne := Or.inl (tbl_in (List.mem_of_getElem? (i := 1293) (by decide +kernel)) rfl)
theorem mw_M_244 : MW R_M 244 y_M_echoes := Or.inl (tbl_in (List.mem_of_getElem? (i := 1302) (by decide +kernel)) rfl)
theorem mw_M_247 : MW R_M 247 y_M_playIt := Or.inl (tbl_in (List.mem_of_getElem? (i := 1265) (by decide +kernel)) rfl)
theorem mw_M_250 : MW R_M 250 y_M_event := Or.inl (tbl_in (List.mem_of_getElem? (i := 1289) (by decide +kernel)) rfl)
theorem mw_M_253 : MW R_M 253 y_M_stop := Or.inl (tbl_in (List.mem_of_getElem? (i := 1310) (by decide +kernel)) rfl)
theorem mw_M_255 : MW R_M 255 y_M_clear := Or.inl (tbl_in (List.mem_of_getElem? (i := 1314) (by decide +kernel)) rfl)
theorem mw_M_260 : MW R_M 260 y_M_answer := Or.inl (tbl_in (List.mem_of_getElem? (i := 1306) (by decide +kernel)) rfl)
theorem mw_M_263 : MW R_M 263 y_M_traces := Or.inl (tbl_in (List.mem_of_getElem? (i := 1281) (by decide +kernel)) rfl)
theorem mw_M_266 : MW R_M 266 y_M_resolveTop := Or.inl (tbl_in (List.mem_of_getElem? (i := 1285) (by decide +kernel)) rfl)
theorem mw_M_275 : MW R_M 275 y_M_isLost := Or.inl (tbl_in (List.mem_of_getElem? (i := 1326) (by decide +kernel)) rfl)
theorem mw_M_282 : MW R_M 282 y_M_see := Or.inl (tbl_in (List.mem_of_getElem? (i := 1330) (by decide +kernel)) rfl)
theorem mw_M_285 : MW R_M 285 y_M_sameAs := Or.inl (tbl_in (List.mem_of_getElem? (i := 1334) (by decide +kernel)) rfl)
theorem mw_M_288 : MW R_M 288 y_M_runIt := Or.inl (tbl_in (List.mem_of_getElem? (i := 1322) (by decide +kernel)) rfl)
theorem mw_M_294 : MW R_M 294 y_M_turnIt := Or.inl (tbl_in (List.mem_of_getElem? (i := 1346) (by decide +kernel)) rfl)
theorem mw_M_297 : MW R_M 297 y_M_greatestIn := Or.inl (tbl_in (List.mem_of_getElem? (i := 1350) (by decide +kernel)) rfl)
theorem mw_M_300 : MW R_M 300 y_M_copy := Or.inl (tbl_in (List.mem_of_getElem? (i := 1358) (by decide +kernel)) rfl)
theorem mw_M_304 : MW R_M 304 y_M_worthOf := Or.inl (tbl_in (List.mem_of_getElem? (i := 1369) (by decide +kernel)) rfl)
theorem mw_M_307 : MW R_M 307 y_M_worthIf := Or.inl (tbl_in (List.mem_of_getElem? (i := 1365) (by decide +kernel)) rfl)
theorem mw_M_310 : MW R_M 310 y_M_reach := Or.inl (tbl_in (List.mem_of_getElem? (i := 1401) (by decide +kernel)) rfl)
theorem mw_M_314 : MW R_M 314 y_M_familyOf := Or.inl (tbl_in (List.mem_of_getElem? (i := 1425) (by decide +kernel)) rfl)
theorem mw_M_317 : MW R_M 317 y_M_toldBy := Or.inl (tbl_in (List.mem_of_getElem? (i := 1428) (by decide +kernel)) rfl)
