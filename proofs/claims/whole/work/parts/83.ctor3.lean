/-! THE TWO SYSTEMS MADE -/
def ce_L (cA : Nat → ClassId) (b : Nat) (E : Nat → va_E) : Nat → va_E := eu (eu (eu (eu (eu (eu (eu (eu (eu (ce_G cA b (78) (77) 1 (eu (eu (ce_G cA b (71) (70) 1 (eu (eu (ce_G cA b (64) (63) 1 (eu (eu (eu (eu (eu (eu (eu (eu (ce_T cA b (57) (56) (eu (eu (ce_O cA b (54) (53) (eu (eu (ce_O cA b (51) (50) (eu (eu (ce_E cA b (49) (48) 1 (eu (eu (ce_Y cA b (44) (43) 1 (eu (eu (ce_R cA b (30) (29) 1 (eu (eu (eu (eu (ce_G cA b (22) (21) 1 (eu (eu (eu (ce_G cA b (15) (14) 1 (eu (eu (ce_G cA b (8) (7) 1 (eu (eu (ce_K cA b (2) (1) (eu (E) (1) (.inr (0, bl_K)))) 0 (.inr (8, [.ref (b + 1), .null, .null, .int 0, .null, .null, .null, .null, .null, .null, .null, .null, .null, .int 0, .int 0, .int 0]))) (7) (.inr (2, bl_G)))) 0 (.inr (8, [.ref (b + 1), .ref (b + 7), .null, .int 0, .null, .null, .null, .null, .null, .null, .null, .null, .null, .int 0, .int 0, .int 0]))) (14) (.inr (2, bl_G)))) 0 (.inr (8, [.ref (b + 1), .ref (b + 7), .ref (b + 14), .int 0, .null, .null, .null, .null, .null, .null, .null, .null, .null, .int 0, .int 0, .int 0]))) 0 (.inr (8, [.ref (b + 1), .ref (b + 7), .ref (b + 14), .int 0, .null, .null, .null, .null, .null, .null, .null, .null, .null, .int 0, .int 0, .int 0]))) (21) (.inr (2, bl_G)))) 0 (.inr (8, [.ref (b + 1), .ref (b + 7), .ref (b + 14), .int 0, .ref (b + 21), .null, .null, .null, .null, .null, .null, .null, .null, .int 0, .int 0, .int 0]))) (28) (.inl (cA 2, 4, .inr (.inr (.inr (.inr (fun _ => none))))))) 0 (.inr (8, [.ref (b + 1), .ref (b + 7), .ref (b + 14), .int 0, .ref (b + 21), .ref (b + 28), .null, .null, .null, .null, .null, .null, .null, .int 0, .int 0, .int 0]))) (29) (.inr (6, bl_R)))) 0 (.inr (8, [.ref (b + 1), .ref (b + 7), .ref (b + 14), .int 0, .ref (b + 21), .ref (b + 28), .ref (b + 29), .null, .null, .null, .null, .null, .null, .int 0, .int 0, .int 0]))) (43) (.inr (3, bl_Y)))) 0 (.inr (8, [.ref (b + 1), .ref (b + 7), .ref (b + 14), .int 0, .ref (b + 21), .ref (b + 28), .ref (b + 29), .ref (b + 43), .null, .null, .null, .null, .null, .int 0, .int 0, .int 0]))) (48) (.inr (1, bl_E)))) 0 (.inr (8, [.ref (b + 1), .ref (b + 7), .ref (b + 14), .int 0, .ref (b + 21), .ref (b + 28), .ref (b + 29), .ref (b + 43), .ref (b + 48), .null, .null, .null, .null, .int 0, .int 0, .int 0]))) (50) (.inr (4, bl_O)))) 0 (.inr (8, [.ref (b + 1), .ref (b + 7), .ref (b + 14), .int 0, .ref (b + 21), .ref (b + 28), .ref (b + 29), .ref (b + 43), .ref (b + 48), .ref (b + 50), .null, .null, .null, .int 0, .int 0, .int 0]))) (53) (.inr (4, bl_O)))) 0 (.inr (8, [.ref (b + 1), .ref (b + 7), .ref (b + 14), .int 0, .ref (b + 21), .ref (b + 28), .ref (b + 29), .ref (b + 43), .ref (b + 48), .ref (b + 50), .ref (b + 53), .null, .null, .int 0, .int 0, .int 0]))) (56) (.inr (7, bl_T)))) 0 (.inr (8, [.ref (b + 1), .ref (b + 7), .ref (b + 14), .int 0, .ref (b + 21), .ref (b + 28), .ref (b + 29), .ref (b + 43), .ref (b + 48), .ref (b + 50), .ref (b + 53), .ref (b + 56), .null, .int 0, .int 0, .int 0]))) (62) (.inl (cA 0, 8, .inl (fun _ => 0)))) 0 (.inr (8, [.ref (b + 1), .ref (b + 7), .ref (b + 14), .int 0, .ref (b + 21), .ref (b + 28), .ref (b + 29), .ref (b + 43), .ref (b + 48), .ref (b + 50), .ref (b + 53), .ref (b + 56), .ref (b + 62), .int 0, .int 0, .int 0]))) 0 (.inr (8, [.ref (b + 1), .ref (b + 7), .ref (b + 14), .int 0, .ref (b + 21), .ref (b + 28), .ref (b + 29), .ref (b + 43), .ref (b + 48), .ref (b + 50), .ref (b + 53), .ref (b + 56), .ref (b + 62), .int 0, .int 0, .int 0]))) 0 (.inr (8, [.ref (b + 1), .ref (b + 7), .ref (b + 14), .int 0, .ref (b + 21), .ref (b + 28), .ref (b + 29), .ref (b + 43), .ref (b + 48), .ref (b + 50), .ref (b + 53), .ref (b + 56), .ref (b + 62), .int 0, .int (-2), .int 0]))) 0 (.inr (8, [.ref (b + 1), .ref (b + 7), .ref (b + 14), .int 0, .ref (b + 21), .ref (b + 28), .ref (b + 29), .ref (b + 43), .ref (b + 48), .ref (b + 50), .ref (b + 53), .ref (b + 56), .ref (b + 62), .int 0, .int (-2), .int (-2)]))) 28 (.inl (cA 2, 4, .inr (.inr (.inr (.inr (va_up (fun _ => none) 0 (some (b + 21))))))))) (63) (.inr (2, bl_G)))) 28 (.inl (cA 2, 4, .inr (.inr (.inr (.inr (va_up (va_up (fun _ => none) 0 (some (b + 21))) 1 (some (b + 63))))))))) (70) (.inr (2, bl_G)))) 28 (.inl (cA 2, 4, .inr (.inr (.inr (.inr (va_up (va_up (va_up (fun _ => none) 0 (some (b + 21))) 1 (some (b + 63))) 2 (some (b + 70))))))))) (77) (.inr (2, bl_G)))) 28 (.inl (cA 2, 4, .inr (.inr (.inr (.inr (va_up (va_up (va_up (va_up (fun _ => none) 0 (some (b + 21))) 1 (some (b + 63))) 2 (some (b + 70))) 3 (some (b + 77))))))))) (62) (.inl (cA 0, 8, .inl (upd (fun _ => 0) 0 (-2))))) (62) (.inl (cA 0, 8, .inl (upd (upd (fun _ => 0) 0 (-2)) 1 (-2))))) (62) (.inl (cA 0, 8, .inl (upd (upd (upd (fun _ => 0) 0 (-2)) 1 (-2)) 2 (-2))))) (62) (.inl (cA 0, 8, .inl (upd (upd (upd (upd (fun _ => 0) 0 (-2)) 1 (-2)) 2 (-2)) 3 (-2))))) (62) (.inl (cA 0, 8, .inl (upd (upd (upd (upd (upd (fun _ => 0) 0 (-2)) 1 (-2)) 2 (-2)) 3 (-2)) 4 (-2))))) (62) (.inl (cA 0, 8, .inl (upd (upd (upd (upd (upd (upd (fun _ => 0) 0 (-2)) 1 (-2)) 2 (-2)) 3 (-2)) 4 (-2)) 5 (-2))))) (62) (.inl (cA 0, 8, .inl (upd (upd (upd (upd (upd (upd (upd (fun _ => 0) 0 (-2)) 1 (-2)) 2 (-2)) 3 (-2)) 4 (-2)) 5 (-2)) 6 (-2))))) (62) (.inl (cA 0, 8, .inl (upd (upd (upd (upd (upd (upd (upd (upd (fun _ => 0) 0 (-2)) 1 (-2)) 2 (-2)) 3 (-2)) 4 (-2)) 5 (-2)) 6 (-2)) 7 (-2))))
set_option maxHeartbeats 8000000 in
set_option maxRecDepth 100000 in
theorem cn_L {D : va_G} {cA : Nat → ClassId} {b : Nat} {E : Nat → va_E} (he : E 0 = .inr (8, bl_L)) : Cn y_L_init b_L_init 2 3 83 5636 [.ref (b + 0)] D cA b 1 E 84 (ce_L cA b E) := by
  refine Cn.of mi_L (vs := [(0, .ref (b + 0))]) (fun ls h => h) rfl (Nat.le_of_ble_eq_true rfl) ?_
  intro p l e s m below meth c9 ls C hin hr hN hl
  refine lv_aload_n C.1 C.2.1 d_L_init_0 rfl (lv_at hl 0 rfl) ?_
  refine a_obj C d_L_init_1 (tbl_in (List.mem_of_getElem? (i := 121) (by decide +kernel)) rfl) w_obj w_objc hl.1 rfl (by decide) ?_
  refine lv_aload_n C.1 C.2.1 d_L_init_4 rfl (lv_at hl 0 rfl) ?_
  refine a_new C hN (ci := 0) (q := (R_K, F_K, 5)) (fs := bl_K) d_L_init_5 rfl (tbl_in (List.mem_of_getElem? (i := 124) (by decide +kernel)) rfl) (tbl_in (List.mem_of_getElem? (i := 125) (by decide +kernel)) rfl) (tbl_in (List.mem_of_getElem? (i := 101) (by decide +kernel)) rfl) ft_K ft_K_ok bl_K_ok (Nat.le_of_ble_eq_true rfl) (Nat.le_of_ble_eq_true rfl) (fun H hN => ?_)
  refine lv_dup C.1 C.2.1 d_L_init_8 rfl ?_
  refine a_init C hN (host := "LayeredCards") (As := []) d_L_init_9 (nst_in (List.mem_of_getElem? (i := 126) (by decide +kernel)) rfl) mi_K (cn_K (k := 2) (i := 1) (by decide) rfl) rfl rfl hl.1 (Nat.le_of_ble_eq_true rfl) rfl (by decide) (by decide) ⟨Nat.le_of_ble_eq_true rfl, Nat.le_of_ble_eq_true rfl⟩ (fun H locs hN => ?_)
  refine a_put C hin hN (i := 0) (fs := [.null, .null, .null, .int 0, .null, .null, .null, .null, .null, .null, .null, .null, .null, .int 0, .int 0, .int 0]) d_L_init_12 pf_L_10 (by decide) he rfl rfl (Nat.le_of_ble_eq_true rfl) (fun H locs hN => ?_)
  refine lv_aload_n C.1 C.2.1 d_L_init_15 rfl (lv_at hl 0 rfl) ?_
  refine a_new C hN (ci := 2) (q := (R_G, F_G, 15)) (fs := bl_G) d_L_init_16 rfl (tbl_in (List.mem_of_getElem? (i := 167) (by decide +kernel)) rfl) (tbl_in (List.mem_of_getElem? (i := 168) (by decide +kernel)) rfl) (tbl_in (List.mem_of_getElem? (i := 102) (by decide +kernel)) rfl) ft_G ft_G_ok bl_G_ok (Nat.le_of_ble_eq_true rfl) (Nat.le_of_ble_eq_true rfl) (fun H hN => ?_)
  refine lv_dup C.1 C.2.1 d_L_init_19 rfl ?_
  refine lv_aload_n C.1 C.2.1 d_L_init_20 rfl (lv_at hl 0 rfl) ?_
  refine a_get C hN (i := 0) (fs := [.ref (b + 1), .null, .null, .int 0, .null, .null, .null, .null, .null, .null, .null, .null, .null, .int 0, .int 0, .int 0]) (v := .ref (b + 1)) d_L_init_21 pf_L_10 (by decide) rfl rfl ?_
  refine a_init C hN (host := "LayeredCards") (As := [.ref (b + 1)]) d_L_init_24 (nst_in (List.mem_of_getElem? (i := 169) (by decide +kernel)) rfl) mi_G (cn_G (k := 8) (i := 7) (c := 1) (by decide) rfl) rfl rfl hl.1 (Nat.le_of_ble_eq_true rfl) rfl (by decide) (by decide) ⟨Nat.le_of_ble_eq_true rfl, Nat.le_of_ble_eq_true rfl⟩ (fun H locs hN => ?_)
  refine a_put C hin hN (i := 0) (fs := [.ref (b + 1), .null, .null, .int 0, .null, .null, .null, .null, .null, .null, .null, .null, .null, .int 0, .int 0, .int 0]) d_L_init_27 pf_L_21 (by decide) rfl rfl rfl (Nat.le_of_ble_eq_true rfl) (fun H locs hN => ?_)
  refine lv_aload_n C.1 C.2.1 d_L_init_30 rfl (lv_at hl 0 rfl) ?_
  refine a_new C hN (ci := 2) (q := (R_G, F_G, 15)) (fs := bl_G) d_L_init_31 rfl (tbl_in (List.mem_of_getElem? (i := 167) (by decide +kernel)) rfl) (tbl_in (List.mem_of_getElem? (i := 168) (by decide +kernel)) rfl) (tbl_in (List.mem_of_getElem? (i := 102) (by decide +kernel)) rfl) ft_G ft_G_ok bl_G_ok (Nat.le_of_ble_eq_true rfl) (Nat.le_of_ble_eq_true rfl) (fun H hN => ?_)
  refine lv_dup C.1 C.2.1 d_L_init_34 rfl ?_
  refine lv_aload_n C.1 C.2.1 d_L_init_35 rfl (lv_at hl 0 rfl) ?_
  refine a_get C hN (i := 0) (fs := [.ref (b + 1), .ref (b + 7), .null, .int 0, .null, .null, .null, .null, .null, .null, .null, .null, .null, .int 0, .int 0, .int 0]) (v := .ref (b + 1)) d_L_init_36 pf_L_10 (by decide) rfl rfl ?_
  refine a_init C hN (host := "LayeredCards") (As := [.ref (b + 1)]) d_L_init_39 (nst_in (List.mem_of_getElem? (i := 169) (by decide +kernel)) rfl) mi_G (cn_G (k := 15) (i := 14) (c := 1) (by decide) rfl) rfl rfl hl.1 (Nat.le_of_ble_eq_true rfl) rfl (by decide) (by decide) ⟨Nat.le_of_ble_eq_true rfl, Nat.le_of_ble_eq_true rfl⟩ (fun H locs hN => ?_)
  refine a_put C hin hN (i := 0) (fs := [.ref (b + 1), .ref (b + 7), .null, .int 0, .null, .null, .null, .null, .null, .null, .null, .null, .null, .int 0, .int 0, .int 0]) d_L_init_42 pf_L_25 (by decide) rfl rfl rfl (Nat.le_of_ble_eq_true rfl) (fun H locs hN => ?_)
  refine lv_aload_n C.1 C.2.1 d_L_init_45 rfl (lv_at hl 0 rfl) ?_
  refine lv_iconst (v := 0) C.1 C.2.1 d_L_init_46 (by decide) ?_
  refine a_put C hin hN (i := 0) (fs := [.ref (b + 1), .ref (b + 7), .ref (b + 14), .int 0, .null, .null, .null, .null, .null, .null, .null, .null, .null, .int 0, .int 0, .int 0]) d_L_init_47 pf_L_28 (by decide) rfl rfl rfl (Nat.le_of_ble_eq_true rfl) (fun H locs hN => ?_)
  refine lv_aload_n C.1 C.2.1 d_L_init_50 rfl (lv_at hl 0 rfl) ?_
  refine a_new C hN (ci := 2) (q := (R_G, F_G, 15)) (fs := bl_G) d_L_init_51 rfl (tbl_in (List.mem_of_getElem? (i := 167) (by decide +kernel)) rfl) (tbl_in (List.mem_of_getElem? (i := 168) (by decide +kernel)) rfl) (tbl_in (List.mem_of_getElem? (i := 102) (by decide +kernel)) rfl) ft_G ft_G_ok bl_G_ok (Nat.le_of_ble_eq_true rfl) (Nat.le_of_ble_eq_true rfl) (fun H hN => ?_)
  refine lv_dup C.1 C.2.1 d_L_init_54 rfl ?_
  refine lv_aload_n C.1 C.2.1 d_L_init_55 rfl (lv_at hl 0 rfl) ?_
  refine a_get C hN (i := 0) (fs := [.ref (b + 1), .ref (b + 7), .ref (b + 14), .int 0, .null, .null, .null, .null, .null, .null, .null, .null, .null, .int 0, .int 0, .int 0]) (v := .ref (b + 1)) d_L_init_56 pf_L_10 (by decide) rfl rfl ?_
  refine a_init C hN (host := "LayeredCards") (As := [.ref (b + 1)]) d_L_init_59 (nst_in (List.mem_of_getElem? (i := 169) (by decide +kernel)) rfl) mi_G (cn_G (k := 22) (i := 21) (c := 1) (by decide) rfl) rfl rfl hl.1 (Nat.le_of_ble_eq_true rfl) rfl (by decide) (by decide) ⟨Nat.le_of_ble_eq_true rfl, Nat.le_of_ble_eq_true rfl⟩ (fun H locs hN => ?_)
  refine a_put C hin hN (i := 0) (fs := [.ref (b + 1), .ref (b + 7), .ref (b + 14), .int 0, .null, .null, .null, .null, .null, .null, .null, .null, .null, .int 0, .int 0, .int 0]) d_L_init_62 pf_L_32 (by decide) rfl rfl rfl (Nat.le_of_ble_eq_true rfl) (fun H locs hN => ?_)
  refine lv_aload_n C.1 C.2.1 d_L_init_65 rfl (lv_at hl 0 rfl) ?_
  refine lv_iconst (v := 4) C.1 C.2.1 d_L_init_66 (by decide) ?_
  refine a_anew C hN d_L_init_67 (tbl_in (List.mem_of_getElem? (i := 167) (by decide +kernel)) rfl) (by decide) rfl (Nat.le_of_ble_eq_true rfl) (Nat.le_of_ble_eq_true rfl) (Nat.le_of_ble_eq_true rfl) (fun H hN => ?_)
  refine a_put C hin hN (i := 0) (fs := [.ref (b + 1), .ref (b + 7), .ref (b + 14), .int 0, .ref (b + 21), .null, .null, .null, .null, .null, .null, .null, .null, .int 0, .int 0, .int 0]) d_L_init_70 pf_L_35 (by decide) rfl rfl rfl (Nat.le_of_ble_eq_true rfl) (fun H locs hN => ?_)
  refine lv_aload_n C.1 C.2.1 d_L_init_73 rfl (lv_at hl 0 rfl) ?_
  refine a_new C hN (ci := 6) (q := (R_R, F_R, 8)) (fs := bl_R) d_L_init_74 rfl (tbl_in (List.mem_of_getElem? (i := 246) (by decide +kernel)) rfl) (tbl_in (List.mem_of_getElem? (i := 247) (by decide +kernel)) rfl) (tbl_in (List.mem_of_getElem? (i := 103) (by decide +kernel)) rfl) ft_R ft_R_ok bl_R_ok (Nat.le_of_ble_eq_true rfl) (Nat.le_of_ble_eq_true rfl) (fun H hN => ?_)
  refine lv_dup C.1 C.2.1 d_L_init_77 rfl ?_
  refine lv_aload_n C.1 C.2.1 d_L_init_78 rfl (lv_at hl 0 rfl) ?_
  refine a_get C hN (i := 0) (fs := [.ref (b + 1), .ref (b + 7), .ref (b + 14), .int 0, .ref (b + 21), .ref (b + 28), .null, .null, .null, .null, .null, .null, .null, .int 0, .int 0, .int 0]) (v := .ref (b + 1)) d_L_init_79 pf_L_10 (by decide) rfl rfl ?_
  refine a_init C hN (host := "LayeredCards") (As := [.ref (b + 1)]) d_L_init_82 (nst_in (List.mem_of_getElem? (i := 248) (by decide +kernel)) rfl) mi_R (cn_R (k := 30) (i := 29) (c := 1) (by decide) rfl) rfl rfl hl.1 (Nat.le_of_ble_eq_true rfl) rfl (by decide) (by decide) ⟨Nat.le_of_ble_eq_true rfl, Nat.le_of_ble_eq_true rfl⟩ (fun H locs hN => ?_)
  refine a_put C hin hN (i := 0) (fs := [.ref (b + 1), .ref (b + 7), .ref (b + 14), .int 0, .ref (b + 21), .ref (b + 28), .null, .null, .null, .null, .null, .null, .null, .int 0, .int 0, .int 0]) d_L_init_85 pf_L_42 (by decide) rfl rfl rfl (Nat.le_of_ble_eq_true rfl) (fun H locs hN => ?_)
  refine lv_aload_n C.1 C.2.1 d_L_init_88 rfl (lv_at hl 0 rfl) ?_
  refine a_new C hN (ci := 3) (q := (R_Y, F_Y, 7)) (fs := bl_Y) d_L_init_89 rfl (tbl_in (List.mem_of_getElem? (i := 369) (by decide +kernel)) rfl) (tbl_in (List.mem_of_getElem? (i := 276) (by decide +kernel)) rfl) (tbl_in (List.mem_of_getElem? (i := 105) (by decide +kernel)) rfl) ft_Y ft_Y_ok bl_Y_ok (Nat.le_of_ble_eq_true rfl) (Nat.le_of_ble_eq_true rfl) (fun H hN => ?_)
  refine lv_dup C.1 C.2.1 d_L_init_92 rfl ?_
  refine lv_aload_n C.1 C.2.1 d_L_init_93 rfl (lv_at hl 0 rfl) ?_
  refine a_get C hN (i := 0) (fs := [.ref (b + 1), .ref (b + 7), .ref (b + 14), .int 0, .ref (b + 21), .ref (b + 28), .ref (b + 29), .null, .null, .null, .null, .null, .null, .int 0, .int 0, .int 0]) (v := .ref (b + 1)) d_L_init_94 pf_L_10 (by decide) rfl rfl ?_
  refine a_init C hN (host := "LayeredCards") (As := [.ref (b + 1)]) d_L_init_97 (nst_in (List.mem_of_getElem? (i := 370) (by decide +kernel)) rfl) mi_Y (cn_Y (k := 44) (i := 43) (c := 1) (by decide) rfl) rfl rfl hl.1 (Nat.le_of_ble_eq_true rfl) rfl (by decide) (by decide) ⟨Nat.le_of_ble_eq_true rfl, Nat.le_of_ble_eq_true rfl⟩ (fun H locs hN => ?_)
  refine a_put C hin hN (i := 0) (fs := [.ref (b + 1), .ref (b + 7), .ref (b + 14), .int 0, .ref (b + 21), .ref (b + 28), .ref (b + 29), .null, .null, .null, .null, .null, .null, .int 0, .int 0, .int 0]) d_L_init_100 pf_L_49 (by decide) rfl rfl rfl (Nat.le_of_ble_eq_true rfl) (fun H locs hN => ?_)
  refine lv_aload_n C.1 C.2.1 d_L_init_103 rfl (lv_at hl 0 rfl) ?_
  refine a_new C hN (ci := 1) (q := (R_E, F_E, 7)) (fs := bl_E) d_L_init_104 rfl (tbl_in (List.mem_of_getElem? (i := 371) (by decide +kernel)) rfl) (tbl_in (List.mem_of_getElem? (i := 308) (by decide +kernel)) rfl) (tbl_in (List.mem_of_getElem? (i := 106) (by decide +kernel)) rfl) ft_E ft_E_ok bl_E_ok (Nat.le_of_ble_eq_true rfl) (Nat.le_of_ble_eq_true rfl) (fun H hN => ?_)
  refine lv_dup C.1 C.2.1 d_L_init_107 rfl ?_
  refine lv_aload_n C.1 C.2.1 d_L_init_108 rfl (lv_at hl 0 rfl) ?_
  refine a_get C hN (i := 0) (fs := [.ref (b + 1), .ref (b + 7), .ref (b + 14), .int 0, .ref (b + 21), .ref (b + 28), .ref (b + 29), .ref (b + 43), .null, .null, .null, .null, .null, .int 0, .int 0, .int 0]) (v := .ref (b + 1)) d_L_init_109 pf_L_10 (by decide) rfl rfl ?_
  refine a_init C hN (host := "LayeredCards") (As := [.ref (b + 1)]) d_L_init_112 (nst_in (List.mem_of_getElem? (i := 372) (by decide +kernel)) rfl) mi_E (cn_E (k := 49) (i := 48) (c := 1) (by decide) rfl) rfl rfl hl.1 (Nat.le_of_ble_eq_true rfl) rfl (by decide) (by decide) ⟨Nat.le_of_ble_eq_true rfl, Nat.le_of_ble_eq_true rfl⟩ (fun H locs hN => ?_)
  refine a_put C hin hN (i := 0) (fs := [.ref (b + 1), .ref (b + 7), .ref (b + 14), .int 0, .ref (b + 21), .ref (b + 28), .ref (b + 29), .ref (b + 43), .null, .null, .null, .null, .null, .int 0, .int 0, .int 0]) d_L_init_115 pf_L_56 (by decide) rfl rfl rfl (Nat.le_of_ble_eq_true rfl) (fun H locs hN => ?_)
  refine lv_aload_n C.1 C.2.1 d_L_init_118 rfl (lv_at hl 0 rfl) ?_
  refine a_new C hN (ci := 4) (q := (R_O, F_O, 4)) (fs := bl_O) d_L_init_119 rfl (tbl_in (List.mem_of_getElem? (i := 373) (by decide +kernel)) rfl) (tbl_in (List.mem_of_getElem? (i := 374) (by decide +kernel)) rfl) (tbl_in (List.mem_of_getElem? (i := 107) (by decide +kernel)) rfl) ft_O ft_O_ok bl_O_ok (Nat.le_of_ble_eq_true rfl) (Nat.le_of_ble_eq_true rfl) (fun H hN => ?_)
  refine lv_dup C.1 C.2.1 d_L_init_122 rfl ?_
  refine a_init C hN (host := "LayeredCards") (As := []) d_L_init_123 (nst_in (List.mem_of_getElem? (i := 375) (by decide +kernel)) rfl) mi_O (cn_O (k := 51) (i := 50) (by decide) rfl) rfl rfl hl.1 (Nat.le_of_ble_eq_true rfl) rfl (by decide) (by decide) ⟨Nat.le_of_ble_eq_true rfl, Nat.le_of_ble_eq_true rfl⟩ (fun H locs hN => ?_)
  refine a_put C hin hN (i := 0) (fs := [.ref (b + 1), .ref (b + 7), .ref (b + 14), .int 0, .ref (b + 21), .ref (b + 28), .ref (b + 29), .ref (b + 43), .ref (b + 48), .null, .null, .null, .null, .int 0, .int 0, .int 0]) d_L_init_126 pf_L_63 (by decide) rfl rfl rfl (Nat.le_of_ble_eq_true rfl) (fun H locs hN => ?_)
  refine lv_aload_n C.1 C.2.1 d_L_init_129 rfl (lv_at hl 0 rfl) ?_
  refine a_new C hN (ci := 4) (q := (R_O, F_O, 4)) (fs := bl_O) d_L_init_130 rfl (tbl_in (List.mem_of_getElem? (i := 373) (by decide +kernel)) rfl) (tbl_in (List.mem_of_getElem? (i := 374) (by decide +kernel)) rfl) (tbl_in (List.mem_of_getElem? (i := 107) (by decide +kernel)) rfl) ft_O ft_O_ok bl_O_ok (Nat.le_of_ble_eq_true rfl) (Nat.le_of_ble_eq_true rfl) (fun H hN => ?_)
  refine lv_dup C.1 C.2.1 d_L_init_133 rfl ?_
  refine a_init C hN (host := "LayeredCards") (As := []) d_L_init_134 (nst_in (List.mem_of_getElem? (i := 375) (by decide +kernel)) rfl) mi_O (cn_O (k := 54) (i := 53) (by decide) rfl) rfl rfl hl.1 (Nat.le_of_ble_eq_true rfl) rfl (by decide) (by decide) ⟨Nat.le_of_ble_eq_true rfl, Nat.le_of_ble_eq_true rfl⟩ (fun H locs hN => ?_)
  refine a_put C hin hN (i := 0) (fs := [.ref (b + 1), .ref (b + 7), .ref (b + 14), .int 0, .ref (b + 21), .ref (b + 28), .ref (b + 29), .ref (b + 43), .ref (b + 48), .ref (b + 50), .null, .null, .null, .int 0, .int 0, .int 0]) d_L_init_137 pf_L_67 (by decide) rfl rfl rfl (Nat.le_of_ble_eq_true rfl) (fun H locs hN => ?_)
  refine lv_aload_n C.1 C.2.1 d_L_init_140 rfl (lv_at hl 0 rfl) ?_
  refine a_new C hN (ci := 7) (q := (R_T, F_T, 8)) (fs := bl_T) d_L_init_141 rfl (tbl_in (List.mem_of_getElem? (i := 396) (by decide +kernel)) rfl) (tbl_in (List.mem_of_getElem? (i := 397) (by decide +kernel)) rfl) (tbl_in (List.mem_of_getElem? (i := 108) (by decide +kernel)) rfl) ft_T ft_T_ok bl_T_ok (Nat.le_of_ble_eq_true rfl) (Nat.le_of_ble_eq_true rfl) (fun H hN => ?_)
  refine lv_dup C.1 C.2.1 d_L_init_144 rfl ?_
  refine a_init C hN (host := "LayeredCards") (As := []) d_L_init_145 (nst_in (List.mem_of_getElem? (i := 398) (by decide +kernel)) rfl) mi_T (cn_T (k := 57) (i := 56) (by decide) rfl) rfl rfl hl.1 (Nat.le_of_ble_eq_true rfl) rfl (by decide) (by decide) ⟨Nat.le_of_ble_eq_true rfl, Nat.le_of_ble_eq_true rfl⟩ (fun H locs hN => ?_)
  refine a_put C hin hN (i := 0) (fs := [.ref (b + 1), .ref (b + 7), .ref (b + 14), .int 0, .ref (b + 21), .ref (b + 28), .ref (b + 29), .ref (b + 43), .ref (b + 48), .ref (b + 50), .ref (b + 53), .null, .null, .int 0, .int 0, .int 0]) d_L_init_148 pf_L_73 (by decide) rfl rfl rfl (Nat.le_of_ble_eq_true rfl) (fun H locs hN => ?_)
  refine lv_aload_n C.1 C.2.1 d_L_init_151 rfl (lv_at hl 0 rfl) ?_
  refine lv_bipush (v := 8) C.1 C.2.1 d_L_init_152 (by decide) ?_
  refine a_newI C hN d_L_init_154 w_aI (by decide) rfl (Nat.le_of_ble_eq_true rfl) (Nat.le_of_ble_eq_true rfl) (Nat.le_of_ble_eq_true rfl) (fun H hN => ?_)
  refine a_put C hin hN (i := 0) (fs := [.ref (b + 1), .ref (b + 7), .ref (b + 14), .int 0, .ref (b + 21), .ref (b + 28), .ref (b + 29), .ref (b + 43), .ref (b + 48), .ref (b + 50), .ref (b + 53), .ref (b + 56), .null, .int 0, .int 0, .int 0]) d_L_init_156 pf_L_77 (by decide) rfl rfl rfl (Nat.le_of_ble_eq_true rfl) (fun H locs hN => ?_)
  refine lv_aload_n C.1 C.2.1 d_L_init_159 rfl (lv_at hl 0 rfl) ?_
  refine lv_iconst (v := 0) C.1 C.2.1 d_L_init_160 (by decide) ?_
  refine a_put C hin hN (i := 0) (fs := [.ref (b + 1), .ref (b + 7), .ref (b + 14), .int 0, .ref (b + 21), .ref (b + 28), .ref (b + 29), .ref (b + 43), .ref (b + 48), .ref (b + 50), .ref (b + 53), .ref (b + 56), .ref (b + 62), .int 0, .int 0, .int 0]) d_L_init_161 pf_L_81 (by decide) rfl rfl rfl (Nat.le_of_ble_eq_true rfl) (fun H locs hN => ?_)
  refine lv_aload_n C.1 C.2.1 d_L_init_164 rfl (lv_at hl 0 rfl) ?_
  refine lv_bipush (v := (-2)) C.1 C.2.1 d_L_init_165 (by decide) ?_
  refine a_put C hin hN (i := 0) (fs := [.ref (b + 1), .ref (b + 7), .ref (b + 14), .int 0, .ref (b + 21), .ref (b + 28), .ref (b + 29), .ref (b + 43), .ref (b + 48), .ref (b + 50), .ref (b + 53), .ref (b + 56), .ref (b + 62), .int 0, .int 0, .int 0]) d_L_init_167 pf_L_85 (by decide) rfl rfl rfl (Nat.le_of_ble_eq_true rfl) (fun H locs hN => ?_)
  refine lv_aload_n C.1 C.2.1 d_L_init_170 rfl (lv_at hl 0 rfl) ?_
  refine lv_bipush (v := (-2)) C.1 C.2.1 d_L_init_171 (by decide) ?_
  refine a_put C hin hN (i := 0) (fs := [.ref (b + 1), .ref (b + 7), .ref (b + 14), .int 0, .ref (b + 21), .ref (b + 28), .ref (b + 29), .ref (b + 43), .ref (b + 48), .ref (b + 50), .ref (b + 53), .ref (b + 56), .ref (b + 62), .int 0, .int (-2), .int 0]) d_L_init_173 pf_L_88 (by decide) rfl rfl rfl (Nat.le_of_ble_eq_true rfl) (fun H locs hN => ?_)
  refine lv_iconst (v := 0) C.1 C.2.1 d_L_init_176 (by decide) ?_
  refine lv_istore_n (lv' := [(1, .int 0), (0, .ref (b + 0))]) C.1 C.2.1 d_L_init_177 rfl hl (by decide) rfl (fun ls hl => ?_)
  refine lv_iload_n C.1 C.2.1 d_L_init_178 rfl (lv_at hl 0 rfl) ?_
  refine lv_aload_n C.1 C.2.1 d_L_init_179 rfl (lv_at hl 1 rfl) ?_
  refine a_get C hN (i := 0) (fs := [.ref (b + 1), .ref (b + 7), .ref (b + 14), .int 0, .ref (b + 21), .ref (b + 28), .ref (b + 29), .ref (b + 43), .ref (b + 48), .ref (b + 50), .ref (b + 53), .ref (b + 56), .ref (b + 62), .int 0, .int (-2), .int (-2)]) (v := .ref (b + 28)) d_L_init_180 pf_L_35 (by decide) rfl rfl ?_
  refine a_alen C hN (i := 28) (t := 2) (n := 4) (v := 4) (a := .inr (.inr (.inr (.inr (fun _ => none))))) d_L_init_183 (by decide) rfl rfl rfl ?_
  refine lv_icmp_ge C.1 C.2.1 d_L_init_184 (tgt := 221) (by decide) (fun q => absurd q (by decide)) (fun _ => ?_)
  refine lv_aload_n C.1 C.2.1 d_L_init_187 rfl (lv_at hl 1 rfl) ?_
  refine a_get C hN (i := 0) (fs := [.ref (b + 1), .ref (b + 7), .ref (b + 14), .int 0, .ref (b + 21), .ref (b + 28), .ref (b + 29), .ref (b + 43), .ref (b + 48), .ref (b + 50), .ref (b + 53), .ref (b + 56), .ref (b + 62), .int 0, .int (-2), .int (-2)]) (v := .ref (b + 28)) d_L_init_188 pf_L_35 (by decide) rfl rfl ?_
  refine lv_iload_n C.1 C.2.1 d_L_init_191 rfl (lv_at hl 0 rfl) ?_
  refine lv_iload_n C.1 C.2.1 d_L_init_192 rfl (lv_at hl 0 rfl) ?_
  refine lv_if_ne C.1 C.2.1 d_L_init_193 (tgt := 203) (by decide) (fun q => absurd rfl q) (fun _ => ?_)
  refine lv_aload_n C.1 C.2.1 d_L_init_196 rfl (lv_at hl 1 rfl) ?_
  refine a_get C hN (i := 0) (fs := [.ref (b + 1), .ref (b + 7), .ref (b + 14), .int 0, .ref (b + 21), .ref (b + 28), .ref (b + 29), .ref (b + 43), .ref (b + 48), .ref (b + 50), .ref (b + 53), .ref (b + 56), .ref (b + 62), .int 0, .int (-2), .int (-2)]) (v := .ref (b + 21)) d_L_init_197 pf_L_32 (by decide) rfl rfl ?_
  refine lv_goto C.1 C.2.1 d_L_init_200 (tgt := 214) (by decide) ?_
  refine a_aast C hN (i := 28) (i2 := 21) (n := 4) (f := fun _ => none) (fs := gmf b 21 22) d_L_init_214 (by decide) rfl (by decide) rfl (by unfold vp_in; decide) (fun H locs hN => ?_)
  refine lv_iinc (k := 0) (x := 0) (v := 1) (lv' := [(1, .int 1), (0, .ref (b + 0))]) C.1 C.2.1 d_L_init_215 hl rfl (by decide) (by decide) rfl (fun ls hl => ?_)
  refine lv_goto C.1 C.2.1 d_L_init_218 (tgt := 178) (by decide) ?_
  refine lv_iload_n C.1 C.2.1 d_L_init_178 rfl (lv_at hl 0 rfl) ?_
  refine lv_aload_n C.1 C.2.1 d_L_init_179 rfl (lv_at hl 1 rfl) ?_
  refine a_get C hN (i := 0) (fs := [.ref (b + 1), .ref (b + 7), .ref (b + 14), .int 0, .ref (b + 21), .ref (b + 28), .ref (b + 29), .ref (b + 43), .ref (b + 48), .ref (b + 50), .ref (b + 53), .ref (b + 56), .ref (b + 62), .int 0, .int (-2), .int (-2)]) (v := .ref (b + 28)) d_L_init_180 pf_L_35 (by decide) rfl rfl ?_
  refine a_alen C hN (i := 28) (t := 2) (n := 4) (v := 4) (a := .inr (.inr (.inr (.inr (va_up (fun _ => none) 0 (some (b + 21))))))) d_L_init_183 (by decide) rfl rfl rfl ?_
  refine lv_icmp_ge C.1 C.2.1 d_L_init_184 (tgt := 221) (by decide) (fun q => absurd q (by decide)) (fun _ => ?_)
  refine lv_aload_n C.1 C.2.1 d_L_init_187 rfl (lv_at hl 1 rfl) ?_
  refine a_get C hN (i := 0) (fs := [.ref (b + 1), .ref (b + 7), .ref (b + 14), .int 0, .ref (b + 21), .ref (b + 28), .ref (b + 29), .ref (b + 43), .ref (b + 48), .ref (b + 50), .ref (b + 53), .ref (b + 56), .ref (b + 62), .int 0, .int (-2), .int (-2)]) (v := .ref (b + 28)) d_L_init_188 pf_L_35 (by decide) rfl rfl ?_
  refine lv_iload_n C.1 C.2.1 d_L_init_191 rfl (lv_at hl 0 rfl) ?_
  refine lv_iload_n C.1 C.2.1 d_L_init_192 rfl (lv_at hl 0 rfl) ?_
  refine lv_if_ne C.1 C.2.1 d_L_init_193 (tgt := 203) (by decide) (fun _ => ?_) (fun q => absurd q (by decide))
  refine a_new C hN (ci := 2) (q := (R_G, F_G, 15)) (fs := bl_G) d_L_init_203 rfl (tbl_in (List.mem_of_getElem? (i := 167) (by decide +kernel)) rfl) (tbl_in (List.mem_of_getElem? (i := 168) (by decide +kernel)) rfl) (tbl_in (List.mem_of_getElem? (i := 102) (by decide +kernel)) rfl) ft_G ft_G_ok bl_G_ok (Nat.le_of_ble_eq_true rfl) (Nat.le_of_ble_eq_true rfl) (fun H hN => ?_)
  refine lv_dup C.1 C.2.1 d_L_init_206 rfl ?_
  refine lv_aload_n C.1 C.2.1 d_L_init_207 rfl (lv_at hl 1 rfl) ?_
  refine a_get C hN (i := 0) (fs := [.ref (b + 1), .ref (b + 7), .ref (b + 14), .int 0, .ref (b + 21), .ref (b + 28), .ref (b + 29), .ref (b + 43), .ref (b + 48), .ref (b + 50), .ref (b + 53), .ref (b + 56), .ref (b + 62), .int 0, .int (-2), .int (-2)]) (v := .ref (b + 1)) d_L_init_208 pf_L_10 (by decide) rfl rfl ?_
  refine a_init C hN (host := "LayeredCards") (As := [.ref (b + 1)]) d_L_init_211 (nst_in (List.mem_of_getElem? (i := 169) (by decide +kernel)) rfl) mi_G (cn_G (k := 64) (i := 63) (c := 1) (by decide) rfl) rfl rfl hl.1 (Nat.le_of_ble_eq_true rfl) rfl (by decide) (by decide) ⟨Nat.le_of_ble_eq_true rfl, Nat.le_of_ble_eq_true rfl⟩ (fun H locs hN => ?_)
  refine a_aast C hN (i := 28) (i2 := 63) (n := 4) (f := va_up (fun _ => none) 0 (some (b + 21))) (fs := gmf b 63 64) d_L_init_214 (by decide) rfl (by decide) rfl (by unfold vp_in; decide) (fun H locs hN => ?_)
  refine lv_iinc (k := 0) (x := 1) (v := 2) (lv' := [(1, .int 2), (0, .ref (b + 0))]) C.1 C.2.1 d_L_init_215 hl rfl (by decide) (by decide) rfl (fun ls hl => ?_)
  refine lv_goto C.1 C.2.1 d_L_init_218 (tgt := 178) (by decide) ?_
  refine lv_iload_n C.1 C.2.1 d_L_init_178 rfl (lv_at hl 0 rfl) ?_
  refine lv_aload_n C.1 C.2.1 d_L_init_179 rfl (lv_at hl 1 rfl) ?_
  refine a_get C hN (i := 0) (fs := [.ref (b + 1), .ref (b + 7), .ref (b + 14), .int 0, .ref (b + 21), .ref (b + 28), .ref (b + 29), .ref (b + 43), .ref (b + 48), .ref (b + 50), .ref (b + 53), .ref (b + 56), .ref (b + 62), .int 0, .int (-2), .int (-2)]) (v := .ref (b + 28)) d_L_init_180 pf_L_35 (by decide) rfl rfl ?_
  refine a_alen C hN (i := 28) (t := 2) (n := 4) (v := 4) (a := .inr (.inr (.inr (.inr (va_up (va_up (fun _ => none) 0 (some (b + 21))) 1 (some (b + 63))))))) d_L_init_183 (by decide) rfl rfl rfl ?_
  refine lv_icmp_ge C.1 C.2.1 d_L_init_184 (tgt := 221) (by decide) (fun q => absurd q (by decide)) (fun _ => ?_)
  refine lv_aload_n C.1 C.2.1 d_L_init_187 rfl (lv_at hl 1 rfl) ?_
  refine a_get C hN (i := 0) (fs := [.ref (b + 1), .ref (b + 7), .ref (b + 14), .int 0, .ref (b + 21), .ref (b + 28), .ref (b + 29), .ref (b + 43), .ref (b + 48), .ref (b + 50), .ref (b + 53), .ref (b + 56), .ref (b + 62), .int 0, .int (-2), .int (-2)]) (v := .ref (b + 28)) d_L_init_188 pf_L_35 (by decide) rfl rfl ?_
  refine lv_iload_n C.1 C.2.1 d_L_init_191 rfl (lv_at hl 0 rfl) ?_
  refine lv_iload_n C.1 C.2.1 d_L_init_192 rfl (lv_at hl 0 rfl) ?_
  refine lv_if_ne C.1 C.2.1 d_L_init_193 (tgt := 203) (by decide) (fun _ => ?_) (fun q => absurd q (by decide))
  refine a_new C hN (ci := 2) (q := (R_G, F_G, 15)) (fs := bl_G) d_L_init_203 rfl (tbl_in (List.mem_of_getElem? (i := 167) (by decide +kernel)) rfl) (tbl_in (List.mem_of_getElem? (i := 168) (by decide +kernel)) rfl) (tbl_in (List.mem_of_getElem? (i := 102) (by decide +kernel)) rfl) ft_G ft_G_ok bl_G_ok (Nat.le_of_ble_eq_true rfl) (Nat.le_of_ble_eq_true rfl) (fun H hN => ?_)
  refine lv_dup C.1 C.2.1 d_L_init_206 rfl ?_
  refine lv_aload_n C.1 C.2.1 d_L_init_207 rfl (lv_at hl 1 rfl) ?_
  refine a_get C hN (i := 0) (fs := [.ref (b + 1), .ref (b + 7), .ref (b + 14), .int 0, .ref (b + 21), .ref (b + 28), .ref (b + 29), .ref (b + 43), .ref (b + 48), .ref (b + 50), .ref (b + 53), .ref (b + 56), .ref (b + 62), .int 0, .int (-2), .int (-2)]) (v := .ref (b + 1)) d_L_init_208 pf_L_10 (by decide) rfl rfl ?_
  refine a_init C hN (host := "LayeredCards") (As := [.ref (b + 1)]) d_L_init_211 (nst_in (List.mem_of_getElem? (i := 169) (by decide +kernel)) rfl) mi_G (cn_G (k := 71) (i := 70) (c := 1) (by decide) rfl) rfl rfl hl.1 (Nat.le_of_ble_eq_true rfl) rfl (by decide) (by decide) ⟨Nat.le_of_ble_eq_true rfl, Nat.le_of_ble_eq_true rfl⟩ (fun H locs hN => ?_)
  refine a_aast C hN (i := 28) (i2 := 70) (n := 4) (f := va_up (va_up (fun _ => none) 0 (some (b + 21))) 1 (some (b + 63))) (fs := gmf b 70 71) d_L_init_214 (by decide) rfl (by decide) rfl (by unfold vp_in; decide) (fun H locs hN => ?_)
  refine lv_iinc (k := 0) (x := 2) (v := 3) (lv' := [(1, .int 3), (0, .ref (b + 0))]) C.1 C.2.1 d_L_init_215 hl rfl (by decide) (by decide) rfl (fun ls hl => ?_)
  refine lv_goto C.1 C.2.1 d_L_init_218 (tgt := 178) (by decide) ?_
  refine lv_iload_n C.1 C.2.1 d_L_init_178 rfl (lv_at hl 0 rfl) ?_
  refine lv_aload_n C.1 C.2.1 d_L_init_179 rfl (lv_at hl 1 rfl) ?_
  refine a_get C hN (i := 0) (fs := [.ref (b + 1), .ref (b + 7), .ref (b + 14), .int 0, .ref (b + 21), .ref (b + 28), .ref (b + 29), .ref (b + 43), .ref (b + 48), .ref (b + 50), .ref (b + 53), .ref (b + 56), .ref (b + 62), .int 0, .int (-2), .int (-2)]) (v := .ref (b + 28)) d_L_init_180 pf_L_35 (by decide) rfl rfl ?_
  refine a_alen C hN (i := 28) (t := 2) (n := 4) (v := 4) (a := .inr (.inr (.inr (.inr (va_up (va_up (va_up (fun _ => none) 0 (some (b + 21))) 1 (some (b + 63))) 2 (some (b + 70))))))) d_L_init_183 (by decide) rfl rfl rfl ?_
  refine lv_icmp_ge C.1 C.2.1 d_L_init_184 (tgt := 221) (by decide) (fun q => absurd q (by decide)) (fun _ => ?_)
  refine lv_aload_n C.1 C.2.1 d_L_init_187 rfl (lv_at hl 1 rfl) ?_
  refine a_get C hN (i := 0) (fs := [.ref (b + 1), .ref (b + 7), .ref (b + 14), .int 0, .ref (b + 21), .ref (b + 28), .ref (b + 29), .ref (b + 43), .ref (b + 48), .ref (b + 50), .ref (b + 53), .ref (b + 56), .ref (b + 62), .int 0, .int (-2), .int (-2)]) (v := .ref (b + 28)) d_L_init_188 pf_L_35 (by decide) rfl rfl ?_
  refine lv_iload_n C.1 C.2.1 d_L_init_191 rfl (lv_at hl 0 rfl) ?_
  refine lv_iload_n C.1 C.2.1 d_L_init_192 rfl (lv_at hl 0 rfl) ?_
  refine lv_if_ne C.1 C.2.1 d_L_init_193 (tgt := 203) (by decide) (fun _ => ?_) (fun q => absurd q (by decide))
  refine a_new C hN (ci := 2) (q := (R_G, F_G, 15)) (fs := bl_G) d_L_init_203 rfl (tbl_in (List.mem_of_getElem? (i := 167) (by decide +kernel)) rfl) (tbl_in (List.mem_of_getElem? (i := 168) (by decide +kernel)) rfl) (tbl_in (List.mem_of_getElem? (i := 102) (by decide +kernel)) rfl) ft_G ft_G_ok bl_G_ok (Nat.le_of_ble_eq_true rfl) (Nat.le_of_ble_eq_true rfl) (fun H hN => ?_)
  refine lv_dup C.1 C.2.1 d_L_init_206 rfl ?_
  refine lv_aload_n C.1 C.2.1 d_L_init_207 rfl (lv_at hl 1 rfl) ?_
  refine a_get C hN (i := 0) (fs := [.ref (b + 1), .ref (b + 7), .ref (b + 14), .int 0, .ref (b + 21), .ref (b + 28), .ref (b + 29), .ref (b + 43), .ref (b + 48), .ref (b + 50), .ref (b + 53), .ref (b + 56), .ref (b + 62), .int 0, .int (-2), .int (-2)]) (v := .ref (b + 1)) d_L_init_208 pf_L_10 (by decide) rfl rfl ?_
  refine a_init C hN (host := "LayeredCards") (As := [.ref (b + 1)]) d_L_init_211 (nst_in (List.mem_of_getElem? (i := 169) (by decide +kernel)) rfl) mi_G (cn_G (k := 78) (i := 77) (c := 1) (by decide) rfl) rfl rfl hl.1 (Nat.le_of_ble_eq_true rfl) rfl (by decide) (by decide) ⟨Nat.le_of_ble_eq_true rfl, Nat.le_of_ble_eq_true rfl⟩ (fun H locs hN => ?_)
  refine a_aast C hN (i := 28) (i2 := 77) (n := 4) (f := va_up (va_up (va_up (fun _ => none) 0 (some (b + 21))) 1 (some (b + 63))) 2 (some (b + 70))) (fs := gmf b 77 78) d_L_init_214 (by decide) rfl (by decide) rfl (by unfold vp_in; decide) (fun H locs hN => ?_)
  refine lv_iinc (k := 0) (x := 3) (v := 4) (lv' := [(1, .int 4), (0, .ref (b + 0))]) C.1 C.2.1 d_L_init_215 hl rfl (by decide) (by decide) rfl (fun ls hl => ?_)
  refine lv_goto C.1 C.2.1 d_L_init_218 (tgt := 178) (by decide) ?_
  refine lv_iload_n C.1 C.2.1 d_L_init_178 rfl (lv_at hl 0 rfl) ?_
  refine lv_aload_n C.1 C.2.1 d_L_init_179 rfl (lv_at hl 1 rfl) ?_
  refine a_get C hN (i := 0) (fs := [.ref (b + 1), .ref (b + 7), .ref (b + 14), .int 0, .ref (b + 21), .ref (b + 28), .ref (b + 29), .ref (b + 43), .ref (b + 48), .ref (b + 50), .ref (b + 53), .ref (b + 56), .ref (b + 62), .int 0, .int (-2), .int (-2)]) (v := .ref (b + 28)) d_L_init_180 pf_L_35 (by decide) rfl rfl ?_
  refine a_alen C hN (i := 28) (t := 2) (n := 4) (v := 4) (a := .inr (.inr (.inr (.inr (va_up (va_up (va_up (va_up (fun _ => none) 0 (some (b + 21))) 1 (some (b + 63))) 2 (some (b + 70))) 3 (some (b + 77))))))) d_L_init_183 (by decide) rfl rfl rfl ?_
  refine lv_icmp_ge C.1 C.2.1 d_L_init_184 (tgt := 221) (by decide) (fun _ => ?_) (fun q => absurd (by decide) q)
  refine lv_iconst (v := 0) C.1 C.2.1 d_L_init_221 (by decide) ?_
  refine lv_istore_n (lv' := [(1, .int 0), (0, .ref (b + 0))]) C.1 C.2.1 d_L_init_222 rfl hl (by decide) rfl (fun ls hl => ?_)
  refine lv_iload_n C.1 C.2.1 d_L_init_223 rfl (lv_at hl 0 rfl) ?_
  refine lv_aload_n C.1 C.2.1 d_L_init_224 rfl (lv_at hl 1 rfl) ?_
  refine a_get C hN (i := 0) (fs := [.ref (b + 1), .ref (b + 7), .ref (b + 14), .int 0, .ref (b + 21), .ref (b + 28), .ref (b + 29), .ref (b + 43), .ref (b + 48), .ref (b + 50), .ref (b + 53), .ref (b + 56), .ref (b + 62), .int 0, .int (-2), .int (-2)]) (v := .ref (b + 62)) d_L_init_225 pf_L_77 (by decide) rfl rfl ?_
  refine a_alen C hN (i := 62) (t := 0) (n := 8) (v := 8) (a := .inl (fun _ => 0)) d_L_init_228 (by decide) rfl rfl rfl ?_
  refine lv_icmp_ge C.1 C.2.1 d_L_init_229 (tgt := 246) (by decide) (fun q => absurd q (by decide)) (fun _ => ?_)
  refine lv_aload_n C.1 C.2.1 d_L_init_232 rfl (lv_at hl 1 rfl) ?_
  refine a_get C hN (i := 0) (fs := [.ref (b + 1), .ref (b + 7), .ref (b + 14), .int 0, .ref (b + 21), .ref (b + 28), .ref (b + 29), .ref (b + 43), .ref (b + 48), .ref (b + 50), .ref (b + 53), .ref (b + 56), .ref (b + 62), .int 0, .int (-2), .int (-2)]) (v := .ref (b + 62)) d_L_init_233 pf_L_77 (by decide) rfl rfl ?_
  refine lv_iload_n C.1 C.2.1 d_L_init_236 rfl (lv_at hl 0 rfl) ?_
  refine lv_bipush (v := (-2)) C.1 C.2.1 d_L_init_237 (by decide) ?_
  refine a_iast C hN (i := 62) (n := 8) (f := fun _ => 0) d_L_init_239 (by decide) rfl (by unfold vp_in; decide) (fun H locs hN => ?_)
  refine lv_iinc (k := 0) (x := 0) (v := 1) (lv' := [(1, .int 1), (0, .ref (b + 0))]) C.1 C.2.1 d_L_init_240 hl rfl (by decide) (by decide) rfl (fun ls hl => ?_)
  refine lv_goto C.1 C.2.1 d_L_init_243 (tgt := 223) (by decide) ?_
  refine lv_iload_n C.1 C.2.1 d_L_init_223 rfl (lv_at hl 0 rfl) ?_
  refine lv_aload_n C.1 C.2.1 d_L_init_224 rfl (lv_at hl 1 rfl) ?_
  refine a_get C hN (i := 0) (fs := [.ref (b + 1), .ref (b + 7), .ref (b + 14), .int 0, .ref (b + 21), .ref (b + 28), .ref (b + 29), .ref (b + 43), .ref (b + 48), .ref (b + 50), .ref (b + 53), .ref (b + 56), .ref (b + 62), .int 0, .int (-2), .int (-2)]) (v := .ref (b + 62)) d_L_init_225 pf_L_77 (by decide) rfl rfl ?_
  refine a_alen C hN (i := 62) (t := 0) (n := 8) (v := 8) (a := .inl (upd (fun _ => 0) 0 (-2))) d_L_init_228 (by decide) rfl rfl rfl ?_
  refine lv_icmp_ge C.1 C.2.1 d_L_init_229 (tgt := 246) (by decide) (fun q => absurd q (by decide)) (fun _ => ?_)
  refine lv_aload_n C.1 C.2.1 d_L_init_232 rfl (lv_at hl 1 rfl) ?_
  refine a_get C hN (i := 0) (fs := [.ref (b + 1), .ref (b + 7), .ref (b + 14), .int 0, .ref (b + 21), .ref (b + 28), .ref (b + 29), .ref (b + 43), .ref (b + 48), .ref (b + 50), .ref (b + 53), .ref (b + 56), .ref (b + 62), .int 0, .int (-2), .int (-2)]) (v := .ref (b + 62)) d_L_init_233 pf_L_77 (by decide) rfl rfl ?_
  refine lv_iload_n C.1 C.2.1 d_L_init_236 rfl (lv_at hl 0 rfl) ?_
  refine lv_bipush (v := (-2)) C.1 C.2.1 d_L_init_237 (by decide) ?_
  refine a_iast C hN (i := 62) (n := 8) (f := upd (fun _ => 0) 0 (-2)) d_L_init_239 (by decide) rfl (by unfold vp_in; decide) (fun H locs hN => ?_)
  refine lv_iinc (k := 0) (x := 1) (v := 2) (lv' := [(1, .int 2), (0, .ref (b + 0))]) C.1 C.2.1 d_L_init_240 hl rfl (by decide) (by decide) rfl (fun ls hl => ?_)
  refine lv_goto C.1 C.2.1 d_L_init_243 (tgt := 223) (by decide) ?_
  refine lv_iload_n C.1 C.2.1 d_L_init_223 rfl (lv_at hl 0 rfl) ?_
  refine lv_aload_n C.1 C.2.1 d_L_init_224 rfl (lv_at hl 1 rfl) ?_
  refine a_get C hN (i := 0) (fs := [.ref (b + 1), .ref (b + 7), .ref (b + 14), .int 0, .ref (b + 21), .ref (b + 28), .ref (b + 29), .ref (b + 43), .ref (b + 48), .ref (b + 50), .ref (b + 53), .ref (b + 56), .ref (b + 62), .int 0, .int (-2), .int (-2)]) (v := .ref (b + 62)) d_L_init_225 pf_L_77 (by decide) rfl rfl ?_
  refine a_alen C hN (i := 62) (t := 0) (n := 8) (v := 8) (a := .inl (upd (upd (fun _ => 0) 0 (-2)) 1 (-2))) d_L_init_228 (by decide) rfl rfl rfl ?_
  refine lv_icmp_ge C.1 C.2.1 d_L_init_229 (tgt := 246) (by decide) (fun q => absurd q (by decide)) (fun _ => ?_)
  refine lv_aload_n C.1 C.2.1 d_L_init_232 rfl (lv_at hl 1 rfl) ?_
  refine a_get C hN (i := 0) (fs := [.ref (b + 1), .ref (b + 7), .ref (b + 14), .int 0, .ref (b + 21), .ref (b + 28), .ref (b + 29), .ref (b + 43), .ref (b + 48), .ref (b + 50), .ref (b + 53), .ref (b + 56), .ref (b + 62), .int 0, .int (-2), .int (-2)]) (v := .ref (b + 62)) d_L_init_233 pf_L_77 (by decide) rfl rfl ?_
  refine lv_iload_n C.1 C.2.1 d_L_init_236 rfl (lv_at hl 0 rfl) ?_
  refine lv_bipush (v := (-2)) C.1 C.2.1 d_L_init_237 (by decide) ?_
  refine a_iast C hN (i := 62) (n := 8) (f := upd (upd (fun _ => 0) 0 (-2)) 1 (-2)) d_L_init_239 (by decide) rfl (by unfold vp_in; decide) (fun H locs hN => ?_)
  refine lv_iinc (k := 0) (x := 2) (v := 3) (lv' := [(1, .int 3), (0, .ref (b + 0))]) C.1 C.2.1 d_L_init_240 hl rfl (by decide) (by decide) rfl (fun ls hl => ?_)
  refine lv_goto C.1 C.2.1 d_L_init_243 (tgt := 223) (by decide) ?_
  refine lv_iload_n C.1 C.2.1 d_L_init_223 rfl (lv_at hl 0 rfl) ?_
  refine lv_aload_n C.1 C.2.1 d_L_init_224 rfl (lv_at hl 1 rfl) ?_
  refine a_get C hN (i := 0) (fs := [.ref (b + 1), .ref (b + 7), .ref (b + 14), .int 0, .ref (b + 21), .ref (b + 28), .ref (b + 29), .ref (b + 43), .ref (b + 48), .ref (b + 50), .ref (b + 53), .ref (b + 56), .ref (b + 62), .int 0, .int (-2), .int (-2)]) (v := .ref (b + 62)) d_L_init_225 pf_L_77 (by decide) rfl rfl ?_
  refine a_alen C hN (i := 62) (t := 0) (n := 8) (v := 8) (a := .inl (upd (upd (upd (fun _ => 0) 0 (-2)) 1 (-2)) 2 (-2))) d_L_init_228 (by decide) rfl rfl rfl ?_
  refine lv_icmp_ge C.1 C.2.1 d_L_init_229 (tgt := 246) (by decide) (fun q => absurd q (by decide)) (fun _ => ?_)
  refine lv_aload_n C.1 C.2.1 d_L_init_232 rfl (lv_at hl 1 rfl) ?_
  refine a_get C hN (i := 0) (fs := [.ref (b + 1), .ref (b + 7), .ref (b + 14), .int 0, .ref (b + 21), .ref (b + 28), .ref (b + 29), .ref (b + 43), .ref (b + 48), .ref (b + 50), .ref (b + 53), .ref (b + 56), .ref (b + 62), .int 0, .int (-2), .int (-2)]) (v := .ref (b + 62)) d_L_init_233 pf_L_77 (by decide) rfl rfl ?_
  refine lv_iload_n C.1 C.2.1 d_L_init_236 rfl (lv_at hl 0 rfl) ?_
  refine lv_bipush (v := (-2)) C.1 C.2.1 d_L_init_237 (by decide) ?_
  refine a_iast C hN (i := 62) (n := 8) (f := upd (upd (upd (fun _ => 0) 0 (-2)) 1 (-2)) 2 (-2)) d_L_init_239 (by decide) rfl (by unfold vp_in; decide) (fun H locs hN => ?_)
  refine lv_iinc (k := 0) (x := 3) (v := 4) (lv' := [(1, .int 4), (0, .ref (b + 0))]) C.1 C.2.1 d_L_init_240 hl rfl (by decide) (by decide) rfl (fun ls hl => ?_)
  refine lv_goto C.1 C.2.1 d_L_init_243 (tgt := 223) (by decide) ?_
  refine lv_iload_n C.1 C.2.1 d_L_init_223 rfl (lv_at hl 0 rfl) ?_
  refine lv_aload_n C.1 C.2.1 d_L_init_224 rfl (lv_at hl 1 rfl) ?_
  refine a_get C hN (i := 0) (fs := [.ref (b + 1), .ref (b + 7), .ref (b + 14), .int 0, .ref (b + 21), .ref (b + 28), .ref (b + 29), .ref (b + 43), .ref (b + 48), .ref (b + 50), .ref (b + 53), .ref (b + 56), .ref (b + 62), .int 0, .int (-2), .int (-2)]) (v := .ref (b + 62)) d_L_init_225 pf_L_77 (by decide) rfl rfl ?_
  refine a_alen C hN (i := 62) (t := 0) (n := 8) (v := 8) (a := .inl (upd (upd (upd (upd (fun _ => 0) 0 (-2)) 1 (-2)) 2 (-2)) 3 (-2))) d_L_init_228 (by decide) rfl rfl rfl ?_
  refine lv_icmp_ge C.1 C.2.1 d_L_init_229 (tgt := 246) (by decide) (fun q => absurd q (by decide)) (fun _ => ?_)
  refine lv_aload_n C.1 C.2.1 d_L_init_232 rfl (lv_at hl 1 rfl) ?_
  refine a_get C hN (i := 0) (fs := [.ref (b + 1), .ref (b + 7), .ref (b + 14), .int 0, .ref (b + 21), .ref (b + 28), .ref (b + 29), .ref (b + 43), .ref (b + 48), .ref (b + 50), .ref (b + 53), .ref (b + 56), .ref (b + 62), .int 0, .int (-2), .int (-2)]) (v := .ref (b + 62)) d_L_init_233 pf_L_77 (by decide) rfl rfl ?_
  refine lv_iload_n C.1 C.2.1 d_L_init_236 rfl (lv_at hl 0 rfl) ?_
  refine lv_bipush (v := (-2)) C.1 C.2.1 d_L_init_237 (by decide) ?_
  refine a_iast C hN (i := 62) (n := 8) (f := upd (upd (upd (upd (fun _ => 0) 0 (-2)) 1 (-2)) 2 (-2)) 3 (-2)) d_L_init_239 (by decide) rfl (by unfold vp_in; decide) (fun H locs hN => ?_)
  refine lv_iinc (k := 0) (x := 4) (v := 5) (lv' := [(1, .int 5), (0, .ref (b + 0))]) C.1 C.2.1 d_L_init_240 hl rfl (by decide) (by decide) rfl (fun ls hl => ?_)
  refine lv_goto C.1 C.2.1 d_L_init_243 (tgt := 223) (by decide) ?_
  refine lv_iload_n C.1 C.2.1 d_L_init_223 rfl (lv_at hl 0 rfl) ?_
  refine lv_aload_n C.1 C.2.1 d_L_init_224 rfl (lv_at hl 1 rfl) ?_
  refine a_get C hN (i := 0) (fs := [.ref (b + 1), .ref (b + 7), .ref (b + 14), .int 0, .ref (b + 21), .ref (b + 28), .ref (b + 29), .ref (b + 43), .ref (b + 48), .ref (b + 50), .ref (b + 53), .ref (b + 56), .ref (b + 62), .int 0, .int (-2), .int (-2)]) (v := .ref (b + 62)) d_L_init_225 pf_L_77 (by decide) rfl rfl ?_
  refine a_alen C hN (i := 62) (t := 0) (n := 8) (v := 8) (a := .inl (upd (upd (upd (upd (upd (fun _ => 0) 0 (-2)) 1 (-2)) 2 (-2)) 3 (-2)) 4 (-2))) d_L_init_228 (by decide) rfl rfl rfl ?_
  refine lv_icmp_ge C.1 C.2.1 d_L_init_229 (tgt := 246) (by decide) (fun q => absurd q (by decide)) (fun _ => ?_)
  refine lv_aload_n C.1 C.2.1 d_L_init_232 rfl (lv_at hl 1 rfl) ?_
  refine a_get C hN (i := 0) (fs := [.ref (b + 1), .ref (b + 7), .ref (b + 14), .int 0, .ref (b + 21), .ref (b + 28), .ref (b + 29), .ref (b + 43), .ref (b + 48), .ref (b + 50), .ref (b + 53), .ref (b + 56), .ref (b + 62), .int 0, .int (-2), .int (-2)]) (v := .ref (b + 62)) d_L_init_233 pf_L_77 (by decide) rfl rfl ?_
  refine lv_iload_n C.1 C.2.1 d_L_init_236 rfl (lv_at hl 0 rfl) ?_
  refine lv_bipush (v := (-2)) C.1 C.2.1 d_L_init_237 (by decide) ?_
  refine a_iast C hN (i := 62) (n := 8) (f := upd (upd (upd (upd (upd (fun _ => 0) 0 (-2)) 1 (-2)) 2 (-2)) 3 (-2)) 4 (-2)) d_L_init_239 (by decide) rfl (by unfold vp_in; decide) (fun H locs hN => ?_)
  refine lv_iinc (k := 0) (x := 5) (v := 6) (lv' := [(1, .int 6), (0, .ref (b + 0))]) C.1 C.2.1 d_L_init_240 hl rfl (by decide) (by decide) rfl (fun ls hl => ?_)
  refine lv_goto C.1 C.2.1 d_L_init_243 (tgt := 223) (by decide) ?_
  refine lv_iload_n C.1 C.2.1 d_L_init_223 rfl (lv_at hl 0 rfl) ?_
  refine lv_aload_n C.1 C.2.1 d_L_init_224 rfl (lv_at hl 1 rfl) ?_
  refine a_get C hN (i := 0) (fs := [.ref (b + 1), .ref (b + 7), .ref (b + 14), .int 0, .ref (b + 21), .ref (b + 28), .ref (b + 29), .ref (b + 43), .ref (b + 48), .ref (b + 50), .ref (b + 53), .ref (b + 56), .ref (b + 62), .int 0, .int (-2), .int (-2)]) (v := .ref (b + 62)) d_L_init_225 pf_L_77 (by decide) rfl rfl ?_
  refine a_alen C hN (i := 62) (t := 0) (n := 8) (v := 8) (a := .inl (upd (upd (upd (upd (upd (upd (fun _ => 0) 0 (-2)) 1 (-2)) 2 (-2)) 3 (-2)) 4 (-2)) 5 (-2))) d_L_init_228 (by decide) rfl rfl rfl ?_
  refine lv_icmp_ge C.1 C.2.1 d_L_init_229 (tgt := 246) (by decide) (fun q => absurd q (by decide)) (fun _ => ?_)
  refine lv_aload_n C.1 C.2.1 d_L_init_232 rfl (lv_at hl 1 rfl) ?_
  refine a_get C hN (i := 0) (fs := [.ref (b + 1), .ref (b + 7), .ref (b + 14), .int 0, .ref (b + 21), .ref (b + 28), .ref (b + 29), .ref (b + 43), .ref (b + 48), .ref (b + 50), .ref (b + 53), .ref (b + 56), .ref (b + 62), .int 0, .int (-2), .int (-2)]) (v := .ref (b + 62)) d_L_init_233 pf_L_77 (by decide) rfl rfl ?_
  refine lv_iload_n C.1 C.2.1 d_L_init_236 rfl (lv_at hl 0 rfl) ?_
  refine lv_bipush (v := (-2)) C.1 C.2.1 d_L_init_237 (by decide) ?_
  refine a_iast C hN (i := 62) (n := 8) (f := upd (upd (upd (upd (upd (upd (fun _ => 0) 0 (-2)) 1 (-2)) 2 (-2)) 3 (-2)) 4 (-2)) 5 (-2)) d_L_init_239 (by decide) rfl (by unfold vp_in; decide) (fun H locs hN => ?_)
  refine lv_iinc (k := 0) (x := 6) (v := 7) (lv' := [(1, .int 7), (0, .ref (b + 0))]) C.1 C.2.1 d_L_init_240 hl rfl (by decide) (by decide) rfl (fun ls hl => ?_)
  refine lv_goto C.1 C.2.1 d_L_init_243 (tgt := 223) (by decide) ?_
  refine lv_iload_n C.1 C.2.1 d_L_init_223 rfl (lv_at hl 0 rfl) ?_
  refine lv_aload_n C.1 C.2.1 d_L_init_224 rfl (lv_at hl 1 rfl) ?_
  refine a_get C hN (i := 0) (fs := [.ref (b + 1), .ref (b + 7), .ref (b + 14), .int 0, .ref (b + 21), .ref (b + 28), .ref (b + 29), .ref (b + 43), .ref (b + 48), .ref (b + 50), .ref (b + 53), .ref (b + 56), .ref (b + 62), .int 0, .int (-2), .int (-2)]) (v := .ref (b + 62)) d_L_init_225 pf_L_77 (by decide) rfl rfl ?_
  refine a_alen C hN (i := 62) (t := 0) (n := 8) (v := 8) (a := .inl (upd (upd (upd (upd (upd (upd (upd (fun _ => 0) 0 (-2)) 1 (-2)) 2 (-2)) 3 (-2)) 4 (-2)) 5 (-2)) 6 (-2))) d_L_init_228 (by decide) rfl rfl rfl ?_
  refine lv_icmp_ge C.1 C.2.1 d_L_init_229 (tgt := 246) (by decide) (fun q => absurd q (by decide)) (fun _ => ?_)
  refine lv_aload_n C.1 C.2.1 d_L_init_232 rfl (lv_at hl 1 rfl) ?_
  refine a_get C hN (i := 0) (fs := [.ref (b + 1), .ref (b + 7), .ref (b + 14), .int 0, .ref (b + 21), .ref (b + 28), .ref (b + 29), .ref (b + 43), .ref (b + 48), .ref (b + 50), .ref (b + 53), .ref (b + 56), .ref (b + 62), .int 0, .int (-2), .int (-2)]) (v := .ref (b + 62)) d_L_init_233 pf_L_77 (by decide) rfl rfl ?_
  refine lv_iload_n C.1 C.2.1 d_L_init_236 rfl (lv_at hl 0 rfl) ?_
  refine lv_bipush (v := (-2)) C.1 C.2.1 d_L_init_237 (by decide) ?_
  refine a_iast C hN (i := 62) (n := 8) (f := upd (upd (upd (upd (upd (upd (upd (fun _ => 0) 0 (-2)) 1 (-2)) 2 (-2)) 3 (-2)) 4 (-2)) 5 (-2)) 6 (-2)) d_L_init_239 (by decide) rfl (by unfold vp_in; decide) (fun H locs hN => ?_)
  refine lv_iinc (k := 0) (x := 7) (v := 8) (lv' := [(1, .int 8), (0, .ref (b + 0))]) C.1 C.2.1 d_L_init_240 hl rfl (by decide) (by decide) rfl (fun ls hl => ?_)
  refine lv_goto C.1 C.2.1 d_L_init_243 (tgt := 223) (by decide) ?_
  refine lv_iload_n C.1 C.2.1 d_L_init_223 rfl (lv_at hl 0 rfl) ?_
  refine lv_aload_n C.1 C.2.1 d_L_init_224 rfl (lv_at hl 1 rfl) ?_
  refine a_get C hN (i := 0) (fs := [.ref (b + 1), .ref (b + 7), .ref (b + 14), .int 0, .ref (b + 21), .ref (b + 28), .ref (b + 29), .ref (b + 43), .ref (b + 48), .ref (b + 50), .ref (b + 53), .ref (b + 56), .ref (b + 62), .int 0, .int (-2), .int (-2)]) (v := .ref (b + 62)) d_L_init_225 pf_L_77 (by decide) rfl rfl ?_
  refine a_alen C hN (i := 62) (t := 0) (n := 8) (v := 8) (a := .inl (upd (upd (upd (upd (upd (upd (upd (upd (fun _ => 0) 0 (-2)) 1 (-2)) 2 (-2)) 3 (-2)) 4 (-2)) 5 (-2)) 6 (-2)) 7 (-2))) d_L_init_228 (by decide) rfl rfl rfl ?_
  refine lv_icmp_ge C.1 C.2.1 d_L_init_229 (tgt := 246) (by decide) (fun _ => ?_) (fun q => absurd (by decide) q)
  exact a_ret C hN hr d_L_init_246 rfl rfl
