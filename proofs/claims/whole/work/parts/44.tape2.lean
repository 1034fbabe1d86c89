/-! the tape's reader: words -/
/-- how many letters of a kind's word stand at a place, its blank too -/
def alk (t : List Int32) (cu k : Nat) : Nat → Nat → Nat
  | 0, i => i
  | f + 1, i => if i < 7 ∧ cu + i < t.length then (if (sbyt.getD 0 []).getD (k * 7 + i) 0 = t.getD (cu + i) 0 then (if (sbyt.getD 0 []).getD (k * 7 + i) 0 = 32 then i + 1 else alk t cu k f (i + 1)) else i) else i
set_option maxRecDepth 20000 in
theorem lp_alike {κ : KX} {t : List Int32} {cu : Nat} {M : Mem} (hT : TP M t cu) {k : Nat} (hk : k < 15) (C : Cx κ lyC y_T_lettersAlike.cls b_T_lettersAlike 4 (some .int) 4) (hQ : ∀ v M', Pi (fun r M' => r = nI (alk t cu k 8 0) ∧ M' = M) v M' → KQ κ v M') : ∀ (f i : Nat), i ≤ 7 → 7 - i < f → alk t cu k (8 - i) i = alk t cu k 8 0 → G κ lyC 2 [some (.ref 76), some (.int (nI k)), some (.int (nI i)), none] [] M := by
  intro f
  induction f with
  | zero => intro i hi hf; omega
  | succ f ih =>
    intro i hi hf ha
    have h1 := hT.1.2.1
    have h2 : M.1 76 2 = nI cu := hT.2.1
    have h5 := hT.2.2
    have h120 := hT.1.1
    have hi7 : (7 : Int32) ≤ nI i ↔ 7 ≤ i := nI_leI (a := 7) (by omega) (by omega)
    have hsum : M.1 76 2 + nI i = nI (cu + i) := by rw [h2, nI_add]
    have hlt : M.1 76 1 ≤ M.1 76 2 + nI i ↔ t.length ≤ cu + i := by rw [hsum, h1]; exact nI_leI (by omega) (by omega)
    refine u_iload_n (pc := 2) C d_T_lettersAlike_2 rfl ?_
    refine u_bipush (pc := 3) (v := 7) C d_T_lettersAlike_3 (by decide) ?_
    refine u_icmp_ge (pc := 5) (tgt := 84) C d_T_lettersAlike_5 rfl (fun c5 => ?_) (fun c5 => ?_)
    · refine u_iload_n (pc := 84) C d_T_lettersAlike_84 rfl ?_
      refine u_iret (pc := 85) C d_T_lettersAlike_85 (hQ _ _ ⟨_, rfl, ?_⟩)
      have e9 : alk t cu k (8 - i) i = i := by
        rw [hi7] at c5
        rw [show 8 - i = (7 - i) + 1 by omega, alk, if_neg (fun z => by omega)]
      exact ⟨by rw [← ha, e9], rfl⟩
    · refine u_aload_n (pc := 8) C d_T_lettersAlike_8 rfl ?_
      refine u_geti (pc := 9) C d_T_lettersAlike_9 fw_T_35 sC_76 rfl ?_
      refine u_iload_n (pc := 12) C d_T_lettersAlike_12 rfl ?_
      refine u_iadd (pc := 13) C d_T_lettersAlike_13 ?_
      refine u_aload_n (pc := 14) C d_T_lettersAlike_14 rfl ?_
      refine u_geti (pc := 15) C d_T_lettersAlike_15 fw_T_27 sC_76 rfl ?_
      refine u_icmp_ge (pc := 18) (tgt := 84) C d_T_lettersAlike_18 rfl (fun c18 => ?_) (fun c18 => ?_)
      · refine u_iload_n (pc := 84) C d_T_lettersAlike_84 rfl ?_
        refine u_iret (pc := 85) C d_T_lettersAlike_85 (hQ _ _ ⟨_, rfl, ?_⟩)
        have e9 : alk t cu k (8 - i) i = i := by
          rw [hlt] at c18
          rw [hi7] at c5
          rw [show 8 - i = (7 - i) + 1 by omega, alk, if_neg (fun z => by omega)]
        exact ⟨by rw [← ha, e9], rfl⟩
      · have hi7' : i < 7 := by
          have q := c5
          rw [hi7] at q
          omega
        have hcl : cu + i < t.length := by
          have q := c18
          rw [hlt] at q
          omega
        have hj105 : k * 7 + i < slen.getD 0 0 := by
          show k * 7 + i < 105
          omega
        have hst : alk t cu k (8 - i) i = if (sbyt.getD 0 []).getD (k * 7 + i) 0 = t.getD (cu + i) 0 then (if (sbyt.getD 0 []).getD (k * 7 + i) 0 = 32 then i + 1 else alk t cu k (8 - (i + 1)) (i + 1)) else i := by
          rw [show 8 - i = (8 - (i + 1)) + 1 by omega, alk, if_pos ⟨hi7', hcl⟩]
        refine u_iload_n (pc := 21) C d_T_lettersAlike_21 rfl ?_
        refine u_bipush (pc := 22) (v := 7) C d_T_lettersAlike_22 (by decide) ?_
        refine u_imul (pc := 24) C d_T_lettersAlike_24 ?_
        refine u_iload_n (pc := 25) C d_T_lettersAlike_25 rfl ?_
        refine u_iadd (pc := 26) C d_T_lettersAlike_26 ?_
        refine u_istore_n (pc := 27) C d_T_lettersAlike_27 rfl (fun x27 e27 L9 hL9 => ?_)
        obtain rfl : L9 = [some (.ref 76), some (.int (nI k)), some (.int (nI i)), some (.int x27)] := hL9.symm
        have e9 : x27 = nI (k * 7 + i) := by
          rw [e27, show (7 : Int32) = nI 7 from rfl, pk_mul, nI_add]
        clear e27
        subst e9
        refine u_iload_n (pc := 28) C d_T_lettersAlike_28 rfl ?_
        refine u_if_lt (pc := 29) (tgt := 63) C d_T_lettersAlike_29 rfl (fun c29 => ?_) (fun c29 => ?_)
        · exact absurd c29 (nI_pos (by omega))
        · refine u_iload_n (pc := 32) C d_T_lettersAlike_32 rfl ?_
          refine u_ldcS (pc := 33) C (i := 0) rfl d_T_lettersAlike_33 ?_
          refine u_callT (pc := 35) C (i := 0) d_T_lettersAlike_35 mx_J_length mw_T_len (by decide) rfl (c_J_length (by decide)) rfl rfl (Nat.le_of_ble_eq_true rfl) (fun r35 M35 q35 => ?_)
          obtain ⟨rfl, q35⟩ := q35
          have q35 := q35.symm
          subst q35
          refine u_icmp_ge (pc := 38) (tgt := 63) C d_T_lettersAlike_38 rfl (fun c38 => ?_) (fun c38 => ?_)
          · exact absurd c38 (nI_ge hj105 (by decide))
          · refine u_ldcS (pc := 41) C (i := 0) rfl d_T_lettersAlike_41 ?_
            refine u_iload_n (pc := 43) C d_T_lettersAlike_43 rfl ?_
            refine u_callT (pc := 44) C (i := 0) d_T_lettersAlike_44 mx_J_charAt mw_T_chr (by decide) rfl (c_J_charAt (j := k * 7 + i) (by decide) hj105) rfl rfl (Nat.le_of_ble_eq_true rfl) (fun r44 M44 q44 => ?_)
            obtain ⟨e44, q44⟩ := q44
            have q44 := q44.symm
            subst q44
            refine u_aload_n (pc := 47) C d_T_lettersAlike_47 rfl ?_
            refine u_getr (pc := 48) (r := 77) C d_T_lettersAlike_48 fw_T_9 sC_76 rfl rfl ?_
            refine u_aload_n (pc := 51) C d_T_lettersAlike_51 rfl ?_
            refine u_geti (pc := 52) C d_T_lettersAlike_52 fw_T_35 sC_76 rfl ?_
            refine u_iload_n (pc := 55) C d_T_lettersAlike_55 rfl ?_
            refine u_iadd (pc := 56) C d_T_lettersAlike_56 ?_
            refine u_callSi (pc := 57) C d_T_lettersAlike_57 mx_L_at mw_T_60 (c_L_at sC_77) rfl rfl (Nat.le_of_ble_eq_true rfl) (fun r57 M57 q57 => ?_)
            obtain ⟨e57, q57⟩ := q57
            have q57 := q57.symm
            subst q57
            rw [hsum, hT.at hcl] at e57
            refine u_icmp_eq (pc := 60) (tgt := 65) C d_T_lettersAlike_60 rfl (fun c60 => ?_) (fun c60 => ?_)
            · refine u_iinc (pc := 65) (v2 := 1) C d_T_lettersAlike_65 rfl rfl (by decide) (fun x65 e65 L9 hL9 => ?_)
              obtain rfl : L9 = [some (.ref 76), some (.int (nI k)), some (.int x65), some (.int (nI (k * 7 + i)))] := hL9.symm
              refine u_ldcS (pc := 68) C (i := 0) rfl d_T_lettersAlike_68 ?_
              refine u_iload_n (pc := 70) C d_T_lettersAlike_70 rfl ?_
              refine u_callT (pc := 71) C (i := 0) d_T_lettersAlike_71 mx_J_charAt mw_T_chr (by decide) rfl (c_J_charAt (j := k * 7 + i) (by decide) hj105) rfl rfl (Nat.le_of_ble_eq_true rfl) (fun r71 M71 q71 => ?_)
              obtain ⟨e71, q71⟩ := q71
              have q71 := q71.symm
              subst q71
              refine u_bipush (pc := 74) (v := 32) C d_T_lettersAlike_74 (by decide) ?_
              refine u_icmp_ne (pc := 76) (tgt := 81) C d_T_lettersAlike_76 rfl (fun c76 => ?_) (fun c76 => ?_)
              · refine u_goto (pc := 81) (tgt := 2) C d_T_lettersAlike_81 rfl ?_
                rw [e44, e57] at c60
                rw [e71] at c76
                obtain rfl : x65 = nI (i + 1) := by rw [e65, nI_succ]
                refine u_drop 3 rfl ?_
                refine ih (i + 1) (by omega) (by omega) ?_
                rw [← ha, hst, if_pos c60, if_neg c76]
              · refine u_iload_n (pc := 79) C d_T_lettersAlike_79 rfl ?_
                refine u_iret (pc := 80) C d_T_lettersAlike_80 (hQ _ _ ⟨_, rfl, ?_⟩)
                rw [e44, e57] at c60
                rw [e71] at c76
                exact ⟨by rw [← ha, hst, if_pos c60, if_pos c76, e65, nI_succ], rfl⟩
            · refine u_iload_n (pc := 63) C d_T_lettersAlike_63 rfl ?_
              refine u_iret (pc := 64) C d_T_lettersAlike_64 (hQ _ _ ⟨_, rfl, ?_⟩)
              rw [e44, e57] at c60
              exact ⟨by rw [← ha, hst, if_neg c60], rfl⟩
set_option maxRecDepth 20000 in
theorem c_T_lettersAlike {t : List Int32} {cu : Nat} {M : Mem} (hT : TP M t cu) {k : Nat} (hk : k < 15) : Ct lyC y_T_lettersAlike b_T_lettersAlike 4 (some .int) 4 [.ref 76, .int (nI k)] M (Pi fun r M' => r = nI (alk t cu k 8 0) ∧ M' = M) := by
  refine Ct.ofG mx_T_lettersAlike [some (.ref 76), some (.int (nI k)), none, none] rfl rfl (Nat.le_of_ble_eq_true rfl) (fun κ C hQ => ?_)
  refine u_iconst (pc := 0) (v := 0) C d_T_lettersAlike_0 (by decide) ?_
  refine u_istore_n (pc := 1) C d_T_lettersAlike_1 rfl (fun x1 e1 L9 hL9 => ?_)
  obtain rfl : L9 = [some (.ref 76), some (.int (nI k)), some (.int x1), none] := hL9.symm
  subst e1
  exact lp_alike hT hk C hQ 8 0 (by omega) (by omega) rfl
