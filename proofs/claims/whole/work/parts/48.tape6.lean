/-! the tape's reader: a line, whole -/
set_option maxRecDepth 20000 in
theorem c_T_readLine {t : List Int32} {cu n : Nat} {M : Mem} (hT : TP M t cu) (hn : M.1 76 7 = nI n) (hn10 : n < 10) : Ct lyC y_T_readLine b_T_readLine 7 (some .boolean) 6 [.ref 76] M (Pi fun r M' => (∃ c, rdl t cu = (none, c) ∧ r = 0 ∧ M' = up M 76 2 (nI c) ∧ c ≤ t.length) ∨ (∃ k p vw a c, rdl t cu = (some (k, p, vw, a), c + 1) ∧ r = 1 ∧ M' = lnM M n c k p vw a ∧ c + 1 ≤ t.length)) := by
  refine Ct.ofG mx_T_readLine [some (.ref 76), none, none, none, none, none, none] rfl rfl (Nat.le_of_ble_eq_true rfl) (fun κ C hQ => ?_)
  refine u_aload_n (pc := 0) C d_T_readLine_0 rfl ?_
  refine u_callVi (pc := 1) C d_T_readLine_1 mx_T_readWord mw_T_49 sC_76 rfl (c_T_readWord hT) rfl rfl (Nat.le_of_ble_eq_true rfl) (fun r1 M1 q1 => ?_)
  obtain ⟨e1, q1⟩ := q1
  have q1 := q1.symm
  subst q1
  have hT0 := hT.mv (rdw_le hT.2.2 15 0 0 (by have := hT.2.2; omega))
  refine u_istore_n (pc := 4) C d_T_readLine_4 rfl (fun x4 e4 L9 hL9 => ?_)
  obtain rfl : L9 = [some (.ref 76), some (.int x4), none, none, none, none, none] := hL9.symm
  refine u_iload_n (pc := 5) C d_T_readLine_5 rfl ?_
  refine u_if_ge (pc := 6) (tgt := 11) C d_T_readLine_6 rfl (fun c6 => ?_) (fun c6 => ?_)
  · have c6n : ¬ (rdw t cu 15 0 0).1 < 0 := by
      rw [← e1, ← e4]
      exact Int32.not_lt.mpr c6
    refine u_aload_n (pc := 11) C d_T_readLine_11 rfl ?_
    refine u_iconst (pc := 12) (v := 1) C d_T_readLine_12 (by decide) ?_
    refine u_callVi (pc := 13) C d_T_readLine_13 mx_T_readDigit mw_T_53 sC_76 rfl (c_T_readDigit hT0) rfl rfl (Nat.le_of_ble_eq_true rfl) (fun r13 M13 q13 => ?_)
    refine u_istore_n (pc := 16) C d_T_readLine_16 rfl (fun x16 e16 L9 hL9 => ?_)
    obtain rfl : L9 = [some (.ref 76), some (.int x4), some (.int x16), none, none, none, none] := hL9.symm
    refine u_iload_n (pc := 17) C d_T_readLine_17 rfl ?_
    refine u_if_lt (pc := 18) (tgt := 30) C d_T_readLine_18 rfl (fun c18 => ?_) (fun c18 => ?_)
    · refine u_iconst (pc := 30) (v := 0) C d_T_readLine_30 (by decide) ?_
      refine u_zret (pc := 31) C d_T_readLine_31 (by decide) (hQ _ _ ⟨_, rfl, ?_⟩)
      rw [e16] at c18
      obtain ⟨fn, qb⟩ := rd_n q13 c18
      refine Or.inl ⟨cu + (rdw t cu 15 0 0).2, ?_, rfl, ?_, ?_⟩
      · unfold rdl
        simp only []
        rw [if_neg c6n, if_neg fn]
      · exact qb
      · have := hT0.2.2
        omega
    · rw [e16] at c18
      obtain ⟨d13, f13, q13b⟩ := rd_y q13 c18
      rw [up_up] at q13b
      have q13b := q13b.symm
      subst q13b
      have hT1 := hT.mv (show cu + (rdw t cu 15 0 0).2 + 1 ≤ t.length by have := f13.1; omega)
      refine u_aload_n (pc := 21) C d_T_readLine_21 rfl ?_
      refine u_bipush (pc := 22) (v := 32) C d_T_readLine_22 (by decide) ?_
      refine u_callVi (pc := 24) C d_T_readLine_24 mx_T_skip mw_T_45 sC_76 rfl (c_T_skip hT1) rfl rfl (Nat.le_of_ble_eq_true rfl) (fun r24 M24 q24 => ?_)
      refine u_if_ne (pc := 27) (tgt := 32) C d_T_readLine_27 rfl (fun c27 => ?_) (fun c27 => ?_)
      · obtain ⟨f24, q24b⟩ := sk_y q24 c27
        rw [up_up] at q24b
        have q24b := q24b.symm
        subst q24b
        have hT2 := hT.mv (show cu + (rdw t cu 15 0 0).2 + 2 ≤ t.length by have := f24.1; omega)
        refine u_aload_n (pc := 32) C d_T_readLine_32 rfl ?_
        refine u_iconst (pc := 33) (v := 3) C d_T_readLine_33 (by decide) ?_
        refine u_callVi (pc := 34) C d_T_readLine_34 mx_T_readDigit mw_T_53 sC_76 rfl (c_T_readDigit hT2) rfl rfl (Nat.le_of_ble_eq_true rfl) (fun r34 M34 q34 => ?_)
        refine u_istore_n (pc := 37) C d_T_readLine_37 rfl (fun x37 e37 L9 hL9 => ?_)
        obtain rfl : L9 = [some (.ref 76), some (.int x4), some (.int x16), some (.int x37), none, none, none] := hL9.symm
        refine u_iload_n (pc := 38) C d_T_readLine_38 rfl ?_
        refine u_if_lt (pc := 39) (tgt := 51) C d_T_readLine_39 rfl (fun c39 => ?_) (fun c39 => ?_)
        · refine u_iconst (pc := 51) (v := 0) C d_T_readLine_51 (by decide) ?_
          refine u_zret (pc := 52) C d_T_readLine_52 (by decide) (hQ _ _ ⟨_, rfl, ?_⟩)
          rw [e37] at c39
          obtain ⟨fn, qb⟩ := rd_n q34 c39
          refine Or.inl ⟨cu + (rdw t cu 15 0 0).2 + 2, ?_, rfl, ?_, ?_⟩
          · unfold rdl
            simp only []
            rw [if_neg c6n, if_pos f13, if_pos f24, if_neg fn]
          · exact qb
          · have := hT2.2.2
            omega
        · rw [e37] at c39
          obtain ⟨d34, f34, q34b⟩ := rd_y q34 c39
          rw [up_up] at q34b
          have q34b := q34b.symm
          subst q34b
          have hT3 := hT.mv (show cu + (rdw t cu 15 0 0).2 + 3 ≤ t.length by have := f34.1; omega)
          refine u_aload_n (pc := 42) C d_T_readLine_42 rfl ?_
          refine u_bipush (pc := 43) (v := 32) C d_T_readLine_43 (by decide) ?_
          refine u_callVi (pc := 45) C d_T_readLine_45 mx_T_skip mw_T_45 sC_76 rfl (c_T_skip hT3) rfl rfl (Nat.le_of_ble_eq_true rfl) (fun r45 M45 q45 => ?_)
          refine u_if_ne (pc := 48) (tgt := 53) C d_T_readLine_48 rfl (fun c48 => ?_) (fun c48 => ?_)
          · obtain ⟨f45, q45b⟩ := sk_y q45 c48
            rw [up_up] at q45b
            have q45b := q45b.symm
            subst q45b
            have hT4 := hT.mv (show cu + (rdw t cu 15 0 0).2 + 4 ≤ t.length by have := f45.1; omega)
            refine u_aload_n (pc := 53) C d_T_readLine_53 rfl ?_
            refine u_iconst (pc := 54) (v := 3) C d_T_readLine_54 (by decide) ?_
            refine u_callVi (pc := 55) C d_T_readLine_55 mx_T_readDigit mw_T_53 sC_76 rfl (c_T_readDigit hT4) rfl rfl (Nat.le_of_ble_eq_true rfl) (fun r55 M55 q55 => ?_)
            refine u_istore (pc := 58) C d_T_readLine_58 rfl (fun x58 e58 L9 hL9 => ?_)
            obtain rfl : L9 = [some (.ref 76), some (.int x4), some (.int x16), some (.int x37), some (.int x58), none, none] := hL9.symm
            refine u_iload (pc := 60) C d_T_readLine_60 rfl ?_
            refine u_if_lt (pc := 62) (tgt := 74) C d_T_readLine_62 rfl (fun c62 => ?_) (fun c62 => ?_)
            · refine u_iconst (pc := 74) (v := 0) C d_T_readLine_74 (by decide) ?_
              refine u_zret (pc := 75) C d_T_readLine_75 (by decide) (hQ _ _ ⟨_, rfl, ?_⟩)
              rw [e58] at c62
              obtain ⟨fn, qb⟩ := rd_n q55 c62
              refine Or.inl ⟨cu + (rdw t cu 15 0 0).2 + 4, ?_, rfl, ?_, ?_⟩
              · unfold rdl
                simp only []
                rw [if_neg c6n, if_pos f13, if_pos f24, if_pos f34, if_pos f45, if_neg fn]
              · exact qb
              · have := hT4.2.2
                omega
            · rw [e58] at c62
              obtain ⟨d55, f55, q55b⟩ := rd_y q55 c62
              rw [up_up] at q55b
              have q55b := q55b.symm
              subst q55b
              have hT5 := hT.mv (show cu + (rdw t cu 15 0 0).2 + 5 ≤ t.length by have := f55.1; omega)
              refine u_aload_n (pc := 65) C d_T_readLine_65 rfl ?_
              refine u_bipush (pc := 66) (v := 32) C d_T_readLine_66 (by decide) ?_
              refine u_callVi (pc := 68) C d_T_readLine_68 mx_T_skip mw_T_45 sC_76 rfl (c_T_skip hT5) rfl rfl (Nat.le_of_ble_eq_true rfl) (fun r68 M68 q68 => ?_)
              refine u_if_ne (pc := 71) (tgt := 76) C d_T_readLine_71 rfl (fun c71 => ?_) (fun c71 => ?_)
              · obtain ⟨f68, q68b⟩ := sk_y q68 c71
                rw [up_up] at q68b
                have q68b := q68b.symm
                subst q68b
                have hT6 := hT.mv (show cu + (rdw t cu 15 0 0).2 + 6 ≤ t.length by have := f68.1; omega)
                refine u_aload_n (pc := 76) C d_T_readLine_76 rfl ?_
                refine u_bipush (pc := 77) (v := 45) C d_T_readLine_77 (by decide) ?_
                refine u_callVi (pc := 79) C d_T_readLine_79 mx_T_skip mw_T_45 sC_76 rfl (c_T_skip hT6) rfl rfl (Nat.le_of_ble_eq_true rfl) (fun r79 M79 q79 => ?_)
                refine u_istore (pc := 82) C d_T_readLine_82 rfl (fun x82 e82 L9 hL9 => ?_)
                obtain rfl : L9 = [some (.ref 76), some (.int x4), some (.int x16), some (.int x37), some (.int x58), some (.int x82), none] := hL9.symm
                have hc : (up M 76 2 (nI (cu + (rdw t cu 15 0 0).2 + 6))).1 76 7 = nI n := by rw [up_j (by decide)]; exact hn
                rcases q79 with ⟨z1, z2, z3⟩ | ⟨z1, z2, z3⟩
                · rw [up_up] at z3
                  have z3 := z3.symm
                  subst z3
                  have hT7 := hT.mv (show cu + (rdw t cu 15 0 0).2 + 7 ≤ t.length by have := z2.1; omega)
                  refine lp_line84 hT7 (by rw [up_j (by decide)]; exact hn) hn10 C (fun v' M' hv => hQ v' M' ?_)
                  obtain ⟨r, rfl, hv⟩ := hv
                  refine ⟨r, rfl, ?_⟩
                  rw [if_neg (show ¬ x82 = 0 by rw [e82, z1]; decide)] at hv
                  rcases hv with ⟨a1, a2, a3⟩ | ⟨a1, a2, a3⟩
                  · refine Or.inl ⟨cu + (rdw t cu 15 0 0).2 + 7, ?_, a1, by rw [a3], hT7.2.2⟩
                    unfold rdl
                    simp only []
                    rw [if_neg c6n, if_pos f13, if_pos f24, if_pos f34, if_pos f45, if_pos f55, if_pos f68, if_pos z2, if_neg a2]
                  · refine Or.inr ⟨(rdw t cu 15 0 0).1, t.getD (cu + (rdw t cu 15 0 0).2) 0 - 48, 10 * (t.getD (cu + (rdw t cu 15 0 0).2 + 2) 0 - 48) + (t.getD (cu + (rdw t cu 15 0 0).2 + 4) 0 - 48), -(t.getD (cu + (rdw t cu 15 0 0).2 + 7) 0 - 48), cu + (rdw t cu 15 0 0).2 + 7, ?_, a1, ?_, by have := a2.1; omega⟩
                    · unfold rdl
                      simp only []
                      rw [if_neg c6n, if_pos f13, if_pos f24, if_pos f34, if_pos f45, if_pos f55, if_pos f68, if_pos z2, if_pos a2]
                    · rw [a3, e4, e1, e16, d13, e37, d34, e58, d55, lnM, lnM, up_up]
                · have z3 := z3.symm
                  subst z3
                  refine lp_line84 hT6 hc hn10 C (fun v' M' hv => hQ v' M' ?_)
                  obtain ⟨r, rfl, hv⟩ := hv
                  refine ⟨r, rfl, ?_⟩
                  rw [if_pos (show x82 = 0 by rw [e82, z1])] at hv
                  rcases hv with ⟨a1, a2, a3⟩ | ⟨a1, a2, a3⟩
                  · refine Or.inl ⟨cu + (rdw t cu 15 0 0).2 + 6, ?_, a1, by rw [a3], hT6.2.2⟩
                    unfold rdl
                    simp only []
                    rw [if_neg c6n, if_pos f13, if_pos f24, if_pos f34, if_pos f45, if_pos f55, if_pos f68, if_neg z2, if_neg a2]
                  · refine Or.inr ⟨(rdw t cu 15 0 0).1, t.getD (cu + (rdw t cu 15 0 0).2) 0 - 48, 10 * (t.getD (cu + (rdw t cu 15 0 0).2 + 2) 0 - 48) + (t.getD (cu + (rdw t cu 15 0 0).2 + 4) 0 - 48), t.getD (cu + (rdw t cu 15 0 0).2 + 6) 0 - 48, cu + (rdw t cu 15 0 0).2 + 6, ?_, a1, ?_, by have := a2.1; omega⟩
                    · unfold rdl
                      simp only []
                      rw [if_neg c6n, if_pos f13, if_pos f24, if_pos f34, if_pos f45, if_pos f55, if_pos f68, if_neg z2, if_pos a2]
                    · rw [a3, e4, e1, e16, d13, e37, d34, e58, d55, lnM, lnM, up_up]
              · refine u_iconst (pc := 74) (v := 0) C d_T_readLine_74 (by decide) ?_
                refine u_zret (pc := 75) C d_T_readLine_75 (by decide) (hQ _ _ ⟨_, rfl, ?_⟩)
                obtain ⟨fn, qb⟩ := sk_n q68 c71
                refine Or.inl ⟨cu + (rdw t cu 15 0 0).2 + 5, ?_, rfl, ?_, ?_⟩
                · unfold rdl
                  simp only []
                  rw [if_neg c6n, if_pos f13, if_pos f24, if_pos f34, if_pos f45, if_pos f55, if_neg fn]
                · exact qb
                · have := hT5.2.2
                  omega
          · refine u_iconst (pc := 51) (v := 0) C d_T_readLine_51 (by decide) ?_
            refine u_zret (pc := 52) C d_T_readLine_52 (by decide) (hQ _ _ ⟨_, rfl, ?_⟩)
            obtain ⟨fn, qb⟩ := sk_n q45 c48
            refine Or.inl ⟨cu + (rdw t cu 15 0 0).2 + 3, ?_, rfl, ?_, ?_⟩
            · unfold rdl
              simp only []
              rw [if_neg c6n, if_pos f13, if_pos f24, if_pos f34, if_neg fn]
            · exact qb
            · have := hT3.2.2
              omega
      · refine u_iconst (pc := 30) (v := 0) C d_T_readLine_30 (by decide) ?_
        refine u_zret (pc := 31) C d_T_readLine_31 (by decide) (hQ _ _ ⟨_, rfl, ?_⟩)
        obtain ⟨fn, qb⟩ := sk_n q24 c27
        refine Or.inl ⟨cu + (rdw t cu 15 0 0).2 + 1, ?_, rfl, ?_, ?_⟩
        · unfold rdl
          simp only []
          rw [if_neg c6n, if_pos f13, if_neg fn]
        · exact qb
        · have := hT1.2.2
          omega
  · refine u_iconst (pc := 9) (v := 0) C d_T_readLine_9 (by decide) ?_
    refine u_zret (pc := 10) C d_T_readLine_10 (by decide) (hQ _ _ ⟨_, rfl, ?_⟩)
    have c6n : (rdw t cu 15 0 0).1 < 0 := by
      rw [← e1, ← e4]
      exact Int32.not_le.mp c6
    refine Or.inl ⟨cu + (rdw t cu 15 0 0).2, ?_, rfl, rfl, hT0.2.2⟩
    unfold rdl
    simp only []
    rw [if_pos c6n]
