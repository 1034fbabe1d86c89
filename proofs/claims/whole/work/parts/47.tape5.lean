/-! the tape's reader: a line's end -/
def lnM (M : Mem) (n c : Nat) (k p vw a : Int32) : Mem := up (up (up (up (up (up M 76 2 (nI (c + 1))) 78 n k) 79 n p) 80 n vw) 81 n a) 76 7 (nI (n + 1))
set_option maxRecDepth 20000 in
theorem lp_line84 {κ : KX} {t : List Int32} {c n : Nat} {k p v w x5 : Int32} {M : Mem} (hT : TP M t c) (hn : M.1 76 7 = nI n) (hn10 : n < 10) (C : Cx κ lyC y_T_readLine.cls b_T_readLine 7 (some .boolean) 6) (hQ : ∀ v' M', Pi (fun r M' => (r = 0 ∧ ¬ dgF t c 9 ∧ M' = M) ∨ (r = 1 ∧ dgF t c 9 ∧ M' = lnM M n c k p (10 * v + w) (if x5 = 0 then t.getD c 0 - 48 else -(t.getD c 0 - 48)))) v' M' → KQ κ v' M') : G κ lyC 84 [some (.ref 76), some (.int k), some (.int p), some (.int v), some (.int w), some (.int x5), none] [] M := by
  refine u_aload_n (pc := 84) C d_T_readLine_84 rfl ?_
  refine u_bipush (pc := 85) (v := 9) C d_T_readLine_85 (by decide) ?_
  refine u_callVi (pc := 87) C d_T_readLine_87 mx_T_readDigit mw_T_53 sC_76 rfl (c_T_readDigit hT) rfl rfl (Nat.le_of_ble_eq_true rfl) (fun r87 M87 q87 => ?_)
  refine u_istore (pc := 90) C d_T_readLine_90 rfl (fun x90 e90 L9 hL9 => ?_)
  obtain rfl : L9 = [some (.ref 76), some (.int k), some (.int p), some (.int v), some (.int w), some (.int x5), some (.int x90)] := hL9.symm
  refine u_iload (pc := 92) C d_T_readLine_92 rfl ?_
  refine u_if_ge (pc := 94) (tgt := 99) C d_T_readLine_94 rfl (fun c94 => ?_) (fun c94 => ?_)
  · rw [e90] at c94
    obtain ⟨d87, f87, q87b⟩ := rd_y q87 (Int32.not_lt.mpr c94)
    have q87b := q87b.symm
    subst q87b
    have hn9 : (up M 76 2 (nI (c + 1))).1 76 7 = nI n := by rw [up_j (by decide)]; exact hn
    refine u_aload_n (pc := 99) C d_T_readLine_99 rfl ?_
    refine u_getr (pc := 100) (r := 78) C d_T_readLine_100 fw_T_15 sC_76 rfl rfl ?_
    refine u_aload_n (pc := 103) C d_T_readLine_103 rfl ?_
    refine u_geti (pc := 104) C d_T_readLine_104 fw_T_38 sC_76 rfl ?_
    refine u_iload_n (pc := 107) C d_T_readLine_107 rfl ?_
    refine u_callSv (pc := 108) C d_T_readLine_108 mx_L_put mw_T_31 (c_L_put sC_78) rfl rfl (Nat.le_of_ble_eq_true rfl) (fun M108 q108 => ?_)
    have q108 := q108.symm
    subst q108
    rw [hn9, putF_in hn10 (by decide)]
    refine u_aload_n (pc := 111) C d_T_readLine_111 rfl ?_
    refine u_getr (pc := 112) (r := 79) C d_T_readLine_112 fw_T_18 sC_76 rfl rfl ?_
    refine u_aload_n (pc := 115) C d_T_readLine_115 rfl ?_
    refine u_geti (pc := 116) C d_T_readLine_116 fw_T_38 sC_76 rfl ?_
    refine u_iload_n (pc := 119) C d_T_readLine_119 rfl ?_
    refine u_callSv (pc := 120) C d_T_readLine_120 mx_L_put mw_T_31 (c_L_put sC_79) rfl rfl (Nat.le_of_ble_eq_true rfl) (fun M120 q120 => ?_)
    have q120 := q120.symm
    subst q120
    rw [up_ne (show (76 : Nat) ≠ 78 by decide), hn9, putF_in hn10 (by decide)]
    refine u_aload_n (pc := 123) C d_T_readLine_123 rfl ?_
    refine u_getr (pc := 124) (r := 80) C d_T_readLine_124 fw_T_21 sC_76 rfl rfl ?_
    refine u_aload_n (pc := 127) C d_T_readLine_127 rfl ?_
    refine u_geti (pc := 128) C d_T_readLine_128 fw_T_38 sC_76 rfl ?_
    refine u_bipush (pc := 131) (v := 10) C d_T_readLine_131 (by decide) ?_
    refine u_iload_n (pc := 133) C d_T_readLine_133 rfl ?_
    refine u_imul (pc := 134) C d_T_readLine_134 ?_
    refine u_iload (pc := 135) C d_T_readLine_135 rfl ?_
    refine u_iadd (pc := 137) C d_T_readLine_137 ?_
    refine u_callSv (pc := 138) C d_T_readLine_138 mx_L_put mw_T_31 (c_L_put sC_80) rfl rfl (Nat.le_of_ble_eq_true rfl) (fun M138 q138 => ?_)
    have q138 := q138.symm
    subst q138
    rw [up_ne (show (76 : Nat) ≠ 79 by decide), up_ne (show (76 : Nat) ≠ 78 by decide), hn9, putF_in hn10 (by decide)]
    refine u_aload_n (pc := 141) C d_T_readLine_141 rfl ?_
    refine u_getr (pc := 142) (r := 81) C d_T_readLine_142 fw_T_24 sC_76 rfl rfl ?_
    refine u_aload_n (pc := 145) C d_T_readLine_145 rfl ?_
    refine u_geti (pc := 146) C d_T_readLine_146 fw_T_38 sC_76 rfl ?_
    refine u_iload (pc := 149) C d_T_readLine_149 rfl ?_
    refine u_if_eq (pc := 151) (tgt := 160) C d_T_readLine_151 rfl (fun c151 => ?_) (fun c151 => ?_)
    · refine u_iload (pc := 160) C d_T_readLine_160 rfl ?_
      refine u_callSv (pc := 162) C d_T_readLine_162 mx_L_put mw_T_31 (c_L_put sC_81) rfl rfl (Nat.le_of_ble_eq_true rfl) (fun M162 q162 => ?_)
      have q162 := q162.symm
      subst q162
      rw [up_ne (show (76 : Nat) ≠ 80 by decide), up_ne (show (76 : Nat) ≠ 79 by decide), up_ne (show (76 : Nat) ≠ 78 by decide), hn9, putF_in hn10 (by decide)]
      refine u_aload_n (pc := 165) C d_T_readLine_165 rfl ?_
      refine u_dup (pc := 166) C d_T_readLine_166 rfl ?_
      refine u_geti (pc := 167) C d_T_readLine_167 fw_T_38 sC_76 rfl ?_
      refine u_iconst (pc := 170) (v := 1) C d_T_readLine_170 (by decide) ?_
      refine u_iadd (pc := 171) C d_T_readLine_171 ?_
      refine u_put (pc := 172) C d_T_readLine_172 fw_T_38 sC_76 rfl (Or.inl rfl) ?_
      refine u_iconst (pc := 175) (v := 1) C d_T_readLine_175 (by decide) ?_
      refine u_zret (pc := 176) C d_T_readLine_176 (by decide) (hQ _ _ ⟨_, rfl, ?_⟩)
      refine Or.inr ⟨rfl, f87, ?_⟩
      rw [up_ne (show (76 : Nat) ≠ 81 by decide), up_ne (show (76 : Nat) ≠ 80 by decide), up_ne (show (76 : Nat) ≠ 79 by decide), up_ne (show (76 : Nat) ≠ 78 by decide), hn9]
      rw [if_pos c151, e90, d87, ← nI_succ]
      rfl
    · refine u_iload (pc := 154) C d_T_readLine_154 rfl ?_
      refine u_ineg (pc := 156) C d_T_readLine_156 ?_
      refine u_goto (pc := 157) (tgt := 162) C d_T_readLine_157 rfl ?_
      refine u_callSv (pc := 162) C d_T_readLine_162 mx_L_put mw_T_31 (c_L_put sC_81) rfl rfl (Nat.le_of_ble_eq_true rfl) (fun M162 q162 => ?_)
      have q162 := q162.symm
      subst q162
      rw [up_ne (show (76 : Nat) ≠ 80 by decide), up_ne (show (76 : Nat) ≠ 79 by decide), up_ne (show (76 : Nat) ≠ 78 by decide), hn9, putF_in hn10 (by decide)]
      refine u_aload_n (pc := 165) C d_T_readLine_165 rfl ?_
      refine u_dup (pc := 166) C d_T_readLine_166 rfl ?_
      refine u_geti (pc := 167) C d_T_readLine_167 fw_T_38 sC_76 rfl ?_
      refine u_iconst (pc := 170) (v := 1) C d_T_readLine_170 (by decide) ?_
      refine u_iadd (pc := 171) C d_T_readLine_171 ?_
      refine u_put (pc := 172) C d_T_readLine_172 fw_T_38 sC_76 rfl (Or.inl rfl) ?_
      refine u_iconst (pc := 175) (v := 1) C d_T_readLine_175 (by decide) ?_
      refine u_zret (pc := 176) C d_T_readLine_176 (by decide) (hQ _ _ ⟨_, rfl, ?_⟩)
      refine Or.inr ⟨rfl, f87, ?_⟩
      rw [up_ne (show (76 : Nat) ≠ 81 by decide), up_ne (show (76 : Nat) ≠ 80 by decide), up_ne (show (76 : Nat) ≠ 79 by decide), up_ne (show (76 : Nat) ≠ 78 by decide), hn9]
      rw [if_neg c151, e90, d87, ← nI_succ]
      rfl
  · refine u_iconst (pc := 97) (v := 0) C d_T_readLine_97 (by decide) ?_
    refine u_zret (pc := 98) C d_T_readLine_98 (by decide) (hQ _ _ ⟨_, rfl, ?_⟩)
    rw [e90] at c94
    obtain ⟨f87, q87b⟩ := rd_n q87 (Int32.not_le.mp c94)
    exact Or.inl ⟨rfl, f87, q87b⟩
