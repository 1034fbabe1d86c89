/-! the tape's reader: a byte at a time -/
/-- the tape's bytes, and where it is read -/
def TP (M : Mem) (t : List Int32) (cu : Nat) : Prop := (t.length ≤ 120 ∧ M.1 76 1 = nI t.length ∧ ∀ i, i < t.length → M.1 77 i = t.getD i 0) ∧ M.1 76 2 = nI cu ∧ cu ≤ t.length
def tpS (p : Nat) : Prop := p = 76 ∨ (78 ≤ p ∧ p ≤ 81)
theorem TP.lt {M : Mem} {t : List Int32} {cu : Nat} (h : TP M t cu) : M.1 76 1 ≤ M.1 76 2 ↔ t.length ≤ cu := by
  obtain ⟨⟨h1, h2, h3⟩, h4, h5⟩ := h
  rw [h2, h4]
  exact nI_leI (by omega) (by omega)
theorem TP.at {M : Mem} {t : List Int32} {cu : Nat} (h : TP M t cu) {j : Nat} (hj : j < t.length) : atF (M.1 77) 120 (nI j) = t.getD j 0 := by
  obtain ⟨⟨h1, h2, h3⟩, h4, h5⟩ := h
  rw [atF_in (by omega) (by decide), h3 j hj]
theorem TP.mv {M : Mem} {t : List Int32} {cu j : Nat} (h : TP M t cu) (hj : j ≤ t.length) : TP (up M 76 2 (nI j)) t j := by
  obtain ⟨⟨h1, h2, h3⟩, h4, h5⟩ := h
  refine ⟨⟨h1, ?_, fun i hi => ?_⟩, by simp [up], hj⟩
  · rw [up_j (by decide)]; exact h2
  · rw [up_ne (by decide)]; exact h3 i hi
def skF (t : List Int32) (cu : Nat) (x : Int32) : Prop := cu < t.length ∧ t.getD cu 0 = x
def dgF (t : List Int32) (cu : Nat) (mx : Int32) : Prop := cu < t.length ∧ 0 ≤ t.getD cu 0 - 48 ∧ t.getD cu 0 - 48 ≤ mx
set_option maxRecDepth 20000 in
theorem c_T_skip {t : List Int32} {cu : Nat} {M : Mem} (hT : TP M t cu) {x : Int32} : Ct lyC y_T_skip b_T_skip 2 (some .boolean) 1 [.ref 76, .int x] M (Pi fun r M' => (r = 1 ∧ skF t cu x ∧ M' = up M 76 2 (nI (cu + 1))) ∨ (r = 0 ∧ ¬ skF t cu x ∧ M' = M)) := by
  have hlt := hT.lt
  have h2 : M.1 76 2 = nI cu := hT.2.1
  refine Ct.ofG mx_T_skip [some (.ref 76), some (.int x)] rfl rfl (Nat.le_of_ble_eq_true rfl) (fun κ C hQ => ?_)
  refine u_aload_n (pc := 0) C d_T_skip_0 rfl ?_
  refine u_geti (pc := 1) C d_T_skip_1 fw_T_35 sC_76 rfl ?_
  refine u_aload_n (pc := 4) C d_T_skip_4 rfl ?_
  refine u_geti (pc := 5) C d_T_skip_5 fw_T_27 sC_76 rfl ?_
  refine u_icmp_ge (pc := 8) (tgt := 26) C d_T_skip_8 rfl (fun c8 => ?_) (fun c8 => ?_)
  · refine u_iconst (pc := 26) (v := 0) C d_T_skip_26 (by decide) ?_
    refine u_zret (pc := 27) C d_T_skip_27 (by decide) (hQ _ _ ⟨_, rfl, ?_⟩)
    refine Or.inr ⟨rfl, fun q => ?_, rfl⟩
    have q1 := q.1
    rw [hlt] at c8
    omega
  · refine u_aload_n (pc := 11) C d_T_skip_11 rfl ?_
    refine u_getr (pc := 12) (r := 77) C d_T_skip_12 fw_T_9 sC_76 rfl rfl ?_
    refine u_aload_n (pc := 15) C d_T_skip_15 rfl ?_
    refine u_geti (pc := 16) C d_T_skip_16 fw_T_35 sC_76 rfl ?_
    refine u_callSi (pc := 19) C d_T_skip_19 mx_L_at mw_T_60 (c_L_at sC_77) rfl rfl (Nat.le_of_ble_eq_true rfl) (fun r19 M19 q19 => ?_)
    obtain ⟨e19, q19⟩ := q19
    have q19 := q19.symm
    subst q19
    refine u_iload_n (pc := 22) C d_T_skip_22 rfl ?_
    refine u_icmp_eq (pc := 23) (tgt := 28) C d_T_skip_23 rfl (fun c23 => ?_) (fun c23 => ?_)
    · refine u_aload_n (pc := 28) C d_T_skip_28 rfl ?_
      refine u_dup (pc := 29) C d_T_skip_29 rfl ?_
      refine u_geti (pc := 30) C d_T_skip_30 fw_T_35 sC_76 rfl ?_
      refine u_iconst (pc := 33) (v := 1) C d_T_skip_33 (by decide) ?_
      refine u_iadd (pc := 34) C d_T_skip_34 ?_
      refine u_put (pc := 35) C d_T_skip_35 fw_T_35 sC_76 rfl (Or.inl rfl) ?_
      refine u_iconst (pc := 38) (v := 1) C d_T_skip_38 (by decide) ?_
      refine u_zret (pc := 39) C d_T_skip_39 (by decide) (hQ _ _ ⟨_, rfl, ?_⟩)
      rw [hlt] at c8
      rw [h2, hT.at (by omega)] at e19
      refine Or.inl ⟨rfl, ⟨by omega, by rw [← e19]; exact c23⟩, ?_⟩
      rw [h2, nI_succ]
    · refine u_iconst (pc := 26) (v := 0) C d_T_skip_26 (by decide) ?_
      refine u_zret (pc := 27) C d_T_skip_27 (by decide) (hQ _ _ ⟨_, rfl, ?_⟩)
      rw [hlt] at c8
      rw [h2, hT.at (by omega)] at e19
      exact Or.inr ⟨rfl, fun q => c23 (by rw [e19]; exact q.2), rfl⟩
set_option maxRecDepth 20000 in
theorem c_T_readDigit {t : List Int32} {cu : Nat} {M : Mem} (hT : TP M t cu) {x : Int32} : Ct lyC y_T_readDigit b_T_readDigit 3 (some .int) 1 [.ref 76, .int x] M (Pi fun r M' => (r = t.getD cu 0 - 48 ∧ dgF t cu x ∧ M' = up M 76 2 (nI (cu + 1))) ∨ (r = -1 ∧ ¬ dgF t cu x ∧ M' = M)) := by
  have hlt := hT.lt
  have h2 : M.1 76 2 = nI cu := hT.2.1
  refine Ct.ofG mx_T_readDigit [some (.ref 76), some (.int x), none] rfl rfl (Nat.le_of_ble_eq_true rfl) (fun κ C hQ => ?_)
  refine u_aload_n (pc := 0) C d_T_readDigit_0 rfl ?_
  refine u_geti (pc := 1) C d_T_readDigit_1 fw_T_35 sC_76 rfl ?_
  refine u_aload_n (pc := 4) C d_T_readDigit_4 rfl ?_
  refine u_geti (pc := 5) C d_T_readDigit_5 fw_T_27 sC_76 rfl ?_
  refine u_icmp_ge (pc := 8) (tgt := 28) C d_T_readDigit_8 rfl (fun c8 => ?_) (fun c8 => ?_)
  · refine u_iconst (pc := 28) (v := (-1)) C d_T_readDigit_28 (by decide) ?_
    refine u_istore_n (pc := 29) C d_T_readDigit_29 rfl (fun x29 e29 L9 hL9 => ?_)
    obtain rfl : L9 = [some (.ref 76), some (.int x), some (.int x29)] := hL9.symm
    refine u_iload_n (pc := 30) C d_T_readDigit_30 rfl ?_
    refine u_if_lt (pc := 31) (tgt := 39) C d_T_readDigit_31 rfl (fun c31 => ?_) (fun c31 => ?_)
    · refine u_iconst (pc := 39) (v := (-1)) C d_T_readDigit_39 (by decide) ?_
      refine u_iret (pc := 40) C d_T_readDigit_40 (hQ _ _ ⟨_, rfl, ?_⟩)
      refine Or.inr ⟨rfl, fun q => ?_, rfl⟩
      have q1 := q.1
      rw [hlt] at c8
      omega
    · refine u_iload_n (pc := 34) C d_T_readDigit_34 rfl ?_
      refine u_iload_n (pc := 35) C d_T_readDigit_35 rfl ?_
      refine u_icmp_le (pc := 36) (tgt := 41) C d_T_readDigit_36 rfl (fun c36 => ?_) (fun c36 => ?_)
      · refine u_aload_n (pc := 41) C d_T_readDigit_41 rfl ?_
        refine u_dup (pc := 42) C d_T_readDigit_42 rfl ?_
        refine u_geti (pc := 43) C d_T_readDigit_43 fw_T_35 sC_76 rfl ?_
        refine u_iconst (pc := 46) (v := 1) C d_T_readDigit_46 (by decide) ?_
        refine u_iadd (pc := 47) C d_T_readDigit_47 ?_
        refine u_put (pc := 48) C d_T_readDigit_48 fw_T_35 sC_76 rfl (Or.inl rfl) ?_
        refine u_iload_n (pc := 51) C d_T_readDigit_51 rfl ?_
        refine u_iret (pc := 52) C d_T_readDigit_52 (hQ _ _ ⟨_, rfl, ?_⟩)
        rw [e29] at c31
        exact absurd (by decide) c31
      · refine u_iconst (pc := 39) (v := (-1)) C d_T_readDigit_39 (by decide) ?_
        refine u_iret (pc := 40) C d_T_readDigit_40 (hQ _ _ ⟨_, rfl, ?_⟩)
        refine Or.inr ⟨rfl, fun q => ?_, rfl⟩
        have q1 := q.1
        rw [hlt] at c8
        omega
  · refine u_aload_n (pc := 11) C d_T_readDigit_11 rfl ?_
    refine u_getr (pc := 12) (r := 77) C d_T_readDigit_12 fw_T_9 sC_76 rfl rfl ?_
    refine u_aload_n (pc := 15) C d_T_readDigit_15 rfl ?_
    refine u_geti (pc := 16) C d_T_readDigit_16 fw_T_35 sC_76 rfl ?_
    refine u_callSi (pc := 19) C d_T_readDigit_19 mx_L_at mw_T_60 (c_L_at sC_77) rfl rfl (Nat.le_of_ble_eq_true rfl) (fun r19 M19 q19 => ?_)
    obtain ⟨e19, q19⟩ := q19
    have q19 := q19.symm
    subst q19
    refine u_bipush (pc := 22) (v := 48) C d_T_readDigit_22 (by decide) ?_
    refine u_isub (pc := 24) C d_T_readDigit_24 ?_
    refine u_goto (pc := 25) (tgt := 29) C d_T_readDigit_25 rfl ?_
    refine u_istore_n (pc := 29) C d_T_readDigit_29 rfl (fun x29 e29 L9 hL9 => ?_)
    obtain rfl : L9 = [some (.ref 76), some (.int x), some (.int x29)] := hL9.symm
    refine u_iload_n (pc := 30) C d_T_readDigit_30 rfl ?_
    refine u_if_lt (pc := 31) (tgt := 39) C d_T_readDigit_31 rfl (fun c31 => ?_) (fun c31 => ?_)
    · refine u_iconst (pc := 39) (v := (-1)) C d_T_readDigit_39 (by decide) ?_
      refine u_iret (pc := 40) C d_T_readDigit_40 (hQ _ _ ⟨_, rfl, ?_⟩)
      rw [hlt] at c8
      rw [h2, hT.at (by omega)] at e19
      rw [e29, e19] at c31
      refine Or.inr ⟨rfl, fun q => ?_, rfl⟩
      exact absurd c31 (Int32.not_lt.mpr q.2.1)
    · refine u_iload_n (pc := 34) C d_T_readDigit_34 rfl ?_
      refine u_iload_n (pc := 35) C d_T_readDigit_35 rfl ?_
      refine u_icmp_le (pc := 36) (tgt := 41) C d_T_readDigit_36 rfl (fun c36 => ?_) (fun c36 => ?_)
      · refine u_aload_n (pc := 41) C d_T_readDigit_41 rfl ?_
        refine u_dup (pc := 42) C d_T_readDigit_42 rfl ?_
        refine u_geti (pc := 43) C d_T_readDigit_43 fw_T_35 sC_76 rfl ?_
        refine u_iconst (pc := 46) (v := 1) C d_T_readDigit_46 (by decide) ?_
        refine u_iadd (pc := 47) C d_T_readDigit_47 ?_
        refine u_put (pc := 48) C d_T_readDigit_48 fw_T_35 sC_76 rfl (Or.inl rfl) ?_
        refine u_iload_n (pc := 51) C d_T_readDigit_51 rfl ?_
        refine u_iret (pc := 52) C d_T_readDigit_52 (hQ _ _ ⟨_, rfl, ?_⟩)
        rw [hlt] at c8
        rw [h2, hT.at (by omega)] at e19
        rw [e29, e19] at c31 c36
        refine Or.inl ⟨by rw [e29, e19], ⟨by omega, Int32.not_lt.mp c31, c36⟩, ?_⟩
        rw [h2, nI_succ]
      · refine u_iconst (pc := 39) (v := (-1)) C d_T_readDigit_39 (by decide) ?_
        refine u_iret (pc := 40) C d_T_readDigit_40 (hQ _ _ ⟨_, rfl, ?_⟩)
        rw [hlt] at c8
        rw [h2, hT.at (by omega)] at e19
        rw [e29, e19] at c31
        refine Or.inr ⟨rfl, fun q => ?_, rfl⟩
        rw [e29, e19] at c36
        exact c36 q.2.2
