/-! the reference: further calls that read -/
theorem tpa_in {j : Nat} (h : j ≤ 2199) : (nI j / 1000 = nI (j / 1000) ∧ remF (nI j) 1000 = nI (j % 1000) ∧ remF (nI j) 1000 / 100 = nI (j % 1000 / 100) ∧ remF (nI j) 100 = nI (j % 100)) ∧ nI j / 100 - nI j / 100 / 10 * 10 = nI (j / 100 % 10) := by
  unfold remF
  rw [show (1000 : Int32) = nI 1000 from rfl, show (100 : Int32) = nI 100 from rfl, show (10 : Int32) = nI 10 from rfl]
  refine ⟨⟨pk_div (by omega) (by decide) (by decide), pk_rem (by omega) (by decide) (by decide), ?_, pk_rem (by omega) (by decide) (by decide)⟩, ?_⟩
  · rw [pk_rem (by omega) (by decide) (by decide), pk_div (by omega) (by decide) (by decide)]
  · rw [pk_div (by omega) (by decide) (by decide), pk_rem (by omega) (by decide) (by decide)]
theorem used_big {x k : Int32} {σ : St} (h : (2199 : Int32) < x) : sp_used x k σ = -1 := by
  have h0 : ¬ x < 0 := fun z => by
    have h1 := Int32.lt_iff_toInt_lt.mp z
    have h2 := Int32.lt_iff_toInt_lt.mp h
    have a0 : (0 : Int32).toInt = 0 := by decide
    have a9 : (2199 : Int32).toInt = 2199 := by decide
    omega
  rw [sp_used, if_neg h0]
  obtain ⟨j, hj, rfl⟩ := nI_of h0
  have hj2 : 2199 < j := (nI_ltI (a := 2199) (by decide) hj).mp h
  by_cases h3 : (3 : Int32) ≤ nI j / 1000
  · rw [if_pos h3]
  · rw [if_neg h3, if_pos]
    rw [show (1000 : Int32) = nI 1000 from rfl, pk_div hj (by decide) (by decide)] at h3
    have h4 : ¬ 3 ≤ j / 1000 := fun z => h3 (nI_le (a := 3) z (by omega))
    unfold remF
    rw [show (1000 : Int32) = nI 1000 from rfl, pk_rem hj (by decide) (by decide)]
    exact nI_le (a := 200) (by omega) (by omega)
set_option maxRecDepth 20000 in
theorem c_M_used {x k : Int32} {M : Mem} {σ : St} (hI : InvR M σ) : Ct lyR y_M_used b_M_used 3 (some .int) 4 [.ref 0, .int x, .int k] M (Pi fun r M' => r = sp_used x k σ ∧ InvR M' σ) := by
  have hS := hI.1
  have n24 := hS.n24
  have h5 := hS.2.2.1
  obtain ⟨k1, k2, k3, k4, k5⟩ := hS.cdc
  refine Ct.ofG mx_M_used [some (.ref 0), some (.int x), some (.int k)] rfl rfl (Nat.le_of_ble_eq_true rfl) (fun κ C hQ => ?_)
  refine u_iload_n (pc := 0) C d_M_used_0 rfl ?_
  refine u_iconst (pc := 1) (v := 0) C d_M_used_1 (by decide) ?_
  refine u_sipush (pc := 2) (v := 2199) C d_M_used_2 (by decide) ?_
  refine u_callSi (pc := 5) C d_M_used_5 mx_M_in mw_M_73 (c_M_in) rfl rfl (Nat.le_of_ble_eq_true rfl) (fun r5 M5 q5 => ?_)
  obtain ⟨e5, q5⟩ := q5
  have q5 := q5.symm
  subst q5
  refine u_if_eq (pc := 8) (tgt := 28) C d_M_used_8 rfl (fun c8 => ?_) (fun c8 => ?_)
  · refine u_iconst (pc := 28) (v := (-1)) C d_M_used_28 (by decide) ?_
    refine u_iret (pc := 29) C d_M_used_29 (hQ _ _ ⟨_, rfl, ?_⟩)
    rw [e5] at c8
    refine ⟨?_, hI⟩
    rcases in_n c8 with q | q
    · rw [sp_used, if_pos q]
    · rw [used_big q]
  · rw [e5] at c8
    obtain ⟨j, hj, rfl⟩ := inN (n := 2199) rfl (by decide) c8
    obtain ⟨⟨s1, s2, s3, s4⟩, s5⟩ := tpa_in hj
    have g3 : ¬ (3 : Int32) ≤ nI (j / 1000) := nI_ge (a := j / 1000) (b := 3) (by omega) (by decide)
    refine u_iload_n (pc := 11) C d_M_used_11 rfl ?_
    refine u_bipush (pc := 12) (v := 100) C d_M_used_12 (by decide) ?_
    refine u_idiv (pc := 14) C d_M_used_14 (by decide) ?_
    refine u_bipush (pc := 15) (v := 10) C d_M_used_15 (by decide) ?_
    refine u_irem (pc := 17) C d_M_used_17 (by decide) ?_
    refine u_iconst (pc := 18) (v := 1) C d_M_used_18 (by decide) ?_
    refine u_icmp_gt (pc := 19) (tgt := 28) C d_M_used_19 rfl (fun c19 => ?_) (fun c19 => ?_)
    · refine u_iconst (pc := 28) (v := (-1)) C d_M_used_28 (by decide) ?_
      refine u_iret (pc := 29) C d_M_used_29 (hQ _ _ ⟨_, rfl, ?_⟩)
      refine ⟨?_, hI⟩
      rw [s5] at c19
      have h10 : 1 < j / 100 % 10 := (nI_ltI (a := 1) (by decide) (by omega)).mp c19
      rw [sp_used, if_neg (nI_pos (by omega)), s1]
      by_cases h3 : (3 : Int32) ≤ nI (j / 1000)
      · rw [if_pos h3]
      · rw [if_neg h3, s2, if_pos (show (200 : Int32) ≤ nI (j % 1000) from nI_le (a := 200) (by omega) (by omega))]
    · refine u_iload_n (pc := 22) C d_M_used_22 rfl ?_
      refine u_bipush (pc := 23) (v := (-2)) C d_M_used_23 (by decide) ?_
      refine u_icmp_ge (pc := 25) (tgt := 30) C d_M_used_25 rfl (fun c25 => ?_) (fun c25 => ?_)
      · have hj10 : ¬ 1 < j / 100 % 10 := fun z => c19 (by rw [s5]; exact nI_lt (a := 1) z (by omega))
        have hdd : j % 1000 / 100 = j / 100 % 10 := by omega
        have g200 : ¬ (200 : Int32) ≤ nI (j % 1000) := nI_ge (a := j % 1000) (b := 200) (by omega) (by decide)
        have e1000 := s1
        have e10 := s5
        have e100 : nI j - nI j / 100 * 100 = nI (j % 100) := s4
        have hok : evok (nI j / 1000, nI j / 100 - nI j / 100 / 10 * 10, withinF (nI j - nI j / 100 * 100) 0 99) := by
          rw [e1000, e10, e100]
          refine ⟨⟨j / 1000, by omega, rfl⟩, ?_, within_ok _⟩
          rcases (show j / 100 % 10 = 0 ∨ j / 100 % 10 = 1 by omega) with z | z
          · rw [z]; exact Or.inl rfl
          · rw [z]; exact Or.inr rfl
        refine u_aload_n (pc := 30) C d_M_used_30 rfl ?_
        refine u_iload_n (pc := 31) C d_M_used_31 rfl ?_
        refine u_sipush (pc := 32) (v := 1000) C d_M_used_32 (by decide) ?_
        refine u_idiv (pc := 35) C d_M_used_35 (by decide) ?_
        refine u_iload_n (pc := 36) C d_M_used_36 rfl ?_
        refine u_bipush (pc := 37) (v := 100) C d_M_used_37 (by decide) ?_
        refine u_idiv (pc := 39) C d_M_used_39 (by decide) ?_
        refine u_bipush (pc := 40) (v := 10) C d_M_used_40 (by decide) ?_
        refine u_irem (pc := 42) C d_M_used_42 (by decide) ?_
        refine u_iload_n (pc := 43) C d_M_used_43 rfl ?_
        refine u_bipush (pc := 44) (v := 100) C d_M_used_44 (by decide) ?_
        refine u_irem (pc := 46) C d_M_used_46 (by decide) ?_
        refine u_callVv (pc := 47) C d_M_used_47 mx_M_replaced mw_M_230 sR_0 rfl (c_M_replaced hS hok) rfl rfl (Nat.le_of_ble_eq_true rfl) (fun M47 q47 => ?_)
        obtain ⟨hE, oe⟩ := q47
        rw [e1000, e10, e100] at hE
        obtain ⟨v16, v17, v18, u1, u2, u3, u4⟩ := id hE
        refine u_iload_n (pc := 50) C d_M_used_50 rfl ?_
        refine u_iconst (pc := 51) (v := (-1)) C d_M_used_51 (by decide) ?_
        refine u_icmp_ne (pc := 52) (tgt := 77) C d_M_used_52 rfl (fun c52 => ?_) (fun c52 => ?_)
        · refine u_iload_n (pc := 77) C d_M_used_77 rfl ?_
          refine u_bipush (pc := 78) (v := (-2)) C d_M_used_78 (by decide) ?_
          refine u_icmp_ne (pc := 80) (tgt := 90) C d_M_used_80 rfl (fun c80 => ?_) (fun c80 => ?_)
          · refine u_iload_n (pc := 90) C d_M_used_90 rfl ?_
            refine u_aload_n (pc := 91) C d_M_used_91 rfl ?_
            refine u_geti (pc := 92) C d_M_used_92 fw_M_208 sR_0 rfl ?_
            refine u_icmp_ge (pc := 95) (tgt := 107) C d_M_used_95 rfl (fun c95 => ?_) (fun c95 => ?_)
            · refine u_bipush (pc := 107) (v := (-2)) C d_M_used_107 (by decide) ?_
              refine u_iret (pc := 109) C d_M_used_109 (hQ _ _ ⟨_, rfl, ?_⟩)
              refine ⟨?_, hI.repd oe⟩
              rw [sp_used, if_neg (nI_pos (by omega)), s3, s1, if_neg g3, s2, if_neg g200, if_neg (Int32.not_lt.mpr c25), if_neg c52, s4, hdd, if_neg c80, if_neg (show ¬ k < nI _ from Int32.not_lt.mpr (by rw [← u1]; exact c95))]
            · rw [u1] at c95
              have hk0 : ¬ k < 0 := fun z => by
                have h1 := Int32.lt_iff_toInt_lt.mp z
                have h2 := Int32.le_iff_toInt_le.mp (Int32.not_lt.mp (show ¬ k < -2 from Int32.not_lt.mpr c25))
                have a0 : (0 : Int32).toInt = 0 := by decide
                have a2 : (-2 : Int32).toInt = -2 := by decide
                have a1 : (-1 : Int32).toInt = -1 := by decide
                rcases (show k.toInt = -2 ∨ k.toInt = -1 by omega) with y | y
                · exact c80 (Int32.toInt_inj.mp (y.trans a2.symm))
                · exact c52 (Int32.toInt_inj.mp (y.trans a1.symm))
              obtain ⟨t, ht, rfl⟩ := nI_of hk0
              have htl : t < (rep σ.1.1 σ.1.2.2.2 (nI (j / 1000)) (nI (j / 100 % 10)) (nI (j % 100))).2.length := by
                have := not_leI (b := t) (by omega) ht c95
                omega
              refine u_aload_n (pc := 98) C d_M_used_98 rfl ?_
              refine u_getr (pc := 99) (r := 219) C d_M_used_99 fw_M_49 sR_0 rfl rfl ?_
              refine u_iload_n (pc := 102) C d_M_used_102 rfl ?_
              refine u_iald (pc := 103) C d_M_used_103 sR_219 (vp_in_nI (by omega) (by decide)) ?_
              refine u_goto (pc := 104) (tgt := 109) C d_M_used_104 rfl ?_
              refine u_iret (pc := 109) C d_M_used_109 (hQ _ _ ⟨_, rfl, ?_⟩)
              refine ⟨?_, hI.repd oe⟩
              rw [sp_used, if_neg (nI_pos (by omega)), s3, s1, if_neg g3, s2, if_neg g200, if_neg (Int32.not_lt.mpr c25), if_neg c52, s4, hdd, if_neg c80, if_pos (show nI t < nI _ from nI_lt htl (by omega)), nI_clamp ht, u2 t htl]
          · refine u_aload_n (pc := 83) C d_M_used_83 rfl ?_
            refine u_geti (pc := 84) C d_M_used_84 fw_M_208 sR_0 rfl ?_
            refine u_goto (pc := 87) (tgt := 109) C d_M_used_87 rfl ?_
            refine u_iret (pc := 109) C d_M_used_109 (hQ _ _ ⟨_, rfl, ?_⟩)
            refine ⟨?_, hI.repd oe⟩
            rw [sp_used, if_neg (nI_pos (by omega)), s3, s1, if_neg g3, s2, if_neg g200, if_neg (Int32.not_lt.mpr c25), if_neg c52, s4, hdd, if_pos c80, u1]
        · refine u_sipush (pc := 55) (v := 1000) C d_M_used_55 (by decide) ?_
          refine u_aload_n (pc := 58) C d_M_used_58 rfl ?_
          refine u_geti (pc := 59) C d_M_used_59 fw_M_202 sR_0 rfl ?_
          refine u_imul (pc := 62) C d_M_used_62 ?_
          refine u_bipush (pc := 63) (v := 100) C d_M_used_63 (by decide) ?_
          refine u_aload_n (pc := 65) C d_M_used_65 rfl ?_
          refine u_geti (pc := 66) C d_M_used_66 fw_M_205 sR_0 rfl ?_
          refine u_imul (pc := 69) C d_M_used_69 ?_
          refine u_iadd (pc := 70) C d_M_used_70 ?_
          refine u_aload_n (pc := 71) C d_M_used_71 rfl ?_
          refine u_geti (pc := 72) C d_M_used_72 fw_M_217 sR_0 rfl ?_
          refine u_iadd (pc := 75) C d_M_used_75 ?_
          refine u_iret (pc := 76) C d_M_used_76 (hQ _ _ ⟨_, rfl, ?_⟩)
          refine ⟨?_, hI.repd oe⟩
          rw [sp_used, if_neg (nI_pos (by omega)), s3, s1, if_neg g3, s2, if_neg g200, if_neg (Int32.not_lt.mpr c25), if_pos c52, s4, hdd, v16, v17, v18]
          rfl
      · refine u_iconst (pc := 28) (v := (-1)) C d_M_used_28 (by decide) ?_
        refine u_iret (pc := 29) C d_M_used_29 (hQ _ _ ⟨_, rfl, ?_⟩)
        refine ⟨?_, hI⟩
        have hj10 : ¬ 1 < j / 100 % 10 := fun z => c19 (by rw [s5]; exact nI_lt (a := 1) z (by omega))
        have g200 : ¬ (200 : Int32) ≤ nI (j % 1000) := nI_ge (a := j % 1000) (b := 200) (by omega) (by decide)
        rw [sp_used, if_neg (nI_pos (by omega)), s1, if_neg g3, s2, if_neg g200, if_pos (Int32.not_le.mp c25)]
set_option maxRecDepth 20000 in
theorem c_M_pile {i : Int32} {M : Mem} {σ : St} (hI : InvR M σ) : Ct lyR y_M_pile b_M_pile 2 (some .int) 1 [.ref 0, .int i] M (Pi fun r M' => r = sp_pile i σ ∧ InvR M' σ) := by
  have hS := hI.1
  have n24 := hS.n24
  have h5 := hS.2.2.1
  obtain ⟨k1, k2, k3, k4, k5⟩ := hS.cdc
  obtain ⟨h, hh64, hh4⟩ := hS.1.hb
  have hm : M.1 6 6 = nI h := by rw [← hh4]; exact hS.many
  refine Ct.ofG mx_M_pile [some (.ref 0), some (.int i)] rfl rfl (Nat.le_of_ble_eq_true rfl) (fun κ C hQ => ?_)
  refine u_iload_n (pc := 0) C d_M_pile_0 rfl ?_
  refine u_if_ge (pc := 1) (tgt := 6) C d_M_pile_1 rfl (fun c1 => ?_) (fun c1 => ?_)
  · refine u_iload_n (pc := 6) C d_M_pile_6 rfl ?_
    refine u_aload_n (pc := 7) C d_M_pile_7 rfl ?_
    refine u_getr (pc := 8) (r := 6) C d_M_pile_8 fw_M_25 sR_0 rfl rfl ?_
    refine u_bipush (pc := 11) (v := 6) C d_M_pile_11 (by decide) ?_
    refine u_iald (pc := 13) C d_M_pile_13 sR_6 v6 ?_
    refine u_icmp_ge (pc := 14) (tgt := 39) C d_M_pile_14 rfl (fun c14 => ?_) (fun c14 => ?_)
    · refine u_bipush (pc := 39) (v := (-2)) C d_M_pile_39 (by decide) ?_
      refine u_iret (pc := 41) C d_M_pile_41 (hQ _ _ ⟨_, rfl, ?_⟩)
      rw [cl6, hm] at c14
      exact ⟨by rw [sp_pile, if_pos c1, hh4, if_neg (Int32.not_lt.mpr c14)], hI⟩
    · rw [cl6, hm] at c14
      obtain ⟨j, hj, rfl⟩ := nI_of (Int32.not_lt.mpr c1)
      have hjh : j < h := by
        have := not_leI (a := h) (b := j) (by omega) hj c14
        omega
      have hix : (7 : Int32) + M.1 6 (6 : Int32).toNatClampNeg - 1 - nI j = nI (7 + (h - 1 - j)) := by
        rw [cl6, hm, show (7 : Int32) = nI 7 from rfl, show (1 : Int32) = nI 1 from rfl, nI_add, pk_sub (by omega), pk_sub (by omega)]
        exact congrArg nI (by omega)
      have hix2 : nI h - 1 - nI j = nI (h - 1 - j) := by
        rw [show (1 : Int32) = nI 1 from rfl, pk_sub (by omega), pk_sub (by omega)]
      refine u_aload_n (pc := 17) C d_M_pile_17 rfl ?_
      refine u_getr (pc := 18) (r := 6) C d_M_pile_18 fw_M_25 sR_0 rfl rfl ?_
      refine u_bipush (pc := 21) (v := 7) C d_M_pile_21 (by decide) ?_
      refine u_aload_n (pc := 23) C d_M_pile_23 rfl ?_
      refine u_getr (pc := 24) (r := 6) C d_M_pile_24 fw_M_25 sR_0 rfl rfl ?_
      refine u_bipush (pc := 27) (v := 6) C d_M_pile_27 (by decide) ?_
      refine u_iald (pc := 29) C d_M_pile_29 sR_6 v6 ?_
      refine u_iadd (pc := 30) C d_M_pile_30 ?_
      refine u_iconst (pc := 31) (v := 1) C d_M_pile_31 (by decide) ?_
      refine u_isub (pc := 32) C d_M_pile_32 ?_
      refine u_iload_n (pc := 33) C d_M_pile_33 rfl ?_
      refine u_isub (pc := 34) C d_M_pile_34 ?_
      refine u_iald (pc := 35) C d_M_pile_35 sR_6 (by rw [hix]; exact vp_in_nI (by omega) (by decide)) ?_
      refine u_goto (pc := 36) (tgt := 41) C d_M_pile_36 rfl ?_
      refine u_iret (pc := 41) C d_M_pile_41 (hQ _ _ ⟨_, rfl, ?_⟩)
      refine ⟨?_, hI⟩
      rw [sp_pile, if_pos c1, hh4, if_pos (nI_lt hjh (by omega)), hix, hix2, nI_clamp (by omega), nI_clamp (by omega), hS.2.2.2.2.2.1.2 _ (by rw [hh4, nI_clamp (by omega)]; omega)]
  · refine u_iconst (pc := 4) (v := (-1)) C d_M_pile_4 (by decide) ?_
    refine u_iret (pc := 5) C d_M_pile_5 (hQ _ _ ⟨_, rfl, ?_⟩)
    exact ⟨by rw [sp_pile, if_neg c1], hI⟩
set_option maxRecDepth 20000 in
theorem c_M_ended {what : Int32} {M : Mem} {σ : St} (hI : InvR M σ) : Ct lyR y_M_ended b_M_ended 2 (some .int) 1 [.ref 0, .int what] M (Pi fun r M' => r = sp_ended what σ ∧ InvR M' σ) := by
  have hS := hI.1
  have n24 := hS.n24
  have h5 := hS.2.2.1
  obtain ⟨k1, k2, k3, k4, k5⟩ := hS.cdc
  obtain ⟨w25, w26, w27⟩ := hI.2.2.2.2.1
  refine Ct.ofG mx_M_ended [some (.ref 0), some (.int what)] rfl rfl (Nat.le_of_ble_eq_true rfl) (fun κ C hQ => ?_)
  refine u_iload_n (pc := 0) C d_M_ended_0 rfl ?_
  refine u_iconst (pc := 1) (v := 0) C d_M_ended_1 (by decide) ?_
  refine u_iconst (pc := 2) (v := 2) C d_M_ended_2 (by decide) ?_
  refine u_callSi (pc := 3) C d_M_ended_3 mx_M_in mw_M_73 (c_M_in) rfl rfl (Nat.le_of_ble_eq_true rfl) (fun r3 M3 q3 => ?_)
  obtain ⟨e3, q3⟩ := q3
  have q3 := q3.symm
  subst q3
  refine u_if_ne (pc := 6) (tgt := 11) C d_M_ended_6 rfl (fun c6 => ?_) (fun c6 => ?_)
  · refine u_iload_n (pc := 11) C d_M_ended_11 rfl ?_
    refine u_if_ne (pc := 12) (tgt := 22) C d_M_ended_12 rfl (fun c12 => ?_) (fun c12 => ?_)
    · refine u_iload_n (pc := 22) C d_M_ended_22 rfl ?_
      refine u_iconst (pc := 23) (v := 1) C d_M_ended_23 (by decide) ?_
      refine u_icmp_ne (pc := 24) (tgt := 34) C d_M_ended_24 rfl (fun c24 => ?_) (fun c24 => ?_)
      · refine u_aload_n (pc := 34) C d_M_ended_34 rfl ?_
        refine u_geti (pc := 35) C d_M_ended_35 fw_M_61 sR_0 rfl ?_
        refine u_iret (pc := 38) C d_M_ended_38 (hQ _ _ ⟨_, rfl, ?_⟩)
        rw [e3] at c6
        obtain ⟨w, hw2, rfl⟩ := inN (n := 2) rfl (by decide) c6
        have hq2 : nI w = 2 := by
          rcases (show w = 0 ∨ w = 1 ∨ w = 2 by omega) with z | z | z
          · exact absurd (by rw [z]; rfl) c12
          · exact absurd (by rw [z]; rfl) c24
          · rw [z]; rfl
        exact ⟨by rw [sp_ended, if_neg c12, if_neg c24, if_pos hq2, w27], hI⟩
      · refine u_aload_n (pc := 27) C d_M_ended_27 rfl ?_
        refine u_geti (pc := 28) C d_M_ended_28 fw_M_58 sR_0 rfl ?_
        refine u_goto (pc := 31) (tgt := 38) C d_M_ended_31 rfl ?_
        refine u_iret (pc := 38) C d_M_ended_38 (hQ _ _ ⟨_, rfl, ?_⟩)
        exact ⟨by rw [sp_ended, if_neg c12, if_pos c24, w26], hI⟩
    · refine u_aload_n (pc := 15) C d_M_ended_15 rfl ?_
      refine u_geti (pc := 16) C d_M_ended_16 fw_M_291 sR_0 rfl ?_
      refine u_goto (pc := 19) (tgt := 38) C d_M_ended_19 rfl ?_
      refine u_iret (pc := 38) C d_M_ended_38 (hQ _ _ ⟨_, rfl, ?_⟩)
      exact ⟨by rw [sp_ended, if_pos c12, w25], hI⟩
  · refine u_iconst (pc := 9) (v := (-1)) C d_M_ended_9 (by decide) ?_
    refine u_iret (pc := 10) C d_M_ended_10 (hQ _ _ ⟨_, rfl, ?_⟩)
    rw [e3] at c6
    have z : ∀ k : Int32, (0 ≤ k.toInt ∧ k.toInt ≤ 2) → ¬ what = k := fun k hk q => by
      rw [q] at c6
      have h9 := in_n c6
      have a0 : (0 : Int32).toInt = 0 := by decide
      have a2 : (2 : Int32).toInt = 2 := by decide
      rw [Int32.lt_iff_toInt_lt, Int32.lt_iff_toInt_lt, a0, a2] at h9
      omega
    exact ⟨by rw [sp_ended, if_neg (z 0 (by decide)), if_neg (z 1 (by decide)), if_neg (z 2 (by decide))], hI⟩
set_option maxRecDepth 20000 in
theorem c_M_trace {w i : Int32} {M : Mem} {σ : St} (hI : InvR M σ) : Ct lyR y_M_trace b_M_trace 4 (some .int) 1 [.ref 0, .int w, .int i] M (Pi fun r M' => r = sp_trace w i σ ∧ InvR M' σ) := by
  have hS := hI.1
  have n24 := hS.n24
  have h5 := hS.2.2.1
  obtain ⟨k1, k2, k3, k4, k5⟩ := hS.cdc
  obtain ⟨⟨g1, g2⟩, g3, g4⟩ := hI.2.2.2.2.2.1
  have m1 : min σ.2.2.2.2.2.1.length 40 ≤ 40 := Nat.min_le_right _ _
  have m2 : min σ.2.2.2.2.2.2.length 40 ≤ 40 := Nat.min_le_right _ _
  refine Ct.ofG mx_M_trace [some (.ref 0), some (.int w), some (.int i), none] rfl rfl (Nat.le_of_ble_eq_true rfl) (fun κ C hQ => ?_)
  refine u_iload_n (pc := 0) C d_M_trace_0 rfl ?_
  refine u_iconst (pc := 1) (v := 0) C d_M_trace_1 (by decide) ?_
  refine u_iconst (pc := 2) (v := 1) C d_M_trace_2 (by decide) ?_
  refine u_callSi (pc := 3) C d_M_trace_3 mx_M_in mw_M_73 (c_M_in) rfl rfl (Nat.le_of_ble_eq_true rfl) (fun r3 M3 q3 => ?_)
  obtain ⟨e3, q3⟩ := q3
  have q3 := q3.symm
  subst q3
  refine u_if_eq (pc := 6) (tgt := 13) C d_M_trace_6 rfl (fun c6 => ?_) (fun c6 => ?_)
  · refine u_iconst (pc := 13) (v := (-1)) C d_M_trace_13 (by decide) ?_
    refine u_iret (pc := 14) C d_M_trace_14 (hQ _ _ ⟨_, rfl, ?_⟩)
    rw [e3] at c6
    refine ⟨?_, hI⟩
    rcases in_n c6 with q | q
    · rw [sp_trace, if_pos q]
    · rw [sp_trace, if_pos q]
      split <;> rfl
  · refine u_iload_n (pc := 9) C d_M_trace_9 rfl ?_
    refine u_if_ge (pc := 10) (tgt := 15) C d_M_trace_10 rfl (fun c10 => ?_) (fun c10 => ?_)
    · rw [e3] at c6
      have hw01 := in01 c6
      have hw0 : ¬ w < 0 := (in_y c6).1
      have hw1 : ¬ 1 < w := (in_y c6).2
      obtain ⟨j, hj, rfl⟩ := nI_of (Int32.not_lt.mpr c10)
      refine u_iload_n (pc := 15) C d_M_trace_15 rfl ?_
      refine u_if_ne (pc := 16) (tgt := 26) C d_M_trace_16 rfl (fun c16 => ?_) (fun c16 => ?_)
      · refine u_aload_n (pc := 26) C d_M_trace_26 rfl ?_
        refine u_geti (pc := 27) C d_M_trace_27 fw_M_238 sR_0 rfl ?_
        refine u_istore_n (pc := 30) C d_M_trace_30 rfl (fun x30 e30 L9 hL9 => ?_)
        obtain rfl : L9 = [some (.ref 0), some (.int w), some (.int (nI j)), some (.int x30)] := hL9.symm
        refine u_iload_n (pc := 31) C d_M_trace_31 rfl ?_
        refine u_iload_n (pc := 32) C d_M_trace_32 rfl ?_
        refine u_icmp_lt (pc := 33) (tgt := 41) C d_M_trace_33 rfl (fun c33 => ?_) (fun c33 => ?_)
        · rw [e30, g3] at c33
          have hjm : j < min σ.2.2.2.2.2.2.length 40 := by
            have := not_leI (b := j) (by omega) hj (Int32.not_le.mpr c33)
            omega
          refine u_iload_n (pc := 41) C d_M_trace_41 rfl ?_
          refine u_if_ne (pc := 42) (tgt := 54) C d_M_trace_42 rfl (fun c42 => ?_) (fun c42 => ?_)
          · refine u_aload_n (pc := 54) C d_M_trace_54 rfl ?_
            refine u_getr (pc := 55) (r := 223) C d_M_trace_55 fw_M_67 sR_0 rfl rfl ?_
            refine u_iload_n (pc := 58) C d_M_trace_58 rfl ?_
            refine u_iald (pc := 59) C d_M_trace_59 sR_223 (vp_in_nI (by omega) (by decide)) ?_
            refine u_iret (pc := 60) C d_M_trace_60 (hQ _ _ ⟨_, rfl, ?_⟩)
            refine ⟨?_, hI⟩
            rw [sp_trace, if_neg hw0, if_neg hw1, if_pos c10, if_neg c16, if_pos (show nI j < nI _ from nI_lt hjm (by omega)), nI_clamp hj, g4 j hjm]
          · exact absurd c42 c16
        · refine u_bipush (pc := 36) (v := (-2)) C d_M_trace_36 (by decide) ?_
          refine u_goto (pc := 38) (tgt := 60) C d_M_trace_38 rfl ?_
          refine u_iret (pc := 60) C d_M_trace_60 (hQ _ _ ⟨_, rfl, ?_⟩)
          rw [e30, g3] at c33
          refine ⟨?_, hI⟩
          rw [sp_trace, if_neg hw0, if_neg hw1, if_pos c10, if_neg c16, if_neg (show ¬ nI j < nI _ from Int32.not_lt.mpr (Int32.not_lt.mp c33))]
      · refine u_aload_n (pc := 19) C d_M_trace_19 rfl ?_
        refine u_geti (pc := 20) C d_M_trace_20 fw_M_257 sR_0 rfl ?_
        refine u_goto (pc := 23) (tgt := 30) C d_M_trace_23 rfl ?_
        refine u_istore_n (pc := 30) C d_M_trace_30 rfl (fun x30 e30 L9 hL9 => ?_)
        obtain rfl : L9 = [some (.ref 0), some (.int w), some (.int (nI j)), some (.int x30)] := hL9.symm
        refine u_iload_n (pc := 31) C d_M_trace_31 rfl ?_
        refine u_iload_n (pc := 32) C d_M_trace_32 rfl ?_
        refine u_icmp_lt (pc := 33) (tgt := 41) C d_M_trace_33 rfl (fun c33 => ?_) (fun c33 => ?_)
        · rw [e30, g1] at c33
          have hjm : j < min σ.2.2.2.2.2.1.length 40 := by
            have := not_leI (b := j) (by omega) hj (Int32.not_le.mpr c33)
            omega
          refine u_iload_n (pc := 41) C d_M_trace_41 rfl ?_
          refine u_if_ne (pc := 42) (tgt := 54) C d_M_trace_42 rfl (fun c42 => ?_) (fun c42 => ?_)
          · exact absurd c16 c42
          · refine u_aload_n (pc := 45) C d_M_trace_45 rfl ?_
            refine u_getr (pc := 46) (r := 222) C d_M_trace_46 fw_M_64 sR_0 rfl rfl ?_
            refine u_iload_n (pc := 49) C d_M_trace_49 rfl ?_
            refine u_iald (pc := 50) C d_M_trace_50 sR_222 (vp_in_nI (by omega) (by decide)) ?_
            refine u_goto (pc := 51) (tgt := 60) C d_M_trace_51 rfl ?_
            refine u_iret (pc := 60) C d_M_trace_60 (hQ _ _ ⟨_, rfl, ?_⟩)
            refine ⟨?_, hI⟩
            rw [sp_trace, if_neg hw0, if_neg hw1, if_pos c10, if_pos c16, if_pos (show nI j < nI _ from nI_lt hjm (by omega)), nI_clamp hj, g2 j hjm]
        · refine u_bipush (pc := 36) (v := (-2)) C d_M_trace_36 (by decide) ?_
          refine u_goto (pc := 38) (tgt := 60) C d_M_trace_38 rfl ?_
          refine u_iret (pc := 60) C d_M_trace_60 (hQ _ _ ⟨_, rfl, ?_⟩)
          rw [e30, g1] at c33
          refine ⟨?_, hI⟩
          rw [sp_trace, if_neg hw0, if_neg hw1, if_pos c10, if_pos c16, if_neg (show ¬ nI j < nI _ from Int32.not_lt.mpr (Int32.not_lt.mp c33))]
    · refine u_iconst (pc := 13) (v := (-1)) C d_M_trace_13 (by decide) ?_
      refine u_iret (pc := 14) C d_M_trace_14 (hQ _ _ ⟨_, rfl, ?_⟩)
      rw [e3] at c6
      exact ⟨by rw [sp_trace, if_neg (in_y c6).1, if_neg (in_y c6).2, if_neg (Int32.not_le.mpr (Int32.not_le.mp c10))], hI⟩
