/-! the reference: byTurns -/
set_option maxRecDepth 20000 in
theorem lp_bt27 {κ : KX} {k r : Int32} {M : Mem} (C : Cx κ lyR y_M_byTurns.cls b_M_byTurns 2 (some .int) 12) (hQ : ∀ v M', Pi (fun r' M' => r' = r ∧ M' = M) v M' → KQ κ v M') : G κ lyR 27 [some (.ref 0), some (.int k)] [.int r] M := by
  refine u_goto (pc := 27) (tgt := 32) C d_M_byTurns_27 rfl ?_
  refine u_iret (pc := 32) C d_M_byTurns_32 (hQ _ _ ⟨_, rfl, ?_⟩)
  exact ⟨rfl, rfl⟩
set_option maxRecDepth 20000 in
theorem c_M_byTurns {k : Int32} {M : Mem} {σ : St} (hI : InvR M σ) : Ct lyR y_M_byTurns b_M_byTurns 2 (some .int) 12 [.ref 0, .int k] M (Pi fun r M' => r = sp_byTurns k σ ∧ InvR M' σ) := by
  have hS := hI.1
  have ht0 := hI.2.2.2.2.2.2
  have hL0 := hI.2.2.2.2.2.1
  have hac : M.1 6 4 = σ.1.2.2.1 1 2 := hS.2.2.2.2.1.2.2.1
  refine Ct.ofG mx_M_byTurns [some (.ref 0), some (.int k)] rfl rfl (Nat.le_of_ble_eq_true rfl) (fun κ C hQ => ?_)
  refine u_iload_n (pc := 0) C d_M_byTurns_0 rfl ?_
  refine u_iconst (pc := 1) (v := 1) C d_M_byTurns_1 (by decide) ?_
  refine u_iconst (pc := 2) (v := 3) C d_M_byTurns_2 (by decide) ?_
  refine u_callSi (pc := 3) C d_M_byTurns_3 mx_M_in mw_M_73 (c_M_in) rfl rfl (Nat.le_of_ble_eq_true rfl) (fun r3 M3 q3 => ?_)
  obtain ⟨e3, q3⟩ := q3
  have q3 := q3.symm
  subst q3
  refine u_if_eq (pc := 6) (tgt := 30) C d_M_byTurns_6 rfl (fun c6 => ?_) (fun c6 => ?_)
  · refine u_ldc (pc := 30) C (mc_M_167) d_M_byTurns_30 ?_
    refine u_iret (pc := 32) C d_M_byTurns_32 (hQ _ _ ⟨_, rfl, ?_⟩)
    rw [e3] at c6
    refine ⟨?_, hI⟩
    rcases in_n c6 with q | q
    · rw [sp_byTurns, if_pos q]
    · rw [sp_byTurns]
      by_cases hz : k < 1
      · rw [if_pos hz]
      · rw [if_neg hz, if_neg (Int32.not_le.mpr q)]
  · rw [e3] at c6
    obtain ⟨kp1, kp2⟩ := in_y c6
    obtain ⟨t, ht1, ht3, rfl⟩ : ∃ t, 1 ≤ t ∧ t ≤ 3 ∧ k = nI t := by
      have h0 : ¬ k < 0 := fun z => kp1 (by
        have a1 := Int32.lt_iff_toInt_lt.mp z
        have a0 : (0 : Int32).toInt = 0 := by decide
        have a9 : (1 : Int32).toInt = 1 := by decide
        rw [Int32.lt_iff_toInt_lt]; omega)
      obtain ⟨t, ht, rfl⟩ := nI_of h0
      refine ⟨t, ?_, ?_, rfl⟩
      · rcases Nat.lt_or_ge t 1 with z | z
        · exact absurd (nI_lt (b := 1) z (by decide)) kp1
        · exact z
      · rcases Nat.lt_or_ge 3 t with z | z
        · exact absurd (nI_lt (a := 3) z ht) kp2
        · exact z
    refine u_aload_n (pc := 9) C d_M_byTurns_9 rfl ?_
    refine u_iconst (pc := 10) (v := 1) C d_M_byTurns_10 (by decide) ?_
    refine u_iload_n (pc := 11) C d_M_byTurns_11 rfl ?_
    refine u_aload_n (pc := 12) C d_M_byTurns_12 rfl ?_
    refine u_getr (pc := 13) (r := 6) C d_M_byTurns_13 fw_M_25 sR_0 rfl rfl ?_
    refine u_iconst (pc := 16) (v := 4) C d_M_byTurns_16 (by decide) ?_
    refine u_iald (pc := 17) C d_M_byTurns_17 sR_6 v4 ?_
    refine u_aload_n (pc := 18) C d_M_byTurns_18 rfl ?_
    refine u_getr (pc := 19) (r := 6) C d_M_byTurns_19 fw_M_25 sR_0 rfl rfl ?_
    refine u_iconst (pc := 22) (v := 4) C d_M_byTurns_22 (by decide) ?_
    refine u_iald (pc := 23) C d_M_byTurns_23 sR_6 v4 ?_
    have k1n := kp1
    have k3n := Int32.not_lt.mp kp2
    rw [cl4]
    rcases (show t = 1 ∨ t = 2 ∨ t = 3 by omega) with z | z | z
    · subst z
      refine u_callVi (pc := 24) C d_M_byTurns_24 mx_M_reach mw_M_310 sR_0 rfl (c_M_reach1 (lv := 1) (j := 0) (s := (σ.1.2.2.1, σ.1.2.2.2)) (th := σ.2.2.2.2.2.1) (ev := σ.2.2.2.2.2.2) hS ht0 hL0 hac rfl rfl (by decide)) rfl (by rw [hac]; rfl) (Nat.le_of_ble_eq_true rfl) (fun r24 M24 q24 => ?_)
      obtain ⟨e24, o24, h24, l24⟩ := q24
      refine lp_bt27 C (fun v M9 q => hQ v M9 ?_)
      obtain ⟨r, rfl, q1, q2⟩ := q
      have q2 := q2.symm
      subst q2
      refine ⟨r, rfl, ?_, hI.same (o24.mono (fun p j z => z.1)) h24 l24⟩
      rw [q1, e24, sp_byTurns, if_neg k1n, if_pos k3n, nI_clamp (by decide)]
    · subst z
      refine u_callVi (pc := 24) C d_M_byTurns_24 mx_M_reach mw_M_310 sR_0 rfl (c_M_reach2 (lv := 1) (j := 0) (s := (σ.1.2.2.1, σ.1.2.2.2)) (th := σ.2.2.2.2.2.1) (ev := σ.2.2.2.2.2.2) hS ht0 hL0 hac rfl rfl (by decide)) rfl (by rw [hac]; rfl) (Nat.le_of_ble_eq_true rfl) (fun r24 M24 q24 => ?_)
      obtain ⟨e24, o24, h24, l24⟩ := q24
      refine lp_bt27 C (fun v M9 q => hQ v M9 ?_)
      obtain ⟨r, rfl, q1, q2⟩ := q
      have q2 := q2.symm
      subst q2
      refine ⟨r, rfl, ?_, hI.same (o24.mono (fun p j z => z.1)) h24 l24⟩
      rw [q1, e24, sp_byTurns, if_neg k1n, if_pos k3n, nI_clamp (by decide)]
    · subst z
      refine u_callVi (pc := 24) C d_M_byTurns_24 mx_M_reach mw_M_310 sR_0 rfl (c_M_reach3 (lv := 1) (j := 0) (s := (σ.1.2.2.1, σ.1.2.2.2)) (th := σ.2.2.2.2.2.1) (ev := σ.2.2.2.2.2.2) hS ht0 hL0 hac rfl rfl (by decide)) rfl (by rw [hac]; rfl) (Nat.le_of_ble_eq_true rfl) (fun r24 M24 q24 => ?_)
      obtain ⟨e24, o24, h24, l24⟩ := q24
      refine lp_bt27 C (fun v M9 q => hQ v M9 ?_)
      obtain ⟨r, rfl, q1, q2⟩ := q
      have q2 := q2.symm
      subst q2
      refine ⟨r, rfl, ?_, hI.same (o24.mono (fun p j z => z.1)) h24 l24⟩
      rw [q1, e24, sp_byTurns, if_neg k1n, if_pos k3n, nI_clamp (by decide)]
