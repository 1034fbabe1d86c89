/-! byTurns -/
theorem ot_scr {j p : Nat} (q : otS j p) : scrS p := q.1
noncomputable def sp_byTurns (k : Int32) (σ : St) : Int32 := if k < 1 then -2000000000 else if k ≤ 3 then otc σ.1.1 σ.1.2.1 k.toNatClampNeg 0 (σ.1.2.2.1, σ.1.2.2.2) else -2000000000
set_option maxRecDepth 20000 in
theorem c_L_byTurns {k : Int32} {M : Mem} {σ : St} (hI : InvC M σ) : Ct lyC y_L_byTurns b_L_byTurns 2 (some .int) 10 [.ref 83, .int k] M (Pi fun r M' => r = sp_byTurns k σ ∧ InvC M' σ) := by
  obtain ⟨m, hm, hR⟩ := hI.R
  have hW := hI.1
  have hcd := hI.2.1
  have hn := hW.1.1
  have r8 := hR.2.2.2.2.2.2.1
  obtain ⟨h, h64, hh⟩ := hW.hb
  obtain ⟨htl, hbn, hb24⟩ := hW.tl
  obtain ⟨th1, ev1, hL1⟩ := hI.2.2.2.2.2.2.2.2
  have hh64 : (σ.1.2.2.1 1 4).toNatClampNeg ≤ 64 := by rw [hh, nI_clamp (by omega)]; exact h64
  refine Ct.ofG mx_L_byTurns [some (.ref 83), some (.int k)] rfl rfl (Nat.le_of_ble_eq_true rfl) (fun κ C hQ => ?_)
  refine u_iload_n (pc := 0) C d_L_byTurns_0 rfl ?_
  refine u_iconst (pc := 1) (v := 1) C d_L_byTurns_1 (by decide) ?_
  refine u_icmp_lt (pc := 2) (tgt := 10) C d_L_byTurns_2 rfl (fun c2 => ?_) (fun c2 => ?_)
  · refine u_ldc (pc := 10) C (mc_L_159) d_L_byTurns_10 ?_
    refine u_iret (pc := 12) C d_L_byTurns_12 (hQ _ _ ⟨_, rfl, ?_⟩)
    rw [sp_byTurns, if_pos c2]
    exact ⟨rfl, hI⟩
  · refine u_iload_n (pc := 5) C d_L_byTurns_5 rfl ?_
    refine u_iconst (pc := 6) (v := 3) C d_L_byTurns_6 (by decide) ?_
    refine u_icmp_le (pc := 7) (tgt := 13) C d_L_byTurns_7 rfl (fun c7 => ?_) (fun c7 => ?_)
    · refine u_aload_n (pc := 13) C d_L_byTurns_13 rfl ?_
      refine u_getr (pc := 14) (r := (gp 2)) C d_L_byTurns_14 fw_L_32 sC_83 rfl rfl ?_
      refine u_aload_n (pc := 17) C d_L_byTurns_17 rfl ?_
      refine u_getr (pc := 18) (r := (gp 0)) C d_L_byTurns_18 fw_L_21 sC_83 rfl rfl ?_
      refine u_callVv (pc := 21) C d_L_byTurns_21 mx_G_copyFrom mw_L_252 (shG0 (by decide)) rfl (c_G_copyFrom (k := 2) (k2 := 0) (by decide) (by decide) (by decide) hR htl hb24 hh64) rfl rfl (Nat.le_of_ble_eq_true rfl) (fun M21 q21 => ?_)
      obtain ⟨tR, tO⟩ := q21
      have tL := hL1.off tO (fun p q => g_l (by decide) q)
      have tcd := hcd.off tO (fun p h1 h2 => blk_cd h1 h2)
      have tI := hI.scr (tO.mono (fun p q => blk_scr (k := 2) (by decide) (by decide) q)) ⟨_, _, tL⟩
      have hk3 : k = 1 ∨ k = 2 ∨ k = 3 := by
        have hk0 : ¬ k < 0 := fun q => c2 (Int32.lt_trans q (by decide))
        obtain ⟨j, hj, rfl⟩ := nI_of hk0
        have hj9 : j ≤ 3 := (nI_leI (b := 3) hj (by decide)).mp c7
        have hj1 : 0 < j := by
          rcases Nat.eq_zero_or_pos j with q | q
          · exact absurd (by rw [q]; decide) c2
          · exact q
        rcases (show j = 1 ∨ j = 2 ∨ j = 3 by omega) with rfl | rfl | rfl
        · exact Or.inl rfl
        · exact Or.inr (Or.inl rfl)
        · exact Or.inr (Or.inr rfl)
      refine u_aload_n (pc := 24) C d_L_byTurns_24 rfl ?_
      refine u_getr (pc := 25) (r := 48) C d_L_byTurns_25 fw_L_35 sC_83 rfl rfl ?_
      refine u_aload_n (pc := 28) C d_L_byTurns_28 rfl ?_
      refine u_getr (pc := 29) (r := 75) C d_L_byTurns_29 fw_L_42 sC_83 rfl rfl ?_
      refine u_aload_n (pc := 32) C d_L_byTurns_32 rfl ?_
      refine u_getr (pc := 33) (r := (op 1)) C d_L_byTurns_33 fw_L_67 sC_83 rfl rfl ?_
      refine u_iconst (pc := 36) (v := 0) C d_L_byTurns_36 (by decide) ?_
      refine u_iload_n (pc := 37) C d_L_byTurns_37 rfl ?_
      rcases hk3 with rfl | rfl | rfl
      · refine u_callSi (pc := 38) C d_L_byTurns_38 mx_L_outcome mw_L_261 (c_L_outcome1 (j := 0) (k := 2) (by decide) rfl tcd tR hm hW ⟨_, _, tL⟩ (by decide)) rfl rfl (Nat.le_of_ble_eq_true rfl) (fun r38 M38 q38 => ?_)
        obtain ⟨e38, oO, oL⟩ := q38
        refine u_iret (pc := 41) C d_L_byTurns_41 (hQ _ _ ⟨_, rfl, ?_⟩)
        refine ⟨?_, tI.scr (oO.mono (fun p q => ot_scr q)) oL⟩
        rw [e38, sp_byTurns, if_neg c2, if_pos c7]
        rfl
      · refine u_callSi (pc := 38) C d_L_byTurns_38 mx_L_outcome mw_L_261 (c_L_outcome2 (j := 0) (k := 2) (by decide) rfl tcd tR hm hW ⟨_, _, tL⟩ (by decide)) rfl rfl (Nat.le_of_ble_eq_true rfl) (fun r38 M38 q38 => ?_)
        obtain ⟨e38, oO, oL⟩ := q38
        refine u_iret (pc := 41) C d_L_byTurns_41 (hQ _ _ ⟨_, rfl, ?_⟩)
        refine ⟨?_, tI.scr (oO.mono (fun p q => ot_scr q)) oL⟩
        rw [e38, sp_byTurns, if_neg c2, if_pos c7]
        rfl
      · refine u_callSi (pc := 38) C d_L_byTurns_38 mx_L_outcome mw_L_261 (c_L_outcome3 (j := 0) (k := 2) (by decide) rfl tcd tR hm hW ⟨_, _, tL⟩ (by decide)) rfl rfl (Nat.le_of_ble_eq_true rfl) (fun r38 M38 q38 => ?_)
        obtain ⟨e38, oO, oL⟩ := q38
        refine u_iret (pc := 41) C d_L_byTurns_41 (hQ _ _ ⟨_, rfl, ?_⟩)
        refine ⟨?_, tI.scr (oO.mono (fun p q => ot_scr q)) oL⟩
        rw [e38, sp_byTurns, if_neg c2, if_pos c7]
        rfl
    · refine u_ldc (pc := 10) C (mc_L_159) d_L_byTurns_10 ?_
      refine u_iret (pc := 12) C d_L_byTurns_12 (hQ _ _ ⟨_, rfl, ?_⟩)
      rw [sp_byTurns, if_neg c2, if_neg c7]
      exact ⟨rfl, hI⟩
