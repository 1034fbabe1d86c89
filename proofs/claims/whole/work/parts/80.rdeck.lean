/-! the reference: deck -/
theorem InvR.noTR {M : Mem} {σ : St} (h : InvR M σ) : InvR (up M 0 20 0) (noT σ) := by
  obtain ⟨h1, h2, -, h7, h8, h9, h10⟩ := h
  have k0 : ∀ j, j ≠ 20 → (up M 0 20 0).1 0 j = M.1 0 j := fun j hj => up_j hj
  have kp : ∀ p, p ≠ 0 → (up M 0 20 0).1 p = M.1 p := fun p q => up_ne q
  refine ⟨h1.f0 (by decide), ?_, ⟨Nat.zero_le _, by rw [up_row, pk_us]; rfl, fun i hi => absurd hi (Nat.not_lt_zero i), fun x hx => absurd hx List.not_mem_nil⟩, fun q hq => ?_, ?_, h9.f0 (by decide) (by decide), by rw [k0 32 (by decide)]; exact h10⟩
  · show match σ.2.1 with | none => (up M 0 20 0).1 0 9 = -1 | some i => (up M 0 20 0).1 0 9 = nI i.1 ∧ i.1 ≤ σ.1.2.1 ∧ WFg σ.1.1 i.1 i.2.1 i.2.2 ∧ FG ((up M 0 20 0).1 14) i.2.1 i.2.2
    rw [k0 9 (by decide), kp 14 (by decide)]; exact h2
  · rw [kp 221 (by decide)]; exact h7 q hq
  · rw [k0 25 (by decide), k0 26 (by decide), k0 27 (by decide)]; exact h8
theorem dk_some {σ : St} {x : Nat} (h : (RT σ.2.2.1 0).2 = some x) : dkT σ = (-100 - nI x, σ) := by
  unfold dkT
  rw [show (rdt σ.2.2.1 10 0).2 = some x from h]
theorem dk_full {σ : St} (h : (RT σ.2.2.1 0).2 = none) (h2 : 24 < σ.1.2.1 + (RT σ.2.2.1 0).1.length) : dkT σ = (-3, σ) := by
  unfold dkT
  rw [show (rdt σ.2.2.1 10 0).2 = none from h]
  simp only []
  rw [if_pos (show 24 < σ.1.2.1 + (rdt σ.2.2.1 10 0).1.length from h2)]
theorem dk_ok {σ : St} (h : (RT σ.2.2.1 0).2 = none) (h2 : ¬ 24 < σ.1.2.1 + (RT σ.2.2.1 0).1.length) : dkT σ = (nI (RT σ.2.2.1 0).1.length, (RT σ.2.2.1 0).1.foldl stC σ) := by
  unfold dkT
  rw [show (rdt σ.2.2.1 10 0).2 = none from h]
  simp only []
  rw [if_neg (show ¬ 24 < σ.1.2.1 + (rdt σ.2.2.1 10 0).1.length from h2)]
  rfl
set_option maxRecDepth 20000 in
theorem c_M_deck {M : Mem} {σ : St} (hI : InvR M σ) : Ct lyR y_M_deck b_M_deck 4 (some .int) 8 [.ref 0] M (Pi fun r M' => r = (sp_deck σ).1 ∧ InvR M' (sp_deck σ).2) := by
  have hS := hI.1
  have n24 := hS.n24
  have hT := hI.2.2.1
  have hl10 : (RT σ.2.2.1 0).1.length ≤ 10 := rdt_len 10 0
  refine Ct.ofG mx_M_deck [some (.ref 0), none, none, none] rfl rfl (Nat.le_of_ble_eq_true rfl) (fun κ C hQ => ?_)
  refine u_aload_n (pc := 0) C d_M_deck_0 rfl ?_
  refine u_iconst (pc := 1) (v := 0) C d_M_deck_1 (by decide) ?_
  refine u_callVi (pc := 2) C d_M_deck_2 mx_M_lines mw_M_156 sR_0 rfl (c_M_lines0 hT.2.2.2 ⟨hT.1, hT.2.1, hT.2.2.1⟩) rfl rfl (Nat.le_of_ble_eq_true rfl) (fun r2 M2 q2 => ?_)
  obtain ⟨e2, o2⟩ := q2
  have hI2 := hI.sf o2
  have h52 := hI2.1.2.2.1
  refine u_istore_n (pc := 5) C d_M_deck_5 rfl (fun x5 e5 L9 hL9 => ?_)
  obtain rfl : L9 = [some (.ref 0), some (.int x5), none, none] := hL9.symm
  refine u_aload_n (pc := 6) C d_M_deck_6 rfl ?_
  refine u_geti (pc := 7) C d_M_deck_7 fw_M_116 sR_0 rfl ?_
  refine u_if_ge (pc := 10) (tgt := 28) C d_M_deck_10 rfl (fun c10 => ?_) (fun c10 => ?_)
  · refine u_iconst (pc := 28) (v := 0) C d_M_deck_28 (by decide) ?_
    refine u_istore_n (pc := 29) C d_M_deck_29 rfl (fun x29 e29 L9 hL9 => ?_)
    obtain rfl : L9 = [some (.ref 0), some (.int x5), some (.int x29), none] := hL9.symm
    refine u_aload_n (pc := 30) C d_M_deck_30 rfl ?_
    refine u_geti (pc := 31) C d_M_deck_31 fw_M_116 sR_0 rfl ?_
    refine u_istore_n (pc := 34) C d_M_deck_34 rfl (fun x34 e34 L9 hL9 => ?_)
    obtain rfl : L9 = [some (.ref 0), some (.int x5), some (.int x29), some (.int x34)] := hL9.symm
    refine u_iload_n (pc := 35) C d_M_deck_35 rfl ?_
    refine u_if_eq (pc := 36) (tgt := 45) C d_M_deck_36 rfl (fun c36 => ?_) (fun c36 => ?_)
    · refine u_aload_n (pc := 45) C d_M_deck_45 rfl ?_
      refine u_iconst (pc := 46) (v := 0) C d_M_deck_46 (by decide) ?_
      refine u_put (pc := 47) C d_M_deck_47 fw_M_81 sR_0 rfl (Or.inl rfl) ?_
      refine u_iload_n (pc := 50) C d_M_deck_50 rfl ?_
      refine u_if_lt (pc := 51) (tgt := 61) C d_M_deck_51 rfl (fun c51 => ?_) (fun c51 => ?_)
      · refine u_iload_n (pc := 61) C d_M_deck_61 rfl ?_
        refine u_if_eq (pc := 62) (tgt := 69) C d_M_deck_62 rfl (fun c62 => ?_) (fun c62 => ?_)
        · refine u_bipush (pc := 69) (v := (-3)) C d_M_deck_69 (by decide) ?_
          refine u_iret (pc := 71) C d_M_deck_71 (hQ _ _ ⟨_, rfl, ?_⟩)
          rw [e34] at c51
          exact absurd c10 (Int32.not_le.mpr c51)
        · refine u_iload_n (pc := 65) C d_M_deck_65 rfl ?_
          refine u_goto (pc := 66) (tgt := 71) C d_M_deck_66 rfl ?_
          refine u_iret (pc := 71) C d_M_deck_71 (hQ _ _ ⟨_, rfl, ?_⟩)
          rw [e34] at c51
          exact absurd c10 (Int32.not_le.mpr c51)
      · refine u_bipush (pc := 54) (v := (-100)) C d_M_deck_54 (by decide) ?_
        refine u_iload_n (pc := 56) C d_M_deck_56 rfl ?_
        refine u_isub (pc := 57) C d_M_deck_57 ?_
        refine u_goto (pc := 58) (tgt := 71) C d_M_deck_58 rfl ?_
        refine u_iret (pc := 71) C d_M_deck_71 (hQ _ _ ⟨_, rfl, ?_⟩)
        rcases e2 with z | ⟨x, hx, h1, h2⟩
        · rw [z.2.2] at c10
          exact absurd c10 (by decide)
        · unfold sp_deck
          rw [dk_some h1]
          exact ⟨by rw [e34, h2], hI2.noTR⟩
    · exact absurd e29 c36
  · have hgood : (RT σ.2.2.1 0).2 = none := by
      rcases e2 with z | ⟨x, hx, h1, h2⟩
      · exact z.1
      · rw [h2] at c10
        exact absurd (nI_pos' (n := x) (by have := hT.1; omega)) c10
    have hr2 : x5 = nI (RT σ.2.2.1 0).1.length := by
      rw [e5]
      rcases e2 with z | ⟨x, hx, h1, h2⟩
      · exact z.2.1
      · rw [hgood] at h1; cases h1
    have hsum : M2.1 0 5 + x5 = nI (σ.1.2.1 + (RT σ.2.2.1 0).1.length) := by rw [h52, hr2, nI_add]
    refine u_aload_n (pc := 13) C d_M_deck_13 rfl ?_
    refine u_geti (pc := 14) C d_M_deck_14 fw_M_70 sR_0 rfl ?_
    refine u_iload_n (pc := 17) C d_M_deck_17 rfl ?_
    refine u_iadd (pc := 18) C d_M_deck_18 ?_
    refine u_bipush (pc := 19) (v := 24) C d_M_deck_19 (by decide) ?_
    refine u_icmp_gt (pc := 21) (tgt := 28) C d_M_deck_21 rfl (fun c21 => ?_) (fun c21 => ?_)
    · refine u_iconst (pc := 28) (v := 0) C d_M_deck_28 (by decide) ?_
      refine u_istore_n (pc := 29) C d_M_deck_29 rfl (fun x29 e29 L9 hL9 => ?_)
      obtain rfl : L9 = [some (.ref 0), some (.int x5), some (.int x29), none] := hL9.symm
      refine u_aload_n (pc := 30) C d_M_deck_30 rfl ?_
      refine u_geti (pc := 31) C d_M_deck_31 fw_M_116 sR_0 rfl ?_
      refine u_istore_n (pc := 34) C d_M_deck_34 rfl (fun x34 e34 L9 hL9 => ?_)
      obtain rfl : L9 = [some (.ref 0), some (.int x5), some (.int x29), some (.int x34)] := hL9.symm
      refine u_iload_n (pc := 35) C d_M_deck_35 rfl ?_
      refine u_if_eq (pc := 36) (tgt := 45) C d_M_deck_36 rfl (fun c36 => ?_) (fun c36 => ?_)
      · refine u_aload_n (pc := 45) C d_M_deck_45 rfl ?_
        refine u_iconst (pc := 46) (v := 0) C d_M_deck_46 (by decide) ?_
        refine u_put (pc := 47) C d_M_deck_47 fw_M_81 sR_0 rfl (Or.inl rfl) ?_
        refine u_iload_n (pc := 50) C d_M_deck_50 rfl ?_
        refine u_if_lt (pc := 51) (tgt := 61) C d_M_deck_51 rfl (fun c51 => ?_) (fun c51 => ?_)
        · refine u_iload_n (pc := 61) C d_M_deck_61 rfl ?_
          refine u_if_eq (pc := 62) (tgt := 69) C d_M_deck_62 rfl (fun c62 => ?_) (fun c62 => ?_)
          · refine u_bipush (pc := 69) (v := (-3)) C d_M_deck_69 (by decide) ?_
            refine u_iret (pc := 71) C d_M_deck_71 (hQ _ _ ⟨_, rfl, ?_⟩)
            rw [hsum] at c21
            have hroom : ¬ σ.1.2.1 + (RT σ.2.2.1 0).1.length ≤ 24 := fun z => absurd (nI_le (b := 24) z (by decide)) (Int32.not_le.mpr c21)
            have hf34 : x34 = -1 := by
              rw [e34]
              rcases e2 with z | ⟨x, hx, h1, h2⟩
              · exact z.2.2
              · rw [hgood] at h1; cases h1
            unfold sp_deck
            rw [dk_full hgood (by omega)]
            exact ⟨rfl, hI2.noTR⟩
          · refine u_iload_n (pc := 65) C d_M_deck_65 rfl ?_
            refine u_goto (pc := 66) (tgt := 71) C d_M_deck_66 rfl ?_
            refine u_iret (pc := 71) C d_M_deck_71 (hQ _ _ ⟨_, rfl, ?_⟩)
            rw [hsum] at c21
            have hroom : ¬ σ.1.2.1 + (RT σ.2.2.1 0).1.length ≤ 24 := fun z => absurd (nI_le (b := 24) z (by decide)) (Int32.not_le.mpr c21)
            have hf34 : x34 = -1 := by
              rw [e34]
              rcases e2 with z | ⟨x, hx, h1, h2⟩
              · exact z.2.2
              · rw [hgood] at h1; cases h1
            exact absurd e29 c62
        · refine u_bipush (pc := 54) (v := (-100)) C d_M_deck_54 (by decide) ?_
          refine u_iload_n (pc := 56) C d_M_deck_56 rfl ?_
          refine u_isub (pc := 57) C d_M_deck_57 ?_
          refine u_goto (pc := 58) (tgt := 71) C d_M_deck_58 rfl ?_
          refine u_iret (pc := 71) C d_M_deck_71 (hQ _ _ ⟨_, rfl, ?_⟩)
          rw [hsum] at c21
          have hroom : ¬ σ.1.2.1 + (RT σ.2.2.1 0).1.length ≤ 24 := fun z => absurd (nI_le (b := 24) z (by decide)) (Int32.not_le.mpr c21)
          have hf34 : x34 = -1 := by
            rw [e34]
            rcases e2 with z | ⟨x, hx, h1, h2⟩
            · exact z.2.2
            · rw [hgood] at h1; cases h1
          rw [hf34] at c51
          exact absurd (by decide : (-1 : Int32) < 0) c51
      · exact absurd e29 c36
    · rw [hsum] at c21
      have hroom : σ.1.2.1 + (RT σ.2.2.1 0).1.length ≤ 24 := (nI_leI (b := 24) (by omega) (by decide)).mp (Int32.not_lt.mp c21)
      refine u_iconst (pc := 24) (v := 1) C d_M_deck_24 (by decide) ?_
      refine u_goto (pc := 25) (tgt := 29) C d_M_deck_25 rfl ?_
      refine u_istore_n (pc := 29) C d_M_deck_29 rfl (fun x29 e29 L9 hL9 => ?_)
      obtain rfl : L9 = [some (.ref 0), some (.int x5), some (.int x29), none] := hL9.symm
      refine u_aload_n (pc := 30) C d_M_deck_30 rfl ?_
      refine u_geti (pc := 31) C d_M_deck_31 fw_M_116 sR_0 rfl ?_
      refine u_istore_n (pc := 34) C d_M_deck_34 rfl (fun x34 e34 L9 hL9 => ?_)
      obtain rfl : L9 = [some (.ref 0), some (.int x5), some (.int x29), some (.int x34)] := hL9.symm
      refine u_iload_n (pc := 35) C d_M_deck_35 rfl ?_
      refine u_if_eq (pc := 36) (tgt := 45) C d_M_deck_36 rfl (fun c36 => ?_) (fun c36 => ?_)
      · exact absurd (e29.symm.trans c36) (by decide)
      · refine u_aload_n (pc := 39) C d_M_deck_39 rfl ?_
        refine u_iconst (pc := 40) (v := 1) C d_M_deck_40 (by decide) ?_
        refine u_callVi (pc := 41) C d_M_deck_41 mx_M_lines mw_M_156 sR_0 rfl (c_M_lines1 hI2 hroom hgood) rfl rfl (Nat.le_of_ble_eq_true rfl) (fun r41 M41 q41 => ?_)
        refine u_pop (pc := 44) C d_M_deck_44 rfl ?_
        refine u_aload_n (pc := 45) C d_M_deck_45 rfl ?_
        refine u_iconst (pc := 46) (v := 0) C d_M_deck_46 (by decide) ?_
        refine u_put (pc := 47) C d_M_deck_47 fw_M_81 sR_0 rfl (Or.inl rfl) ?_
        refine u_iload_n (pc := 50) C d_M_deck_50 rfl ?_
        refine u_if_lt (pc := 51) (tgt := 61) C d_M_deck_51 rfl (fun c51 => ?_) (fun c51 => ?_)
        · refine u_iload_n (pc := 61) C d_M_deck_61 rfl ?_
          refine u_if_eq (pc := 62) (tgt := 69) C d_M_deck_62 rfl (fun c62 => ?_) (fun c62 => ?_)
          · refine u_bipush (pc := 69) (v := (-3)) C d_M_deck_69 (by decide) ?_
            refine u_iret (pc := 71) C d_M_deck_71 (hQ _ _ ⟨_, rfl, ?_⟩)
            have hf34 : x34 = -1 := by
              rw [e34]
              rcases e2 with z | ⟨x, hx, h1, h2⟩
              · exact z.2.2
              · rw [hgood] at h1; cases h1
            exact absurd (e29.symm.trans c62) (by decide)
          · refine u_iload_n (pc := 65) C d_M_deck_65 rfl ?_
            refine u_goto (pc := 66) (tgt := 71) C d_M_deck_66 rfl ?_
            refine u_iret (pc := 71) C d_M_deck_71 (hQ _ _ ⟨_, rfl, ?_⟩)
            have hf34 : x34 = -1 := by
              rw [e34]
              rcases e2 with z | ⟨x, hx, h1, h2⟩
              · exact z.2.2
              · rw [hgood] at h1; cases h1
            unfold sp_deck
            rw [dk_ok hgood (by omega)]
            exact ⟨hr2, q41.noTR⟩
        · refine u_bipush (pc := 54) (v := (-100)) C d_M_deck_54 (by decide) ?_
          refine u_iload_n (pc := 56) C d_M_deck_56 rfl ?_
          refine u_isub (pc := 57) C d_M_deck_57 ?_
          refine u_goto (pc := 58) (tgt := 71) C d_M_deck_58 rfl ?_
          refine u_iret (pc := 71) C d_M_deck_71 (hQ _ _ ⟨_, rfl, ?_⟩)
          have hf34 : x34 = -1 := by
            rw [e34]
            rcases e2 with z | ⟨x, hx, h1, h2⟩
            · exact z.2.2
            · rw [hgood] at h1; cases h1
          rw [hf34] at c51
          exact absurd (by decide : (-1 : Int32) < 0) c51
