/-! the reference's tape: a line is read -/
def adR (p j : Nat) : Prop := (1 ≤ p ∧ p ≤ 5) ∨ p = 6 ∨ (p = 0 ∧ j = 5)
def sfaR (p j : Nat) : Prop := sfR p j ∨ adR p j
theorem sf_sfa {p j : Nat} (h : sfR p j) : sfaR p j := Or.inl h
set_option maxRecDepth 20000 in
theorem lp_line0 {κ : KX} {t : List Int32} {cu : Nat} {x2 x3 x4 x5 : Int32} {M0 M : Mem} (hS : TSt M t (z4 t cu)) (ho : OfR sfR M0 M) (C : Cx κ lyR y_M_line.cls b_M_line 8 none 6) (hQ : ∀ v M', Pv (fun M' => TSt M' t (za t cu).2 ∧ OfR sfR M0 M') v M' → KQ κ v M') : ∀ x6 : Int32, x6 = (if zl t cu = true then 1 else 0) → G κ lyR 59 [some (.ref 0), some (.int 0), some (.int x2), some (.int x3), some (.int x4), some (.int x5), some (.int x6), none] [] M := by
  intro x6 h6
  refine u_aload_n (pc := 59) C d_M_line_59 rfl ?_
  refine u_dup (pc := 60) C d_M_line_60 rfl ?_
  refine u_geti (pc := 61) C d_M_line_61 fw_M_113 sR_0 rfl ?_
  refine u_iload (pc := 64) C d_M_line_64 rfl ?_
  refine u_if_eq (pc := 66) (tgt := 73) C d_M_line_66 rfl (fun c66 => ?_) (fun c66 => ?_)
  · have hlt : ¬ zl t cu = true := fun q => by rw [h6, if_pos q] at c66; exact absurd c66 (by decide)
    refine u_iconst (pc := 73) (v := 0) C d_M_line_73 (by decide) ?_
    refine u_iadd (pc := 74) C d_M_line_74 ?_
    refine u_put (pc := 75) C d_M_line_75 fw_M_113 sR_0 rfl (Or.inl rfl) ?_
    refine u_gmem (fun M7 e7 => ?_)
    have o7 : OfR sfR M M7 := by rw [e7]; exact sf_up (Or.inl rfl)
    have hS7 : TSt M7 t (z5 t cu) := by
      rw [e7]
      have hz : z5 t cu = z4 t cu := by unfold z5; rw [if_neg hlt]
      rw [hz, hS.1.2.1, show nI (z4 t cu).1 + 0 = nI (z4 t cu).1 from Int32.add_zero _]
      exact ⟨hS.1.mv hS.1.2.2, by rw [up_j (by decide)]; exact hS.2.1, hS.2.2⟩
    clear e7
    refine u_aload_n (pc := 78) C d_M_line_78 rfl ?_
    refine u_bipush (pc := 79) (v := 48) C d_M_line_79 (by decide) ?_
    refine u_bipush (pc := 81) (v := 57) C d_M_line_81 (by decide) ?_
    refine u_callVi (pc := 83) C d_M_line_83 mx_M_must mw_M_141 sR_0 rfl (c_M_must hS7) rfl rfl (Nat.le_of_ble_eq_true rfl) (fun r83 M83 q83 => ?_)
    obtain ⟨e83, hS8, o8⟩ := q83
    refine u_bipush (pc := 86) (v := 48) C d_M_line_86 (by decide) ?_
    refine u_isub (pc := 88) C d_M_line_88 ?_
    refine u_istore (pc := 89) C d_M_line_89 rfl (fun x89 e89 L9 hL9 => ?_)
    obtain rfl : L9 = [some (.ref 0), some (.int 0), some (.int x2), some (.int x3), some (.int x4), some (.int x5), some (.int x6), some (.int x89)] := hL9.symm
    refine u_iload_n (pc := 91) C d_M_line_91 rfl ?_
    refine u_if_eq (pc := 92) (tgt := 119) C d_M_line_92 rfl (fun c92 => ?_) (fun c92 => ?_)
    · refine u_vret (pc := 119) C d_M_line_119 (hQ _ _ ⟨rfl, ?_⟩)
      exact ⟨hS8, (ho.trans o7).trans o8⟩
    · exact absurd rfl c92
  · have hlt : zl t cu = true := by
      rcases Bool.eq_false_or_eq_true (zl t cu) with q | q
      · exact q
      · exact absurd (by rw [h6, q]; rfl) c66
    refine u_iconst (pc := 69) (v := 1) C d_M_line_69 (by decide) ?_
    refine u_goto (pc := 70) (tgt := 74) C d_M_line_70 rfl ?_
    refine u_iadd (pc := 74) C d_M_line_74 ?_
    refine u_put (pc := 75) C d_M_line_75 fw_M_113 sR_0 rfl (Or.inl rfl) ?_
    refine u_gmem (fun M7 e7 => ?_)
    have o7 : OfR sfR M M7 := by rw [e7]; exact sf_up (Or.inl rfl)
    have hS7 : TSt M7 t (z5 t cu) := by
      rw [e7]
      have hz : z5 t cu = ((z4 t cu).1 + 1, (z4 t cu).2) := by unfold z5; rw [if_pos hlt]
      rw [hz, hS.1.2.1, ← nI_succ]
      exact ⟨hS.1.mv (by unfold zl at hlt; rw [Bool.and_eq_true] at hlt; have := (ses_i.mp hlt.2).1; omega), by rw [up_j (by decide)]; exact hS.2.1, hS.2.2⟩
    clear e7
    refine u_aload_n (pc := 78) C d_M_line_78 rfl ?_
    refine u_bipush (pc := 79) (v := 48) C d_M_line_79 (by decide) ?_
    refine u_bipush (pc := 81) (v := 57) C d_M_line_81 (by decide) ?_
    refine u_callVi (pc := 83) C d_M_line_83 mx_M_must mw_M_141 sR_0 rfl (c_M_must hS7) rfl rfl (Nat.le_of_ble_eq_true rfl) (fun r83 M83 q83 => ?_)
    obtain ⟨e83, hS8, o8⟩ := q83
    refine u_bipush (pc := 86) (v := 48) C d_M_line_86 (by decide) ?_
    refine u_isub (pc := 88) C d_M_line_88 ?_
    refine u_istore (pc := 89) C d_M_line_89 rfl (fun x89 e89 L9 hL9 => ?_)
    obtain rfl : L9 = [some (.ref 0), some (.int 0), some (.int x2), some (.int x3), some (.int x4), some (.int x5), some (.int x6), some (.int x89)] := hL9.symm
    refine u_iload_n (pc := 91) C d_M_line_91 rfl ?_
    refine u_if_eq (pc := 92) (tgt := 119) C d_M_line_92 rfl (fun c92 => ?_) (fun c92 => ?_)
    · refine u_vret (pc := 119) C d_M_line_119 (hQ _ _ ⟨rfl, ?_⟩)
      exact ⟨hS8, (ho.trans o7).trans o8⟩
    · exact absurd rfl c92
set_option maxRecDepth 20000 in
theorem lp_line1 {κ : KX} {t : List Int32} {cu : Nat} {x2 x3 x4 x5 : Int32} {M0 M : Mem} (hS : TSt M t (z4 t cu)) (ho : OfR sfR M0 M) {cd : Nat → Nat → Int32} {n : Nat} (hcd : CDm M0 cd) (h5 : M0.1 0 5 = nI n) (hn : n < 24) (h2 : x2 = (zw t cu).1) (h3 : x3 = (zp t cu).1) (h4 : x4 = (zv t cu).1) (h5x : x5 = (zx t cu).1) (C : Cx κ lyR y_M_line.cls b_M_line 8 none 6) (hQ : ∀ v M', Pv (fun M' => TSt M' t (za t cu).2 ∧ CDm M' (cdU cd n (zw t cu).1 (zp t cu).1 (zv t cu).1 (zx t cu).1 (if zl t cu = true then -((za t cu).1 - 48) else (za t cu).1 - 48)) ∧ M'.1 0 5 = nI (n + 1) ∧ M'.1 6 = upd (upd (M0.1 6) (71 + n) 0) (95 + n) 0 ∧ OfR sfaR M0 M') v M' → KQ κ v M') : ∀ x6 : Int32, x6 = (if zl t cu = true then 1 else 0) → G κ lyR 59 [some (.ref 0), some (.int 1), some (.int x2), some (.int x3), some (.int x4), some (.int x5), some (.int x6), none] [] M := by
  intro x6 h6
  refine u_aload_n (pc := 59) C d_M_line_59 rfl ?_
  refine u_dup (pc := 60) C d_M_line_60 rfl ?_
  refine u_geti (pc := 61) C d_M_line_61 fw_M_113 sR_0 rfl ?_
  refine u_iload (pc := 64) C d_M_line_64 rfl ?_
  refine u_if_eq (pc := 66) (tgt := 73) C d_M_line_66 rfl (fun c66 => ?_) (fun c66 => ?_)
  · have hlt : ¬ zl t cu = true := fun q => by rw [h6, if_pos q] at c66; exact absurd c66 (by decide)
    refine u_iconst (pc := 73) (v := 0) C d_M_line_73 (by decide) ?_
    refine u_iadd (pc := 74) C d_M_line_74 ?_
    refine u_put (pc := 75) C d_M_line_75 fw_M_113 sR_0 rfl (Or.inl rfl) ?_
    refine u_gmem (fun M7 e7 => ?_)
    have o7 : OfR sfR M M7 := by rw [e7]; exact sf_up (Or.inl rfl)
    have hS7 : TSt M7 t (z5 t cu) := by
      rw [e7]
      have hz : z5 t cu = z4 t cu := by unfold z5; rw [if_neg hlt]
      rw [hz, hS.1.2.1, show nI (z4 t cu).1 + 0 = nI (z4 t cu).1 from Int32.add_zero _]
      exact ⟨hS.1.mv hS.1.2.2, by rw [up_j (by decide)]; exact hS.2.1, hS.2.2⟩
    clear e7
    refine u_aload_n (pc := 78) C d_M_line_78 rfl ?_
    refine u_bipush (pc := 79) (v := 48) C d_M_line_79 (by decide) ?_
    refine u_bipush (pc := 81) (v := 57) C d_M_line_81 (by decide) ?_
    refine u_callVi (pc := 83) C d_M_line_83 mx_M_must mw_M_141 sR_0 rfl (c_M_must hS7) rfl rfl (Nat.le_of_ble_eq_true rfl) (fun r83 M83 q83 => ?_)
    obtain ⟨e83, hS8, o8⟩ := q83
    refine u_bipush (pc := 86) (v := 48) C d_M_line_86 (by decide) ?_
    refine u_isub (pc := 88) C d_M_line_88 ?_
    refine u_istore (pc := 89) C d_M_line_89 rfl (fun x89 e89 L9 hL9 => ?_)
    obtain rfl : L9 = [some (.ref 0), some (.int 1), some (.int x2), some (.int x3), some (.int x4), some (.int x5), some (.int x6), some (.int x89)] := hL9.symm
    refine u_iload_n (pc := 91) C d_M_line_91 rfl ?_
    refine u_if_eq (pc := 92) (tgt := 119) C d_M_line_92 rfl (fun c92 => ?_) (fun c92 => ?_)
    · exact absurd c92 (by decide)
    · have h06 : ∀ j, M83.1 6 j = M0.1 6 j := fun j => by rw [o8 6 j (fun z => by unfold sfR at z; omega), o7 6 j (fun z => by unfold sfR at z; omega), ho 6 j (fun z => by unfold sfR at z; omega)]
      have o08 := (ho.trans o7).trans o8
      have hcd8 : CDm M83 cd := o08.cd hcd (fun p j _ _ z => by unfold sfR at z; omega)
      have h58 : M83.1 0 5 = nI n := by rw [o08 0 5 (fun z => by unfold sfR at z; omega)]; exact h5
      refine u_aload_n (pc := 95) C d_M_line_95 rfl ?_
      refine u_iload_n (pc := 96) C d_M_line_96 rfl ?_
      refine u_iload_n (pc := 97) C d_M_line_97 rfl ?_
      refine u_iload (pc := 98) C d_M_line_98 rfl ?_
      refine u_iload (pc := 100) C d_M_line_100 rfl ?_
      refine u_iload (pc := 102) C d_M_line_102 rfl ?_
      refine u_if_eq (pc := 104) (tgt := 113) C d_M_line_104 rfl (fun c104 => ?_) (fun c104 => ?_)
      · refine u_iload (pc := 113) C d_M_line_113 rfl ?_
        refine u_callVi (pc := 115) C d_M_line_115 mx_M_add mw_M_77 sR_0 rfl (c_M_add hcd8 h58 hn) rfl rfl (Nat.le_of_ble_eq_true rfl) (fun r115 M115 q115 => ?_)
        obtain ⟨e115, hcd9, h59, h69, o9⟩ := q115
        refine u_pop (pc := 118) C d_M_line_118 rfl ?_
        refine u_vret (pc := 119) C d_M_line_119 (hQ _ _ ⟨rfl, ?_⟩)
        have hz : ¬ zl t cu = true := fun q => by rw [h6, if_pos q] at c104; exact absurd c104 (by decide)
        have hv : (if zl t cu = true then -((za t cu).1 - 48) else (za t cu).1 - 48) = x89 := by
          rw [e89, e83, if_neg hz]; rfl
        have hc9 := hcd9
        refine ⟨?_, ?_, h59, ?_, ?_⟩
        · obtain ⟨⟨⟨a1, a2, a3⟩, a4, a5⟩, a6, a7⟩ := hS8
          have k0 : ∀ j, j ≠ 5 → M115.1 0 j = M83.1 0 j := fun j hj => o9 0 j (fun z => by omega)
          exact ⟨⟨⟨a1, by rw [k0 20 (by decide)]; exact a2, fun i hi => by rw [o9 220 i (fun z => by omega)]; exact a3 i hi⟩, by rw [k0 33 (by decide)]; exact a4, a5⟩, by rw [k0 34 (by decide)]; exact a6, a7⟩
        · rw [hv, ← h2, ← h3, ← h4, ← h5x]
          exact hcd9
        · rw [h69, funext h06]
        · exact (o08.mono (fun p j => sf_sfa)).trans (o9.mono (fun p j z => Or.inr z))
      · refine u_iload (pc := 107) C d_M_line_107 rfl ?_
        refine u_ineg (pc := 109) C d_M_line_109 ?_
        refine u_goto (pc := 110) (tgt := 115) C d_M_line_110 rfl ?_
        refine u_callVi (pc := 115) C d_M_line_115 mx_M_add mw_M_77 sR_0 rfl (c_M_add hcd8 h58 hn) rfl rfl (Nat.le_of_ble_eq_true rfl) (fun r115 M115 q115 => ?_)
        obtain ⟨e115, hcd9, h59, h69, o9⟩ := q115
        refine u_pop (pc := 118) C d_M_line_118 rfl ?_
        refine u_vret (pc := 119) C d_M_line_119 (hQ _ _ ⟨rfl, ?_⟩)
        have hz : zl t cu = true := by
          rcases Bool.eq_false_or_eq_true (zl t cu) with q | q
          · exact q
          · exact absurd (by rw [h6, q]; rfl) c104
        have hv : (if zl t cu = true then -((za t cu).1 - 48) else (za t cu).1 - 48) = -x89 := by
          rw [e89, e83, if_pos hz]; rfl
        have hc9 := hcd9
        refine ⟨?_, ?_, h59, ?_, ?_⟩
        · obtain ⟨⟨⟨a1, a2, a3⟩, a4, a5⟩, a6, a7⟩ := hS8
          have k0 : ∀ j, j ≠ 5 → M115.1 0 j = M83.1 0 j := fun j hj => o9 0 j (fun z => by omega)
          exact ⟨⟨⟨a1, by rw [k0 20 (by decide)]; exact a2, fun i hi => by rw [o9 220 i (fun z => by omega)]; exact a3 i hi⟩, by rw [k0 33 (by decide)]; exact a4, a5⟩, by rw [k0 34 (by decide)]; exact a6, a7⟩
        · rw [hv, ← h2, ← h3, ← h4, ← h5x]
          exact hcd9
        · rw [h69, funext h06]
        · exact (o08.mono (fun p j => sf_sfa)).trans (o9.mono (fun p j z => Or.inr z))
  · have hlt : zl t cu = true := by
      rcases Bool.eq_false_or_eq_true (zl t cu) with q | q
      · exact q
      · exact absurd (by rw [h6, q]; rfl) c66
    refine u_iconst (pc := 69) (v := 1) C d_M_line_69 (by decide) ?_
    refine u_goto (pc := 70) (tgt := 74) C d_M_line_70 rfl ?_
    refine u_iadd (pc := 74) C d_M_line_74 ?_
    refine u_put (pc := 75) C d_M_line_75 fw_M_113 sR_0 rfl (Or.inl rfl) ?_
    refine u_gmem (fun M7 e7 => ?_)
    have o7 : OfR sfR M M7 := by rw [e7]; exact sf_up (Or.inl rfl)
    have hS7 : TSt M7 t (z5 t cu) := by
      rw [e7]
      have hz : z5 t cu = ((z4 t cu).1 + 1, (z4 t cu).2) := by unfold z5; rw [if_pos hlt]
      rw [hz, hS.1.2.1, ← nI_succ]
      exact ⟨hS.1.mv (by unfold zl at hlt; rw [Bool.and_eq_true] at hlt; have := (ses_i.mp hlt.2).1; omega), by rw [up_j (by decide)]; exact hS.2.1, hS.2.2⟩
    clear e7
    refine u_aload_n (pc := 78) C d_M_line_78 rfl ?_
    refine u_bipush (pc := 79) (v := 48) C d_M_line_79 (by decide) ?_
    refine u_bipush (pc := 81) (v := 57) C d_M_line_81 (by decide) ?_
    refine u_callVi (pc := 83) C d_M_line_83 mx_M_must mw_M_141 sR_0 rfl (c_M_must hS7) rfl rfl (Nat.le_of_ble_eq_true rfl) (fun r83 M83 q83 => ?_)
    obtain ⟨e83, hS8, o8⟩ := q83
    refine u_bipush (pc := 86) (v := 48) C d_M_line_86 (by decide) ?_
    refine u_isub (pc := 88) C d_M_line_88 ?_
    refine u_istore (pc := 89) C d_M_line_89 rfl (fun x89 e89 L9 hL9 => ?_)
    obtain rfl : L9 = [some (.ref 0), some (.int 1), some (.int x2), some (.int x3), some (.int x4), some (.int x5), some (.int x6), some (.int x89)] := hL9.symm
    refine u_iload_n (pc := 91) C d_M_line_91 rfl ?_
    refine u_if_eq (pc := 92) (tgt := 119) C d_M_line_92 rfl (fun c92 => ?_) (fun c92 => ?_)
    · exact absurd c92 (by decide)
    · have h06 : ∀ j, M83.1 6 j = M0.1 6 j := fun j => by rw [o8 6 j (fun z => by unfold sfR at z; omega), o7 6 j (fun z => by unfold sfR at z; omega), ho 6 j (fun z => by unfold sfR at z; omega)]
      have o08 := (ho.trans o7).trans o8
      have hcd8 : CDm M83 cd := o08.cd hcd (fun p j _ _ z => by unfold sfR at z; omega)
      have h58 : M83.1 0 5 = nI n := by rw [o08 0 5 (fun z => by unfold sfR at z; omega)]; exact h5
      refine u_aload_n (pc := 95) C d_M_line_95 rfl ?_
      refine u_iload_n (pc := 96) C d_M_line_96 rfl ?_
      refine u_iload_n (pc := 97) C d_M_line_97 rfl ?_
      refine u_iload (pc := 98) C d_M_line_98 rfl ?_
      refine u_iload (pc := 100) C d_M_line_100 rfl ?_
      refine u_iload (pc := 102) C d_M_line_102 rfl ?_
      refine u_if_eq (pc := 104) (tgt := 113) C d_M_line_104 rfl (fun c104 => ?_) (fun c104 => ?_)
      · refine u_iload (pc := 113) C d_M_line_113 rfl ?_
        refine u_callVi (pc := 115) C d_M_line_115 mx_M_add mw_M_77 sR_0 rfl (c_M_add hcd8 h58 hn) rfl rfl (Nat.le_of_ble_eq_true rfl) (fun r115 M115 q115 => ?_)
        obtain ⟨e115, hcd9, h59, h69, o9⟩ := q115
        refine u_pop (pc := 118) C d_M_line_118 rfl ?_
        refine u_vret (pc := 119) C d_M_line_119 (hQ _ _ ⟨rfl, ?_⟩)
        have hz : ¬ zl t cu = true := fun q => by rw [h6, if_pos q] at c104; exact absurd c104 (by decide)
        have hv : (if zl t cu = true then -((za t cu).1 - 48) else (za t cu).1 - 48) = x89 := by
          rw [e89, e83, if_neg hz]; rfl
        have hc9 := hcd9
        refine ⟨?_, ?_, h59, ?_, ?_⟩
        · obtain ⟨⟨⟨a1, a2, a3⟩, a4, a5⟩, a6, a7⟩ := hS8
          have k0 : ∀ j, j ≠ 5 → M115.1 0 j = M83.1 0 j := fun j hj => o9 0 j (fun z => by omega)
          exact ⟨⟨⟨a1, by rw [k0 20 (by decide)]; exact a2, fun i hi => by rw [o9 220 i (fun z => by omega)]; exact a3 i hi⟩, by rw [k0 33 (by decide)]; exact a4, a5⟩, by rw [k0 34 (by decide)]; exact a6, a7⟩
        · rw [hv, ← h2, ← h3, ← h4, ← h5x]
          exact hcd9
        · rw [h69, funext h06]
        · exact (o08.mono (fun p j => sf_sfa)).trans (o9.mono (fun p j z => Or.inr z))
      · refine u_iload (pc := 107) C d_M_line_107 rfl ?_
        refine u_ineg (pc := 109) C d_M_line_109 ?_
        refine u_goto (pc := 110) (tgt := 115) C d_M_line_110 rfl ?_
        refine u_callVi (pc := 115) C d_M_line_115 mx_M_add mw_M_77 sR_0 rfl (c_M_add hcd8 h58 hn) rfl rfl (Nat.le_of_ble_eq_true rfl) (fun r115 M115 q115 => ?_)
        obtain ⟨e115, hcd9, h59, h69, o9⟩ := q115
        refine u_pop (pc := 118) C d_M_line_118 rfl ?_
        refine u_vret (pc := 119) C d_M_line_119 (hQ _ _ ⟨rfl, ?_⟩)
        have hz : zl t cu = true := by
          rcases Bool.eq_false_or_eq_true (zl t cu) with q | q
          · exact q
          · exact absurd (by rw [h6, q]; rfl) c104
        have hv : (if zl t cu = true then -((za t cu).1 - 48) else (za t cu).1 - 48) = -x89 := by
          rw [e89, e83, if_pos hz]; rfl
        have hc9 := hcd9
        refine ⟨?_, ?_, h59, ?_, ?_⟩
        · obtain ⟨⟨⟨a1, a2, a3⟩, a4, a5⟩, a6, a7⟩ := hS8
          have k0 : ∀ j, j ≠ 5 → M115.1 0 j = M83.1 0 j := fun j hj => o9 0 j (fun z => by omega)
          exact ⟨⟨⟨a1, by rw [k0 20 (by decide)]; exact a2, fun i hi => by rw [o9 220 i (fun z => by omega)]; exact a3 i hi⟩, by rw [k0 33 (by decide)]; exact a4, a5⟩, by rw [k0 34 (by decide)]; exact a6, a7⟩
        · rw [hv, ← h2, ← h3, ← h4, ← h5x]
          exact hcd9
        · rw [h69, funext h06]
        · exact (o08.mono (fun p j => sf_sfa)).trans (o9.mono (fun p j z => Or.inr z))
set_option maxRecDepth 20000 in
theorem c_M_line0 {t : List Int32} {cu : Nat} {M : Mem} (hS : TSt M t (cu, none))  : Ct lyR y_M_line b_M_line 8 none 6 [.ref 0, .int 0] M (Pv fun M' => TSt M' t (za t cu).2 ∧ OfR sfR M M') := by
  refine Ct.ofG mx_M_line [some (.ref 0), some (.int 0), none, none, none, none, none, none] rfl rfl (Nat.le_of_ble_eq_true rfl) (fun κ C hQ => ?_)
  refine u_aload_n (pc := 0) C d_M_line_0 rfl ?_
  refine u_callVi (pc := 1) C d_M_line_1 mx_M_wordHere mw_M_145 sR_0 rfl (c_M_wordHere hS) rfl rfl (Nat.le_of_ble_eq_true rfl) (fun r1 M1 q1 => ?_)
  obtain ⟨e1, hS1, o1⟩ := q1
  refine u_istore_n (pc := 4) C d_M_line_4 rfl (fun x4 e4 L9 hL9 => ?_)
  obtain rfl : L9 = [some (.ref 0), some (.int 0), some (.int x4), none, none, none, none, none] := hL9.symm
  refine u_aload_n (pc := 5) C d_M_line_5 rfl ?_
  refine u_iconst (pc := 6) (v := 1) C d_M_line_6 (by decide) ?_
  refine u_callVi (pc := 7) C d_M_line_7 mx_M_digit mw_M_148 sR_0 rfl (c_M_digit hS1) rfl rfl (Nat.le_of_ble_eq_true rfl) (fun r7 M7 q7 => ?_)
  obtain ⟨e7, hS2, o2⟩ := q7
  refine u_istore_n (pc := 10) C d_M_line_10 rfl (fun x10 e10 L9 hL9 => ?_)
  obtain rfl : L9 = [some (.ref 0), some (.int 0), some (.int x4), some (.int x10), none, none, none, none] := hL9.symm
  refine u_aload_n (pc := 11) C d_M_line_11 rfl ?_
  refine u_iconst (pc := 12) (v := 3) C d_M_line_12 (by decide) ?_
  refine u_callVi (pc := 13) C d_M_line_13 mx_M_digit mw_M_148 sR_0 rfl (c_M_digit hS2) rfl rfl (Nat.le_of_ble_eq_true rfl) (fun r13 M13 q13 => ?_)
  obtain ⟨e13, hS3, o3⟩ := q13
  refine u_istore (pc := 16) C d_M_line_16 rfl (fun x16 e16 L9 hL9 => ?_)
  obtain rfl : L9 = [some (.ref 0), some (.int 0), some (.int x4), some (.int x10), some (.int x16), none, none, none] := hL9.symm
  refine u_aload_n (pc := 18) C d_M_line_18 rfl ?_
  refine u_iconst (pc := 19) (v := 3) C d_M_line_19 (by decide) ?_
  refine u_callVi (pc := 20) C d_M_line_20 mx_M_digit mw_M_148 sR_0 rfl (c_M_digit hS3) rfl rfl (Nat.le_of_ble_eq_true rfl) (fun r20 M20 q20 => ?_)
  obtain ⟨e20, hS4, o4⟩ := q20
  refine u_istore (pc := 23) C d_M_line_23 rfl (fun x23 e23 L9 hL9 => ?_)
  obtain rfl : L9 = [some (.ref 0), some (.int 0), some (.int x4), some (.int x10), some (.int x16), some (.int x23), none, none] := hL9.symm
  refine u_aload_n (pc := 25) C d_M_line_25 rfl ?_
  refine u_bipush (pc := 26) (v := 32) C d_M_line_26 (by decide) ?_
  refine u_bipush (pc := 28) (v := 32) C d_M_line_28 (by decide) ?_
  refine u_callVi (pc := 30) C d_M_line_30 mx_M_must mw_M_141 sR_0 rfl (c_M_must hS4) rfl rfl (Nat.le_of_ble_eq_true rfl) (fun r30 M30 q30 => ?_)
  obtain ⟨e30, hS5, o5⟩ := q30
  refine u_pop (pc := 33) C d_M_line_33 rfl ?_
  have hS6 : TSt M30 t (z4 t cu) := hS5
  have o6 : OfR sfR M M30 := (((o1.trans o2).trans o3).trans o4).trans o5
  have hft : M30.1 0 34 = ftM (z4 t cu).2 := hS6.2.1
  refine u_aload_n (pc := 34) C d_M_line_34 rfl ?_
  refine u_geti (pc := 35) C d_M_line_35 fw_M_116 sR_0 rfl ?_
  refine u_if_ge (pc := 38) (tgt := 56) C d_M_line_38 rfl (fun c38 => ?_) (fun c38 => ?_)
  · refine u_iconst (pc := 56) (v := 0) C d_M_line_56 (by decide) ?_
    refine u_istore (pc := 57) C d_M_line_57 rfl (fun x57 e57 L9 hL9 => ?_)
    obtain rfl : L9 = [some (.ref 0), some (.int 0), some (.int x4), some (.int x10), some (.int x16), some (.int x23), some (.int x57), none] := hL9.symm
    refine lp_line0 hS6 o6 C hQ _ ?_
    rw [hft] at c38
    rw [e57]
    obtain ⟨x, hx⟩ := ft_some (Int32.not_lt.mpr c38)
    rw [if_neg (fun z => by unfold zl at z; rw [Bool.and_eq_true, hx] at z; exact absurd z.1 (by simp))]
  · refine u_aload_n (pc := 41) C d_M_line_41 rfl ?_
    refine u_bipush (pc := 42) (v := 45) C d_M_line_42 (by decide) ?_
    refine u_bipush (pc := 44) (v := 45) C d_M_line_44 (by decide) ?_
    refine u_callVi (pc := 46) C d_M_line_46 mx_M_sees mw_M_119 sR_0 rfl (c_M_sees hS5.1) rfl rfl (Nat.le_of_ble_eq_true rfl) (fun r46 M46 q46 => ?_)
    obtain ⟨e46, q46⟩ := q46
    have q46 := q46.symm
    subst q46
    refine u_if_eq (pc := 49) (tgt := 56) C d_M_line_49 rfl (fun c49 => ?_) (fun c49 => ?_)
    · refine u_iconst (pc := 56) (v := 0) C d_M_line_56 (by decide) ?_
      refine u_istore (pc := 57) C d_M_line_57 rfl (fun x57 e57 L9 hL9 => ?_)
      obtain rfl : L9 = [some (.ref 0), some (.int 0), some (.int x4), some (.int x10), some (.int x16), some (.int x23), some (.int x57), none] := hL9.symm
      refine lp_line0 hS6 o6 C hQ _ ?_
      rw [hft] at c38
      rw [e57]
      have hno := ft_none hS6.1.1.1 hS6.2.2 (Int32.not_le.mp c38)
      have hse : ¬ sesB t 45 45 (z4 t cu).1 = true := zero_of e46 c49
      rw [if_neg (fun z => by unfold zl at z; rw [Bool.and_eq_true] at z; exact hse z.2)]
    · refine u_iconst (pc := 52) (v := 1) C d_M_line_52 (by decide) ?_
      refine u_goto (pc := 53) (tgt := 57) C d_M_line_53 rfl ?_
      refine u_istore (pc := 57) C d_M_line_57 rfl (fun x57 e57 L9 hL9 => ?_)
      obtain rfl : L9 = [some (.ref 0), some (.int 0), some (.int x4), some (.int x10), some (.int x16), some (.int x23), some (.int x57), none] := hL9.symm
      refine lp_line0 hS6 o6 C hQ _ ?_
      rw [hft] at c38
      rw [e57]
      have hno := ft_none hS6.1.1.1 hS6.2.2 (Int32.not_le.mp c38)
      have hse : sesB t 45 45 (z4 t cu).1 = true := one_of e46 c49
      rw [if_pos (show zl t cu = true by unfold zl; rw [hse, hno]; rfl)]
set_option maxRecDepth 20000 in
theorem c_M_line1 {t : List Int32} {cu : Nat} {M : Mem} (hS : TSt M t (cu, none)) {cd : Nat → Nat → Int32} {n : Nat} (hcd : CDm M cd) (h5 : M.1 0 5 = nI n) (hn : n < 24) : Ct lyR y_M_line b_M_line 8 none 6 [.ref 0, .int 1] M (Pv fun M' => TSt M' t (za t cu).2 ∧ CDm M' (cdU cd n (zw t cu).1 (zp t cu).1 (zv t cu).1 (zx t cu).1 (if zl t cu = true then -((za t cu).1 - 48) else (za t cu).1 - 48)) ∧ M'.1 0 5 = nI (n + 1) ∧ M'.1 6 = upd (upd (M.1 6) (71 + n) 0) (95 + n) 0 ∧ OfR sfaR M M') := by
  refine Ct.ofG mx_M_line [some (.ref 0), some (.int 1), none, none, none, none, none, none] rfl rfl (Nat.le_of_ble_eq_true rfl) (fun κ C hQ => ?_)
  refine u_aload_n (pc := 0) C d_M_line_0 rfl ?_
  refine u_callVi (pc := 1) C d_M_line_1 mx_M_wordHere mw_M_145 sR_0 rfl (c_M_wordHere hS) rfl rfl (Nat.le_of_ble_eq_true rfl) (fun r1 M1 q1 => ?_)
  obtain ⟨e1, hS1, o1⟩ := q1
  refine u_istore_n (pc := 4) C d_M_line_4 rfl (fun x4 e4 L9 hL9 => ?_)
  obtain rfl : L9 = [some (.ref 0), some (.int 1), some (.int x4), none, none, none, none, none] := hL9.symm
  refine u_aload_n (pc := 5) C d_M_line_5 rfl ?_
  refine u_iconst (pc := 6) (v := 1) C d_M_line_6 (by decide) ?_
  refine u_callVi (pc := 7) C d_M_line_7 mx_M_digit mw_M_148 sR_0 rfl (c_M_digit hS1) rfl rfl (Nat.le_of_ble_eq_true rfl) (fun r7 M7 q7 => ?_)
  obtain ⟨e7, hS2, o2⟩ := q7
  refine u_istore_n (pc := 10) C d_M_line_10 rfl (fun x10 e10 L9 hL9 => ?_)
  obtain rfl : L9 = [some (.ref 0), some (.int 1), some (.int x4), some (.int x10), none, none, none, none] := hL9.symm
  refine u_aload_n (pc := 11) C d_M_line_11 rfl ?_
  refine u_iconst (pc := 12) (v := 3) C d_M_line_12 (by decide) ?_
  refine u_callVi (pc := 13) C d_M_line_13 mx_M_digit mw_M_148 sR_0 rfl (c_M_digit hS2) rfl rfl (Nat.le_of_ble_eq_true rfl) (fun r13 M13 q13 => ?_)
  obtain ⟨e13, hS3, o3⟩ := q13
  refine u_istore (pc := 16) C d_M_line_16 rfl (fun x16 e16 L9 hL9 => ?_)
  obtain rfl : L9 = [some (.ref 0), some (.int 1), some (.int x4), some (.int x10), some (.int x16), none, none, none] := hL9.symm
  refine u_aload_n (pc := 18) C d_M_line_18 rfl ?_
  refine u_iconst (pc := 19) (v := 3) C d_M_line_19 (by decide) ?_
  refine u_callVi (pc := 20) C d_M_line_20 mx_M_digit mw_M_148 sR_0 rfl (c_M_digit hS3) rfl rfl (Nat.le_of_ble_eq_true rfl) (fun r20 M20 q20 => ?_)
  obtain ⟨e20, hS4, o4⟩ := q20
  refine u_istore (pc := 23) C d_M_line_23 rfl (fun x23 e23 L9 hL9 => ?_)
  obtain rfl : L9 = [some (.ref 0), some (.int 1), some (.int x4), some (.int x10), some (.int x16), some (.int x23), none, none] := hL9.symm
  refine u_aload_n (pc := 25) C d_M_line_25 rfl ?_
  refine u_bipush (pc := 26) (v := 32) C d_M_line_26 (by decide) ?_
  refine u_bipush (pc := 28) (v := 32) C d_M_line_28 (by decide) ?_
  refine u_callVi (pc := 30) C d_M_line_30 mx_M_must mw_M_141 sR_0 rfl (c_M_must hS4) rfl rfl (Nat.le_of_ble_eq_true rfl) (fun r30 M30 q30 => ?_)
  obtain ⟨e30, hS5, o5⟩ := q30
  refine u_pop (pc := 33) C d_M_line_33 rfl ?_
  have hS6 : TSt M30 t (z4 t cu) := hS5
  have o6 : OfR sfR M M30 := (((o1.trans o2).trans o3).trans o4).trans o5
  have hft : M30.1 0 34 = ftM (z4 t cu).2 := hS6.2.1
  refine u_aload_n (pc := 34) C d_M_line_34 rfl ?_
  refine u_geti (pc := 35) C d_M_line_35 fw_M_116 sR_0 rfl ?_
  refine u_if_ge (pc := 38) (tgt := 56) C d_M_line_38 rfl (fun c38 => ?_) (fun c38 => ?_)
  · refine u_iconst (pc := 56) (v := 0) C d_M_line_56 (by decide) ?_
    refine u_istore (pc := 57) C d_M_line_57 rfl (fun x57 e57 L9 hL9 => ?_)
    obtain rfl : L9 = [some (.ref 0), some (.int 1), some (.int x4), some (.int x10), some (.int x16), some (.int x23), some (.int x57), none] := hL9.symm
    refine lp_line1 hS6 o6 hcd h5 hn (by rw [e4, e1]; rfl) (by rw [e10, e7]; rfl) (by rw [e16, e13]; rfl) (by rw [e23, e20]; rfl) C hQ _ ?_
    rw [hft] at c38
    rw [e57]
    obtain ⟨x, hx⟩ := ft_some (Int32.not_lt.mpr c38)
    rw [if_neg (fun z => by unfold zl at z; rw [Bool.and_eq_true, hx] at z; exact absurd z.1 (by simp))]
  · refine u_aload_n (pc := 41) C d_M_line_41 rfl ?_
    refine u_bipush (pc := 42) (v := 45) C d_M_line_42 (by decide) ?_
    refine u_bipush (pc := 44) (v := 45) C d_M_line_44 (by decide) ?_
    refine u_callVi (pc := 46) C d_M_line_46 mx_M_sees mw_M_119 sR_0 rfl (c_M_sees hS5.1) rfl rfl (Nat.le_of_ble_eq_true rfl) (fun r46 M46 q46 => ?_)
    obtain ⟨e46, q46⟩ := q46
    have q46 := q46.symm
    subst q46
    refine u_if_eq (pc := 49) (tgt := 56) C d_M_line_49 rfl (fun c49 => ?_) (fun c49 => ?_)
    · refine u_iconst (pc := 56) (v := 0) C d_M_line_56 (by decide) ?_
      refine u_istore (pc := 57) C d_M_line_57 rfl (fun x57 e57 L9 hL9 => ?_)
      obtain rfl : L9 = [some (.ref 0), some (.int 1), some (.int x4), some (.int x10), some (.int x16), some (.int x23), some (.int x57), none] := hL9.symm
      refine lp_line1 hS6 o6 hcd h5 hn (by rw [e4, e1]; rfl) (by rw [e10, e7]; rfl) (by rw [e16, e13]; rfl) (by rw [e23, e20]; rfl) C hQ _ ?_
      rw [hft] at c38
      rw [e57]
      have hno := ft_none hS6.1.1.1 hS6.2.2 (Int32.not_le.mp c38)
      have hse : ¬ sesB t 45 45 (z4 t cu).1 = true := zero_of e46 c49
      rw [if_neg (fun z => by unfold zl at z; rw [Bool.and_eq_true] at z; exact hse z.2)]
    · refine u_iconst (pc := 52) (v := 1) C d_M_line_52 (by decide) ?_
      refine u_goto (pc := 53) (tgt := 57) C d_M_line_53 rfl ?_
      refine u_istore (pc := 57) C d_M_line_57 rfl (fun x57 e57 L9 hL9 => ?_)
      obtain rfl : L9 = [some (.ref 0), some (.int 1), some (.int x4), some (.int x10), some (.int x16), some (.int x23), some (.int x57), none] := hL9.symm
      refine lp_line1 hS6 o6 hcd h5 hn (by rw [e4, e1]; rfl) (by rw [e10, e7]; rfl) (by rw [e16, e13]; rfl) (by rw [e23, e20]; rfl) C hQ _ ?_
      rw [hft] at c38
      rw [e57]
      have hno := ft_none hS6.1.1.1 hS6.2.2 (Int32.not_le.mp c38)
      have hse : sesB t 45 45 (z4 t cu).1 = true := one_of e46 c49
      rw [if_pos (show zl t cu = true by unfold zl; rw [hse, hno]; rfl)]
