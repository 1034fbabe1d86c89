/-! the class's calls, more of them -/
def sp_used (x k : Int32) (σ : St) : Int32 := if x < 0 then -1 else if 3 ≤ x / 1000 then -1 else if 200 ≤ remF x 1000 then -1 else if k < -2 then -1 else if k = -1 then evc σ.1.1 σ.1.2.2.2 (x / 1000) (remF x 1000 / 100) (remF x 100) else if k = -2 then nI (rep σ.1.1 σ.1.2.2.2 (x / 1000) (remF x 1000 / 100) (remF x 100)).2.length else if k < nI (rep σ.1.1 σ.1.2.2.2 (x / 1000) (remF x 1000 / 100) (remF x 100)).2.length then nI ((rep σ.1.1 σ.1.2.2.2 (x / 1000) (remF x 1000 / 100) (remF x 100)).2.getD k.toNatClampNeg 0) else -2
def sp_trace (w i : Int32) (σ : St) : Int32 := if w < 0 then -1 else if 1 < w then -1 else if 0 ≤ i then (if i < nI (min (if w = 0 then σ.2.2.2.2.2.1 else σ.2.2.2.2.2.2).length 40) then (if w = 0 then σ.2.2.2.2.2.1 else σ.2.2.2.2.2.2).getD i.toNatClampNeg 0 else -2) else -1
theorem repl_len {cd : Nat → Nat → Int32} : ∀ (k : Nat) (un : List Nat) (e : Int32 × Int32 × Int32), (repl cd k un e).2.length ≤ k := by
  intro k
  induction k with
  | zero => intro un e; exact Nat.le_refl _
  | succ k ih =>
    intro un e
    rw [repl]
    split
    · exact Nat.zero_le _
    · rw [List.length_cons]
      have := ih (un.erase ‹_›) (useR cd e ‹_›)
      omega
theorem e0_scr {p : Nat} (q : eblk 0 p) : scrS p := by
  rcases q with q | q <;> (unfold ep at q; exact Or.inr (Or.inl (by omega)))
set_option maxRecDepth 20000 in
theorem c_L_used {x k : Int32} {M : Mem} {σ : St} (hI : InvC M σ) : Ct lyC y_L_used b_L_used 3 (some .int) 3 [.ref 83, .int x, .int k] M (Pi fun r M' => r = sp_used x k σ ∧ InvC M' σ) := by
  obtain ⟨m, hm, hR⟩ := hI.R
  have hW := hI.1
  have hcd := hI.2.1
  have hn := hW.1.1
  have r8 := hR.2.2.2.2.2.2.1
  obtain ⟨htl, hbn, hb24⟩ := hW.tl
  refine Ct.ofG mx_L_used [some (.ref 83), some (.int x), some (.int k)] rfl rfl (Nat.le_of_ble_eq_true rfl) (fun κ C hQ => ?_)
  refine u_iload_n (pc := 0) C d_L_used_0 rfl ?_
  refine u_if_lt (pc := 1) (tgt := 30) C d_L_used_1 rfl (fun c1 => ?_) (fun c1 => ?_)
  · refine u_iconst (pc := 30) (v := (-1)) C d_L_used_30 (by decide) ?_
    refine u_iret (pc := 31) C d_L_used_31 (hQ _ _ ⟨_, rfl, ?_⟩)
    refine ⟨?_, hI⟩
    rw [sp_used, if_pos c1]
  · refine u_iload_n (pc := 4) C d_L_used_4 rfl ?_
    refine u_sipush (pc := 5) (v := 1000) C d_L_used_5 (by decide) ?_
    refine u_idiv (pc := 8) C d_L_used_8 (by decide) ?_
    refine u_iconst (pc := 9) (v := 3) C d_L_used_9 (by decide) ?_
    refine u_icmp_ge (pc := 10) (tgt := 30) C d_L_used_10 rfl (fun c10 => ?_) (fun c10 => ?_)
    · refine u_iconst (pc := 30) (v := (-1)) C d_L_used_30 (by decide) ?_
      refine u_iret (pc := 31) C d_L_used_31 (hQ _ _ ⟨_, rfl, ?_⟩)
      refine ⟨?_, hI⟩
      rw [sp_used, if_neg c1, if_pos c10]
    · refine u_iload_n (pc := 13) C d_L_used_13 rfl ?_
      refine u_sipush (pc := 14) (v := 1000) C d_L_used_14 (by decide) ?_
      refine u_irem (pc := 17) C d_L_used_17 (by decide) ?_
      refine u_sipush (pc := 18) (v := 200) C d_L_used_18 (by decide) ?_
      refine u_icmp_ge (pc := 21) (tgt := 30) C d_L_used_21 rfl (fun c21 => ?_) (fun c21 => ?_)
      · refine u_iconst (pc := 30) (v := (-1)) C d_L_used_30 (by decide) ?_
        refine u_iret (pc := 31) C d_L_used_31 (hQ _ _ ⟨_, rfl, ?_⟩)
        refine ⟨?_, hI⟩
        rw [sp_used, if_neg c1, if_neg c10, if_pos (show 200 ≤ remF x 1000 from c21)]
      · refine u_iload_n (pc := 24) C d_L_used_24 rfl ?_
        refine u_bipush (pc := 25) (v := (-2)) C d_L_used_25 (by decide) ?_
        refine u_icmp_ge (pc := 27) (tgt := 32) C d_L_used_27 rfl (fun c27 => ?_) (fun c27 => ?_)
        · refine u_aload_n (pc := 32) C d_L_used_32 rfl ?_
          refine u_getr (pc := 33) (r := (ep 0)) C d_L_used_33 fw_L_56 sC_83 rfl rfl ?_
          refine u_iload_n (pc := 36) C d_L_used_36 rfl ?_
          refine u_callVv (pc := 37) C d_L_used_37 mx_E_becomeTold mw_L_197 (shE0 (by decide)) rfl (c_E_becomeTold (b := 0) (by decide)) rfl rfl (Nat.le_of_ble_eq_true rfl) (fun M37 q37 => ?_)
          obtain ⟨hE, oE⟩ := q37
          have hR2 := hR.off oE (fun p q => e_g (k := 0) (by decide) q)
          have hcd2 := hcd.off oE (fun p h1 h2 => e_cd h1 h2)
          refine u_aload_n (pc := 40) C d_L_used_40 rfl ?_
          refine u_getr (pc := 41) (r := (ep 0)) C d_L_used_41 fw_L_56 sC_83 rfl rfl ?_
          refine u_aload_n (pc := 44) C d_L_used_44 rfl ?_
          refine u_getr (pc := 45) (r := (gp 0)) C d_L_used_45 fw_L_21 sC_83 rfl rfl ?_
          refine u_callVv (pc := 48) C d_L_used_48 mx_E_replaceBy mw_L_201 (shE0 (by decide)) rfl (c_E_replaceBy (b := 0) (by decide) (k := 0) (by decide) hR2 hcd2 hW.1.2 htl hn hbn hW.2.1.1 hE) rfl rfl (Nat.le_of_ble_eq_true rfl) (fun M48 q48 => ?_)
          obtain ⟨hF, oF⟩ := q48
          have hI9 : InvC M48 σ := hI.scr ((oE.trans oF).mono (fun p q => e0_scr q)) (by obtain ⟨th, ev, hl⟩ := hI.2.2.2.2.2.2.2.2; exact ⟨th, ev, hl.off (oE.trans oF) (fun p q => e_l q (by decide))⟩)
          have c27 : ¬ k < -2 := Int32.not_lt.mpr c27
          have hrl := repl_len (cd := σ.1.1) σ.1.2.2.2.length σ.1.2.2.2 (x / 1000, remF x 1000 / 100, withinF (remF x 100) 0 99)
          have hsp : sp_used x k σ = if k = -1 then evc σ.1.1 σ.1.2.2.2 (x / 1000) (remF x 1000 / 100) (remF x 100) else if k = -2 then nI (rep σ.1.1 σ.1.2.2.2 (x / 1000) (remF x 1000 / 100) (remF x 100)).2.length else if k < nI (rep σ.1.1 σ.1.2.2.2 (x / 1000) (remF x 1000 / 100) (remF x 100)).2.length then nI ((rep σ.1.1 σ.1.2.2.2 (x / 1000) (remF x 1000 / 100) (remF x 100)).2.getD k.toNatClampNeg 0) else -2 := by
            rw [sp_used, if_neg c1, if_neg c10, if_neg (show ¬ 200 ≤ remF x 1000 from c21), if_neg c27]
          refine u_iload_n (pc := 51) C d_L_used_51 rfl ?_
          refine u_iconst (pc := 52) (v := (-1)) C d_L_used_52 (by decide) ?_
          refine u_icmp_ne (pc := 53) (tgt := 64) C d_L_used_53 rfl (fun c53 => ?_) (fun c53 => ?_)
          · refine u_iload_n (pc := 64) C d_L_used_64 rfl ?_
            refine u_bipush (pc := 65) (v := (-2)) C d_L_used_65 (by decide) ?_
            refine u_icmp_ne (pc := 67) (tgt := 78) C d_L_used_67 rfl (fun c67 => ?_) (fun c67 => ?_)
            · refine u_iload_n (pc := 78) C d_L_used_78 rfl ?_
              refine u_aload_n (pc := 79) C d_L_used_79 rfl ?_
              refine u_getr (pc := 80) (r := (ep 0)) C d_L_used_80 fw_L_56 sC_83 rfl rfl ?_
              refine u_geti (pc := 83) C d_L_used_83 fw_L_207 (shE0 (by decide)) rfl ?_
              refine u_icmp_ge (pc := 86) (tgt := 103) C d_L_used_86 rfl (fun c86 => ?_) (fun c86 => ?_)
              · refine u_bipush (pc := 103) (v := (-2)) C d_L_used_103 (by decide) ?_
                refine u_iret (pc := 105) C d_L_used_105 (hQ _ _ ⟨_, rfl, ?_⟩)
                have h5 : M48.1 (ep 0) 5 = nI (rep σ.1.1 σ.1.2.2.2 (x / 1000) (remF x 1000 / 100) (remF x 100)).2.length := hF.2.2.2.1
                refine ⟨?_, hI9⟩
                rw [hsp, if_neg c53, if_neg c67]
                rw [if_neg (Int32.not_lt.mpr (by rw [← h5]; exact c86))]
              · refine u_aload_n (pc := 89) C d_L_used_89 rfl ?_
                refine u_getr (pc := 90) (r := (ep 0)) C d_L_used_90 fw_L_56 sC_83 rfl rfl ?_
                refine u_getr (pc := 93) (r := (ep 0 + 1)) C d_L_used_93 fw_L_208 (shE0 (by decide)) rfl rfl ?_
                refine u_iload_n (pc := 96) C d_L_used_96 rfl ?_
                refine u_callSi (pc := 97) C d_L_used_97 mx_L_at mw_L_124 (c_L_at (shE1 (by decide))) rfl rfl (Nat.le_of_ble_eq_true rfl) (fun r97 M97 q97 => ?_)
                obtain ⟨e97, q97⟩ := q97
                have q97 := q97.symm
                subst q97
                refine u_goto (pc := 100) (tgt := 105) C d_L_used_100 rfl ?_
                refine u_iret (pc := 105) C d_L_used_105 (hQ _ _ ⟨_, rfl, ?_⟩)
                have h5 : M48.1 (ep 0) 5 = nI (rep σ.1.1 σ.1.2.2.2 (x / 1000) (remF x 1000 / 100) (remF x 100)).2.length := hF.2.2.2.1
                refine ⟨?_, hI9⟩
                rw [hsp, if_neg c53, if_neg c67]
                have hk0 : ¬ k < 0 := by
                  intro q
                  have q1 := Int32.lt_iff_toInt_lt.mp q
                  have q2 : ¬ k.toInt < (-2 : Int32).toInt := fun z => c27 (Int32.lt_iff_toInt_lt.mpr z)
                  have q3 : k.toInt ≠ -1 := fun z => c53 (Int32.toInt_inj.mp z)
                  have q4 : k.toInt ≠ -2 := fun z => c67 (Int32.toInt_inj.mp z)
                  have q5 : (-2 : Int32).toInt = -2 := rfl
                  have q6 : (0 : Int32).toInt = 0 := rfl
                  rw [q5] at q2
                  rw [q6] at q1
                  omega
                obtain ⟨j, hj, rfl⟩ := nI_of hk0
                have hlt : nI j < nI (rep σ.1.1 σ.1.2.2.2 (x / 1000) (remF x 1000 / 100) (remF x 100)).2.length := by rw [← h5]; exact Int32.not_le.mp c86
                have hj2 : j < (rep σ.1.1 σ.1.2.2.2 (x / 1000) (remF x 1000 / 100) (remF x 100)).2.length := (nI_ltI hj (by unfold rep; omega)).mp hlt
                have hl24 : (rep σ.1.1 σ.1.2.2.2 (x / 1000) (remF x 1000 / 100) (remF x 100)).2.length ≤ 24 := Nat.le_trans hrl htl
                rw [if_pos hlt, e97, atF_in (by omega) (by decide), nI_clamp hj]
                exact hF.2.2.2.2.1 j hj2
            · refine u_aload_n (pc := 70) C d_L_used_70 rfl ?_
              refine u_getr (pc := 71) (r := (ep 0)) C d_L_used_71 fw_L_56 sC_83 rfl rfl ?_
              refine u_geti (pc := 74) C d_L_used_74 fw_L_207 (shE0 (by decide)) rfl ?_
              refine u_iret (pc := 77) C d_L_used_77 (hQ _ _ ⟨_, rfl, ?_⟩)
              refine ⟨?_, hI9⟩
              rw [hsp, if_neg c53, if_pos c67]
              exact hF.2.2.2.1
          · refine u_aload_n (pc := 56) C d_L_used_56 rfl ?_
            refine u_getr (pc := 57) (r := (ep 0)) C d_L_used_57 fw_L_56 sC_83 rfl rfl ?_
            refine u_callVi (pc := 60) C d_L_used_60 mx_E_told mw_L_204 (shE0 (by decide)) rfl (c_E_told (b := 0) (by decide)) rfl rfl (Nat.le_of_ble_eq_true rfl) (fun r60 M60 q60 => ?_)
            obtain ⟨e60, q60⟩ := q60
            have q60 := q60.symm
            subst q60
            refine u_iret (pc := 63) C d_L_used_63 (hQ _ _ ⟨_, rfl, ?_⟩)
            refine ⟨?_, hI9⟩
            rw [hsp, if_pos c53, e60, hF.1, hF.2.1, hF.2.2.1]
            rfl
        · refine u_iconst (pc := 30) (v := (-1)) C d_L_used_30 (by decide) ?_
          refine u_iret (pc := 31) C d_L_used_31 (hQ _ _ ⟨_, rfl, ?_⟩)
          refine ⟨?_, hI⟩
          rw [sp_used, if_neg c1, if_neg c10, if_neg (show ¬ 200 ≤ remF x 1000 from c21), if_pos (Int32.not_le.mp c27)]
set_option maxRecDepth 20000 in
theorem c_L_next {p : Int32} {M : Mem} {σ : St} (hI : InvC M σ) : Ct lyC y_L_next b_L_next 3 (some .int) 2 [.ref 83, .int p] M (Pi fun r M' => r = sp_next p σ ∧ M' = M) := by
  obtain ⟨m, hm, hR⟩ := hI.R
  have hW := hI.1
  have hcd := hI.2.1
  have hn := hW.1.1
  have r8 := hR.2.2.2.2.2.2.1
  refine Ct.ofG mx_L_next [some (.ref 83), some (.int p), none] rfl rfl (Nat.le_of_ble_eq_true rfl) (fun κ C hQ => ?_)
  refine u_iload_n (pc := 0) C d_L_next_0 rfl ?_
  refine u_callSi (pc := 1) C d_L_next_1 mx_L_isPlayer mw_L_91 (c_L_isPlayer) rfl rfl (Nat.le_of_ble_eq_true rfl) (fun r1 M1 q1 => ?_)
  obtain ⟨e1, q1⟩ := q1
  have q1 := q1.symm
  subst q1
  refine u_if_ne (pc := 4) (tgt := 9) C d_L_next_4 rfl (fun c4 => ?_) (fun c4 => ?_)
  · have hp : p = 0 ∨ p = 1 := by
      rcases Classical.em (p = 0 ∨ p = 1) with q | q
      · exact q
      · exact absurd (e1.trans (if_neg q)) c4
    refine u_aload_n (pc := 9) C d_L_next_9 rfl ?_
    refine u_getr (pc := 10) (r := (gp 0)) C d_L_next_10 fw_L_21 sC_83 rfl rfl ?_
    refine u_iload_n (pc := 13) C d_L_next_13 rfl ?_
    refine u_iconst (pc := 14) (v := 0) C d_L_next_14 (by decide) ?_
    refine u_callVi (pc := 15) C d_L_next_15 mx_G_countIn mw_L_170 (shG0 (by decide)) rfl (c_G_countIn (k := 0) (by decide) hR hcd hn) rfl rfl (Nat.le_of_ble_eq_true rfl) (fun r15 M15 q15 => ?_)
    obtain ⟨e15, q15⟩ := q15
    have q15 := q15.symm
    subst q15
    refine u_istore_n (pc := 18) C d_L_next_18 rfl (fun x18 e18 L9 hL9 => ?_)
    obtain rfl : L9 = [some (.ref 83), some (.int p), some (.int x18)] := hL9.symm
    refine u_iload_n (pc := 19) C d_L_next_19 rfl ?_
    refine u_if_gt (pc := 20) (tgt := 26) C d_L_next_20 rfl (fun c20 => ?_) (fun c20 => ?_)
    · refine u_aload_n (pc := 26) C d_L_next_26 rfl ?_
      refine u_getr (pc := 27) (r := (gp 0)) C d_L_next_27 fw_L_21 sC_83 rfl rfl ?_
      refine u_iload_n (pc := 30) C d_L_next_30 rfl ?_
      refine u_iconst (pc := 31) (v := 0) C d_L_next_31 (by decide) ?_
      refine u_iload_n (pc := 32) C d_L_next_32 rfl ?_
      refine u_aload_n (pc := 33) C d_L_next_33 rfl ?_
      refine u_getr (pc := 34) (r := (gp 0)) C d_L_next_34 fw_L_21 sC_83 rfl rfl ?_
      refine u_geti (pc := 37) C d_L_next_37 fw_L_275 (shG0 (by decide)) rfl ?_
      refine u_callSi (pc := 40) C d_L_next_40 mx_L_seedAfter mw_L_278 (c_L_seedAfter) rfl rfl (Nat.le_of_ble_eq_true rfl) (fun r40 M40 q40 => ?_)
      obtain ⟨e40, q40⟩ := q40
      have q40 := q40.symm
      subst q40
      refine u_callSi (pc := 43) C d_L_next_43 mx_L_drawnBelow mw_L_281 (c_L_drawnBelow) rfl rfl (Nat.le_of_ble_eq_true rfl) (fun r43 M43 q43 => ?_)
      obtain ⟨e43, q43⟩ := q43
      have q43 := q43.symm
      subst q43
      have hl := atP_len (cd := σ.1.1) (n := σ.1.2.1) (g := σ.1.2.2.1) (p := p) (pl := 0)
      have h0 : 0 < (atP σ.1.1 σ.1.2.1 σ.1.2.2.1 p 0).length := by
        rcases Nat.eq_zero_or_pos (atP σ.1.1 σ.1.2.1 σ.1.2.2.1 p 0).length with z | z
        · rw [e18, e15, z] at c20; exact absurd c20 (by decide)
        · exact z
      obtain ⟨j, hj, ej⟩ := drawn_lt h0 (by omega) (seedF (σ.1.2.2.1 1 1))
      have e43' : r43 = nI j := by rw [e43, e40, e18, e15, hR.2.2.2.2.2.2.2.2.2.2.2.2.1, ej]
      clear e43
      subst e43'
      have hj31 : j < 2 ^ 31 := by omega
      refine u_callVi (pc := 46) C d_L_next_46 mx_G_nthIn mw_L_265 (shG0 (by decide)) rfl (c_G_nthIn (k := 0) (by decide) hR hcd hn hj31) rfl rfl (Nat.le_of_ble_eq_true rfl) (fun r46 M46 q46 => ?_)
      obtain ⟨e46, q46⟩ := q46
      have q46 := q46.symm
      subst q46
      refine u_iret (pc := 49) C d_L_next_49 (hQ _ _ ⟨_, rfl, ?_⟩)
      exact ⟨by rw [sp_next, if_pos hp, if_neg (by omega), e46, ej, nI_clamp hj31], rfl⟩
    · refine u_bipush (pc := 23) (v := (-2)) C d_L_next_23 (by decide) ?_
      refine u_iret (pc := 25) C d_L_next_25 (hQ _ _ ⟨_, rfl, ?_⟩)
      have hl0 : (atP σ.1.1 σ.1.2.1 σ.1.2.2.1 p 0).length = 0 := by
        have hl := atP_len (cd := σ.1.1) (n := σ.1.2.1) (g := σ.1.2.2.1) (p := p) (pl := 0)
        rcases Nat.eq_zero_or_pos (atP σ.1.1 σ.1.2.1 σ.1.2.2.1 p 0).length with z | z
        · exact z
        · exact absurd (show (0 : Int32) < x18 by rw [e18, e15]; exact nI_lt (a := 0) z (by omega)) c20
      exact ⟨by rw [sp_next, if_pos hp, if_pos hl0], rfl⟩
  · refine u_iconst (pc := 7) (v := (-1)) C d_L_next_7 (by decide) ?_
    refine u_iret (pc := 8) C d_L_next_8 (hQ _ _ ⟨_, rfl, ?_⟩)
    have hp : ¬ (p = 0 ∨ p = 1) := fun q => absurd ((e1.trans (if_pos q)).symm.trans c4) (by decide)
    exact ⟨by rw [sp_next, if_neg hp], rfl⟩
set_option maxRecDepth 20000 in
theorem c_L_trace {w i : Int32} {M : Mem} {σ : St} (hI : InvC M σ) : Ct lyC y_L_trace b_L_trace 3 (some .int) 1 [.ref 83, .int w, .int i] M (Pi fun r M' => r = sp_trace w i σ ∧ M' = M) := by
  have hL := hI.2.2.2.2.2.2.2.1
  refine Ct.ofG mx_L_trace [some (.ref 83), some (.int w), some (.int i)] rfl rfl (Nat.le_of_ble_eq_true rfl) (fun κ C hQ => ?_)
  refine u_iload_n (pc := 0) C d_L_trace_0 rfl ?_
  refine u_if_lt (pc := 1) (tgt := 13) C d_L_trace_1 rfl (fun c1 => ?_) (fun c1 => ?_)
  · refine u_iconst (pc := 13) (v := (-1)) C d_L_trace_13 (by decide) ?_
    refine u_iret (pc := 14) C d_L_trace_14 (hQ _ _ ⟨_, rfl, ?_⟩)
    exact ⟨by rw [sp_trace, if_pos c1], rfl⟩
  · refine u_iload_n (pc := 4) C d_L_trace_4 rfl ?_
    refine u_iconst (pc := 5) (v := 1) C d_L_trace_5 (by decide) ?_
    refine u_icmp_gt (pc := 6) (tgt := 13) C d_L_trace_6 rfl (fun c6 => ?_) (fun c6 => ?_)
    · refine u_iconst (pc := 13) (v := (-1)) C d_L_trace_13 (by decide) ?_
      refine u_iret (pc := 14) C d_L_trace_14 (hQ _ _ ⟨_, rfl, ?_⟩)
      exact ⟨by rw [sp_trace, if_neg c1, if_pos c6], rfl⟩
    · refine u_iload_n (pc := 9) C d_L_trace_9 rfl ?_
      refine u_if_ge (pc := 10) (tgt := 15) C d_L_trace_10 rfl (fun c10 => ?_) (fun c10 => ?_)
      · refine u_iload_n (pc := 15) C d_L_trace_15 rfl ?_
        refine u_if_ne (pc := 16) (tgt := 47) C d_L_trace_16 rfl (fun c16 => ?_) (fun c16 => ?_)
        · refine u_iload_n (pc := 47) C d_L_trace_47 rfl ?_
          refine u_aload_n (pc := 48) C d_L_trace_48 rfl ?_
          refine u_getr (pc := 49) (r := (op 0)) C d_L_trace_49 fw_L_63 sC_83 rfl rfl ?_
          refine u_geti (pc := 52) C d_L_trace_52 fw_L_290 (shO0 (by decide)) rfl ?_
          refine u_icmp_ge (pc := 55) (tgt := 72) C d_L_trace_55 rfl (fun c55 => ?_) (fun c55 => ?_)
          · refine u_bipush (pc := 72) (v := (-2)) C d_L_trace_72 (by decide) ?_
            refine u_iret (pc := 74) C d_L_trace_74 (hQ _ _ ⟨_, rfl, ?_⟩)
            rw [hL.2.2.1] at c55
            refine ⟨?_, rfl⟩
            rw [sp_trace, if_neg c1, if_neg c6, if_pos c10]
            simp only [if_neg c16]
            rw [if_neg (Int32.not_lt.mpr c55)]
          · refine u_aload_n (pc := 58) C d_L_trace_58 rfl ?_
            refine u_getr (pc := 59) (r := (op 0)) C d_L_trace_59 fw_L_63 sC_83 rfl rfl ?_
            refine u_getr (pc := 62) (r := (op 0 + 2)) C d_L_trace_62 fw_L_293 (shO0 (by decide)) rfl rfl ?_
            refine u_iload_n (pc := 65) C d_L_trace_65 rfl ?_
            refine u_callSi (pc := 66) C d_L_trace_66 mx_L_at mw_L_124 (c_L_at (shO2 (by decide))) rfl rfl (Nat.le_of_ble_eq_true rfl) (fun r66 M66 q66 => ?_)
            obtain ⟨e66, q66⟩ := q66
            have q66 := q66.symm
            subst q66
            refine u_goto (pc := 69) (tgt := 74) C d_L_trace_69 rfl ?_
            refine u_iret (pc := 74) C d_L_trace_74 (hQ _ _ ⟨_, rfl, ?_⟩)
            rw [hL.2.2.1] at c55
            refine ⟨?_, rfl⟩
            rw [sp_trace, if_neg c1, if_neg c6, if_pos c10]
            simp only [if_neg c16]
            obtain ⟨j, hj, rfl⟩ := nI_of (Int32.not_lt.mpr c10)
            have hlt := Int32.not_le.mp c55
            have hj2 := (nI_ltI hj (by omega)).mp hlt
            rw [if_pos hlt, e66, atF_in (by omega) (by decide), nI_clamp hj]
            exact hL.2.2.2 j hj2
        · refine u_iload_n (pc := 19) C d_L_trace_19 rfl ?_
          refine u_aload_n (pc := 20) C d_L_trace_20 rfl ?_
          refine u_getr (pc := 21) (r := (op 0)) C d_L_trace_21 fw_L_63 sC_83 rfl rfl ?_
          refine u_geti (pc := 24) C d_L_trace_24 fw_L_284 (shO0 (by decide)) rfl ?_
          refine u_icmp_ge (pc := 27) (tgt := 44) C d_L_trace_27 rfl (fun c27 => ?_) (fun c27 => ?_)
          · refine u_bipush (pc := 44) (v := (-2)) C d_L_trace_44 (by decide) ?_
            refine u_iret (pc := 46) C d_L_trace_46 (hQ _ _ ⟨_, rfl, ?_⟩)
            rw [hL.1] at c27
            refine ⟨?_, rfl⟩
            rw [sp_trace, if_neg c1, if_neg c6, if_pos c10]
            simp only [if_pos c16]
            rw [if_neg (Int32.not_lt.mpr c27)]
          · refine u_aload_n (pc := 30) C d_L_trace_30 rfl ?_
            refine u_getr (pc := 31) (r := (op 0)) C d_L_trace_31 fw_L_63 sC_83 rfl rfl ?_
            refine u_getr (pc := 34) (r := (op 0 + 1)) C d_L_trace_34 fw_L_287 (shO0 (by decide)) rfl rfl ?_
            refine u_iload_n (pc := 37) C d_L_trace_37 rfl ?_
            refine u_callSi (pc := 38) C d_L_trace_38 mx_L_at mw_L_124 (c_L_at (shO1 (by decide))) rfl rfl (Nat.le_of_ble_eq_true rfl) (fun r38 M38 q38 => ?_)
            obtain ⟨e38, q38⟩ := q38
            have q38 := q38.symm
            subst q38
            refine u_goto (pc := 41) (tgt := 46) C d_L_trace_41 rfl ?_
            refine u_iret (pc := 46) C d_L_trace_46 (hQ _ _ ⟨_, rfl, ?_⟩)
            rw [hL.1] at c27
            refine ⟨?_, rfl⟩
            rw [sp_trace, if_neg c1, if_neg c6, if_pos c10]
            simp only [if_pos c16]
            obtain ⟨j, hj, rfl⟩ := nI_of (Int32.not_lt.mpr c10)
            have hlt := Int32.not_le.mp c27
            have hj2 := (nI_ltI hj (by omega)).mp hlt
            rw [if_pos hlt, e38, atF_in (by omega) (by decide), nI_clamp hj]
            exact hL.2.1 j hj2
      · refine u_iconst (pc := 13) (v := (-1)) C d_L_trace_13 (by decide) ?_
        refine u_iret (pc := 14) C d_L_trace_14 (hQ _ _ ⟨_, rfl, ?_⟩)
        exact ⟨by rw [sp_trace, if_neg c1, if_neg c6, if_neg c10], rfl⟩
def sp_count (what : Int32) (σ : St) : Int32 := if what = 0 then nI σ.1.2.1 else if what = 1 then σ.1.2.2.1 1 4 else if what = 2 then nI σ.1.2.2.2.length else if what = 3 then nI (atP σ.1.1 σ.1.2.1 σ.1.2.2.1 0 4).length + nI (atP σ.1.1 σ.1.2.1 σ.1.2.2.1 1 4).length else if what = 4 then nI σ.2.2.1.length else if what = 5 then σ.1.2.2.1 1 0 else if what = 6 then σ.1.2.2.1 1 3 else if what = 7 then σ.1.2.2.1 1 2 else if what = 8 then (if σ.1.2.2.1 0 0 ≤ 0 then 1 else 0) + (if σ.1.2.2.1 0 1 ≤ 0 then 2 else 0) else -1
set_option maxRecDepth 20000 in
theorem c_L_count {what : Int32} {M : Mem} {σ : St} (hI : InvC M σ) : Ct lyC y_L_count b_L_count 2 (some .int) 2 [.ref 83, .int what] M (Pi fun r M' => r = sp_count what σ ∧ M' = M) := by
  obtain ⟨m, hm, hR⟩ := hI.R
  have hW := hI.1
  have hcd := hI.2.1
  have hn := hW.1.1
  have r8 := hR.2.2.2.2.2.2.1
  have hT := hI.2.2.2.2.1.2.1
  refine Ct.ofG mx_L_count [some (.ref 83), some (.int what)] rfl rfl (Nat.le_of_ble_eq_true rfl) (fun κ C hQ => ?_)
  refine u_iload_n (pc := 0) C d_L_count_0 rfl ?_
  refine u_top (fun t1 e1 => ?_)
  rcases sw_0_8 t1 with q1 | q1 | q1 | q1 | q1 | q1 | q1 | q1 | q1 | q1
  · refine u_tsIn (pc := 1) (tgt := 52) C d_L_count_1 (by rw [q1]; decide) (by rw [q1]; decide) (by rw [q1]; rfl) rfl ?_
    refine u_aload_n (pc := 52) C d_L_count_52 rfl ?_
    refine u_getr (pc := 53) (r := (gp 0)) C d_L_count_53 fw_L_21 sC_83 rfl rfl ?_
    refine u_geti (pc := 56) C d_L_count_56 fw_L_98 (shG0 (by decide)) rfl ?_
    refine u_iret (pc := 59) C d_L_count_59 (hQ _ _ ⟨_, rfl, ?_⟩)
    subst e1
    refine ⟨?_, rfl⟩
    rw [sp_count, q1, if_pos rfl]
    exact r8
  · refine u_tsIn (pc := 1) (tgt := 60) C d_L_count_1 (by rw [q1]; decide) (by rw [q1]; decide) (by rw [q1]; rfl) rfl ?_
    refine u_aload_n (pc := 60) C d_L_count_60 rfl ?_
    refine u_getr (pc := 61) (r := (gp 0)) C d_L_count_61 fw_L_21 sC_83 rfl rfl ?_
    refine u_geti (pc := 64) C d_L_count_64 fw_L_211 (shG0 (by decide)) rfl ?_
    refine u_iret (pc := 67) C d_L_count_67 (hQ _ _ ⟨_, rfl, ?_⟩)
    subst e1
    refine ⟨?_, rfl⟩
    rw [sp_count, q1, if_neg (by decide), if_pos rfl]
    exact hR.2.2.2.2.2.2.2.2.1
  · refine u_tsIn (pc := 1) (tgt := 68) C d_L_count_1 (by rw [q1]; decide) (by rw [q1]; decide) (by rw [q1]; rfl) rfl ?_
    refine u_aload_n (pc := 68) C d_L_count_68 rfl ?_
    refine u_getr (pc := 69) (r := (gp 0)) C d_L_count_69 fw_L_21 sC_83 rfl rfl ?_
    refine u_geti (pc := 72) C d_L_count_72 fw_L_302 (shG0 (by decide)) rfl ?_
    refine u_iret (pc := 75) C d_L_count_75 (hQ _ _ ⟨_, rfl, ?_⟩)
    subst e1
    refine ⟨?_, rfl⟩
    rw [sp_count, q1, if_neg (by decide), if_neg (by decide), if_pos rfl]
    exact hR.2.2.2.2.2.2.2.1
  · refine u_tsIn (pc := 1) (tgt := 76) C d_L_count_1 (by rw [q1]; decide) (by rw [q1]; decide) (by rw [q1]; rfl) rfl ?_
    refine u_aload_n (pc := 76) C d_L_count_76 rfl ?_
    refine u_getr (pc := 77) (r := (gp 0)) C d_L_count_77 fw_L_21 sC_83 rfl rfl ?_
    refine u_iconst (pc := 80) (v := 0) C d_L_count_80 (by decide) ?_
    refine u_iconst (pc := 81) (v := 4) C d_L_count_81 (by decide) ?_
    refine u_callVi (pc := 82) C d_L_count_82 mx_G_countIn mw_L_170 (shG0 (by decide)) rfl (c_G_countIn (k := 0) (by decide) hR hcd hn) rfl rfl (Nat.le_of_ble_eq_true rfl) (fun r82 M82 q82 => ?_)
    obtain ⟨e82, q82⟩ := q82
    have q82 := q82.symm
    subst q82
    refine u_aload_n (pc := 85) C d_L_count_85 rfl ?_
    refine u_getr (pc := 86) (r := (gp 0)) C d_L_count_86 fw_L_21 sC_83 rfl rfl ?_
    refine u_iconst (pc := 89) (v := 1) C d_L_count_89 (by decide) ?_
    refine u_iconst (pc := 90) (v := 4) C d_L_count_90 (by decide) ?_
    refine u_callVi (pc := 91) C d_L_count_91 mx_G_countIn mw_L_170 (shG0 (by decide)) rfl (c_G_countIn (k := 0) (by decide) hR hcd hn) rfl rfl (Nat.le_of_ble_eq_true rfl) (fun r91 M91 q91 => ?_)
    obtain ⟨e91, q91⟩ := q91
    have q91 := q91.symm
    subst q91
    refine u_iadd (pc := 94) C d_L_count_94 ?_
    refine u_iret (pc := 95) C d_L_count_95 (hQ _ _ ⟨_, rfl, ?_⟩)
    subst e1
    refine ⟨?_, rfl⟩
    rw [sp_count, q1, if_neg (by decide), if_neg (by decide), if_neg (by decide), if_pos rfl]
    rw [e82, e91]
  · refine u_tsIn (pc := 1) (tgt := 96) C d_L_count_1 (by rw [q1]; decide) (by rw [q1]; decide) (by rw [q1]; rfl) rfl ?_
    refine u_aload_n (pc := 96) C d_L_count_96 rfl ?_
    refine u_getr (pc := 97) (r := 76) C d_L_count_97 fw_L_73 sC_83 rfl rfl ?_
    refine u_geti (pc := 100) C d_L_count_100 fw_L_108 sC_76 rfl ?_
    refine u_iret (pc := 103) C d_L_count_103 (hQ _ _ ⟨_, rfl, ?_⟩)
    subst e1
    refine ⟨?_, rfl⟩
    rw [sp_count, q1, if_neg (by decide), if_neg (by decide), if_neg (by decide), if_neg (by decide), if_pos rfl]
    exact hT
  · refine u_tsIn (pc := 1) (tgt := 104) C d_L_count_1 (by rw [q1]; decide) (by rw [q1]; decide) (by rw [q1]; rfl) rfl ?_
    refine u_aload_n (pc := 104) C d_L_count_104 rfl ?_
    refine u_getr (pc := 105) (r := (gp 0)) C d_L_count_105 fw_L_21 sC_83 rfl rfl ?_
    refine u_geti (pc := 108) C d_L_count_108 fw_L_305 (shG0 (by decide)) rfl ?_
    refine u_iret (pc := 111) C d_L_count_111 (hQ _ _ ⟨_, rfl, ?_⟩)
    subst e1
    refine ⟨?_, rfl⟩
    rw [sp_count, q1, if_neg (by decide), if_neg (by decide), if_neg (by decide), if_neg (by decide), if_neg (by decide), if_pos rfl]
    exact hR.2.2.2.2.2.2.2.2.2.1
  · refine u_tsIn (pc := 1) (tgt := 112) C d_L_count_1 (by rw [q1]; decide) (by rw [q1]; decide) (by rw [q1]; rfl) rfl ?_
    refine u_aload_n (pc := 112) C d_L_count_112 rfl ?_
    refine u_getr (pc := 113) (r := (gp 0)) C d_L_count_113 fw_L_21 sC_83 rfl rfl ?_
    refine u_geti (pc := 116) C d_L_count_116 fw_L_308 (shG0 (by decide)) rfl ?_
    refine u_iret (pc := 119) C d_L_count_119 (hQ _ _ ⟨_, rfl, ?_⟩)
    subst e1
    refine ⟨?_, rfl⟩
    rw [sp_count, q1, if_neg (by decide), if_neg (by decide), if_neg (by decide), if_neg (by decide), if_neg (by decide), if_neg (by decide), if_pos rfl]
    exact hR.2.2.2.2.2.2.2.2.2.2.2.1
  · refine u_tsIn (pc := 1) (tgt := 120) C d_L_count_1 (by rw [q1]; decide) (by rw [q1]; decide) (by rw [q1]; rfl) rfl ?_
    refine u_aload_n (pc := 120) C d_L_count_120 rfl ?_
    refine u_getr (pc := 121) (r := (gp 0)) C d_L_count_121 fw_L_21 sC_83 rfl rfl ?_
    refine u_geti (pc := 124) C d_L_count_124 fw_L_249 (shG0 (by decide)) rfl ?_
    refine u_iret (pc := 127) C d_L_count_127 (hQ _ _ ⟨_, rfl, ?_⟩)
    subst e1
    refine ⟨?_, rfl⟩
    rw [sp_count, q1, if_neg (by decide), if_neg (by decide), if_neg (by decide), if_neg (by decide), if_neg (by decide), if_neg (by decide), if_neg (by decide), if_pos rfl]
    exact hR.2.2.2.2.2.2.2.2.2.2.1
  · refine u_tsIn (pc := 1) (tgt := 128) C d_L_count_1 (by rw [q1]; decide) (by rw [q1]; decide) (by rw [q1]; rfl) rfl ?_
    refine u_aload_n (pc := 128) C d_L_count_128 rfl ?_
    refine u_getr (pc := 129) (r := (gp 0)) C d_L_count_129 fw_L_21 sC_83 rfl rfl ?_
    refine u_callVi (pc := 132) C d_L_count_132 mx_G_lostBits mw_L_311 (shG0 (by decide)) rfl (c_G_lostBits (by decide)) rfl rfl (Nat.le_of_ble_eq_true rfl) (fun r132 M132 q132 => ?_)
    obtain ⟨e132, q132⟩ := q132
    have q132 := q132.symm
    subst q132
    refine u_iret (pc := 135) C d_L_count_135 (hQ _ _ ⟨_, rfl, ?_⟩)
    subst e1
    refine ⟨?_, rfl⟩
    rw [sp_count, q1, if_neg (by decide), if_neg (by decide), if_neg (by decide), if_neg (by decide), if_neg (by decide), if_neg (by decide), if_neg (by decide), if_neg (by decide), if_pos rfl]
    rw [e132]
    exact hR.lb
  · refine u_tsOut (pc := 1) (tgt := 136) C d_L_count_1 q1 rfl ?_
    refine u_iconst (pc := 136) (v := (-1)) C d_L_count_136 (by decide) ?_
    refine u_iret (pc := 137) C d_L_count_137 (hQ _ _ ⟨_, rfl, ?_⟩)
    subst e1
    have z : ∀ k : Int32, (0 ≤ k.toInt ∧ k.toInt ≤ 8) → ¬ t1 = k := fun k hk q => by rw [q] at q1; rcases q1 with q1 | q1 <;> omega
    exact ⟨by rw [sp_count, if_neg (z 0 (by decide)), if_neg (z 1 (by decide)), if_neg (z 2 (by decide)), if_neg (z 3 (by decide)), if_neg (z 4 (by decide)), if_neg (z 5 (by decide)), if_neg (z 6 (by decide)), if_neg (z 7 (by decide)), if_neg (z 8 (by decide))], rfl⟩
def tellF (cd : Nat → Nat → Int32) (c : Nat) : Int32 := if famF (cd 0 c) = 1 then layF (cd 0 c) (cd 4 c) 10 20 else if famF (cd 0 c) = 2 then repF (cd 0 c) (cd 4 c) 10 else if famF (cd 0 c) = 3 then cd 4 c else cd 2 c * 4 + cd 3 c
def sp_tells (h f : Int32) (σ : St) : Int32 := if h < 0 then -1 else if 8 ≤ h then -1 else if f < 0 then -1 else if 4 < f then -1 else match σ.2.2.2.1 h.toNatClampNeg with | none => -11 | some c => if f = 0 then 100 + σ.1.1 0 c else if f = famF (σ.1.1 0 c) then 100 + tellF σ.1.1 c else -12
set_option maxRecDepth 20000 in
theorem c_L_tells {h f : Int32} {M : Mem} {σ : St} (hI : InvC M σ) : Ct lyC y_L_tells b_L_tells 6 (some .int) 3 [.ref 83, .int h, .int f] M (Pi fun r M' => r = sp_tells h f σ ∧ M' = M) := by
  obtain ⟨m, hm, hR⟩ := hI.R
  have hW := hI.1
  have hcd := hI.2.1
  have hn := hW.1.1
  have r8 := hR.2.2.2.2.2.2.1
  have hH := hI.2.2.2.2.2.1
  refine Ct.ofG mx_L_tells [some (.ref 83), some (.int h), some (.int f), none, none, none] rfl rfl (Nat.le_of_ble_eq_true rfl) (fun κ C hQ => ?_)
  refine u_iload_n (pc := 0) C d_L_tells_0 rfl ?_
  refine u_if_lt (pc := 1) (tgt := 19) C d_L_tells_1 rfl (fun c1 => ?_) (fun c1 => ?_)
  · refine u_iconst (pc := 19) (v := (-1)) C d_L_tells_19 (by decide) ?_
    refine u_iret (pc := 20) C d_L_tells_20 (hQ _ _ ⟨_, rfl, ?_⟩)
    exact ⟨by rw [sp_tells, if_pos c1], rfl⟩
  · refine u_iload_n (pc := 4) C d_L_tells_4 rfl ?_
    refine u_bipush (pc := 5) (v := 8) C d_L_tells_5 (by decide) ?_
    refine u_icmp_ge (pc := 7) (tgt := 19) C d_L_tells_7 rfl (fun c7 => ?_) (fun c7 => ?_)
    · refine u_iconst (pc := 19) (v := (-1)) C d_L_tells_19 (by decide) ?_
      refine u_iret (pc := 20) C d_L_tells_20 (hQ _ _ ⟨_, rfl, ?_⟩)
      exact ⟨by rw [sp_tells, if_neg c1, if_pos c7], rfl⟩
    · refine u_iload_n (pc := 10) C d_L_tells_10 rfl ?_
      refine u_if_lt (pc := 11) (tgt := 19) C d_L_tells_11 rfl (fun c11 => ?_) (fun c11 => ?_)
      · refine u_iconst (pc := 19) (v := (-1)) C d_L_tells_19 (by decide) ?_
        refine u_iret (pc := 20) C d_L_tells_20 (hQ _ _ ⟨_, rfl, ?_⟩)
        exact ⟨by rw [sp_tells, if_neg c1, if_neg c7, if_pos c11], rfl⟩
      · refine u_iload_n (pc := 14) C d_L_tells_14 rfl ?_
        refine u_iconst (pc := 15) (v := 4) C d_L_tells_15 (by decide) ?_
        refine u_icmp_le (pc := 16) (tgt := 21) C d_L_tells_16 rfl (fun c16 => ?_) (fun c16 => ?_)
        · refine u_aload_n (pc := 21) C d_L_tells_21 rfl ?_
          refine u_getr (pc := 22) (r := 82) C d_L_tells_22 fw_L_77 sC_83 rfl rfl ?_
          refine u_iload_n (pc := 25) C d_L_tells_25 rfl ?_
          refine u_callSi (pc := 26) C d_L_tells_26 mx_L_at mw_L_124 (c_L_at sC_82) rfl rfl (Nat.le_of_ble_eq_true rfl) (fun r26 M26 q26 => ?_)
          obtain ⟨e26, q26⟩ := q26
          have q26 := q26.symm
          subst q26
          refine u_istore_n (pc := 29) C d_L_tells_29 rfl (fun x29 e29 L9 hL9 => ?_)
          obtain rfl : L9 = [some (.ref 83), some (.int h), some (.int f), some (.int x29), none, none] := hL9.symm
          obtain ⟨j, hj, rfl⟩ := nI_of c1
          have hj8 : j < 8 := (nI_ltI (b := 8) hj (by decide)).mp (Int32.not_le.mp c7)
          rw [atF_in hj8 (by decide)] at e26
          have hj9 := hH j hj8
          refine u_aload_n (pc := 30) C d_L_tells_30 rfl ?_
          refine u_getr (pc := 31) (r := (gp 0)) C d_L_tells_31 fw_L_21 sC_83 rfl rfl ?_
          refine u_iload_n (pc := 34) C d_L_tells_34 rfl ?_
          refine u_callVi (pc := 35) C d_L_tells_35 mx_G_has mw_L_137 (shG0 (by decide)) rfl (c_G_has (by decide)) rfl rfl (Nat.le_of_ble_eq_true rfl) (fun r35 M35 q35 => ?_)
          obtain ⟨e35, q35⟩ := q35
          have q35 := q35.symm
          subst q35
          refine u_if_ne (pc := 38) (tgt := 44) C d_L_tells_38 rfl (fun c38 => ?_) (fun c38 => ?_)
          · rw [e35, r8] at c38
            obtain ⟨d, hh, hd, ex⟩ : ∃ d, σ.2.2.2.1 j = some d ∧ d < σ.1.2.1 ∧ x29 = nI d := by
              cases hq : σ.2.2.2.1 j with
              | none =>
                rw [hq] at hj9
                have : x29 = -1 ∨ x29 = -2 := by rw [e29, e26]; exact hj9
                rcases this with q | q
                · rw [q, hasF, if_pos (by decide)] at c38; exact absurd rfl c38
                · rw [q, hasF, if_pos (by decide)] at c38; exact absurd rfl c38
              | some d =>
                rw [hq] at hj9
                exact ⟨d, rfl, hj9.2, by rw [e29, e26]; exact hj9.1⟩
            have hd24 : d < 24 := by omega
            clear e35
            refine u_aload_n (pc := 44) C d_L_tells_44 rfl ?_
            refine u_getr (pc := 45) (r := 0) C d_L_tells_45 fw_L_10 sC_83 rfl rfl ?_
            refine u_getr (pc := 48) (r := 1) C d_L_tells_48 fw_L_140 sC_0 rfl rfl ?_
            refine u_iload_n (pc := 51) C d_L_tells_51 rfl ?_
            refine u_callSi (pc := 52) C d_L_tells_52 mx_L_at mw_L_124 (c_L_at sC_1) rfl rfl (Nat.le_of_ble_eq_true rfl) (fun r52 M52 q52 => ?_)
            obtain ⟨e52, q52⟩ := q52
            have q52 := q52.symm
            subst q52
            refine u_istore (pc := 55) C d_L_tells_55 rfl (fun x55 e55 L9 hL9 => ?_)
            obtain rfl : L9 = [some (.ref 83), some (.int (nI j)), some (.int f), some (.int x29), some (.int x55), none] := hL9.symm
            rw [ex, (at_cd hcd hd24).1] at e52
            refine u_iload_n (pc := 57) C d_L_tells_57 rfl ?_
            refine u_if_ne (pc := 58) (tgt := 67) C d_L_tells_58 rfl (fun c58 => ?_) (fun c58 => ?_)
            · refine u_iload_n (pc := 67) C d_L_tells_67 rfl ?_
              refine u_iload (pc := 68) C d_L_tells_68 rfl ?_
              refine u_callSi (pc := 70) C d_L_tells_70 mx_L_familyOf mw_L_193 (c_L_familyOf) rfl rfl (Nat.le_of_ble_eq_true rfl) (fun r70 M70 q70 => ?_)
              obtain ⟨e70, q70⟩ := q70
              have q70 := q70.symm
              subst q70
              refine u_icmp_eq (pc := 73) (tgt := 79) C d_L_tells_73 rfl (fun c73 => ?_) (fun c73 => ?_)
              · refine u_aload_n (pc := 79) C d_L_tells_79 rfl ?_
                refine u_getr (pc := 80) (r := 0) C d_L_tells_80 fw_L_10 sC_83 rfl rfl ?_
                refine u_getr (pc := 83) (r := 5) C d_L_tells_83 fw_L_148 sC_0 rfl rfl ?_
                refine u_iload_n (pc := 86) C d_L_tells_86 rfl ?_
                refine u_callSi (pc := 87) C d_L_tells_87 mx_L_at mw_L_124 (c_L_at sC_5) rfl rfl (Nat.le_of_ble_eq_true rfl) (fun r87 M87 q87 => ?_)
                obtain ⟨e87, q87⟩ := q87
                have q87 := q87.symm
                subst q87
                refine u_istore (pc := 90) C d_L_tells_90 rfl (fun x90 e90 L9 hL9 => ?_)
                obtain rfl : L9 = [some (.ref 83), some (.int (nI j)), some (.int f), some (.int x29), some (.int x55), some (.int x90)] := hL9.symm
                rw [ex, (at_cd hcd hd24).2.2.2.2] at e87
                rw [e70, e55, e52] at c73
                refine u_iload_n (pc := 92) C d_L_tells_92 rfl ?_
                refine u_top (fun t93 e93 => ?_)
                rcases sw_1_3 t93 with q93 | q93 | q93 | q93
                · refine u_tsIn (pc := 93) (tgt := 120) C d_L_tells_93 (by rw [q93]; decide) (by rw [q93]; decide) (by rw [q93]; rfl) rfl ?_
                  refine u_bipush (pc := 120) (v := 100) C d_L_tells_120 (by decide) ?_
                  refine u_iload (pc := 122) C d_L_tells_122 rfl ?_
                  refine u_iload (pc := 124) C d_L_tells_124 rfl ?_
                  refine u_bipush (pc := 126) (v := 10) C d_L_tells_126 (by decide) ?_
                  refine u_bipush (pc := 128) (v := 20) C d_L_tells_128 (by decide) ?_
                  refine u_callSi (pc := 130) C d_L_tells_130 mx_L_layered mw_L_296 (c_L_layered) rfl rfl (Nat.le_of_ble_eq_true rfl) (fun r130 M130 q130 => ?_)
                  obtain ⟨e130, q130⟩ := q130
                  have q130 := q130.symm
                  subst q130
                  refine u_iadd (pc := 133) C d_L_tells_133 ?_
                  refine u_iret (pc := 134) C d_L_tells_134 (hQ _ _ ⟨_, rfl, ?_⟩)
                  refine ⟨?_, rfl⟩
                  rw [sp_tells, if_neg c1, if_neg c7, if_neg c11, if_neg (Int32.not_lt.mpr c16), nI_clamp hj, hh]
                  dsimp only
                  rw [if_neg c58, if_pos c73, tellF, ← c73]
                  subst e93
                  rw [if_pos q93, e130, e55, e52, e90, e87]
                · refine u_tsIn (pc := 93) (tgt := 135) C d_L_tells_93 (by rw [q93]; decide) (by rw [q93]; decide) (by rw [q93]; rfl) rfl ?_
                  refine u_bipush (pc := 135) (v := 100) C d_L_tells_135 (by decide) ?_
                  refine u_iload (pc := 137) C d_L_tells_137 rfl ?_
                  refine u_iload (pc := 139) C d_L_tells_139 rfl ?_
                  refine u_bipush (pc := 141) (v := 10) C d_L_tells_141 (by decide) ?_
                  refine u_callSi (pc := 143) C d_L_tells_143 mx_L_replacedAmount mw_L_299 (c_L_replacedAmount) rfl rfl (Nat.le_of_ble_eq_true rfl) (fun r143 M143 q143 => ?_)
                  obtain ⟨e143, q143⟩ := q143
                  have q143 := q143.symm
                  subst q143
                  refine u_iadd (pc := 146) C d_L_tells_146 ?_
                  refine u_iret (pc := 147) C d_L_tells_147 (hQ _ _ ⟨_, rfl, ?_⟩)
                  refine ⟨?_, rfl⟩
                  rw [sp_tells, if_neg c1, if_neg c7, if_neg c11, if_neg (Int32.not_lt.mpr c16), nI_clamp hj, hh]
                  dsimp only
                  rw [if_neg c58, if_pos c73, tellF, ← c73]
                  subst e93
                  rw [if_neg (by rw [q93]; decide), if_pos q93, e143, e55, e52, e90, e87]
                · refine u_tsIn (pc := 93) (tgt := 148) C d_L_tells_93 (by rw [q93]; decide) (by rw [q93]; decide) (by rw [q93]; rfl) rfl ?_
                  refine u_bipush (pc := 148) (v := 100) C d_L_tells_148 (by decide) ?_
                  refine u_iload (pc := 150) C d_L_tells_150 rfl ?_
                  refine u_iadd (pc := 152) C d_L_tells_152 ?_
                  refine u_iret (pc := 153) C d_L_tells_153 (hQ _ _ ⟨_, rfl, ?_⟩)
                  refine ⟨?_, rfl⟩
                  rw [sp_tells, if_neg c1, if_neg c7, if_neg c11, if_neg (Int32.not_lt.mpr c16), nI_clamp hj, hh]
                  dsimp only
                  rw [if_neg c58, if_pos c73, tellF, ← c73]
                  subst e93
                  rw [if_neg (by rw [q93]; decide), if_neg (by rw [q93]; decide), if_pos q93, e90, e87]
                · refine u_tsOut (pc := 93) (tgt := 154) C d_L_tells_93 q93 rfl ?_
                  refine u_bipush (pc := 154) (v := 100) C d_L_tells_154 (by decide) ?_
                  refine u_aload_n (pc := 156) C d_L_tells_156 rfl ?_
                  refine u_getr (pc := 157) (r := 0) C d_L_tells_157 fw_L_10 sC_83 rfl rfl ?_
                  refine u_getr (pc := 160) (r := 3) C d_L_tells_160 fw_L_142 sC_0 rfl rfl ?_
                  refine u_iload_n (pc := 163) C d_L_tells_163 rfl ?_
                  refine u_callSi (pc := 164) C d_L_tells_164 mx_L_at mw_L_124 (c_L_at sC_3) rfl rfl (Nat.le_of_ble_eq_true rfl) (fun r164 M164 q164 => ?_)
                  obtain ⟨e164, q164⟩ := q164
                  have q164 := q164.symm
                  subst q164
                  refine u_iconst (pc := 167) (v := 4) C d_L_tells_167 (by decide) ?_
                  refine u_imul (pc := 168) C d_L_tells_168 ?_
                  refine u_iadd (pc := 169) C d_L_tells_169 ?_
                  refine u_aload_n (pc := 170) C d_L_tells_170 rfl ?_
                  refine u_getr (pc := 171) (r := 0) C d_L_tells_171 fw_L_10 sC_83 rfl rfl ?_
                  refine u_getr (pc := 174) (r := 4) C d_L_tells_174 fw_L_145 sC_0 rfl rfl ?_
                  refine u_iload_n (pc := 177) C d_L_tells_177 rfl ?_
                  refine u_callSi (pc := 178) C d_L_tells_178 mx_L_at mw_L_124 (c_L_at sC_4) rfl rfl (Nat.le_of_ble_eq_true rfl) (fun r178 M178 q178 => ?_)
                  obtain ⟨e178, q178⟩ := q178
                  have q178 := q178.symm
                  subst q178
                  refine u_iadd (pc := 181) C d_L_tells_181 ?_
                  refine u_iret (pc := 182) C d_L_tells_182 (hQ _ _ ⟨_, rfl, ?_⟩)
                  refine ⟨?_, rfl⟩
                  rw [sp_tells, if_neg c1, if_neg c7, if_neg c11, if_neg (Int32.not_lt.mpr c16), nI_clamp hj, hh]
                  dsimp only
                  rw [if_neg c58, if_pos c73, tellF, ← c73]
                  subst e93
                  have z : ∀ k : Int32, (1 ≤ k.toInt ∧ k.toInt ≤ 3) → ¬ t93 = k := fun k hk q => by rw [q] at q93; rcases q93 with q93 | q93 <;> omega
                  rw [if_neg (z 1 (by decide)), if_neg (z 2 (by decide)), if_neg (z 3 (by decide)), e164, e178, ex, (at_cd hcd hd24).2.2.1, (at_cd hcd hd24).2.2.2.1, Int32.add_assoc]
              · refine u_bipush (pc := 76) (v := (-12)) C d_L_tells_76 (by decide) ?_
                refine u_iret (pc := 78) C d_L_tells_78 (hQ _ _ ⟨_, rfl, ?_⟩)
                rw [e70, e55, e52] at c73
                refine ⟨?_, rfl⟩
                rw [sp_tells, if_neg c1, if_neg c7, if_neg c11, if_neg (Int32.not_lt.mpr c16), nI_clamp hj, hh]
                dsimp only
                rw [if_neg c58, if_neg c73]
            · refine u_bipush (pc := 61) (v := 100) C d_L_tells_61 (by decide) ?_
              refine u_iload (pc := 63) C d_L_tells_63 rfl ?_
              refine u_iadd (pc := 65) C d_L_tells_65 ?_
              refine u_iret (pc := 66) C d_L_tells_66 (hQ _ _ ⟨_, rfl, ?_⟩)
              refine ⟨?_, rfl⟩
              rw [sp_tells, if_neg c1, if_neg c7, if_neg c11, if_neg (Int32.not_lt.mpr c16), nI_clamp hj, hh]
              dsimp only
              rw [if_pos c58, e55, e52]
          · refine u_bipush (pc := 41) (v := (-11)) C d_L_tells_41 (by decide) ?_
            refine u_iret (pc := 43) C d_L_tells_43 (hQ _ _ ⟨_, rfl, ?_⟩)
            rw [e35, r8] at c38
            have hh : σ.2.2.2.1 j = none := by
              cases hq : σ.2.2.2.1 j with
              | none => rfl
              | some d =>
                rw [hq] at hj9
                exfalso
                rw [e29, e26, hj9.1] at c38
                have h1 := hasF_is.mp c38
                exact h1 ⟨nI_pos (by omega), nI_ge hj9.2 (by omega)⟩
            refine ⟨?_, rfl⟩
            rw [sp_tells, if_neg c1, if_neg c7, if_neg c11, if_neg (Int32.not_lt.mpr c16), nI_clamp hj, hh]
        · refine u_iconst (pc := 19) (v := (-1)) C d_L_tells_19 (by decide) ?_
          refine u_iret (pc := 20) C d_L_tells_20 (hQ _ _ ⟨_, rfl, ?_⟩)
          exact ⟨by rw [sp_tells, if_neg c1, if_neg c7, if_neg c11, if_pos (Int32.not_le.mp c16)], rfl⟩
