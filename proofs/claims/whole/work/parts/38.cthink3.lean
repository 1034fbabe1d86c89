/-! the class's calls that think of every card -/
/-- how a game runs otherwise without a card -/
def oth (cd : Nat → Nat → Int32) (n : Nat) (s : Gm × List Nat) (c : Nat) : Prop :=
  ¬ ((runR cd n (put4 s.1 c, s.2.erase c)).2.1 = (runR cd n s).2.1 ∧ (runG cd n (put4 s.1 c, s.2.erase c)).1 0 0 = (runG cd n s).1 0 0 ∧ (runG cd n (put4 s.1 c, s.2.erase c)).1 0 1 = (runG cd n s).1 0 1)
noncomputable def mtt (cd : Nat → Nat → Int32) (n : Nat) (s : Gm × List Nat) : Nat → Int32
  | 0 => 0
  | c + 1 => @ite _ (s.1 3 c = 3 ∧ oth cd n s c) (Classical.propDecidable _) (mtt cd n s c ||| ((1 : Int32) <<< (nI c &&& 31))) (mtt cd n s c)
noncomputable def bst (cd : Nat → Nat → Int32) (n : Nat) (s : Gm × List Nat) (p : Int32) : Nat → Int32 × Int32
  | 0 => (wor (runG cd n s).1 p, -2)
  | c + 1 => if cd 1 c = p ∧ s.1 3 c = 1 ∧ (bst cd n s p c).1 < wpl cd n s c then (wpl cd n s c, nI c) else bst cd n s p c
noncomputable def sp_matter  (σ : St) : Int32 := mtt σ.1.1 σ.1.2.1 (σ.1.2.2.1, σ.1.2.2.2) σ.1.2.1
set_option maxRecDepth 20000 in
theorem lp_matter {κ : KX} {σ : St} {e l0 l1 : Int32} (he : e = (runR σ.1.1 σ.1.2.1 (σ.1.2.2.1, σ.1.2.2.2)).2.1) (h0 : l0 = (runG σ.1.1 σ.1.2.1 (σ.1.2.2.1, σ.1.2.2.2)).1 0 0) (h1 : l1 = (runG σ.1.1 σ.1.2.1 (σ.1.2.2.1, σ.1.2.2.2)).1 0 1) (C : Cx κ lyC y_L_matter.cls b_L_matter 6 (some .int) 7) (hQ : ∀ v M', Pi (fun r M' => r = mtt σ.1.1 σ.1.2.1 (σ.1.2.2.1, σ.1.2.2.2) σ.1.2.1 ∧ InvC M' σ) v M' → KQ κ v M') : ∀ (f i : Nat) (x : Int32) (M : Mem), i ≤ σ.1.2.1 → σ.1.2.1 - i < f → InvC M σ → x = mtt σ.1.1 σ.1.2.1 (σ.1.2.2.1, σ.1.2.2.2) i → G κ lyC 64 [some (.ref 83), some (.int e), some (.int l0), some (.int l1), some (.int x), some (.int (nI i))] [] M := by
  intro f
  induction f with
  | zero => intro i x M hi h; omega
  | succ f ih =>
    intro i x M hi hf hI hx
    obtain ⟨m, hm, hR⟩ := hI.R
    have hW := hI.1
    have hn := hW.1.1
    have r8 := hR.2.2.2.2.2.2.1
    have hin : nI σ.1.2.1 ≤ nI i ↔ σ.1.2.1 ≤ i := nI_leI (by omega) (by omega)
    refine u_iload (pc := 64) C d_L_matter_64 rfl ?_
    refine u_aload_n (pc := 66) C d_L_matter_66 rfl ?_
    refine u_getr (pc := 67) (r := (gp 0)) C d_L_matter_67 fw_L_21 sC_83 rfl rfl ?_
    refine u_geti (pc := 70) C d_L_matter_70 fw_L_98 (shG0 (by decide)) rfl ?_
    refine u_icmp_ge (pc := 73) (tgt := 157) C d_L_matter_73 rfl (fun c73 => ?_) (fun c73 => ?_)
    · refine u_iload (pc := 157) C d_L_matter_157 rfl ?_
      refine u_iret (pc := 159) C d_L_matter_159 (hQ _ _ ⟨_, rfl, ?_⟩)
      have hi2 : i = σ.1.2.1 := by rw [r8, hin] at c73; omega
      subst hi2
      exact ⟨hx, hI⟩
    · have hlt : i < σ.1.2.1 := by rw [r8, hin] at c73; omega
      refine u_aload_n (pc := 76) C d_L_matter_76 rfl ?_
      refine u_getr (pc := 77) (r := (gp 0)) C d_L_matter_77 fw_L_21 sC_83 rfl rfl ?_
      refine u_getr (pc := 80) (r := (gp 0 + 3)) C d_L_matter_80 fw_L_149 (shG0 (by decide)) rfl rfl ?_
      refine u_iload (pc := 83) C d_L_matter_83 rfl ?_
      refine u_callSi (pc := 85) C d_L_matter_85 mx_L_at mw_L_124 (c_L_at (shG3 (by decide))) rfl rfl (Nat.le_of_ble_eq_true rfl) (fun r85 M85 q85 => ?_)
      obtain ⟨e85, q85⟩ := q85
      have q85 := q85.symm
      subst q85
      rw [atF_in (by omega) (by decide), hR.2.2.1 i (by omega)] at e85
      subst e85
      refine u_iconst (pc := 88) (v := 3) C d_L_matter_88 (by decide) ?_
      refine u_icmp_eq (pc := 89) (tgt := 95) C d_L_matter_89 rfl (fun c89 => ?_) (fun c89 => ?_)
      · refine u_aload_n (pc := 95) C d_L_matter_95 rfl ?_
        refine u_iload (pc := 96) C d_L_matter_96 rfl ?_
        refine u_callVv (pc := 98) C d_L_matter_98 mx_L_runWithout mw_L_269 sC_83 rfl (c_L_runWithout hI hlt c89) rfl rfl (Nat.le_of_ble_eq_true rfl) (fun M98 q98 => ?_)
        obtain ⟨t2, m3, kx2, kR2, kI2⟩ := q98
        have hot : oth σ.1.1 σ.1.2.1 (σ.1.2.2.1, σ.1.2.2.2) i ↔ ¬ (M98.1 75 4 = e ∧ M98.1 (gp 2 + 1) 0 = l0 ∧ M98.1 (gp 2 + 1) 1 = l1) := by
          unfold oth
          rw [he, h0, h1, kR2.1.1, kR2.1.2]
          show ¬ ((runR σ.1.1 σ.1.2.1 (put4 σ.1.2.2.1 i, σ.1.2.2.2.erase i)).2.1 = _ ∧ (runG σ.1.1 σ.1.2.1 (put4 σ.1.2.2.1 i, σ.1.2.2.2.erase i)).1 0 0 = _ ∧ (runG σ.1.1 σ.1.2.1 (put4 σ.1.2.2.1 i, σ.1.2.2.2.erase i)).1 0 1 = _) ↔ _
          rw [show runG σ.1.1 σ.1.2.1 (put4 σ.1.2.2.1 i, σ.1.2.2.2.erase i) = runS σ.1.1 σ.1.2.1 (put4 σ.1.2.2.1 i, σ.1.2.2.2.erase i) t2 by rw [runG, kx2], kx2]
        refine u_aload_n (pc := 101) C d_L_matter_101 rfl ?_
        refine u_getr (pc := 102) (r := 75) C d_L_matter_102 fw_L_42 sC_83 rfl rfl ?_
        refine u_geti (pc := 105) C d_L_matter_105 fw_L_230 sC_75 rfl ?_
        refine u_iload_n (pc := 108) C d_L_matter_108 rfl ?_
        refine u_icmp_ne (pc := 109) (tgt := 142) C d_L_matter_109 rfl (fun c109 => ?_) (fun c109 => ?_)
        · refine u_iload (pc := 142) C d_L_matter_142 rfl ?_
          refine u_iconst (pc := 144) (v := 1) C d_L_matter_144 (by decide) ?_
          refine u_iload (pc := 145) C d_L_matter_145 rfl ?_
          refine u_ishl (pc := 147) C d_L_matter_147 ?_
          refine u_ior (pc := 148) C d_L_matter_148 ?_
          refine u_istore (pc := 149) C d_L_matter_149 rfl (fun x149 e149 L9 hL9 => ?_)
          obtain rfl : L9 = [some (.ref 83), some (.int e), some (.int l0), some (.int l1), some (.int x149), some (.int (nI i))] := hL9.symm
          refine u_iinc (pc := 151) (v2 := 1) C d_L_matter_151 rfl rfl (by decide) (fun x151 e151 L9 hL9 => ?_)
          obtain rfl : L9 = [some (.ref 83), some (.int e), some (.int l0), some (.int l1), some (.int x149), some (.int x151)] := hL9.symm
          refine u_goto (pc := 154) (tgt := 64) C d_L_matter_154 rfl ?_
          obtain rfl : x151 = nI (i + 1) := by rw [e151, nI_succ]
          have hd : oth σ.1.1 σ.1.2.1 (σ.1.2.2.1, σ.1.2.2.2) i := by
            rw [hot]
            intro z
            obtain ⟨z1, z2, z3⟩ := z
            exact c109 z1
          refine ih (i + 1) _ _ (by omega) (by omega) kI2 ?_
          rw [e149, hx, mtt, if_pos ⟨c89, hd⟩]
        · refine u_aload_n (pc := 112) C d_L_matter_112 rfl ?_
          refine u_getr (pc := 113) (r := (gp 2)) C d_L_matter_113 fw_L_32 sC_83 rfl rfl ?_
          refine u_getr (pc := 116) (r := (gp 2 + 1)) C d_L_matter_116 fw_L_167 (shG0 (by decide)) rfl rfl ?_
          refine u_iconst (pc := 119) (v := 0) C d_L_matter_119 (by decide) ?_
          refine u_callSi (pc := 120) C d_L_matter_120 mx_L_at mw_L_124 (c_L_at (shG1 (by decide))) rfl rfl (Nat.le_of_ble_eq_true rfl) (fun r120 M120 q120 => ?_)
          obtain ⟨e120, q120⟩ := q120
          have q120 := q120.symm
          subst q120
          refine u_iload_n (pc := 123) C d_L_matter_123 rfl ?_
          refine u_icmp_ne (pc := 124) (tgt := 142) C d_L_matter_124 rfl (fun c124 => ?_) (fun c124 => ?_)
          · refine u_iload (pc := 142) C d_L_matter_142 rfl ?_
            refine u_iconst (pc := 144) (v := 1) C d_L_matter_144 (by decide) ?_
            refine u_iload (pc := 145) C d_L_matter_145 rfl ?_
            refine u_ishl (pc := 147) C d_L_matter_147 ?_
            refine u_ior (pc := 148) C d_L_matter_148 ?_
            refine u_istore (pc := 149) C d_L_matter_149 rfl (fun x149 e149 L9 hL9 => ?_)
            obtain rfl : L9 = [some (.ref 83), some (.int e), some (.int l0), some (.int l1), some (.int x149), some (.int (nI i))] := hL9.symm
            refine u_iinc (pc := 151) (v2 := 1) C d_L_matter_151 rfl rfl (by decide) (fun x151 e151 L9 hL9 => ?_)
            obtain rfl : L9 = [some (.ref 83), some (.int e), some (.int l0), some (.int l1), some (.int x149), some (.int x151)] := hL9.symm
            refine u_goto (pc := 154) (tgt := 64) C d_L_matter_154 rfl ?_
            obtain rfl : x151 = nI (i + 1) := by rw [e151, nI_succ]
            have hd : oth σ.1.1 σ.1.2.1 (σ.1.2.2.1, σ.1.2.2.2) i := by
              rw [hot]
              intro z
              obtain ⟨z1, z2, z3⟩ := z
              rw [e120, show (0 : Int32) = nI 0 from rfl, atF_in (by decide) (by decide)] at c124
              exact c124 z2
            refine ih (i + 1) _ _ (by omega) (by omega) kI2 ?_
            rw [e149, hx, mtt, if_pos ⟨c89, hd⟩]
          · refine u_aload_n (pc := 127) C d_L_matter_127 rfl ?_
            refine u_getr (pc := 128) (r := (gp 2)) C d_L_matter_128 fw_L_32 sC_83 rfl rfl ?_
            refine u_getr (pc := 131) (r := (gp 2 + 1)) C d_L_matter_131 fw_L_167 (shG0 (by decide)) rfl rfl ?_
            refine u_iconst (pc := 134) (v := 1) C d_L_matter_134 (by decide) ?_
            refine u_callSi (pc := 135) C d_L_matter_135 mx_L_at mw_L_124 (c_L_at (shG1 (by decide))) rfl rfl (Nat.le_of_ble_eq_true rfl) (fun r135 M135 q135 => ?_)
            obtain ⟨e135, q135⟩ := q135
            have q135 := q135.symm
            subst q135
            refine u_iload_n (pc := 138) C d_L_matter_138 rfl ?_
            refine u_icmp_eq (pc := 139) (tgt := 151) C d_L_matter_139 rfl (fun c139 => ?_) (fun c139 => ?_)
            · refine u_iinc (pc := 151) (v2 := 1) C d_L_matter_151 rfl rfl (by decide) (fun x151 e151 L9 hL9 => ?_)
              obtain rfl : L9 = [some (.ref 83), some (.int e), some (.int l0), some (.int l1), some (.int x), some (.int x151)] := hL9.symm
              refine u_goto (pc := 154) (tgt := 64) C d_L_matter_154 rfl ?_
              obtain rfl : x151 = nI (i + 1) := by rw [e151, nI_succ]
              have hd : ¬ oth σ.1.1 σ.1.2.1 (σ.1.2.2.1, σ.1.2.2.2) i := by
                rw [hot]
                rw [e120, show (0 : Int32) = nI 0 from rfl, atF_in (by decide) (by decide)] at c124
                rw [e135, show (1 : Int32) = nI 1 from rfl, atF_in (by decide) (by decide)] at c139
                exact fun z => z ⟨c109, c124, c139⟩
              refine ih (i + 1) x _ (by omega) (by omega) kI2 ?_
              rw [hx, mtt, if_neg (fun z => hd z.2)]
            · refine u_iload (pc := 142) C d_L_matter_142 rfl ?_
              refine u_iconst (pc := 144) (v := 1) C d_L_matter_144 (by decide) ?_
              refine u_iload (pc := 145) C d_L_matter_145 rfl ?_
              refine u_ishl (pc := 147) C d_L_matter_147 ?_
              refine u_ior (pc := 148) C d_L_matter_148 ?_
              refine u_istore (pc := 149) C d_L_matter_149 rfl (fun x149 e149 L9 hL9 => ?_)
              obtain rfl : L9 = [some (.ref 83), some (.int e), some (.int l0), some (.int l1), some (.int x149), some (.int (nI i))] := hL9.symm
              refine u_iinc (pc := 151) (v2 := 1) C d_L_matter_151 rfl rfl (by decide) (fun x151 e151 L9 hL9 => ?_)
              obtain rfl : L9 = [some (.ref 83), some (.int e), some (.int l0), some (.int l1), some (.int x149), some (.int x151)] := hL9.symm
              refine u_goto (pc := 154) (tgt := 64) C d_L_matter_154 rfl ?_
              obtain rfl : x151 = nI (i + 1) := by rw [e151, nI_succ]
              have hd : oth σ.1.1 σ.1.2.1 (σ.1.2.2.1, σ.1.2.2.2) i := by
                rw [hot]
                intro z
                obtain ⟨z1, z2, z3⟩ := z
                rw [e135, show (1 : Int32) = nI 1 from rfl, atF_in (by decide) (by decide)] at c139
                exact c139 z3
              refine ih (i + 1) _ _ (by omega) (by omega) kI2 ?_
              rw [e149, hx, mtt, if_pos ⟨c89, hd⟩]
      · refine u_goto (pc := 92) (tgt := 151) C d_L_matter_92 rfl ?_
        refine u_iinc (pc := 151) (v2 := 1) C d_L_matter_151 rfl rfl (by decide) (fun x151 e151 L9 hL9 => ?_)
        obtain rfl : L9 = [some (.ref 83), some (.int e), some (.int l0), some (.int l1), some (.int x), some (.int x151)] := hL9.symm
        refine u_goto (pc := 154) (tgt := 64) C d_L_matter_154 rfl ?_
        obtain rfl : x151 = nI (i + 1) := by rw [e151, nI_succ]
        refine ih (i + 1) x _ (by omega) (by omega) hI ?_
        rw [hx, mtt, if_neg (fun z => c89 z.1)]
set_option maxRecDepth 20000 in
theorem c_L_matter  {M : Mem} {σ : St} (hI : InvC M σ) : Ct lyC y_L_matter b_L_matter 6 (some .int) 7 [.ref 83] M (Pi fun r M' => r = sp_matter σ ∧ InvC M' σ) := by
  obtain ⟨m, hm, hR⟩ := hI.R
  have hW := hI.1
  have hcd := hI.2.1
  have hn := hW.1.1
  have r8 := hR.2.2.2.2.2.2.1
  obtain ⟨h, h64, hh⟩ := hW.hb
  obtain ⟨htl, hbn, hb24⟩ := hW.tl
  obtain ⟨th1, ev1, hL1⟩ := hI.2.2.2.2.2.2.2.2
  have hh64 : (σ.1.2.2.1 1 4).toNatClampNeg ≤ 64 := by rw [hh, nI_clamp (by omega)]; exact h64
  refine Ct.ofG mx_L_matter [some (.ref 83), none, none, none, none, none] rfl rfl (Nat.le_of_ble_eq_true rfl) (fun κ C hQ => ?_)
  refine u_aload_n (pc := 0) C d_L_matter_0 rfl ?_
  refine u_getr (pc := 1) (r := (gp 2)) C d_L_matter_1 fw_L_32 sC_83 rfl rfl ?_
  refine u_aload_n (pc := 4) C d_L_matter_4 rfl ?_
  refine u_getr (pc := 5) (r := (gp 0)) C d_L_matter_5 fw_L_21 sC_83 rfl rfl ?_
  refine u_callVv (pc := 8) C d_L_matter_8 mx_G_copyFrom mw_L_252 (shG0 (by decide)) rfl (c_G_copyFrom (k := 2) (k2 := 0) (by decide) (by decide) (by decide) hR htl hb24 hh64) rfl rfl (Nat.le_of_ble_eq_true rfl) (fun M8 q8 => ?_)
  obtain ⟨tR, tO⟩ := q8
  have tL := hL1.off tO (fun p q => g_l (by decide) q)
  have tcd := hcd.off tO (fun p h1 h2 => blk_cd h1 h2)
  have tI := hI.scr (tO.mono (fun p q => blk_scr (k := 2) (by decide) (by decide) q)) ⟨_, _, tL⟩
  refine u_aload_n (pc := 11) C d_L_matter_11 rfl ?_
  refine u_getr (pc := 12) (r := 75) C d_L_matter_12 fw_L_42 sC_83 rfl rfl ?_
  refine u_aload_n (pc := 15) C d_L_matter_15 rfl ?_
  refine u_getr (pc := 16) (r := (gp 2)) C d_L_matter_16 fw_L_32 sC_83 rfl rfl ?_
  refine u_aload_n (pc := 19) C d_L_matter_19 rfl ?_
  refine u_getr (pc := 20) (r := (op 1)) C d_L_matter_20 fw_L_67 sC_83 rfl rfl ?_
  refine u_callVv (pc := 23) C d_L_matter_23 mx_R_runPile mw_L_227 sC_75 rfl (c_R_runPile (k := 2) (b := 1) (by decide) (by decide) hW tcd tR hm tL) rfl rfl (Nat.le_of_ble_eq_true rfl) (fun M23 q23 => ?_)
  obtain ⟨t, m2, t200, kRun, k7, kR, kM, kW, kL, kO⟩ := q23
  have kx := runR_eq kRun
  have kI := tI.scr (kO.mono (fun p q => run_scr (k := 2) (by decide) (by decide) q)) ⟨_, _, kL⟩
  refine u_aload_n (pc := 26) C d_L_matter_26 rfl ?_
  refine u_getr (pc := 27) (r := 75) C d_L_matter_27 fw_L_42 sC_83 rfl rfl ?_
  refine u_geti (pc := 30) C d_L_matter_30 fw_L_230 sC_75 rfl ?_
  refine u_istore_n (pc := 33) C d_L_matter_33 rfl (fun x33 e33 L9 hL9 => ?_)
  obtain rfl : L9 = [some (.ref 83), some (.int x33), none, none, none, none] := hL9.symm
  refine u_aload_n (pc := 34) C d_L_matter_34 rfl ?_
  refine u_getr (pc := 35) (r := (gp 2)) C d_L_matter_35 fw_L_32 sC_83 rfl rfl ?_
  refine u_getr (pc := 38) (r := (gp 2 + 1)) C d_L_matter_38 fw_L_167 (shG0 (by decide)) rfl rfl ?_
  refine u_iconst (pc := 41) (v := 0) C d_L_matter_41 (by decide) ?_
  refine u_callSi (pc := 42) C d_L_matter_42 mx_L_at mw_L_124 (c_L_at (shG1 (by decide))) rfl rfl (Nat.le_of_ble_eq_true rfl) (fun r42 M42 q42 => ?_)
  obtain ⟨e42, q42⟩ := q42
  have q42 := q42.symm
  subst q42
  refine u_istore_n (pc := 45) C d_L_matter_45 rfl (fun x45 e45 L9 hL9 => ?_)
  obtain rfl : L9 = [some (.ref 83), some (.int x33), some (.int x45), none, none, none] := hL9.symm
  refine u_aload_n (pc := 46) C d_L_matter_46 rfl ?_
  refine u_getr (pc := 47) (r := (gp 2)) C d_L_matter_47 fw_L_32 sC_83 rfl rfl ?_
  refine u_getr (pc := 50) (r := (gp 2 + 1)) C d_L_matter_50 fw_L_167 (shG0 (by decide)) rfl rfl ?_
  refine u_iconst (pc := 53) (v := 1) C d_L_matter_53 (by decide) ?_
  refine u_callSi (pc := 54) C d_L_matter_54 mx_L_at mw_L_124 (c_L_at (shG1 (by decide))) rfl rfl (Nat.le_of_ble_eq_true rfl) (fun r54 M54 q54 => ?_)
  obtain ⟨e54, q54⟩ := q54
  have q54 := q54.symm
  subst q54
  refine u_istore_n (pc := 57) C d_L_matter_57 rfl (fun x57 e57 L9 hL9 => ?_)
  obtain rfl : L9 = [some (.ref 83), some (.int x33), some (.int x45), some (.int x57), none, none] := hL9.symm
  refine u_iconst (pc := 58) (v := 0) C d_L_matter_58 (by decide) ?_
  refine u_istore (pc := 59) C d_L_matter_59 rfl (fun x59 e59 L9 hL9 => ?_)
  obtain rfl : L9 = [some (.ref 83), some (.int x33), some (.int x45), some (.int x57), some (.int x59), none] := hL9.symm
  refine u_iconst (pc := 61) (v := 0) C d_L_matter_61 (by decide) ?_
  refine u_istore (pc := 62) C d_L_matter_62 rfl (fun x62 e62 L9 hL9 => ?_)
  obtain rfl : L9 = [some (.ref 83), some (.int x33), some (.int x45), some (.int x57), some (.int x59), some (.int x62)] := hL9.symm
  subst e62 e59 e33
  have h2 : (runG σ.1.1 σ.1.2.1 (σ.1.2.2.1, σ.1.2.2.2)).1 = (runS σ.1.1 σ.1.2.1 (σ.1.2.2.1, σ.1.2.2.2) t).1 := by rw [runG, kx]
  refine lp_matter (e := M23.1 75 4) (l0 := x45) (l1 := x57) (by rw [kx]) (by rw [h2, e45, e42, kR.life (Or.inl rfl)]; rfl) (by rw [h2, e57, e54, kR.life (Or.inr rfl)]; rfl) C hQ (σ.1.2.1 + 1) 0 0 M23 (by omega) (by omega) kI rfl
noncomputable def sp_best (p w : Int32) (σ : St) : Int32 := if p = 0 ∨ p = 1 then (if w < 0 then -2000000000 else if w ≤ 1 then (if w = 0 then (bst σ.1.1 σ.1.2.1 (σ.1.2.2.1, σ.1.2.2.2) p (if σ.1.2.2.1 1 4 < 64 then σ.1.2.1 else 0)).2 else (bst σ.1.1 σ.1.2.1 (σ.1.2.2.1, σ.1.2.2.2) p (if σ.1.2.2.1 1 4 < 64 then σ.1.2.1 else 0)).1) else -2000000000) else -2000000000
set_option maxRecDepth 20000 in
theorem lp_best {κ : KX} {σ : St} {p w : Int32} (C : Cx κ lyC y_L_best.cls b_L_best 7 (some .int) 8) (hQ : ∀ v M', Pi (fun r M' => r = (if w = 0 then (bst σ.1.1 σ.1.2.1 (σ.1.2.2.1, σ.1.2.2.2) p (if σ.1.2.2.1 1 4 < 64 then σ.1.2.1 else 0)).2 else (bst σ.1.1 σ.1.2.1 (σ.1.2.2.1, σ.1.2.2.2) p (if σ.1.2.2.1 1 4 < 64 then σ.1.2.1 else 0)).1) ∧ InvC M' σ) v M' → KQ κ v M') : ∀ (f i : Nat) (x y : Int32) (M : Mem), i ≤ σ.1.2.1 → σ.1.2.1 - i < f → InvC M σ → x = (bst σ.1.1 σ.1.2.1 (σ.1.2.2.1, σ.1.2.2.2) p i).1 → y = (bst σ.1.1 σ.1.2.1 (σ.1.2.2.1, σ.1.2.2.2) p i).2 → (0 < i → σ.1.2.2.1 1 4 < 64) → G κ lyC 61 [some (.ref 83), some (.int p), some (.int w), some (.int x), some (.int y), some (.int (nI i)), none] [] M := by
  intro f
  induction f with
  | zero => intro i x y M hi h; omega
  | succ f ih =>
    intro i x y M hi hf hI hx hy hi6
    obtain ⟨m, hm, hR⟩ := hI.R
    have hW := hI.1
    have hcd := hI.2.1
    have hn := hW.1.1
    have r8 := hR.2.2.2.2.2.2.1
    have r10 : M.1 (gp 0) 9 = σ.1.2.2.1 1 4 := hR.2.2.2.2.2.2.2.2.1
    have hin : nI σ.1.2.1 ≤ nI i ↔ σ.1.2.1 ≤ i := nI_leI (by omega) (by omega)
    refine u_iload (pc := 61) C d_L_best_61 rfl ?_
    refine u_aload_n (pc := 63) C d_L_best_63 rfl ?_
    refine u_getr (pc := 64) (r := (gp 0)) C d_L_best_64 fw_L_21 sC_83 rfl rfl ?_
    refine u_geti (pc := 67) C d_L_best_67 fw_L_98 (shG0 (by decide)) rfl ?_
    refine u_icmp_ge (pc := 70) (tgt := 147) C d_L_best_70 rfl (fun c70 => ?_) (fun c70 => ?_)
    · refine u_iload_n (pc := 147) C d_L_best_147 rfl ?_
      refine u_if_ne (pc := 148) (tgt := 156) C d_L_best_148 rfl (fun c148 => ?_) (fun c148 => ?_)
      · refine u_iload_n (pc := 156) C d_L_best_156 rfl ?_
        refine u_iret (pc := 157) C d_L_best_157 (hQ _ _ ⟨_, rfl, ?_⟩)
        have hi2 : i = σ.1.2.1 := by rw [r8, hin] at c70; omega
        have e9 : (if σ.1.2.2.1 1 4 < 64 then σ.1.2.1 else 0) = i := by
          by_cases z : σ.1.2.2.1 1 4 < 64
          · rw [if_pos z, hi2]
          · rw [if_neg z]
            rcases Nat.eq_zero_or_pos i with q | q
            · exact q.symm
            · exact absurd (hi6 q) z
        rw [e9, ← hx, ← hy]
        first | rw [if_pos c148] | rw [if_neg c148]
        exact ⟨rfl, hI⟩
      · refine u_iload (pc := 151) C d_L_best_151 rfl ?_
        refine u_goto (pc := 153) (tgt := 157) C d_L_best_153 rfl ?_
        refine u_iret (pc := 157) C d_L_best_157 (hQ _ _ ⟨_, rfl, ?_⟩)
        have hi2 : i = σ.1.2.1 := by rw [r8, hin] at c70; omega
        have e9 : (if σ.1.2.2.1 1 4 < 64 then σ.1.2.1 else 0) = i := by
          by_cases z : σ.1.2.2.1 1 4 < 64
          · rw [if_pos z, hi2]
          · rw [if_neg z]
            rcases Nat.eq_zero_or_pos i with q | q
            · exact q.symm
            · exact absurd (hi6 q) z
        rw [e9, ← hx, ← hy]
        first | rw [if_pos c148] | rw [if_neg c148]
        exact ⟨rfl, hI⟩
    · have hlt : i < σ.1.2.1 := by rw [r8, hin] at c70; omega
      refine u_aload_n (pc := 73) C d_L_best_73 rfl ?_
      refine u_getr (pc := 74) (r := (gp 0)) C d_L_best_74 fw_L_21 sC_83 rfl rfl ?_
      refine u_geti (pc := 77) C d_L_best_77 fw_L_211 (shG0 (by decide)) rfl ?_
      refine u_bipush (pc := 80) (v := 64) C d_L_best_80 (by decide) ?_
      refine u_icmp_ge (pc := 82) (tgt := 147) C d_L_best_82 rfl (fun c82 => ?_) (fun c82 => ?_)
      · refine u_iload_n (pc := 147) C d_L_best_147 rfl ?_
        refine u_if_ne (pc := 148) (tgt := 156) C d_L_best_148 rfl (fun c148 => ?_) (fun c148 => ?_)
        · refine u_iload_n (pc := 156) C d_L_best_156 rfl ?_
          refine u_iret (pc := 157) C d_L_best_157 (hQ _ _ ⟨_, rfl, ?_⟩)
          have c82 : 64 ≤ M.1 (gp 0) 9 := c82
          rw [r10] at c82
          have e9 : (if σ.1.2.2.1 1 4 < 64 then σ.1.2.1 else 0) = i := by
            rw [if_neg (Int32.not_lt.mpr c82)]
            rcases Nat.eq_zero_or_pos i with q | q
            · exact q.symm
            · exact absurd (hi6 q) (Int32.not_lt.mpr c82)
          rw [e9, ← hx, ← hy]
          first | rw [if_pos c148] | rw [if_neg c148]
          exact ⟨rfl, hI⟩
        · refine u_iload (pc := 151) C d_L_best_151 rfl ?_
          refine u_goto (pc := 153) (tgt := 157) C d_L_best_153 rfl ?_
          refine u_iret (pc := 157) C d_L_best_157 (hQ _ _ ⟨_, rfl, ?_⟩)
          have c82 : 64 ≤ M.1 (gp 0) 9 := c82
          rw [r10] at c82
          have e9 : (if σ.1.2.2.1 1 4 < 64 then σ.1.2.1 else 0) = i := by
            rw [if_neg (Int32.not_lt.mpr c82)]
            rcases Nat.eq_zero_or_pos i with q | q
            · exact q.symm
            · exact absurd (hi6 q) (Int32.not_lt.mpr c82)
          rw [e9, ← hx, ← hy]
          first | rw [if_pos c148] | rw [if_neg c148]
          exact ⟨rfl, hI⟩
      · have c82 : ¬ 64 ≤ M.1 (gp 0) 9 := c82
        rw [r10] at c82
        have c82 := Int32.not_le.mp c82
        refine u_aload_n (pc := 85) C d_L_best_85 rfl ?_
        refine u_getr (pc := 86) (r := 0) C d_L_best_86 fw_L_10 sC_83 rfl rfl ?_
        refine u_getr (pc := 89) (r := 2) C d_L_best_89 fw_L_141 sC_0 rfl rfl ?_
        refine u_iload (pc := 92) C d_L_best_92 rfl ?_
        refine u_callSi (pc := 94) C d_L_best_94 mx_L_at mw_L_124 (c_L_at sC_2) rfl rfl (Nat.le_of_ble_eq_true rfl) (fun r94 M94 q94 => ?_)
        obtain ⟨e94, q94⟩ := q94
        have q94 := q94.symm
        subst q94
        rw [(at_cd hcd (show i < 24 by omega)).2.1] at e94
        subst e94
        refine u_iload_n (pc := 97) C d_L_best_97 rfl ?_
        refine u_icmp_ne (pc := 98) (tgt := 141) C d_L_best_98 rfl (fun c98 => ?_) (fun c98 => ?_)
        · refine u_iinc (pc := 141) (v2 := 1) C d_L_best_141 rfl rfl (by decide) (fun x141 e141 L9 hL9 => ?_)
          obtain rfl : L9 = [some (.ref 83), some (.int p), some (.int w), some (.int x), some (.int y), some (.int x141), none] := hL9.symm
          refine u_goto (pc := 144) (tgt := 61) C d_L_best_144 rfl ?_
          obtain rfl : x141 = nI (i + 1) := by rw [e141, nI_succ]
          have eb : bst σ.1.1 σ.1.2.1 (σ.1.2.2.1, σ.1.2.2.2) p (i + 1) = bst σ.1.1 σ.1.2.1 (σ.1.2.2.1, σ.1.2.2.2) p i := by rw [bst, if_neg (fun z => c98 z.1)]
          exact ih (i + 1) x y _ (by omega) (by omega) hI (by rw [eb]; exact hx) (by rw [eb]; exact hy) (fun _ => c82)
        · refine u_aload_n (pc := 101) C d_L_best_101 rfl ?_
          refine u_getr (pc := 102) (r := (gp 0)) C d_L_best_102 fw_L_21 sC_83 rfl rfl ?_
          refine u_getr (pc := 105) (r := (gp 0 + 3)) C d_L_best_105 fw_L_149 (shG0 (by decide)) rfl rfl ?_
          refine u_iload (pc := 108) C d_L_best_108 rfl ?_
          refine u_callSi (pc := 110) C d_L_best_110 mx_L_at mw_L_124 (c_L_at (shG3 (by decide))) rfl rfl (Nat.le_of_ble_eq_true rfl) (fun r110 M110 q110 => ?_)
          obtain ⟨e110, q110⟩ := q110
          have q110 := q110.symm
          subst q110
          rw [atF_in (by omega) (by decide), hR.2.2.1 i (by omega)] at e110
          subst e110
          refine u_iconst (pc := 113) (v := 1) C d_L_best_113 (by decide) ?_
          refine u_icmp_eq (pc := 114) (tgt := 120) C d_L_best_114 rfl (fun c114 => ?_) (fun c114 => ?_)
          · refine u_aload_n (pc := 120) C d_L_best_120 rfl ?_
            refine u_iload (pc := 121) C d_L_best_121 rfl ?_
            refine u_callVi (pc := 123) C d_L_best_123 mx_L_worthPlayed mw_L_255 sC_83 rfl (c_L_worthPlayed hI hlt c114 c82) rfl rfl (Nat.le_of_ble_eq_true rfl) (fun r123 M123 q123 => ?_)
            obtain ⟨e123, kI⟩ := q123
            refine u_istore (pc := 126) C d_L_best_126 rfl (fun x126 e126 L9 hL9 => ?_)
            obtain rfl : L9 = [some (.ref 83), some (.int p), some (.int w), some (.int x), some (.int y), some (.int (nI i)), some (.int x126)] := hL9.symm
            refine u_iload (pc := 128) C d_L_best_128 rfl ?_
            refine u_iload_n (pc := 130) C d_L_best_130 rfl ?_
            refine u_icmp_le (pc := 131) (tgt := 141) C d_L_best_131 rfl (fun c131 => ?_) (fun c131 => ?_)
            · refine u_iinc (pc := 141) (v2 := 1) C d_L_best_141 rfl rfl (by decide) (fun x141 e141 L9 hL9 => ?_)
              obtain rfl : L9 = [some (.ref 83), some (.int p), some (.int w), some (.int x), some (.int y), some (.int x141), some (.int x126)] := hL9.symm
              refine u_goto (pc := 144) (tgt := 61) C d_L_best_144 rfl ?_
              obtain rfl : x141 = nI (i + 1) := by rw [e141, nI_succ]
              refine u_drop 6 rfl ?_
              rw [e126, e123] at c131
              have eb : bst σ.1.1 σ.1.2.1 (σ.1.2.2.1, σ.1.2.2.2) p (i + 1) = bst σ.1.1 σ.1.2.1 (σ.1.2.2.1, σ.1.2.2.2) p i := by
                rw [bst, if_neg (fun z => Int32.not_lt.mpr (by rw [← hx]; exact c131) z.2.2)]
              exact ih (i + 1) x y _ (by omega) (by omega) kI (by rw [eb]; exact hx) (by rw [eb]; exact hy) (fun _ => c82)
            · refine u_iload (pc := 134) C d_L_best_134 rfl ?_
              refine u_istore_n (pc := 136) C d_L_best_136 rfl (fun x136 e136 L9 hL9 => ?_)
              obtain rfl : L9 = [some (.ref 83), some (.int p), some (.int w), some (.int x136), some (.int y), some (.int (nI i)), some (.int x126)] := hL9.symm
              refine u_iload (pc := 137) C d_L_best_137 rfl ?_
              refine u_istore (pc := 139) C d_L_best_139 rfl (fun x139 e139 L9 hL9 => ?_)
              obtain rfl : L9 = [some (.ref 83), some (.int p), some (.int w), some (.int x136), some (.int x139), some (.int (nI i)), some (.int x126)] := hL9.symm
              refine u_iinc (pc := 141) (v2 := 1) C d_L_best_141 rfl rfl (by decide) (fun x141 e141 L9 hL9 => ?_)
              obtain rfl : L9 = [some (.ref 83), some (.int p), some (.int w), some (.int x136), some (.int x139), some (.int x141), some (.int x126)] := hL9.symm
              refine u_goto (pc := 144) (tgt := 61) C d_L_best_144 rfl ?_
              obtain rfl : x141 = nI (i + 1) := by rw [e141, nI_succ]
              refine u_drop 6 rfl ?_
              rw [e126, e123] at c131
              have c131 := Int32.not_le.mp c131
              have eb : bst σ.1.1 σ.1.2.1 (σ.1.2.2.1, σ.1.2.2.2) p (i + 1) = (wpl σ.1.1 σ.1.2.1 (σ.1.2.2.1, σ.1.2.2.2) i, nI i) := by
                rw [bst, if_pos ⟨c98, c114, by rw [← hx]; exact c131⟩]
              exact ih (i + 1) _ _ _ (by omega) (by omega) kI (by rw [eb, e136, e126, e123]) (by rw [eb, e139]) (fun _ => c82)
          · refine u_goto (pc := 117) (tgt := 141) C d_L_best_117 rfl ?_
            refine u_iinc (pc := 141) (v2 := 1) C d_L_best_141 rfl rfl (by decide) (fun x141 e141 L9 hL9 => ?_)
            obtain rfl : L9 = [some (.ref 83), some (.int p), some (.int w), some (.int x), some (.int y), some (.int x141), none] := hL9.symm
            refine u_goto (pc := 144) (tgt := 61) C d_L_best_144 rfl ?_
            obtain rfl : x141 = nI (i + 1) := by rw [e141, nI_succ]
            have eb : bst σ.1.1 σ.1.2.1 (σ.1.2.2.1, σ.1.2.2.2) p (i + 1) = bst σ.1.1 σ.1.2.1 (σ.1.2.2.1, σ.1.2.2.2) p i := by rw [bst, if_neg (fun z => c114 z.2.1)]
            exact ih (i + 1) x y _ (by omega) (by omega) hI (by rw [eb]; exact hx) (by rw [eb]; exact hy) (fun _ => c82)
set_option maxRecDepth 20000 in
theorem c_L_best {p w : Int32} {M : Mem} {σ : St} (hI : InvC M σ) : Ct lyC y_L_best b_L_best 7 (some .int) 8 [.ref 83, .int p, .int w] M (Pi fun r M' => r = sp_best p w σ ∧ InvC M' σ) := by
  obtain ⟨m, hm, hR⟩ := hI.R
  have hW := hI.1
  have hcd := hI.2.1
  have hn := hW.1.1
  have r8 := hR.2.2.2.2.2.2.1
  obtain ⟨h, h64, hh⟩ := hW.hb
  obtain ⟨htl, hbn, hb24⟩ := hW.tl
  obtain ⟨th1, ev1, hL1⟩ := hI.2.2.2.2.2.2.2.2
  have hh64 : (σ.1.2.2.1 1 4).toNatClampNeg ≤ 64 := by rw [hh, nI_clamp (by omega)]; exact h64
  refine Ct.ofG mx_L_best [some (.ref 83), some (.int p), some (.int w), none, none, none, none] rfl rfl (Nat.le_of_ble_eq_true rfl) (fun κ C hQ => ?_)
  refine u_iload_n (pc := 0) C d_L_best_0 rfl ?_
  refine u_callSi (pc := 1) C d_L_best_1 mx_L_isPlayer mw_L_91 (c_L_isPlayer) rfl rfl (Nat.le_of_ble_eq_true rfl) (fun r1 M1 q1 => ?_)
  obtain ⟨e1, q1⟩ := q1
  have q1 := q1.symm
  subst q1
  refine u_if_eq (pc := 4) (tgt := 16) C d_L_best_4 rfl (fun c4 => ?_) (fun c4 => ?_)
  · refine u_ldc (pc := 16) C (mc_L_159) d_L_best_16 ?_
    refine u_iret (pc := 18) C d_L_best_18 (hQ _ _ ⟨_, rfl, ?_⟩)
    have hp : ¬ (p = 0 ∨ p = 1) := fun q => absurd ((e1.trans (if_pos q)).symm.trans c4) (by decide)
    rw [sp_best, if_neg hp]
    exact ⟨rfl, hI⟩
  · refine u_iload_n (pc := 7) C d_L_best_7 rfl ?_
    refine u_if_lt (pc := 8) (tgt := 16) C d_L_best_8 rfl (fun c8 => ?_) (fun c8 => ?_)
    · refine u_ldc (pc := 16) C (mc_L_159) d_L_best_16 ?_
      refine u_iret (pc := 18) C d_L_best_18 (hQ _ _ ⟨_, rfl, ?_⟩)
      rw [sp_best, if_pos (isP_of e1 c4), if_pos c8]
      exact ⟨rfl, hI⟩
    · refine u_iload_n (pc := 11) C d_L_best_11 rfl ?_
      refine u_iconst (pc := 12) (v := 1) C d_L_best_12 (by decide) ?_
      refine u_icmp_le (pc := 13) (tgt := 19) C d_L_best_13 rfl (fun c13 => ?_) (fun c13 => ?_)
      · refine u_aload_n (pc := 19) C d_L_best_19 rfl ?_
        refine u_getr (pc := 20) (r := (gp 2)) C d_L_best_20 fw_L_32 sC_83 rfl rfl ?_
        refine u_aload_n (pc := 23) C d_L_best_23 rfl ?_
        refine u_getr (pc := 24) (r := (gp 0)) C d_L_best_24 fw_L_21 sC_83 rfl rfl ?_
        refine u_callVv (pc := 27) C d_L_best_27 mx_G_copyFrom mw_L_252 (shG0 (by decide)) rfl (c_G_copyFrom (k := 2) (k2 := 0) (by decide) (by decide) (by decide) hR htl hb24 hh64) rfl rfl (Nat.le_of_ble_eq_true rfl) (fun M27 q27 => ?_)
        obtain ⟨tR, tO⟩ := q27
        have tL := hL1.off tO (fun p q => g_l (by decide) q)
        have tcd := hcd.off tO (fun p h1 h2 => blk_cd h1 h2)
        have tI := hI.scr (tO.mono (fun p q => blk_scr (k := 2) (by decide) (by decide) q)) ⟨_, _, tL⟩
        refine u_aload_n (pc := 30) C d_L_best_30 rfl ?_
        refine u_getr (pc := 31) (r := 75) C d_L_best_31 fw_L_42 sC_83 rfl rfl ?_
        refine u_aload_n (pc := 34) C d_L_best_34 rfl ?_
        refine u_getr (pc := 35) (r := (gp 2)) C d_L_best_35 fw_L_32 sC_83 rfl rfl ?_
        refine u_aload_n (pc := 38) C d_L_best_38 rfl ?_
        refine u_getr (pc := 39) (r := (op 1)) C d_L_best_39 fw_L_67 sC_83 rfl rfl ?_
        refine u_callVv (pc := 42) C d_L_best_42 mx_R_runPile mw_L_227 sC_75 rfl (c_R_runPile (k := 2) (b := 1) (by decide) (by decide) hW tcd tR hm tL) rfl rfl (Nat.le_of_ble_eq_true rfl) (fun M42 q42 => ?_)
        obtain ⟨t, m2, t200, kRun, k7, kR, kM, kW, kL, kO⟩ := q42
        have kx := runR_eq kRun
        have kI := tI.scr (kO.mono (fun p q => run_scr (k := 2) (by decide) (by decide) q)) ⟨_, _, kL⟩
        refine u_aload_n (pc := 45) C d_L_best_45 rfl ?_
        refine u_getr (pc := 46) (r := (gp 2)) C d_L_best_46 fw_L_32 sC_83 rfl rfl ?_
        refine u_iload_n (pc := 49) C d_L_best_49 rfl ?_
        refine u_callVi (pc := 50) C d_L_best_50 mx_G_worthTo mw_L_258 (shG0 (by decide)) rfl (c_G_worthTo (k := 2) (by decide)) rfl rfl (Nat.le_of_ble_eq_true rfl) (fun r50 M50 q50 => ?_)
        obtain ⟨e50, q50⟩ := q50
        have q50 := q50.symm
        subst q50
        refine u_istore_n (pc := 53) C d_L_best_53 rfl (fun x53 e53 L9 hL9 => ?_)
        obtain rfl : L9 = [some (.ref 83), some (.int p), some (.int w), some (.int x53), none, none, none] := hL9.symm
        refine u_bipush (pc := 54) (v := (-2)) C d_L_best_54 (by decide) ?_
        refine u_istore (pc := 56) C d_L_best_56 rfl (fun x56 e56 L9 hL9 => ?_)
        obtain rfl : L9 = [some (.ref 83), some (.int p), some (.int w), some (.int x53), some (.int x56), none, none] := hL9.symm
        refine u_iconst (pc := 58) (v := 0) C d_L_best_58 (by decide) ?_
        refine u_istore (pc := 59) C d_L_best_59 rfl (fun x59 e59 L9 hL9 => ?_)
        obtain rfl : L9 = [some (.ref 83), some (.int p), some (.int w), some (.int x53), some (.int x56), some (.int x59), none] := hL9.symm
        subst e59 e56 e53
        have hp := isP_of e1 c4
        refine lp_best C (fun v M' hv => hQ v M' ?_) (σ.1.2.1 + 1) 0 _ _ M42 (by omega) (by omega) kI (by rw [e50, kR.wo hp, bst, runG, kx]; rfl) rfl (fun z => by omega)
        obtain ⟨r, rfl, z1, z2⟩ := hv
        refine ⟨r, rfl, ?_, z2⟩
        rw [z1, sp_best, if_pos hp, if_neg c8, if_pos c13]
      · refine u_ldc (pc := 16) C (mc_L_159) d_L_best_16 ?_
        refine u_iret (pc := 18) C d_L_best_18 (hQ _ _ ⟨_, rfl, ?_⟩)
        rw [sp_best, if_pos (isP_of e1 c4), if_neg c8, if_neg c13]
        exact ⟨rfl, hI⟩
