/-! the class's calls that take a turn, or think of games -/
theorem blk_scr {k p : Nat} (h2 : 2 ≤ k) (hk : k < 6) (h : blk k p) : scrS p := by
  have z1 := h.1
  have z2 := h.2
  unfold gp at z1 z2
  exact Or.inl (by omega)
theorem en_scr {k p : Nat} (h2 : 2 ≤ k) (hk : k < 6) (h : EngS k 1 p) : scrS p := by
  rcases h with h | h | h | h
  · exact blk_scr h2 hk h
  · have := lblk_p h
    exact Or.inr (Or.inr (by omega))
  · have h1 := h.1
    have h2 := h.2
    unfold yp at h1 h2
    exact Or.inr (Or.inl (by omega))
  · rcases h with h | h <;> (unfold ep at h; exact Or.inr (Or.inl (by omega)))
theorem run_scr {k p : Nat} (h2 : 2 ≤ k) (hk : k < 6) (h : RunS k 1 p) : scrS p := by
  rcases h with h | h | h
  · exact en_scr h2 hk h
  · have h1 := h.1
    have h2 := h.2
    exact Or.inr (Or.inr (by omega))
  · exact Or.inr (Or.inr (by omega))
def wor (g : Gm) (p : Int32) : Int32 := g 0 (pix p) - g 0 (pix (1 - p))
def plG (g : Gm) (c : Nat) : Gm := up2 (psh g (nI c)) 3 c 2
theorem RepG.pl {M : Mem} {k n m c h : Nat} {g : Gm} {tb : List Nat} (r : RepG M k n g tb m) (hh : g 1 4 = nI h) (h64 : h ≤ 64) (hc : c < 24) (h6 : g 1 4 < 64) : RepG (plF M k (nI c)) k n (plG g c) tb (m + 1) := by
  have c40 : M.1 (gp k) 9 < 64 := by
    have r10 : M.1 (gp k) 9 = g 1 4 := r.2.2.2.2.2.2.2.2.1
    rw [r10]; exact h6
  have epl : plF M k (nI c) = mvF (pushF M k (nI c)) k (nI c) 2 := by rw [plF, if_pos c40]
  rw [epl]
  exact (r.push (x := nI c) hh h64).mv (pl := 2) hc
theorem plF_off {M : Mem} {k : Nat} {c : Int32} : Off (blk k) M (plF M k c) := by
  unfold plF
  split
  · exact pushF_off.trans mvF_off
  · exact Off.refl
theorem mvd_take {n m c : Nat} {g : Gm} (hc : c < n) (h : g 3 c = 3) : mvd n g m (put4 g c) (m + 1) := mvd.put4 hc (by rw [h]; decide)
noncomputable def sp_turn  (σ : St) : Int32 × St := if σ.1.2.2.1 1 4 = 0 ∧ lost σ.1.2.2.1 = false then ((tkt σ.1.1 σ.1.2.1 (σ.1.2.2.1, σ.1.2.2.2)).1 1 2, setGT σ (tkt σ.1.1 σ.1.2.1 (σ.1.2.2.1, σ.1.2.2.2))) else (-5, σ)
set_option maxRecDepth 20000 in
theorem c_L_turn  {M : Mem} {σ : St} (hI : InvC M σ) : Ct lyC y_L_turn b_L_turn 1 (some .int) 5 [.ref 83] M (Pi fun r M' => r = (sp_turn σ).1 ∧ InvC M' (sp_turn σ).2) := by
  obtain ⟨m, hm, hR⟩ := hI.R
  have hW := hI.1
  have hcd := hI.2.1
  have hn := hW.1.1
  have r8 := hR.2.2.2.2.2.2.1
  obtain ⟨h, h64, hh⟩ := hW.hb
  obtain ⟨htl, hbn, hb24⟩ := hW.tl
  obtain ⟨th1, ev1, hL1⟩ := hI.2.2.2.2.2.2.2.2
  have hh64 : (σ.1.2.2.1 1 4).toNatClampNeg ≤ 64 := by rw [hh, nI_clamp (by omega)]; exact h64
  have hlo := hR.lostI
  have r10 : M.1 (gp 0) 9 = σ.1.2.2.1 1 4 := hR.2.2.2.2.2.2.2.2.1
  have hL0 := hI.2.2.2.2.2.2.2.1
  refine Ct.ofG mx_L_turn [some (.ref 83)] rfl rfl (Nat.le_of_ble_eq_true rfl) (fun κ C hQ => ?_)
  refine u_aload_n (pc := 0) C d_L_turn_0 rfl ?_
  refine u_getr (pc := 1) (r := (gp 0)) C d_L_turn_1 fw_L_21 sC_83 rfl rfl ?_
  refine u_callVi (pc := 4) C d_L_turn_4 mx_G_isQuiet mw_L_242 (shG0 (by decide)) rfl (c_G_isQuiet (k := 0) (by decide)) rfl rfl (Nat.le_of_ble_eq_true rfl) (fun r4 M4 q4 => ?_)
  obtain ⟨e4, q4⟩ := q4
  have q4 := q4.symm
  subst q4
  refine u_if_ne (pc := 7) (tgt := 13) C d_L_turn_7 rfl (fun c7 => ?_) (fun c7 => ?_)
  · refine u_aload_n (pc := 13) C d_L_turn_13 rfl ?_
    refine u_getr (pc := 14) (r := 75) C d_L_turn_14 fw_L_42 sC_83 rfl rfl ?_
    refine u_aload_n (pc := 17) C d_L_turn_17 rfl ?_
    refine u_getr (pc := 18) (r := (gp 0)) C d_L_turn_18 fw_L_21 sC_83 rfl rfl ?_
    refine u_aload_n (pc := 21) C d_L_turn_21 rfl ?_
    refine u_getr (pc := 22) (r := (op 1)) C d_L_turn_22 fw_L_67 sC_83 rfl rfl ?_
    refine u_callVv (pc := 25) C d_L_turn_25 mx_R_takeTurn mw_L_246 sC_75 rfl (c_R_takeTurn (k := 0) (b := 1) (by decide) (by decide) hW hcd hR hm hL1) rfl rfl (Nat.le_of_ble_eq_true rfl) (fun M25 q25 => ?_)
    obtain ⟨m2, kR, kM, kW, kL, kO⟩ := q25
    refine u_aload_n (pc := 28) C d_L_turn_28 rfl ?_
    refine u_getr (pc := 29) (r := (gp 0)) C d_L_turn_29 fw_L_21 sC_83 rfl rfl ?_
    refine u_geti (pc := 32) C d_L_turn_32 fw_L_249 (shG0 (by decide)) rfl ?_
    refine u_iret (pc := 35) C d_L_turn_35 (hQ _ _ ⟨_, rfl, ?_⟩)
    have hq : σ.1.2.2.1 1 4 = 0 ∧ lost σ.1.2.2.1 = false := by
      rw [e4] at c7
      split at c7
      · rename_i q
        exact ⟨r10.symm.trans q.1, hlo.mp q.2⟩
      · exact absurd rfl c7
    rw [sp_turn, if_pos hq]
    refine ⟨kR.2.2.2.2.2.2.2.2.2.2.1, ?_⟩
    exact hI.eng (th := σ.2.2.2.2.2.1) (ev := σ.2.2.2.2.2.2) (kO.mono (fun p q => eng_en (by decide) q)) kR kM kW (hL0.off kO (fun p q => eng_l0 (Or.inl q))) ⟨_, _, kL⟩
  · refine u_bipush (pc := 10) (v := (-5)) C d_L_turn_10 (by decide) ?_
    refine u_iret (pc := 12) C d_L_turn_12 (hQ _ _ ⟨_, rfl, ?_⟩)
    have hq : ¬ (σ.1.2.2.1 1 4 = 0 ∧ lost σ.1.2.2.1 = false) := fun q => by
      rw [e4, if_pos ⟨r10.trans q.1, hlo.mpr q.2⟩] at c7
      exact absurd c7 (by decide)
    rw [sp_turn, if_neg hq]
    exact ⟨rfl, hI⟩
noncomputable def sp_dry (w : Int32) (σ : St) : Int32 := if w < 0 then -2000000000 else if w ≤ 3 then (if w = 0 then (runR σ.1.1 σ.1.2.1 (σ.1.2.2.1, σ.1.2.2.2)).2.1 else if w = 1 then nI (runR σ.1.1 σ.1.2.1 (σ.1.2.2.1, σ.1.2.2.2)).1 else if w = 2 then (runG σ.1.1 σ.1.2.1 (σ.1.2.2.1, σ.1.2.2.2)).1 0 0 else (runG σ.1.1 σ.1.2.1 (σ.1.2.2.1, σ.1.2.2.2)).1 0 1) else -2000000000
set_option maxRecDepth 20000 in
theorem c_L_dry {w : Int32} {M : Mem} {σ : St} (hI : InvC M σ) : Ct lyC y_L_dry b_L_dry 2 (some .int) 6 [.ref 83, .int w] M (Pi fun r M' => r = sp_dry w σ ∧ InvC M' σ) := by
  obtain ⟨m, hm, hR⟩ := hI.R
  have hW := hI.1
  have hcd := hI.2.1
  have hn := hW.1.1
  have r8 := hR.2.2.2.2.2.2.1
  obtain ⟨h, h64, hh⟩ := hW.hb
  obtain ⟨htl, hbn, hb24⟩ := hW.tl
  obtain ⟨th1, ev1, hL1⟩ := hI.2.2.2.2.2.2.2.2
  have hh64 : (σ.1.2.2.1 1 4).toNatClampNeg ≤ 64 := by rw [hh, nI_clamp (by omega)]; exact h64
  refine Ct.ofG mx_L_dry [some (.ref 83), some (.int w)] rfl rfl (Nat.le_of_ble_eq_true rfl) (fun κ C hQ => ?_)
  refine u_iload_n (pc := 0) C d_L_dry_0 rfl ?_
  refine u_if_lt (pc := 1) (tgt := 9) C d_L_dry_1 rfl (fun c1 => ?_) (fun c1 => ?_)
  · refine u_ldc (pc := 9) C (mc_L_159) d_L_dry_9 ?_
    refine u_iret (pc := 11) C d_L_dry_11 (hQ _ _ ⟨_, rfl, ?_⟩)
    rw [sp_dry, if_pos c1]
    exact ⟨rfl, hI⟩
  · refine u_iload_n (pc := 4) C d_L_dry_4 rfl ?_
    refine u_iconst (pc := 5) (v := 3) C d_L_dry_5 (by decide) ?_
    refine u_icmp_le (pc := 6) (tgt := 12) C d_L_dry_6 rfl (fun c6 => ?_) (fun c6 => ?_)
    · refine u_aload_n (pc := 12) C d_L_dry_12 rfl ?_
      refine u_getr (pc := 13) (r := (gp 2)) C d_L_dry_13 fw_L_32 sC_83 rfl rfl ?_
      refine u_aload_n (pc := 16) C d_L_dry_16 rfl ?_
      refine u_getr (pc := 17) (r := (gp 0)) C d_L_dry_17 fw_L_21 sC_83 rfl rfl ?_
      refine u_callVv (pc := 20) C d_L_dry_20 mx_G_copyFrom mw_L_252 (shG0 (by decide)) rfl (c_G_copyFrom (k := 2) (k2 := 0) (by decide) (by decide) (by decide) hR htl hb24 hh64) rfl rfl (Nat.le_of_ble_eq_true rfl) (fun M20 q20 => ?_)
      obtain ⟨tR, tO⟩ := q20
      have tL := hL1.off tO (fun p q => g_l (by decide) q)
      have tcd := hcd.off tO (fun p h1 h2 => blk_cd h1 h2)
      have tI := hI.scr (tO.mono (fun p q => blk_scr (k := 2) (by decide) (by decide) q)) ⟨_, _, tL⟩
      refine u_aload_n (pc := 23) C d_L_dry_23 rfl ?_
      refine u_getr (pc := 24) (r := 75) C d_L_dry_24 fw_L_42 sC_83 rfl rfl ?_
      refine u_aload_n (pc := 27) C d_L_dry_27 rfl ?_
      refine u_getr (pc := 28) (r := (gp 2)) C d_L_dry_28 fw_L_32 sC_83 rfl rfl ?_
      refine u_aload_n (pc := 31) C d_L_dry_31 rfl ?_
      refine u_getr (pc := 32) (r := (op 1)) C d_L_dry_32 fw_L_67 sC_83 rfl rfl ?_
      refine u_callVv (pc := 35) C d_L_dry_35 mx_R_runPile mw_L_227 sC_75 rfl (c_R_runPile (k := 2) (b := 1) (by decide) (by decide) hW tcd tR hm tL) rfl rfl (Nat.le_of_ble_eq_true rfl) (fun M35 q35 => ?_)
      obtain ⟨t, m2, t200, kRun, k7, kR, kM, kW, kL, kO⟩ := q35
      have kx := runR_eq kRun
      have kI := tI.scr (kO.mono (fun p q => run_scr (k := 2) (by decide) (by decide) q)) ⟨_, _, kL⟩
      refine u_iload_n (pc := 38) C d_L_dry_38 rfl ?_
      refine u_top (fun t39 e39 => ?_)
      rcases sw_0_2 t39 with q39 | q39 | q39 | q39
      · refine u_tsIn (pc := 39) (tgt := 64) C d_L_dry_39 (by rw [q39]; decide) (by rw [q39]; decide) (by rw [q39]; rfl) rfl ?_
        refine u_aload_n (pc := 64) C d_L_dry_64 rfl ?_
        refine u_getr (pc := 65) (r := 75) C d_L_dry_65 fw_L_42 sC_83 rfl rfl ?_
        refine u_geti (pc := 68) C d_L_dry_68 fw_L_230 sC_75 rfl ?_
        refine u_iret (pc := 71) C d_L_dry_71 (hQ _ _ ⟨_, rfl, ?_⟩)
        refine ⟨?_, kI⟩
        subst e39
        rw [sp_dry, if_neg c1, if_pos c6, runG, kx]
        rw [if_pos q39]
      · refine u_tsIn (pc := 39) (tgt := 72) C d_L_dry_39 (by rw [q39]; decide) (by rw [q39]; decide) (by rw [q39]; rfl) rfl ?_
        refine u_aload_n (pc := 72) C d_L_dry_72 rfl ?_
        refine u_getr (pc := 73) (r := 75) C d_L_dry_73 fw_L_42 sC_83 rfl rfl ?_
        refine u_geti (pc := 76) C d_L_dry_76 fw_L_239 sC_75 rfl ?_
        refine u_iret (pc := 79) C d_L_dry_79 (hQ _ _ ⟨_, rfl, ?_⟩)
        refine ⟨?_, kI⟩
        subst e39
        rw [sp_dry, if_neg c1, if_pos c6, runG, kx]
        rw [q39, if_neg (by decide), if_pos rfl]
        exact k7
      · refine u_tsIn (pc := 39) (tgt := 80) C d_L_dry_39 (by rw [q39]; decide) (by rw [q39]; decide) (by rw [q39]; rfl) rfl ?_
        refine u_aload_n (pc := 80) C d_L_dry_80 rfl ?_
        refine u_getr (pc := 81) (r := (gp 2)) C d_L_dry_81 fw_L_32 sC_83 rfl rfl ?_
        refine u_getr (pc := 84) (r := (gp 2 + 1)) C d_L_dry_84 fw_L_167 (shG0 (by decide)) rfl rfl ?_
        refine u_iconst (pc := 87) (v := 0) C d_L_dry_87 (by decide) ?_
        refine u_callSi (pc := 88) C d_L_dry_88 mx_L_at mw_L_124 (c_L_at (shG1 (by decide))) rfl rfl (Nat.le_of_ble_eq_true rfl) (fun r88 M88 q88 => ?_)
        obtain ⟨e88, q88⟩ := q88
        have q88 := q88.symm
        subst q88
        refine u_iret (pc := 91) C d_L_dry_91 (hQ _ _ ⟨_, rfl, ?_⟩)
        refine ⟨?_, kI⟩
        subst e39
        rw [sp_dry, if_neg c1, if_pos c6, runG, kx]
        rw [q39, if_neg (by decide), if_neg (by decide), if_pos rfl, e88, kR.life (Or.inl rfl)]
        rfl
      · refine u_tsOut (pc := 39) (tgt := 92) C d_L_dry_39 q39 rfl ?_
        refine u_aload_n (pc := 92) C d_L_dry_92 rfl ?_
        refine u_getr (pc := 93) (r := (gp 2)) C d_L_dry_93 fw_L_32 sC_83 rfl rfl ?_
        refine u_getr (pc := 96) (r := (gp 2 + 1)) C d_L_dry_96 fw_L_167 (shG0 (by decide)) rfl rfl ?_
        refine u_iconst (pc := 99) (v := 1) C d_L_dry_99 (by decide) ?_
        refine u_callSi (pc := 100) C d_L_dry_100 mx_L_at mw_L_124 (c_L_at (shG1 (by decide))) rfl rfl (Nat.le_of_ble_eq_true rfl) (fun r100 M100 q100 => ?_)
        obtain ⟨e100, q100⟩ := q100
        have q100 := q100.symm
        subst q100
        refine u_iret (pc := 103) C d_L_dry_103 (hQ _ _ ⟨_, rfl, ?_⟩)
        refine ⟨?_, kI⟩
        subst e39
        rw [sp_dry, if_neg c1, if_pos c6, runG, kx]
        have z : ∀ k : Int32, (0 ≤ k.toInt ∧ k.toInt ≤ 2) → ¬ t39 = k := fun k hk q => by rw [q] at q39; rcases q39 with q39 | q39 <;> omega
        rw [if_neg (z 0 (by decide)), if_neg (z 1 (by decide)), if_neg (z 2 (by decide)), e100, kR.life (Or.inr rfl)]
        rfl
    · refine u_ldc (pc := 9) C (mc_L_159) d_L_dry_9 ?_
      refine u_iret (pc := 11) C d_L_dry_11 (hQ _ _ ⟨_, rfl, ?_⟩)
      rw [sp_dry, if_neg c1, if_neg c6]
      exact ⟨rfl, hI⟩
noncomputable def wpl (cd : Nat → Nat → Int32) (n : Nat) (s : Gm × List Nat) (c : Nat) : Int32 := wor (runG cd n (plG s.1 c, s.2)).1 (cd 1 c)
set_option maxRecDepth 20000 in
theorem c_L_worthPlayed {M : Mem} {σ : St} (hI : InvC M σ) {c : Nat} (hc : c < σ.1.2.1) (h1 : σ.1.2.2.1 3 c = 1) (h6 : σ.1.2.2.1 1 4 < 64) : Ct lyC y_L_worthPlayed b_L_worthPlayed 2 (some .int) 6 [.ref 83, .int (nI c)] M (Pi fun r M' => r = wpl σ.1.1 σ.1.2.1 (σ.1.2.2.1, σ.1.2.2.2) c ∧ InvC M' σ) := by
  obtain ⟨m, hm, hR⟩ := hI.R
  have hW := hI.1
  have hcd := hI.2.1
  have hn := hW.1.1
  have r8 := hR.2.2.2.2.2.2.1
  obtain ⟨h, h64, hh⟩ := hW.hb
  obtain ⟨htl, hbn, hb24⟩ := hW.tl
  obtain ⟨th1, ev1, hL1⟩ := hI.2.2.2.2.2.2.2.2
  have hh64 : (σ.1.2.2.1 1 4).toNatClampNeg ≤ 64 := by rw [hh, nI_clamp (by omega)]; exact h64
  have hc24 : c < 24 := by omega
  refine Ct.ofG mx_L_worthPlayed [some (.ref 83), some (.int (nI c))] rfl rfl (Nat.le_of_ble_eq_true rfl) (fun κ C hQ => ?_)
  refine u_aload_n (pc := 0) C d_L_worthPlayed_0 rfl ?_
  refine u_getr (pc := 1) (r := (gp 2)) C d_L_worthPlayed_1 fw_L_32 sC_83 rfl rfl ?_
  refine u_aload_n (pc := 4) C d_L_worthPlayed_4 rfl ?_
  refine u_getr (pc := 5) (r := (gp 0)) C d_L_worthPlayed_5 fw_L_21 sC_83 rfl rfl ?_
  refine u_callVv (pc := 8) C d_L_worthPlayed_8 mx_G_copyFrom mw_L_252 (shG0 (by decide)) rfl (c_G_copyFrom (k := 2) (k2 := 0) (by decide) (by decide) (by decide) hR htl hb24 hh64) rfl rfl (Nat.le_of_ble_eq_true rfl) (fun M8 q8 => ?_)
  obtain ⟨tR, tO⟩ := q8
  have tL := hL1.off tO (fun p q => g_l (by decide) q)
  have tcd := hcd.off tO (fun p h1 h2 => blk_cd h1 h2)
  have tI := hI.scr (tO.mono (fun p q => blk_scr (k := 2) (by decide) (by decide) q)) ⟨_, _, tL⟩
  refine u_aload_n (pc := 11) C d_L_worthPlayed_11 rfl ?_
  refine u_getr (pc := 12) (r := (gp 2)) C d_L_worthPlayed_12 fw_L_32 sC_83 rfl rfl ?_
  refine u_iload_n (pc := 15) C d_L_worthPlayed_15 rfl ?_
  refine u_callVv (pc := 16) C d_L_worthPlayed_16 mx_G_playCard mw_L_214 (shG0 (by decide)) rfl (c_G_playCard (k := 2) (by decide)) rfl rfl (Nat.le_of_ble_eq_true rfl) (fun M16 q16 => ?_)
  have q16 := q16.symm
  subst q16
  have tR2 := tR.pl hh h64 hc24 h6
  have tO2 : Off (blk 2) M8 (plF M8 2 (nI c)) := plF_off
  have tL2 := tL.off tO2 (fun p q => g_l (by decide) q)
  have tcd2 := tcd.off tO2 (fun p h1 h2 => blk_cd h1 h2)
  have tI2 := tI.scr (tO2.mono (fun p q => blk_scr (k := 2) (by decide) (by decide) q)) ⟨_, _, tL2⟩
  have hW2 : WFg σ.1.1 σ.1.2.1 (plG σ.1.2.2.1 c) σ.1.2.2.2 := hW.play hc h1
  have hm2 : m + 1 ≤ psum (plG σ.1.2.2.1 c) σ.1.2.1 := (mvd.play hc h1).le hm
  refine u_aload_n (pc := 19) C d_L_worthPlayed_19 rfl ?_
  refine u_getr (pc := 20) (r := 75) C d_L_worthPlayed_20 fw_L_42 sC_83 rfl rfl ?_
  refine u_aload_n (pc := 23) C d_L_worthPlayed_23 rfl ?_
  refine u_getr (pc := 24) (r := (gp 2)) C d_L_worthPlayed_24 fw_L_32 sC_83 rfl rfl ?_
  refine u_aload_n (pc := 27) C d_L_worthPlayed_27 rfl ?_
  refine u_getr (pc := 28) (r := (op 1)) C d_L_worthPlayed_28 fw_L_67 sC_83 rfl rfl ?_
  refine u_callVv (pc := 31) C d_L_worthPlayed_31 mx_R_runPile mw_L_227 sC_75 rfl (c_R_runPile (k := 2) (b := 1) (by decide) (by decide) hW2 tcd2 tR2 hm2 tL2) rfl rfl (Nat.le_of_ble_eq_true rfl) (fun M31 q31 => ?_)
  obtain ⟨t, m2, t200, kRun, k7, kR, kM, kW, kL, kO⟩ := q31
  have kx := runR_eq kRun
  have kI := tI2.scr (kO.mono (fun p q => run_scr (k := 2) (by decide) (by decide) q)) ⟨_, _, kL⟩
  refine u_aload_n (pc := 34) C d_L_worthPlayed_34 rfl ?_
  refine u_getr (pc := 35) (r := (gp 2)) C d_L_worthPlayed_35 fw_L_32 sC_83 rfl rfl ?_
  refine u_aload_n (pc := 38) C d_L_worthPlayed_38 rfl ?_
  refine u_getr (pc := 39) (r := 0) C d_L_worthPlayed_39 fw_L_10 sC_83 rfl rfl ?_
  refine u_getr (pc := 42) (r := 2) C d_L_worthPlayed_42 fw_L_141 sC_0 rfl rfl ?_
  refine u_iload_n (pc := 45) C d_L_worthPlayed_45 rfl ?_
  refine u_callSi (pc := 46) C d_L_worthPlayed_46 mx_L_at mw_L_124 (c_L_at sC_2) rfl rfl (Nat.le_of_ble_eq_true rfl) (fun r46 M46 q46 => ?_)
  obtain ⟨e46, q46⟩ := q46
  have q46 := q46.symm
  subst q46
  refine u_callVi (pc := 49) C d_L_worthPlayed_49 mx_G_worthTo mw_L_258 (shG0 (by decide)) rfl (c_G_worthTo (k := 2) (by decide)) rfl rfl (Nat.le_of_ble_eq_true rfl) (fun r49 M49 q49 => ?_)
  obtain ⟨e49, q49⟩ := q49
  have q49 := q49.symm
  subst q49
  refine u_iret (pc := 52) C d_L_worthPlayed_52 (hQ _ _ ⟨_, rfl, ?_⟩)
  refine ⟨?_, kI⟩
  have hp := (hW.1.2 c hc).2.1
  rw [(at_cd kI.2.1 hc24).2.1] at e46
  rw [e49, e46, kR.wo hp, wpl, runG, kx]
  rfl
noncomputable def sp_worth (c : Int32) (σ : St) : Int32 := if hasF (nI σ.1.2.1) c = 0 then -2000000000 else if σ.1.2.2.1 3 c.toNatClampNeg = 1 then (if σ.1.2.2.1 1 4 < 64 then wpl σ.1.1 σ.1.2.1 (σ.1.2.2.1, σ.1.2.2.2) c.toNatClampNeg else -2000000000) else -2000000000
set_option maxRecDepth 20000 in
theorem c_L_worth {c : Int32} {M : Mem} {σ : St} (hI : InvC M σ) : Ct lyC y_L_worth b_L_worth 2 (some .int) 7 [.ref 83, .int c] M (Pi fun r M' => r = sp_worth c σ ∧ InvC M' σ) := by
  obtain ⟨m, hm, hR⟩ := hI.R
  have hW := hI.1
  have hcd := hI.2.1
  have hn := hW.1.1
  have r8 := hR.2.2.2.2.2.2.1
  have r10 : M.1 (gp 0) 9 = σ.1.2.2.1 1 4 := hR.2.2.2.2.2.2.2.2.1
  refine Ct.ofG mx_L_worth [some (.ref 83), some (.int c)] rfl rfl (Nat.le_of_ble_eq_true rfl) (fun κ C hQ => ?_)
  refine u_aload_n (pc := 0) C d_L_worth_0 rfl ?_
  refine u_getr (pc := 1) (r := (gp 0)) C d_L_worth_1 fw_L_21 sC_83 rfl rfl ?_
  refine u_iload_n (pc := 4) C d_L_worth_4 rfl ?_
  refine u_callVi (pc := 5) C d_L_worth_5 mx_G_has mw_L_137 (shG0 (by decide)) rfl (c_G_has (by decide)) rfl rfl (Nat.le_of_ble_eq_true rfl) (fun r5 M5 q5 => ?_)
  obtain ⟨e5, q5⟩ := q5
  have q5 := q5.symm
  subst q5
  refine u_if_eq (pc := 8) (tgt := 38) C d_L_worth_8 rfl (fun c8 => ?_) (fun c8 => ?_)
  · refine u_ldc (pc := 38) C (mc_L_159) d_L_worth_38 ?_
    refine u_iret (pc := 40) C d_L_worth_40 (hQ _ _ ⟨_, rfl, ?_⟩)
    rw [e5, r8] at c8
    rw [sp_worth, if_pos c8]
    exact ⟨rfl, hI⟩
  · refine u_aload_n (pc := 11) C d_L_worth_11 rfl ?_
    refine u_getr (pc := 12) (r := (gp 0)) C d_L_worth_12 fw_L_21 sC_83 rfl rfl ?_
    refine u_getr (pc := 15) (r := (gp 0 + 3)) C d_L_worth_15 fw_L_149 (shG0 (by decide)) rfl rfl ?_
    refine u_iload_n (pc := 18) C d_L_worth_18 rfl ?_
    refine u_callSi (pc := 19) C d_L_worth_19 mx_L_at mw_L_124 (c_L_at (shG3 (by decide))) rfl rfl (Nat.le_of_ble_eq_true rfl) (fun r19 M19 q19 => ?_)
    obtain ⟨e19, q19⟩ := q19
    have q19 := q19.symm
    subst q19
    refine u_iconst (pc := 22) (v := 1) C d_L_worth_22 (by decide) ?_
    refine u_icmp_ne (pc := 23) (tgt := 38) C d_L_worth_23 rfl (fun c23 => ?_) (fun c23 => ?_)
    · refine u_ldc (pc := 38) C (mc_L_159) d_L_worth_38 ?_
      refine u_iret (pc := 40) C d_L_worth_40 (hQ _ _ ⟨_, rfl, ?_⟩)
      rw [e5, r8] at c8
      obtain ⟨d, hd, rfl⟩ := has_ix c8 hn
      have hd24 : d < 24 := by omega
      rw [e19, atF_in hd24 (by decide), hR.2.2.1 d hd24] at c23
      rw [sp_worth, if_neg c8, nI_clamp (by omega), if_neg c23]
      exact ⟨rfl, hI⟩
    · refine u_aload_n (pc := 26) C d_L_worth_26 rfl ?_
      refine u_getr (pc := 27) (r := (gp 0)) C d_L_worth_27 fw_L_21 sC_83 rfl rfl ?_
      refine u_geti (pc := 30) C d_L_worth_30 fw_L_211 (shG0 (by decide)) rfl ?_
      refine u_bipush (pc := 33) (v := 64) C d_L_worth_33 (by decide) ?_
      refine u_icmp_lt (pc := 35) (tgt := 41) C d_L_worth_35 rfl (fun c35 => ?_) (fun c35 => ?_)
      · rw [e5, r8] at c8
        obtain ⟨d, hd, rfl⟩ := has_ix c8 hn
        have hd24 : d < 24 := by omega
        rw [e19, atF_in hd24 (by decide), hR.2.2.1 d hd24] at c23
        have c35 : M.1 (gp 0) 9 < 64 := c35
        rw [r10] at c35
        refine u_aload_n (pc := 41) C d_L_worth_41 rfl ?_
        refine u_iload_n (pc := 42) C d_L_worth_42 rfl ?_
        refine u_callVi (pc := 43) C d_L_worth_43 mx_L_worthPlayed mw_L_255 sC_83 rfl (c_L_worthPlayed hI hd c23 c35) rfl rfl (Nat.le_of_ble_eq_true rfl) (fun r43 M43 q43 => ?_)
        obtain ⟨e43, kI⟩ := q43
        refine u_iret (pc := 46) C d_L_worth_46 (hQ _ _ ⟨_, rfl, ?_⟩)
        rw [sp_worth, if_neg c8, nI_clamp (by omega), if_pos c23, if_pos c35]
        exact ⟨e43, kI⟩
      · refine u_ldc (pc := 38) C (mc_L_159) d_L_worth_38 ?_
        refine u_iret (pc := 40) C d_L_worth_40 (hQ _ _ ⟨_, rfl, ?_⟩)
        rw [e5, r8] at c8
        obtain ⟨d, hd, rfl⟩ := has_ix c8 hn
        have hd24 : d < 24 := by omega
        rw [e19, atF_in hd24 (by decide), hR.2.2.1 d hd24] at c23
        have c35 : ¬ M.1 (gp 0) 9 < 64 := c35
        rw [r10] at c35
        rw [sp_worth, if_neg c8, nI_clamp (by omega), if_pos c23, if_neg c35]
        exact ⟨rfl, hI⟩
set_option maxRecDepth 20000 in
theorem c_L_runWithout {M : Mem} {σ : St} (hI : InvC M σ) {c : Nat} (hc : c < σ.1.2.1) (h3 : σ.1.2.2.1 3 c = 3) : Ct lyC y_L_runWithout b_L_runWithout 2 none 6 [.ref 83, .int (nI c)] M (Pv fun M' => ∃ t m2, runR σ.1.1 σ.1.2.1 (put4 σ.1.2.2.1 c, σ.1.2.2.2.erase c) = (t, M'.1 75 4, M'.1 75 5, M'.1 75 6) ∧ RepG M' 2 σ.1.2.1 (runS σ.1.1 σ.1.2.1 (put4 σ.1.2.2.1 c, σ.1.2.2.2.erase c) t).1 (runS σ.1.1 σ.1.2.1 (put4 σ.1.2.2.1 c, σ.1.2.2.2.erase c) t).2 m2 ∧ InvC M' σ) := by
  obtain ⟨m, hm, hR⟩ := hI.R
  have hW := hI.1
  have hcd := hI.2.1
  have hn := hW.1.1
  have r8 := hR.2.2.2.2.2.2.1
  obtain ⟨h, h64, hh⟩ := hW.hb
  obtain ⟨htl, hbn, hb24⟩ := hW.tl
  obtain ⟨th1, ev1, hL1⟩ := hI.2.2.2.2.2.2.2.2
  have hh64 : (σ.1.2.2.1 1 4).toNatClampNeg ≤ 64 := by rw [hh, nI_clamp (by omega)]; exact h64
  have hc24 : c < 24 := by omega
  have hct : c ∈ σ.1.2.2.2 := (hW.2.1.2.1 c).mpr ⟨hc, h3⟩
  refine Ct.ofG mx_L_runWithout [some (.ref 83), some (.int (nI c))] rfl rfl (Nat.le_of_ble_eq_true rfl) (fun κ C hQ => ?_)
  refine u_aload_n (pc := 0) C d_L_runWithout_0 rfl ?_
  refine u_getr (pc := 1) (r := (gp 2)) C d_L_runWithout_1 fw_L_32 sC_83 rfl rfl ?_
  refine u_aload_n (pc := 4) C d_L_runWithout_4 rfl ?_
  refine u_getr (pc := 5) (r := (gp 0)) C d_L_runWithout_5 fw_L_21 sC_83 rfl rfl ?_
  refine u_callVv (pc := 8) C d_L_runWithout_8 mx_G_copyFrom mw_L_252 (shG0 (by decide)) rfl (c_G_copyFrom (k := 2) (k2 := 0) (by decide) (by decide) (by decide) hR htl hb24 hh64) rfl rfl (Nat.le_of_ble_eq_true rfl) (fun M8 q8 => ?_)
  obtain ⟨tR, tO⟩ := q8
  have tL := hL1.off tO (fun p q => g_l (by decide) q)
  have tcd := hcd.off tO (fun p h1 h2 => blk_cd h1 h2)
  have tI := hI.scr (tO.mono (fun p q => blk_scr (k := 2) (by decide) (by decide) q)) ⟨_, _, tL⟩
  refine u_aload_n (pc := 11) C d_L_runWithout_11 rfl ?_
  refine u_getr (pc := 12) (r := (gp 2)) C d_L_runWithout_12 fw_L_32 sC_83 rfl rfl ?_
  refine u_iload_n (pc := 15) C d_L_runWithout_15 rfl ?_
  refine u_callVv (pc := 16) C d_L_runWithout_16 mx_G_takeOff mw_L_272 (shG0 (by decide)) rfl (c_G_takeOff (k := 2) (by decide) tR htl hW.2.1.1 hb24 hc24) rfl rfl (Nat.le_of_ble_eq_true rfl) (fun M16 q16 => ?_)
  obtain ⟨tR2, tO2⟩ := q16
  have tL2 := tL.off tO2 (fun p q => g_l (by decide) q)
  have tcd2 := tcd.off tO2 (fun p h1 h2 => blk_cd h1 h2)
  have tI2 := tI.scr (tO2.mono (fun p q => blk_scr (k := 2) (by decide) (by decide) q)) ⟨_, _, tL2⟩
  have hm2 : m + 1 ≤ psum (put4 σ.1.2.2.1 c) σ.1.2.1 := (mvd_take hc h3).le hm
  refine u_aload_n (pc := 19) C d_L_runWithout_19 rfl ?_
  refine u_getr (pc := 20) (r := 75) C d_L_runWithout_20 fw_L_42 sC_83 rfl rfl ?_
  refine u_aload_n (pc := 23) C d_L_runWithout_23 rfl ?_
  refine u_getr (pc := 24) (r := (gp 2)) C d_L_runWithout_24 fw_L_32 sC_83 rfl rfl ?_
  refine u_aload_n (pc := 27) C d_L_runWithout_27 rfl ?_
  refine u_getr (pc := 28) (r := (op 1)) C d_L_runWithout_28 fw_L_67 sC_83 rfl rfl ?_
  refine u_callVv (pc := 31) C d_L_runWithout_31 mx_R_runPile mw_L_227 sC_75 rfl (c_R_runPile (k := 2) (b := 1) (by decide) (by decide) (hW.gone hct) tcd2 tR2 hm2 tL2) rfl rfl (Nat.le_of_ble_eq_true rfl) (fun M31 q31 => ?_)
  obtain ⟨t, m2, t200, kRun, k7, kR, kM, kW, kL, kO⟩ := q31
  have kx := runR_eq kRun
  have kI := tI2.scr (kO.mono (fun p q => run_scr (k := 2) (by decide) (by decide) q)) ⟨_, _, kL⟩
  refine u_vret (pc := 34) C d_L_runWithout_34 (hQ _ _ ⟨rfl, ?_⟩)
  exact ⟨t, m2, kx, kR, kI⟩
