/-! the class's calls that think of games, more of them -/
theorem isP_of {p r : Int32} (e : r = if p = 0 ∨ p = 1 then 1 else 0) (c : ¬ r = 0) : p = 0 ∨ p = 1 := by
  rcases Classical.em (p = 0 ∨ p = 1) with q | q
  · exact q
  · exact absurd (e.trans (if_neg q)) c
noncomputable def sp_swing (c : Int32) (σ : St) : Int32 := if hasF (nI σ.1.2.1) c = 0 then -2000000000 else if σ.1.2.2.1 3 c.toNatClampNeg = 3 then wor (runG σ.1.1 σ.1.2.1 (σ.1.2.2.1, σ.1.2.2.2)).1 (σ.1.1 1 c.toNatClampNeg) - wor (runG σ.1.1 σ.1.2.1 (put4 σ.1.2.2.1 c.toNatClampNeg, σ.1.2.2.2.erase c.toNatClampNeg)).1 (σ.1.1 1 c.toNatClampNeg) else -2000000000
set_option maxRecDepth 20000 in
theorem c_L_swing {c : Int32} {M : Mem} {σ : St} (hI : InvC M σ) : Ct lyC y_L_swing b_L_swing 4 (some .int) 7 [.ref 83, .int c] M (Pi fun r M' => r = sp_swing c σ ∧ InvC M' σ) := by
  obtain ⟨m, hm, hR⟩ := hI.R
  have hW := hI.1
  have hcd := hI.2.1
  have hn := hW.1.1
  have r8 := hR.2.2.2.2.2.2.1
  obtain ⟨h, h64, hh⟩ := hW.hb
  obtain ⟨htl, hbn, hb24⟩ := hW.tl
  obtain ⟨th1, ev1, hL1⟩ := hI.2.2.2.2.2.2.2.2
  have hh64 : (σ.1.2.2.1 1 4).toNatClampNeg ≤ 64 := by rw [hh, nI_clamp (by omega)]; exact h64
  refine Ct.ofG mx_L_swing [some (.ref 83), some (.int c), none, none] rfl rfl (Nat.le_of_ble_eq_true rfl) (fun κ C hQ => ?_)
  refine u_aload_n (pc := 0) C d_L_swing_0 rfl ?_
  refine u_getr (pc := 1) (r := (gp 0)) C d_L_swing_1 fw_L_21 sC_83 rfl rfl ?_
  refine u_iload_n (pc := 4) C d_L_swing_4 rfl ?_
  refine u_callVi (pc := 5) C d_L_swing_5 mx_G_has mw_L_137 (shG0 (by decide)) rfl (c_G_has (by decide)) rfl rfl (Nat.le_of_ble_eq_true rfl) (fun r5 M5 q5 => ?_)
  obtain ⟨e5, q5⟩ := q5
  have q5 := q5.symm
  subst q5
  refine u_if_eq (pc := 8) (tgt := 26) C d_L_swing_8 rfl (fun c8 => ?_) (fun c8 => ?_)
  · refine u_ldc (pc := 26) C (mc_L_159) d_L_swing_26 ?_
    refine u_iret (pc := 28) C d_L_swing_28 (hQ _ _ ⟨_, rfl, ?_⟩)
    rw [e5, r8] at c8
    rw [sp_swing, if_pos c8]
    exact ⟨rfl, hI⟩
  · refine u_aload_n (pc := 11) C d_L_swing_11 rfl ?_
    refine u_getr (pc := 12) (r := (gp 0)) C d_L_swing_12 fw_L_21 sC_83 rfl rfl ?_
    refine u_getr (pc := 15) (r := (gp 0 + 3)) C d_L_swing_15 fw_L_149 (shG0 (by decide)) rfl rfl ?_
    refine u_iload_n (pc := 18) C d_L_swing_18 rfl ?_
    refine u_callSi (pc := 19) C d_L_swing_19 mx_L_at mw_L_124 (c_L_at (shG3 (by decide))) rfl rfl (Nat.le_of_ble_eq_true rfl) (fun r19 M19 q19 => ?_)
    obtain ⟨e19, q19⟩ := q19
    have q19 := q19.symm
    subst q19
    refine u_iconst (pc := 22) (v := 3) C d_L_swing_22 (by decide) ?_
    refine u_icmp_eq (pc := 23) (tgt := 29) C d_L_swing_23 rfl (fun c23 => ?_) (fun c23 => ?_)
    · rw [e5, r8] at c8
      obtain ⟨d, hd, rfl⟩ := has_ix c8 hn
      have hd24 : d < 24 := by omega
      rw [e19, atF_in hd24 (by decide), hR.2.2.1 d hd24] at c23
      have hp := (hW.1.2 d hd).2.1
      refine u_aload_n (pc := 29) C d_L_swing_29 rfl ?_
      refine u_getr (pc := 30) (r := 0) C d_L_swing_30 fw_L_10 sC_83 rfl rfl ?_
      refine u_getr (pc := 33) (r := 2) C d_L_swing_33 fw_L_141 sC_0 rfl rfl ?_
      refine u_iload_n (pc := 36) C d_L_swing_36 rfl ?_
      refine u_callSi (pc := 37) C d_L_swing_37 mx_L_at mw_L_124 (c_L_at sC_2) rfl rfl (Nat.le_of_ble_eq_true rfl) (fun r37 M37 q37 => ?_)
      obtain ⟨e37, q37⟩ := q37
      have q37 := q37.symm
      subst q37
      refine u_istore_n (pc := 40) C d_L_swing_40 rfl (fun x40 e40 L9 hL9 => ?_)
      obtain rfl : L9 = [some (.ref 83), some (.int (nI d)), some (.int x40), none] := hL9.symm
      have e9 : x40 = σ.1.1 1 d := by rw [e40, e37, (at_cd hcd hd24).2.1]
      clear e40
      subst e9
      refine u_aload_n (pc := 41) C d_L_swing_41 rfl ?_
      refine u_getr (pc := 42) (r := (gp 2)) C d_L_swing_42 fw_L_32 sC_83 rfl rfl ?_
      refine u_aload_n (pc := 45) C d_L_swing_45 rfl ?_
      refine u_getr (pc := 46) (r := (gp 0)) C d_L_swing_46 fw_L_21 sC_83 rfl rfl ?_
      refine u_callVv (pc := 49) C d_L_swing_49 mx_G_copyFrom mw_L_252 (shG0 (by decide)) rfl (c_G_copyFrom (k := 2) (k2 := 0) (by decide) (by decide) (by decide) hR htl hb24 hh64) rfl rfl (Nat.le_of_ble_eq_true rfl) (fun M49 q49 => ?_)
      obtain ⟨tR, tO⟩ := q49
      have tL := hL1.off tO (fun p q => g_l (by decide) q)
      have tcd := hcd.off tO (fun p h1 h2 => blk_cd h1 h2)
      have tI := hI.scr (tO.mono (fun p q => blk_scr (k := 2) (by decide) (by decide) q)) ⟨_, _, tL⟩
      refine u_aload_n (pc := 52) C d_L_swing_52 rfl ?_
      refine u_getr (pc := 53) (r := 75) C d_L_swing_53 fw_L_42 sC_83 rfl rfl ?_
      refine u_aload_n (pc := 56) C d_L_swing_56 rfl ?_
      refine u_getr (pc := 57) (r := (gp 2)) C d_L_swing_57 fw_L_32 sC_83 rfl rfl ?_
      refine u_aload_n (pc := 60) C d_L_swing_60 rfl ?_
      refine u_getr (pc := 61) (r := (op 1)) C d_L_swing_61 fw_L_67 sC_83 rfl rfl ?_
      refine u_callVv (pc := 64) C d_L_swing_64 mx_R_runPile mw_L_227 sC_75 rfl (c_R_runPile (k := 2) (b := 1) (by decide) (by decide) hW tcd tR hm tL) rfl rfl (Nat.le_of_ble_eq_true rfl) (fun M64 q64 => ?_)
      obtain ⟨t, m2, t200, kRun, k7, kR, kM, kW, kL, kO⟩ := q64
      have kx := runR_eq kRun
      have kI := tI.scr (kO.mono (fun p q => run_scr (k := 2) (by decide) (by decide) q)) ⟨_, _, kL⟩
      refine u_aload_n (pc := 67) C d_L_swing_67 rfl ?_
      refine u_getr (pc := 68) (r := (gp 2)) C d_L_swing_68 fw_L_32 sC_83 rfl rfl ?_
      refine u_iload_n (pc := 71) C d_L_swing_71 rfl ?_
      refine u_callVi (pc := 72) C d_L_swing_72 mx_G_worthTo mw_L_258 (shG0 (by decide)) rfl (c_G_worthTo (k := 2) (by decide)) rfl rfl (Nat.le_of_ble_eq_true rfl) (fun r72 M72 q72 => ?_)
      obtain ⟨e72, q72⟩ := q72
      have q72 := q72.symm
      subst q72
      refine u_istore_n (pc := 75) C d_L_swing_75 rfl (fun x75 e75 L9 hL9 => ?_)
      obtain rfl : L9 = [some (.ref 83), some (.int (nI d)), some (.int (σ.1.1 1 d)), some (.int x75)] := hL9.symm
      refine u_aload_n (pc := 76) C d_L_swing_76 rfl ?_
      refine u_iload_n (pc := 77) C d_L_swing_77 rfl ?_
      refine u_callVv (pc := 78) C d_L_swing_78 mx_L_runWithout mw_L_269 sC_83 rfl (c_L_runWithout kI hd c23) rfl rfl (Nat.le_of_ble_eq_true rfl) (fun M78 q78 => ?_)
      obtain ⟨t2, m3, kx2, kR2, kI2⟩ := q78
      refine u_iload_n (pc := 81) C d_L_swing_81 rfl ?_
      refine u_aload_n (pc := 82) C d_L_swing_82 rfl ?_
      refine u_getr (pc := 83) (r := (gp 2)) C d_L_swing_83 fw_L_32 sC_83 rfl rfl ?_
      refine u_iload_n (pc := 86) C d_L_swing_86 rfl ?_
      refine u_callVi (pc := 87) C d_L_swing_87 mx_G_worthTo mw_L_258 (shG0 (by decide)) rfl (c_G_worthTo (k := 2) (by decide)) rfl rfl (Nat.le_of_ble_eq_true rfl) (fun r87 M87 q87 => ?_)
      obtain ⟨e87, q87⟩ := q87
      have q87 := q87.symm
      subst q87
      refine u_isub (pc := 90) C d_L_swing_90 ?_
      refine u_iret (pc := 91) C d_L_swing_91 (hQ _ _ ⟨_, rfl, ?_⟩)
      refine ⟨?_, kI2⟩
      rw [sp_swing, if_neg c8, nI_clamp (by omega), if_pos c23, e75, e72, kR.wo hp, e87, kR2.wo hp, runG, kx, runG, kx2]
      rfl
    · refine u_ldc (pc := 26) C (mc_L_159) d_L_swing_26 ?_
      refine u_iret (pc := 28) C d_L_swing_28 (hQ _ _ ⟨_, rfl, ?_⟩)
      rw [e5, r8] at c8
      obtain ⟨d, hd, rfl⟩ := has_ix c8 hn
      have hd24 : d < 24 := by omega
      rw [e19, atF_in hd24 (by decide), hR.2.2.1 d hd24] at c23
      rw [sp_swing, if_neg c8, nI_clamp (by omega), if_neg c23]
      exact ⟨rfl, hI⟩
def quiet (s : Gm × List Nat) : Prop := s.1 1 4 = 0 ∧ lost s.1 = false
noncomputable def ahF (cd : Nat → Nat → Int32) (n : Nat) : Nat → Gm × List Nat → Nat × (Gm × List Nat)
  | 0, s => (0, s)
  | k + 1, s => @ite _ (quiet s) (Classical.propDecidable _) ((ahF cd n k (runG cd n (tkt cd n s))).1 + 1, (ahF cd n k (runG cd n (tkt cd n s))).2) (0, s)
theorem ahF_y {cd : Nat → Nat → Int32} {n k : Nat} {s : Gm × List Nat} (h : quiet s) : ahF cd n (k + 1) s = ((ahF cd n k (runG cd n (tkt cd n s))).1 + 1, (ahF cd n k (runG cd n (tkt cd n s))).2) := by rw [ahF, if_pos h]
theorem ahF_n {cd : Nat → Nat → Int32} {n k : Nat} {s : Gm × List Nat} (h : ¬ quiet s) : ahF cd n (k + 1) s = (0, s) := by rw [ahF, if_neg h]
noncomputable def sp_ahead (k w : Int32) (σ : St) : Int32 := if k < 1 then -2000000000 else if k ≤ 9 then (if w < 0 then -2000000000 else if w ≤ 4 then (if w = 0 then nI (ahF σ.1.1 σ.1.2.1 k.toNatClampNeg (σ.1.2.2.1, σ.1.2.2.2)).1 else if w = 1 then (ahF σ.1.1 σ.1.2.1 k.toNatClampNeg (σ.1.2.2.1, σ.1.2.2.2)).2.1 0 0 else if w = 2 then (ahF σ.1.1 σ.1.2.1 k.toNatClampNeg (σ.1.2.2.1, σ.1.2.2.2)).2.1 0 1 else if w = 3 then nI (atP σ.1.1 σ.1.2.1 (ahF σ.1.1 σ.1.2.1 k.toNatClampNeg (σ.1.2.2.1, σ.1.2.2.2)).2.1 0 1).length else nI (atP σ.1.1 σ.1.2.1 (ahF σ.1.1 σ.1.2.1 k.toNatClampNeg (σ.1.2.2.1, σ.1.2.2.2)).2.1 1 1).length) else -2000000000) else -2000000000
set_option maxRecDepth 20000 in
theorem lp_ahT {κ : KX} {M : Mem} {σ : St} {k w : Int32} {m : Nat} {q : Nat × (Gm × List Nat)} (hI : InvC M σ) (hR : RepG M 2 σ.1.2.1 q.2.1 q.2.2 m) (C : Cx κ lyC y_L_ahead.cls b_L_ahead 4 (some .int) 6) (hQ : ∀ v M', Pi (fun r M' => r = (if w = 0 then nI q.1 else if w = 1 then q.2.1 0 0 else if w = 2 then q.2.1 0 1 else if w = 3 then nI (atP σ.1.1 σ.1.2.1 q.2.1 0 1).length else nI (atP σ.1.1 σ.1.2.1 q.2.1 1 1).length) ∧ InvC M' σ) v M' → KQ κ v M') : G κ lyC 87 [some (.ref 83), some (.int k), some (.int w), some (.int (nI q.1))] [] M := by
  have hcd := hI.2.1
  have hn := hI.1.1.1
  refine u_iload_n (pc := 87) C d_L_ahead_87 rfl ?_
  refine u_top (fun t88 e88 => ?_)
  rcases sw_0_3 t88 with q88 | q88 | q88 | q88 | q88
  · refine u_tsIn (pc := 88) (tgt := 120) C d_L_ahead_88 (by rw [q88]; decide) (by rw [q88]; decide) (by rw [q88]; rfl) rfl ?_
    refine u_iload_n (pc := 120) C d_L_ahead_120 rfl ?_
    refine u_iret (pc := 121) C d_L_ahead_121 (hQ _ _ ⟨_, rfl, ?_⟩)
    refine ⟨?_, hI⟩
    subst e88
    rw [if_pos q88]
  · refine u_tsIn (pc := 88) (tgt := 122) C d_L_ahead_88 (by rw [q88]; decide) (by rw [q88]; decide) (by rw [q88]; rfl) rfl ?_
    refine u_aload_n (pc := 122) C d_L_ahead_122 rfl ?_
    refine u_getr (pc := 123) (r := (gp 2)) C d_L_ahead_123 fw_L_32 sC_83 rfl rfl ?_
    refine u_getr (pc := 126) (r := (gp 2 + 1)) C d_L_ahead_126 fw_L_167 (shG0 (by decide)) rfl rfl ?_
    refine u_iconst (pc := 129) (v := 0) C d_L_ahead_129 (by decide) ?_
    refine u_callSi (pc := 130) C d_L_ahead_130 mx_L_at mw_L_124 (c_L_at (shG1 (by decide))) rfl rfl (Nat.le_of_ble_eq_true rfl) (fun r130 M130 q130 => ?_)
    obtain ⟨e130, q130⟩ := q130
    have q130 := q130.symm
    subst q130
    refine u_iret (pc := 133) C d_L_ahead_133 (hQ _ _ ⟨_, rfl, ?_⟩)
    refine ⟨?_, hI⟩
    subst e88
    rw [q88, if_neg (by decide), if_pos rfl, e130, hR.life (Or.inl rfl)]
    rfl
  · refine u_tsIn (pc := 88) (tgt := 134) C d_L_ahead_88 (by rw [q88]; decide) (by rw [q88]; decide) (by rw [q88]; rfl) rfl ?_
    refine u_aload_n (pc := 134) C d_L_ahead_134 rfl ?_
    refine u_getr (pc := 135) (r := (gp 2)) C d_L_ahead_135 fw_L_32 sC_83 rfl rfl ?_
    refine u_getr (pc := 138) (r := (gp 2 + 1)) C d_L_ahead_138 fw_L_167 (shG0 (by decide)) rfl rfl ?_
    refine u_iconst (pc := 141) (v := 1) C d_L_ahead_141 (by decide) ?_
    refine u_callSi (pc := 142) C d_L_ahead_142 mx_L_at mw_L_124 (c_L_at (shG1 (by decide))) rfl rfl (Nat.le_of_ble_eq_true rfl) (fun r142 M142 q142 => ?_)
    obtain ⟨e142, q142⟩ := q142
    have q142 := q142.symm
    subst q142
    refine u_iret (pc := 145) C d_L_ahead_145 (hQ _ _ ⟨_, rfl, ?_⟩)
    refine ⟨?_, hI⟩
    subst e88
    rw [q88, if_neg (by decide), if_neg (by decide), if_pos rfl, e142, hR.life (Or.inr rfl)]
    rfl
  · refine u_tsIn (pc := 88) (tgt := 146) C d_L_ahead_88 (by rw [q88]; decide) (by rw [q88]; decide) (by rw [q88]; rfl) rfl ?_
    refine u_aload_n (pc := 146) C d_L_ahead_146 rfl ?_
    refine u_getr (pc := 147) (r := (gp 2)) C d_L_ahead_147 fw_L_32 sC_83 rfl rfl ?_
    refine u_iconst (pc := 150) (v := 0) C d_L_ahead_150 (by decide) ?_
    refine u_iconst (pc := 151) (v := 1) C d_L_ahead_151 (by decide) ?_
    refine u_callVi (pc := 152) C d_L_ahead_152 mx_G_countIn mw_L_170 (shG0 (by decide)) rfl (c_G_countIn (k := 2) (by decide) hR hcd hn) rfl rfl (Nat.le_of_ble_eq_true rfl) (fun r152 M152 q152 => ?_)
    obtain ⟨e152, q152⟩ := q152
    have q152 := q152.symm
    subst q152
    refine u_iret (pc := 155) C d_L_ahead_155 (hQ _ _ ⟨_, rfl, ?_⟩)
    refine ⟨?_, hI⟩
    subst e88
    rw [q88, if_neg (by decide), if_neg (by decide), if_neg (by decide), if_pos rfl, e152]
  · refine u_tsOut (pc := 88) (tgt := 156) C d_L_ahead_88 q88 rfl ?_
    refine u_aload_n (pc := 156) C d_L_ahead_156 rfl ?_
    refine u_getr (pc := 157) (r := (gp 2)) C d_L_ahead_157 fw_L_32 sC_83 rfl rfl ?_
    refine u_iconst (pc := 160) (v := 1) C d_L_ahead_160 (by decide) ?_
    refine u_iconst (pc := 161) (v := 1) C d_L_ahead_161 (by decide) ?_
    refine u_callVi (pc := 162) C d_L_ahead_162 mx_G_countIn mw_L_170 (shG0 (by decide)) rfl (c_G_countIn (k := 2) (by decide) hR hcd hn) rfl rfl (Nat.le_of_ble_eq_true rfl) (fun r162 M162 q162 => ?_)
    obtain ⟨e162, q162⟩ := q162
    have q162 := q162.symm
    subst q162
    refine u_iret (pc := 165) C d_L_ahead_165 (hQ _ _ ⟨_, rfl, ?_⟩)
    refine ⟨?_, hI⟩
    subst e88
    have z : ∀ k : Int32, (0 ≤ k.toInt ∧ k.toInt ≤ 3) → ¬ t88 = k := fun k hk q => by rw [q] at q88; rcases q88 with q88 | q88 <;> omega
    rw [if_neg (z 0 (by decide)), if_neg (z 1 (by decide)), if_neg (z 2 (by decide)), if_neg (z 3 (by decide)), e162]
set_option maxRecDepth 20000 in
theorem lp_ahead {κ : KX} {σ : St} {k : Nat} {w : Int32} (hk9 : k ≤ 9) (C : Cx κ lyC y_L_ahead.cls b_L_ahead 4 (some .int) 6) : ∀ (f j i : Nat) (s : Gm × List Nat) (m : Nat) (M : Mem), j < f → i + j = k → InvC M σ → RepG M 2 σ.1.2.1 s.1 s.2 m → m ≤ psum s.1 σ.1.2.1 → WFg σ.1.1 σ.1.2.1 s.1 s.2 → (∀ M9 m9, InvC M9 σ → RepG M9 2 σ.1.2.1 (ahF σ.1.1 σ.1.2.1 j s).2.1 (ahF σ.1.1 σ.1.2.1 j s).2.2 m9 → G κ lyC 87 [some (.ref 83), some (.int (nI k)), some (.int w), some (.int (nI (i + (ahF σ.1.1 σ.1.2.1 j s).1)))] [] M9) → G κ lyC 36 [some (.ref 83), some (.int (nI k)), some (.int w), some (.int (nI i))] [] M := by
  intro f
  induction f with
  | zero => intro j i s m M h; omega
  | succ f ih =>
    intro j i s m M hj hi hI hR hm hW hK
    have hcd := hI.2.1
    have hlo := hR.lostI
    have r10 : M.1 (gp 2) 9 = s.1 1 4 := hR.2.2.2.2.2.2.2.2.1
    obtain ⟨th1, ev1, hL1⟩ := hI.2.2.2.2.2.2.2.2
    have hik : nI k ≤ nI i ↔ k ≤ i := nI_leI (by omega) (by omega)
    have hqt : (if M.1 (gp 2) 9 = 0 ∧ lbF M 2 = 0 then (1 : Int32) else 0) = 0 ↔ ¬ quiet s := by
      have e : (M.1 (gp 2) 9 = 0 ∧ lbF M 2 = 0) ↔ quiet s := by
        rw [r10, hlo]
        exact Iff.rfl
      constructor
      · intro z q
        rw [if_pos (e.mpr q)] at z
        exact absurd z (by decide)
      · intro z
        rw [if_neg (fun q => z (e.mp q))]
    refine u_iload_n (pc := 36) C d_L_ahead_36 rfl ?_
    refine u_iload_n (pc := 37) C d_L_ahead_37 rfl ?_
    refine u_icmp_ge (pc := 38) (tgt := 87) C d_L_ahead_38 rfl (fun c38 => ?_) (fun c38 => ?_)
    · have hj0 : j = 0 := by rw [hik] at c38; omega
      subst hj0
      exact hK M m hI hR
    · refine u_aload_n (pc := 41) C d_L_ahead_41 rfl ?_
      refine u_getr (pc := 42) (r := (gp 2)) C d_L_ahead_42 fw_L_32 sC_83 rfl rfl ?_
      refine u_callVi (pc := 45) C d_L_ahead_45 mx_G_isQuiet mw_L_242 (shG0 (by decide)) rfl (c_G_isQuiet (k := 2) (by decide)) rfl rfl (Nat.le_of_ble_eq_true rfl) (fun r45 M45 q45 => ?_)
      obtain ⟨e45, q45⟩ := q45
      have q45 := q45.symm
      subst q45
      refine u_if_eq (pc := 48) (tgt := 87) C d_L_ahead_48 rfl (fun c48 => ?_) (fun c48 => ?_)
      · rw [e45, hqt] at c48
        obtain ⟨j, rfl⟩ : ∃ y, j = y + 1 := ⟨j - 1, by rw [hik] at c38; omega⟩
        rw [ahF_n c48] at hK
        exact hK M m hI hR
      · refine u_aload_n (pc := 51) C d_L_ahead_51 rfl ?_
        refine u_getr (pc := 52) (r := 75) C d_L_ahead_52 fw_L_42 sC_83 rfl rfl ?_
        refine u_aload_n (pc := 55) C d_L_ahead_55 rfl ?_
        refine u_getr (pc := 56) (r := (gp 2)) C d_L_ahead_56 fw_L_32 sC_83 rfl rfl ?_
        refine u_aload_n (pc := 59) C d_L_ahead_59 rfl ?_
        refine u_getr (pc := 60) (r := (op 1)) C d_L_ahead_60 fw_L_67 sC_83 rfl rfl ?_
        refine u_callVv (pc := 63) C d_L_ahead_63 mx_R_takeTurn mw_L_246 sC_75 rfl (c_R_takeTurn (k := 2) (b := 1) (by decide) (by decide) hW hcd hR hm hL1) rfl rfl (Nat.le_of_ble_eq_true rfl) (fun M63 q63 => ?_)
        obtain ⟨m2, tR, tm, tW, tL, tO⟩ := q63
        have tI := hI.scr (tO.mono (fun p q => en_scr (k := 2) (by decide) (by decide) q)) ⟨_, _, tL⟩
        have tcd := tI.2.1
        refine u_aload_n (pc := 66) C d_L_ahead_66 rfl ?_
        refine u_getr (pc := 67) (r := 75) C d_L_ahead_67 fw_L_42 sC_83 rfl rfl ?_
        refine u_aload_n (pc := 70) C d_L_ahead_70 rfl ?_
        refine u_getr (pc := 71) (r := (gp 2)) C d_L_ahead_71 fw_L_32 sC_83 rfl rfl ?_
        refine u_aload_n (pc := 74) C d_L_ahead_74 rfl ?_
        refine u_getr (pc := 75) (r := (op 1)) C d_L_ahead_75 fw_L_67 sC_83 rfl rfl ?_
        refine u_callVv (pc := 78) C d_L_ahead_78 mx_R_runPile mw_L_227 sC_75 rfl (c_R_runPile (k := 2) (b := 1) (by decide) (by decide) tW tcd tR tm tL) rfl rfl (Nat.le_of_ble_eq_true rfl) (fun M78 q78 => ?_)
        obtain ⟨t, m3, t200, kRun, k7, kR, kM, kW, kL, kO⟩ := q78
        have kx := runR_eq kRun
        have kI := tI.scr (kO.mono (fun p q => run_scr (k := 2) (by decide) (by decide) q)) ⟨_, _, kL⟩
        refine u_iinc (pc := 81) (v2 := 1) C d_L_ahead_81 rfl rfl (by decide) (fun x81 e81 L9 hL9 => ?_)
        obtain rfl : L9 = [some (.ref 83), some (.int (nI k)), some (.int w), some (.int x81)] := hL9.symm
        refine u_goto (pc := 84) (tgt := 36) C d_L_ahead_84 rfl ?_
        rw [e45, hqt] at c48
        have c48 := Classical.not_not.mp c48
        obtain ⟨j, rfl⟩ : ∃ y, j = y + 1 := ⟨j - 1, by rw [hik] at c38; omega⟩
        rw [ahF_y c48] at hK
        have er : runG σ.1.1 σ.1.2.1 (tkt σ.1.1 σ.1.2.1 s) = runS σ.1.1 σ.1.2.1 (tkt σ.1.1 σ.1.2.1 s) t := by rw [runG, kx]
        obtain rfl : x81 = nI (i + 1) := by rw [e81, nI_succ]
        rw [er] at hK
        refine ih j (i + 1) (runS σ.1.1 σ.1.2.1 (tkt σ.1.1 σ.1.2.1 s) t) m3 _ (by omega) (by omega) kI kR kM kW (fun M9 m9 h1 h2 => ?_)
        have h9 := hK M9 m9 h1 h2
        rw [show i + ((ahF σ.1.1 σ.1.2.1 j (runS σ.1.1 σ.1.2.1 (tkt σ.1.1 σ.1.2.1 s) t)).1 + 1) = i + 1 + (ahF σ.1.1 σ.1.2.1 j (runS σ.1.1 σ.1.2.1 (tkt σ.1.1 σ.1.2.1 s) t)).1 by omega] at h9
        exact h9
set_option maxRecDepth 20000 in
theorem c_L_ahead {k w : Int32} {M : Mem} {σ : St} (hI : InvC M σ) : Ct lyC y_L_ahead b_L_ahead 4 (some .int) 6 [.ref 83, .int k, .int w] M (Pi fun r M' => r = sp_ahead k w σ ∧ InvC M' σ) := by
  obtain ⟨m, hm, hR⟩ := hI.R
  have hW := hI.1
  have hcd := hI.2.1
  have hn := hW.1.1
  have r8 := hR.2.2.2.2.2.2.1
  obtain ⟨h, h64, hh⟩ := hW.hb
  obtain ⟨htl, hbn, hb24⟩ := hW.tl
  obtain ⟨th1, ev1, hL1⟩ := hI.2.2.2.2.2.2.2.2
  have hh64 : (σ.1.2.2.1 1 4).toNatClampNeg ≤ 64 := by rw [hh, nI_clamp (by omega)]; exact h64
  refine Ct.ofG mx_L_ahead [some (.ref 83), some (.int k), some (.int w), none] rfl rfl (Nat.le_of_ble_eq_true rfl) (fun κ C hQ => ?_)
  refine u_iload_n (pc := 0) C d_L_ahead_0 rfl ?_
  refine u_iconst (pc := 1) (v := 1) C d_L_ahead_1 (by decide) ?_
  refine u_icmp_lt (pc := 2) (tgt := 20) C d_L_ahead_2 rfl (fun c2 => ?_) (fun c2 => ?_)
  · refine u_ldc (pc := 20) C (mc_L_159) d_L_ahead_20 ?_
    refine u_iret (pc := 22) C d_L_ahead_22 (hQ _ _ ⟨_, rfl, ?_⟩)
    rw [sp_ahead, if_pos c2]
    exact ⟨rfl, hI⟩
  · refine u_iload_n (pc := 5) C d_L_ahead_5 rfl ?_
    refine u_bipush (pc := 6) (v := 9) C d_L_ahead_6 (by decide) ?_
    refine u_icmp_gt (pc := 8) (tgt := 20) C d_L_ahead_8 rfl (fun c8 => ?_) (fun c8 => ?_)
    · refine u_ldc (pc := 20) C (mc_L_159) d_L_ahead_20 ?_
      refine u_iret (pc := 22) C d_L_ahead_22 (hQ _ _ ⟨_, rfl, ?_⟩)
      rw [sp_ahead, if_neg c2, if_neg (Int32.not_le.mpr c8)]
      exact ⟨rfl, hI⟩
    · refine u_iload_n (pc := 11) C d_L_ahead_11 rfl ?_
      refine u_if_lt (pc := 12) (tgt := 20) C d_L_ahead_12 rfl (fun c12 => ?_) (fun c12 => ?_)
      · refine u_ldc (pc := 20) C (mc_L_159) d_L_ahead_20 ?_
        refine u_iret (pc := 22) C d_L_ahead_22 (hQ _ _ ⟨_, rfl, ?_⟩)
        rw [sp_ahead, if_neg c2, if_pos (Int32.not_lt.mp c8), if_pos c12]
        exact ⟨rfl, hI⟩
      · refine u_iload_n (pc := 15) C d_L_ahead_15 rfl ?_
        refine u_iconst (pc := 16) (v := 4) C d_L_ahead_16 (by decide) ?_
        refine u_icmp_le (pc := 17) (tgt := 23) C d_L_ahead_17 rfl (fun c17 => ?_) (fun c17 => ?_)
        · refine u_aload_n (pc := 23) C d_L_ahead_23 rfl ?_
          refine u_getr (pc := 24) (r := (gp 2)) C d_L_ahead_24 fw_L_32 sC_83 rfl rfl ?_
          refine u_aload_n (pc := 27) C d_L_ahead_27 rfl ?_
          refine u_getr (pc := 28) (r := (gp 0)) C d_L_ahead_28 fw_L_21 sC_83 rfl rfl ?_
          refine u_callVv (pc := 31) C d_L_ahead_31 mx_G_copyFrom mw_L_252 (shG0 (by decide)) rfl (c_G_copyFrom (k := 2) (k2 := 0) (by decide) (by decide) (by decide) hR htl hb24 hh64) rfl rfl (Nat.le_of_ble_eq_true rfl) (fun M31 q31 => ?_)
          obtain ⟨tR, tO⟩ := q31
          have tL := hL1.off tO (fun p q => g_l (by decide) q)
          have tcd := hcd.off tO (fun p h1 h2 => blk_cd h1 h2)
          have tI := hI.scr (tO.mono (fun p q => blk_scr (k := 2) (by decide) (by decide) q)) ⟨_, _, tL⟩
          refine u_iconst (pc := 34) (v := 0) C d_L_ahead_34 (by decide) ?_
          refine u_istore_n (pc := 35) C d_L_ahead_35 rfl (fun x35 e35 L9 hL9 => ?_)
          obtain rfl : L9 = [some (.ref 83), some (.int k), some (.int w), some (.int x35)] := hL9.symm
          subst e35
          have hk0 : ¬ k < 0 := fun q => c2 (Int32.lt_trans q (by decide))
          obtain ⟨j, hj, rfl⟩ := nI_of hk0
          have hj9 : j ≤ 9 := (nI_leI (b := 9) hj (by decide)).mp (Int32.not_lt.mp c8)
          refine lp_ahead hj9 C (j + 1) j 0 (σ.1.2.2.1, σ.1.2.2.2) m M31 (Nat.lt_succ_self _) (by omega) tI tR hm hW (fun M9 m9 h1 h2 => ?_)
          rw [Nat.zero_add]
          refine lp_ahT h1 h2 C (fun v M' hv => hQ v M' ?_)
          obtain ⟨r, rfl, z1, z2⟩ := hv
          refine ⟨r, rfl, ?_, z2⟩
          rw [z1, sp_ahead, if_neg c2, if_pos (Int32.not_lt.mp c8), if_neg c12, if_pos c17, nI_clamp hj]
        · refine u_ldc (pc := 20) C (mc_L_159) d_L_ahead_20 ?_
          refine u_iret (pc := 22) C d_L_ahead_22 (hQ _ _ ⟨_, rfl, ?_⟩)
          rw [sp_ahead, if_neg c2, if_pos (Int32.not_lt.mp c8), if_neg c12, if_neg c17]
          exact ⟨rfl, hI⟩
