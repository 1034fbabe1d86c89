/-! the class's calls that resolve things -/
def setR (σ : St) (s : Gm × List Nat) (th ev : List Int32) : St := ((σ.1.1, σ.1.2.1, s.1, s.2), σ.2.1, σ.2.2.1, σ.2.2.2.1, σ.2.2.2.2.1, (th, ev))
def setE (σ : St) (e : Int32 × Int32 × Int32) : St := (σ.1, σ.2.1, σ.2.2.1, σ.2.2.2.1, e, σ.2.2.2.2.2)
def engS (p : Nat) : Prop := blk 0 p ∨ scrS p ∨ lblk 0 p
theorem InvC.eng {M M' : Mem} {σ : St} {s : Gm × List Nat} {th ev : List Int32} {m : Nat} (h : InvC M σ) (ho : Off engS M M') (hR : RepG M' 0 σ.1.2.1 s.1 s.2 m) (hm : m ≤ psum s.1 σ.1.2.1) (hW : WFg σ.1.1 σ.1.2.1 s.1 s.2) (hL : LGd M' 0 th ev) (hl : ∃ th ev, LGd M' 1 th ev) : InvC M' (setR σ s th ev) := by
  obtain ⟨h1, h2, -, h4, h5, h6, h7, -, -⟩ := h
  have e0 : ∀ p, engS p → (6 ≤ p ∧ p < 13) ∨ (20 ≤ p ∧ p < 76) := fun p q => by
    rcases q with q | q | q
    · have z1 := q.1
      have z2 := q.2
      unfold gp at z1 z2
      omega
    · rcases q with q | q | q <;> omega
    · have z1 := q.1
      have z2 := q.2
      unfold op at z1 z2
      omega
  have k : ∀ p, 76 ≤ p → M'.1 p = M.1 p := fun p hp => (ho p (fun q => by have q1 := e0 p q; omega)).1
  refine ⟨hW, h2.off ho (fun p q1 q2 z => by have := e0 p z; omega), ⟨m, hm, hR⟩, ?_, ?_, ?_, ?_, hL, hl⟩
  · rw [k 83 (by decide)]
    show match σ.2.1 with | none => _ | some i => _
    cases hi : σ.2.1 with
    | none => rw [hi] at h4; exact h4
    | some i =>
      rw [hi] at h4
      obtain ⟨a1, a2, a3, m', a4, a5⟩ := h4
      exact ⟨a1, a2, a3, m', a4, a5.off ho (fun p q z => by
        have q1 := e0 p q
        have z1 := z.1
        have z2 := z.2
        unfold gp at z1 z2
        omega)⟩
  · rw [k 76 (by decide), k 77 (by decide)]; exact h5
  · rw [k 82 (by decide)]; exact h6
  · rw [k 83 (by decide)]; exact h7
theorem InvC.ends {M : Mem} {σ : St} {a b c : Int32} (h : InvC M σ) : InvC (up (up (up M 83 13 a) 83 14 b) 83 15 c) (setE σ (a, b, c)) := by
  obtain ⟨h1, h2, ⟨m, hm, h3⟩, h4, h5, h6, h7, h8, th, ev, h9⟩ := h
  have ho : Off (fun p => p = 83) M (up (up (up M 83 13 a) 83 14 b) 83 15 c) := ((Off.up (S := fun p => p = 83) rfl).trans (Off.up (S := fun p => p = 83) rfl)).trans (Off.up (S := fun p => p = 83) rfl)
  have nb : ∀ k, k < 6 → ∀ p, p = 83 → ¬ blk k p := fun k hk p q z => by
    have z2 := z.2
    unfold gp at z2
    omega
  have nl : ∀ b, b < 2 → ∀ p, p = 83 → ¬ lblk b p := fun b hb p q z => by
    have z2 := z.2
    unfold op at z2
    omega
  refine ⟨h1, h2.off ho (fun p q1 q2 z => by omega), ⟨m, hm, h3.off ho (nb 0 (by decide))⟩, ?_, ?_, ?_, ?_, h8.off ho (nl 0 (by decide)), ⟨th, ev, h9.off ho (nl 1 (by decide))⟩⟩
  · rw [up_j (show 3 ≠ 15 by decide), up_j (show 3 ≠ 14 by decide), up_j (show 3 ≠ 13 by decide)]
    show match σ.2.1 with | none => _ | some i => _
    cases hi : σ.2.1 with
    | none => rw [hi] at h4; exact h4
    | some i =>
      rw [hi] at h4
      obtain ⟨a1, a2, a3, m', a4, a5⟩ := h4
      exact ⟨a1, a2, a3, m', a4, a5.off ho (nb 1 (by decide))⟩
  · rw [up_ne (show (76 : Nat) ≠ 83 by decide), up_ne (show (76 : Nat) ≠ 83 by decide), up_ne (show (76 : Nat) ≠ 83 by decide), up_ne (show (77 : Nat) ≠ 83 by decide), up_ne (show (77 : Nat) ≠ 83 by decide), up_ne (show (77 : Nat) ≠ 83 by decide)]; exact h5
  · rw [up_ne (show (82 : Nat) ≠ 83 by decide), up_ne (show (82 : Nat) ≠ 83 by decide), up_ne (show (82 : Nat) ≠ 83 by decide)]; exact h6
  · exact ⟨by simp [up, setE], by simp [up, setE], by simp [up, setE]⟩
theorem lblk_p {b p : Nat} (h : lblk b p) : 63 + 3 * b ≤ p ∧ p < 66 + 3 * b := by
  have h1 := h.1
  have h2 := h.2
  unfold op at h1 h2
  omega
theorem eng_en {p : Nat} {b : Nat} (hb : b < 2) (h : EngS 0 b p) : engS p := by
  rcases h with h | h | h | h
  · exact Or.inl h
  · have := lblk_p h
    rcases (show b = 0 ∨ b = 1 by omega) with rfl | rfl
    · exact Or.inr (Or.inr h)
    · exact Or.inr (Or.inl (Or.inr (Or.inr (by omega))))
  · have h1 := h.1
    have h2 := h.2
    unfold yp at h1 h2
    exact Or.inr (Or.inl (Or.inr (Or.inl (by omega))))
  · rcases h with h | h <;> (unfold ep at h; exact Or.inr (Or.inl (Or.inr (Or.inl (by omega)))))
theorem eng_run {p : Nat} {b : Nat} (hb : b < 2) (h : RunS 0 b p) : engS p := by
  rcases h with h | h | h
  · exact eng_en hb h
  · have h1 := h.1
    have h2 := h.2
    exact Or.inr (Or.inl (Or.inr (Or.inr (by omega))))
  · exact Or.inr (Or.inl (Or.inr (Or.inr (by omega))))
theorem eng_l1 {p : Nat} (h : RunS 0 0 p) : ¬ lblk 1 p := fun q => by
  have q := lblk_p q
  rcases h with (h | h | h | h) | h | h
  · have z2 := h.2
    unfold gp at z2
    omega
  · have := lblk_p h
    omega
  · have h2 := h.2
    unfold yp at h2
    omega
  · rcases h with h | h <;> (unfold ep at h; omega)
  · have h1 := h.1
    omega
  · omega
theorem eng_l0 {p : Nat} (h : RunS 0 1 p) : ¬ lblk 0 p := fun q => by
  have q := lblk_p q
  rcases h with (h | h | h | h) | h | h
  · have z2 := h.2
    unfold gp at z2
    omega
  · have := lblk_p h
    omega
  · have h2 := h.2
    unfold yp at h2
    omega
  · rcases h with h | h <;> (unfold ep at h; omega)
  · have h1 := h.1
    omega
  · omega
noncomputable def sp_resolve  (σ : St) : Int32 × St := if σ.1.2.2.1 1 4 ≤ 0 then (-5, σ) else ((rsv σ.1.1 σ.1.2.1 (σ.1.2.2.1, σ.1.2.2.2)).1.1 1 4, setR σ (rsv σ.1.1 σ.1.2.1 (σ.1.2.2.1, σ.1.2.2.2)).1 [top σ.1.2.2.1] (rsv σ.1.1 σ.1.2.1 (σ.1.2.2.1, σ.1.2.2.2)).2)
set_option maxRecDepth 20000 in
theorem c_L_resolve  {M : Mem} {σ : St} (hI : InvC M σ) : Ct lyC y_L_resolve b_L_resolve 1 (some .int) 5 [.ref 83] M (Pi fun r M' => r = (sp_resolve σ).1 ∧ InvC M' (sp_resolve σ).2) := by
  obtain ⟨m, hm, hR⟩ := hI.R
  have hW := hI.1
  have hcd := hI.2.1
  have hn := hW.1.1
  have r8 := hR.2.2.2.2.2.2.1
  have r10 : M.1 (gp 0) 9 = σ.1.2.2.1 1 4 := hR.2.2.2.2.2.2.2.2.1
  obtain ⟨h, h64, hh⟩ := hW.hb
  obtain ⟨th1, ev1, hL1⟩ := hI.2.2.2.2.2.2.2.2
  refine Ct.ofG mx_L_resolve [some (.ref 83)] rfl rfl (Nat.le_of_ble_eq_true rfl) (fun κ C hQ => ?_)
  refine u_aload_n (pc := 0) C d_L_resolve_0 rfl ?_
  refine u_getr (pc := 1) (r := (gp 0)) C d_L_resolve_1 fw_L_21 sC_83 rfl rfl ?_
  refine u_geti (pc := 4) C d_L_resolve_4 fw_L_211 (shG0 (by decide)) rfl ?_
  refine u_if_gt (pc := 7) (tgt := 13) C d_L_resolve_7 rfl (fun c7 => ?_) (fun c7 => ?_)
  · have c7 : ¬ M.1 (gp 0) 9 ≤ 0 := fun q => absurd c7 (Int32.not_lt.mpr q)
    rw [r10] at c7
    have h0 : 0 < h := by
      rcases Nat.lt_or_ge 0 h with z | z
      · exact z
      · exact absurd (by rw [hh, show h = 0 by omega]; decide) c7
    refine u_aload_n (pc := 13) C d_L_resolve_13 rfl ?_
    refine u_getr (pc := 14) (r := (op 0)) C d_L_resolve_14 fw_L_63 sC_83 rfl rfl ?_
    refine u_callVv (pc := 17) C d_L_resolve_17 mx_O_empty mw_L_220 (shO0 (by decide)) rfl (c_O_empty (b := 0) (by decide)) rfl rfl (Nat.le_of_ble_eq_true rfl) (fun M17 q17 => ?_)
    obtain ⟨kL, kO⟩ := q17
    have hR2 := hR.off kO (fun p q => l_g (k := 0) (by decide) q)
    have hcd2 := hcd.off kO (fun p h1 h2 => l_cd h1 h2)
    refine u_aload_n (pc := 20) C d_L_resolve_20 rfl ?_
    refine u_getr (pc := 21) (r := 75) C d_L_resolve_21 fw_L_42 sC_83 rfl rfl ?_
    refine u_aload_n (pc := 24) C d_L_resolve_24 rfl ?_
    refine u_getr (pc := 25) (r := (gp 0)) C d_L_resolve_25 fw_L_21 sC_83 rfl rfl ?_
    refine u_aload_n (pc := 28) C d_L_resolve_28 rfl ?_
    refine u_getr (pc := 29) (r := (op 0)) C d_L_resolve_29 fw_L_63 sC_83 rfl rfl ?_
    refine u_callVv (pc := 32) C d_L_resolve_32 mx_R_resolveTop mw_L_223 sC_75 rfl (c_R_resolveTop (k := 0) (b := 0) (by decide) (by decide) hW hcd2 hR2 kL hh h0 h64) rfl rfl (Nat.le_of_ble_eq_true rfl) (fun M32 q32 => ?_)
    obtain ⟨m2, kR, kL2, kO2, kM⟩ := q32
    refine u_aload_n (pc := 35) C d_L_resolve_35 rfl ?_
    refine u_getr (pc := 36) (r := (gp 0)) C d_L_resolve_36 fw_L_21 sC_83 rfl rfl ?_
    refine u_geti (pc := 39) C d_L_resolve_39 fw_L_211 (shG0 (by decide)) rfl ?_
    refine u_iret (pc := 42) C d_L_resolve_42 (hQ _ _ ⟨_, rfl, ?_⟩)
    rw [sp_resolve, if_neg c7]
    have ho := (kO.mono (fun p q => (Or.inr (Or.inl q) : EngS 0 0 p))).trans kO2
    refine ⟨kR.2.2.2.2.2.2.2.2.1, hI.eng (ho.mono (fun p q => eng_en (by decide) q)) kR (kM.le hm) (hW.rsvL hh h0 h64) kL2 ⟨th1, ev1, hL1.off ho (fun p q => eng_l1 (Or.inl q))⟩⟩
  · refine u_bipush (pc := 10) (v := (-5)) C d_L_resolve_10 (by decide) ?_
    refine u_iret (pc := 12) C d_L_resolve_12 (hQ _ _ ⟨_, rfl, ?_⟩)
    have c7 : M.1 (gp 0) 9 ≤ 0 := Int32.not_lt.mp c7
    rw [r10] at c7
    rw [sp_resolve, if_pos c7]
    exact ⟨rfl, hI⟩
noncomputable def sp_run  (σ : St) : Int32 × St := (nI (runR σ.1.1 σ.1.2.1 (σ.1.2.2.1, σ.1.2.2.2)).1, setE (setR σ (runG σ.1.1 σ.1.2.1 (σ.1.2.2.1, σ.1.2.2.2)) (told (runS σ.1.1 σ.1.2.1 (σ.1.2.2.1, σ.1.2.2.2)) (runR σ.1.1 σ.1.2.1 (σ.1.2.2.1, σ.1.2.2.2)).1) (hapd σ.1.1 σ.1.2.1 (runS σ.1.1 σ.1.2.1 (σ.1.2.2.1, σ.1.2.2.2)) (runR σ.1.1 σ.1.2.1 (σ.1.2.2.1, σ.1.2.2.2)).1)) (runR σ.1.1 σ.1.2.1 (σ.1.2.2.1, σ.1.2.2.2)).2)
set_option maxRecDepth 20000 in
theorem c_L_run  {M : Mem} {σ : St} (hI : InvC M σ) : Ct lyC y_L_run b_L_run 1 (some .int) 6 [.ref 83] M (Pi fun r M' => r = (sp_run σ).1 ∧ InvC M' (sp_run σ).2) := by
  obtain ⟨m, hm, hR⟩ := hI.R
  have hW := hI.1
  have hcd := hI.2.1
  have hn := hW.1.1
  have r8 := hR.2.2.2.2.2.2.1
  have r10 : M.1 (gp 0) 9 = σ.1.2.2.1 1 4 := hR.2.2.2.2.2.2.2.2.1
  obtain ⟨h, h64, hh⟩ := hW.hb
  obtain ⟨th1, ev1, hL1⟩ := hI.2.2.2.2.2.2.2.2
  refine Ct.ofG mx_L_run [some (.ref 83)] rfl rfl (Nat.le_of_ble_eq_true rfl) (fun κ C hQ => ?_)
  refine u_aload_n (pc := 0) C d_L_run_0 rfl ?_
  refine u_getr (pc := 1) (r := (op 0)) C d_L_run_1 fw_L_63 sC_83 rfl rfl ?_
  refine u_callVv (pc := 4) C d_L_run_4 mx_O_empty mw_L_220 (shO0 (by decide)) rfl (c_O_empty (b := 0) (by decide)) rfl rfl (Nat.le_of_ble_eq_true rfl) (fun M4 q4 => ?_)
  obtain ⟨kL, kO⟩ := q4
  have hR2 := hR.off kO (fun p q => l_g (k := 0) (by decide) q)
  have hcd2 := hcd.off kO (fun p h1 h2 => l_cd h1 h2)
  refine u_aload_n (pc := 7) C d_L_run_7 rfl ?_
  refine u_getr (pc := 8) (r := 75) C d_L_run_8 fw_L_42 sC_83 rfl rfl ?_
  refine u_aload_n (pc := 11) C d_L_run_11 rfl ?_
  refine u_getr (pc := 12) (r := (gp 0)) C d_L_run_12 fw_L_21 sC_83 rfl rfl ?_
  refine u_aload_n (pc := 15) C d_L_run_15 rfl ?_
  refine u_getr (pc := 16) (r := (op 0)) C d_L_run_16 fw_L_63 sC_83 rfl rfl ?_
  refine u_callVv (pc := 19) C d_L_run_19 mx_R_runPile mw_L_227 sC_75 rfl (c_R_runPile (k := 0) (b := 0) (by decide) (by decide) hW hcd2 hR2 hm kL) rfl rfl (Nat.le_of_ble_eq_true rfl) (fun M19 q19 => ?_)
  obtain ⟨t, m2, t200, kRun, k7, kR, kM, kW, kL2, kO2⟩ := q19
  refine u_aload_n (pc := 22) C d_L_run_22 rfl ?_
  refine u_aload_n (pc := 23) C d_L_run_23 rfl ?_
  refine u_getr (pc := 24) (r := 75) C d_L_run_24 fw_L_42 sC_83 rfl rfl ?_
  refine u_geti (pc := 27) C d_L_run_27 fw_L_230 sC_75 rfl ?_
  refine u_put (pc := 30) C d_L_run_30 fw_L_81 sC_83 rfl (Or.inl rfl) ?_
  refine u_aload_n (pc := 33) C d_L_run_33 rfl ?_
  refine u_aload_n (pc := 34) C d_L_run_34 rfl ?_
  refine u_getr (pc := 35) (r := 75) C d_L_run_35 fw_L_42 sC_83 rfl rfl ?_
  refine u_geti (pc := 38) C d_L_run_38 fw_L_233 sC_75 rfl ?_
  refine u_put (pc := 41) C d_L_run_41 fw_L_85 sC_83 rfl (Or.inl rfl) ?_
  refine u_aload_n (pc := 44) C d_L_run_44 rfl ?_
  refine u_aload_n (pc := 45) C d_L_run_45 rfl ?_
  refine u_getr (pc := 46) (r := 75) C d_L_run_46 fw_L_42 sC_83 rfl rfl ?_
  refine u_geti (pc := 49) C d_L_run_49 fw_L_236 sC_75 rfl ?_
  refine u_put (pc := 52) C d_L_run_52 fw_L_88 sC_83 rfl (Or.inl rfl) ?_
  refine u_aload_n (pc := 55) C d_L_run_55 rfl ?_
  refine u_getr (pc := 56) (r := 75) C d_L_run_56 fw_L_42 sC_83 rfl rfl ?_
  refine u_geti (pc := 59) C d_L_run_59 fw_L_239 sC_75 rfl ?_
  refine u_iret (pc := 62) C d_L_run_62 (hQ _ _ ⟨_, rfl, ?_⟩)
  have ho := (kO.mono (fun p q => (Or.inl (Or.inr (Or.inl q)) : RunS 0 0 p))).trans kO2
  have hx := runR_eq kRun
  have hy := hI.eng (ho.mono (fun p q => eng_run (by decide) q)) kR kM kW kL2 ⟨th1, ev1, hL1.off ho (fun p q => eng_l1 q)⟩
  show M19.1 75 7 = _ ∧ InvC _ _
  rw [k7]
  rw [sp_run, runG, hx]
  exact ⟨rfl, hy.ends⟩
