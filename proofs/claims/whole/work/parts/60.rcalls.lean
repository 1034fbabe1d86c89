/-! the reference: what it holds of an object; calls that read -/
def InvR (M : Mem) (σ : St) : Prop :=
  RS M σ.1.1 σ.1.2.1 σ.1.2.2.1 σ.1.2.2.2 ∧
  (match σ.2.1 with
    | none => M.1 0 9 = -1
    | some i => M.1 0 9 = nI i.1 ∧ i.1 ≤ σ.1.2.1 ∧ WFg σ.1.1 i.1 i.2.1 i.2.2 ∧ FG (M.1 14) i.2.1 i.2.2) ∧
  (σ.2.2.1.length ≤ 120 ∧ M.1 0 20 = nI σ.2.2.1.length ∧ (∀ i, i < σ.2.2.1.length → M.1 220 i = σ.2.2.1.getD i 0) ∧ ∀ x, x ∈ σ.2.2.1 → 0 ≤ x.toInt ∧ x.toInt ≤ 255) ∧
  (∀ h, h < 8 → match σ.2.2.2.1 h with
    | none => M.1 221 h = -1
    | some c => M.1 221 h = nI c ∧ c < σ.1.2.1) ∧
  (M.1 0 25 = σ.2.2.2.2.1.1 ∧ M.1 0 26 = σ.2.2.2.2.1.2.1 ∧ M.1 0 27 = σ.2.2.2.2.1.2.2) ∧
  LGr M σ.2.2.2.2.2.1 σ.2.2.2.2.2.2 ∧ M.1 0 32 = 0
def thR (p j : Nat) : Prop := p = 6 ∨ (8 ≤ p ∧ p ≤ 13) ∨ (16 ≤ p ∧ p ≤ 219) ∨ p = 222 ∨ p = 223 ∨ (p = 0 ∧ (j = 13 ∨ (15 ≤ j ∧ j ≤ 18) ∨ (22 ≤ j ∧ j ≤ 24) ∨ j = 29 ∨ j = 31))
theorem InvR.mk {M M' : Mem} {σ : St} {s : Gm × List Nat} {th ev : List Int32} (h : InvR M σ) (ho : OfR thR M M') (hS : RS M' σ.1.1 σ.1.2.1 s.1 s.2) (hL : LGr M' th ev) : InvR M' (setR σ s th ev) := by
  obtain ⟨h1, h2, ⟨h3, h4, h5, h6⟩, h7, h8, h9, h10⟩ := h
  have k0 : ∀ j, j = 9 ∨ j = 20 ∨ j = 25 ∨ j = 26 ∨ j = 27 ∨ j = 32 → M'.1 0 j = M.1 0 j := fun j hj => ho 0 j (fun z => by unfold thR at z; omega)
  have kp : ∀ p, p = 14 ∨ p = 220 ∨ p = 221 → ∀ j, M'.1 p j = M.1 p j := fun p hp j => ho p j (fun z => by unfold thR at z; omega)
  refine ⟨hS, ?_, ⟨h3, by rw [k0 20 (by omega)]; exact h4, fun i hi => by rw [kp 220 (by omega)]; exact h5 i hi, h6⟩, fun q hq => ?_, ?_, hL, by rw [k0 32 (by omega)]; exact h10⟩
  · show match σ.2.1 with | none => M'.1 0 9 = -1 | some i => M'.1 0 9 = nI i.1 ∧ i.1 ≤ σ.1.2.1 ∧ WFg σ.1.1 i.1 i.2.1 i.2.2 ∧ FG (M'.1 14) i.2.1 i.2.2
    cases hi : σ.2.1 with
    | none => rw [hi] at h2; simp only [] at h2 ⊢; rw [k0 9 (by omega)]; exact h2
    | some i =>
      rw [hi] at h2
      simp only [] at h2 ⊢
      rw [k0 9 (by omega)]
      exact ⟨h2.1, h2.2.1, h2.2.2.1, h2.2.2.2.of_eq (fun j _ => kp 14 (by omega) j)⟩
  · have h7q := h7 q hq
    show match σ.2.2.2.1 q with | none => M'.1 221 q = -1 | some c => M'.1 221 q = nI c ∧ c < σ.1.2.1
    rw [kp 221 (by omega)]
    exact h7q
  · show M'.1 0 25 = σ.2.2.2.2.1.1 ∧ M'.1 0 26 = σ.2.2.2.2.1.2.1 ∧ M'.1 0 27 = σ.2.2.2.2.1.2.2
    rw [k0 25 (by omega), k0 26 (by omega), k0 27 (by omega)]
    exact h8
/-- nothing that lasts has changed -/
theorem InvR.same {M M' : Mem} {σ : St} (h : InvR M σ) (ho : OfR thR M M') (h6 : ∀ j, j < 123 → M'.1 6 j = M.1 6 j) (hL : LGr M' σ.2.2.2.2.2.1 σ.2.2.2.2.2.2) : InvR M' σ := by
  have hS : RS M' σ.1.1 σ.1.2.1 σ.1.2.2.1 σ.1.2.2.2 := ⟨h.1.1, ho.cd h.1.2.1 (fun p j _ _ z => by unfold thR at z; omega), by rw [ho 0 5 (fun z => by unfold thR at z; omega)]; exact h.1.2.2.1, h.1.2.2.2.of_eq h6⟩
  exact h.mk (s := (σ.1.2.2.1, σ.1.2.2.2)) ho hS hL
theorem lay_th {p j : Nat} (h : layR p j) : thR p j := by unfold layR at h; unfold thR; omega
theorem rep_th {p j : Nat} (h : repR p j) : thR p j := by unfold repR at h; unfold thR; omega
theorem g_th {p j : Nat} (h : gR p j) : thR p j := Or.inl h
theorem rv_th {p j : Nat} (h : rvR p j) : thR p j := by unfold rvR at h; unfold thR; omega
theorem rn_th {p j : Nat} (h : rnR p j) : thR p j := by unfold rnR rvR at h; unfold thR; omega
theorem InvR.layed {M M' : Mem} {σ : St} (h : InvR M σ) (ho : OfR layR M M') : InvR M' σ :=
  h.same (ho.mono (fun p j => lay_th)) (fun j _ => ho 6 j (fun z => by unfold layR at z; omega)) (h.2.2.2.2.2.1.lay ho)
theorem InvR.repd {M M' : Mem} {σ : St} (h : InvR M σ) (ho : OfR repR M M') : InvR M' σ :=
  h.same (ho.mono (fun p j => rep_th)) (fun j _ => ho 6 j (fun z => by unfold repR at z; omega)) (h.2.2.2.2.2.1.of ho (fun z => by unfold repR at z; omega) (fun z => by unfold repR at z; omega) (fun i z => by unfold repR at z; omega) (fun i z => by unfold repR at z; omega))
set_option maxRecDepth 20000 in
theorem c_M_of {c what : Int32} {M : Mem} {σ : St} (hI : InvR M σ) : Ct lyR y_M_of b_M_of 3 (some .int) 2 [.ref 0, .int c, .int what] M (Pi fun r M' => r = sp_of c what σ ∧ InvR M' σ) := by
  have hS := hI.1
  have n24 := hS.n24
  have h5 := hS.2.2.1
  obtain ⟨k1, k2, k3, k4, k5⟩ := hS.cdc
  refine Ct.ofG mx_M_of [some (.ref 0), some (.int c), some (.int what)] rfl rfl (Nat.le_of_ble_eq_true rfl) (fun κ C hQ => ?_)
  refine u_aload_n (pc := 0) C d_M_of_0 rfl ?_
  refine u_iload_n (pc := 1) C d_M_of_1 rfl ?_
  refine u_callVi (pc := 2) C d_M_of_2 mx_M_isCard mw_M_160 sR_0 rfl (c_M_isCard h5 n24) rfl rfl (Nat.le_of_ble_eq_true rfl) (fun r2 M2 q2 => ?_)
  obtain ⟨e2, q2⟩ := q2
  have q2 := q2.symm
  subst q2
  refine u_if_ne (pc := 5) (tgt := 10) C d_M_of_5 rfl (fun c5 => ?_) (fun c5 => ?_)
  · rw [e2] at c5
    obtain ⟨d, hd, rfl⟩ := has_ix c5 n24
    have d24 : d < 24 := by omega
    have dcl : (nI d).toNatClampNeg = d := nI_clamp (by omega)
    refine u_iload_n (pc := 10) C d_M_of_10 rfl ?_
    refine u_top (fun t11 e11 => ?_)
    rcases sw_0_6 t11 with q11 | q11 | q11 | q11 | q11 | q11 | q11 | q11
    · refine u_tsIn (pc := 11) (tgt := 52) C d_M_of_11 (by rw [q11]; decide) (by rw [q11]; decide) (by rw [q11]; rfl) rfl ?_
      refine u_aload_n (pc := 52) C d_M_of_52 rfl ?_
      refine u_getr (pc := 53) (r := 1) C d_M_of_53 fw_M_9 sR_0 rfl rfl ?_
      refine u_iload_n (pc := 56) C d_M_of_56 rfl ?_
      refine u_iald (pc := 57) C d_M_of_57 sR_1 (vp24 d24) ?_
      refine u_iret (pc := 58) C d_M_of_58 (hQ _ _ ⟨_, rfl, ?_⟩)
      subst e11
      exact ⟨by rw [sp_of, if_neg c5, q11, dcl, if_pos rfl]; rw [k1], hI⟩
    · refine u_tsIn (pc := 11) (tgt := 59) C d_M_of_11 (by rw [q11]; decide) (by rw [q11]; decide) (by rw [q11]; rfl) rfl ?_
      refine u_aload_n (pc := 59) C d_M_of_59 rfl ?_
      refine u_getr (pc := 60) (r := 2) C d_M_of_60 fw_M_13 sR_0 rfl rfl ?_
      refine u_iload_n (pc := 63) C d_M_of_63 rfl ?_
      refine u_iald (pc := 64) C d_M_of_64 sR_2 (vp24 d24) ?_
      refine u_iret (pc := 65) C d_M_of_65 (hQ _ _ ⟨_, rfl, ?_⟩)
      subst e11
      exact ⟨by rw [sp_of, if_neg c5, q11, dcl, if_neg (by decide), if_pos rfl]; rw [k2], hI⟩
    · refine u_tsIn (pc := 11) (tgt := 66) C d_M_of_11 (by rw [q11]; decide) (by rw [q11]; decide) (by rw [q11]; rfl) rfl ?_
      refine u_aload_n (pc := 66) C d_M_of_66 rfl ?_
      refine u_getr (pc := 67) (r := 3) C d_M_of_67 fw_M_16 sR_0 rfl rfl ?_
      refine u_iload_n (pc := 70) C d_M_of_70 rfl ?_
      refine u_iald (pc := 71) C d_M_of_71 sR_3 (vp24 d24) ?_
      refine u_iret (pc := 72) C d_M_of_72 (hQ _ _ ⟨_, rfl, ?_⟩)
      subst e11
      exact ⟨by rw [sp_of, if_neg c5, q11, dcl, if_neg (by decide), if_neg (by decide), if_pos rfl]; rw [k3], hI⟩
    · refine u_tsIn (pc := 11) (tgt := 73) C d_M_of_11 (by rw [q11]; decide) (by rw [q11]; decide) (by rw [q11]; rfl) rfl ?_
      refine u_aload_n (pc := 73) C d_M_of_73 rfl ?_
      refine u_getr (pc := 74) (r := 4) C d_M_of_74 fw_M_19 sR_0 rfl rfl ?_
      refine u_iload_n (pc := 77) C d_M_of_77 rfl ?_
      refine u_iald (pc := 78) C d_M_of_78 sR_4 (vp24 d24) ?_
      refine u_iret (pc := 79) C d_M_of_79 (hQ _ _ ⟨_, rfl, ?_⟩)
      subst e11
      exact ⟨by rw [sp_of, if_neg c5, q11, dcl, if_neg (by decide), if_neg (by decide), if_neg (by decide), if_pos rfl]; rw [k4], hI⟩
    · refine u_tsIn (pc := 11) (tgt := 80) C d_M_of_11 (by rw [q11]; decide) (by rw [q11]; decide) (by rw [q11]; rfl) rfl ?_
      refine u_aload_n (pc := 80) C d_M_of_80 rfl ?_
      refine u_getr (pc := 81) (r := 5) C d_M_of_81 fw_M_22 sR_0 rfl rfl ?_
      refine u_iload_n (pc := 84) C d_M_of_84 rfl ?_
      refine u_iald (pc := 85) C d_M_of_85 sR_5 (vp24 d24) ?_
      refine u_bipush (pc := 86) (v := 10) C d_M_of_86 (by decide) ?_
      refine u_iadd (pc := 88) C d_M_of_88 ?_
      refine u_iret (pc := 89) C d_M_of_89 (hQ _ _ ⟨_, rfl, ?_⟩)
      subst e11
      exact ⟨by rw [sp_of, if_neg c5, q11, dcl, if_neg (by decide), if_neg (by decide), if_neg (by decide), if_neg (by decide), if_pos rfl]; rw [k5], hI⟩
    · refine u_tsIn (pc := 11) (tgt := 90) C d_M_of_11 (by rw [q11]; decide) (by rw [q11]; decide) (by rw [q11]; rfl) rfl ?_
      refine u_aload_n (pc := 90) C d_M_of_90 rfl ?_
      refine u_getr (pc := 91) (r := 6) C d_M_of_91 fw_M_25 sR_0 rfl rfl ?_
      refine u_bipush (pc := 94) (v := 71) C d_M_of_94 (by decide) ?_
      refine u_iload_n (pc := 96) C d_M_of_96 rfl ?_
      refine u_iadd (pc := 97) C d_M_of_97 ?_
      refine u_iald (pc := 98) C d_M_of_98 sR_6 (vp71 d24) ?_
      refine u_iret (pc := 99) C d_M_of_99 (hQ _ _ ⟨_, rfl, ?_⟩)
      subst e11
      exact ⟨by rw [sp_of, if_neg c5, q11, dcl, if_neg (by decide), if_neg (by decide), if_neg (by decide), if_neg (by decide), if_neg (by decide), if_pos rfl]; rw [ix71 d24, hS.wh d24], hI⟩
    · refine u_tsIn (pc := 11) (tgt := 100) C d_M_of_11 (by rw [q11]; decide) (by rw [q11]; decide) (by rw [q11]; rfl) rfl ?_
      refine u_aload_n (pc := 100) C d_M_of_100 rfl ?_
      refine u_iload_n (pc := 101) C d_M_of_101 rfl ?_
      refine u_iconst (pc := 102) (v := 3) C d_M_of_102 (by decide) ?_
      refine u_callVi (pc := 103) C d_M_of_103 mx_M_isAt mw_M_164 sR_0 rfl (c_M_isAt d24) rfl rfl (Nat.le_of_ble_eq_true rfl) (fun r103 M103 q103 => ?_)
      obtain ⟨e103, q103⟩ := q103
      have q103 := q103.symm
      subst q103
      refine u_if_eq (pc := 106) (tgt := 121) C d_M_of_106 rfl (fun c106 => ?_) (fun c106 => ?_)
      · refine u_bipush (pc := 121) (v := (-2)) C d_M_of_121 (by decide) ?_
        refine u_iret (pc := 123) C d_M_of_123 (hQ _ _ ⟨_, rfl, ?_⟩)
        subst e11
        rw [hS.wh d24] at e103
        refine ⟨?_, hI⟩
        rw [sp_of, if_neg c5, q11, dcl, if_neg (by decide), if_neg (by decide), if_neg (by decide), if_neg (by decide), if_neg (by decide), if_neg (by decide), if_pos rfl]
        rw [if_neg (zero_of e103 c106)]
      · refine u_aload_n (pc := 109) C d_M_of_109 rfl ?_
        refine u_getr (pc := 110) (r := 6) C d_M_of_110 fw_M_25 sR_0 rfl rfl ?_
        refine u_bipush (pc := 113) (v := 95) C d_M_of_113 (by decide) ?_
        refine u_iload_n (pc := 115) C d_M_of_115 rfl ?_
        refine u_iadd (pc := 116) C d_M_of_116 ?_
        refine u_iald (pc := 117) C d_M_of_117 sR_6 (vp95 d24) ?_
        refine u_goto (pc := 118) (tgt := 123) C d_M_of_118 rfl ?_
        refine u_iret (pc := 123) C d_M_of_123 (hQ _ _ ⟨_, rfl, ?_⟩)
        subst e11
        rw [hS.wh d24] at e103
        refine ⟨?_, hI⟩
        rw [sp_of, if_neg c5, q11, dcl, if_neg (by decide), if_neg (by decide), if_neg (by decide), if_neg (by decide), if_neg (by decide), if_neg (by decide), if_pos rfl]
        have h3 := one_of e103 c106
        rw [if_pos h3, ix95 d24, hS.ag (hS.tbm.mpr ⟨hd, h3⟩)]
    · refine u_tsOut (pc := 11) (tgt := 124) C d_M_of_11 q11 rfl ?_
      refine u_iconst (pc := 124) (v := (-1)) C d_M_of_124 (by decide) ?_
      refine u_iret (pc := 125) C d_M_of_125 (hQ _ _ ⟨_, rfl, ?_⟩)
      subst e11
      have z : ∀ k : Int32, (0 ≤ k.toInt ∧ k.toInt ≤ 6) → ¬ t11 = k := fun k hk q => by rw [q] at q11; rcases q11 with q11 | q11 <;> omega
      exact ⟨by rw [sp_of, if_neg c5, if_neg (z 0 (by decide)), if_neg (z 1 (by decide)), if_neg (z 2 (by decide)), if_neg (z 3 (by decide)), if_neg (z 4 (by decide)), if_neg (z 5 (by decide)), if_neg (z 6 (by decide))], hI⟩
  · refine u_iconst (pc := 8) (v := (-1)) C d_M_of_8 (by decide) ?_
    refine u_iret (pc := 9) C d_M_of_9 (hQ _ _ ⟨_, rfl, ?_⟩)
    rw [e2] at c5
    exact ⟨by rw [sp_of, if_pos c5], hI⟩
theorem in01 {p : Int32} (h : ¬ inF p 0 1 = 0) : p = 0 ∨ p = 1 := by
  obtain ⟨h1, h2⟩ := in_y h
  obtain ⟨j, hj, rfl⟩ := nI_of h1
  have h3 : ¬ (1 < j) := fun z => h2 (nI_lt (a := 1) z hj)
  rcases (show j = 0 ∨ j = 1 by omega) with z | z
  · rw [z]; exact Or.inl rfl
  · rw [z]; exact Or.inr rfl
theorem in01n {p : Int32} (h : inF p 0 1 = 0) : ¬ (p = 0 ∨ p = 1) := fun z => by
  rcases z with z | z
  · rw [z] at h; exact absurd h (by decide)
  · rw [z] at h; exact absurd h (by decide)
theorem inN {v b : Int32} {n : Nat} (hb : b = nI n) (hn : n < 2 ^ 31) (h : ¬ inF v 0 b = 0) : ∃ j, j ≤ n ∧ v = nI j := by
  obtain ⟨h1, h2⟩ := in_y h
  obtain ⟨j, hj, rfl⟩ := nI_of h1
  refine ⟨j, ?_, rfl⟩
  rcases Nat.lt_or_ge n j with z | z
  · rw [hb] at h2; exact absurd (nI_lt z hj) h2
  · exact z
theorem RS.li {M : Mem} {cd : Nat → Nat → Int32} {n : Nat} {g : Gm} {tb : List Nat} {p : Int32} (h : RS M cd n g tb) (hp : p = 0 ∨ p = 1) : M.1 6 (pix p) = g 0 (pix p) := by
  have h1 := h.2.2.2.1
  rcases hp with q | q
  · rw [q]; exact h1.1
  · rw [q]; exact h1.2
theorem pneg {p : Int32} (hp : p = 0 ∨ p = 1) : ¬ p < 0 := by
  rcases hp with q | q <;> rw [q] <;> decide
set_option maxRecDepth 20000 in
theorem c_M_player {p what : Int32} {M : Mem} {σ : St} (hI : InvR M σ) : Ct lyR y_M_player b_M_player 3 (some .int) 3 [.ref 0, .int p, .int what] M (Pi fun r M' => r = sp_player p what σ ∧ InvR M' σ) := by
  have hS := hI.1
  have n24 := hS.n24
  have h5 := hS.2.2.1
  obtain ⟨k1, k2, k3, k4, k5⟩ := hS.cdc
  refine Ct.ofG mx_M_player [some (.ref 0), some (.int p), some (.int what)] rfl rfl (Nat.le_of_ble_eq_true rfl) (fun κ C hQ => ?_)
  refine u_iload_n (pc := 0) C d_M_player_0 rfl ?_
  refine u_iconst (pc := 1) (v := 0) C d_M_player_1 (by decide) ?_
  refine u_iconst (pc := 2) (v := 1) C d_M_player_2 (by decide) ?_
  refine u_callSi (pc := 3) C d_M_player_3 mx_M_in mw_M_73 (c_M_in) rfl rfl (Nat.le_of_ble_eq_true rfl) (fun r3 M3 q3 => ?_)
  obtain ⟨e3, q3⟩ := q3
  have q3 := q3.symm
  subst q3
  refine u_if_eq (pc := 6) (tgt := 18) C d_M_player_6 rfl (fun c6 => ?_) (fun c6 => ?_)
  · refine u_ldc (pc := 18) C (mc_M_167) d_M_player_18 ?_
    refine u_iret (pc := 20) C d_M_player_20 (hQ _ _ ⟨_, rfl, ?_⟩)
    rw [e3] at c6
    exact ⟨by rw [sp_player, if_neg (in01n c6)], hI⟩
  · rw [e3] at c6
    have hp := in01 c6
    refine u_iload_n (pc := 9) C d_M_player_9 rfl ?_
    refine u_iconst (pc := 10) (v := 0) C d_M_player_10 (by decide) ?_
    refine u_iconst (pc := 11) (v := 4) C d_M_player_11 (by decide) ?_
    refine u_callSi (pc := 12) C d_M_player_12 mx_M_in mw_M_73 (c_M_in) rfl rfl (Nat.le_of_ble_eq_true rfl) (fun r12 M12 q12 => ?_)
    obtain ⟨e12, q12⟩ := q12
    have q12 := q12.symm
    subst q12
    refine u_if_ne (pc := 15) (tgt := 21) C d_M_player_15 rfl (fun c15 => ?_) (fun c15 => ?_)
    · rw [e12] at c15
      obtain ⟨w, hw4, hw⟩ := inN (n := 4) rfl (by decide) c15
      refine u_iload_n (pc := 21) C d_M_player_21 rfl ?_
      refine u_if_ne (pc := 22) (tgt := 36) C d_M_player_22 rfl (fun c22 => ?_) (fun c22 => ?_)
      · refine u_aload_n (pc := 36) C d_M_player_36 rfl ?_
        refine u_iload_n (pc := 37) C d_M_player_37 rfl ?_
        refine u_iload_n (pc := 38) C d_M_player_38 rfl ?_
        refine u_iconst (pc := 39) (v := 1) C d_M_player_39 (by decide) ?_
        refine u_icmp_ne (pc := 40) (tgt := 47) C d_M_player_40 rfl (fun c40 => ?_) (fun c40 => ?_)
        · refine u_iload_n (pc := 47) C d_M_player_47 rfl ?_
          refine u_iconst (pc := 48) (v := 2) C d_M_player_48 (by decide) ?_
          refine u_icmp_ne (pc := 49) (tgt := 56) C d_M_player_49 rfl (fun c49 => ?_) (fun c49 => ?_)
          · refine u_iload_n (pc := 56) C d_M_player_56 rfl ?_
            refine u_iconst (pc := 57) (v := 3) C d_M_player_57 (by decide) ?_
            refine u_icmp_ne (pc := 58) (tgt := 65) C d_M_player_58 rfl (fun c58 => ?_) (fun c58 => ?_)
            · refine u_iconst (pc := 65) (v := 4) C d_M_player_65 (by decide) ?_
              refine u_callVi (pc := 66) C d_M_player_66 mx_M_manyAt mw_M_168 sR_0 rfl (c_M_manyAt hS) rfl rfl (Nat.le_of_ble_eq_true rfl) (fun r66 M66 q66 => ?_)
              obtain ⟨e66, q66⟩ := q66
              have q66 := q66.symm
              subst q66
              refine u_iret (pc := 69) C d_M_player_69 (hQ _ _ ⟨_, rfl, ?_⟩)
              refine ⟨?_, hI⟩
              rw [mnL_p (pneg hp)] at e66
              rw [sp_player, if_pos hp, if_neg c22, if_neg c40, if_neg c49, if_neg c58, if_pos (show what = 4 from ?_), e66]
              rw [hw] at c22 c40 c49 c58 ⊢
              rcases (show w = 0 ∨ w = 1 ∨ w = 2 ∨ w = 3 ∨ w = 4 by omega) with z | z | z | z | z
              · exact absurd (by rw [z]; rfl) c22
              · exact absurd (by rw [z]; rfl) c40
              · exact absurd (by rw [z]; rfl) c49
              · exact absurd (by rw [z]; rfl) c58
              · rw [z]; rfl
            · refine u_iconst (pc := 61) (v := 3) C d_M_player_61 (by decide) ?_
              refine u_goto (pc := 62) (tgt := 66) C d_M_player_62 rfl ?_
              refine u_callVi (pc := 66) C d_M_player_66 mx_M_manyAt mw_M_168 sR_0 rfl (c_M_manyAt hS) rfl rfl (Nat.le_of_ble_eq_true rfl) (fun r66 M66 q66 => ?_)
              obtain ⟨e66, q66⟩ := q66
              have q66 := q66.symm
              subst q66
              refine u_iret (pc := 69) C d_M_player_69 (hQ _ _ ⟨_, rfl, ?_⟩)
              refine ⟨?_, hI⟩
              rw [mnL_p (pneg hp)] at e66
              rw [sp_player, if_pos hp, if_neg c22, if_neg c40, if_neg c49, if_pos c58, e66]
          · refine u_iconst (pc := 52) (v := 1) C d_M_player_52 (by decide) ?_
            refine u_goto (pc := 53) (tgt := 66) C d_M_player_53 rfl ?_
            refine u_callVi (pc := 66) C d_M_player_66 mx_M_manyAt mw_M_168 sR_0 rfl (c_M_manyAt hS) rfl rfl (Nat.le_of_ble_eq_true rfl) (fun r66 M66 q66 => ?_)
            obtain ⟨e66, q66⟩ := q66
            have q66 := q66.symm
            subst q66
            refine u_iret (pc := 69) C d_M_player_69 (hQ _ _ ⟨_, rfl, ?_⟩)
            refine ⟨?_, hI⟩
            rw [mnL_p (pneg hp)] at e66
            rw [sp_player, if_pos hp, if_neg c22, if_neg c40, if_pos c49, e66]
        · refine u_iconst (pc := 43) (v := 0) C d_M_player_43 (by decide) ?_
          refine u_goto (pc := 44) (tgt := 66) C d_M_player_44 rfl ?_
          refine u_callVi (pc := 66) C d_M_player_66 mx_M_manyAt mw_M_168 sR_0 rfl (c_M_manyAt hS) rfl rfl (Nat.le_of_ble_eq_true rfl) (fun r66 M66 q66 => ?_)
          obtain ⟨e66, q66⟩ := q66
          have q66 := q66.symm
          subst q66
          refine u_iret (pc := 69) C d_M_player_69 (hQ _ _ ⟨_, rfl, ?_⟩)
          refine ⟨?_, hI⟩
          rw [mnL_p (pneg hp)] at e66
          rw [sp_player, if_pos hp, if_neg c22, if_pos c40, e66]
      · refine u_aload_n (pc := 25) C d_M_player_25 rfl ?_
        refine u_getr (pc := 26) (r := 6) C d_M_player_26 fw_M_25 sR_0 rfl rfl ?_
        refine u_iconst (pc := 29) (v := 0) C d_M_player_29 (by decide) ?_
        refine u_iload_n (pc := 30) C d_M_player_30 rfl ?_
        refine u_iadd (pc := 31) C d_M_player_31 ?_
        refine u_iald (pc := 32) C d_M_player_32 sR_6 (p_pix hp).2 ?_
        refine u_goto (pc := 33) (tgt := 69) C d_M_player_33 rfl ?_
        refine u_iret (pc := 69) C d_M_player_69 (hQ _ _ ⟨_, rfl, ?_⟩)
        refine ⟨?_, hI⟩
        rw [sp_player, if_pos hp, if_pos c22, (p_pix hp).1, hS.li hp]
    · refine u_ldc (pc := 18) C (mc_M_167) d_M_player_18 ?_
      refine u_iret (pc := 20) C d_M_player_20 (hQ _ _ ⟨_, rfl, ?_⟩)
      rw [e12] at c15
      have z : ∀ k : Int32, (0 ≤ k.toInt ∧ k.toInt ≤ 4) → ¬ what = k := fun k hk q => by
        rw [q] at c15
        have h9 := in_n c15
        have a0 : (0 : Int32).toInt = 0 := by decide
        have a4 : (4 : Int32).toInt = 4 := by decide
        rw [Int32.lt_iff_toInt_lt, Int32.lt_iff_toInt_lt, a0, a4] at h9
        omega
      exact ⟨by rw [sp_player, if_pos hp, if_neg (z 0 (by decide)), if_neg (z 1 (by decide)), if_neg (z 2 (by decide)), if_neg (z 3 (by decide)), if_neg (z 4 (by decide))], hI⟩
set_option maxRecDepth 20000 in
theorem c_M_value {v : Int32} {M : Mem} {σ : St} (hI : InvR M σ) : Ct lyR y_M_value b_M_value 2 (some .int) 6 [.ref 0, .int v] M (Pi fun r M' => r = sp_value v σ ∧ InvR M' σ) := by
  have hS := hI.1
  have n24 := hS.n24
  have h5 := hS.2.2.1
  obtain ⟨k1, k2, k3, k4, k5⟩ := hS.cdc
  refine Ct.ofG mx_M_value [some (.ref 0), some (.int v)] rfl rfl (Nat.le_of_ble_eq_true rfl) (fun κ C hQ => ?_)
  refine u_iload_n (pc := 0) C d_M_value_0 rfl ?_
  refine u_iconst (pc := 1) (v := 0) C d_M_value_1 (by decide) ?_
  refine u_iconst (pc := 2) (v := 3) C d_M_value_2 (by decide) ?_
  refine u_callSi (pc := 3) C d_M_value_3 mx_M_in mw_M_73 (c_M_in) rfl rfl (Nat.le_of_ble_eq_true rfl) (fun r3 M3 q3 => ?_)
  obtain ⟨e3, q3⟩ := q3
  have q3 := q3.symm
  subst q3
  refine u_if_eq (pc := 6) (tgt := 17) C d_M_value_6 rfl (fun c6 => ?_) (fun c6 => ?_)
  · refine u_ldc (pc := 17) C (mc_M_167) d_M_value_17 ?_
    refine u_iret (pc := 19) C d_M_value_19 (hQ _ _ ⟨_, rfl, ?_⟩)
    rw [e3] at c6
    refine ⟨?_, hI⟩
    rcases in_n c6 with q | q
    · rw [sp_value, if_pos q]
    · have h0 : ¬ v < 0 := fun z => by
        have h1 := Int32.lt_iff_toInt_lt.mp z
        have h2 := Int32.lt_iff_toInt_lt.mp q
        have a0 : (0 : Int32).toInt = 0 := by decide
        have a3 : (3 : Int32).toInt = 3 := by decide
        omega
      have h4 : ¬ v < 4 := fun z => by
        have h1 := Int32.lt_iff_toInt_lt.mp z
        have h2 := Int32.lt_iff_toInt_lt.mp q
        have a4 : (4 : Int32).toInt = 4 := by decide
        have a3 : (3 : Int32).toInt = 3 := by decide
        omega
      rw [sp_value, if_neg h0, if_neg h4]
  · rw [e3] at c6
    obtain ⟨j, hj3, rfl⟩ := inN (n := 3) rfl (by decide) c6
    have hj4 : j < 4 := by omega
    refine u_aload_n (pc := 9) C d_M_value_9 rfl ?_
    refine u_iload_n (pc := 10) C d_M_value_10 rfl ?_
    refine u_callVi (pc := 11) C d_M_value_11 mx_M_valueNow mw_M_199 sR_0 rfl (c_M_valueNow hS hj4) rfl rfl (Nat.le_of_ble_eq_true rfl) (fun r11 M11 q11 => ?_)
    refine u_goto (pc := 14) (tgt := 19) C d_M_value_14 rfl ?_
    refine u_iret (pc := 19) C d_M_value_19 (hQ _ _ ⟨_, rfl, ?_⟩)
    obtain ⟨e11, hV, ol⟩ := q11
    exact ⟨by rw [e11, sp_value, if_neg (nI_pos (by omega)), if_pos (show nI j < (4 : Int32) from nI_lt (b := 4) hj4 (by decide)), nI_clamp (by omega)], hI.layed ol⟩
set_option maxRecDepth 20000 in
theorem c_M_layer {i : Int32} {M : Mem} {σ : St} (hI : InvR M σ) : Ct lyR y_M_layer b_M_layer 2 (some .int) 5 [.ref 0, .int i] M (Pi fun r M' => r = sp_layer i σ ∧ InvR M' σ) := by
  have hS := hI.1
  have n24 := hS.n24
  have h5 := hS.2.2.1
  obtain ⟨k1, k2, k3, k4, k5⟩ := hS.cdc
  refine Ct.ofG mx_M_layer [some (.ref 0), some (.int i)] rfl rfl (Nat.le_of_ble_eq_true rfl) (fun κ C hQ => ?_)
  refine u_iload_n (pc := 0) C d_M_layer_0 rfl ?_
  refine u_if_ge (pc := 1) (tgt := 6) C d_M_layer_1 rfl (fun c1 => ?_) (fun c1 => ?_)
  · refine u_aload_n (pc := 6) C d_M_layer_6 rfl ?_
    refine u_callVv (pc := 7) C d_M_layer_7 mx_M_layered mw_M_196 sR_0 rfl (c_M_layered hS) rfl rfl (Nat.le_of_ble_eq_true rfl) (fun M7 q7 => ?_)
    obtain ⟨hV, ol⟩ := q7
    refine u_iload_n (pc := 10) C d_M_layer_10 rfl ?_
    refine u_aload_n (pc := 11) C d_M_layer_11 rfl ?_
    refine u_geti (pc := 12) C d_M_layer_12 fw_M_171 sR_0 rfl ?_
    refine u_icmp_ge (pc := 15) (tgt := 27) C d_M_layer_15 rfl (fun c15 => ?_) (fun c15 => ?_)
    · refine u_bipush (pc := 27) (v := (-2)) C d_M_layer_27 (by decide) ?_
      refine u_iret (pc := 29) C d_M_layer_29 (hQ _ _ ⟨_, rfl, ?_⟩)
      rw [hV.1.1] at c15
      exact ⟨by rw [sp_layer, if_pos c1, if_neg (Int32.not_lt.mpr c15)], hI.layed ol⟩
    · rw [hV.1.1] at c15
      obtain ⟨j, hj, rfl⟩ := nI_of (Int32.not_lt.mpr c1)
      have hlt : nI j < nI (order σ.1.1 σ.1.2.2.2).length := Int32.not_le.mp c15
      have ho24 := hV.1.2.2.1
      have hj2 : j < (order σ.1.1 σ.1.2.2.2).length := (nI_ltI hj (by omega)).mp hlt
      refine u_aload_n (pc := 18) C d_M_layer_18 rfl ?_
      refine u_getr (pc := 19) (r := 218) C d_M_layer_19 fw_M_46 sR_0 rfl rfl ?_
      refine u_iload_n (pc := 22) C d_M_layer_22 rfl ?_
      refine u_iald (pc := 23) C d_M_layer_23 sR_218 (vp_in_nI (by omega) (by decide)) ?_
      refine u_goto (pc := 24) (tgt := 29) C d_M_layer_24 rfl ?_
      refine u_iret (pc := 29) C d_M_layer_29 (hQ _ _ ⟨_, rfl, ?_⟩)
      exact ⟨by rw [sp_layer, if_pos c1, if_pos hlt, nI_clamp hj, hV.1.2.1 j hj2], hI.layed ol⟩
  · refine u_iconst (pc := 4) (v := (-1)) C d_M_layer_4 (by decide) ?_
    refine u_iret (pc := 5) C d_M_layer_5 (hQ _ _ ⟨_, rfl, ?_⟩)
    exact ⟨by rw [sp_layer, if_neg c1], hI⟩
theorem lot_of {σ : St} {d : Nat} (hn : σ.1.2.1 ≤ 24) (hd : d < σ.1.2.1) : sp_lot (nI d) σ = if σ.1.2.2.1 3 d = 3 ∧ isL σ.1.1 d = true then 1 else 0 := by
  have hh : ¬ hasF (nI σ.1.2.1) (nI d) = 0 := fun z => (has_iff hn (by omega)).mp z hd
  rw [sp_lot, if_neg hh, nI_clamp (by omega)]
  unfold isL
  by_cases h : σ.1.2.2.1 3 d = 3 ∧ σ.1.1 0 d ≤ 4
  · rw [if_pos h, if_pos ⟨h.1, decide_eq_true h.2⟩]
  · rw [if_neg h, if_neg (fun z => h ⟨z.1, of_decide_eq_true z.2⟩)]
theorem lot_no {σ : St} {c : Int32} (h : hasF (nI σ.1.2.1) c = 0) : sp_lot c σ = 0 := by rw [sp_lot, if_pos h]
theorem dep_a {σ : St} {a b : Int32} (h : sp_lot a σ = 0) : sp_depends a b σ = -1 := by
  rw [sp_depends]
  by_cases hab : a = b
  · rw [if_pos hab]
  · rw [if_neg hab, if_pos h]
theorem dep_b {σ : St} {a b : Int32} (h : sp_lot b σ = 0) : sp_depends a b σ = -1 := by
  rw [sp_depends]
  by_cases hab : a = b
  · rw [if_pos hab]
  · rw [if_neg hab]
    by_cases ha : sp_lot a σ = 0
    · rw [if_pos ha]
    · rw [if_neg ha, if_pos h]
set_option maxRecDepth 20000 in
theorem c_M_depends {a b : Int32} {M : Mem} {σ : St} (hI : InvR M σ) : Ct lyR y_M_depends b_M_depends 3 (some .int) 2 [.ref 0, .int a, .int b] M (Pi fun r M' => r = sp_depends a b σ ∧ InvR M' σ) := by
  have hS := hI.1
  have n24 := hS.n24
  have h5 := hS.2.2.1
  obtain ⟨k1, k2, k3, k4, k5⟩ := hS.cdc
  refine Ct.ofG mx_M_depends [some (.ref 0), some (.int a), some (.int b)] rfl rfl (Nat.le_of_ble_eq_true rfl) (fun κ C hQ => ?_)
  refine u_aload_n (pc := 0) C d_M_depends_0 rfl ?_
  refine u_iload_n (pc := 1) C d_M_depends_1 rfl ?_
  refine u_callVi (pc := 2) C d_M_depends_2 mx_M_isCard mw_M_160 sR_0 rfl (c_M_isCard h5 n24) rfl rfl (Nat.le_of_ble_eq_true rfl) (fun r2 M2 q2 => ?_)
  obtain ⟨e2, q2⟩ := q2
  have q2 := q2.symm
  subst q2
  refine u_if_eq (pc := 5) (tgt := 37) C d_M_depends_5 rfl (fun c5 => ?_) (fun c5 => ?_)
  · refine u_iconst (pc := 37) (v := (-1)) C d_M_depends_37 (by decide) ?_
    refine u_iret (pc := 38) C d_M_depends_38 (hQ _ _ ⟨_, rfl, ?_⟩)
    rw [e2] at c5
    exact ⟨(dep_a (lot_no c5)).symm, hI⟩
  · rw [e2] at c5
    obtain ⟨d, hd, rfl⟩ := has_ix c5 n24
    have d24 : d < 24 := by omega
    have dcl : (nI d).toNatClampNeg = d := nI_clamp (by omega)
    refine u_aload_n (pc := 8) C d_M_depends_8 rfl ?_
    refine u_iload_n (pc := 9) C d_M_depends_9 rfl ?_
    refine u_callVi (pc := 10) C d_M_depends_10 mx_M_isCard mw_M_160 sR_0 rfl (c_M_isCard h5 n24) rfl rfl (Nat.le_of_ble_eq_true rfl) (fun r10 M10 q10 => ?_)
    obtain ⟨e10, q10⟩ := q10
    have q10 := q10.symm
    subst q10
    refine u_if_eq (pc := 13) (tgt := 37) C d_M_depends_13 rfl (fun c13 => ?_) (fun c13 => ?_)
    · refine u_iconst (pc := 37) (v := (-1)) C d_M_depends_37 (by decide) ?_
      refine u_iret (pc := 38) C d_M_depends_38 (hQ _ _ ⟨_, rfl, ?_⟩)
      rw [e10] at c13
      exact ⟨(dep_b (lot_no c13)).symm, hI⟩
    · rw [e10] at c13
      obtain ⟨f, hf, rfl⟩ := has_ix c13 n24
      have f24 : f < 24 := by omega
      have fcl : (nI f).toNatClampNeg = f := nI_clamp (by omega)
      refine u_iload_n (pc := 16) C d_M_depends_16 rfl ?_
      refine u_iload_n (pc := 17) C d_M_depends_17 rfl ?_
      refine u_icmp_eq (pc := 18) (tgt := 37) C d_M_depends_18 rfl (fun c18 => ?_) (fun c18 => ?_)
      · refine u_iconst (pc := 37) (v := (-1)) C d_M_depends_37 (by decide) ?_
        refine u_iret (pc := 38) C d_M_depends_38 (hQ _ _ ⟨_, rfl, ?_⟩)
        exact ⟨by rw [sp_depends, if_pos c18], hI⟩
      · refine u_aload_n (pc := 21) C d_M_depends_21 rfl ?_
        refine u_iload_n (pc := 22) C d_M_depends_22 rfl ?_
        refine u_callVi (pc := 23) C d_M_depends_23 mx_M_isLayer mw_M_174 sR_0 rfl (c_M_isLayer hS d24) rfl rfl (Nat.le_of_ble_eq_true rfl) (fun r23 M23 q23 => ?_)
        obtain ⟨e23, q23⟩ := q23
        have q23 := q23.symm
        subst q23
        refine u_if_eq (pc := 26) (tgt := 37) C d_M_depends_26 rfl (fun c26 => ?_) (fun c26 => ?_)
        · refine u_iconst (pc := 37) (v := (-1)) C d_M_depends_37 (by decide) ?_
          refine u_iret (pc := 38) C d_M_depends_38 (hQ _ _ ⟨_, rfl, ?_⟩)
          exact ⟨(dep_a (by rw [lot_of n24 hd, if_neg (zero_of e23 c26)])).symm, hI⟩
        · refine u_aload_n (pc := 29) C d_M_depends_29 rfl ?_
          refine u_iload_n (pc := 30) C d_M_depends_30 rfl ?_
          refine u_callVi (pc := 31) C d_M_depends_31 mx_M_isLayer mw_M_174 sR_0 rfl (c_M_isLayer hS f24) rfl rfl (Nat.le_of_ble_eq_true rfl) (fun r31 M31 q31 => ?_)
          obtain ⟨e31, q31⟩ := q31
          have q31 := q31.symm
          subst q31
          refine u_if_ne (pc := 34) (tgt := 39) C d_M_depends_34 rfl (fun c34 => ?_) (fun c34 => ?_)
          · have ha := one_of e23 c26
            have hb := one_of e31 c34
            refine u_aload_n (pc := 39) C d_M_depends_39 rfl ?_
            refine u_iload_n (pc := 40) C d_M_depends_40 rfl ?_
            refine u_iload_n (pc := 41) C d_M_depends_41 rfl ?_
            refine u_callVi (pc := 42) C d_M_depends_42 mx_M_hangs mw_M_180 sR_0 rfl (c_M_hangs hS d24 f24) rfl rfl (Nat.le_of_ble_eq_true rfl) (fun r42 M42 q42 => ?_)
            obtain ⟨e42, q42⟩ := q42
            have q42 := q42.symm
            subst q42
            refine u_if_eq (pc := 45) (tgt := 52) C d_M_depends_45 rfl (fun c45 => ?_) (fun c45 => ?_)
            · refine u_iconst (pc := 52) (v := 0) C d_M_depends_52 (by decide) ?_
              refine u_iret (pc := 53) C d_M_depends_53 (hQ _ _ ⟨_, rfl, ?_⟩)
              refine ⟨?_, hI⟩
              have hdf : d ≠ f := fun z => c18 (by rw [z])
              have hh : hng σ.1.1 d f = true ↔ (σ.1.1 0 d = 3 ∨ σ.1.1 0 d = 4) ∧ σ.1.1 3 d = σ.1.1 2 f := by
                unfold hng
                simp only [Bool.and_eq_true, Bool.or_eq_true, decide_eq_true_eq]
                exact ⟨fun z => ⟨z.1.2, z.2⟩, fun z => ⟨⟨hdf, z.1⟩, z.2⟩⟩
              rw [sp_depends, if_neg c18, if_neg (by rw [lot_of n24 hd, if_pos ha]; decide), if_neg (by rw [lot_of n24 hf, if_pos hb]; decide), dcl, fcl]
              rw [if_neg (fun z => zero_of e42 c45 (hh.mpr z))]
            · refine u_iconst (pc := 48) (v := 1) C d_M_depends_48 (by decide) ?_
              refine u_goto (pc := 49) (tgt := 53) C d_M_depends_49 rfl ?_
              refine u_iret (pc := 53) C d_M_depends_53 (hQ _ _ ⟨_, rfl, ?_⟩)
              refine ⟨?_, hI⟩
              have hdf : d ≠ f := fun z => c18 (by rw [z])
              have hh : hng σ.1.1 d f = true ↔ (σ.1.1 0 d = 3 ∨ σ.1.1 0 d = 4) ∧ σ.1.1 3 d = σ.1.1 2 f := by
                unfold hng
                simp only [Bool.and_eq_true, Bool.or_eq_true, decide_eq_true_eq]
                exact ⟨fun z => ⟨z.1.2, z.2⟩, fun z => ⟨⟨hdf, z.1⟩, z.2⟩⟩
              rw [sp_depends, if_neg c18, if_neg (by rw [lot_of n24 hd, if_pos ha]; decide), if_neg (by rw [lot_of n24 hf, if_pos hb]; decide), dcl, fcl]
              rw [if_pos (hh.mp (one_of e42 c45))]
          · refine u_iconst (pc := 37) (v := (-1)) C d_M_depends_37 (by decide) ?_
            refine u_iret (pc := 38) C d_M_depends_38 (hQ _ _ ⟨_, rfl, ?_⟩)
            exact ⟨(dep_b (by rw [lot_of n24 hf, if_neg (zero_of e31 c34)])).symm, hI⟩
