/-! the reference's tape: bytes, words -/
def TPr (M : Mem) (t : List Int32) (cu : Nat) : Prop := (t.length ≤ 120 ∧ M.1 0 20 = nI t.length ∧ ∀ i, i < t.length → M.1 220 i = t.getD i 0) ∧ M.1 0 33 = nI cu ∧ cu ≤ t.length
def ftM : Option Nat → Int32
  | none => -1
  | some x => nI x
/-- where the reference reads, and its fault -/
def TSt (M : Mem) (t : List Int32) (s : Nat × Option Nat) : Prop := TPr M t s.1 ∧ M.1 0 34 = ftM s.2 ∧ ∀ x, s.2 = some x → x ≤ t.length
def sfR (p j : Nat) : Prop := p = 0 ∧ (j = 33 ∨ j = 34)
theorem sf_up {M : Mem} {j : Nat} {x : Int32} (h : j = 33 ∨ j = 34) : OfR sfR M (up M 0 j x) := OfR.up ⟨rfl, h⟩
def sesB (t : List Int32) (a b : Int32) (cu : Nat) : Bool := decide (cu < t.length) && decide (¬ t.getD cu 0 < a) && decide (¬ b < t.getD cu 0)
theorem ses_i {t : List Int32} {a b : Int32} {cu : Nat} : sesB t a b cu = true ↔ cu < t.length ∧ ¬ t.getD cu 0 < a ∧ ¬ b < t.getD cu 0 := by
  unfold sesB
  rw [Bool.and_eq_true, Bool.and_eq_true, decide_eq_true_eq, decide_eq_true_eq, decide_eq_true_eq]
  exact ⟨fun z => ⟨z.1.1, z.1.2, z.2⟩, fun z => ⟨⟨z.1, z.2.1⟩, z.2.2⟩⟩
def mst (t : List Int32) (a b : Int32) (s : Nat × Option Nat) : Int32 × (Nat × Option Nat) := match s.2 with
  | some _ => (a, s)
  | none => if sesB t a b s.1 = true then (t.getD s.1 0, (s.1 + 1, none)) else (a, (s.1, some s.1))
theorem mst_f {t : List Int32} {a b : Int32} {s : Nat × Option Nat} {x : Nat} (h : s.2 = some x) : mst t a b s = (a, s) := by unfold mst; rw [h]
theorem mst_y {t : List Int32} {a b : Int32} {s : Nat × Option Nat} (h : s.2 = none) (hs : sesB t a b s.1 = true) : mst t a b s = (t.getD s.1 0, (s.1 + 1, none)) := by unfold mst; rw [h]; simp only []; rw [if_pos hs]
theorem mst_n {t : List Int32} {a b : Int32} {s : Nat × Option Nat} (h : s.2 = none) (hs : ¬ sesB t a b s.1 = true) : mst t a b s = (a, (s.1, some s.1)) := by unfold mst; rw [h]; simp only []; rw [if_neg hs]
theorem ft_none {o : Option Nat} {t : List Int32} (h120 : t.length ≤ 120) (hb : ∀ x, o = some x → x ≤ t.length) (h : ftM o < 0) : o = none := by
  cases o with
  | none => rfl
  | some x => exact absurd h (nI_pos (by have := hb x rfl; omega))
theorem ft_some {o : Option Nat} (h : ¬ ftM o < 0) : ∃ x, o = some x := by
  cases o with
  | none => exact absurd (by decide : (-1 : Int32) < 0) h
  | some x => exact ⟨x, rfl⟩
theorem TPr.mv {M : Mem} {t : List Int32} {cu c : Nat} (h : TPr M t cu) (hc : c ≤ t.length) : TPr (up M 0 33 (nI c)) t c := ⟨⟨h.1.1, by rw [up_j (by decide)]; exact h.1.2.1, fun i hi => by rw [up_ne (by decide)]; exact h.1.2.2 i hi⟩, by rw [up_row, pk_us], hc⟩
theorem TPr.ft {M : Mem} {t : List Int32} {cu : Nat} {x : Int32} (h : TPr M t cu) : TPr (up M 0 34 x) t cu := ⟨⟨h.1.1, by rw [up_j (by decide)]; exact h.1.2.1, fun i hi => by rw [up_ne (by decide)]; exact h.1.2.2 i hi⟩, by rw [up_j (by decide)]; exact h.2.1, h.2.2⟩
set_option maxRecDepth 20000 in
theorem c_M_sees {t : List Int32} {cu : Nat} {a b : Int32} {M : Mem} (hT : TPr M t cu) : Ct lyR y_M_sees b_M_sees 3 (some .boolean) 1 [.ref 0, .int a, .int b] M (Pi fun r M' => r = (if sesB t a b cu = true then 1 else 0) ∧ M' = M) := by
  obtain ⟨⟨h1, h2, h3⟩, h4, h5⟩ := hT
  have hlt : nI t.length ≤ nI cu ↔ t.length ≤ cu := nI_leI (by omega) (by omega)
  refine Ct.ofG mx_M_sees [some (.ref 0), some (.int a), some (.int b)] rfl rfl (Nat.le_of_ble_eq_true rfl) (fun κ C hQ => ?_)
  refine u_aload_n (pc := 0) C d_M_sees_0 rfl ?_
  refine u_geti (pc := 1) C d_M_sees_1 fw_M_113 sR_0 rfl ?_
  refine u_aload_n (pc := 4) C d_M_sees_4 rfl ?_
  refine u_geti (pc := 5) C d_M_sees_5 fw_M_81 sR_0 rfl ?_
  refine u_icmp_ge (pc := 8) (tgt := 32) C d_M_sees_8 rfl (fun c8 => ?_) (fun c8 => ?_)
  · refine u_iconst (pc := 32) (v := 0) C d_M_sees_32 (by decide) ?_
    refine u_zret (pc := 33) C d_M_sees_33 (by decide) (hQ _ _ ⟨_, rfl, ?_⟩)
    rw [h4, h2, hlt] at c8
    refine ⟨?_, rfl⟩
    rw [if_neg (fun z => absurd (ses_i.mp z).1 (by omega))]
  · rw [h4, h2, hlt] at c8
    have hcl : cu < t.length := by omega
    have hv : M.1 220 (M.1 0 33).toNatClampNeg = t.getD cu 0 := by rw [h4, nI_clamp (by omega)]; exact h3 cu hcl
    refine u_aload_n (pc := 11) C d_M_sees_11 rfl ?_
    refine u_getr (pc := 12) (r := 220) C d_M_sees_12 fw_M_52 sR_0 rfl rfl ?_
    refine u_aload_n (pc := 15) C d_M_sees_15 rfl ?_
    refine u_geti (pc := 16) C d_M_sees_16 fw_M_113 sR_0 rfl ?_
    refine u_iald (pc := 19) C d_M_sees_19 sR_220 (by rw [h4]; exact vp_in_nI (by omega) (by decide)) ?_
    refine u_iload_n (pc := 20) C d_M_sees_20 rfl ?_
    refine u_iload_n (pc := 21) C d_M_sees_21 rfl ?_
    refine u_callSi (pc := 22) C d_M_sees_22 mx_M_in mw_M_73 (c_M_in) rfl rfl (Nat.le_of_ble_eq_true rfl) (fun r22 M22 q22 => ?_)
    obtain ⟨e22, q22⟩ := q22
    have q22 := q22.symm
    subst q22
    refine u_if_eq (pc := 25) (tgt := 32) C d_M_sees_25 rfl (fun c25 => ?_) (fun c25 => ?_)
    · refine u_iconst (pc := 32) (v := 0) C d_M_sees_32 (by decide) ?_
      refine u_zret (pc := 33) C d_M_sees_33 (by decide) (hQ _ _ ⟨_, rfl, ?_⟩)
      rw [e22, hv] at c25
      refine ⟨?_, rfl⟩
      rw [if_neg (fun z => (in_n c25).elim (ses_i.mp z).2.1 (ses_i.mp z).2.2)]
    · refine u_iconst (pc := 28) (v := 1) C d_M_sees_28 (by decide) ?_
      refine u_goto (pc := 29) (tgt := 33) C d_M_sees_29 rfl ?_
      refine u_zret (pc := 33) C d_M_sees_33 (by decide) (hQ _ _ ⟨_, rfl, ?_⟩)
      rw [e22, hv] at c25
      refine ⟨?_, rfl⟩
      rw [if_pos (ses_i.mpr ⟨hcl, (in_y c25).1, (in_y c25).2⟩)]
set_option maxRecDepth 20000 in
theorem c_M_must {t : List Int32} {s : Nat × Option Nat} {a b : Int32} {M : Mem} (hS : TSt M t s) : Ct lyR y_M_must b_M_must 3 (some .int) 2 [.ref 0, .int a, .int b] M (Pi fun r M' => r = (mst t a b s).1 ∧ TSt M' t (mst t a b s).2 ∧ OfR sfR M M') := by
  obtain ⟨hT, hf, hb⟩ := id hS
  obtain ⟨⟨h1, h2, h3⟩, h4, h5⟩ := id hT
  refine Ct.ofG mx_M_must [some (.ref 0), some (.int a), some (.int b)] rfl rfl (Nat.le_of_ble_eq_true rfl) (fun κ C hQ => ?_)
  refine u_aload_n (pc := 0) C d_M_must_0 rfl ?_
  refine u_geti (pc := 1) C d_M_must_1 fw_M_116 sR_0 rfl ?_
  refine u_if_lt (pc := 4) (tgt := 9) C d_M_must_4 rfl (fun c4 => ?_) (fun c4 => ?_)
  · rw [hf] at c4
    have hno := ft_none h1 hb c4
    refine u_aload_n (pc := 9) C d_M_must_9 rfl ?_
    refine u_iload_n (pc := 10) C d_M_must_10 rfl ?_
    refine u_iload_n (pc := 11) C d_M_must_11 rfl ?_
    refine u_callVi (pc := 12) C d_M_must_12 mx_M_sees mw_M_119 sR_0 rfl (c_M_sees hT) rfl rfl (Nat.le_of_ble_eq_true rfl) (fun r12 M12 q12 => ?_)
    obtain ⟨e12, q12⟩ := q12
    have q12 := q12.symm
    subst q12
    refine u_if_ne (pc := 15) (tgt := 28) C d_M_must_15 rfl (fun c15 => ?_) (fun c15 => ?_)
    · have hse := one_of e12 c15
      have hcl := (ses_i.mp hse).1
      refine u_aload_n (pc := 28) C d_M_must_28 rfl ?_
      refine u_getr (pc := 29) (r := 220) C d_M_must_29 fw_M_52 sR_0 rfl rfl ?_
      refine u_aload_n (pc := 32) C d_M_must_32 rfl ?_
      refine u_dup (pc := 33) C d_M_must_33 rfl ?_
      refine u_geti (pc := 34) C d_M_must_34 fw_M_113 sR_0 rfl ?_
      refine u_dup_x1 (pc := 37) C d_M_must_37 rfl rfl ?_
      refine u_iconst (pc := 38) (v := 1) C d_M_must_38 (by decide) ?_
      refine u_iadd (pc := 39) C d_M_must_39 ?_
      refine u_put (pc := 40) C d_M_must_40 fw_M_113 sR_0 rfl (Or.inl rfl) ?_
      refine u_iald (pc := 43) C d_M_must_43 sR_220 (by rw [h4]; exact vp_in_nI (by omega) (by decide)) ?_
      refine u_iret (pc := 44) C d_M_must_44 (hQ _ _ ⟨_, rfl, ?_⟩)
      rw [mst_y hno hse, h4, ← nI_succ]
      refine ⟨?_, ⟨hT.mv (by omega), by rw [up_j (by decide), hf, hno], fun x hx => (by cases hx)⟩, sf_up (Or.inl rfl)⟩
      rw [up_ne (by decide), nI_clamp (by omega)]
      exact h3 _ hcl
    · refine u_aload_n (pc := 18) C d_M_must_18 rfl ?_
      refine u_aload_n (pc := 19) C d_M_must_19 rfl ?_
      refine u_geti (pc := 20) C d_M_must_20 fw_M_113 sR_0 rfl ?_
      refine u_put (pc := 23) C d_M_must_23 fw_M_116 sR_0 rfl (Or.inl rfl) ?_
      refine u_iload_n (pc := 26) C d_M_must_26 rfl ?_
      refine u_iret (pc := 27) C d_M_must_27 (hQ _ _ ⟨_, rfl, ?_⟩)
      have hse := zero_of e12 c15
      rw [mst_n hno hse]
      exact ⟨rfl, ⟨hT.ft, by rw [up_row, pk_us, h4]; rfl, fun x hx => by cases hx; exact h5⟩, sf_up (Or.inr rfl)⟩
  · refine u_iload_n (pc := 7) C d_M_must_7 rfl ?_
    refine u_iret (pc := 8) C d_M_must_8 (hQ _ _ ⟨_, rfl, ?_⟩)
    rw [hf] at c4
    obtain ⟨x, hx⟩ := ft_some c4
    rw [mst_f hx]
    exact ⟨rfl, hS, OfR.refl⟩
def dgs (t : List Int32) (mx : Int32) (s : Nat × Option Nat) : Int32 × (Nat × Option Nat) := ((mst t 48 (48 + mx) (mst t 32 32 s).2).1 - 48, (mst t 48 (48 + mx) (mst t 32 32 s).2).2)
set_option maxRecDepth 20000 in
theorem c_M_digit {t : List Int32} {s : Nat × Option Nat} {mx : Int32} {M : Mem} (hS : TSt M t s) : Ct lyR y_M_digit b_M_digit 2 (some .int) 3 [.ref 0, .int mx] M (Pi fun r M' => r = (dgs t mx s).1 ∧ TSt M' t (dgs t mx s).2 ∧ OfR sfR M M') := by
  refine Ct.ofG mx_M_digit [some (.ref 0), some (.int mx)] rfl rfl (Nat.le_of_ble_eq_true rfl) (fun κ C hQ => ?_)
  refine u_aload_n (pc := 0) C d_M_digit_0 rfl ?_
  refine u_bipush (pc := 1) (v := 32) C d_M_digit_1 (by decide) ?_
  refine u_bipush (pc := 3) (v := 32) C d_M_digit_3 (by decide) ?_
  refine u_callVi (pc := 5) C d_M_digit_5 mx_M_must mw_M_141 sR_0 rfl (c_M_must hS) rfl rfl (Nat.le_of_ble_eq_true rfl) (fun r5 M5 q5 => ?_)
  obtain ⟨e5, hS5, o5⟩ := q5
  refine u_pop (pc := 8) C d_M_digit_8 rfl ?_
  refine u_aload_n (pc := 9) C d_M_digit_9 rfl ?_
  refine u_bipush (pc := 10) (v := 48) C d_M_digit_10 (by decide) ?_
  refine u_bipush (pc := 12) (v := 48) C d_M_digit_12 (by decide) ?_
  refine u_iload_n (pc := 14) C d_M_digit_14 rfl ?_
  refine u_iadd (pc := 15) C d_M_digit_15 ?_
  refine u_callVi (pc := 16) C d_M_digit_16 mx_M_must mw_M_141 sR_0 rfl (c_M_must hS5) rfl rfl (Nat.le_of_ble_eq_true rfl) (fun r16 M16 q16 => ?_)
  obtain ⟨e16, hS16, o16⟩ := q16
  refine u_bipush (pc := 19) (v := 48) C d_M_digit_19 (by decide) ?_
  refine u_isub (pc := 21) C d_M_digit_21 ?_
  refine u_iret (pc := 22) C d_M_digit_22 (hQ _ _ ⟨_, rfl, ?_⟩)
  exact ⟨by rw [e16]; rfl, hS16, o5.trans o16⟩
set_option maxRecDepth 20000 in
theorem c_M_wordOf {k : Nat} {M : Mem} (hk : k < 15) : Ct lyR y_M_wordOf b_M_wordOf 1 (some (.object "java/lang/String")) 0 [.int (nI k)] M (Pa fun r M' => r = 1000 + (k + 1) ∧ M' = M) := by
  refine Ct.ofG mx_M_wordOf [some (.int (nI k))] rfl rfl (Nat.le_of_ble_eq_true rfl) (fun κ C hQ => ?_)
  refine u_iload_n (pc := 0) C d_M_wordOf_0 rfl ?_
  refine u_top (fun t1 e1 => ?_)
  rcases sw_0_13 t1 with q1 | q1 | q1 | q1 | q1 | q1 | q1 | q1 | q1 | q1 | q1 | q1 | q1 | q1 | q1
  · refine u_tsIn (pc := 1) (tgt := 72) C d_M_wordOf_1 (by rw [q1]; decide) (by rw [q1]; decide) (by rw [q1]; rfl) rfl ?_
    refine u_ldcS (pc := 72) C (i := 1) rfl d_M_wordOf_72 ?_
    refine u_aret (pc := 74) C d_M_wordOf_74 (hQ _ _ ⟨_, rfl, ?_⟩)
    have z : k = 0 := (nI_eq (a := k) (b := 0) (by omega) (by decide)).mp (e1.symm.trans q1)
    subst z
    exact ⟨rfl, rfl⟩
  · refine u_tsIn (pc := 1) (tgt := 75) C d_M_wordOf_1 (by rw [q1]; decide) (by rw [q1]; decide) (by rw [q1]; rfl) rfl ?_
    refine u_ldcS (pc := 75) C (i := 2) rfl d_M_wordOf_75 ?_
    refine u_aret (pc := 77) C d_M_wordOf_77 (hQ _ _ ⟨_, rfl, ?_⟩)
    have z : k = 1 := (nI_eq (a := k) (b := 1) (by omega) (by decide)).mp (e1.symm.trans q1)
    subst z
    exact ⟨rfl, rfl⟩
  · refine u_tsIn (pc := 1) (tgt := 78) C d_M_wordOf_1 (by rw [q1]; decide) (by rw [q1]; decide) (by rw [q1]; rfl) rfl ?_
    refine u_ldcS (pc := 78) C (i := 3) rfl d_M_wordOf_78 ?_
    refine u_aret (pc := 80) C d_M_wordOf_80 (hQ _ _ ⟨_, rfl, ?_⟩)
    have z : k = 2 := (nI_eq (a := k) (b := 2) (by omega) (by decide)).mp (e1.symm.trans q1)
    subst z
    exact ⟨rfl, rfl⟩
  · refine u_tsIn (pc := 1) (tgt := 81) C d_M_wordOf_1 (by rw [q1]; decide) (by rw [q1]; decide) (by rw [q1]; rfl) rfl ?_
    refine u_ldcS (pc := 81) C (i := 4) rfl d_M_wordOf_81 ?_
    refine u_aret (pc := 83) C d_M_wordOf_83 (hQ _ _ ⟨_, rfl, ?_⟩)
    have z : k = 3 := (nI_eq (a := k) (b := 3) (by omega) (by decide)).mp (e1.symm.trans q1)
    subst z
    exact ⟨rfl, rfl⟩
  · refine u_tsIn (pc := 1) (tgt := 84) C d_M_wordOf_1 (by rw [q1]; decide) (by rw [q1]; decide) (by rw [q1]; rfl) rfl ?_
    refine u_ldcS (pc := 84) C (i := 5) rfl d_M_wordOf_84 ?_
    refine u_aret (pc := 86) C d_M_wordOf_86 (hQ _ _ ⟨_, rfl, ?_⟩)
    have z : k = 4 := (nI_eq (a := k) (b := 4) (by omega) (by decide)).mp (e1.symm.trans q1)
    subst z
    exact ⟨rfl, rfl⟩
  · refine u_tsIn (pc := 1) (tgt := 87) C d_M_wordOf_1 (by rw [q1]; decide) (by rw [q1]; decide) (by rw [q1]; rfl) rfl ?_
    refine u_ldcS (pc := 87) C (i := 6) rfl d_M_wordOf_87 ?_
    refine u_aret (pc := 89) C d_M_wordOf_89 (hQ _ _ ⟨_, rfl, ?_⟩)
    have z : k = 5 := (nI_eq (a := k) (b := 5) (by omega) (by decide)).mp (e1.symm.trans q1)
    subst z
    exact ⟨rfl, rfl⟩
  · refine u_tsIn (pc := 1) (tgt := 90) C d_M_wordOf_1 (by rw [q1]; decide) (by rw [q1]; decide) (by rw [q1]; rfl) rfl ?_
    refine u_ldcS (pc := 90) C (i := 7) rfl d_M_wordOf_90 ?_
    refine u_aret (pc := 92) C d_M_wordOf_92 (hQ _ _ ⟨_, rfl, ?_⟩)
    have z : k = 6 := (nI_eq (a := k) (b := 6) (by omega) (by decide)).mp (e1.symm.trans q1)
    subst z
    exact ⟨rfl, rfl⟩
  · refine u_tsIn (pc := 1) (tgt := 93) C d_M_wordOf_1 (by rw [q1]; decide) (by rw [q1]; decide) (by rw [q1]; rfl) rfl ?_
    refine u_ldcS (pc := 93) C (i := 8) rfl d_M_wordOf_93 ?_
    refine u_aret (pc := 95) C d_M_wordOf_95 (hQ _ _ ⟨_, rfl, ?_⟩)
    have z : k = 7 := (nI_eq (a := k) (b := 7) (by omega) (by decide)).mp (e1.symm.trans q1)
    subst z
    exact ⟨rfl, rfl⟩
  · refine u_tsIn (pc := 1) (tgt := 96) C d_M_wordOf_1 (by rw [q1]; decide) (by rw [q1]; decide) (by rw [q1]; rfl) rfl ?_
    refine u_ldcS (pc := 96) C (i := 9) rfl d_M_wordOf_96 ?_
    refine u_aret (pc := 98) C d_M_wordOf_98 (hQ _ _ ⟨_, rfl, ?_⟩)
    have z : k = 8 := (nI_eq (a := k) (b := 8) (by omega) (by decide)).mp (e1.symm.trans q1)
    subst z
    exact ⟨rfl, rfl⟩
  · refine u_tsIn (pc := 1) (tgt := 99) C d_M_wordOf_1 (by rw [q1]; decide) (by rw [q1]; decide) (by rw [q1]; rfl) rfl ?_
    refine u_ldcS (pc := 99) C (i := 10) rfl d_M_wordOf_99 ?_
    refine u_aret (pc := 101) C d_M_wordOf_101 (hQ _ _ ⟨_, rfl, ?_⟩)
    have z : k = 9 := (nI_eq (a := k) (b := 9) (by omega) (by decide)).mp (e1.symm.trans q1)
    subst z
    exact ⟨rfl, rfl⟩
  · refine u_tsIn (pc := 1) (tgt := 102) C d_M_wordOf_1 (by rw [q1]; decide) (by rw [q1]; decide) (by rw [q1]; rfl) rfl ?_
    refine u_ldcS (pc := 102) C (i := 11) rfl d_M_wordOf_102 ?_
    refine u_aret (pc := 104) C d_M_wordOf_104 (hQ _ _ ⟨_, rfl, ?_⟩)
    have z : k = 10 := (nI_eq (a := k) (b := 10) (by omega) (by decide)).mp (e1.symm.trans q1)
    subst z
    exact ⟨rfl, rfl⟩
  · refine u_tsIn (pc := 1) (tgt := 105) C d_M_wordOf_1 (by rw [q1]; decide) (by rw [q1]; decide) (by rw [q1]; rfl) rfl ?_
    refine u_ldcS (pc := 105) C (i := 12) rfl d_M_wordOf_105 ?_
    refine u_aret (pc := 107) C d_M_wordOf_107 (hQ _ _ ⟨_, rfl, ?_⟩)
    have z : k = 11 := (nI_eq (a := k) (b := 11) (by omega) (by decide)).mp (e1.symm.trans q1)
    subst z
    exact ⟨rfl, rfl⟩
  · refine u_tsIn (pc := 1) (tgt := 108) C d_M_wordOf_1 (by rw [q1]; decide) (by rw [q1]; decide) (by rw [q1]; rfl) rfl ?_
    refine u_ldcS (pc := 108) C (i := 13) rfl d_M_wordOf_108 ?_
    refine u_aret (pc := 110) C d_M_wordOf_110 (hQ _ _ ⟨_, rfl, ?_⟩)
    have z : k = 12 := (nI_eq (a := k) (b := 12) (by omega) (by decide)).mp (e1.symm.trans q1)
    subst z
    exact ⟨rfl, rfl⟩
  · refine u_tsIn (pc := 1) (tgt := 111) C d_M_wordOf_1 (by rw [q1]; decide) (by rw [q1]; decide) (by rw [q1]; rfl) rfl ?_
    refine u_ldcS (pc := 111) C (i := 14) rfl d_M_wordOf_111 ?_
    refine u_aret (pc := 113) C d_M_wordOf_113 (hQ _ _ ⟨_, rfl, ?_⟩)
    have z : k = 13 := (nI_eq (a := k) (b := 13) (by omega) (by decide)).mp (e1.symm.trans q1)
    subst z
    exact ⟨rfl, rfl⟩
  · refine u_tsOut (pc := 1) (tgt := 114) C d_M_wordOf_1 q1 rfl ?_
    refine u_ldcS (pc := 114) C (i := 15) rfl d_M_wordOf_114 ?_
    refine u_aret (pc := 116) C d_M_wordOf_116 (hQ _ _ ⟨_, rfl, ?_⟩)
    have z : k = 14 := by
      rw [e1, nI_toInt (by omega)] at q1
      omega
    subst z
    exact ⟨rfl, rfl⟩
set_option maxRecDepth 20000 in
theorem lp_goes {κ : KX} {t : List Int32} {cu k : Nat} {M : Mem} (hT : TPr M t cu) (hk : k < 15) (C : Cx κ lyR y_M_goes.cls b_M_goes 3 (some .int) 4) (hQ : ∀ v M', Pi (fun r M' => r = nI (gk t cu k) ∧ M' = M) v M' → KQ κ v M') : ∀ (f i : Nat), i ≤ wlen k → wlen k - i < f → gok t cu k f i = gk t cu k → G κ lyR 2 [some (.ref 0), some (.ref (1000 + (k + 1))), some (.int (nI i))] [] M := by
  intro f
  induction f with
  | zero => intro i _ h; omega
  | succ f ih =>
    intro i hi hf he
    have hl := w_len k hk
    obtain ⟨⟨h1, h2, h3⟩, h4, h5⟩ := id hT
    have hiw9 : nI (wlen k) ≤ nI i ↔ wlen k ≤ i := nI_leI (by omega) (by omega)
    have hsum : M.1 0 33 + nI i = nI (cu + i) := by rw [h4, nI_add]
    have hlt9 : nI t.length ≤ nI (cu + i) ↔ t.length ≤ cu + i := nI_leI (by omega) (by omega)
    have hgi : gok t cu k (f + 1) i = gk t cu k := he
    refine u_iload_n (pc := 2) C d_M_goes_2 rfl ?_
    refine u_aload_n (pc := 3) C d_M_goes_3 rfl ?_
    refine u_callT (pc := 4) C (i := k + 1) d_M_goes_4 mx_J_length mw_M_len (by omega) rfl (c_J_length (by omega)) rfl rfl (Nat.le_of_ble_eq_true rfl) (fun r4 M4 q4 => ?_)
    obtain ⟨e4, q4⟩ := q4
    have q4 := q4.symm
    subst q4
    refine u_icmp_ge (pc := 7) (tgt := 48) C d_M_goes_7 rfl (fun c7 => ?_) (fun c7 => ?_)
    · refine u_iload_n (pc := 48) C d_M_goes_48 rfl ?_
      refine u_iret (pc := 49) C d_M_goes_49 (hQ _ _ ⟨_, rfl, ?_⟩)
      refine ⟨?_, rfl⟩
      rw [← hgi, gok, if_neg]
      intro z
      rw [show r4 = nI (wlen k) from e4, hiw9] at c7
      exact absurd z.1 (by omega)
    · rw [show r4 = nI (wlen k) from e4, hiw9] at c7
      have hiw : i < slen.getD (k + 1) 0 := by
        show i < wlen k
        omega
      refine u_aload_n (pc := 10) C d_M_goes_10 rfl ?_
      refine u_geti (pc := 11) C d_M_goes_11 fw_M_113 sR_0 rfl ?_
      refine u_iload_n (pc := 14) C d_M_goes_14 rfl ?_
      refine u_iadd (pc := 15) C d_M_goes_15 ?_
      refine u_aload_n (pc := 16) C d_M_goes_16 rfl ?_
      refine u_geti (pc := 17) C d_M_goes_17 fw_M_81 sR_0 rfl ?_
      refine u_icmp_ge (pc := 20) (tgt := 48) C d_M_goes_20 rfl (fun c20 => ?_) (fun c20 => ?_)
      · refine u_iload_n (pc := 48) C d_M_goes_48 rfl ?_
        refine u_iret (pc := 49) C d_M_goes_49 (hQ _ _ ⟨_, rfl, ?_⟩)
        refine ⟨?_, rfl⟩
        rw [← hgi, gok, if_neg]
        intro z
        rw [hsum, h2, hlt9] at c20
        exact absurd z.2.1 (by omega)
      · rw [hsum, h2, hlt9] at c20
        have hcl : cu + i < t.length := by omega
        have hv : M.1 220 (M.1 0 33 + nI i).toNatClampNeg = t.getD (cu + i) 0 := by rw [hsum, nI_clamp (by omega)]; exact h3 _ hcl
        refine u_aload_n (pc := 23) C d_M_goes_23 rfl ?_
        refine u_getr (pc := 24) (r := 220) C d_M_goes_24 fw_M_52 sR_0 rfl rfl ?_
        refine u_aload_n (pc := 27) C d_M_goes_27 rfl ?_
        refine u_geti (pc := 28) C d_M_goes_28 fw_M_113 sR_0 rfl ?_
        refine u_iload_n (pc := 31) C d_M_goes_31 rfl ?_
        refine u_iadd (pc := 32) C d_M_goes_32 ?_
        refine u_iald (pc := 33) C d_M_goes_33 sR_220 (by rw [hsum]; exact vp_in_nI (by omega) (by decide)) ?_
        refine u_aload_n (pc := 34) C d_M_goes_34 rfl ?_
        refine u_iload_n (pc := 35) C d_M_goes_35 rfl ?_
        refine u_callT (pc := 36) C (i := k + 1) d_M_goes_36 mx_J_charAt mw_M_chr (by omega) rfl (c_J_charAt (j := i) (by omega) hiw) rfl rfl (Nat.le_of_ble_eq_true rfl) (fun r36 M36 q36 => ?_)
        obtain ⟨e36, q36⟩ := q36
        have q36 := q36.symm
        subst q36
        refine u_icmp_ne (pc := 39) (tgt := 48) C d_M_goes_39 rfl (fun c39 => ?_) (fun c39 => ?_)
        · refine u_iload_n (pc := 48) C d_M_goes_48 rfl ?_
          refine u_iret (pc := 49) C d_M_goes_49 (hQ _ _ ⟨_, rfl, ?_⟩)
          refine ⟨?_, rfl⟩
          rw [← hgi, gok, if_neg]
          intro z
          rw [hv, show r36 = wch k i from e36] at c39
          exact c39 z.2.2
        · refine u_iinc (pc := 42) (v2 := 1) C d_M_goes_42 rfl rfl (by decide) (fun x42 e42 L9 hL9 => ?_)
          obtain rfl : L9 = [some (.ref 0), some (.ref (1000 + (k + 1))), some (.int x42)] := hL9.symm
          refine u_goto (pc := 45) (tgt := 2) C d_M_goes_45 rfl ?_
          obtain rfl : x42 = nI (i + 1) := by rw [e42, nI_succ]
          rw [hv, show r36 = wch k i from e36] at c39
          refine ih (i + 1) hiw (by omega) ?_
          rw [← hgi, gok, if_pos ⟨hiw, hcl, c39⟩]
set_option maxRecDepth 20000 in
theorem c_M_goes {t : List Int32} {cu k : Nat} {M : Mem} (hT : TPr M t cu) (hk : k < 15) : Ct lyR y_M_goes b_M_goes 3 (some .int) 4 [.ref 0, .ref (1000 + (k + 1))] M (Pi fun r M' => r = nI (gk t cu k) ∧ M' = M) := by
  refine Ct.ofG mx_M_goes [some (.ref 0), some (.ref (1000 + (k + 1))), none] rfl rfl (Nat.le_of_ble_eq_true rfl) (fun κ C hQ => ?_)
  refine u_iconst (pc := 0) (v := 0) C d_M_goes_0 (by decide) ?_
  refine u_istore_n (pc := 1) C d_M_goes_1 rfl (fun x1 e1 L9 hL9 => ?_)
  obtain rfl : L9 = [some (.ref 0), some (.ref (1000 + (k + 1))), some (.int x1)] := hL9.symm
  subst e1
  exact lp_goes hT hk C hQ 8 0 (Nat.zero_le _) (by have := w_len k hk; omega) rfl
def whF (t : List Int32) (cu : Nat) : Int32 × (Nat × Option Nat) := match (rwf t cu 15 0 0).1 with
  | some k => (nI k, (cu + (rwf t cu 15 0 0).2, none))
  | none => (0, (cu, some (cu + (rwf t cu 15 0 0).2)))
set_option maxRecDepth 20000 in
theorem lp_wordHere {κ : KX} {t : List Int32} {cu : Nat} {M : Mem} (hS : TSt M t (cu, none)) (C : Cx κ lyR y_M_wordHere.cls b_M_wordHere 4 (some .int) 5) (hQ : ∀ v M', Pi (fun r M' => r = (whF t cu).1 ∧ TSt M' t (whF t cu).2 ∧ OfR sfR M M') v M' → KQ κ v M') : ∀ (f k far : Nat), k ≤ 15 → 15 - k < f → cu + far ≤ t.length → rwf t cu (15 - k) k far = rwf t cu 15 0 0 → G κ lyR 4 [some (.ref 0), some (.int (nI far)), some (.int (nI k)), none] [] M := by
  intro f
  induction f with
  | zero => intro k far _ h; omega
  | succ f ih =>
    intro k far hk9 hf hfar hr
    obtain ⟨hT, hft, hb⟩ := id hS
    obtain ⟨⟨h1, h2, h3⟩, h4, h5⟩ := id hT
    have h4' : M.1 0 33 = nI cu := h4
    have h5' : cu ≤ t.length := h5
    have h14 : nI k ≤ (14 : Int32) ↔ k ≤ 14 := nI_leI (b := 14) (by omega) (by decide)
    refine u_iload_n (pc := 4) C d_M_wordHere_4 rfl ?_
    refine u_bipush (pc := 5) (v := 14) C d_M_wordHere_5 (by decide) ?_
    refine u_icmp_gt (pc := 7) (tgt := 59) C d_M_wordHere_7 rfl (fun c7 => ?_) (fun c7 => ?_)
    · refine u_aload_n (pc := 59) C d_M_wordHere_59 rfl ?_
      refine u_aload_n (pc := 60) C d_M_wordHere_60 rfl ?_
      refine u_geti (pc := 61) C d_M_wordHere_61 fw_M_113 sR_0 rfl ?_
      refine u_iload_n (pc := 64) C d_M_wordHere_64 rfl ?_
      refine u_iadd (pc := 65) C d_M_wordHere_65 ?_
      refine u_put (pc := 66) C d_M_wordHere_66 fw_M_116 sR_0 rfl (Or.inl rfl) ?_
      refine u_iconst (pc := 69) (v := 0) C d_M_wordHere_69 (by decide) ?_
      refine u_iret (pc := 70) C d_M_wordHere_70 (hQ _ _ ⟨_, rfl, ?_⟩)
      have hkk : k = 15 := by
        have : ¬ k ≤ 14 := fun z => absurd c7 (Int32.not_lt.mpr (h14.mpr z))
        omega
      subst hkk
      have hrw : rwf t cu 15 0 0 = (none, far) := hr.symm
      have hwf : whF t cu = (0, (cu, some (cu + far))) := by unfold whF; rw [hrw]
      rw [hwf, h4', nI_add]
      exact ⟨rfl, ⟨hT.ft, by rw [up_row, pk_us]; rfl, fun x hx => by cases hx; exact hfar⟩, sf_up (Or.inr rfl)⟩
    · have hk : k < 15 := by
        have : k ≤ 14 := h14.mp (Int32.not_lt.mp c7)
        omega
      have hl := w_len k hk
      have hgl := gk_len (t := t) (cu := cu) (k := k) h5'
      have hgw := gk_le (t := t) (cu := cu) (k := k)
      have hi1 : 15 - k = (14 - k) + 1 := by omega
      have hi2 : 15 - (k + 1) = 14 - k := by omega
      rw [hi1] at hr
      refine u_aload_n (pc := 10) C d_M_wordHere_10 rfl ?_
      refine u_iload_n (pc := 11) C d_M_wordHere_11 rfl ?_
      refine u_callSa (pc := 12) C d_M_wordHere_12 mx_M_wordOf mw_M_133 (c_M_wordOf hk) rfl rfl (Nat.le_of_ble_eq_true rfl) (fun r12 M12 q12 => ?_)
      obtain ⟨e12, q12⟩ := q12
      have q12 := q12.symm
      subst q12
      subst e12
      refine u_callVi (pc := 15) C d_M_wordHere_15 mx_M_goes mw_M_137 sR_0 rfl (c_M_goes hT hk) rfl rfl (Nat.le_of_ble_eq_true rfl) (fun r15 M15 q15 => ?_)
      obtain ⟨e15, q15⟩ := q15
      have q15 := q15.symm
      subst q15
      refine u_istore_n (pc := 18) C d_M_wordHere_18 rfl (fun x18 e18 L9 hL9 => ?_)
      obtain rfl : L9 = [some (.ref 0), some (.int (nI far)), some (.int (nI k)), some (.int x18)] := hL9.symm
      refine u_iload_n (pc := 19) C d_M_wordHere_19 rfl ?_
      refine u_iload_n (pc := 20) C d_M_wordHere_20 rfl ?_
      refine u_callSa (pc := 21) C d_M_wordHere_21 mx_M_wordOf mw_M_133 (c_M_wordOf hk) rfl rfl (Nat.le_of_ble_eq_true rfl) (fun r21 M21 q21 => ?_)
      obtain ⟨e21, q21⟩ := q21
      have q21 := q21.symm
      subst q21
      subst e21
      refine u_callT (pc := 24) C (i := k + 1) d_M_wordHere_24 mx_J_length mw_M_len (by omega) rfl (c_J_length (by omega)) rfl rfl (Nat.le_of_ble_eq_true rfl) (fun r24 M24 q24 => ?_)
      obtain ⟨e24, q24⟩ := q24
      have q24 := q24.symm
      subst q24
      refine u_icmp_ne (pc := 27) (tgt := 42) C d_M_wordHere_27 rfl (fun c27 => ?_) (fun c27 => ?_)
      · rw [e18, e15, show r24 = nI (wlen k) from e24] at c27
        have hne : ¬ gk t cu k = wlen k := fun z => c27 (by rw [z])
        refine u_iload_n (pc := 42) C d_M_wordHere_42 rfl ?_
        refine u_iload_n (pc := 43) C d_M_wordHere_43 rfl ?_
        refine u_icmp_le (pc := 44) (tgt := 51) C d_M_wordHere_44 rfl (fun c44 => ?_) (fun c44 => ?_)
        · refine u_iload_n (pc := 51) C d_M_wordHere_51 rfl ?_
          refine u_istore_n (pc := 52) C d_M_wordHere_52 rfl (fun x52 e52 L9 hL9 => ?_)
          obtain rfl : L9 = [some (.ref 0), some (.int x52), some (.int (nI k)), some (.int x18)] := hL9.symm
          refine u_iinc (pc := 53) (v2 := 1) C d_M_wordHere_53 rfl rfl (by decide) (fun x53 e53 L9 hL9 => ?_)
          obtain rfl : L9 = [some (.ref 0), some (.int x52), some (.int x53), some (.int x18)] := hL9.symm
          refine u_goto (pc := 56) (tgt := 4) C d_M_wordHere_56 rfl ?_
          obtain rfl : x53 = nI (k + 1) := by rw [e53, nI_succ]
          refine u_drop 3 rfl ?_
          have hfl : nI (gk t cu k) ≤ nI far ↔ gk t cu k ≤ far := nI_leI (by omega) (by omega)
          rw [e18, e15, hfl] at c44
          obtain rfl : x52 = nI (max far (gk t cu k)) := by
            rw [e52]
            rw [Nat.max_eq_left (by omega)]
          refine ih (k + 1) _ (by omega) (by omega) ?_ ?_
          · rcases Nat.le_total far (gk t cu k) with z | z
            · rw [Nat.max_eq_right z]; exact hgl
            · rw [Nat.max_eq_left z]; exact hfar
          · rw [← hr, rwf, if_neg hne, hi2]
        · refine u_iload_n (pc := 47) C d_M_wordHere_47 rfl ?_
          refine u_goto (pc := 48) (tgt := 52) C d_M_wordHere_48 rfl ?_
          refine u_istore_n (pc := 52) C d_M_wordHere_52 rfl (fun x52 e52 L9 hL9 => ?_)
          obtain rfl : L9 = [some (.ref 0), some (.int x52), some (.int (nI k)), some (.int x18)] := hL9.symm
          refine u_iinc (pc := 53) (v2 := 1) C d_M_wordHere_53 rfl rfl (by decide) (fun x53 e53 L9 hL9 => ?_)
          obtain rfl : L9 = [some (.ref 0), some (.int x52), some (.int x53), some (.int x18)] := hL9.symm
          refine u_goto (pc := 56) (tgt := 4) C d_M_wordHere_56 rfl ?_
          obtain rfl : x53 = nI (k + 1) := by rw [e53, nI_succ]
          refine u_drop 3 rfl ?_
          have hfl : nI (gk t cu k) ≤ nI far ↔ gk t cu k ≤ far := nI_leI (by omega) (by omega)
          rw [e18, e15, hfl] at c44
          obtain rfl : x52 = nI (max far (gk t cu k)) := by
            rw [e52]
            rw [e18, e15, Nat.max_eq_right (by omega)]
          refine ih (k + 1) _ (by omega) (by omega) ?_ ?_
          · rcases Nat.le_total far (gk t cu k) with z | z
            · rw [Nat.max_eq_right z]; exact hgl
            · rw [Nat.max_eq_left z]; exact hfar
          · rw [← hr, rwf, if_neg hne, hi2]
      · rw [e18, e15, show r24 = nI (wlen k) from e24] at c27
        have heq : gk t cu k = wlen k := (nI_eq (by omega) (by omega)).mp c27
        refine u_aload_n (pc := 30) C d_M_wordHere_30 rfl ?_
        refine u_dup (pc := 31) C d_M_wordHere_31 rfl ?_
        refine u_geti (pc := 32) C d_M_wordHere_32 fw_M_113 sR_0 rfl ?_
        refine u_iload_n (pc := 35) C d_M_wordHere_35 rfl ?_
        refine u_iadd (pc := 36) C d_M_wordHere_36 ?_
        refine u_put (pc := 37) C d_M_wordHere_37 fw_M_113 sR_0 rfl (Or.inl rfl) ?_
        refine u_iload_n (pc := 40) C d_M_wordHere_40 rfl ?_
        refine u_iret (pc := 41) C d_M_wordHere_41 (hQ _ _ ⟨_, rfl, ?_⟩)
        have hrw : rwf t cu 15 0 0 = (some k, wlen k) := by rw [← hr, rwf, if_pos heq]
        have hwf : whF t cu = (nI k, (cu + wlen k, none)) := by unfold whF; rw [hrw]
        rw [hwf, h4', e18, e15, heq, nI_add]
        exact ⟨rfl, ⟨hT.mv (by omega), by rw [up_j (by decide)]; exact hft, fun x hx => (by cases hx)⟩, sf_up (Or.inl rfl)⟩
set_option maxRecDepth 20000 in
theorem c_M_wordHere {t : List Int32} {cu : Nat} {M : Mem} (hS : TSt M t (cu, none)) : Ct lyR y_M_wordHere b_M_wordHere 4 (some .int) 5 [.ref 0] M (Pi fun r M' => r = (whF t cu).1 ∧ TSt M' t (whF t cu).2 ∧ OfR sfR M M') := by
  refine Ct.ofG mx_M_wordHere [some (.ref 0), none, none, none] rfl rfl (Nat.le_of_ble_eq_true rfl) (fun κ C hQ => ?_)
  refine u_iconst (pc := 0) (v := 0) C d_M_wordHere_0 (by decide) ?_
  refine u_istore_n (pc := 1) C d_M_wordHere_1 rfl (fun x1 e1 L9 hL9 => ?_)
  obtain rfl : L9 = [some (.ref 0), some (.int x1), none, none] := hL9.symm
  refine u_iconst (pc := 2) (v := 0) C d_M_wordHere_2 (by decide) ?_
  refine u_istore_n (pc := 3) C d_M_wordHere_3 rfl (fun x3 e3 L9 hL9 => ?_)
  obtain rfl : L9 = [some (.ref 0), some (.int x1), some (.int x3), none] := hL9.symm
  subst e1
  subst e3
  exact lp_wordHere hS C hQ 16 0 0 (by omega) (by omega) hS.1.2.2 rfl
