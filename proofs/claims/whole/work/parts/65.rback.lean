/-! the reference: back, resolve, run -/
def bk (n : Nat) (x : Int32) : Int32 := if nI n ≤ x then -1 else x
def hdR (p _j : Nat) : Prop := p = 221
set_option maxRecDepth 20000 in
theorem lp_backR {κ : KX} {n : Nat} {M : Mem} (h5 : M.1 0 5 = nI n) (C : Cx κ lyR y_M_back.cls b_M_back 2 (some .int) 1) (hQ : ∀ v M', Pi (fun r M' => r = nI n ∧ OfR hdR M M' ∧ ∀ q, q < 8 → M'.1 221 q = bk n (M.1 221 q)) v M' → KQ κ v M') : ∀ (f i : Nat) (M1 : Mem), i ≤ 8 → 8 - i < f → OfR hdR M M1 → (∀ q, q < i → M1.1 221 q = bk n (M.1 221 q)) → (∀ q, i ≤ q → q < 8 → M1.1 221 q = M.1 221 q) → G κ lyR 31 [some (.ref 0), some (.int (nI i))] [] M1 := by
  intro f
  induction f with
  | zero => intro i M1 _ h; omega
  | succ f ih =>
    intro i M1 hi hf ho h1 h2
    have h51 : M1.1 0 5 = nI n := by rw [ho 0 5 (by unfold hdR; decide)]; exact h5
    have hin : (8 : Int32) ≤ nI i ↔ 8 ≤ i := nI_leI (a := 8) (by omega) (by omega)
    refine u_iload_n (pc := 31) C d_M_back_31 rfl ?_
    refine u_bipush (pc := 32) (v := 8) C d_M_back_32 (by decide) ?_
    refine u_icmp_ge (pc := 34) (tgt := 72) C d_M_back_34 rfl (fun c34 => ?_) (fun c34 => ?_)
    · refine u_aload_n (pc := 72) C d_M_back_72 rfl ?_
      refine u_geti (pc := 73) C d_M_back_73 fw_M_70 sR_0 rfl ?_
      refine u_iret (pc := 76) C d_M_back_76 (hQ _ _ ⟨_, rfl, ?_⟩)
      have hge : i = 8 := by rw [hin] at c34; omega
      subst hge
      exact ⟨h51, ho, h1⟩
    · refine u_aload_n (pc := 37) C d_M_back_37 rfl ?_
      refine u_getr (pc := 38) (r := 221) C d_M_back_38 fw_M_55 sR_0 rfl rfl ?_
      refine u_iload_n (pc := 41) C d_M_back_41 rfl ?_
      refine u_aload_n (pc := 42) C d_M_back_42 rfl ?_
      refine u_getr (pc := 43) (r := 221) C d_M_back_43 fw_M_55 sR_0 rfl rfl ?_
      refine u_iload_n (pc := 46) C d_M_back_46 rfl ?_
      refine u_iald (pc := 47) C d_M_back_47 sR_221 (vp_in_nI (by rw [hin] at c34; omega) (by decide)) ?_
      refine u_aload_n (pc := 48) C d_M_back_48 rfl ?_
      refine u_geti (pc := 49) C d_M_back_49 fw_M_70 sR_0 rfl ?_
      refine u_icmp_lt (pc := 52) (tgt := 59) C d_M_back_52 rfl (fun c52 => ?_) (fun c52 => ?_)
      · refine u_aload_n (pc := 59) C d_M_back_59 rfl ?_
        refine u_getr (pc := 60) (r := 221) C d_M_back_60 fw_M_55 sR_0 rfl rfl ?_
        refine u_iload_n (pc := 63) C d_M_back_63 rfl ?_
        refine u_iald (pc := 64) C d_M_back_64 sR_221 (vp_in_nI (by rw [hin] at c34; omega) (by decide)) ?_
        refine u_iast (pc := 65) C d_M_back_65 sR_221 (vp_in_nI (by rw [hin] at c34; omega) (by decide)) ?_
        refine u_iinc (pc := 66) (v2 := 1) C d_M_back_66 rfl rfl (by decide) (fun x66 e66 L9 hL9 => ?_)
        obtain rfl : L9 = [some (.ref 0), some (.int x66)] := hL9.symm
        refine u_goto (pc := 69) (tgt := 31) C d_M_back_69 rfl ?_
        obtain rfl : x66 = nI (i + 1) := by rw [e66, nI_succ]
        have hlt : i < 8 := by rw [hin] at c34; omega
        rw [h51, nI_clamp (by omega), h2 i (Nat.le_refl _) hlt] at c52
        refine ih (i + 1) _ (by omega) (by omega) (ho.trans (OfR.up rfl)) (fun q hq => ?_) (fun q hq hq8 => ?_)
        · rw [nI_clamp (by omega), up_row]
          by_cases e : q = i
          · rw [e, pk_us, bk]
            rw [if_neg (Int32.not_le.mpr c52), h2 i (Nat.le_refl _) hlt]
          · rw [pk_un e]; exact h1 q (by omega)
        · rw [nI_clamp (by omega), up_row, pk_un (by omega)]; exact h2 q (by omega) hq8
      · refine u_iconst (pc := 55) (v := (-1)) C d_M_back_55 (by decide) ?_
        refine u_goto (pc := 56) (tgt := 65) C d_M_back_56 rfl ?_
        refine u_iast (pc := 65) C d_M_back_65 sR_221 (vp_in_nI (by rw [hin] at c34; omega) (by decide)) ?_
        refine u_iinc (pc := 66) (v2 := 1) C d_M_back_66 rfl rfl (by decide) (fun x66 e66 L9 hL9 => ?_)
        obtain rfl : L9 = [some (.ref 0), some (.int x66)] := hL9.symm
        refine u_goto (pc := 69) (tgt := 31) C d_M_back_69 rfl ?_
        obtain rfl : x66 = nI (i + 1) := by rw [e66, nI_succ]
        have hlt : i < 8 := by rw [hin] at c34; omega
        rw [h51, nI_clamp (by omega), h2 i (Nat.le_refl _) hlt] at c52
        refine ih (i + 1) _ (by omega) (by omega) (ho.trans (OfR.up rfl)) (fun q hq => ?_) (fun q hq hq8 => ?_)
        · rw [nI_clamp (by omega), up_row]
          by_cases e : q = i
          · rw [e, pk_us, bk]
            rw [if_pos (Int32.not_lt.mp c52)]
          · rw [pk_un e]; exact h1 q (by omega)
        · rw [nI_clamp (by omega), up_row, pk_un (by omega)]; exact h2 q (by omega) hq8
set_option maxRecDepth 20000 in
theorem c_M_back  {M : Mem} {σ : St} (hI : InvR M σ) : Ct lyR y_M_back b_M_back 2 (some .int) 1 [.ref 0] M (Pi fun r M' => r = (sp_back σ).1 ∧ InvR M' (sp_back σ).2) := by
  have hS := hI.1
  have n24 := hS.n24
  have h5 := hS.2.2.1
  obtain ⟨k1, k2, k3, k4, k5⟩ := hS.cdc
  refine Ct.ofG mx_M_back [some (.ref 0), none] rfl rfl (Nat.le_of_ble_eq_true rfl) (fun κ C hQ => ?_)
  refine u_aload_n (pc := 0) C d_M_back_0 rfl ?_
  refine u_geti (pc := 1) C d_M_back_1 fw_M_36 sR_0 rfl ?_
  refine u_if_ge (pc := 4) (tgt := 10) C d_M_back_4 rfl (fun c4 => ?_) (fun c4 => ?_)
  · obtain ⟨i, hi, hi9, hin9, hwi, hfi⟩ : ∃ i, σ.2.1 = some i ∧ M.1 0 9 = nI i.1 ∧ i.1 ≤ σ.1.2.1 ∧ WFg σ.1.1 i.1 i.2.1 i.2.2 ∧ FG (M.1 14) i.2.1 i.2.2 := by
      have h2 := hI.2.1
      cases hi : σ.2.1 with
      | none =>
        rw [hi] at h2
        simp only [] at h2
        rw [h2] at c4
        exact absurd c4 (by decide)
      | some i => rw [hi] at h2; exact ⟨i, rfl, h2⟩
    refine u_aload_n (pc := 10) C d_M_back_10 rfl ?_
    refine u_getr (pc := 11) (r := 14) C d_M_back_11 fw_M_33 sR_0 rfl rfl ?_
    refine u_aload_n (pc := 14) C d_M_back_14 rfl ?_
    refine u_getr (pc := 15) (r := 6) C d_M_back_15 fw_M_25 sR_0 rfl rfl ?_
    refine u_callSv (pc := 18) C d_M_back_18 mx_M_copy mw_M_300 (c_M_copy sR_14 sR_6 (by decide)) rfl rfl (Nat.le_of_ble_eq_true rfl) (fun M18 q18 => ?_)
    obtain ⟨cp1, cp2⟩ := q18
    refine u_aload_n (pc := 21) C d_M_back_21 rfl ?_
    refine u_aload_n (pc := 22) C d_M_back_22 rfl ?_
    refine u_geti (pc := 23) C d_M_back_23 fw_M_36 sR_0 rfl ?_
    refine u_put (pc := 26) C d_M_back_26 fw_M_70 sR_0 rfl (Or.inl rfl) ?_
    refine u_iconst (pc := 29) (v := 0) C d_M_back_29 (by decide) ?_
    refine u_istore_n (pc := 30) C d_M_back_30 rfl (fun x30 e30 L9 hL9 => ?_)
    obtain rfl : L9 = [some (.ref 0), some (.int x30)] := hL9.symm
    have h9' : M18.1 0 9 = nI i.1 := by rw [cp1 0 (by decide)]; exact hi9
    rw [h9']
    subst e30
    refine lp_backR (n := i.1) (by rw [up_row, pk_us]) C (fun v M9 q => hQ v M9 ?_) 9 0 _ (by omega) (by omega) OfR.refl (fun q hq => absurd hq (Nat.not_lt_zero q)) (fun q _ _ => rfl)
    obtain ⟨r, rfl, q1, q2, q3⟩ := q
    have ei : sp_back σ = (nI i.1, setB σ i) := by rw [sp_back, hi]
    rw [ei]
    refine ⟨r, rfl, q1, ?_⟩
    have kp : ∀ p j, p ≠ 221 → p ≠ 6 → ¬ (p = 0 ∧ j = 5) → M9.1 p j = M.1 p j := fun p j a b c => by rw [q2 p j a, up_o c, cp1 p b]
    have h6 : ∀ j, j < 123 → M9.1 6 j = M.1 14 j := fun j hj => by rw [q2 6 j (by unfold hdR; decide), up_ne (by decide)]; exact cp2 j hj
    have h221 : ∀ j, (up M18 0 5 (nI i.1)).1 221 j = M.1 221 j := fun j => by rw [up_ne (by decide), cp1 221 (by decide)]
    obtain ⟨g1, g2, g3, g7, g8, g9, g10⟩ := hI
    refine ⟨⟨hwi, ?_, ?_, hfi.of_eq h6⟩, ?_, ?_, fun q hq => ?_, ?_, ?_, ?_⟩
    · have hc := g1.2.1
      have e : ∀ p, 1 ≤ p → p ≤ 5 → M9.1 p = M.1 p := fun p a b => funext (fun j => kp p j (by omega) (by omega) (by omega))
      unfold CDm
      rw [e 1 (by decide) (by decide), e 2 (by decide) (by decide), e 3 (by decide) (by decide), e 4 (by decide) (by decide), e 5 (by decide) (by decide)]
      exact hc
    · rw [q2 0 5 (by unfold hdR; decide), up_row, pk_us]; rfl
    · show match σ.2.1 with | none => M9.1 0 9 = -1 | some i' => M9.1 0 9 = nI i'.1 ∧ i'.1 ≤ i.1 ∧ WFg σ.1.1 i'.1 i'.2.1 i'.2.2 ∧ FG (M9.1 14) i'.2.1 i'.2.2
      rw [hi]
      simp only []
      rw [kp 0 9 (by decide) (by decide) (by decide)]
      exact ⟨hi9, Nat.le_refl _, hwi, hfi.of_eq (fun j _ => kp 14 j (by decide) (by decide) (fun z => absurd z.1 (by decide)))⟩
    · show σ.2.2.1.length ≤ 120 ∧ M9.1 0 20 = nI σ.2.2.1.length ∧ (∀ i, i < σ.2.2.1.length → M9.1 220 i = σ.2.2.1.getD i 0) ∧ ∀ x, x ∈ σ.2.2.1 → 0 ≤ x.toInt ∧ x.toInt ≤ 255
      rw [kp 0 20 (by decide) (by decide) (by decide)]
      exact ⟨g3.1, g3.2.1, fun i hi => by rw [kp 220 i (by decide) (by decide) (fun z => absurd z.1 (by decide))]; exact g3.2.2.1 i hi, g3.2.2.2⟩
    · have g7q := g7 q hq
      have h9q := q3 q hq
      rw [h221] at h9q
      show match (match σ.2.2.2.1 q with | none => none | some c => if c < i.1 then some c else none) with | none => M9.1 221 q = -1 | some c => M9.1 221 q = nI c ∧ c < i.1
      rw [h9q]
      have hw24 := hwi.1.1
      cases hc9 : σ.2.2.2.1 q with
      | none =>
        rw [hc9] at g7q
        simp only [] at g7q ⊢
        rw [g7q, bk, if_neg]
        intro z
        have a1 := Int32.le_iff_toInt_le.mp z
        rw [nI_toInt (by omega)] at a1
        have a2 : (-1 : Int32).toInt = -1 := by decide
        omega
      | some c =>
        rw [hc9] at g7q
        simp only [] at g7q ⊢
        rw [g7q.1, bk]
        by_cases hlt : c < i.1
        · rw [if_pos hlt, if_neg (nI_ge hlt (by omega))]
          exact ⟨rfl, hlt⟩
        · rw [if_neg hlt, if_pos (nI_le (by omega) (by omega))]
    · show M9.1 0 25 = σ.2.2.2.2.1.1 ∧ M9.1 0 26 = σ.2.2.2.2.1.2.1 ∧ M9.1 0 27 = σ.2.2.2.2.1.2.2
      rw [kp 0 25 (by decide) (by decide) (by decide), kp 0 26 (by decide) (by decide) (by decide), kp 0 27 (by decide) (by decide) (by decide)]
      exact g8
    · exact ⟨⟨by rw [kp 0 29 (by decide) (by decide) (by decide)]; exact g9.1.1, fun i hi => by rw [kp 222 i (by decide) (by decide) (fun z => absurd z.1 (by decide))]; exact g9.1.2 i hi⟩, ⟨by rw [kp 0 31 (by decide) (by decide) (by decide)]; exact g9.2.1, fun i hi => by rw [kp 223 i (by decide) (by decide) (fun z => absurd z.1 (by decide))]; exact g9.2.2 i hi⟩⟩
    · rw [kp 0 32 (by decide) (by decide) (by decide)]; exact g10
  · refine u_bipush (pc := 7) (v := (-5)) C d_M_back_7 (by decide) ?_
    refine u_iret (pc := 9) C d_M_back_9 (hQ _ _ ⟨_, rfl, ?_⟩)
    have hn : σ.2.1 = none := by
      have h2 := hI.2.1
      cases hi : σ.2.1 with
      | none => rfl
      | some i =>
        rw [hi] at h2
        simp only [] at h2
        rw [h2.1] at c4
        exact absurd (nI_pos' (n := i.1) (by have := h2.2.1; omega)) c4
    have e9 : sp_back σ = (-5, σ) := by rw [sp_back, hn]
    rw [e9]
    exact ⟨rfl, hI⟩
set_option maxRecDepth 20000 in
theorem c_M_traces {M : Mem} : Ct lyR y_M_traces b_M_traces 1 none 0 [.ref 0] M (Pv fun M' => M' = up (up (up M 0 32 1) 0 29 0) 0 31 0) := by
  refine Ct.ofG mx_M_traces [some (.ref 0)] rfl rfl (Nat.le_of_ble_eq_true rfl) (fun κ C hQ => ?_)
  refine u_aload_n (pc := 0) C d_M_traces_0 rfl ?_
  refine u_iconst (pc := 1) (v := 1) C d_M_traces_1 (by decide) ?_
  refine u_put (pc := 2) C d_M_traces_2 fw_M_234 sR_0 rfl (Or.inr ⟨rfl, by decide⟩) ?_
  refine u_aload_n (pc := 5) C d_M_traces_5 rfl ?_
  refine u_iconst (pc := 6) (v := 0) C d_M_traces_6 (by decide) ?_
  refine u_put (pc := 7) C d_M_traces_7 fw_M_257 sR_0 rfl (Or.inl rfl) ?_
  refine u_aload_n (pc := 10) C d_M_traces_10 rfl ?_
  refine u_iconst (pc := 11) (v := 0) C d_M_traces_11 (by decide) ?_
  refine u_put (pc := 12) C d_M_traces_12 fw_M_238 sR_0 rfl (Or.inl rfl) ?_
  refine u_vret (pc := 15) C d_M_traces_15 (hQ _ _ ⟨rfl, ?_⟩)
  rfl
theorem trc_L {M : Mem} : LGr (up (up (up M 0 32 1) 0 29 0) 0 31 0) [] [] :=
  ⟨⟨by rw [up_j (by decide), up_row, pk_us]; rfl, fun i hi => by simp at hi⟩, ⟨by rw [up_row, pk_us]; rfl, fun i hi => by simp at hi⟩⟩
theorem trc_S {M : Mem} {cd : Nat → Nat → Int32} {n : Nat} {g : Gm} {tb : List Nat} (h : RS M cd n g tb) : RS (up (up (up M 0 32 1) 0 29 0) 0 31 0) cd n g tb := ((h.f0 (by decide)).f0 (by decide)).f0 (by decide)
theorem trc_1 {M : Mem} : (up (up (up M 0 32 1) 0 29 0) 0 31 0).1 0 32 = 1 := by rw [up_j (by decide), up_j (by decide), up_row, pk_us]
theorem trc_o {S : Nat → Nat → Prop} {M M2 : Mem} (h0 : M.1 0 32 = 0) (ho : OfR S (up (up (up M 0 32 1) 0 29 0) 0 31 0) M2) (hs : ∀ p j, S p j → thR p j) : OfR thR M (up M2 0 32 0) := by
  intro p j hp
  by_cases e : p = 0 ∧ j = 32
  · rw [e.1, e.2, up_row, pk_us, h0]
  · rw [up_o e, ho p j (fun z => hp (hs p j z)), up_o (fun z => hp (by unfold thR; omega)), up_o (fun z => hp (by unfold thR; omega)), up_o e]
theorem InvR.ends {M : Mem} {σ : St} {a b c : Int32} (h : InvR M σ) : InvR (up (up (up M 0 25 a) 0 26 b) 0 27 c) (setE σ (a, b, c)) := by
  obtain ⟨h1, h2, h3, h7, h8, h9, h10⟩ := h
  have k0 : ∀ j, j ≠ 25 → j ≠ 26 → j ≠ 27 → (up (up (up M 0 25 a) 0 26 b) 0 27 c).1 0 j = M.1 0 j := fun j q1 q2 q3 => by rw [up_j q3, up_j q2, up_j q1]
  have kp : ∀ p, p ≠ 0 → (up (up (up M 0 25 a) 0 26 b) 0 27 c).1 p = M.1 p := fun p q => by rw [up_ne q, up_ne q, up_ne q]
  refine ⟨((h1.f0 (by decide)).f0 (by decide)).f0 (by decide), ?_, ?_, ?_, ⟨?_, ?_, ?_⟩, ((h9.f0 (by decide) (by decide)).f0 (by decide) (by decide)).f0 (by decide) (by decide), by rw [k0 32 (by decide) (by decide) (by decide)]; exact h10⟩
  · rw [k0 9 (by decide) (by decide) (by decide), kp 14 (by decide)]; exact h2
  · rw [k0 20 (by decide) (by decide) (by decide), kp 220 (by decide)]; exact h3
  · rw [kp 221 (by decide)]; exact h7
  · rw [up_j (by decide), up_j (by decide), up_row, pk_us]; rfl
  · rw [up_j (by decide), up_row, pk_us]; rfl
  · rw [up_row, pk_us]; rfl
set_option maxRecDepth 20000 in
theorem c_M_resolve  {M : Mem} {σ : St} (hI : InvR M σ) : Ct lyR y_M_resolve b_M_resolve 1 (some .int) 8 [.ref 0] M (Pi fun r M' => r = (sp_resolve σ).1 ∧ InvR M' (sp_resolve σ).2) := by
  have hS := hI.1
  have n24 := hS.n24
  have h5 := hS.2.2.1
  obtain ⟨k1, k2, k3, k4, k5⟩ := hS.cdc
  obtain ⟨h, hh64, hh4⟩ := hS.1.hb
  have hm : M.1 6 6 = nI h := by rw [← hh4]; exact hS.many
  refine Ct.ofG mx_M_resolve [some (.ref 0)] rfl rfl (Nat.le_of_ble_eq_true rfl) (fun κ C hQ => ?_)
  refine u_aload_n (pc := 0) C d_M_resolve_0 rfl ?_
  refine u_getr (pc := 1) (r := 6) C d_M_resolve_1 fw_M_25 sR_0 rfl rfl ?_
  refine u_bipush (pc := 4) (v := 6) C d_M_resolve_4 (by decide) ?_
  refine u_iald (pc := 6) C d_M_resolve_6 sR_6 v6 ?_
  refine u_if_ne (pc := 7) (tgt := 13) C d_M_resolve_7 rfl (fun c7 => ?_) (fun c7 => ?_)
  · rw [cl6, hm] at c7
    obtain ⟨h', rfl⟩ : ∃ h', h = h' + 1 := ⟨h - 1, by
      rcases Nat.eq_zero_or_pos h with z | z
      · exact absurd (by rw [z]; rfl) c7
      · omega⟩
    have hS1 := trc_S hS
    have hng : ¬ σ.1.2.2.1 1 4 ≤ 0 := by rw [hh4]; exact nI_nle (by omega) (by omega)
    refine u_aload_n (pc := 13) C d_M_resolve_13 rfl ?_
    refine u_callVv (pc := 14) C d_M_resolve_14 mx_M_traces mw_M_263 sR_0 rfl (c_M_traces) rfl rfl (Nat.le_of_ble_eq_true rfl) (fun M14 q14 => ?_)
    have q14 := q14.symm
    subst q14
    refine u_aload_n (pc := 17) C d_M_resolve_17 rfl ?_
    refine u_callVv (pc := 18) C d_M_resolve_18 mx_M_resolveTop mw_M_266 sR_0 rfl (c_M_resolveTop (th := []) (ev := []) hS1 hh4 (by omega) trc_1 trc_L (Or.inr rfl)) rfl rfl (Nat.le_of_ble_eq_true rfl) (fun M18 q18 => ?_)
    obtain ⟨hS2, hL2, o2⟩ := q18
    rw [if_pos rfl, if_pos rfl, List.nil_append, List.nil_append] at hL2
    refine u_aload_n (pc := 21) C d_M_resolve_21 rfl ?_
    refine u_iconst (pc := 22) (v := 0) C d_M_resolve_22 (by decide) ?_
    refine u_put (pc := 23) C d_M_resolve_23 fw_M_234 sR_0 rfl (Or.inr ⟨rfl, by decide⟩) ?_
    refine u_aload_n (pc := 26) C d_M_resolve_26 rfl ?_
    refine u_getr (pc := 27) (r := 6) C d_M_resolve_27 fw_M_25 sR_0 rfl rfl ?_
    refine u_bipush (pc := 30) (v := 6) C d_M_resolve_30 (by decide) ?_
    refine u_iald (pc := 32) C d_M_resolve_32 sR_6 v6 ?_
    refine u_iret (pc := 33) C d_M_resolve_33 (hQ _ _ ⟨_, rfl, ?_⟩)
    rw [sp_resolve, if_neg hng, cl6, up_ne (by decide)]
    exact ⟨hS2.many, hI.mk (trc_o hI.2.2.2.2.2.2 o2 (fun p j => rv_th)) (hS2.f0 (by decide)) (hL2.f0 (by decide) (by decide))⟩
  · refine u_bipush (pc := 10) (v := (-5)) C d_M_resolve_10 (by decide) ?_
    refine u_iret (pc := 12) C d_M_resolve_12 (hQ _ _ ⟨_, rfl, ?_⟩)
    rw [cl6, hm] at c7
    rw [sp_resolve, if_pos (by rw [hh4, c7]; exact Int32.le_refl _)]
    exact ⟨rfl, hI⟩
set_option maxRecDepth 20000 in
theorem c_M_run  {M : Mem} {σ : St} (hI : InvR M σ) : Ct lyR y_M_run b_M_run 2 (some .int) 9 [.ref 0] M (Pi fun r M' => r = (sp_run σ).1 ∧ InvR M' (sp_run σ).2) := by
  have hS := hI.1
  have n24 := hS.n24
  have h5 := hS.2.2.1
  obtain ⟨k1, k2, k3, k4, k5⟩ := hS.cdc
  have hS1 := trc_S hS
  refine Ct.ofG mx_M_run [some (.ref 0), none] rfl rfl (Nat.le_of_ble_eq_true rfl) (fun κ C hQ => ?_)
  refine u_aload_n (pc := 0) C d_M_run_0 rfl ?_
  refine u_callVv (pc := 1) C d_M_run_1 mx_M_traces mw_M_263 sR_0 rfl (c_M_traces) rfl rfl (Nat.le_of_ble_eq_true rfl) (fun M1 q1 => ?_)
  have q1 := q1.symm
  subst q1
  refine u_aload_n (pc := 4) C d_M_run_4 rfl ?_
  refine u_callVi (pc := 5) C d_M_run_5 mx_M_runIt mw_M_288 sR_0 rfl (c_M_runIt (th := []) (ev := []) (s := (σ.1.2.2.1, σ.1.2.2.2)) (Or.inr rfl) hS1 trc_1 trc_L) rfl rfl (Nat.le_of_ble_eq_true rfl) (fun r5 M5 q5 => ?_)
  obtain ⟨e5, ⟨w1, w2, w3, hS2, hL2⟩, o2⟩ := q5
  rw [if_pos rfl, if_pos rfl, List.nil_append, List.nil_append] at hL2
  refine u_istore_n (pc := 8) C d_M_run_8 rfl (fun x8 e8 L9 hL9 => ?_)
  obtain rfl : L9 = [some (.ref 0), some (.int x8)] := hL9.symm
  refine u_aload_n (pc := 9) C d_M_run_9 rfl ?_
  refine u_iconst (pc := 10) (v := 0) C d_M_run_10 (by decide) ?_
  refine u_put (pc := 11) C d_M_run_11 fw_M_234 sR_0 rfl (Or.inr ⟨rfl, by decide⟩) ?_
  refine u_aload_n (pc := 14) C d_M_run_14 rfl ?_
  refine u_aload_n (pc := 15) C d_M_run_15 rfl ?_
  refine u_geti (pc := 16) C d_M_run_16 fw_M_279 sR_0 rfl ?_
  refine u_put (pc := 19) C d_M_run_19 fw_M_291 sR_0 rfl (Or.inl rfl) ?_
  refine u_aload_n (pc := 22) C d_M_run_22 rfl ?_
  refine u_aload_n (pc := 23) C d_M_run_23 rfl ?_
  refine u_geti (pc := 24) C d_M_run_24 fw_M_269 sR_0 rfl ?_
  refine u_put (pc := 27) C d_M_run_27 fw_M_58 sR_0 rfl (Or.inl rfl) ?_
  refine u_aload_n (pc := 30) C d_M_run_30 rfl ?_
  refine u_aload_n (pc := 31) C d_M_run_31 rfl ?_
  refine u_geti (pc := 32) C d_M_run_32 fw_M_272 sR_0 rfl ?_
  refine u_put (pc := 35) C d_M_run_35 fw_M_61 sR_0 rfl (Or.inl rfl) ?_
  refine u_iload_n (pc := 38) C d_M_run_38 rfl ?_
  refine u_iret (pc := 39) C d_M_run_39 (hQ _ _ ⟨_, rfl, ?_⟩)
  have hI3 : InvR (up M5 0 32 0) (setR σ (runG σ.1.1 σ.1.2.1 (σ.1.2.2.1, σ.1.2.2.2)) (told (runS σ.1.1 σ.1.2.1 (σ.1.2.2.1, σ.1.2.2.2)) (runR σ.1.1 σ.1.2.1 (σ.1.2.2.1, σ.1.2.2.2)).1) (hapd σ.1.1 σ.1.2.1 (runS σ.1.1 σ.1.2.1 (σ.1.2.2.1, σ.1.2.2.2)) (runR σ.1.1 σ.1.2.1 (σ.1.2.2.1, σ.1.2.2.2)).1)) := hI.mk (trc_o hI.2.2.2.2.2.2 o2 (fun p j => rn_th)) (hS2.f0 (by decide)) (hL2.f0 (by decide) (by decide))
  refine ⟨by rw [e8, e5]; rfl, ?_⟩
  have a22 : (up M5 0 32 0).1 0 22 = (runR σ.1.1 σ.1.2.1 (σ.1.2.2.1, σ.1.2.2.2)).2.1 := by rw [up_j (by decide)]; exact w1
  have a23 : ∀ x, (up (up M5 0 32 0) 0 25 x).1 0 23 = (runR σ.1.1 σ.1.2.1 (σ.1.2.2.1, σ.1.2.2.2)).2.2.1 := fun x => by rw [up_j (by decide), up_j (by decide)]; exact w2
  have a24 : ∀ x y, (up (up (up M5 0 32 0) 0 25 x) 0 26 y).1 0 24 = (runR σ.1.1 σ.1.2.1 (σ.1.2.2.1, σ.1.2.2.2)).2.2.2 := fun x y => by rw [up_j (by decide), up_j (by decide), up_j (by decide)]; exact w3
  rw [a22, a23, a24]
  exact hI3.ends
