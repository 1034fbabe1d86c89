/-! the class's calls that change the game, the rest of the simple ones -/
def setH (σ : St) (h : Nat) (x : Option Nat) : St := (σ.1, σ.2.1, σ.2.2.1, (fun q => if q = h then x else σ.2.2.2.1 q), σ.2.2.2.2)
def isS (p : Nat) : Prop := p = 82
theorem InvC.hold {M : Mem} {σ : St} {h : Nat} {x : Int32} {y : Option Nat} (hI : InvC M σ) (hx : match y with | none => x = -1 ∨ x = -2 | some c => x = nI c ∧ c < σ.1.2.1) : InvC (up M 82 h x) (setH σ h y) := by
  obtain ⟨h1, h2, ⟨m, hm, h3⟩, h4, h5, h6, h7, h8, th, ev, h9⟩ := hI
  have ho : Off isS M (up M 82 h x) := Off.up rfl
  have nb : ∀ k, k < 6 → ∀ p, isS p → ¬ blk k p := fun k hk p q z => by
    have z2 := z.2
    unfold gp at z2
    unfold isS at q
    omega
  have nl : ∀ b, b < 2 → ∀ p, isS p → ¬ lblk b p := fun b hb p q z => by
    have z2 := z.2
    unfold op at z2
    unfold isS at q
    omega
  refine ⟨h1, h2.off ho (fun p q1 q2 z => by unfold isS at z; omega), ⟨m, hm, h3.off ho (nb 0 (by decide))⟩, ?_, ?_, ?_, ?_, h8.off ho (nl 0 (by decide)), ⟨th, ev, h9.off ho (nl 1 (by decide))⟩⟩
  · rw [up_ne (show (83 : Nat) ≠ 82 by decide)]
    show match σ.2.1 with | none => _ | some i => _
    cases hi : σ.2.1 with
    | none => rw [hi] at h4; exact h4
    | some i =>
      rw [hi] at h4
      obtain ⟨a1, a2, a3, m', a4, a5⟩ := h4
      exact ⟨a1, a2, a3, m', a4, a5.off ho (nb 1 (by decide))⟩
  · rw [up_ne (show (76 : Nat) ≠ 82 by decide), up_ne (show (77 : Nat) ≠ 82 by decide)]; exact h5
  · intro q hq
    show match (if q = h then y else σ.2.2.2.1 q) with | none => _ | some c => _
    by_cases e : q = h
    · subst e
      rw [if_pos rfl]
      have e9 : (up M 82 q x).1 82 q = x := by simp [up]
      rw [e9]
      exact hx
    · rw [if_neg e]
      have e9 : (up M 82 h x).1 82 q = M.1 82 q := by simp [up, e]
      rw [e9]
      exact h6 q hq
  · rw [up_ne (show (83 : Nat) ≠ 82 by decide)]; exact h7
/-- a change of the image -/
theorem InvC.image {M M' : Mem} {σ : St} {n m : Nat} {g : Gm} {tb : List Nat} (hI : InvC M σ) (ho : Off (blk 1) M M') (hR : RepG M' 1 n g tb m) (hm : m ≤ psum g n) (hW : WFg σ.1.1 n g tb) (hn : n ≤ σ.1.2.1) : InvC (up M' 83 3 1) (σ.1, some (n, g, tb), σ.2.2) := by
  obtain ⟨h1, h2, ⟨m0, hm0, h3⟩, h4, h5, h6, h7, h8, th, ev, h9⟩ := hI
  have hf : Off (fun p => blk 1 p ∨ p = 83) M (up M' 83 3 1) := (ho.mono (fun p q => Or.inl q)).trans (Off.up (Or.inr rfl))
  have hf2 : Off (fun p => p = 83) M' (up M' 83 3 1) := Off.up rfl
  have k : ∀ p, 20 ≤ p → M'.1 p = M.1 p := fun p hp => (ho p (fun q => by have q1 := q.2; unfold gp at q1; omega)).1
  have e0 : ∀ p, (blk 1 p ∨ p = 83) → 13 ≤ p ∧ (p < 20 ∨ p = 83) := fun p q => by
    rcases q with q | q
    · have z1 := q.1
      have z2 := q.2
      unfold gp at z1 z2
      omega
    · omega
  refine ⟨h1, h2.off hf (fun p q1 q2 z => by have := e0 p z; omega), ⟨m0, hm0, h3.off hf (fun p z q => by
    have := e0 p z
    have q2 := q.2
    unfold gp at q2
    omega)⟩, ?_, ?_, ?_, ?_, h8.off hf (fun p z q => by
    have := e0 p z
    have q1 := q.1
    have q2 := q.2
    unfold op at q1 q2
    omega), ⟨th, ev, h9.off hf (fun p z q => by
    have := e0 p z
    have q1 := q.1
    have q2 := q.2
    unfold op at q1 q2
    omega)⟩⟩
  · refine ⟨by simp [up], hn, hW, m, hm, hR.off hf2 (fun p z q => ?_)⟩
    have q2 := q.2
    unfold gp at q2
    omega
  · rw [up_ne (show (76 : Nat) ≠ 83 by decide), up_ne (show (77 : Nat) ≠ 83 by decide), k 76 (by decide), k 77 (by decide)]; exact h5
  · rw [up_ne (show (82 : Nat) ≠ 83 by decide), k 82 (by decide)]; exact h6
  · rw [up_j (show 13 ≠ 3 by decide), up_j (show 14 ≠ 3 by decide), up_j (show 15 ≠ 3 by decide), k 83 (by decide)]; exact h7
/-- a change of the game to one with another count of cards, the handles to be mended -/
theorem InvC.tape {M : Mem} {σ : St} {x : Int32} (hI : InvC M σ) (hl : σ.2.2.1.length < 120) : InvC (up (up M 77 σ.2.2.1.length x) 76 1 (nI (σ.2.2.1.length + 1))) (σ.1, σ.2.1, σ.2.2.1 ++ [x], σ.2.2.2) := by
  obtain ⟨h1, h2, ⟨m, hm, h3⟩, h4, ⟨h5, h5b, h5c⟩, h6, h7, h8, th, ev, h9⟩ := hI
  have hf : Off (fun p => p = 76 ∨ p = 77) M (up (up M 77 σ.2.2.1.length x) 76 1 (nI (σ.2.2.1.length + 1))) := (Off.up (Or.inr rfl)).trans (Off.up (Or.inl rfl))
  have nb : ∀ k, k < 6 → ∀ p, (p = 76 ∨ p = 77) → ¬ blk k p := fun k hk p q z => by
    have z2 := z.2
    unfold gp at z2
    omega
  have nl : ∀ b, b < 2 → ∀ p, (p = 76 ∨ p = 77) → ¬ lblk b p := fun b hb p q z => by
    have z2 := z.2
    unfold op at z2
    omega
  refine ⟨h1, h2.off hf (fun p q1 q2 z => by omega), ⟨m, hm, h3.off hf (nb 0 (by decide))⟩, ?_, ⟨?_, ?_, fun i hi => ?_⟩, ?_, ?_, h8.off hf (nl 0 (by decide)), ⟨th, ev, h9.off hf (nl 1 (by decide))⟩⟩
  · rw [up_ne (show (83 : Nat) ≠ 76 by decide), up_ne (show (83 : Nat) ≠ 77 by decide)]
    show match σ.2.1 with | none => _ | some i => _
    cases hi : σ.2.1 with
    | none => rw [hi] at h4; exact h4
    | some i =>
      rw [hi] at h4
      obtain ⟨a1, a2, a3, m', a4, a5⟩ := h4
      exact ⟨a1, a2, a3, m', a4, a5.off hf (nb 1 (by decide))⟩
  · show (σ.2.2.1 ++ [x]).length ≤ 120
    rw [List.length_append]
    exact hl
  · show _ = nI (σ.2.2.1 ++ [x]).length
    rw [List.length_append]
    simp [up]
  · have hi2 : i < σ.2.2.1.length + 1 := by
      have hi : i < (σ.2.2.1 ++ [x]).length := hi
      rw [List.length_append] at hi
      exact hi
    show _ = (σ.2.2.1 ++ [x]).getD i 0
    rw [up_ne (show (77 : Nat) ≠ 76 by decide)]
    by_cases e : i = σ.2.2.1.length
    · subst e
      rw [List.getD_eq_getElem?_getD, List.getElem?_append_right (Nat.le_refl _), Nat.sub_self]
      simp [up]
    · rw [List.getD_eq_getElem?_getD, List.getElem?_append_left (by omega), ← List.getD_eq_getElem?_getD]
      simp [up, e, h5c i (by omega)]
  · rw [up_ne (show (82 : Nat) ≠ 76 by decide), up_ne (show (82 : Nat) ≠ 77 by decide)]; exact h6
  · rw [up_ne (show (83 : Nat) ≠ 76 by decide), up_ne (show (83 : Nat) ≠ 77 by decide)]; exact h7
def sp_hold (h c : Int32) (σ : St) : Int32 × St := if h < 0 then (-1, σ) else if h < 8 then (if c = -1 then (1, setH σ h.toNatClampNeg none) else if hasF (nI σ.1.2.1) c = 0 then (-1, σ) else (1, setH σ h.toNatClampNeg (some c.toNatClampNeg))) else (-1, σ)
set_option maxRecDepth 20000 in
theorem c_L_hold {h c : Int32} {M : Mem} {σ : St} (hI : InvC M σ) : Ct lyC y_L_hold b_L_hold 3 (some .int) 1 [.ref 83, .int h, .int c] M (Pi fun r M' => r = (sp_hold h c σ).1 ∧ InvC M' (sp_hold h c σ).2) := by
  obtain ⟨m, hm, hR⟩ := hI.R
  have hW := hI.1
  have hcd := hI.2.1
  have hn := hW.1.1
  have r8 := hR.2.2.2.2.2.2.1
  refine Ct.ofG mx_L_hold [some (.ref 83), some (.int h), some (.int c)] rfl rfl (Nat.le_of_ble_eq_true rfl) (fun κ C hQ => ?_)
  refine u_iload_n (pc := 0) C d_L_hold_0 rfl ?_
  refine u_if_lt (pc := 1) (tgt := 26) C d_L_hold_1 rfl (fun c1 => ?_) (fun c1 => ?_)
  · refine u_iconst (pc := 26) (v := (-1)) C d_L_hold_26 (by decide) ?_
    refine u_iret (pc := 27) C d_L_hold_27 (hQ _ _ ⟨_, rfl, ?_⟩)
    rw [sp_hold, if_pos c1]
    exact ⟨rfl, hI⟩
  · refine u_iload_n (pc := 4) C d_L_hold_4 rfl ?_
    refine u_bipush (pc := 5) (v := 8) C d_L_hold_5 (by decide) ?_
    refine u_icmp_ge (pc := 7) (tgt := 26) C d_L_hold_7 rfl (fun c7 => ?_) (fun c7 => ?_)
    · refine u_iconst (pc := 26) (v := (-1)) C d_L_hold_26 (by decide) ?_
      refine u_iret (pc := 27) C d_L_hold_27 (hQ _ _ ⟨_, rfl, ?_⟩)
      rw [sp_hold, if_neg c1, if_neg (Int32.not_lt.mpr c7)]
      exact ⟨rfl, hI⟩
    · refine u_iload_n (pc := 10) C d_L_hold_10 rfl ?_
      refine u_iconst (pc := 11) (v := (-1)) C d_L_hold_11 (by decide) ?_
      refine u_icmp_eq (pc := 12) (tgt := 28) C d_L_hold_12 rfl (fun c12 => ?_) (fun c12 => ?_)
      · refine u_aload_n (pc := 28) C d_L_hold_28 rfl ?_
        refine u_getr (pc := 29) (r := 82) C d_L_hold_29 fw_L_77 sC_83 rfl rfl ?_
        refine u_iload_n (pc := 32) C d_L_hold_32 rfl ?_
        refine u_iload_n (pc := 33) C d_L_hold_33 rfl ?_
        refine u_callSv (pc := 34) C d_L_hold_34 mx_L_put mw_L_163 (c_L_put sC_82) rfl rfl (Nat.le_of_ble_eq_true rfl) (fun M34 q34 => ?_)
        have q34 := q34.symm
        subst q34
        refine u_iconst (pc := 37) (v := 1) C d_L_hold_37 (by decide) ?_
        refine u_iret (pc := 38) C d_L_hold_38 (hQ _ _ ⟨_, rfl, ?_⟩)
        obtain ⟨j, hj, rfl⟩ := nI_of c1
        have c7 := Int32.not_le.mp c7
        have hj8 : j < 8 := (nI_ltI (b := 8) hj (by decide)).mp c7
        rw [putF_in hj8 (by decide)]
        rw [sp_hold, if_neg c1, if_pos c7, if_pos c12, nI_clamp hj, c12]
        exact ⟨rfl, hI.hold (Or.inl rfl)⟩
      · refine u_aload_n (pc := 15) C d_L_hold_15 rfl ?_
        refine u_getr (pc := 16) (r := (gp 0)) C d_L_hold_16 fw_L_21 sC_83 rfl rfl ?_
        refine u_iload_n (pc := 19) C d_L_hold_19 rfl ?_
        refine u_callVi (pc := 20) C d_L_hold_20 mx_G_has mw_L_137 (shG0 (by decide)) rfl (c_G_has (by decide)) rfl rfl (Nat.le_of_ble_eq_true rfl) (fun r20 M20 q20 => ?_)
        obtain ⟨e20, q20⟩ := q20
        have q20 := q20.symm
        subst q20
        refine u_if_ne (pc := 23) (tgt := 28) C d_L_hold_23 rfl (fun c23 => ?_) (fun c23 => ?_)
        · refine u_aload_n (pc := 28) C d_L_hold_28 rfl ?_
          refine u_getr (pc := 29) (r := 82) C d_L_hold_29 fw_L_77 sC_83 rfl rfl ?_
          refine u_iload_n (pc := 32) C d_L_hold_32 rfl ?_
          refine u_iload_n (pc := 33) C d_L_hold_33 rfl ?_
          refine u_callSv (pc := 34) C d_L_hold_34 mx_L_put mw_L_163 (c_L_put sC_82) rfl rfl (Nat.le_of_ble_eq_true rfl) (fun M34 q34 => ?_)
          have q34 := q34.symm
          subst q34
          refine u_iconst (pc := 37) (v := 1) C d_L_hold_37 (by decide) ?_
          refine u_iret (pc := 38) C d_L_hold_38 (hQ _ _ ⟨_, rfl, ?_⟩)
          obtain ⟨j, hj, rfl⟩ := nI_of c1
          have c7 := Int32.not_le.mp c7
          have hj8 : j < 8 := (nI_ltI (b := 8) hj (by decide)).mp c7
          rw [putF_in hj8 (by decide)]
          rw [e20, r8] at c23
          obtain ⟨d, hd, rfl⟩ := has_ix c23 hn
          rw [sp_hold, if_neg c1, if_pos c7, if_neg c12, if_neg c23, nI_clamp hj, nI_clamp (by omega)]
          exact ⟨rfl, hI.hold ⟨rfl, hd⟩⟩
        · refine u_iconst (pc := 26) (v := (-1)) C d_L_hold_26 (by decide) ?_
          refine u_iret (pc := 27) C d_L_hold_27 (hQ _ _ ⟨_, rfl, ?_⟩)
          rw [e20, r8] at c23
          rw [sp_hold, if_neg c1, if_pos (Int32.not_le.mp c7), if_neg c12, if_pos c23]
          exact ⟨rfl, hI⟩
def sp_image  (σ : St) : Int32 × St := (nI σ.1.2.1, (σ.1, some (σ.1.2.1, σ.1.2.2.1, σ.1.2.2.2), σ.2.2))
set_option maxRecDepth 20000 in
theorem c_L_image  {M : Mem} {σ : St} (hI : InvC M σ) : Ct lyC y_L_image b_L_image 1 (some .int) 3 [.ref 83] M (Pi fun r M' => r = (sp_image σ).1 ∧ InvC M' (sp_image σ).2) := by
  obtain ⟨m, hm, hR⟩ := hI.R
  have hW := hI.1
  have hcd := hI.2.1
  have hn := hW.1.1
  have r8 := hR.2.2.2.2.2.2.1
  obtain ⟨h, h64, hh⟩ := hW.hb
  obtain ⟨htl, hbn, hb24⟩ := hW.tl
  refine Ct.ofG mx_L_image [some (.ref 83)] rfl rfl (Nat.le_of_ble_eq_true rfl) (fun κ C hQ => ?_)
  refine u_aload_n (pc := 0) C d_L_image_0 rfl ?_
  refine u_getr (pc := 1) (r := (gp 1)) C d_L_image_1 fw_L_25 sC_83 rfl rfl ?_
  refine u_aload_n (pc := 4) C d_L_image_4 rfl ?_
  refine u_getr (pc := 5) (r := (gp 0)) C d_L_image_5 fw_L_21 sC_83 rfl rfl ?_
  refine u_callVv (pc := 8) C d_L_image_8 mx_G_copyFrom mw_L_252 (shG0 (by decide)) rfl (c_G_copyFrom (k := 1) (k2 := 0) (by decide) (by decide) (by decide) hR htl hb24 (by rw [hh, nI_clamp (by omega)]; exact h64)) rfl rfl (Nat.le_of_ble_eq_true rfl) (fun M8 q8 => ?_)
  obtain ⟨kR, kO⟩ := q8
  refine u_aload_n (pc := 11) C d_L_image_11 rfl ?_
  refine u_iconst (pc := 12) (v := 1) C d_L_image_12 (by decide) ?_
  refine u_put (pc := 13) C d_L_image_13 fw_L_28 sC_83 rfl (Or.inr ⟨rfl, by decide⟩) ?_
  refine u_aload_n (pc := 16) C d_L_image_16 rfl ?_
  refine u_getr (pc := 17) (r := (gp 0)) C d_L_image_17 fw_L_21 sC_83 rfl rfl ?_
  refine u_geti (pc := 20) C d_L_image_20 fw_L_98 (shG0 (by decide)) rfl ?_
  refine u_iret (pc := 23) C d_L_image_23 (hQ _ _ ⟨_, rfl, ?_⟩)
  refine ⟨?_, hI.image kO kR hm hW (Nat.le_refl _)⟩
  exact (hR.off kO (fun p q z => by
    have q1 := q.1
    have z2 := z.2
    unfold gp at q1 z2
    omega)).2.2.2.2.2.2.1
def sp_feed (x : Int32) (σ : St) : Int32 × St := if x < 0 then (-1, σ) else if x ≤ 255 then (if σ.2.2.1.length < 120 then (nI (σ.2.2.1.length + 1), (σ.1, σ.2.1, σ.2.2.1 ++ [x], σ.2.2.2)) else (-3, σ)) else (-1, σ)
set_option maxRecDepth 20000 in
theorem c_T_append {x : Int32} {n : Nat} {M : Mem} (h1 : M.1 76 1 = nI n) (hn : n ≤ 120) : Ct lyC y_T_append b_T_append 2 (some .boolean) 1 [.ref 76, .int x] M (Pi fun r M' => (r = 0 ∧ ¬ n < 120 ∧ M' = M) ∨ (r = 1 ∧ n < 120 ∧ M' = up (up M 77 n x) 76 1 (nI (n + 1)))) := by
  have hlt : M.1 76 1 < 120 ↔ n < 120 := by rw [h1]; exact nI_ltI (b := 120) (by omega) (by decide)
  refine Ct.ofG mx_T_append [some (.ref 76), some (.int x)] rfl rfl (Nat.le_of_ble_eq_true rfl) (fun κ C hQ => ?_)
  refine u_aload_n (pc := 0) C d_T_append_0 rfl ?_
  refine u_geti (pc := 1) C d_T_append_1 fw_T_27 sC_76 rfl ?_
  refine u_bipush (pc := 4) (v := 120) C d_T_append_4 (by decide) ?_
  refine u_icmp_lt (pc := 6) (tgt := 11) C d_T_append_6 rfl (fun c6 => ?_) (fun c6 => ?_)
  · refine u_aload_n (pc := 11) C d_T_append_11 rfl ?_
    refine u_getr (pc := 12) (r := 77) C d_T_append_12 fw_T_9 sC_76 rfl rfl ?_
    refine u_aload_n (pc := 15) C d_T_append_15 rfl ?_
    refine u_geti (pc := 16) C d_T_append_16 fw_T_27 sC_76 rfl ?_
    refine u_iload_n (pc := 19) C d_T_append_19 rfl ?_
    refine u_callSv (pc := 20) C d_T_append_20 mx_L_put mw_T_31 (c_L_put sC_77) rfl rfl (Nat.le_of_ble_eq_true rfl) (fun M20 q20 => ?_)
    have q20 := q20.symm
    subst q20
    refine u_aload_n (pc := 23) C d_T_append_23 rfl ?_
    refine u_dup (pc := 24) C d_T_append_24 rfl ?_
    refine u_geti (pc := 25) C d_T_append_25 fw_T_27 sC_76 rfl ?_
    refine u_iconst (pc := 28) (v := 1) C d_T_append_28 (by decide) ?_
    refine u_iadd (pc := 29) C d_T_append_29 ?_
    refine u_put (pc := 30) C d_T_append_30 fw_T_27 sC_76 rfl (Or.inl rfl) ?_
    refine u_iconst (pc := 33) (v := 1) C d_T_append_33 (by decide) ?_
    refine u_zret (pc := 34) C d_T_append_34 (by decide) (hQ _ _ ⟨_, rfl, ?_⟩)
    have hn2 := hlt.mp c6
    refine Or.inr ⟨rfl, hn2, ?_⟩
    rw [h1, putF_in hn2 (by decide), up_ne (show (76 : Nat) ≠ 77 by decide), h1, nI_succ]
  · refine u_iconst (pc := 9) (v := 0) C d_T_append_9 (by decide) ?_
    refine u_zret (pc := 10) C d_T_append_10 (by decide) (hQ _ _ ⟨_, rfl, ?_⟩)
    exact Or.inl ⟨rfl, fun q => c6 (hlt.mpr q), rfl⟩
set_option maxRecDepth 20000 in
theorem c_L_feed {x : Int32} {M : Mem} {σ : St} (hI : InvC M σ) : Ct lyC y_L_feed b_L_feed 2 (some .int) 2 [.ref 83, .int x] M (Pi fun r M' => r = (sp_feed x σ).1 ∧ InvC M' (sp_feed x σ).2) := by
  have hT := hI.2.2.2.2.1
  refine Ct.ofG mx_L_feed [some (.ref 83), some (.int x)] rfl rfl (Nat.le_of_ble_eq_true rfl) (fun κ C hQ => ?_)
  refine u_iload_n (pc := 0) C d_L_feed_0 rfl ?_
  refine u_if_lt (pc := 1) (tgt := 11) C d_L_feed_1 rfl (fun c1 => ?_) (fun c1 => ?_)
  · refine u_iconst (pc := 11) (v := (-1)) C d_L_feed_11 (by decide) ?_
    refine u_iret (pc := 12) C d_L_feed_12 (hQ _ _ ⟨_, rfl, ?_⟩)
    rw [sp_feed, if_pos c1]
    exact ⟨rfl, hI⟩
  · refine u_iload_n (pc := 4) C d_L_feed_4 rfl ?_
    refine u_sipush (pc := 5) (v := 255) C d_L_feed_5 (by decide) ?_
    refine u_icmp_le (pc := 8) (tgt := 13) C d_L_feed_8 rfl (fun c8 => ?_) (fun c8 => ?_)
    · refine u_aload_n (pc := 13) C d_L_feed_13 rfl ?_
      refine u_getr (pc := 14) (r := 76) C d_L_feed_14 fw_L_73 sC_83 rfl rfl ?_
      refine u_iload_n (pc := 17) C d_L_feed_17 rfl ?_
      refine u_callVi (pc := 18) C d_L_feed_18 mx_T_append mw_L_105 sC_76 rfl (c_T_append hT.2.1 hT.1) rfl rfl (Nat.le_of_ble_eq_true rfl) (fun r18 M18 q18 => ?_)
      refine u_if_eq (pc := 21) (tgt := 34) C d_L_feed_21 rfl (fun c21 => ?_) (fun c21 => ?_)
      · refine u_bipush (pc := 34) (v := (-3)) C d_L_feed_34 (by decide) ?_
        refine u_iret (pc := 36) C d_L_feed_36 (hQ _ _ ⟨_, rfl, ?_⟩)
        rw [sp_feed, if_neg c1, if_pos c8]
        rcases q18 with ⟨a1, a2, a3⟩ | ⟨a1, a2, a3⟩
        · rw [if_neg a2, a3]
          exact ⟨rfl, hI⟩
        · rw [a1] at c21
          exact absurd c21 (by decide)
      · refine u_aload_n (pc := 24) C d_L_feed_24 rfl ?_
        refine u_getr (pc := 25) (r := 76) C d_L_feed_25 fw_L_73 sC_83 rfl rfl ?_
        refine u_geti (pc := 28) C d_L_feed_28 fw_L_108 sC_76 rfl ?_
        refine u_goto (pc := 31) (tgt := 36) C d_L_feed_31 rfl ?_
        refine u_iret (pc := 36) C d_L_feed_36 (hQ _ _ ⟨_, rfl, ?_⟩)
        rw [sp_feed, if_neg c1, if_pos c8]
        rcases q18 with ⟨a1, a2, a3⟩ | ⟨a1, a2, a3⟩
        · exact absurd a1 c21
        · rw [if_pos a2, a3]
          exact ⟨by simp [up], hI.tape a2⟩
    · refine u_iconst (pc := 11) (v := (-1)) C d_L_feed_11 (by decide) ?_
      refine u_iret (pc := 12) C d_L_feed_12 (hQ _ _ ⟨_, rfl, ?_⟩)
      rw [sp_feed, if_neg c1, if_neg c8]
      exact ⟨rfl, hI⟩
