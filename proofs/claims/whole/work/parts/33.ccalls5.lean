/-! the class's calls that change how many cards there are -/
theorem WFg.cdL {cd cd' : Nat → Nat → Int32} {n : Nat} {g : Gm} {tb : List Nat} (h : WFg cd n g tb) (e : ∀ i c, c < n → cd' i c = cd i c) : WFg cd' n g tb := by
  obtain ⟨⟨a1, a2⟩, h2⟩ := h
  refine ⟨⟨a1, fun c hc => ?_⟩, h2⟩
  rw [e 0 c hc, e 1 c hc, e 2 c hc, e 3 c hc, e 4 c hc]
  exact a2 c hc
theorem WFg.card {cd cd' : Nat → Nat → Int32} {n : Nat} {g : Gm} {tb : List Nat} (h : WFg cd n g tb) (hn : n < 24) (hc : WFc cd' (n + 1)) : WFg cd' (n + 1) (up2 g 3 n 0) tb := by
  obtain ⟨a1, ⟨a2, a3, a4⟩, a5, ⟨hh, b1, b2, b3, b4⟩, ⟨cl, d1, d2, d3⟩, a6, a7⟩ := h
  refine ⟨⟨hn, hc⟩, ⟨a2, fun d => ?_, a4⟩, fun d hd => ?_, ⟨hh, b1, b2, fun i hi => ?_, b4⟩, ⟨cl, d1, ?_, d3⟩, a6, a7⟩
  · rw [a3]
    by_cases e : d = n
    · subst e
      rw [up2_e]
      exact ⟨fun q => absurd q.1 (by omega), fun q => absurd q.2 (by decide)⟩
    · rw [up2_n e]
      exact ⟨fun q => ⟨by omega, q.2⟩, fun q => ⟨by omega, q.2⟩⟩
  · by_cases e : d = n
    · subst e
      exact ⟨0, by decide, up2_e⟩
    · rw [up2_n e]
      exact a5 d (by omega)
  · rcases b3 i hi with ⟨c, h1, h2, h3⟩ | q
    · exact Or.inl ⟨c, by omega, h2, by rw [up2_n (by omega)]; exact h3⟩
    · exact Or.inr q
  · rw [tc, tc_eq (g := up2 g 3 n 0) (h := g) (fun c hc => up2_n (by omega))]
    omega
theorem cdU_lo {cd : Nat → Nat → Int32} {n c : Nat} {k p v w a : Int32} (hc : c < n) (i : Nat) : cdU cd n k p v w a i c = cd i c := by
  have z : ∀ f : Nat → Int32, ∀ x, upd f n x c = f c := fun f x => by simp [upd, show c ≠ n by omega]
  unfold cdU
  split
  · rename_i e; subst e; exact z _ _
  · split
    · rename_i e; subst e; exact z _ _
    · split
      · rename_i e; subst e; exact z _ _
      · split
        · rename_i e; subst e; exact z _ _
        · split
          · rename_i e; subst e; exact z _ _
          · rfl
theorem WFc.cdUL {cd : Nat → Nat → Int32} {n : Nat} {k p v w a : Int32} (h : WFc cd n) (h1 : ∃ j, j ≤ 14 ∧ k = nI j) (h2 : p = 0 ∨ p = 1) (h3 : ∃ j, j < 4 ∧ v = nI j) (h4 : ∃ j, j < 4 ∧ w = nI j) (h5 : -9 ≤ a.toInt ∧ a.toInt ≤ 9) : WFc (cdU cd n k p v w a) (n + 1) := by
  intro c hc
  by_cases e : c = n
  · subst e
    have e0 : cdU cd c k p v w a 0 c = k := by simp [cdU, upd]
    have e1 : cdU cd c k p v w a 1 c = p := by simp [cdU, upd]
    have e2 : cdU cd c k p v w a 2 c = v := by simp [cdU, upd]
    have e3 : cdU cd c k p v w a 3 c = w := by simp [cdU, upd]
    have e4 : cdU cd c k p v w a 4 c = a := by simp [cdU, upd]
    rw [e0, e1, e2, e3, e4]
    exact ⟨h1, h2, h3, h4, h5⟩
  · rw [cdU_lo (by omega), cdU_lo (by omega), cdU_lo (by omega), cdU_lo (by omega), cdU_lo (by omega)]
    exact h c (by omega)
theorem pair_of {x : Int32} (h : ¬ x < 0 ∧ ¬ 3 < x / 10 ∧ ¬ 3 < remF x 10) : (∃ j, j < 4 ∧ x / 10 = nI j) ∧ ∃ j, j < 4 ∧ remF x 10 = nI j := by
  obtain ⟨h1, h2, h3⟩ := h
  obtain ⟨j, hj, rfl⟩ := nI_of h1
  have e1 : nI j / 10 = nI (j / 10) := pk_div (a := j) (d := 10) (by omega) (by decide) (by decide)
  have e2 : remF (nI j) 10 = nI (j % 10) := pk_rem (a := j) (d := 10) (by omega) (by decide) (by decide)
  rw [e1] at h2 ⊢
  rw [e2] at h3 ⊢
  refine ⟨⟨j / 10, ?_, rfl⟩, j % 10, ?_, rfl⟩
  · rcases Nat.lt_or_ge (j / 10) 4 with q | q
    · exact q
    · exact absurd ((nI_ltI (a := 3) (by omega) (by omega)).mpr (by omega)) h2
  · rcases Nat.lt_or_ge (j % 10) 4 with q | q
    · exact q
    · exact absurd ((nI_ltI (a := 3) (by omega) (by omega)).mpr (by omega)) h3
def setC (σ : St) (k p vw a : Int32) : St := ((cdU σ.1.1 σ.1.2.1 k p (vw / 10) (remF vw 10) a, σ.1.2.1 + 1, up2 σ.1.2.2.1 3 σ.1.2.1 0, σ.1.2.2.2), σ.2)
theorem InvC.card {M M' : Mem} {σ : St} {k p vw a : Int32} {m : Nat} (hI : InvC M σ) (ho : Off (fun p => blk 0 p ∨ cdS p) M M') (hn : σ.1.2.1 < 24) (hc : WFc (cdU σ.1.1 σ.1.2.1 k p (vw / 10) (remF vw 10) a) (σ.1.2.1 + 1)) (hm : m ≤ psum σ.1.2.2.1 σ.1.2.1) (hR : RepG M' 0 (σ.1.2.1 + 1) (up2 σ.1.2.2.1 3 σ.1.2.1 0) σ.1.2.2.2 m) (hcd : CDm M' (cdU σ.1.1 σ.1.2.1 k p (vw / 10) (remF vw 10) a)) : InvC M' (setC σ k p vw a) := by
  obtain ⟨h1, h2, -, h4, h5, h6, h7, h8, th, ev, h9⟩ := hI
  have e0 : ∀ p, (blk 0 p ∨ cdS p) → p < 13 := fun p q => by
    rcases q with q | q
    · have z2 := q.2
      unfold gp at z2
      omega
    · have z2 := q.2
      omega
  have k : ∀ p, 13 ≤ p → M'.1 p = M.1 p := fun p hp => (ho p (fun q => by have q1 := e0 p q; omega)).1
  have nl : ∀ b, ∀ p, (blk 0 p ∨ cdS p) → ¬ lblk b p := fun b p q z => by
    have z2 := z.1
    have z3 := e0 p q
    unfold op at z2
    omega
  refine ⟨h1.card hn hc, hcd, ⟨m, ?_, hR⟩, ?_, ?_, ?_, ?_, h8.off ho (nl 0), ⟨th, ev, h9.off ho (nl 1)⟩⟩
  · show m ≤ psum (up2 σ.1.2.2.1 3 σ.1.2.1 0) (σ.1.2.1 + 1)
    rw [psum, psum_eq (g := up2 σ.1.2.2.1 3 σ.1.2.1 0) (h := σ.1.2.2.1) (fun c hc => up2_n (by omega))]
    omega
  · rw [k 83 (by decide)]
    show match σ.2.1 with | none => _ | some i => _
    cases hi : σ.2.1 with
    | none => rw [hi] at h4; exact h4
    | some i =>
      rw [hi] at h4
      obtain ⟨a1, a2, a3, m', a4, a5⟩ := h4
      refine ⟨a1, Nat.le_succ_of_le a2, a3.cdL (fun j c hj => cdU_lo (by omega) j), m', a4, a5.off ho (fun p q z => by
        have q1 := e0 p q
        have z1 := z.1
        unfold gp at z1
        omega)⟩
  · rw [k 76 (by decide), k 77 (by decide)]; exact h5
  · rw [k 82 (by decide)]
    intro q hq
    have := h6 q hq
    show match σ.2.2.2.1 q with | none => _ | some c => _
    cases e : σ.2.2.2.1 q with
    | none => rw [e] at this; exact this
    | some c => rw [e] at this; exact ⟨this.1, Nat.lt_succ_of_lt this.2⟩
  · rw [k 83 (by decide)]; exact h7
def sp_card (k p vw a : Int32) (σ : St) : Int32 × St := if k < 0 then (-1, σ) else if 15 ≤ k then (-1, σ) else if p = 0 ∨ p = 1 then (if ¬ vw < 0 ∧ ¬ 3 < vw / 10 ∧ ¬ 3 < remF vw 10 then (if a < -9 then (-1, σ) else if a ≤ 9 then (if σ.1.2.1 < 24 then (nI σ.1.2.1, setC σ k p vw a) else (-3, σ)) else (-1, σ)) else (-1, σ)) else (-1, σ)
set_option maxRecDepth 20000 in
theorem c_L_card {k p vw a : Int32} {M : Mem} {σ : St} (hI : InvC M σ) : Ct lyC y_L_card b_L_card 5 (some .int) 3 [.ref 83, .int k, .int p, .int vw, .int a] M (Pi fun r M' => r = (sp_card k p vw a σ).1 ∧ InvC M' (sp_card k p vw a σ).2) := by
  obtain ⟨m, hm, hR⟩ := hI.R
  have hW := hI.1
  have hcd := hI.2.1
  have hn := hW.1.1
  have r8 := hR.2.2.2.2.2.2.1
  refine Ct.ofG mx_L_card [some (.ref 83), some (.int k), some (.int p), some (.int vw), some (.int a)] rfl rfl (Nat.le_of_ble_eq_true rfl) (fun κ C hQ => ?_)
  refine u_iload_n (pc := 0) C d_L_card_0 rfl ?_
  refine u_if_lt (pc := 1) (tgt := 38) C d_L_card_1 rfl (fun c1 => ?_) (fun c1 => ?_)
  · refine u_iconst (pc := 38) (v := (-1)) C d_L_card_38 (by decide) ?_
    refine u_iret (pc := 39) C d_L_card_39 (hQ _ _ ⟨_, rfl, ?_⟩)
    rw [sp_card, if_pos c1]
    exact ⟨rfl, hI⟩
  · refine u_iload_n (pc := 4) C d_L_card_4 rfl ?_
    refine u_bipush (pc := 5) (v := 15) C d_L_card_5 (by decide) ?_
    refine u_icmp_ge (pc := 7) (tgt := 38) C d_L_card_7 rfl (fun c7 => ?_) (fun c7 => ?_)
    · refine u_iconst (pc := 38) (v := (-1)) C d_L_card_38 (by decide) ?_
      refine u_iret (pc := 39) C d_L_card_39 (hQ _ _ ⟨_, rfl, ?_⟩)
      rw [sp_card, if_neg c1, if_pos c7]
      exact ⟨rfl, hI⟩
    · refine u_iload_n (pc := 10) C d_L_card_10 rfl ?_
      refine u_callSi (pc := 11) C d_L_card_11 mx_L_isPlayer mw_L_91 (c_L_isPlayer) rfl rfl (Nat.le_of_ble_eq_true rfl) (fun r11 M11 q11 => ?_)
      obtain ⟨e11, q11⟩ := q11
      have q11 := q11.symm
      subst q11
      refine u_if_eq (pc := 14) (tgt := 38) C d_L_card_14 rfl (fun c14 => ?_) (fun c14 => ?_)
      · refine u_iconst (pc := 38) (v := (-1)) C d_L_card_38 (by decide) ?_
        refine u_iret (pc := 39) C d_L_card_39 (hQ _ _ ⟨_, rfl, ?_⟩)
        have hp : ¬ (p = 0 ∨ p = 1) := fun q => absurd ((e11.trans (if_pos q)).symm.trans c14) (by decide)
        rw [sp_card, if_neg c1, if_neg c7, if_neg hp]
        exact ⟨rfl, hI⟩
      · refine u_iload_n (pc := 17) C d_L_card_17 rfl ?_
        refine u_callSi (pc := 18) C d_L_card_18 mx_L_isPair mw_L_95 (c_L_isPair) rfl rfl (Nat.le_of_ble_eq_true rfl) (fun r18 M18 q18 => ?_)
        obtain ⟨e18, q18⟩ := q18
        have q18 := q18.symm
        subst q18
        refine u_if_eq (pc := 21) (tgt := 38) C d_L_card_21 rfl (fun c21 => ?_) (fun c21 => ?_)
        · refine u_iconst (pc := 38) (v := (-1)) C d_L_card_38 (by decide) ?_
          refine u_iret (pc := 39) C d_L_card_39 (hQ _ _ ⟨_, rfl, ?_⟩)
          have hp : p = 0 ∨ p = 1 := by
            rcases Classical.em (p = 0 ∨ p = 1) with q | q
            · exact q
            · exact absurd (e11.trans (if_neg q)) c14
          have hv : ¬ (¬ vw < 0 ∧ ¬ 3 < vw / 10 ∧ ¬ 3 < remF vw 10) := fun q => absurd ((e18.trans (if_pos q)).symm.trans c21) (by decide)
          rw [sp_card, if_neg c1, if_neg c7, if_pos hp, if_neg hv]
          exact ⟨rfl, hI⟩
        · refine u_iload (pc := 24) C d_L_card_24 rfl ?_
          refine u_bipush (pc := 26) (v := (-9)) C d_L_card_26 (by decide) ?_
          refine u_icmp_lt (pc := 28) (tgt := 38) C d_L_card_28 rfl (fun c28 => ?_) (fun c28 => ?_)
          · refine u_iconst (pc := 38) (v := (-1)) C d_L_card_38 (by decide) ?_
            refine u_iret (pc := 39) C d_L_card_39 (hQ _ _ ⟨_, rfl, ?_⟩)
            have hp : p = 0 ∨ p = 1 := by
              rcases Classical.em (p = 0 ∨ p = 1) with q | q
              · exact q
              · exact absurd (e11.trans (if_neg q)) c14
            have hv : ¬ vw < 0 ∧ ¬ 3 < vw / 10 ∧ ¬ 3 < remF vw 10 := by
              rcases Classical.em (¬ vw < 0 ∧ ¬ 3 < vw / 10 ∧ ¬ 3 < remF vw 10) with q | q
              · exact q
              · exact absurd (e18.trans (if_neg q)) c21
            rw [sp_card, if_neg c1, if_neg c7, if_pos hp, if_pos hv, if_pos c28]
            exact ⟨rfl, hI⟩
          · refine u_iload (pc := 31) C d_L_card_31 rfl ?_
            refine u_bipush (pc := 33) (v := 9) C d_L_card_33 (by decide) ?_
            refine u_icmp_le (pc := 35) (tgt := 40) C d_L_card_35 rfl (fun c35 => ?_) (fun c35 => ?_)
            · refine u_aload_n (pc := 40) C d_L_card_40 rfl ?_
              refine u_getr (pc := 41) (r := (gp 0)) C d_L_card_41 fw_L_21 sC_83 rfl rfl ?_
              refine u_geti (pc := 44) C d_L_card_44 fw_L_98 (shG0 (by decide)) rfl ?_
              refine u_bipush (pc := 47) (v := 24) C d_L_card_47 (by decide) ?_
              refine u_icmp_lt (pc := 49) (tgt := 55) C d_L_card_49 rfl (fun c49 => ?_) (fun c49 => ?_)
              · have c49 : M.1 (gp 0) 7 < 24 := c49
                rw [r8] at c49
                have hn24 : σ.1.2.1 < 24 := (nI_ltI (b := 24) (by omega) (by decide)).mp c49
                refine u_aload_n (pc := 55) C d_L_card_55 rfl ?_
                refine u_getr (pc := 56) (r := (gp 0)) C d_L_card_56 fw_L_21 sC_83 rfl rfl ?_
                refine u_iload_n (pc := 59) C d_L_card_59 rfl ?_
                refine u_iload_n (pc := 60) C d_L_card_60 rfl ?_
                refine u_iload_n (pc := 61) C d_L_card_61 rfl ?_
                refine u_iload (pc := 62) C d_L_card_62 rfl ?_
                refine u_callVi (pc := 64) C d_L_card_64 mx_G_addCard mw_L_101 (shG0 (by decide)) rfl (c_G_addCard (k := 0) (by decide) hR hcd hn24) rfl rfl (Nat.le_of_ble_eq_true rfl) (fun r64 M64 q64 => ?_)
                obtain ⟨e64, kR, kC, kO⟩ := q64
                refine u_iret (pc := 67) C d_L_card_67 (hQ _ _ ⟨_, rfl, ?_⟩)
                have hp : p = 0 ∨ p = 1 := by
                  rcases Classical.em (p = 0 ∨ p = 1) with q | q
                  · exact q
                  · exact absurd (e11.trans (if_neg q)) c14
                have hv : ¬ vw < 0 ∧ ¬ 3 < vw / 10 ∧ ¬ 3 < remF vw 10 := by
                  rcases Classical.em (¬ vw < 0 ∧ ¬ 3 < vw / 10 ∧ ¬ 3 < remF vw 10) with q | q
                  · exact q
                  · exact absurd (e18.trans (if_neg q)) c21
                obtain ⟨hv1, hv2⟩ := pair_of hv
                obtain ⟨j, hj, rfl⟩ := nI_of c1
                have hj15 : j < 15 := (nI_ltI (b := 15) hj (by decide)).mp (Int32.not_le.mp c7)
                have hlo : -9 ≤ a.toInt := Int32.le_iff_toInt_le.mp (Int32.not_lt.mp c28)
                have hhi : a.toInt ≤ 9 := Int32.le_iff_toInt_le.mp c35
                rw [sp_card, if_neg c1, if_neg c7, if_pos hp, if_pos hv, if_neg c28, if_pos c35, if_pos hn24]
                exact ⟨e64, hI.card kO hn24 (hW.1.2.cdUL ⟨j, by omega, rfl⟩ hp hv1 hv2 ⟨hlo, hhi⟩) hm kR kC⟩
              · refine u_bipush (pc := 52) (v := (-3)) C d_L_card_52 (by decide) ?_
                refine u_iret (pc := 54) C d_L_card_54 (hQ _ _ ⟨_, rfl, ?_⟩)
                have hp : p = 0 ∨ p = 1 := by
                  rcases Classical.em (p = 0 ∨ p = 1) with q | q
                  · exact q
                  · exact absurd (e11.trans (if_neg q)) c14
                have hv : ¬ vw < 0 ∧ ¬ 3 < vw / 10 ∧ ¬ 3 < remF vw 10 := by
                  rcases Classical.em (¬ vw < 0 ∧ ¬ 3 < vw / 10 ∧ ¬ 3 < remF vw 10) with q | q
                  · exact q
                  · exact absurd (e18.trans (if_neg q)) c21
                have c49 : ¬ M.1 (gp 0) 7 < 24 := c49
                rw [r8] at c49
                have hn24 : ¬ σ.1.2.1 < 24 := fun q => c49 ((nI_ltI (b := 24) (by omega) (by decide)).mpr q)
                rw [sp_card, if_neg c1, if_neg c7, if_pos hp, if_pos hv, if_neg c28, if_pos c35, if_neg hn24]
                exact ⟨rfl, hI⟩
            · refine u_iconst (pc := 38) (v := (-1)) C d_L_card_38 (by decide) ?_
              refine u_iret (pc := 39) C d_L_card_39 (hQ _ _ ⟨_, rfl, ?_⟩)
              have hp : p = 0 ∨ p = 1 := by
                rcases Classical.em (p = 0 ∨ p = 1) with q | q
                · exact q
                · exact absurd (e11.trans (if_neg q)) c14
              have hv : ¬ vw < 0 ∧ ¬ 3 < vw / 10 ∧ ¬ 3 < remF vw 10 := by
                rcases Classical.em (¬ vw < 0 ∧ ¬ 3 < vw / 10 ∧ ¬ 3 < remF vw 10) with q | q
                · exact q
                · exact absurd (e18.trans (if_neg q)) c21
              rw [sp_card, if_neg c1, if_neg c7, if_pos hp, if_pos hv, if_neg c28, if_neg c35]
              exact ⟨rfl, hI⟩
theorem has_iff {n c : Nat} (hn : n ≤ 24) (hc : c < 2 ^ 31) : hasF (nI n) (nI c) = 0 ↔ ¬ c < n := by
  rw [hasF_is]
  unfold isC
  constructor
  · intro h q
    exact h ⟨nI_pos (by omega), fun z => by rw [nI_leI (by omega) (by omega)] at z; omega⟩
  · intro h q
    exact q.2 ((nI_leI (by omega) (by omega)).mpr (by omega))
def setB (σ : St) (i : Nat × Gm × List Nat) : St := ((σ.1.1, i.1, i.2.1, i.2.2), σ.2.1, σ.2.2.1, (fun q => match σ.2.2.2.1 q with | none => none | some c => if c < i.1 then some c else none), σ.2.2.2.2)
theorem InvC.back {M M1 M' : Mem} {σ : St} {i : Nat × Gm × List Nat} {m : Nat} (hI : InvC M σ) (hi : σ.2.1 = some i) (ho : Off (blk 0) M M1) (hm : m ≤ psum i.2.1 i.1) (hR : RepG M1 0 i.1 i.2.1 i.2.2 m) (ho2 : Off isS M1 M') (hh : ∀ q, q < 8 → M'.1 82 q = if hasF (nI i.1) (M.1 82 q) = 0 then -2 else M.1 82 q) : InvC M' (setB σ i) := by
  obtain ⟨h1, h2, -, h4, h5, h6, h7, h8, th, ev, h9⟩ := hI
  rw [hi] at h4
  obtain ⟨a1, a2, a3, m', a4, a5⟩ := h4
  have nb : ∀ k, k < 6 → ∀ p, isS p → ¬ blk k p := fun k hk p q z => by
    have z2 := z.2
    unfold gp at z2
    unfold isS at q
    omega
  have hf : Off (fun p => blk 0 p ∨ p = 82) M M' := (ho.mono (fun p q => Or.inl q)).trans (ho2.mono (fun p q => Or.inr q))
  have e0 : ∀ p, (blk 0 p ∨ p = 82) → 6 ≤ p ∧ (p < 13 ∨ p = 82) := fun p q => by
    rcases q with q | q
    · have z1 := q.1
      have z2 := q.2
      unfold gp at z1 z2
      omega
    · omega
  have k : ∀ p, 13 ≤ p → p ≠ 82 → M'.1 p = M.1 p := fun p hp h8 => (hf p (fun q => by have q1 := e0 p q; omega)).1
  have nl : ∀ b, b < 2 → ∀ p, (blk 0 p ∨ p = 82) → ¬ lblk b p := fun b hb p q z => by
    have z2 := z.1
    have z4 := z.2
    have z3 := e0 p q
    unfold op at z2 z4
    omega
  refine ⟨a3, h2.off hf (fun p q1 q2 z => by have := e0 p z; omega), ⟨m, hm, hR.off ho2 (nb 0 (by decide))⟩, ?_, ?_, ?_, ?_, h8.off hf (nl 0 (by decide)), ⟨th, ev, h9.off hf (nl 1 (by decide))⟩⟩
  · rw [k 83 (by decide) (by decide)]
    show match σ.2.1 with | none => _ | some i => _
    rw [hi]
    refine ⟨a1, Nat.le_refl _, a3, m', a4, a5.off hf (fun p q z => by
        have q1 := e0 p q
        have z1 := z.1
        have z2 := z.2
        unfold gp at z1 z2
        omega)⟩
  · rw [k 76 (by decide) (by decide), k 77 (by decide) (by decide)]; exact h5
  · intro q hq
    have := h6 q hq
    have hq2 := hh q hq
    have hn := a3.1.1
    have hn0 := h1.1.1
    show match (match σ.2.2.2.1 q with | none => none | some c => if c < i.1 then some c else none) with | none => _ | some c => _
    cases e : σ.2.2.2.1 q with
    | none =>
      rw [e] at this
      have hz : hasF (nI i.1) (M.1 82 q) = 0 := by
        rw [hasF_is]
        intro z
        rcases this with t | t <;> (rw [t] at z; exact z.1 (by decide))
      rw [if_pos hz] at hq2
      exact Or.inr hq2
    | some c =>
      rw [e] at this
      obtain ⟨t1, t2⟩ := this
      rw [t1] at hq2
      have hx := has_iff (c := c) hn (by omega)
      show match (if c < i.1 then some c else none) with | none => _ | some c => _
      by_cases e2 : c < i.1
      · rw [if_pos e2]
        rw [if_neg (fun z => hx.mp z e2)] at hq2
        exact ⟨hq2, e2⟩
      · rw [if_neg e2]
        rw [if_pos (hx.mpr e2)] at hq2
        exact Or.inr hq2
  · rw [k 83 (by decide) (by decide)]; exact h7
def sp_back  (σ : St) : Int32 × St := match σ.2.1 with | none => (-5, σ) | some i => (nI i.1, setB σ i)
set_option maxRecDepth 20000 in
theorem lp_back {κ : KX} {n : Nat} {M : Mem} (hn : M.1 (gp 0) 7 = nI n) (C : Cx κ lyC y_L_back.cls b_L_back 2 (some .int) 3) (hQ : ∀ v M', Pi (fun r M' => r = nI n ∧ Off isS M M' ∧ ∀ q, q < 8 → M'.1 82 q = if hasF (nI n) (M.1 82 q) = 0 then -2 else M.1 82 q) v M' → KQ κ v M') : ∀ (f i : Nat) (M1 : Mem), i ≤ 8 → 8 - i < f → Off isS M M1 → (∀ q, q < 8 → M1.1 82 q = if q < i ∧ hasF (nI n) (M.1 82 q) = 0 then -2 else M.1 82 q) → G κ lyC 23 [some (.ref 83), some (.int (nI i))] [] M1 := by
  intro f
  induction f with
  | zero => intro i _ _ h; omega
  | succ f ih =>
    intro i M1 hi hf ho hh
    have hin : Int32.ofNat 8 ≤ nI i ↔ 8 ≤ i := nI_leI (by omega) (by omega)
    have hn1 : M1.1 (gp 0) 7 = nI n := by rw [(ho (gp 0) (fun q => by unfold isS gp at q; omega)).1, hn]
    refine u_iload_n (pc := 23) C d_L_back_23 rfl ?_
    refine u_aload_n (pc := 24) C d_L_back_24 rfl ?_
    refine u_getr (pc := 25) (r := 82) C d_L_back_25 fw_L_77 sC_83 rfl rfl ?_
    refine u_alen (pc := 28) C d_L_back_28 sC_82 rfl rfl ?_
    refine u_icmp_ge (pc := 29) (tgt := 62) C d_L_back_29 rfl (fun c29 => ?_) (fun c29 => ?_)
    · refine u_aload_n (pc := 62) C d_L_back_62 rfl ?_
      refine u_getr (pc := 63) (r := (gp 0)) C d_L_back_63 fw_L_21 sC_83 rfl rfl ?_
      refine u_geti (pc := 66) C d_L_back_66 fw_L_98 (shG0 (by decide)) rfl ?_
      refine u_iret (pc := 69) C d_L_back_69 (hQ _ _ ⟨_, rfl, ?_⟩)
      have hi2 : i = 8 := by rw [hin] at c29; omega
      subst hi2
      refine ⟨hn1, ho, fun q hq => ?_⟩
      rw [hh q hq]
      simp [hq]
    · refine u_aload_n (pc := 32) C d_L_back_32 rfl ?_
      refine u_getr (pc := 33) (r := (gp 0)) C d_L_back_33 fw_L_21 sC_83 rfl rfl ?_
      refine u_aload_n (pc := 36) C d_L_back_36 rfl ?_
      refine u_getr (pc := 37) (r := 82) C d_L_back_37 fw_L_77 sC_83 rfl rfl ?_
      refine u_iload_n (pc := 40) C d_L_back_40 rfl ?_
      refine u_iald (pc := 41) C d_L_back_41 sC_82 (vp_in_nI (show i < 8 by rw [hin] at c29; omega) (by decide)) ?_
      refine u_callVi (pc := 42) C d_L_back_42 mx_G_has mw_L_137 (shG0 (by decide)) rfl (c_G_has (by decide)) rfl rfl (Nat.le_of_ble_eq_true rfl) (fun r42 M42 q42 => ?_)
      obtain ⟨e42, q42⟩ := q42
      have q42 := q42.symm
      subst q42
      refine u_if_ne (pc := 45) (tgt := 56) C d_L_back_45 rfl (fun c45 => ?_) (fun c45 => ?_)
      · refine u_iinc (pc := 56) (v2 := 1) C d_L_back_56 rfl rfl (by decide) (fun x56 e56 L9 hL9 => ?_)
        obtain rfl : L9 = [some (.ref 83), some (.int x56)] := hL9.symm
        refine u_goto (pc := 59) (tgt := 23) C d_L_back_59 rfl ?_
        obtain rfl : x56 = nI (i + 1) := by rw [e56, nI_succ]
        have hlt : i < 8 := by rw [hin] at c29; omega
        have hi9 := hh i hlt
        rw [if_neg (fun z => by omega)] at hi9
        rw [nI_clamp (by omega), hi9, hn1] at e42
        rw [e42] at c45
        refine ih (i + 1) _ (by omega) (by omega) ho (fun q hq => ?_)
        rw [hh q hq]
        by_cases e : q = i
        · subst e
          rw [if_neg (fun z => by omega), if_neg (fun z => c45 z.2)]
        · by_cases e2 : q < i
          · simp [e2, show q < i + 1 by omega]
          · simp [e2, show ¬ q < i + 1 by omega]
      · refine u_aload_n (pc := 48) C d_L_back_48 rfl ?_
        refine u_getr (pc := 49) (r := 82) C d_L_back_49 fw_L_77 sC_83 rfl rfl ?_
        refine u_iload_n (pc := 52) C d_L_back_52 rfl ?_
        refine u_bipush (pc := 53) (v := (-2)) C d_L_back_53 (by decide) ?_
        refine u_iast (pc := 55) C d_L_back_55 sC_82 (vp_in_nI (show i < 8 by rw [hin] at c29; omega) (by decide)) ?_
        refine u_iinc (pc := 56) (v2 := 1) C d_L_back_56 rfl rfl (by decide) (fun x56 e56 L9 hL9 => ?_)
        obtain rfl : L9 = [some (.ref 83), some (.int x56)] := hL9.symm
        refine u_goto (pc := 59) (tgt := 23) C d_L_back_59 rfl ?_
        obtain rfl : x56 = nI (i + 1) := by rw [e56, nI_succ]
        have hlt : i < 8 := by rw [hin] at c29; omega
        have hi9 := hh i hlt
        rw [if_neg (fun z => by omega)] at hi9
        rw [nI_clamp (by omega), hi9, hn1] at e42
        rw [e42] at c45
        refine ih (i + 1) _ (by omega) (by omega) (ho.trans (Off.up rfl)) (fun q hq => ?_)
        rw [nI_clamp (by omega)]
        by_cases e : q = i
        · subst e
          rw [if_pos ⟨by omega, c45⟩]
          simp [up]
        · have e9 : (up M1 82 i (-2)).1 82 q = M1.1 82 q := by simp [up, e]
          rw [e9, hh q hq]
          by_cases e2 : q < i
          · simp [e2, show q < i + 1 by omega]
          · simp [e2, show ¬ q < i + 1 by omega]
set_option maxRecDepth 20000 in
theorem c_L_back  {M : Mem} {σ : St} (hI : InvC M σ) : Ct lyC y_L_back b_L_back 2 (some .int) 3 [.ref 83] M (Pi fun r M' => r = (sp_back σ).1 ∧ InvC M' (sp_back σ).2) := by
  obtain ⟨m, hm, hR⟩ := hI.R
  have hW := hI.1
  have hcd := hI.2.1
  have hn := hW.1.1
  have r8 := hR.2.2.2.2.2.2.1
  refine Ct.ofG mx_L_back [some (.ref 83), none] rfl rfl (Nat.le_of_ble_eq_true rfl) (fun κ C hQ => ?_)
  refine u_aload_n (pc := 0) C d_L_back_0 rfl ?_
  refine u_geti (pc := 1) C d_L_back_1 fw_L_28 sC_83 rfl ?_
  refine u_if_ne (pc := 4) (tgt := 10) C d_L_back_4 rfl (fun c4 => ?_) (fun c4 => ?_)
  · have hIi := hI.2.2.2.1
    cases hi : σ.2.1 with
    | none =>
      rw [hi] at hIi
      exact absurd hIi c4
    | some i =>
    rw [hi] at hIi
    obtain ⟨a1, a2, a3, m', a4, a5⟩ := hIi
    obtain ⟨h, h64, hh⟩ := a3.hb
    obtain ⟨htl, hbn, hb24⟩ := a3.tl
    refine u_aload_n (pc := 10) C d_L_back_10 rfl ?_
    refine u_getr (pc := 11) (r := (gp 0)) C d_L_back_11 fw_L_21 sC_83 rfl rfl ?_
    refine u_aload_n (pc := 14) C d_L_back_14 rfl ?_
    refine u_getr (pc := 15) (r := (gp 1)) C d_L_back_15 fw_L_25 sC_83 rfl rfl ?_
    refine u_callVv (pc := 18) C d_L_back_18 mx_G_copyFrom mw_L_252 (shG0 (by decide)) rfl (c_G_copyFrom (k := 0) (k2 := 1) (by decide) (by decide) (by decide) a5 htl hb24 (by rw [hh, nI_clamp (by omega)]; exact h64)) rfl rfl (Nat.le_of_ble_eq_true rfl) (fun M18 q18 => ?_)
    obtain ⟨kR, kO⟩ := q18
    refine u_iconst (pc := 21) (v := 0) C d_L_back_21 (by decide) ?_
    refine u_istore_n (pc := 22) C d_L_back_22 rfl (fun x22 e22 L9 hL9 => ?_)
    obtain rfl : L9 = [some (.ref 83), some (.int x22)] := hL9.symm
    subst e22
    have hn9 : M18.1 (gp 0) 7 = nI i.1 := kR.2.2.2.2.2.2.1
    refine lp_back hn9 C (fun v M' hv => hQ v M' ?_) 9 0 M18 (by omega) (by omega) Off.refl (fun q hq => by rw [if_neg (fun z => by omega)])
    obtain ⟨r, rfl, z1, z2, z3⟩ := hv
    have hsp : sp_back σ = (nI i.1, setB σ i) := by rw [sp_back, hi]
    rw [hsp]
    refine ⟨r, rfl, z1, hI.back hi kO a4 kR z2 (fun q hq => ?_)⟩
    rw [z3 q hq, (kO 82 (fun q => by have q2 := q.2; unfold gp at q2; omega)).1]
  · refine u_bipush (pc := 7) (v := (-5)) C d_L_back_7 (by decide) ?_
    refine u_iret (pc := 9) C d_L_back_9 (hQ _ _ ⟨_, rfl, ?_⟩)
    have hIi := hI.2.2.2.1
    cases hi : σ.2.1 with
    | none =>
      have hsp : sp_back σ = (-5, σ) := by rw [sp_back, hi]
      rw [hsp]
      exact ⟨rfl, hI⟩
    | some i =>
      rw [hi] at hIi
      obtain ⟨a1, -⟩ := hIi
      have c4 : ¬ ¬ M.1 83 3 = 0 := fun z => z c4
      rw [a1] at c4
      exact absurd (by decide) c4
