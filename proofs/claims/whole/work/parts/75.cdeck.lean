/-! the class: deck -/
noncomputable def stC (σ : St) (q : QD) : St := setC σ q.1 q.2.1 q.2.2.1 q.2.2.2
def noT (σ : St) : St := (σ.1, σ.2.1, [], σ.2.2.2)
noncomputable def dkT (σ : St) : Int32 × St := match (rdt σ.2.2.1 10 0).2 with
  | some x => (-100 - nI x, σ)
  | none => if 24 < σ.1.2.1 + (rdt σ.2.2.1 10 0).1.length then (-3, σ) else (nI (rdt σ.2.2.1 10 0).1.length, (rdt σ.2.2.1 10 0).1.foldl stC σ)
noncomputable def sp_deck (σ : St) : Int32 × St := ((dkT σ).1, noT (dkT σ).2)
theorem OfC.off {M M' : Mem} (h : OfC M M') : Off (fun p => p = 76 ∨ (78 ≤ p ∧ p ≤ 81)) M M' := fun p hp => ⟨funext (fun j => h.1 p j (fun z => by unfold tsR at z; omega)), by rw [h.2]⟩
theorem InvC.ofc {M M' : Mem} {σ : St} (h : InvC M σ) (o : OfC M M') : InvC M' σ := by
  obtain ⟨h1, h2, ⟨m, hm, h3⟩, h4, h5, h6, h7, h8, th, ev, h9⟩ := h
  have ho := o.off
  have k83 : M'.1 83 = M.1 83 := (ho 83 (by omega)).1
  have k82 : M'.1 82 = M.1 82 := (ho 82 (by omega)).1
  have k77 : M'.1 77 = M.1 77 := (ho 77 (by omega)).1
  have k76 : M'.1 76 1 = M.1 76 1 := o.1 76 1 (fun z => by unfold tsR at z; omega)
  have bk : ∀ k, k < 2 → ∀ p, (p = 76 ∨ (78 ≤ p ∧ p ≤ 81)) → ¬ blk k p := fun k hk p q z => by
    have z1 := z.1
    have z2 := z.2
    unfold gp at z1 z2
    omega
  have lk : ∀ b, b < 2 → ∀ p, (p = 76 ∨ (78 ≤ p ∧ p ≤ 81)) → ¬ lblk b p := fun b hb p q z => by
    have z1 := z.1
    have z2 := z.2
    unfold op at z1 z2
    omega
  refine ⟨h1, h2.off ho (fun p q1 q2 z => by omega), ⟨m, hm, h3.off ho (bk 0 (by decide))⟩, ?_, ?_, ?_, ?_, h8.off ho (lk 0 (by decide)), th, ev, h9.off ho (lk 1 (by decide))⟩
  · rw [k83]
    cases hi : σ.2.1 with
    | none => rw [hi] at h4; exact h4
    | some i =>
      rw [hi] at h4
      obtain ⟨a1, a2, a3, m', a4, a5⟩ := h4
      exact ⟨a1, a2, a3, m', a4, a5.off ho (bk 1 (by decide))⟩
  · rw [k76, k77]; exact h5
  · rw [k82]; exact h6
  · rw [k83]; exact h7
theorem InvC.noTL {M : Mem} {σ : St} (h : InvC M σ) : InvC (up M 76 1 0) (noT σ) := by
  obtain ⟨h1, h2, ⟨m, hm, h3⟩, h4, h5, h6, h7, h8, th, ev, h9⟩ := h
  have ho : Off (fun p => p = 76) M (up M 76 1 0) := Off.up rfl
  have kp : ∀ p, p ≠ 76 → (up M 76 1 0).1 p = M.1 p := fun p q => up_ne q
  have bk : ∀ k, k < 2 → ∀ p, p = 76 → ¬ blk k p := fun k hk p q z => by
    have z1 := z.1
    have z2 := z.2
    unfold gp at z1 z2
    omega
  have lk : ∀ b, b < 2 → ∀ p, p = 76 → ¬ lblk b p := fun b hb p q z => by
    have z1 := z.1
    have z2 := z.2
    unfold op at z1 z2
    omega
  refine ⟨h1, h2.off ho (fun p q1 q2 z => by omega), ⟨m, hm, h3.off ho (bk 0 (by decide))⟩, ?_, ⟨Nat.zero_le _, by rw [up_row, pk_us]; rfl, fun i hi => absurd hi (Nat.not_lt_zero i)⟩, ?_, ?_, h8.off ho (lk 0 (by decide)), th, ev, h9.off ho (lk 1 (by decide))⟩
  · rw [kp 83 (by decide)]
    show match σ.2.1 with | none => M.1 83 3 = 0 | some i => M.1 83 3 = 1 ∧ i.1 ≤ σ.1.2.1 ∧ WFg σ.1.1 i.1 i.2.1 i.2.2 ∧ ∃ m, m ≤ psum i.2.1 i.1 ∧ RepG (up M 76 1 0) 1 i.1 i.2.1 i.2.2 m
    cases hi : σ.2.1 with
    | none => rw [hi] at h4; exact h4
    | some i =>
      rw [hi] at h4
      obtain ⟨a1, a2, a3, m', a4, a5⟩ := h4
      exact ⟨a1, a2, a3, m', a4, a5.off ho (bk 1 (by decide))⟩
  · rw [kp 82 (by decide)]; exact h6
  · rw [kp 83 (by decide)]; exact h7
theorem LNs.cards {M M' : Mem} {L : List QD} (h : LNs M L) (ho : Off (fun p => blk 0 p ∨ cdS p) M M') : LNs M' L := by
  have k : ∀ p, 76 ≤ p → M'.1 p = M.1 p := fun p hp => (ho p (fun z => by
    rcases z with z | z
    · have z2 := z.2
      unfold gp at z2
      omega
    · have z2 := z.2
      omega)).1
  unfold LNs
  rw [k 76 (by decide), k 78 (by decide), k 79 (by decide), k 80 (by decide), k 81 (by decide)]
  exact h
theorem qok_wf {cd : Nat → Nat → Int32} {n : Nat} {q : QD} (h : WFc cd n) (hq : qok q) : WFc (cdU cd n q.1 q.2.1 (q.2.2.1 / 10) (remF q.2.2.1 10) q.2.2.2) (n + 1) := by
  obtain ⟨h1, h2, ⟨v, w, hv, hw, e⟩, h4⟩ := hq
  refine h.cdUL h1 h2 ⟨v, hv, ?_⟩ ⟨w, hw, ?_⟩ h4
  · rw [e, show (10 : Int32) = nI 10 from rfl, pk_div (by omega) (by decide) (by decide)]
    exact congrArg nI (by omega)
  · unfold remF
    rw [e, show (10 : Int32) = nI 10 from rfl, pk_rem (by omega) (by decide) (by decide)]
    exact congrArg nI (by omega)
theorem stc_n {σ : St} : ∀ (L : List QD), (L.foldl stC σ).1.2.1 = σ.1.2.1 + L.length := by
  intro L
  induction L generalizing σ with
  | nil => rfl
  | cons q L ih =>
    rw [List.foldl_cons, ih]
    show σ.1.2.1 + 1 + L.length = _
    rw [List.length_cons]
    omega
theorem take_s {L : List QD} {i : Nat} (h : i < L.length) : L.take (i + 1) = L.take i ++ [L.getD i (0, 0, 0, 0)] := by
  rw [List.take_succ_eq_append_getElem h, List.getD_eq_getElem?_getD, List.getElem?_eq_getElem h]; rfl
set_option maxRecDepth 20000 in
theorem lp_deck {κ : KX} {σ : St} {L : List QD} {x1 : Int32} (hl10 : L.length ≤ 10) (hroom : σ.1.2.1 + L.length ≤ 24) (hqk : ∀ q, q ∈ L → qok q) (C : Cx κ lyC y_L_deckOnTape.cls b_L_deckOnTape 3 (some .int) 8) (hQ : ∀ v M', Pi (fun r M' => r = nI L.length ∧ InvC M' (L.foldl stC σ)) v M' → KQ κ v M') : ∀ (f i : Nat) (M : Mem), i ≤ L.length → L.length - i < f → InvC M ((L.take i).foldl stC σ) → LNs M L → G κ lyC 42 [some (.ref 83), some (.int x1), some (.int (nI i))] [] M := by
  intro f
  induction f with
  | zero => intro i M _ h; omega
  | succ f ih =>
    intro i M hi hf hI hL
    have hn := stc_n (σ := σ) (L.take i)
    rw [List.length_take, Nat.min_eq_left hi] at hn
    have hl7 := hL.1
    have hin : nI L.length ≤ nI i ↔ L.length ≤ i := nI_leI (by omega) (by omega)
    obtain ⟨m, hm, hR⟩ := hI.R
    refine u_iload_n (pc := 42) C d_L_deckOnTape_42 rfl ?_
    refine u_aload_n (pc := 43) C d_L_deckOnTape_43 rfl ?_
    refine u_getr (pc := 44) (r := 76) C d_L_deckOnTape_44 fw_L_73 sC_83 rfl rfl ?_
    refine u_geti (pc := 47) C d_L_deckOnTape_47 fw_L_118 sC_76 rfl ?_
    refine u_icmp_ge (pc := 50) (tgt := 111) C d_L_deckOnTape_50 rfl (fun c50 => ?_) (fun c50 => ?_)
    · refine u_aload_n (pc := 111) C d_L_deckOnTape_111 rfl ?_
      refine u_getr (pc := 112) (r := 76) C d_L_deckOnTape_112 fw_L_73 sC_83 rfl rfl ?_
      refine u_geti (pc := 115) C d_L_deckOnTape_115 fw_L_118 sC_76 rfl ?_
      refine u_iret (pc := 118) C d_L_deckOnTape_118 (hQ _ _ ⟨_, rfl, ?_⟩)
      have hge : i = L.length := by rw [hl7, hin] at c50; omega
      rw [hge, List.take_length] at hI
      exact ⟨hl7, hI⟩
    · have hlt : i < L.length := by rw [hl7, hin] at c50; omega
      obtain ⟨g1, g2, g3, g4⟩ := hL.2 i hlt
      have hqi : qok (L.getD i (0, 0, 0, 0)) := hqk _ (by rw [List.getD_eq_getElem?_getD, List.getElem?_eq_getElem hlt]; exact List.getElem_mem hlt)
      have hn24 : ((L.take i).foldl stC σ).1.2.1 < 24 := by omega
      refine u_aload_n (pc := 53) C d_L_deckOnTape_53 rfl ?_
      refine u_getr (pc := 54) (r := (gp 0)) C d_L_deckOnTape_54 fw_L_21 sC_83 rfl rfl ?_
      refine u_aload_n (pc := 57) C d_L_deckOnTape_57 rfl ?_
      refine u_getr (pc := 58) (r := 76) C d_L_deckOnTape_58 fw_L_73 sC_83 rfl rfl ?_
      refine u_getr (pc := 61) (r := 78) C d_L_deckOnTape_61 fw_L_121 sC_76 rfl rfl ?_
      refine u_iload_n (pc := 64) C d_L_deckOnTape_64 rfl ?_
      refine u_callSi (pc := 65) C d_L_deckOnTape_65 mx_L_at mw_L_124 (c_L_at sC_78) rfl rfl (Nat.le_of_ble_eq_true rfl) (fun r65 M65 q65 => ?_)
      obtain ⟨e65, q65⟩ := q65
      have q65 := q65.symm
      subst q65
      refine u_aload_n (pc := 68) C d_L_deckOnTape_68 rfl ?_
      refine u_getr (pc := 69) (r := 76) C d_L_deckOnTape_69 fw_L_73 sC_83 rfl rfl ?_
      refine u_getr (pc := 72) (r := 79) C d_L_deckOnTape_72 fw_L_128 sC_76 rfl rfl ?_
      refine u_iload_n (pc := 75) C d_L_deckOnTape_75 rfl ?_
      refine u_callSi (pc := 76) C d_L_deckOnTape_76 mx_L_at mw_L_124 (c_L_at sC_79) rfl rfl (Nat.le_of_ble_eq_true rfl) (fun r76 M76 q76 => ?_)
      obtain ⟨e76, q76⟩ := q76
      have q76 := q76.symm
      subst q76
      refine u_aload_n (pc := 79) C d_L_deckOnTape_79 rfl ?_
      refine u_getr (pc := 80) (r := 76) C d_L_deckOnTape_80 fw_L_73 sC_83 rfl rfl ?_
      refine u_getr (pc := 83) (r := 80) C d_L_deckOnTape_83 fw_L_131 sC_76 rfl rfl ?_
      refine u_iload_n (pc := 86) C d_L_deckOnTape_86 rfl ?_
      refine u_callSi (pc := 87) C d_L_deckOnTape_87 mx_L_at mw_L_124 (c_L_at sC_80) rfl rfl (Nat.le_of_ble_eq_true rfl) (fun r87 M87 q87 => ?_)
      obtain ⟨e87, q87⟩ := q87
      have q87 := q87.symm
      subst q87
      refine u_aload_n (pc := 90) C d_L_deckOnTape_90 rfl ?_
      refine u_getr (pc := 91) (r := 76) C d_L_deckOnTape_91 fw_L_73 sC_83 rfl rfl ?_
      refine u_getr (pc := 94) (r := 81) C d_L_deckOnTape_94 fw_L_134 sC_76 rfl rfl ?_
      refine u_iload_n (pc := 97) C d_L_deckOnTape_97 rfl ?_
      refine u_callSi (pc := 98) C d_L_deckOnTape_98 mx_L_at mw_L_124 (c_L_at sC_81) rfl rfl (Nat.le_of_ble_eq_true rfl) (fun r98 M98 q98 => ?_)
      obtain ⟨e98, q98⟩ := q98
      have q98 := q98.symm
      subst q98
      rw [e65, e76, e87, e98, atF_in (by omega) (by decide), atF_in (by omega) (by decide), atF_in (by omega) (by decide), atF_in (by omega) (by decide), g1, g2, g3, g4]
      refine u_callVi (pc := 101) C d_L_deckOnTape_101 mx_G_addCard mw_L_101 (shG0 (by decide)) rfl (c_G_addCard (k := 0) (by decide) hR hI.2.1 hn24) rfl rfl (Nat.le_of_ble_eq_true rfl) (fun r101 M101 q101 => ?_)
      obtain ⟨e101, hR2, hcd2, o2⟩ := q101
      refine u_pop (pc := 104) C d_L_deckOnTape_104 rfl ?_
      refine u_iinc (pc := 105) (v2 := 1) C d_L_deckOnTape_105 rfl rfl (by decide) (fun x105 e105 L9 hL9 => ?_)
      obtain rfl : L9 = [some (.ref 83), some (.int x1), some (.int x105)] := hL9.symm
      refine u_goto (pc := 108) (tgt := 42) C d_L_deckOnTape_108 rfl ?_
      obtain rfl : x105 = nI (i + 1) := by rw [e105, nI_succ]
      refine ih (i + 1) _ (by omega) (by omega) ?_ (hL.cards o2)
      rw [take_s hlt, List.foldl_append]
      exact hI.card o2 hn24 (qok_wf hI.1.1.2 hqi) hm hR2 hcd2
set_option maxRecDepth 20000 in
theorem c_L_deckOnTape {M : Mem} {σ : St} (hI : InvC M σ) : Ct lyC y_L_deckOnTape b_L_deckOnTape 3 (some .int) 8 [.ref 83] M (Pi fun r M' => r = (dkT σ).1 ∧ InvC M' (dkT σ).2) := by
  have hT := hI.2.2.2.2.1
  have hn24 := hI.1.1.1
  have hl10 := rdt_len (t := σ.2.2.1) 10 0
  have hqk := rdt_ok (t := σ.2.2.1) 10 0
  refine Ct.ofG mx_L_deckOnTape [some (.ref 83), none, none] rfl rfl (Nat.le_of_ble_eq_true rfl) (fun κ C hQ => ?_)
  refine u_aload_n (pc := 0) C d_L_deckOnTape_0 rfl ?_
  refine u_getr (pc := 1) (r := 76) C d_L_deckOnTape_1 fw_L_73 sC_83 rfl rfl ?_
  refine u_callVi (pc := 4) C d_L_deckOnTape_4 mx_T_readText mw_L_115 sC_76 rfl (c_T_readText hT) rfl rfl (Nat.le_of_ble_eq_true rfl) (fun r4 M4 q4 => ?_)
  obtain ⟨e4, hL, o4⟩ := q4
  have hI4 := hI.ofc o4
  refine u_istore_n (pc := 7) C d_L_deckOnTape_7 rfl (fun x7 e7 L9 hL9 => ?_)
  obtain rfl : L9 = [some (.ref 83), some (.int x7), none] := hL9.symm
  refine u_iload_n (pc := 8) C d_L_deckOnTape_8 rfl ?_
  refine u_if_lt (pc := 9) (tgt := 17) C d_L_deckOnTape_9 rfl (fun c9 => ?_) (fun c9 => ?_)
  · have hnone : (rdt σ.2.2.1 10 0).2 = none := by
      rcases e4 with z | ⟨x, hx, h1, h2⟩
      · exact z.1
      · rw [e7, h2] at c9
        exact absurd c9 (nI_pos (by have := hT.1; omega))
    have hsum : M4.1 (gp 0) 7 + M4.1 76 7 = nI (σ.1.2.1 + (rdt σ.2.2.1 10 0).1.length) := by
      obtain ⟨m, hm, hR⟩ := hI4.R
      rw [hR.2.2.2.2.2.2.1, hL.1, nI_add]
    refine u_aload_n (pc := 17) C d_L_deckOnTape_17 rfl ?_
    refine u_getr (pc := 18) (r := (gp 0)) C d_L_deckOnTape_18 fw_L_21 sC_83 rfl rfl ?_
    refine u_geti (pc := 21) C d_L_deckOnTape_21 fw_L_98 (shG0 (by decide)) rfl ?_
    refine u_aload_n (pc := 24) C d_L_deckOnTape_24 rfl ?_
    refine u_getr (pc := 25) (r := 76) C d_L_deckOnTape_25 fw_L_73 sC_83 rfl rfl ?_
    refine u_geti (pc := 28) C d_L_deckOnTape_28 fw_L_118 sC_76 rfl ?_
    refine u_iadd (pc := 31) C d_L_deckOnTape_31 ?_
    refine u_bipush (pc := 32) (v := 24) C d_L_deckOnTape_32 (by decide) ?_
    refine u_icmp_le (pc := 34) (tgt := 40) C d_L_deckOnTape_34 rfl (fun c34 => ?_) (fun c34 => ?_)
    · rw [hsum] at c34
      have hroom : σ.1.2.1 + (rdt σ.2.2.1 10 0).1.length ≤ 24 := (nI_leI (b := 24) (by omega) (by decide)).mp c34
      have hdk : dkT σ = (nI (rdt σ.2.2.1 10 0).1.length, (rdt σ.2.2.1 10 0).1.foldl stC σ) := by
        unfold dkT
        rw [hnone]
        simp only []
        rw [if_neg (by omega)]
      refine u_iconst (pc := 40) (v := 0) C d_L_deckOnTape_40 (by decide) ?_
      refine u_istore_n (pc := 41) C d_L_deckOnTape_41 rfl (fun x41 e41 L9 hL9 => ?_)
      obtain rfl : L9 = [some (.ref 83), some (.int x7), some (.int x41)] := hL9.symm
      subst e41
      rw [hdk] at hQ
      exact lp_deck hl10 hroom hqk C hQ _ 0 M4 (Nat.zero_le _) (Nat.lt_succ_self _) hI4 hL
    · refine u_bipush (pc := 37) (v := (-3)) C d_L_deckOnTape_37 (by decide) ?_
      refine u_iret (pc := 39) C d_L_deckOnTape_39 (hQ _ _ ⟨_, rfl, ?_⟩)
      rw [hsum] at c34
      have hroom : ¬ σ.1.2.1 + (rdt σ.2.2.1 10 0).1.length ≤ 24 := fun z => c34 (nI_le (b := 24) z (by decide))
      have hdk : dkT σ = (-3, σ) := by
        unfold dkT
        rw [hnone]
        simp only []
        rw [if_pos (by omega)]
      rw [hdk]
      exact ⟨rfl, hI4⟩
  · refine u_bipush (pc := 12) (v := (-100)) C d_L_deckOnTape_12 (by decide) ?_
    refine u_iload_n (pc := 14) C d_L_deckOnTape_14 rfl ?_
    refine u_isub (pc := 15) C d_L_deckOnTape_15 ?_
    refine u_iret (pc := 16) C d_L_deckOnTape_16 (hQ _ _ ⟨_, rfl, ?_⟩)
    obtain ⟨x, hx, h1, h2⟩ := e4.resolve_left (fun z => by rw [e7, z.2] at c9; exact c9 (by decide))
    have hdk : dkT σ = (-100 - nI x, σ) := by
      unfold dkT
      rw [h1]
    rw [hdk, e7, h2]
    exact ⟨rfl, hI4⟩
set_option maxRecDepth 20000 in
theorem c_L_deck {M : Mem} {σ : St} (hI : InvC M σ) : Ct lyC y_L_deck b_L_deck 2 (some .int) 9 [.ref 83] M (Pi fun r M' => r = (sp_deck σ).1 ∧ InvC M' (sp_deck σ).2) := by
  refine Ct.ofG mx_L_deck [some (.ref 83), none] rfl rfl (Nat.le_of_ble_eq_true rfl) (fun κ C hQ => ?_)
  refine u_aload_n (pc := 0) C d_L_deck_0 rfl ?_
  refine u_callVi (pc := 1) C d_L_deck_1 mx_L_deckOnTape mw_L_111 sC_83 rfl (c_L_deckOnTape hI) rfl rfl (Nat.le_of_ble_eq_true rfl) (fun r1 M1 q1 => ?_)
  obtain ⟨e1, hI1⟩ := q1
  refine u_istore_n (pc := 4) C d_L_deck_4 rfl (fun x4 e4 L9 hL9 => ?_)
  obtain rfl : L9 = [some (.ref 83), some (.int x4)] := hL9.symm
  refine u_aload_n (pc := 5) C d_L_deck_5 rfl ?_
  refine u_getr (pc := 6) (r := 76) C d_L_deck_6 fw_L_73 sC_83 rfl rfl ?_
  refine u_iconst (pc := 9) (v := 0) C d_L_deck_9 (by decide) ?_
  refine u_put (pc := 10) C d_L_deck_10 fw_L_108 sC_76 rfl (Or.inl rfl) ?_
  refine u_iload_n (pc := 13) C d_L_deck_13 rfl ?_
  refine u_iret (pc := 14) C d_L_deck_14 (hQ _ _ ⟨_, rfl, ?_⟩)
  exact ⟨by rw [e4, e1]; rfl, hI1.noTL⟩
