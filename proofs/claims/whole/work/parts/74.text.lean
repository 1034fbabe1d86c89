/-! the class's tape: a text, whole -/
def LNs (M : Mem) (L : List QD) : Prop := M.1 76 7 = nI L.length ∧ ∀ i, i < L.length → M.1 78 i = (L.getD i (0, 0, 0, 0)).1 ∧ M.1 79 i = (L.getD i (0, 0, 0, 0)).2.1 ∧ M.1 80 i = (L.getD i (0, 0, 0, 0)).2.2.1 ∧ M.1 81 i = (L.getD i (0, 0, 0, 0)).2.2.2
theorem getDq_app {L : List QD} {q d : QD} {i : Nat} (h : i < L.length) : (L ++ [q]).getD i d = L.getD i d := by
  rw [List.getD_eq_getElem?_getD, List.getD_eq_getElem?_getD, List.getElem?_append_left h]
theorem getDq_last {L : List QD} {q d : QD} : (L ++ [q]).getD L.length d = q := by simp [List.getD_eq_getElem?_getD]
theorem LNs.add {M : Mem} {L : List QD} {c : Nat} {q : QD} (h : LNs M L) : LNs (lnM M L.length c q.1 q.2.1 q.2.2.1 q.2.2.2) (L ++ [q]) := by
  obtain ⟨h1, h2⟩ := h
  unfold lnM
  refine ⟨?_, fun i hi => ?_⟩
  · rw [up_row, pk_us]; simp
  · have hl : (L ++ [q]).length = L.length + 1 := by simp
    rw [hl] at hi
    by_cases e : i = L.length
    · subst e
      rw [getDq_last]
      refine ⟨?_, ?_, ?_, ?_⟩
      · rw [up_ne (by decide), up_ne (by decide), up_ne (by decide), up_ne (by decide), up_row, pk_us]
      · rw [up_ne (by decide), up_ne (by decide), up_ne (by decide), up_row, pk_us]
      · rw [up_ne (by decide), up_ne (by decide), up_row, pk_us]
      · rw [up_ne (by decide), up_row, pk_us]
    · rw [getDq_app (by omega)]
      obtain ⟨a1, a2, a3, a4⟩ := h2 i (by omega)
      refine ⟨?_, ?_, ?_, ?_⟩
      · rw [up_ne (by decide), up_ne (by decide), up_ne (by decide), up_ne (by decide), up_j e, up_ne (by decide)]; exact a1
      · rw [up_ne (by decide), up_ne (by decide), up_ne (by decide), up_j e, up_ne (by decide), up_ne (by decide)]; exact a2
      · rw [up_ne (by decide), up_ne (by decide), up_j e, up_ne (by decide), up_ne (by decide), up_ne (by decide)]; exact a3
      · rw [up_ne (by decide), up_j e, up_ne (by decide), up_ne (by decide), up_ne (by decide), up_ne (by decide)]; exact a4
theorem LNs.cur {M : Mem} {L : List QD} {x : Int32} (h : LNs M L) : LNs (up M 76 2 x) L := ⟨by rw [up_j (by decide)]; exact h.1, fun i hi => by rw [up_ne (by decide), up_ne (by decide), up_ne (by decide), up_ne (by decide)]; exact h.2 i hi⟩
/-- the tape's own scratch: cursor, lines and what they hold -/
def tsR (p j : Nat) : Prop := (p = 76 ∧ (j = 2 ∨ j = 7)) ∨ (78 ≤ p ∧ p ≤ 81)
def OfC (M M' : Mem) : Prop := (∀ p j, ¬ tsR p j → M'.1 p j = M.1 p j) ∧ M'.2 = M.2
theorem OfC.refl {M : Mem} : OfC M M := ⟨fun _ _ _ => rfl, rfl⟩
theorem OfC.trans {M M1 M2 : Mem} (h1 : OfC M M1) (h2 : OfC M1 M2) : OfC M M2 := ⟨fun p j h => (h2.1 p j h).trans (h1.1 p j h), h2.2.trans h1.2⟩
theorem ofc_up {M : Mem} {p j : Nat} {x : Int32} (h : tsR p j) : OfC M (up M p j x) := ⟨fun q i hq => up_o (fun z => hq (by rw [z.1, z.2]; exact h)), rfl⟩
theorem ofc_cur {M : Mem} {x : Int32} : OfC M (up M 76 2 x) := ofc_up (Or.inl ⟨rfl, Or.inl rfl⟩)
theorem ofc_ln {M : Mem} {n c : Nat} {k p vw a : Int32} : OfC M (lnM M n c k p vw a) :=
  ((((ofc_cur.trans (ofc_up (Or.inr ⟨by decide, by decide⟩))).trans (ofc_up (Or.inr ⟨by decide, by decide⟩))).trans (ofc_up (Or.inr ⟨by decide, by decide⟩))).trans (ofc_up (Or.inr ⟨by decide, by decide⟩))).trans (ofc_up (Or.inl ⟨rfl, Or.inr rfl⟩))
theorem tp_ln {M : Mem} {t : List Int32} {cu n c : Nat} {k p vw a : Int32} (h : TP M t cu) (hc : c + 1 ≤ t.length) : TP (lnM M n c k p vw a) t (c + 1) := by
  obtain ⟨⟨a1, a2, a3⟩, -, -⟩ := h
  have o := ofc_ln (M := M) (n := n) (c := c) (k := k) (p := p) (vw := vw) (a := a)
  refine ⟨⟨a1, by rw [o.1 76 1 (fun z => by unfold tsR at z; omega)]; exact a2, fun i hi => by rw [o.1 77 i (fun z => by unfold tsR at z; omega)]; exact a3 i hi⟩, ?_, hc⟩
  unfold lnM
  rw [up_j (by decide), up_ne (by decide), up_ne (by decide), up_ne (by decide), up_ne (by decide), up_row, pk_us]
set_option maxRecDepth 20000 in
theorem lp_readText {κ : KX} {t : List Int32} {M0 : Mem} (C : Cx κ lyC y_T_readText.cls b_T_readText 2 (some .int) 7) (hQ : ∀ v M', Pi (fun r M' => (((rdt t 10 0).2 = none ∧ r = -2) ∨ ∃ x, x ≤ t.length ∧ (rdt t 10 0).2 = some x ∧ r = nI x) ∧ LNs M' (rdt t 10 0).1 ∧ OfC M0 M') v M' → KQ κ v M') : ∀ (f i cu : Nat) (L : List QD) (M : Mem), i ≤ 10 → 10 - i < f → TP M t cu → LNs M L → L.length = i → OfC M0 M → (rdt t 10 0).1 = L ++ (rdt t (10 - i) cu).1 → (rdt t 10 0).2 = (rdt t (10 - i) cu).2 → G κ lyC 12 [some (.ref 76), some (.int (nI i))] [] M := by
  intro f
  induction f with
  | zero => intro i cu L M _ h; omega
  | succ f ih =>
    intro i cu L M hi hf hT hL hli ho hR1 hR2
    have hn : M.1 76 7 = nI i := by rw [hL.1, hli]
    have h120 := hT.1.1
    have hlen1 := hT.1.2.1
    have hin : (10 : Int32) ≤ nI i ↔ 10 ≤ i := nI_leI (a := 10) (by omega) (by omega)
    refine u_iload_n (pc := 12) C d_T_readText_12 rfl ?_
    refine u_bipush (pc := 13) (v := 10) C d_T_readText_13 (by decide) ?_
    refine u_icmp_ge (pc := 15) (tgt := 64) C d_T_readText_15 rfl (fun c15 => ?_) (fun c15 => ?_)
    · refine u_aload_n (pc := 64) C d_T_readText_64 rfl ?_
      refine u_geti (pc := 65) C d_T_readText_65 fw_T_35 sC_76 rfl ?_
      refine u_iret (pc := 68) C d_T_readText_68 (hQ _ _ ⟨_, rfl, ?_⟩)
      have hge : i = 10 := by rw [hin] at c15; omega
      subst hge
      refine ⟨Or.inr ⟨cu, hT.2.2, hR2, hT.2.1⟩, ?_, ho⟩
      rw [hR1]
      show LNs M (L ++ [])
      rw [List.append_nil]
      exact hL
    · have hlt : i < 10 := by rw [hin] at c15; omega
      have hi1 : 10 - i = (9 - i) + 1 := by omega
      have hi2 : 10 - (i + 1) = 9 - i := by omega
      rw [hi1] at hR1 hR2
      refine u_aload_n (pc := 18) C d_T_readText_18 rfl ?_
      refine u_callVi (pc := 19) C d_T_readText_19 mx_T_readLine mw_T_41 sC_76 rfl (c_T_readLine hT hn hlt) rfl rfl (Nat.le_of_ble_eq_true rfl) (fun r19 M19 q19 => ?_)
      refine u_if_ne (pc := 22) (tgt := 30) C d_T_readText_22 rfl (fun c22 => ?_) (fun c22 => ?_)
      · obtain ⟨k, p, vw, a, c, hr, hr1, hm, hcl⟩ := q19.resolve_left (fun ⟨c, hr, hr0, hm, hcl⟩ => absurd hr0 c22)
        have hm := hm.symm
        subst hm
        have hT2 := tp_ln (n := i) (k := k) (p := p) (vw := vw) (a := a) hT hcl
        have hL2 : LNs (lnM M i c k p vw a) (L ++ [(k, p, vw, a)]) := by rw [← hli]; exact hL.add (q := (k, p, vw, a))
        have hle2 : M.1 76 1 ≤ nI (c + 1) ↔ t.length ≤ c + 1 := by rw [hlen1]; exact nI_leI (by omega) (by omega)
        have hl1 : (lnM M i c k p vw a).1 76 1 = M.1 76 1 := ofc_ln.1 76 1 (fun z => by unfold tsR at z; omega)
        have hl2 : (lnM M i c k p vw a).1 76 2 = nI (c + 1) := hT2.2.1
        refine u_aload_n (pc := 30) C d_T_readText_30 rfl ?_
        refine u_geti (pc := 31) C d_T_readText_31 fw_T_35 sC_76 rfl ?_
        refine u_aload_n (pc := 34) C d_T_readText_34 rfl ?_
        refine u_geti (pc := 35) C d_T_readText_35 fw_T_27 sC_76 rfl ?_
        refine u_icmp_lt (pc := 38) (tgt := 44) C d_T_readText_38 rfl (fun c38 => ?_) (fun c38 => ?_)
        · refine u_aload_n (pc := 44) C d_T_readText_44 rfl ?_
          refine u_bipush (pc := 45) (v := 59) C d_T_readText_45 (by decide) ?_
          refine u_callVi (pc := 47) C d_T_readText_47 mx_T_skip mw_T_45 sC_76 rfl (c_T_skip hT2) rfl rfl (Nat.le_of_ble_eq_true rfl) (fun r47 M47 q47 => ?_)
          refine u_if_ne (pc := 50) (tgt := 58) C d_T_readText_50 rfl (fun c50 => ?_) (fun c50 => ?_)
          · obtain ⟨s1, s2, s3⟩ := q47.resolve_right (fun z => absurd z.1 c50)
            have s3 := s3.symm
            subst s3
            refine u_iinc (pc := 58) (v2 := 1) C d_T_readText_58 rfl rfl (by decide) (fun x58 e58 L9 hL9 => ?_)
            obtain rfl : L9 = [some (.ref 76), some (.int x58)] := hL9.symm
            refine u_goto (pc := 61) (tgt := 12) C d_T_readText_61 rfl ?_
            obtain rfl : x58 = nI (i + 1) := by rw [e58, nI_succ]
            have hnc : ¬ t.length ≤ c + 1 := fun z => absurd s2.1 (by omega)
            rw [rdt_more hr hnc s2.2] at hR1 hR2
            refine ih (i + 1) (c + 1 + 1) (L ++ [(k, p, vw, a)]) _ (by omega) (by omega) (hT2.mv (show c + 1 + 1 ≤ t.length by have := s2.1; omega)) hL2.cur (by simp; omega) ((ho.trans ofc_ln).trans ofc_cur) ?_ ?_
            · rw [hR1, List.append_assoc, hi2]; rfl
            · rw [hR2, hi2]
          · obtain ⟨s1, s2, s3⟩ := q47.resolve_left (fun z => absurd (z.1.symm.trans c50) (by decide))
            have s3 := s3.symm
            subst s3
            refine u_aload_n (pc := 53) C d_T_readText_53 rfl ?_
            refine u_geti (pc := 54) C d_T_readText_54 fw_T_35 sC_76 rfl ?_
            refine u_iret (pc := 57) C d_T_readText_57 (hQ _ _ ⟨_, rfl, ?_⟩)
            rw [hl2, hl1] at c38
            have hnc : ¬ t.length ≤ c + 1 := fun z => absurd c38 (Int32.not_lt.mpr (hle2.mpr z))
            have hn59 : ¬ t.getD (c + 1) 0 = 59 := fun z => s2 ⟨by omega, z⟩
            rw [rdt_no hr hnc hn59] at hR1 hR2
            refine ⟨Or.inr ⟨c + 1, hcl, hR2, hl2⟩, ?_, ho.trans ofc_ln⟩
            rw [hR1]
            exact hL2
        · refine u_bipush (pc := 41) (v := (-2)) C d_T_readText_41 (by decide) ?_
          refine u_iret (pc := 43) C d_T_readText_43 (hQ _ _ ⟨_, rfl, ?_⟩)
          rw [hl2, hl1] at c38
          have hge : t.length ≤ c + 1 := hle2.mp (Int32.not_lt.mp c38)
          rw [rdt_end hr hge] at hR1 hR2
          refine ⟨Or.inl ⟨hR2, rfl⟩, ?_, ho.trans ofc_ln⟩
          rw [hR1]
          exact hL2
      · obtain ⟨c, hr, hr0, hm, hcl⟩ := q19.resolve_right (fun ⟨k, p, vw, a, c, hr, hr1, hm, hcl⟩ => absurd (hr1.symm.trans c22) (by decide))
        have hm := hm.symm
        subst hm
        rw [rdt_bad hr] at hR1 hR2
        refine u_aload_n (pc := 25) C d_T_readText_25 rfl ?_
        refine u_geti (pc := 26) C d_T_readText_26 fw_T_35 sC_76 rfl ?_
        refine u_iret (pc := 29) C d_T_readText_29 (hQ _ _ ⟨_, rfl, ?_⟩)
        refine ⟨Or.inr ⟨c, hcl, hR2, by rw [up_row, pk_us]⟩, ?_, ho.trans ofc_cur⟩
        rw [hR1, List.append_nil]
        exact hL.cur
set_option maxRecDepth 20000 in
theorem c_T_readText {t : List Int32} {M : Mem} (hT : t.length ≤ 120 ∧ M.1 76 1 = nI t.length ∧ ∀ i, i < t.length → M.1 77 i = t.getD i 0) : Ct lyC y_T_readText b_T_readText 2 (some .int) 7 [.ref 76] M (Pi fun r M' => (((rdt t 10 0).2 = none ∧ r = -2) ∨ ∃ x, x ≤ t.length ∧ (rdt t 10 0).2 = some x ∧ r = nI x) ∧ LNs M' (rdt t 10 0).1 ∧ OfC M M') := by
  refine Ct.ofG mx_T_readText [some (.ref 76), none] rfl rfl (Nat.le_of_ble_eq_true rfl) (fun κ C hQ => ?_)
  refine u_aload_n (pc := 0) C d_T_readText_0 rfl ?_
  refine u_iconst (pc := 1) (v := 0) C d_T_readText_1 (by decide) ?_
  refine u_put (pc := 2) C d_T_readText_2 fw_T_35 sC_76 rfl (Or.inl rfl) ?_
  refine u_aload_n (pc := 5) C d_T_readText_5 rfl ?_
  refine u_iconst (pc := 6) (v := 0) C d_T_readText_6 (by decide) ?_
  refine u_put (pc := 7) C d_T_readText_7 fw_T_38 sC_76 rfl (Or.inl rfl) ?_
  refine u_iconst (pc := 10) (v := 0) C d_T_readText_10 (by decide) ?_
  refine u_istore_n (pc := 11) C d_T_readText_11 rfl (fun x11 e11 L9 hL9 => ?_)
  obtain rfl : L9 = [some (.ref 76), some (.int x11)] := hL9.symm
  subst e11
  have o9 : OfC M (up (up M 76 2 0) 76 7 0) := ofc_cur.trans (ofc_up (Or.inl ⟨rfl, Or.inr rfl⟩))
  have hT9 : TP (up (up M 76 2 0) 76 7 0) t 0 := ⟨⟨hT.1, by rw [up_j (by decide), up_j (by decide)]; exact hT.2.1, fun i hi => by rw [up_ne (by decide), up_ne (by decide)]; exact hT.2.2 i hi⟩, by rw [up_j (by decide), up_row, pk_us]; rfl, Nat.zero_le _⟩
  exact lp_readText C hQ 11 0 0 [] _ (by omega) (by omega) hT9 ⟨by rw [up_row, pk_us]; rfl, fun i hi => absurd hi (Nat.not_lt_zero i)⟩ rfl o9 rfl rfl
