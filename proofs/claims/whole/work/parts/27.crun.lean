/-! a run of the class is a run of the model -/
theorem up_j {M : Mem} {p q j i : Nat} {x : Int32} (h : i ≠ j) : (up M p j x).1 q i = M.1 q i := by simp [up, h]
def HeS (p : Nat) : Prop := pstS p ∨ p = 75
theorem he_g {k p : Nat} (hk : k < 6) (h : HeS p) : ¬ blk k p := fun q => by
  rcases h with h | h
  · exact pst_g hk h q
  · have h2 := q.2
    unfold gp at h2
    omega
theorem he_l {b p : Nat} (hb : b < 2) (h : HeS p) : ¬ lblk b p := fun q => by
  have h1 := q.2
  unfold op at h1
  rcases h with h | h
  · have := h.1
    omega
  · omega
theorem he_cd {p : Nat} (h1 : 1 ≤ p) (h2 : p ≤ 5) : ¬ HeS p := fun q => by
  rcases q with q | q
  · have := q.1
    omega
  · omega
theorem eng_he {k b p : Nat} (hk : k < 6) (hb : b < 2) (h : EngS k b p) : ¬ HeS p := fun q => by
  rcases h with h | h | h | h
  · exact he_g hk q h
  · exact he_l hb q h
  · have h2 := h.2
    unfold yp at h2
    rcases q with q | q
    · have := q.1; omega
    · omega
  · rcases h with h | h <;> unfold ep at h <;> (rcases q with q | q; (have := q.1; omega); omega)
def RunS (k b p : Nat) : Prop := EngS k b p ∨ HeS p
theorem PAt.of_eq {M M' : Mem} {e m : Nat} {g : Gm} (h : PAt M e g m) (ho : ∀ p, 70 ≤ p → p ≤ 74 → M'.1 p = M.1 p ∧ M'.2 p = M.2 p) : PAt M' e g m := by
  unfold PAt at h ⊢
  rw [(ho 70 (by decide) (by decide)).1, (ho 71 (by decide) (by decide)).1, (ho 72 (by decide) (by decide)).1, (ho 73 (by decide) (by decide)).1, (ho 74 (by decide) (by decide)).2]
  exact h
set_option maxRecDepth 20000 in
theorem c_R_hasEnded {k n t : Nat} {s : Gm × List Nat} {mm : Nat → Nat} {cd : Nat → Nat → Int32} {M : Mem} (hk : k < 6) (ht : t ≤ 200) (hR : RepG M k n (runS cd n s t).1 (runS cd n s t).2 (mm t)) (hT : M.1 75 7 = nI t) (hP : ∀ e, e < t → PAt M e (runS cd n s e).1 (mm e)) (hw : ∀ e, e ≤ t → WFg cd n (runS cd n s e).1 (runS cd n s e).2 ∧ mm e ≤ psum (runS cd n s e).1 n) (hmv : ∀ e e', e ≤ e' → e' ≤ t → mvd n (runS cd n s e).1 (mm e) (runS cd n s e').1 (mm e')) (h4 : M.1 75 4 = 3) (h5 : M.1 75 5 = -2) (h6 : M.1 75 6 = -2) : Ct lyC y_R_hasEnded b_R_hasEnded 2 (some .boolean) 3 [.ref 75, .ref (gp k)] M (Pi fun r M' => ((r = 1 ∧ stops cd n s t (M'.1 75 4) (M'.1 75 5) (M'.1 75 6)) ∨ (r = 0 ∧ goesOn cd n s t ∧ M'.1 75 4 = 3 ∧ M'.1 75 5 = -2 ∧ M'.1 75 6 = -2 ∧ ∀ e, e ≤ t → PAt M' e (runS cd n s e).1 (mm e))) ∧ M'.1 75 7 = nI t ∧ Off HeS M M') := by
  have hl := hR.lostI
  obtain ⟨h, h64, hh⟩ := (hw t (Nat.le_refl t)).1.hb
  refine Ct.ofG mx_R_hasEnded [some (.ref 75), some (.ref (gp k))] rfl rfl (Nat.le_of_ble_eq_true rfl) (fun κ C hQ => ?_)
  refine u_aload_n (pc := 0) C d_R_hasEnded_0 rfl ?_
  refine u_callVi (pc := 1) C d_R_hasEnded_1 mx_G_lostBits mw_R_59 (shG0 hk) rfl (c_G_lostBits hk) rfl rfl (Nat.le_of_ble_eq_true rfl) (fun r1 M1 q1 => ?_)
  obtain ⟨e1, q1⟩ := q1
  have q1 := q1.symm
  subst q1
  refine u_if_eq (pc := 4) (tgt := 14) C d_R_hasEnded_4 rfl (fun c4 => ?_) (fun c4 => ?_)
  · rw [e1, hl] at c4
    refine u_aload_n (pc := 14) C d_R_hasEnded_14 rfl ?_
    refine u_geti (pc := 15) C d_R_hasEnded_15 fw_R_65 (shG0 hk) rfl ?_
    refine u_if_ne (pc := 18) (tgt := 28) C d_R_hasEnded_18 rfl (fun c18 => ?_) (fun c18 => ?_)
    · have c18 : ¬ M.1 (gp k) 9 = 0 := c18
      rw [hR.2.2.2.2.2.2.2.2.1] at c18
      refine u_mem rfl ?_
      refine u_aload_n (pc := 28) C d_R_hasEnded_28 rfl ?_
      refine u_getr (pc := 29) (r := 69) C d_R_hasEnded_29 fw_R_12 sC_75 rfl rfl ?_
      refine u_aload_n (pc := 32) C d_R_hasEnded_32 rfl ?_
      refine u_geti (pc := 33) C d_R_hasEnded_33 fw_R_48 sC_75 rfl ?_
      rw [hT]
      refine u_aload_n (pc := 36) C d_R_hasEnded_36 rfl ?_
      refine u_callVv (pc := 37) C d_R_hasEnded_37 mx_P_keep mw_R_68 sC_69 rfl (c_P_keep hk (hw t (Nat.le_refl t)).1 hR ht hh h64) rfl rfl (Nat.le_of_ble_eq_true rfl) (fun M37 q37 => ?_)
      obtain ⟨pK, oK, fK⟩ := q37
      have kR : M37.1 75 = M.1 75 := (oK 75 (fun q => by have := q.2; omega)).1
      have hA : ∀ e, e ≤ t → PAt M37 e (runS cd n s e).1 (mm e) ∧ WFg cd n (runS cd n s e).1 (runS cd n s e).2 ∧ mm e ≤ psum (runS cd n s e).1 n := fun e he => by
        refine ⟨?_, hw e he⟩
        by_cases q : e = t
        · rw [q]; exact pK
        · obtain ⟨h9, h96, hh9⟩ := (hw e he).1.hb
          exact fK e _ _ q (by rw [hh9, nI_clamp (by omega)]; exact h96) (hP e (by omega))
      refine u_aload_n (pc := 40) C d_R_hasEnded_40 rfl ?_
      refine u_aload_n (pc := 41) C d_R_hasEnded_41 rfl ?_
      refine u_getr (pc := 42) (r := 69) C d_R_hasEnded_42 fw_R_12 sC_75 rfl rfl ?_
      refine u_aload_n (pc := 45) C d_R_hasEnded_45 rfl ?_
      refine u_geti (pc := 46) C d_R_hasEnded_46 fw_R_48 sC_75 rfl ?_
      rw [kR, hT]
      refine u_callVi (pc := 49) C d_R_hasEnded_49 mx_P_sameAs mw_R_72 sC_69 rfl (c_P_sameAs (S := runS cd n s) ht hA hmv) rfl rfl (Nat.le_of_ble_eq_true rfl) (fun r49 M49 q49 => ?_)
      obtain ⟨e49, q49⟩ := q49
      have q49 := q49.symm
      subst q49
      refine u_put (pc := 52) C d_R_hasEnded_52 fw_R_38 sC_75 rfl (Or.inl rfl) ?_
      refine u_aload_n (pc := 55) C d_R_hasEnded_55 rfl ?_
      refine u_geti (pc := 56) C d_R_hasEnded_56 fw_R_38 sC_75 rfl ?_
      have e56 : (up M37 75 5 r49).1 75 5 = r49 := by simp [up]
      rw [e56]
      refine u_if_lt (pc := 59) (tgt := 82) C d_R_hasEnded_59 rfl (fun c59 => ?_) (fun c59 => ?_)
      · refine u_aload_n (pc := 82) C d_R_hasEnded_82 rfl ?_
        refine u_geti (pc := 83) C d_R_hasEnded_83 fw_R_48 sC_75 rfl ?_
        have hT9 : (up M37 75 5 r49).1 75 7 = nI t := by
          rw [up_j (show 7 ≠ 5 by decide), kR, hT]
        have hlt9 : ((up M37 75 5 r49).1 75 7 < 200) ↔ t < 200 := by rw [hT9]; exact nI_ltI (b := 200) (by omega) (by omega)
        have hr9 : (∀ q, q < t → ¬ same n (runS cd n s q).1 (runS cd n s t).1) ∧ r49 = -2 := by
          rcases e49 with ⟨q, q1, q2, q3⟩ | q
          · rw [q3] at c59
            exact absurd c59 (nI_pos (by omega))
          · exact q
        have hof : Off HeS M (up M37 75 5 r49) := (oK.mono (fun p q => Or.inl q)).trans (Off.up (Or.inr rfl))
        have k4 : (up M37 75 5 r49).1 75 4 = 3 := by rw [up_j (show 4 ≠ 5 by decide), kR, h4]
        have k5 : (up M37 75 5 r49).1 75 5 = -2 := by rw [e56, hr9.2]
        have k6 : (up M37 75 5 r49).1 75 6 = -2 := by rw [up_j (show 6 ≠ 5 by decide), kR, h6]
        refine u_sipush (pc := 86) (v := 200) C d_R_hasEnded_86 (by decide) ?_
        refine u_icmp_lt (pc := 89) (tgt := 96) C d_R_hasEnded_89 rfl (fun c89 => ?_) (fun c89 => ?_)
        · refine u_iconst (pc := 96) (v := 0) C d_R_hasEnded_96 (by decide) ?_
          refine u_zret (pc := 97) C d_R_hasEnded_97 (by decide) (hQ _ _ ⟨_, rfl, ?_⟩)
          rw [hlt9] at c89
          refine ⟨Or.inr ⟨rfl, ⟨c4, c18, hr9.1, c89⟩, k4, k5, k6, fun e he => (hA e he).1.of_eq (fun p h1 h2 => ⟨up_ne (by omega), rfl⟩)⟩, hT9, hof⟩
        · refine u_iconst (pc := 92) (v := 1) C d_R_hasEnded_92 (by decide) ?_
          refine u_goto (pc := 93) (tgt := 97) C d_R_hasEnded_93 rfl ?_
          refine u_zret (pc := 97) C d_R_hasEnded_97 (by decide) (hQ _ _ ⟨_, rfl, ?_⟩)
          rw [hlt9] at c89
          refine ⟨Or.inl ⟨rfl, Or.inr (Or.inr (Or.inr ⟨c4, c18, hr9.1, by omega, k4, k5, k6⟩))⟩, hT9, hof⟩
      · have c59 : 0 ≤ r49 := Int32.not_lt.mp c59
        refine u_aload_n (pc := 62) C d_R_hasEnded_62 rfl ?_
        refine u_iconst (pc := 63) (v := 2) C d_R_hasEnded_63 (by decide) ?_
        refine u_put (pc := 64) C d_R_hasEnded_64 fw_R_45 sC_75 rfl (Or.inl rfl) ?_
        refine u_aload_n (pc := 67) C d_R_hasEnded_67 rfl ?_
        refine u_aload_n (pc := 68) C d_R_hasEnded_68 rfl ?_
        refine u_geti (pc := 69) C d_R_hasEnded_69 fw_R_48 sC_75 rfl ?_
        refine u_aload_n (pc := 72) C d_R_hasEnded_72 rfl ?_
        refine u_geti (pc := 73) C d_R_hasEnded_73 fw_R_38 sC_75 rfl ?_
        refine u_isub (pc := 76) C d_R_hasEnded_76 ?_
        refine u_put (pc := 77) C d_R_hasEnded_77 fw_R_42 sC_75 rfl (Or.inl rfl) ?_
        refine u_iconst (pc := 80) (v := 1) C d_R_hasEnded_80 (by decide) ?_
        refine u_zret (pc := 81) C d_R_hasEnded_81 (by decide) (hQ _ _ ⟨_, rfl, ?_⟩)
        rcases e49 with ⟨q, q1, q2, q3⟩ | ⟨q1, q2⟩
        · subst q3
          refine ⟨Or.inl ⟨rfl, Or.inr (Or.inr (Or.inl ⟨c4, c18, ⟨q, q1, q2, by simp [up], ?_⟩, by simp [up]⟩))⟩, by simp [up, kR, hT], (((Off.mono (T := HeS) oK (fun p q => Or.inl q)).trans (Off.up (S := HeS) (Or.inr rfl))).trans (Off.up (S := HeS) (Or.inr rfl))).trans (Off.up (S := HeS) (Or.inr rfl))⟩
          simp [up, kR, hT]
          exact pk_sub (by omega)
        · rw [q2] at c59
          exact absurd c59 (by decide)
    · refine u_aload_n (pc := 21) C d_R_hasEnded_21 rfl ?_
      refine u_iconst (pc := 22) (v := 0) C d_R_hasEnded_22 (by decide) ?_
      refine u_put (pc := 23) C d_R_hasEnded_23 fw_R_45 sC_75 rfl (Or.inl rfl) ?_
      refine u_iconst (pc := 26) (v := 1) C d_R_hasEnded_26 (by decide) ?_
      refine u_zret (pc := 27) C d_R_hasEnded_27 (by decide) (hQ _ _ ⟨_, rfl, ?_⟩)
      have c18 : M.1 (gp k) 9 = 0 := c18
      rw [hR.2.2.2.2.2.2.2.2.1] at c18
      refine ⟨Or.inl ⟨rfl, Or.inr (Or.inl ⟨c4, c18, by simp [up], by simp [up, h5], by simp [up, h6]⟩)⟩, by simp [up, hT], Off.up (Or.inr rfl)⟩
  · refine u_aload_n (pc := 7) C d_R_hasEnded_7 rfl ?_
    refine u_iconst (pc := 8) (v := 1) C d_R_hasEnded_8 (by decide) ?_
    refine u_put (pc := 9) C d_R_hasEnded_9 fw_R_45 sC_75 rfl (Or.inl rfl) ?_
    refine u_iconst (pc := 12) (v := 1) C d_R_hasEnded_12 (by decide) ?_
    refine u_zret (pc := 13) C d_R_hasEnded_13 (by decide) (hQ _ _ ⟨_, rfl, ?_⟩)
    have hlo : lost (runS cd n s t).1 = true := by
      rcases Bool.eq_false_or_eq_true (lost (runS cd n s t).1) with q | q
      · exact q
      · exact absurd (by rw [e1]; exact hl.mpr q) c4
    refine ⟨Or.inl ⟨rfl, Or.inl ⟨hlo, by simp [up], by simp [up, h5], by simp [up, h6]⟩⟩, by simp [up, hT], Off.up (Or.inr rfl)⟩
set_option maxRecDepth 20000 in
theorem lp_rp {κ : KX} {k n m b : Nat} {g : Gm} {tb : List Nat} {cd : Nat → Nat → Int32} {th ev : List Int32} {M : Mem} (hk : k < 6) (hb : b < 2) (C : Cx κ lyC y_R_runPile.cls b_R_runPile 4 none 5) (hQ : ∀ v M', Pv (fun M' => ∃ t m', t ≤ 200 ∧ Run cd n (g, tb) t (M'.1 75 4) (M'.1 75 5) (M'.1 75 6) ∧ M'.1 75 7 = nI t ∧ RepG M' k n (runS cd n (g, tb) t).1 (runS cd n (g, tb) t).2 m' ∧ m' ≤ psum (runS cd n (g, tb) t).1 n ∧ WFg cd n (runS cd n (g, tb) t).1 (runS cd n (g, tb) t).2 ∧ LGd M' b (th ++ told (runS cd n (g, tb)) t) (ev ++ hapd cd n (runS cd n (g, tb)) t) ∧ Off (RunS k b) M M') v M' → KQ κ v M') : ∀ (f t : Nat) (M1 : Mem) (mm : Nat → Nat), t ≤ 200 → 200 - t < f → (∀ q, q < t → goesOn cd n (g, tb) q) → RepG M1 k n (runS cd n (g, tb) t).1 (runS cd n (g, tb) t).2 (mm t) → LGd M1 b (th ++ told (runS cd n (g, tb)) t) (ev ++ hapd cd n (runS cd n (g, tb)) t) → CDm M1 cd → (∀ e, e < t → PAt M1 e (runS cd n (g, tb) e).1 (mm e)) → (∀ e, e ≤ t → WFg cd n (runS cd n (g, tb) e).1 (runS cd n (g, tb) e).2 ∧ mm e ≤ psum (runS cd n (g, tb) e).1 n) → (∀ e e', e ≤ e' → e' ≤ t → mvd n (runS cd n (g, tb) e).1 (mm e) (runS cd n (g, tb) e').1 (mm e')) → M1.1 75 4 = 3 → M1.1 75 5 = -2 → M1.1 75 6 = -2 → Off (RunS k b) M M1 → G κ lyC 19 [some (.ref 75), some (.ref (gp k)), some (.ref (op b)), some (.int (nI t))] [] M1 := by
  intro f
  induction f with
  | zero => intro t M1 mm _ h; omega
  | succ f ih =>
    intro t M1 mm ht hf hgo hR hL hcd hP hw hmv h4 h5 h6 ho
    obtain ⟨h, h64, hh⟩ := (hw t (Nat.le_refl t)).1.hb
    refine u_iload_n (pc := 19) C d_R_runPile_19 rfl ?_
    refine u_sipush (pc := 20) (v := 200) C d_R_runPile_20 (by decide) ?_
    refine u_icmp_gt (pc := 23) (tgt := 52) C d_R_runPile_23 rfl (fun c23 => ?_) (fun c23 => ?_)
    · exact absurd c23 (nI_nlt (a := 200) (b := t) (by omega) (by omega))
    · refine u_aload_n (pc := 26) C d_R_runPile_26 rfl ?_
      refine u_iload_n (pc := 27) C d_R_runPile_27 rfl ?_
      refine u_put (pc := 28) C d_R_runPile_28 fw_R_48 sC_75 rfl (Or.inl rfl) ?_
      refine u_aload_n (pc := 31) C d_R_runPile_31 rfl ?_
      refine u_aload_n (pc := 32) C d_R_runPile_32 rfl ?_
      have o31 : Off HeS M1 (up M1 75 7 (nI t)) := Off.up (Or.inr rfl)
      have hR2 := hR.off o31 (fun p q => he_g hk q)
      have hP2 : ∀ e, e < t → PAt (up M1 75 7 (nI t)) e (runS cd n (g, tb) e).1 (mm e) := fun e he => (hP e he).of_eq (fun p h1 h2 => ⟨up_ne (by omega), rfl⟩)
      refine u_callVi (pc := 33) C d_R_runPile_33 mx_R_hasEnded mw_R_51 sC_75 rfl (c_R_hasEnded hk ht hR2 (by simp [up]) hP2 hw hmv (by simp [up, h4]) (by simp [up, h5]) (by simp [up, h6])) rfl rfl (Nat.le_of_ble_eq_true rfl) (fun r33 M33 q33 => ?_)
      obtain ⟨e33, t33, oH⟩ := q33
      refine u_if_eq (pc := 36) (tgt := 40) C d_R_runPile_36 rfl (fun c36 => ?_) (fun c36 => ?_)
      · have hgo2 := e33
        rcases hgo2 with ⟨q, -⟩ | ⟨-, hgt, k4, k5, k6, hPn⟩
        · rw [q] at c36
          exact absurd c36 (by decide)
        have o33 : Off HeS M1 M33 := o31.trans oH
        have hR3 := hR.off o33 (fun p q => he_g hk q)
        have hL3 := hL.off o33 (fun p q => he_l hb q)
        have hcd3 := hcd.off o33 (fun p h1 h2 => he_cd h1 h2)
        have h0 : 0 < h := by
          rcases Nat.eq_zero_or_pos h with z | z
          · exact absurd (by rw [hh, z]; rfl) hgt.2.1
          · exact z
        refine u_aload_n (pc := 40) C d_R_runPile_40 rfl ?_
        refine u_aload_n (pc := 41) C d_R_runPile_41 rfl ?_
        refine u_aload_n (pc := 42) C d_R_runPile_42 rfl ?_
        refine u_callVv (pc := 43) C d_R_runPile_43 mx_R_resolveTop mw_R_55 sC_75 rfl (c_R_resolveTop hk hb (hw t (Nat.le_refl t)).1 hcd3 hR3 hL3 hh h0 h64) rfl rfl (Nat.le_of_ble_eq_true rfl) (fun M43 q43 => ?_)
        obtain ⟨m9, g9, l9, o9, v9⟩ := q43
        refine u_iinc (pc := 46) (v2 := 1) C d_R_runPile_46 rfl rfl (by decide) (fun x46 e46 L9 hL9 => ?_)
        obtain rfl : L9 = [some (.ref 75), some (.ref (gp k)), some (.ref (op b)), some (.int x46)] := hL9.symm
        refine u_goto (pc := 49) (tgt := 19) C d_R_runPile_49 rfl ?_
        obtain rfl : x46 = nI (t + 1) := by rw [e46, nI_succ]
        have hwt := hw t (Nat.le_refl t)
        have k75 : M43.1 75 = M33.1 75 := (o9 75 (fun q => eng_he hk hb q (Or.inr rfl))).1
        refine ih (t + 1) M43 (fun e => if e = t + 1 then m9 else mm e) hgt.2.2.2 (by have := hgt.2.2.2; omega) (fun q hq => ?_) ?_ ?_ (hcd3.off o9 (fun p h1 h2 q => ?_)) (fun e he => ?_) (fun e he => ?_) (fun e e2 h1 h2 => ?_) (by rw [k75]; exact k4) (by rw [k75]; exact k5) (by rw [k75]; exact k6) ((ho.trans (o33.mono (fun p q => Or.inr q))).trans (o9.mono (fun p q => Or.inl q)))
        · by_cases z : q = t
          · rw [z]; exact hgt
          · exact hgo q (by omega)
        · rw [if_pos rfl]; exact g9
        · rw [told, hapd, ← List.append_assoc, ← List.append_assoc]; exact l9
        · rcases q with q | q | q | q
          · exact blk_cd h1 h2 q
          · exact l_cd h1 h2 q
          · exact y_cd h1 h2 q
          · exact e_cd h1 h2 q
        · rw [if_neg (by omega)]
          exact (hPn e (by omega)).of_eq (fun p h1 h2 => o9 p (fun q => eng_he hk hb q (Or.inl ⟨h1, h2⟩)))
        · by_cases z : e = t + 1
          · subst z
            rw [if_pos rfl]
            exact ⟨hwt.1.rsvL hh h0 h64, v9.le hwt.2⟩
          · rw [if_neg z]
            exact hw e (by omega)
        · by_cases z : e2 = t + 1
          · subst z
            rw [if_pos rfl]
            by_cases z2 : e = t + 1
            · subst z2
              rw [if_pos rfl]; exact mvd.refl
            · rw [if_neg z2]
              exact (hmv e t (by omega) (Nat.le_refl t)).trans v9
          · rw [if_neg z, if_neg (by omega)]
            exact hmv e e2 h1 (by omega)
      · refine u_vret (pc := 39) C d_R_runPile_39 (hQ _ _ ⟨rfl, ?_⟩)
        rcases e33 with ⟨-, q⟩ | ⟨q, -⟩
        · have o33 : Off HeS M1 M33 := o31.trans oH
          exact ⟨t, mm t, ht, ⟨hgo, q⟩, t33, hR.off o33 (fun p q => he_g hk q), (hw t (Nat.le_refl t)).2, (hw t (Nat.le_refl t)).1, hL.off o33 (fun p q => he_l hb q), ho.trans (o33.mono (fun p q => Or.inr q))⟩
        · exact absurd q c36
set_option maxRecDepth 20000 in
theorem c_R_runPile {k n m b : Nat} {g : Gm} {tb : List Nat} {cd : Nat → Nat → Int32} {th ev : List Int32} {M : Mem} (hk : k < 6) (hb : b < 2) (hW : WFg cd n g tb) (hcd : CDm M cd) (hR : RepG M k n g tb m) (hm : m ≤ psum g n) (hL : LGd M b th ev) : Ct lyC y_R_runPile b_R_runPile 4 none 5 [.ref 75, .ref (gp k), .ref (op b)] M (Pv fun M' => ∃ t m', t ≤ 200 ∧ Run cd n (g, tb) t (M'.1 75 4) (M'.1 75 5) (M'.1 75 6) ∧ M'.1 75 7 = nI t ∧ RepG M' k n (runS cd n (g, tb) t).1 (runS cd n (g, tb) t).2 m' ∧ m' ≤ psum (runS cd n (g, tb) t).1 n ∧ WFg cd n (runS cd n (g, tb) t).1 (runS cd n (g, tb) t).2 ∧ LGd M' b (th ++ told (runS cd n (g, tb)) t) (ev ++ hapd cd n (runS cd n (g, tb)) t) ∧ Off (RunS k b) M M') := by
  refine Ct.ofG mx_R_runPile [some (.ref 75), some (.ref (gp k)), some (.ref (op b)), none] rfl rfl (Nat.le_of_ble_eq_true rfl) (fun κ C hQ => ?_)
  refine u_aload_n (pc := 0) C d_R_runPile_0 rfl ?_
  refine u_bipush (pc := 1) (v := (-2)) C d_R_runPile_1 (by decide) ?_
  refine u_put (pc := 3) C d_R_runPile_3 fw_R_38 sC_75 rfl (Or.inl rfl) ?_
  refine u_aload_n (pc := 6) C d_R_runPile_6 rfl ?_
  refine u_bipush (pc := 7) (v := (-2)) C d_R_runPile_7 (by decide) ?_
  refine u_put (pc := 9) C d_R_runPile_9 fw_R_42 sC_75 rfl (Or.inl rfl) ?_
  refine u_aload_n (pc := 12) C d_R_runPile_12 rfl ?_
  refine u_iconst (pc := 13) (v := 3) C d_R_runPile_13 (by decide) ?_
  refine u_put (pc := 14) C d_R_runPile_14 fw_R_45 sC_75 rfl (Or.inl rfl) ?_
  refine u_iconst (pc := 17) (v := 0) C d_R_runPile_17 (by decide) ?_
  refine u_istore_n (pc := 18) C d_R_runPile_18 rfl (fun x18 e18 L9 hL9 => ?_)
  obtain rfl : L9 = [some (.ref 75), some (.ref (gp k)), some (.ref (op b)), some (.int x18)] := hL9.symm
  obtain rfl : x18 = nI 0 := e18
  have o9 : Off HeS M (up (up (up M 75 5 (-2)) 75 6 (-2)) 75 4 3) := ((Off.up (Or.inr rfl)).trans (Off.up (Or.inr rfl))).trans (Off.up (Or.inr rfl))
  exact lp_rp (m := m) hk hb C hQ 201 0 _ (fun _ => m) (Nat.zero_le _) (by omega) (fun q hq => by omega) (hR.off o9 (fun p q => he_g hk q)) (by rw [told, hapd, List.append_nil, List.append_nil]; exact hL.off o9 (fun p q => he_l hb q)) (hcd.off o9 (fun p h1 h2 => he_cd h1 h2)) (fun e he => by omega) (fun e he => by rw [show e = 0 by omega]; exact ⟨hW, hm⟩) (fun e e2 h1 h2 => by rw [show e = 0 by omega, show e2 = 0 by omega]; exact mvd.refl) (by simp [up]) (by simp [up]) (by simp [up]) (o9.mono (fun p q => Or.inr q))
