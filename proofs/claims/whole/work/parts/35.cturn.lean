/-! a turn -/
def dsc (cd : Nat → Nat → Int32) (n : Nat) (p x : Int32) : Nat → Gm → Gm
  | 0, g => g
  | j + 1, g => if x < nI (j + 1) then dsc cd n p x j (up2 g 3 ((atP cd n g p 1).getD j 0) 4) else g
def mx0 (x : Int32) : Int32 := if (0 : Int32) < x then x else 0
theorem mx0_pos {x : Int32} : 0 ≤ mx0 x := by
  unfold mx0
  split
  · exact Int32.le_of_lt (by assumption)
  · exact Int32.le_refl _
def tkt (cd : Nat → Nat → Int32) (n : Nat) (s : Gm × List Nat) : Gm × List Nat :=
  (up2 (up2 (dsc cd n (s.1 1 2) (mx0 (vals cd s.1 s.2 3)) (atP cd n (evt cd n s.2 0 (s.1 1 2) (vals cd s.1 s.2 0) s.1) (s.1 1 2) 1).length (evt cd n s.2 0 (s.1 1 2) (vals cd s.1 s.2 0) s.1)) 1 2 (1 - s.1 1 2)) 1 3 ((dsc cd n (s.1 1 2) (mx0 (vals cd s.1 s.2 3)) (atP cd n (evt cd n s.2 0 (s.1 1 2) (vals cd s.1 s.2 0) s.1) (s.1 1 2) 1).length (evt cd n s.2 0 (s.1 1 2) (vals cd s.1 s.2 0) s.1)) 1 3 + 1), s.2)
theorem hp_cd {k b p : Nat} (hb : b < 2) (h : HpS k b p) (h1 : 1 ≤ p) (h2 : p ≤ 5) : False := by
  rcases h with q | q | q
  · exact blk_cd h1 h2 q
  · exact l_cd h1 h2 q
  · exact e_cd h1 h2 q
theorem hp_en {k b p : Nat} (h : HpS k b p) : EngS k b p := by
  rcases h with q | q | q
  · exact Or.inl q
  · exact Or.inr (Or.inl q)
  · exact Or.inr (Or.inr (Or.inr q))
theorem atP_out {cd : Nat → Nat → Int32} {d : Nat} {g : Gm} {p : Int32} : ∀ n, d ∈ atP cd n g p 1 → (atP cd n (up2 g 3 d 4) p 1).length + 1 = (atP cd n g p 1).length := by
  intro n
  induction n with
  | zero => intro h; rw [atP_mem] at h; omega
  | succ n ih =>
    intro h
    obtain ⟨h1, h2, h3⟩ := atP_mem.mp h
    rw [atP_succ, atP_succ]
    by_cases e : d = n
    · subst e
      rw [atP_congr (g := up2 g 3 d 4) (h := g) (fun c hc => up2_n (by omega)), up2_e, if_neg (fun q => absurd q.1 (by decide)), if_pos ⟨h2, h3⟩]
      simp
    · have h4 := ih (atP_mem.mpr ⟨by omega, h2, h3⟩)
      rw [up2_n (fun q => e q.symm), List.length_append, List.length_append]
      omega
theorem WFg.turned {cd : Nat → Nat → Int32} {n : Nat} {g : Gm} {tb : List Nat} {p x : Int32} (h : WFg cd n g tb) (hp : p = 0 ∨ p = 1) : WFg cd n (up2 (up2 g 1 2 (1 - p)) 1 3 x) tb := by
  have e2 : ∀ s, s ≠ 1 → (up2 (up2 g 1 2 (1 - p)) 1 3 x) s = g s := fun s hs => by rw [up2_s hs, up2_s hs]
  have e1 : ∀ j, j ≠ 2 → j ≠ 3 → (up2 (up2 g 1 2 (1 - p)) 1 3 x) 1 j = g 1 j := fun j h2 h3 => by rw [up2_n h3, up2_n h2]
  obtain ⟨a1, a2, a3, a4, a5, a6, a7⟩ := h
  unfold WFg thV
  rw [e2 2 (by decide), e2 3 (by decide), e2 4 (by decide), e2 5 (by decide), e1 0 (by decide) (by decide), e1 4 (by decide) (by decide), tc_eq (g := up2 (up2 g 1 2 (1 - p)) 1 3 x) (h := g) (fun c _ => by rw [e2 3 (by decide)])]
  refine ⟨a1, a2, a3, a4, a5, ?_, a7⟩
  rw [up2_n (by decide), up2_e]
  rcases hp with rfl | rfl
  · exact Or.inr rfl
  · exact Or.inl rfl
theorem RepG.turned {M : Mem} {k n m : Nat} {g : Gm} {tb : List Nat} {x y : Int32} (r : RepG M k n g tb m) : RepG (up (up M (gp k) 11 x) (gp k) 12 y) k n (up2 (up2 g 1 2 x) 1 3 y) tb m := by
  obtain ⟨r1, r3, r4, r5, r6, r7, r8, r9, r10, r11, r12, r13, r14, r15⟩ := r
  refine ⟨by simpa [up, up2] using r1, by simpa [up, up2] using r3, by simpa [up, up2] using r4, by simpa [up, up2] using r5, by simpa [up, up2] using r6, by simpa [up, up2] using r7, by simp [up, r8], by simp [up, r9], by simp [up, up2, r10], by simp [up, up2, r11], by simp [up, up2], by simp [up, up2], by simp [up, up2, r14], by simp [up, r15]⟩
set_option maxRecDepth 20000 in
theorem lp_turn {κ : KX} {k n b : Nat} {tb : List Nat} {cd : Nat → Nat → Int32} {p x : Int32} (hk : k < 6) (hb : b < 2) (hp : p = 0 ∨ p = 1) (hx : 0 ≤ x) (C : Cx κ lyC y_R_takeTurn.cls b_R_takeTurn 6 none 4) : ∀ (f j : Nat) (g : Gm) (m : Nat) (M : Mem), j < f → j = (atP cd n g p 1).length → RepG M k n g tb m → CDm M cd → WFg cd n g tb → m ≤ psum g n → (∀ v M', Pv (fun M' => ∃ m', RepG M' k n (up2 (up2 (dsc cd n p x j g) 1 2 (1 - p)) 1 3 ((dsc cd n p x j g) 1 3 + 1)) tb m' ∧ m' ≤ psum (up2 (up2 (dsc cd n p x j g) 1 2 (1 - p)) 1 3 ((dsc cd n p x j g) 1 3 + 1)) n ∧ WFg cd n (up2 (up2 (dsc cd n p x j g) 1 2 (1 - p)) 1 3 ((dsc cd n p x j g) 1 3 + 1)) tb ∧ Off (blk k) M M') v M' → KQ κ v M') → G κ lyC 64 [some (.ref 75), some (.ref (gp k)), some (.ref (op b)), some (.int p), some (.int x), some (.int (nI j))] [] M := by
  intro f
  induction f with
  | zero => intro j g m M h; omega
  | succ f ih =>
    intro j g m M hf hj hR hcd hW hm hQ
    have hn := hW.1.1
    have hjn : j ≤ n := by rw [hj]; exact atP_len
    refine u_iload (pc := 64) C d_R_takeTurn_64 rfl ?_
    refine u_iload (pc := 66) C d_R_takeTurn_66 rfl ?_
    refine u_icmp_le (pc := 68) (tgt := 92) C d_R_takeTurn_68 rfl (fun c68 => ?_) (fun c68 => ?_)
    · refine u_aload_n (pc := 92) C d_R_takeTurn_92 rfl ?_
      refine u_iconst (pc := 93) (v := 1) C d_R_takeTurn_93 (by decide) ?_
      refine u_iload_n (pc := 94) C d_R_takeTurn_94 rfl ?_
      refine u_isub (pc := 95) C d_R_takeTurn_95 ?_
      refine u_put (pc := 96) C d_R_takeTurn_96 fw_R_194 (shG0 hk) rfl (Or.inl rfl) ?_
      refine u_aload_n (pc := 99) C d_R_takeTurn_99 rfl ?_
      refine u_dup (pc := 100) C d_R_takeTurn_100 rfl ?_
      refine u_geti (pc := 101) C d_R_takeTurn_101 fw_R_203 (shG0 hk) rfl ?_
      refine u_iconst (pc := 104) (v := 1) C d_R_takeTurn_104 (by decide) ?_
      refine u_iadd (pc := 105) C d_R_takeTurn_105 ?_
      refine u_put (pc := 106) C d_R_takeTurn_106 fw_R_203 (shG0 hk) rfl (Or.inl rfl) ?_
      refine u_vret (pc := 109) C d_R_takeTurn_109 (hQ _ _ ⟨rfl, ?_⟩)
      have edsc : dsc cd n p x j g = g := by
        cases j with
        | zero => rfl
        | succ i => rw [dsc, if_neg (Int32.not_lt.mpr c68)]
      rw [edsc]
      have h12 : (up M (gp k) 11 (1 - p)).1 (gp k) 12 = g 1 3 := by rw [up_j (by decide)]; exact hR.2.2.2.2.2.2.2.2.2.2.2.1
      rw [h12]
      refine ⟨m, hR.turned, ?_, hW.turned hp, (Off.up blk0).trans (Off.up blk0)⟩
      rw [psum_eq (g := up2 (up2 g 1 2 (1 - p)) 1 3 (g 1 3 + 1)) (h := g) (fun c _ => by rw [up2_s (by decide), up2_s (by decide)])]
      exact hm
    · have hj0 : 0 < j := by
        rcases Nat.lt_or_ge 0 j with z | z
        · exact z
        · exact absurd (by rw [show j = 0 by omega]; exact hx) c68
      obtain ⟨i, rfl⟩ : ∃ i, j = i + 1 := ⟨j - 1, by omega⟩
      refine u_aload_n (pc := 71) C d_R_takeTurn_71 rfl ?_
      refine u_aload_n (pc := 72) C d_R_takeTurn_72 rfl ?_
      refine u_iload_n (pc := 73) C d_R_takeTurn_73 rfl ?_
      refine u_iconst (pc := 74) (v := 1) C d_R_takeTurn_74 (by decide) ?_
      refine u_iload (pc := 75) C d_R_takeTurn_75 rfl ?_
      refine u_iconst (pc := 77) (v := 1) C d_R_takeTurn_77 (by decide) ?_
      refine u_isub (pc := 78) C d_R_takeTurn_78 ?_
      rw [nI_sub1 (by omega), Nat.add_sub_cancel]
      refine u_callVi (pc := 79) C d_R_takeTurn_79 mx_G_nthIn mw_R_200 (shG0 hk) rfl (c_G_nthIn hk hR hcd hn (by omega)) rfl rfl (Nat.le_of_ble_eq_true rfl) (fun r79 M79 q79 => ?_)
      obtain ⟨e79, q79⟩ := q79
      have q79 := q79.symm
      subst q79
      have e9 : r79 = nI ((atP cd n g p 1).getD i 0) := by rw [e79, nthR_lt (by omega)]
      clear e79
      subst e9
      have hmem : (atP cd n g p 1).getD i 0 ∈ atP cd n g p 1 := getD_mem (by omega)
      have hout := atP_out n hmem
      obtain ⟨d1, d2, d3⟩ := atP_mem.mp hmem
      have edsc : dsc cd n p x (i + 1) g = dsc cd n p x i (up2 g 3 ((atP cd n g p 1).getD i 0) 4) := by rw [dsc, if_pos (Int32.not_le.mp c68)]
      generalize (atP cd n g p 1).getD i 0 = d at *
      refine u_iconst (pc := 82) (v := 4) C d_R_takeTurn_82 (by decide) ?_
      refine u_callVv (pc := 83) C d_R_takeTurn_83 mx_G_moveTo mw_R_107 (shG0 hk) rfl (c_G_moveTo hk) rfl rfl (Nat.le_of_ble_eq_true rfl) (fun M83 q83 => ?_)
      have q83 := q83.symm
      subst q83
      refine u_iinc (pc := 86) (v2 := (-1)) C d_R_takeTurn_86 rfl rfl (by decide) (fun x86 e86 L9 hL9 => ?_)
      obtain rfl : L9 = [some (.ref 75), some (.ref (gp k)), some (.ref (op b)), some (.int p), some (.int x), some (.int x86)] := hL9.symm
      refine u_goto (pc := 89) (tgt := 64) C d_R_takeTurn_89 rfl ?_
      obtain rfl : x86 = nI i := by rw [e86, show nI (i + 1) + -1 = nI (i + 1) - 1 from (Int32.sub_eq_add_neg _ _).symm]; exact nI_pred i
      have hv : mvd n g m (up2 g 3 d 4) (m + 1) := mvd.mv (x := 4) d1 rfl (by rw [d2]; decide)
      rw [edsc] at hQ
      refine ih i (up2 g 3 d 4) (m + 1) _ (by omega) (by omega) (hR.mv (by omega)) (hcd.off mvF_off (fun p h1 h2 => blk_cd h1 h2)) (hW.place (p := 4) d1 (by rw [d2]; decide) (by decide) (by decide) (fun _ => rfl) (hW.offpile d1 (by rw [d2]; decide))) (hv.le hm) (fun v M9 h9 => hQ v M9 ?_)
      obtain ⟨r9, m9, z1, z2, z3, z4⟩ := h9
      exact ⟨r9, m9, z1, z2, z3, mvF_off.trans z4⟩
set_option maxRecDepth 20000 in
theorem c_R_takeTurn {k n m b : Nat} {g : Gm} {tb : List Nat} {cd : Nat → Nat → Int32} {th ev : List Int32} {M : Mem} (hk : k < 6) (hb : b < 2) (hW : WFg cd n g tb) (hcd : CDm M cd) (hR : RepG M k n g tb m) (hm : m ≤ psum g n) (hL : LGd M b th ev) : Ct lyC y_R_takeTurn b_R_takeTurn 6 none 4 [.ref 75, .ref (gp k), .ref (op b)] M (Pv fun M' => ∃ m', RepG M' k n (tkt cd n (g, tb)).1 (tkt cd n (g, tb)).2 m' ∧ m' ≤ psum (tkt cd n (g, tb)).1 n ∧ WFg cd n (tkt cd n (g, tb)).1 (tkt cd n (g, tb)).2 ∧ LGd M' b th (ev ++ [evc cd tb 0 (g 1 2) (vals cd g tb 0)]) ∧ Off (EngS k b) M M') := by
  obtain ⟨htl, hbn, hb24⟩ := hW.tl
  have hn := hW.1.1
  have hp := hW.2.2.2.2.2.1
  have r12 : M.1 (gp k) 11 = g 1 2 := hR.2.2.2.2.2.2.2.2.2.2.1
  refine Ct.ofG mx_R_takeTurn [some (.ref 75), some (.ref (gp k)), some (.ref (op b)), none, none, none] rfl rfl (Nat.le_of_ble_eq_true rfl) (fun κ C hQ => ?_)
  refine u_aload_n (pc := 0) C d_R_takeTurn_0 rfl ?_
  refine u_geti (pc := 1) C d_R_takeTurn_1 fw_R_194 (shG0 hk) rfl ?_
  refine u_istore_n (pc := 4) C d_R_takeTurn_4 rfl (fun x4 e4 L9 hL9 => ?_)
  obtain rfl : L9 = [some (.ref 75), some (.ref (gp k)), some (.ref (op b)), some (.int x4), none, none] := hL9.symm
  have hx4 : x4 = g 1 2 := by rw [e4, r12]
  clear e4
  subst hx4
  refine u_aload_n (pc := 5) C d_R_takeTurn_5 rfl ?_
  refine u_getr (pc := 6) (r := (yp 1)) C d_R_takeTurn_6 fw_R_27 sC_75 rfl rfl ?_
  refine u_aload_n (pc := 9) C d_R_takeTurn_9 rfl ?_
  refine u_callVv (pc := 10) C d_R_takeTurn_10 mx_Y_workOut mw_R_122 (shY0 (by decide)) rfl (c_Y_workOut (b := 1) (by decide) hk hR hcd hW.1.2 htl hn hbn hW.2.1.1) rfl rfl (Nat.le_of_ble_eq_true rfl) (fun M10 q10 => ?_)
  obtain ⟨kY, kO⟩ := q10
  have hR2 := hR.off kO (fun p q => y_g hk q)
  have hcd2 := hcd.off kO (fun p h1 h2 => y_cd h1 h2)
  have hL2 := hL.off kO (fun p q => y_l q (by decide))
  refine u_iconst (pc := 13) (v := 0) C d_R_takeTurn_13 (by decide) ?_
  refine u_aload_n (pc := 14) C d_R_takeTurn_14 rfl ?_
  refine u_getr (pc := 15) (r := (yp 1)) C d_R_takeTurn_15 fw_R_27 sC_75 rfl rfl ?_
  refine u_getr (pc := 18) (r := (yp 1 + 1)) C d_R_takeTurn_18 fw_R_141 (shY0 (by decide)) rfl rfl ?_
  refine u_iconst (pc := 21) (v := 3) C d_R_takeTurn_21 (by decide) ?_
  refine u_callSi (pc := 22) C d_R_takeTurn_22 mx_L_at mw_R_97 (c_L_at (shY1 (by decide))) rfl rfl (Nat.le_of_ble_eq_true rfl) (fun r22 M22 q22 => ?_)
  obtain ⟨e22, q22⟩ := q22
  have q22 := q22.symm
  subst q22
  refine u_mmax (pc := 25) C d_R_takeTurn_25 mm_R_180 mm_max_s mm_i mm_max_c (Nat.le_of_ble_eq_true rfl) (by decide) ?_
  refine u_istore (pc := 28) C d_R_takeTurn_28 rfl (fun x28 e28 L9 hL9 => ?_)
  obtain rfl : L9 = [some (.ref 75), some (.ref (gp k)), some (.ref (op b)), some (.int (g 1 2)), some (.int x28), none] := hL9.symm
  refine u_aload_n (pc := 30) C d_R_takeTurn_30 rfl ?_
  have hat3 : x28 = mx0 (vals cd g tb 3) := by
    rw [e28, e22, show (3 : Int32) = nI 3 from rfl, atF_in (by decide) (by decide), kY.2.2 3 (by decide)]
    rfl
  clear e28
  subst hat3
  refine u_getr (pc := 31) (r := (ep 1)) C d_R_takeTurn_31 fw_R_34 sC_75 rfl rfl ?_
  refine u_iconst (pc := 34) (v := 0) C d_R_takeTurn_34 (by decide) ?_
  refine u_iload_n (pc := 35) C d_R_takeTurn_35 rfl ?_
  refine u_aload_n (pc := 36) C d_R_takeTurn_36 rfl ?_
  refine u_getr (pc := 37) (r := (yp 1)) C d_R_takeTurn_37 fw_R_27 sC_75 rfl rfl ?_
  refine u_getr (pc := 40) (r := (yp 1 + 1)) C d_R_takeTurn_40 fw_R_141 (shY0 (by decide)) rfl rfl ?_
  refine u_iconst (pc := 43) (v := 0) C d_R_takeTurn_43 (by decide) ?_
  refine u_callSi (pc := 44) C d_R_takeTurn_44 mx_L_at mw_R_97 (c_L_at (shY1 (by decide))) rfl rfl (Nat.le_of_ble_eq_true rfl) (fun r44 M44 q44 => ?_)
  obtain ⟨e44, q44⟩ := q44
  have q44 := q44.symm
  subst q44
  rw [show (0 : Int32) = nI 0 from rfl, atF_in (by decide) (by decide), kY.2.2 0 (by decide)] at e44
  subst e44
  refine u_callVv (pc := 47) C d_R_takeTurn_47 mx_E_become mw_R_144 (shE0 (by decide)) rfl (c_E_become (b := 1) (by decide)) rfl rfl (Nat.le_of_ble_eq_true rfl) (fun M47 q47 => ?_)
  obtain ⟨kE, kO3⟩ := q47
  have hR3 := hR2.off kO3 (fun p q => e_g hk q)
  have hcd3 := hcd2.off kO3 (fun p h1 h2 => e_cd h1 h2)
  have hL3 := hL2.off kO3 (fun p q => e_l q (by decide))
  refine u_aload_n (pc := 50) C d_R_takeTurn_50 rfl ?_
  refine u_aload_n (pc := 51) C d_R_takeTurn_51 rfl ?_
  refine u_aload_n (pc := 52) C d_R_takeTurn_52 rfl ?_
  refine u_callVv (pc := 53) C d_R_takeTurn_53 mx_R_happen mw_R_88 sC_75 rfl (c_R_happen hk hb hW hcd3 hR3 hL3 kE ⟨⟨0, by decide, rfl⟩, hp, within_ok _⟩) rfl rfl (Nat.le_of_ble_eq_true rfl) (fun M53 q53 => ?_)
  obtain ⟨m4, hR4, hL4, kO4, kM⟩ := q53
  have hcd4 := hcd3.off kO4 (fun p h1 h2 q => hp_cd hb q h1 h2)
  have eev : evt cd n tb 0 (g 1 2) (vals cd g tb 0) g = happ cd n tb (repl cd tb.length tb (0, g 1 2, withinF (vals cd g tb 0) 0 99)).1 g := evt_eq
  rw [← eev] at hR4 kM
  have hW4 : WFg cd n (evt cd n tb 0 (g 1 2) (vals cd g tb 0) g) tb := hW.evt
  refine u_aload_n (pc := 56) C d_R_takeTurn_56 rfl ?_
  refine u_iload_n (pc := 57) C d_R_takeTurn_57 rfl ?_
  refine u_iconst (pc := 58) (v := 1) C d_R_takeTurn_58 (by decide) ?_
  refine u_callVi (pc := 59) C d_R_takeTurn_59 mx_G_countIn mw_R_197 (shG0 hk) rfl (c_G_countIn hk hR4 hcd4 hn) rfl rfl (Nat.le_of_ble_eq_true rfl) (fun r59 M59 q59 => ?_)
  obtain ⟨e59, q59⟩ := q59
  have q59 := q59.symm
  subst q59
  refine u_istore (pc := 62) C d_R_takeTurn_62 rfl (fun x62 e62 L9 hL9 => ?_)
  obtain rfl : L9 = [some (.ref 75), some (.ref (gp k)), some (.ref (op b)), some (.int (g 1 2)), some (.int (mx0 (vals cd g tb 3))), some (.int x62)] := hL9.symm
  subst e62
  subst e59
  refine lp_turn (x := mx0 (vals cd g tb 3)) hk hb hp mx0_pos C _ _ _ m4 M53 (Nat.lt_succ_self _) rfl hR4 hcd4 hW4 (kM.le hm) (fun v M9 h9 => hQ v M9 ?_)
  obtain ⟨r9, m9, z1, z2, z3, z4⟩ := h9
  refine ⟨r9, m9, z1, z2, z3, ?_, ?_⟩
  · exact hL4.off z4 (fun p q => g_l hk q)
  · exact (((kO.mono (fun p q => Or.inr (Or.inr (Or.inl q)))).trans (kO3.mono (fun p q => Or.inr (Or.inr (Or.inr q))))).trans (kO4.mono (fun p q => hp_en q))).trans (z4.mono (fun p q => Or.inl q))
