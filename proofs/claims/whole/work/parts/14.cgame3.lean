/-! draws, copies, cards added -/
theorem RepG.seed {M : Mem} {k n m : Nat} {g : Gm} {tb : List Nat} {s : Int32} (r : RepG M k n g tb m) : RepG (up M (gp k) 13 s) k n (up2 g 1 1 s) tb m := by
  obtain ⟨r1, r3, r4, r5, r6, r7, r8, r9, r10, r11, r12, r13, r14, r15⟩ := r
  exact ⟨by simpa [up, up2] using r1, by simpa [up, up2] using r3, by simpa [up, up2] using r4, by simpa [up, up2] using r5, by simpa [up, up2] using r6, by simpa [up, up2] using r7, by simp [up, r8], by simp [up, r9], by simp [up, up2, r10], by simp [up, up2, r11], by simp [up, up2, r12], by simp [up, up2, r13], by simp [up, up2], by simp [up, r15]⟩
theorem CDm.off {S : Nat → Prop} {M M' : Mem} {cd : Nat → Nat → Int32} (h : CDm M cd) (ho : Off S M M') (hS : ∀ p, 1 ≤ p → p ≤ 5 → ¬ S p) : CDm M' cd := by
  unfold CDm at h ⊢
  rw [(ho 1 (hS 1 (by decide) (by decide))).1, (ho 2 (hS 2 (by decide) (by decide))).1, (ho 3 (hS 3 (by decide) (by decide))).1, (ho 4 (hS 4 (by decide) (by decide))).1, (ho 5 (hS 5 (by decide) (by decide))).1]
  exact h
theorem blk_cd {k p : Nat} (h1 : 1 ≤ p) (h2 : p ≤ 5) : ¬ blk k p := fun q => by
  have := q.1
  unfold gp at this
  omega
theorem nthR_lt {l : List Nat} {j : Nat} (h : j < l.length) : nthR l j = nI (l.getD j 0) := by
  simp [nthR, List.getD_eq_getElem?_getD, List.getElem?_eq_getElem h]
theorem getD_mem {l : List Nat} {j : Nat} (h : j < l.length) : l.getD j 0 ∈ l := by
  rw [List.getD_eq_getElem?_getD, List.getElem?_eq_getElem h]
  exact List.getElem_mem h
set_option maxRecDepth 20000 in
theorem c_G_drawOne {k n m : Nat} {g : Gm} {tb : List Nat} {cd : Nat → Nat → Int32} {M : Mem} (hk : k < 6) {p : Int32} (hR : RepG M k n g tb m) (hcd : CDm M cd) (hn : n ≤ 24) (hp : p = 0 ∨ p = 1) : Ct lyC y_G_drawOne b_G_drawOne 3 none 2 [.ref (gp k), .int p] M (Pv fun M' => ∃ m', RepG M' k n (draw1 cd n p g) tb m' ∧ Off (blk k) M M' ∧ mvd n g m (draw1 cd n p g) m') := by
  refine Ct.ofG mx_G_drawOne [some (.ref (gp k)), some (.int p), none] rfl rfl (Nat.le_of_ble_eq_true rfl) (fun κ C hQ => ?_)
  refine u_aload_n (pc := 0) C d_G_drawOne_0 rfl ?_
  refine u_iload_n (pc := 1) C d_G_drawOne_1 rfl ?_
  refine u_iconst (pc := 2) (v := 0) C d_G_drawOne_2 (by decide) ?_
  refine u_callVi (pc := 3) C d_G_drawOne_3 mx_G_countIn mw_G_88 (shG0 hk) rfl (c_G_countIn hk hR hcd hn) rfl rfl (Nat.le_of_ble_eq_true rfl) (fun r3 M3 q3 => ?_)
  obtain ⟨e3, q3⟩ := q3
  have q3 := q3.symm
  subst q3
  refine u_istore_n (pc := 6) C d_G_drawOne_6 rfl (fun x6 e6 L9 hL9 => ?_)
  obtain rfl : L9 = [some (.ref (gp k)), some (.int p), some (.int x6)] := hL9.symm
  refine u_iload_n (pc := 7) C d_G_drawOne_7 rfl ?_
  refine u_if_gt (pc := 8) (tgt := 18) C d_G_drawOne_8 rfl (fun c8 => ?_) (fun c8 => ?_)
  · refine u_aload_n (pc := 18) C d_G_drawOne_18 rfl ?_
    refine u_aload_n (pc := 19) C d_G_drawOne_19 rfl ?_
    refine u_geti (pc := 20) C d_G_drawOne_20 fw_G_30 (shG0 hk) rfl ?_
    refine u_callSi (pc := 23) C d_G_drawOne_23 mx_L_seedAfter mw_G_95 (c_L_seedAfter) rfl rfl (Nat.le_of_ble_eq_true rfl) (fun r23 M23 q23 => ?_)
    obtain ⟨e23, q23⟩ := q23
    have q23 := q23.symm
    subst q23
    refine u_put (pc := 26) C d_G_drawOne_26 fw_G_30 (shG0 hk) rfl (Or.inl rfl) ?_
    refine u_aload_n (pc := 29) C d_G_drawOne_29 rfl ?_
    refine u_aload_n (pc := 30) C d_G_drawOne_30 rfl ?_
    refine u_iload_n (pc := 31) C d_G_drawOne_31 rfl ?_
    refine u_iconst (pc := 32) (v := 0) C d_G_drawOne_32 (by decide) ?_
    refine u_iload_n (pc := 33) C d_G_drawOne_33 rfl ?_
    refine u_aload_n (pc := 34) C d_G_drawOne_34 rfl ?_
    refine u_geti (pc := 35) C d_G_drawOne_35 fw_G_30 (shG0 hk) rfl ?_
    refine u_callSi (pc := 38) C d_G_drawOne_38 mx_L_drawnBelow mw_G_99 (c_L_drawnBelow) rfl rfl (Nat.le_of_ble_eq_true rfl) (fun r38 M38 q38 => ?_)
    obtain ⟨e38, q38⟩ := q38
    have q38 := q38.symm
    subst q38
    have hl := atP_len (cd := cd) (n := n) (g := g) (p := p) (pl := 0)
    have h0 : 0 < (atP cd n g p 0).length := by
      rcases Nat.eq_zero_or_pos (atP cd n g p 0).length with z | z
      · rw [e6, e3, z] at c8; exact absurd c8 (by decide)
      · exact z
    obtain ⟨j, hj, ej⟩ := drawn_lt h0 (by omega) (seedF (g 1 1))
    have hsd : r23 = seedF (g 1 1) := by rw [e23, hR.2.2.2.2.2.2.2.2.2.2.2.2.1]
    have e38' : r38 = nI j := by rw [e38, e6, e3, show (up M (gp k) 13 r23).1 (gp k) 13 = r23 from by simp [up], hsd, ej]
    clear e38
    subst e38'
    have hj31 : j < 2 ^ 31 := by omega
    have hR1 := hR.seed (s := r23)
    have hcd1 : CDm (up M (gp k) 13 r23) cd := hcd.off (S := blk k) (Off.up blk0) (fun p h1 h2 => blk_cd h1 h2)
    refine u_callVi (pc := 41) C d_G_drawOne_41 mx_G_nthIn mw_G_102 (shG0 hk) rfl (c_G_nthIn hk hR1 hcd1 hn hj31) rfl rfl (Nat.le_of_ble_eq_true rfl) (fun r41 M41 q41 => ?_)
    obtain ⟨e41, q41⟩ := q41
    have q41 := q41.symm
    subst q41
    refine u_iconst (pc := 44) (v := 1) C d_G_drawOne_44 (by decide) ?_
    refine u_callVv (pc := 45) C d_G_drawOne_45 mx_G_moveTo mw_G_77 (shG0 hk) rfl (c_G_moveTo hk) rfl rfl (Nat.le_of_ble_eq_true rfl) (fun M45 q45 => ?_)
    have q45 := q45.symm
    subst q45
    refine u_vret (pc := 48) C d_G_drawOne_48 (hQ _ _ ⟨rfl, ?_⟩)
    have e9 : atP cd n (up2 g 1 1 r23) p 0 = atP cd n g p 0 := atP_congr (fun c _ => by simp [up2])
    rw [e9] at e41
    rw [e41, nthR_lt hj]
    have hm := atP_mem.mp (getD_mem hj)
    have e8 : draw1 cd n p g = up2 (up2 g 1 1 r23) 3 ((atP cd n g p 0).getD j 0) 1 := by
      rw [draw1, if_neg (by omega), ← hsd]
      rw [hsd, ej, nI_clamp hj31]
    rw [e8]
    refine ⟨m + 1, hR1.mv (by omega), (Off.up blk0).trans mvF_off, ?_⟩
    refine mvd.mv (c := (atP cd n g p 0).getD j 0) (x := 1) hm.1 (by funext c; simp [up2]) ?_
    rw [hm.2.1]; decide
  · refine u_aload_n (pc := 11) C d_G_drawOne_11 rfl ?_
    refine u_iload_n (pc := 12) C d_G_drawOne_12 rfl ?_
    refine u_iconst (pc := 13) (v := (-1)) C d_G_drawOne_13 (by decide) ?_
    refine u_callVv (pc := 14) C d_G_drawOne_14 mx_G_changeLife mw_G_92 (shG0 hk) rfl (c_G_changeLife hk) rfl rfl (Nat.le_of_ble_eq_true rfl) (fun M14 q14 => ?_)
    have q14 := q14.symm
    subst q14
    refine u_vret (pc := 17) C d_G_drawOne_17 (hQ _ _ ⟨rfl, ?_⟩)
    have hl0 : (atP cd n g p 0).length = 0 := by
      have hl := atP_len (cd := cd) (n := n) (g := g) (p := p) (pl := 0)
      rcases Nat.eq_zero_or_pos (atP cd n g p 0).length with z | z
      · exact z
      · exact absurd (show (0 : Int32) < x6 by rw [e6, e3]; exact nI_lt (a := 0) z (by omega)) c8
    rw [draw1, if_pos hl0]
    exact ⟨m, hR.ch hp, chF_off, mvd.same (by funext c; simp [chg, up2]) (by simp [chg, up2]) (by funext c; simp [chg, up2])⟩
theorem RepG.of_rows {M M' : Mem} {k k2 n m : Nat} {g : Gm} {tb : List Nat} (r : RepG M k2 n g tb m) (ht : tb.length ≤ 24) (hb : ∀ d, d ∈ tb → d < 24) (hh : (g 1 4).toNatClampNeg ≤ 64)
    (h1 : ∀ b, b < 2 → M'.1 (gp k + 1) b = M.1 (gp k2 + 1) b) (h2 : ∀ b, b < 4 → M'.1 (gp k + 2) b = M.1 (gp k2 + 2) b) (h3 : ∀ b, b < 24 → M'.1 (gp k + 3) b = M.1 (gp k2 + 3) b) (h4 : ∀ b, b < 24 → M'.1 (gp k + 4) b = M.1 (gp k2 + 4) b) (h5 : ∀ b, b < 24 → M'.1 (gp k + 5) b = M.1 (gp k2 + 5) b) (h6 : ∀ b, b < 64 → M'.1 (gp k + 6) b = M.1 (gp k2 + 6) b)
    (h0 : ∀ b, 7 ≤ b → b ≤ 14 → M'.1 (gp k) b = M.1 (gp k2) b) : RepG M' k n g tb m := by
  obtain ⟨r1, r3, r4, r5, r6, r7, r8, r9, r10, r11, r12, r13, r14, r15⟩ := r
  refine ⟨⟨(h1 0 (by decide)).trans r1.1, (h1 1 (by decide)).trans r1.2⟩, fun v hv => (h2 v hv).trans (r3 v hv), fun c hc => (h3 c hc).trans (r4 c hc), fun c hc => (h4 c (hb c hc)).trans (r5 c hc), fun i hi => (h5 i (by omega)).trans (r6 i hi), fun i hi => (h6 i (by omega)).trans (r7 i hi), ?_⟩
  exact ⟨(h0 7 (by decide) (by decide)).trans r8, (h0 8 (by decide) (by decide)).trans r9, (h0 9 (by decide) (by decide)).trans r10, (h0 10 (by decide) (by decide)).trans r11, (h0 11 (by decide) (by decide)).trans r12, (h0 12 (by decide) (by decide)).trans r13, (h0 13 (by decide) (by decide)).trans r14, (h0 14 (by decide) (by decide)).trans r15⟩
set_option maxRecDepth 20000 in
theorem c_G_copyFrom {k k2 n m : Nat} {g : Gm} {tb : List Nat} {M : Mem} (hk : k < 6) (hk2 : k2 < 6) (hkk : k ≠ k2) (r : RepG M k2 n g tb m) (ht : tb.length ≤ 24) (hb : ∀ d, d ∈ tb → d < 24) (hh : (g 1 4).toNatClampNeg ≤ 64) : Ct lyC y_G_copyFrom b_G_copyFrom 2 none 2 [.ref (gp k), .ref (gp k2)] M (Pv fun M' => RepG M' k n g tb m ∧ Off (blk k) M M') := by
  refine Ct.ofG mx_G_copyFrom [some (.ref (gp k)), some (.ref (gp k2))] rfl rfl (Nat.le_of_ble_eq_true rfl) (fun κ C hQ => ?_)
  refine u_aload_n (pc := 0) C d_G_copyFrom_0 rfl ?_
  refine u_getr (pc := 1) (r := (gp k2 + 1)) C d_G_copyFrom_1 fw_G_9 (shG0 hk2) rfl (rf_G_1 hk2) ?_
  refine u_aload_n (pc := 4) C d_G_copyFrom_4 rfl ?_
  refine u_getr (pc := 5) (r := (gp k + 1)) C d_G_copyFrom_5 fw_G_9 (shG0 hk) rfl (rf_G_1 hk) ?_
  refine u_callSv (pc := 8) C d_G_copyFrom_8 mx_L_copyRow mw_G_38 (c_L_copyRow (shG1 hk2) (shG1 hk)) rfl rfl (Nat.le_of_ble_eq_true rfl) (fun M8 q8 => ?_)
  have q8 := q8
  refine u_aload_n (pc := 11) C d_G_copyFrom_11 rfl ?_
  refine u_getr (pc := 12) (r := (gp k2 + 2)) C d_G_copyFrom_12 fw_G_15 (shG0 hk2) rfl (rf_G_2 hk2) ?_
  refine u_aload_n (pc := 15) C d_G_copyFrom_15 rfl ?_
  refine u_getr (pc := 16) (r := (gp k + 2)) C d_G_copyFrom_16 fw_G_15 (shG0 hk) rfl (rf_G_2 hk) ?_
  refine u_callSv (pc := 19) C d_G_copyFrom_19 mx_L_copyRow mw_G_38 (c_L_copyRow (shG2 hk2) (shG2 hk)) rfl rfl (Nat.le_of_ble_eq_true rfl) (fun M19 q19 => ?_)
  have q19 := q19
  refine u_aload_n (pc := 22) C d_G_copyFrom_22 rfl ?_
  refine u_getr (pc := 23) (r := (gp k2 + 3)) C d_G_copyFrom_23 fw_G_18 (shG0 hk2) rfl (rf_G_3 hk2) ?_
  refine u_aload_n (pc := 26) C d_G_copyFrom_26 rfl ?_
  refine u_getr (pc := 27) (r := (gp k + 3)) C d_G_copyFrom_27 fw_G_18 (shG0 hk) rfl (rf_G_3 hk) ?_
  refine u_callSv (pc := 30) C d_G_copyFrom_30 mx_L_copyRow mw_G_38 (c_L_copyRow (shG3 hk2) (shG3 hk)) rfl rfl (Nat.le_of_ble_eq_true rfl) (fun M30 q30 => ?_)
  have q30 := q30
  refine u_aload_n (pc := 33) C d_G_copyFrom_33 rfl ?_
  refine u_getr (pc := 34) (r := (gp k2 + 4)) C d_G_copyFrom_34 fw_G_21 (shG0 hk2) rfl (rf_G_4 hk2) ?_
  refine u_aload_n (pc := 37) C d_G_copyFrom_37 rfl ?_
  refine u_getr (pc := 38) (r := (gp k + 4)) C d_G_copyFrom_38 fw_G_21 (shG0 hk) rfl (rf_G_4 hk) ?_
  refine u_callSv (pc := 41) C d_G_copyFrom_41 mx_L_copyRow mw_G_38 (c_L_copyRow (shG4 hk2) (shG4 hk)) rfl rfl (Nat.le_of_ble_eq_true rfl) (fun M41 q41 => ?_)
  have q41 := q41
  refine u_aload_n (pc := 44) C d_G_copyFrom_44 rfl ?_
  refine u_getr (pc := 45) (r := (gp k2 + 5)) C d_G_copyFrom_45 fw_G_24 (shG0 hk2) rfl (rf_G_5 hk2) ?_
  refine u_aload_n (pc := 48) C d_G_copyFrom_48 rfl ?_
  refine u_getr (pc := 49) (r := (gp k + 5)) C d_G_copyFrom_49 fw_G_24 (shG0 hk) rfl (rf_G_5 hk) ?_
  refine u_callSv (pc := 52) C d_G_copyFrom_52 mx_L_copyRow mw_G_38 (c_L_copyRow (shG5 hk2) (shG5 hk)) rfl rfl (Nat.le_of_ble_eq_true rfl) (fun M52 q52 => ?_)
  have q52 := q52
  refine u_aload_n (pc := 55) C d_G_copyFrom_55 rfl ?_
  refine u_getr (pc := 56) (r := (gp k2 + 6)) C d_G_copyFrom_56 fw_G_27 (shG0 hk2) rfl (rf_G_6 hk2) ?_
  refine u_aload_n (pc := 59) C d_G_copyFrom_59 rfl ?_
  refine u_getr (pc := 60) (r := (gp k + 6)) C d_G_copyFrom_60 fw_G_27 (shG0 hk) rfl (rf_G_6 hk) ?_
  refine u_callSv (pc := 63) C d_G_copyFrom_63 mx_L_copyRow mw_G_38 (c_L_copyRow (shG6 hk2) (shG6 hk)) rfl rfl (Nat.le_of_ble_eq_true rfl) (fun M63 q63 => ?_)
  have q63 := q63
  refine u_aload_n (pc := 66) C d_G_copyFrom_66 rfl ?_
  refine u_aload_n (pc := 67) C d_G_copyFrom_67 rfl ?_
  refine u_geti (pc := 68) C d_G_copyFrom_68 fw_G_42 (shG0 hk2) rfl ?_
  refine u_put (pc := 71) C d_G_copyFrom_71 fw_G_42 (shG0 hk) rfl (Or.inl rfl) ?_
  refine u_aload_n (pc := 74) C d_G_copyFrom_74 rfl ?_
  refine u_aload_n (pc := 75) C d_G_copyFrom_75 rfl ?_
  refine u_geti (pc := 76) C d_G_copyFrom_76 fw_G_45 (shG0 hk2) rfl ?_
  refine u_put (pc := 79) C d_G_copyFrom_79 fw_G_45 (shG0 hk) rfl (Or.inl rfl) ?_
  refine u_aload_n (pc := 82) C d_G_copyFrom_82 rfl ?_
  refine u_aload_n (pc := 83) C d_G_copyFrom_83 rfl ?_
  refine u_geti (pc := 84) C d_G_copyFrom_84 fw_G_48 (shG0 hk2) rfl ?_
  refine u_put (pc := 87) C d_G_copyFrom_87 fw_G_48 (shG0 hk) rfl (Or.inl rfl) ?_
  refine u_aload_n (pc := 90) C d_G_copyFrom_90 rfl ?_
  refine u_aload_n (pc := 91) C d_G_copyFrom_91 rfl ?_
  refine u_geti (pc := 92) C d_G_copyFrom_92 fw_G_51 (shG0 hk2) rfl ?_
  refine u_put (pc := 95) C d_G_copyFrom_95 fw_G_51 (shG0 hk) rfl (Or.inl rfl) ?_
  refine u_aload_n (pc := 98) C d_G_copyFrom_98 rfl ?_
  refine u_aload_n (pc := 99) C d_G_copyFrom_99 rfl ?_
  refine u_geti (pc := 100) C d_G_copyFrom_100 fw_G_54 (shG0 hk2) rfl ?_
  refine u_put (pc := 103) C d_G_copyFrom_103 fw_G_54 (shG0 hk) rfl (Or.inl rfl) ?_
  refine u_aload_n (pc := 106) C d_G_copyFrom_106 rfl ?_
  refine u_aload_n (pc := 107) C d_G_copyFrom_107 rfl ?_
  refine u_geti (pc := 108) C d_G_copyFrom_108 fw_G_57 (shG0 hk2) rfl ?_
  refine u_put (pc := 111) C d_G_copyFrom_111 fw_G_57 (shG0 hk) rfl (Or.inl rfl) ?_
  refine u_aload_n (pc := 114) C d_G_copyFrom_114 rfl ?_
  refine u_aload_n (pc := 115) C d_G_copyFrom_115 rfl ?_
  refine u_geti (pc := 116) C d_G_copyFrom_116 fw_G_30 (shG0 hk2) rfl ?_
  refine u_put (pc := 119) C d_G_copyFrom_119 fw_G_30 (shG0 hk) rfl (Or.inl rfl) ?_
  refine u_aload_n (pc := 122) C d_G_copyFrom_122 rfl ?_
  refine u_aload_n (pc := 123) C d_G_copyFrom_123 rfl ?_
  refine u_geti (pc := 124) C d_G_copyFrom_124 fw_G_60 (shG0 hk2) rfl ?_
  refine u_put (pc := 127) C d_G_copyFrom_127 fw_G_60 (shG0 hk) rfl (Or.inl rfl) ?_
  refine u_vret (pc := 130) C d_G_copyFrom_130 (hQ _ _ ⟨rfl, ?_⟩)
  have hne : ∀ i j, i < 7 → j < 7 → gp k2 + i ≠ gp k + j := by
    intro i j hi hj
    unfold gp
    omega
  have o8 : ∀ q, q ≠ gp k + 1 → M8.1 q = M.1 q := fun q h => by rw [q8]; exact cpr_ne h
  have o19 : ∀ q, q ≠ gp k + 2 → M19.1 q = M8.1 q := fun q h => by rw [q19]; exact cpr_ne h
  have o30 : ∀ q, q ≠ gp k + 3 → M30.1 q = M19.1 q := fun q h => by rw [q30]; exact cpr_ne h
  have o41 : ∀ q, q ≠ gp k + 4 → M41.1 q = M30.1 q := fun q h => by rw [q41]; exact cpr_ne h
  have o52 : ∀ q, q ≠ gp k + 5 → M52.1 q = M41.1 q := fun q h => by rw [q52]; exact cpr_ne h
  have o63 : ∀ q, q ≠ gp k + 6 → M63.1 q = M52.1 q := fun q h => by rw [q63]; exact cpr_ne h
  have s1 : M8.1 (gp k + 1) = (cpr M (gp k2 + 1) (gp k + 1) (min 2 2)).1 (gp k + 1) := by rw [q8]
  have z : ∀ j, j < 7 → M63.1 (gp k2 + j) = M.1 (gp k2 + j) := fun j hj => by
    rw [o63 _ (hne j 6 hj (by decide)), o52 _ (hne j 5 hj (by decide)), o41 _ (hne j 4 hj (by decide)), o30 _ (hne j 3 hj (by decide)), o19 _ (hne j 2 hj (by decide)), o8 _ (hne j 1 hj (by decide))]
  have z0 : M63.1 (gp k2) = M.1 (gp k2) := z 0 (by decide)
  have hk0 : ∀ j, j < 7 → gp k2 + j ≠ gp k := fun j hj => hne j 0 hj (by decide)
  have hk00 : gp k2 ≠ gp k := hk0 0 (by decide)
  refine ⟨?_, ?_⟩
  · refine r.of_rows ht hb hh (fun b hb => ?_) (fun b hb => ?_) (fun b hb => ?_) (fun b hb => ?_) (fun b hb => ?_) (fun b hb => ?_) (fun b h7 h14 => ?_)
    · simp only [up_ne (show gp k + 1 ≠ gp k by omega)]
      rw [o63 _ (by omega), o52 _ (by omega), o41 _ (by omega), o30 _ (by omega), o19 _ (by omega), q8, cpr_in (by omega)]
    · simp only [up_ne (show gp k + 2 ≠ gp k by omega)]
      rw [o63 _ (by omega), o52 _ (by omega), o41 _ (by omega), o30 _ (by omega), q19, cpr_in (by omega), o8 _ (hne 2 1 (by decide) (by decide))]
    · simp only [up_ne (show gp k + 3 ≠ gp k by omega)]
      rw [o63 _ (by omega), o52 _ (by omega), o41 _ (by omega), q30, cpr_in (by omega), o19 _ (hne 3 2 (by decide) (by decide)), o8 _ (hne 3 1 (by decide) (by decide))]
    · simp only [up_ne (show gp k + 4 ≠ gp k by omega)]
      rw [o63 _ (by omega), o52 _ (by omega), q41, cpr_in (by omega), o30 _ (hne 4 3 (by decide) (by decide)), o19 _ (hne 4 2 (by decide) (by decide)), o8 _ (hne 4 1 (by decide) (by decide))]
    · simp only [up_ne (show gp k + 5 ≠ gp k by omega)]
      rw [o63 _ (by omega), q52, cpr_in (by omega), o41 _ (hne 5 4 (by decide) (by decide)), o30 _ (hne 5 3 (by decide) (by decide)), o19 _ (hne 5 2 (by decide) (by decide)), o8 _ (hne 5 1 (by decide) (by decide))]
    · simp only [up_ne (show gp k + 6 ≠ gp k by omega)]
      rw [q63, cpr_in (by omega), o52 _ (hne 6 5 (by decide) (by decide)), o41 _ (hne 6 4 (by decide) (by decide)), o30 _ (hne 6 3 (by decide) (by decide)), o19 _ (hne 6 2 (by decide) (by decide)), o8 _ (hne 6 1 (by decide) (by decide))]
    · rcases (show b = 7 ∨ b = 8 ∨ b = 9 ∨ b = 10 ∨ b = 11 ∨ b = 12 ∨ b = 13 ∨ b = 14 by omega) with rfl | rfl | rfl | rfl | rfl | rfl | rfl | rfl <;> simp [up, hk00, z0]
  · have c8 : Off (blk k) M M8 := by rw [q8]; exact cpr_off (blkj 1 (by decide))
    have c19 : Off (blk k) M8 M19 := by rw [q19]; exact cpr_off (blkj 2 (by decide))
    have c30 : Off (blk k) M19 M30 := by rw [q30]; exact cpr_off (blkj 3 (by decide))
    have c41 : Off (blk k) M30 M41 := by rw [q41]; exact cpr_off (blkj 4 (by decide))
    have c52 : Off (blk k) M41 M52 := by rw [q52]; exact cpr_off (blkj 5 (by decide))
    have c63 : Off (blk k) M52 M63 := by rw [q63]; exact cpr_off (blkj 6 (by decide))
    exact (((((((((((((c8.trans c19).trans c30).trans c41).trans c52).trans c63).trans (Off.up blk0)).trans (Off.up blk0)).trans (Off.up blk0)).trans (Off.up blk0)).trans (Off.up blk0)).trans (Off.up blk0)).trans (Off.up blk0)).trans (Off.up blk0))
def wrF (M : Mem) (c k p vw a : Int32) : Mem := putF (putF (putF (putF (putF M 1 24 c k) 2 24 c p) 3 24 c (vw / 10)) 4 24 c (remF vw 10)) 5 24 c a
set_option maxRecDepth 20000 in
theorem c_K_write {c k p vw a : Int32} {M : Mem} : Ct lyC y_K_write b_K_write 6 none 1 [.ref 0, .int c, .int k, .int p, .int vw, .int a] M (Pv fun M' => M' = wrF M c k p vw a) := by
  refine Ct.ofG mx_K_write [some (.ref 0), some (.int c), some (.int k), some (.int p), some (.int vw), some (.int a)] rfl rfl (Nat.le_of_ble_eq_true rfl) (fun κ C hQ => ?_)
  refine u_aload_n (pc := 0) C d_K_write_0 rfl ?_
  refine u_getr (pc := 1) (r := 1) C d_K_write_1 fw_K_9 sC_0 rfl rfl ?_
  refine u_iload_n (pc := 4) C d_K_write_4 rfl ?_
  refine u_iload_n (pc := 5) C d_K_write_5 rfl ?_
  refine u_callSv (pc := 6) C d_K_write_6 mx_L_put mw_K_27 (c_L_put sC_1) rfl rfl (Nat.le_of_ble_eq_true rfl) (fun M6 q6 => ?_)
  have q6 := q6.symm
  subst q6
  refine u_aload_n (pc := 9) C d_K_write_9 rfl ?_
  refine u_getr (pc := 10) (r := 2) C d_K_write_10 fw_K_15 sC_0 rfl rfl ?_
  refine u_iload_n (pc := 13) C d_K_write_13 rfl ?_
  refine u_iload_n (pc := 14) C d_K_write_14 rfl ?_
  refine u_callSv (pc := 15) C d_K_write_15 mx_L_put mw_K_27 (c_L_put sC_2) rfl rfl (Nat.le_of_ble_eq_true rfl) (fun M15 q15 => ?_)
  have q15 := q15.symm
  subst q15
  refine u_aload_n (pc := 18) C d_K_write_18 rfl ?_
  refine u_getr (pc := 19) (r := 3) C d_K_write_19 fw_K_18 sC_0 rfl rfl ?_
  refine u_iload_n (pc := 22) C d_K_write_22 rfl ?_
  refine u_iload (pc := 23) C d_K_write_23 rfl ?_
  refine u_bipush (pc := 25) (v := 10) C d_K_write_25 (by decide) ?_
  refine u_idiv (pc := 27) C d_K_write_27 (by decide) ?_
  refine u_callSv (pc := 28) C d_K_write_28 mx_L_put mw_K_27 (c_L_put sC_3) rfl rfl (Nat.le_of_ble_eq_true rfl) (fun M28 q28 => ?_)
  have q28 := q28.symm
  subst q28
  refine u_aload_n (pc := 31) C d_K_write_31 rfl ?_
  refine u_getr (pc := 32) (r := 4) C d_K_write_32 fw_K_21 sC_0 rfl rfl ?_
  refine u_iload_n (pc := 35) C d_K_write_35 rfl ?_
  refine u_iload (pc := 36) C d_K_write_36 rfl ?_
  refine u_bipush (pc := 38) (v := 10) C d_K_write_38 (by decide) ?_
  refine u_irem (pc := 40) C d_K_write_40 (by decide) ?_
  refine u_callSv (pc := 41) C d_K_write_41 mx_L_put mw_K_27 (c_L_put sC_4) rfl rfl (Nat.le_of_ble_eq_true rfl) (fun M41 q41 => ?_)
  have q41 := q41.symm
  subst q41
  refine u_aload_n (pc := 44) C d_K_write_44 rfl ?_
  refine u_getr (pc := 45) (r := 5) C d_K_write_45 fw_K_24 sC_0 rfl rfl ?_
  refine u_iload_n (pc := 48) C d_K_write_48 rfl ?_
  refine u_iload (pc := 49) C d_K_write_49 rfl ?_
  refine u_callSv (pc := 51) C d_K_write_51 mx_L_put mw_K_27 (c_L_put sC_5) rfl rfl (Nat.le_of_ble_eq_true rfl) (fun M51 q51 => ?_)
  have q51 := q51.symm
  subst q51
  refine u_vret (pc := 54) C d_K_write_54 (hQ _ _ ⟨rfl, ?_⟩)
  rfl
def cdU (cd : Nat → Nat → Int32) (n : Nat) (k p v w a : Int32) : Nat → Nat → Int32 := fun i => if i = 0 then upd (cd 0) n k else if i = 1 then upd (cd 1) n p else if i = 2 then upd (cd 2) n v else if i = 3 then upd (cd 3) n w else if i = 4 then upd (cd 4) n a else cd i
def cdS (p : Nat) : Prop := 1 ≤ p ∧ p ≤ 5
theorem up_row {M : Mem} {p j : Nat} {x : Int32} : (up M p j x).1 p = upd (M.1 p) j x := by
  funext b
  simp [up, upd]
theorem wrF_cd {M : Mem} {cd : Nat → Nat → Int32} {c : Nat} {k p vw a : Int32} (h : CDm M cd) (hc : c < 24) : CDm (wrF M (nI c) k p vw a) (cdU cd c k p (vw / 10) (remF vw 10) a) ∧ Off cdS M (wrF M (nI c) k p vw a) := by
  obtain ⟨h1, h2, h3, h4, h5⟩ := h
  unfold wrF
  rw [putF_in hc (by decide), putF_in hc (by decide), putF_in hc (by decide), putF_in hc (by decide), putF_in hc (by decide)]
  refine ⟨⟨?_, ?_, ?_, ?_, ?_⟩, ?_⟩
  · rw [up_ne (by decide), up_ne (by decide), up_ne (by decide), up_ne (by decide), up_row, h1]; rfl
  · rw [up_ne (by decide), up_ne (by decide), up_ne (by decide), up_row, up_ne (by decide), h2]; rfl
  · rw [up_ne (by decide), up_ne (by decide), up_row, up_ne (by decide), up_ne (by decide), h3]; rfl
  · rw [up_ne (by decide), up_row, up_ne (by decide), up_ne (by decide), up_ne (by decide), h4]; rfl
  · rw [up_row, up_ne (by decide), up_ne (by decide), up_ne (by decide), up_ne (by decide), h5]; rfl
  · exact ((((Off.up ⟨by decide, by decide⟩).trans (Off.up ⟨by decide, by decide⟩)).trans (Off.up ⟨by decide, by decide⟩)).trans (Off.up ⟨by decide, by decide⟩)).trans (Off.up ⟨by decide, by decide⟩)
set_option maxRecDepth 20000 in
theorem c_G_addCard {k n m : Nat} {g : Gm} {tb : List Nat} {cd : Nat → Nat → Int32} {M : Mem} (hk : k < 6) {a b vw c : Int32} (hR : RepG M k n g tb m) (hcd : CDm M cd) (hn : n < 24) : Ct lyC y_G_addCard b_G_addCard 6 (some .int) 2 [.ref (gp k), .int a, .int b, .int vw, .int c] M (Pi fun r M' => r = nI n ∧ RepG M' k (n + 1) (up2 g 3 n 0) tb m ∧ CDm M' (cdU cd n a b (vw / 10) (remF vw 10) c) ∧ Off (fun p => blk k p ∨ cdS p) M M') := by
  refine Ct.ofG mx_G_addCard [some (.ref (gp k)), some (.int a), some (.int b), some (.int vw), some (.int c), none] rfl rfl (Nat.le_of_ble_eq_true rfl) (fun κ C hQ => ?_)
  refine u_aload_n (pc := 0) C d_G_addCard_0 rfl ?_
  refine u_geti (pc := 1) C d_G_addCard_1 fw_G_42 (shG0 hk) rfl ?_
  refine u_istore (pc := 4) C d_G_addCard_4 rfl (fun x4 e4 L9 hL9 => ?_)
  obtain rfl : L9 = [some (.ref (gp k)), some (.int a), some (.int b), some (.int vw), some (.int c), some (.int x4)] := hL9.symm
  refine u_aload_n (pc := 6) C d_G_addCard_6 rfl ?_
  refine u_getr (pc := 7) (r := 0) C d_G_addCard_7 fw_G_34 (shG0 hk) rfl (rf_G_0 hk) ?_
  refine u_iload (pc := 10) C d_G_addCard_10 rfl ?_
  refine u_iload_n (pc := 12) C d_G_addCard_12 rfl ?_
  refine u_iload_n (pc := 13) C d_G_addCard_13 rfl ?_
  refine u_iload_n (pc := 14) C d_G_addCard_14 rfl ?_
  refine u_iload (pc := 15) C d_G_addCard_15 rfl ?_
  refine u_callVv (pc := 17) C d_G_addCard_17 mx_K_write mw_G_63 sC_0 rfl (c_K_write) rfl rfl (Nat.le_of_ble_eq_true rfl) (fun M17 q17 => ?_)
  have q17 := q17.symm
  subst q17
  refine u_aload_n (pc := 20) C d_G_addCard_20 rfl ?_
  refine u_getr (pc := 21) (r := (gp k + 3)) C d_G_addCard_21 fw_G_18 (shG0 hk) rfl (rf_G_3 hk) ?_
  refine u_iload (pc := 24) C d_G_addCard_24 rfl ?_
  refine u_iconst (pc := 26) (v := 0) C d_G_addCard_26 (by decide) ?_
  refine u_callSv (pc := 27) C d_G_addCard_27 mx_L_put mw_G_69 (c_L_put (shG3 hk)) rfl rfl (Nat.le_of_ble_eq_true rfl) (fun M27 q27 => ?_)
  have q27 := q27.symm
  subst q27
  refine u_aload_n (pc := 30) C d_G_addCard_30 rfl ?_
  refine u_dup (pc := 31) C d_G_addCard_31 rfl ?_
  refine u_geti (pc := 32) C d_G_addCard_32 fw_G_42 (shG0 hk) rfl ?_
  refine u_iconst (pc := 35) (v := 1) C d_G_addCard_35 (by decide) ?_
  refine u_iadd (pc := 36) C d_G_addCard_36 ?_
  refine u_put (pc := 37) C d_G_addCard_37 fw_G_42 (shG0 hk) rfl (Or.inl rfl) ?_
  refine u_iload (pc := 40) C d_G_addCard_40 rfl ?_
  refine u_iret (pc := 42) C d_G_addCard_42 (hQ _ _ ⟨_, rfl, ?_⟩)
  rw [hR.2.2.2.2.2.2.1] at e4
  subst e4
  obtain ⟨w1, w2⟩ := wrF_cd (k := a) (p := b) (vw := vw) (a := c) hcd hn
  have hR1 : RepG (wrF M (nI n) a b vw c) k n g tb m := hR.off w2 (fun p q z => blk_cd q.1 q.2 z)
  have o2 : Off (blk k) (wrF M (nI n) a b vw c) (up (putF (wrF M (nI n) a b vw c) (gp k + 3) 24 (nI n) 0) (gp k) 7 ((putF (wrF M (nI n) a b vw c) (gp k + 3) 24 (nI n) 0).1 (gp k) 7 + 1)) := (Off.put (blkj 3 (by decide))).trans (Off.up blk0)
  refine ⟨rfl, ?_, w1.off o2 (fun p h1 h2 => blk_cd h1 h2), (w2.mono (fun p h => Or.inr h)).trans (o2.mono (fun p h => Or.inl h))⟩
  obtain ⟨r1, r3, r4, r5, r6, r7, r8, r9, r10, r11, r12, r13, r14, r15⟩ := hR1
  rw [putF_in hn (by decide)]
  refine ⟨by simpa [up, up2] using r1, by simpa [up, up2] using r3, fun d hd => ?_, by simpa [up, up2] using r5, by simpa [up, up2] using r6, by simpa [up, up2] using r7, by simp [up, r8, nI_succ], by simpa [up] using r9, by simpa [up, up2] using r10, by simpa [up, up2] using r11, by simpa [up, up2] using r12, by simpa [up, up2] using r13, by simpa [up, up2] using r14, by simpa [up, up2] using r15⟩
  by_cases e : d = n
  · subst e; simp [up, up2]
  · simpa [up, up2, e] using r4 d hd
