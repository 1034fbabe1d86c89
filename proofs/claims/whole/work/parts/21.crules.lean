/-! the class's rules: shadows, events that happen -/
def HB (g : Gm) : Prop := ∃ h, h ≤ 64 ∧ g 1 4 = nI h
theorem WFg.hb {cd : Nat → Nat → Int32} {n : Nat} {g : Gm} {tb : List Nat} (h : WFg cd n g tb) : HB g := by
  obtain ⟨-, -, -, ⟨hh, b1, b2, -⟩, -⟩ := h
  exact ⟨hh, b1, b2⟩
theorem psh_def {g : Gm} {x : Int32} : psh g x = if g 1 4 < 64 then up2 (up2 g 2 (g 1 4).toNatClampNeg x) 1 4 (g 1 4 + 1) else g := rfl
theorem HB.psh {g : Gm} {x : Int32} (h : HB g) : HB (psh g x) := by
  obtain ⟨hh, b1, b2⟩ := h
  rw [psh_def]
  split
  · rename_i hl
    have : hh < 64 := (nI_ltI (b := 64) (by omega) (by omega)).mp (by rw [← b2]; exact hl)
    exact ⟨hh + 1, by omega, by rw [up2_e, b2, nI_succ]⟩
  · exact ⟨hh, b1, b2⟩
theorem psh_s {g : Gm} {x : Int32} {s : Nat} (h1 : s ≠ 1) (h2 : s ≠ 2) : (psh g x) s = g s := by
  unfold psh
  split
  · rw [up2_s h1, up2_s h2]
  · rfl
theorem psh_1 {g : Gm} {x : Int32} {j : Nat} (h : j ≠ 4) : (psh g x) 1 j = g 1 j := by
  unfold psh
  split
  · rw [up2_n h, up2_s (by decide)]
  · rfl
theorem fold_psh {α : Type} {f : α → Int32} : ∀ (l : List α) (g : Gm), HB g → HB (l.foldl (fun g c => psh g (f c)) g) ∧ (∀ s, s ≠ 1 → s ≠ 2 → (l.foldl (fun g c => psh g (f c)) g) s = g s) ∧ ∀ j, j ≠ 4 → (l.foldl (fun g c => psh g (f c)) g) 1 j = g 1 j := by
  intro l
  induction l with
  | nil => intro g h; exact ⟨h, fun _ _ _ => rfl, fun _ _ => rfl⟩
  | cons a l ih =>
    intro g h
    obtain ⟨i1, i2, i3⟩ := ih (psh g (f a)) h.psh
    exact ⟨i1, fun s h1 h2 => (i2 s h1 h2).trans (psh_s h1 h2), fun j hj => (i3 j hj).trans (psh_1 hj)⟩
theorem max0 (a : Int32) : (if 0 < a then a else 0) = if a < 0 then 0 else a := by
  by_cases h1 : 0 < a
  · rw [if_pos h1, if_neg (fun q => Int32.lt_irrefl (Int32.lt_trans h1 q))]
  · by_cases h2 : a < 0
    · rw [if_neg h1, if_pos h2]
    · rw [if_neg h1, if_neg h2]
      exact (Int32.le_antisymm (Int32.not_lt.mp h1) (Int32.not_lt.mp h2)).symm
set_option maxRecDepth 20000 in
theorem lp_cs {κ : KX} {k n m : Nat} {g : Gm} {tb : List Nat} {cd : Nat → Nat → Int32} {M : Mem} {t : Int32} (hk : k < 6) (hW : WFg cd n g tb) (hcd : CDm M cd) (hR : RepG M k n g tb m) (ht : M.1 (ep 1) 1 = t) (C : Cx κ lyC y_R_castShadows.cls b_R_castShadows 7 none 2) (hQ : ∀ v M', Pv (fun M' => RepG M' k n (echo cd tb t g) tb m ∧ Off (blk k) M M') v M' → KQ κ v M') : ∀ (f i : Nat) (M1 : Mem) (g1 : Gm), i ≤ tb.length → tb.length - i < f → Off (blk k) M M1 → RepG M1 k n g1 tb m → HB g1 → g1 = ((tb.take i).filter (fun c => decide (cd 0 c = 14) && decide (cd 2 c = t))).foldl (fun g c => psh g (shdw cd c)) g → G κ lyC 2 [some (.ref 75), some (.ref (gp k)), some (.int (nI i)), none, none, none, none] [] M1 := by
  obtain ⟨htl, hbn, hb24⟩ := hW.tl
  intro f
  induction f with
  | zero => intro i _ _ _ h; omega
  | succ f ih =>
    intro i M1 g1 hi hf ho hR1 hB1 hg1
    have hcd1 : CDm M1 cd := hcd.off ho (fun p h1 h2 => blk_cd h1 h2)
    have r9 := hR1.2.2.2.2.2.2.2.1
    have hin : nI tb.length ≤ nI i ↔ tb.length ≤ i := nI_leI (by omega) (by omega)
    have hty : M1.1 (ep 1) 1 = t := by rw [(ho (ep 1) (e_g (b := 1) hk (Or.inl rfl))).1]; exact ht
    obtain ⟨hh, hh1, hh2⟩ := hB1
    refine u_iload_n (pc := 2) C d_R_castShadows_2 rfl ?_
    refine u_aload_n (pc := 3) C d_R_castShadows_3 rfl ?_
    refine u_geti (pc := 4) C d_R_castShadows_4 fw_R_132 (shG0 hk) rfl ?_
    refine u_icmp_ge (pc := 7) (tgt := 143) C d_R_castShadows_7 rfl (fun c7 => ?_) (fun c7 => ?_)
    · refine u_vret (pc := 143) C d_R_castShadows_143 (hQ _ _ ⟨rfl, ?_⟩)
      have hi2 : i = tb.length := by rw [r9, hin] at c7; omega
      subst hi2
      rw [List.take_length] at hg1
      subst hg1
      exact ⟨hR1, ho⟩
    · refine u_aload_n (pc := 10) C d_R_castShadows_10 rfl ?_
      refine u_getr (pc := 11) (r := (gp k + 5)) C d_R_castShadows_11 fw_R_135 (shG0 hk) rfl (rf_G_5 hk) ?_
      refine u_iload_n (pc := 14) C d_R_castShadows_14 rfl ?_
      refine u_callSi (pc := 15) C d_R_castShadows_15 mx_L_at mw_R_97 (c_L_at (shG5 hk)) rfl rfl (Nat.le_of_ble_eq_true rfl) (fun r15 M15 q15 => ?_)
      obtain ⟨e15, q15⟩ := q15
      have q15 := q15.symm
      subst q15
      refine u_istore_n (pc := 18) C d_R_castShadows_18 rfl (fun x18 e18 L9 hL9 => ?_)
      obtain rfl : L9 = [some (.ref 75), some (.ref (gp k)), some (.int (nI i)), some (.int x18), none, none, none] := hL9.symm
      have hlt : i < tb.length := by rw [r9, hin] at c7; omega
      rw [atF_in (by omega) (by decide), hR1.2.2.2.2.1 i hlt] at e15
      rw [e15] at e18
      subst e18
      have hc24 := hb24 _ (getD_mem hlt)
      refine u_aload_n (pc := 19) C d_R_castShadows_19 rfl ?_
      refine u_getr (pc := 20) (r := 0) C d_R_castShadows_20 fw_R_18 sC_75 rfl rfl ?_
      refine u_getr (pc := 23) (r := 1) C d_R_castShadows_23 fw_R_91 sC_0 rfl rfl ?_
      refine u_iload_n (pc := 26) C d_R_castShadows_26 rfl ?_
      refine u_callSi (pc := 27) C d_R_castShadows_27 mx_L_at mw_R_97 (c_L_at sC_1) rfl rfl (Nat.le_of_ble_eq_true rfl) (fun r27 M27 q27 => ?_)
      obtain ⟨e27, q27⟩ := q27
      have q27 := q27.symm
      subst q27
      refine u_bipush (pc := 30) (v := 14) C d_R_castShadows_30 (by decide) ?_
      refine u_icmp_ne (pc := 32) (tgt := 137) C d_R_castShadows_32 rfl (fun c32 => ?_) (fun c32 => ?_)
      · refine u_iinc (pc := 137) (v2 := 1) C d_R_castShadows_137 rfl rfl (by decide) (fun x137 e137 L9 hL9 => ?_)
        obtain rfl : L9 = [some (.ref 75), some (.ref (gp k)), some (.int x137), some (.int (nI (tb.getD i 0))), none, none, none] := hL9.symm
        refine u_goto (pc := 140) (tgt := 2) C d_R_castShadows_140 rfl ?_
        obtain rfl : x137 = nI (i + 1) := by rw [e137, nI_succ]
        refine u_drop 3 rfl ?_
        refine u_drop 4 rfl ?_
        refine u_drop 5 rfl ?_
        refine u_drop 6 rfl ?_
        rw [(at_cd hcd1 hc24).1] at e27
        have hP : ¬ (decide (cd 0 (tb.getD i 0) = 14) && decide (cd 2 (tb.getD i 0) = t)) = true := by
          rw [Bool.and_eq_true, decide_eq_true_eq, decide_eq_true_eq]
          rintro ⟨q1, q2⟩
          exact c32 (by rw [e27]; exact q1)
        have h9 := take_f (f := fun c => decide (cd 0 c = 14) && decide (cd 2 c = t)) hlt
        rw [if_neg hP, List.append_nil] at h9
        exact ih (i + 1) _ g1 (by omega) (by omega) ho hR1 ⟨hh, hh1, hh2⟩ (by rw [h9]; exact hg1)
      · refine u_aload_n (pc := 35) C d_R_castShadows_35 rfl ?_
        refine u_getr (pc := 36) (r := 0) C d_R_castShadows_36 fw_R_18 sC_75 rfl rfl ?_
        refine u_getr (pc := 39) (r := 3) C d_R_castShadows_39 fw_R_174 sC_0 rfl rfl ?_
        refine u_iload_n (pc := 42) C d_R_castShadows_42 rfl ?_
        refine u_callSi (pc := 43) C d_R_castShadows_43 mx_L_at mw_R_97 (c_L_at sC_3) rfl rfl (Nat.le_of_ble_eq_true rfl) (fun r43 M43 q43 => ?_)
        obtain ⟨e43, q43⟩ := q43
        have q43 := q43.symm
        subst q43
        refine u_aload_n (pc := 46) C d_R_castShadows_46 rfl ?_
        refine u_getr (pc := 47) (r := (ep 1)) C d_R_castShadows_47 fw_R_34 sC_75 rfl rfl ?_
        refine u_geti (pc := 50) C d_R_castShadows_50 fw_R_156 (shE0 (by decide)) rfl ?_
        refine u_icmp_eq (pc := 53) (tgt := 59) C d_R_castShadows_53 rfl (fun c53 => ?_) (fun c53 => ?_)
        · refine u_aload_n (pc := 59) C d_R_castShadows_59 rfl ?_
          refine u_getr (pc := 60) (r := 0) C d_R_castShadows_60 fw_R_18 sC_75 rfl rfl ?_
          refine u_getr (pc := 63) (r := 5) C d_R_castShadows_63 fw_R_125 sC_0 rfl rfl ?_
          refine u_iload_n (pc := 66) C d_R_castShadows_66 rfl ?_
          refine u_callSi (pc := 67) C d_R_castShadows_67 mx_L_at mw_R_97 (c_L_at sC_5) rfl rfl (Nat.le_of_ble_eq_true rfl) (fun r67 M67 q67 => ?_)
          obtain ⟨e67, q67⟩ := q67
          have q67 := q67.symm
          subst q67
          refine u_istore (pc := 70) C d_R_castShadows_70 rfl (fun x70 e70 L9 hL9 => ?_)
          obtain rfl : L9 = [some (.ref 75), some (.ref (gp k)), some (.int (nI i)), some (.int (nI (tb.getD i 0))), some (.int x70), none, none] := hL9.symm
          refine u_aload_n (pc := 72) C d_R_castShadows_72 rfl ?_
          refine u_getr (pc := 73) (r := 0) C d_R_castShadows_73 fw_R_18 sC_75 rfl rfl ?_
          refine u_getr (pc := 76) (r := 2) C d_R_castShadows_76 fw_R_115 sC_0 rfl rfl ?_
          refine u_iload_n (pc := 79) C d_R_castShadows_79 rfl ?_
          refine u_callSi (pc := 80) C d_R_castShadows_80 mx_L_at mw_R_97 (c_L_at sC_2) rfl rfl (Nat.le_of_ble_eq_true rfl) (fun r80 M80 q80 => ?_)
          obtain ⟨e80, q80⟩ := q80
          have q80 := q80.symm
          subst q80
          refine u_istore (pc := 83) C d_R_castShadows_83 rfl (fun x83 e83 L9 hL9 => ?_)
          obtain rfl : L9 = [some (.ref 75), some (.ref (gp k)), some (.int (nI i)), some (.int (nI (tb.getD i 0))), some (.int x70), some (.int x83), none] := hL9.symm
          refine u_iload (pc := 85) C d_R_castShadows_85 rfl ?_
          refine u_iconst (pc := 87) (v := 1) C d_R_castShadows_87 (by decide) ?_
          refine u_iand (pc := 88) C d_R_castShadows_88 ?_
          refine u_iconst (pc := 89) (v := 1) C d_R_castShadows_89 (by decide) ?_
          refine u_icmp_ne (pc := 90) (tgt := 98) C d_R_castShadows_90 rfl (fun c90 => ?_) (fun c90 => ?_)
          · refine u_iconst (pc := 98) (v := 1) C d_R_castShadows_98 (by decide) ?_
            refine u_iload (pc := 99) C d_R_castShadows_99 rfl ?_
            refine u_isub (pc := 101) C d_R_castShadows_101 ?_
            refine u_istore (pc := 102) C d_R_castShadows_102 rfl (fun x102 e102 L9 hL9 => ?_)
            obtain rfl : L9 = [some (.ref 75), some (.ref (gp k)), some (.int (nI i)), some (.int (nI (tb.getD i 0))), some (.int x70), some (.int x83), some (.int x102)] := hL9.symm
            refine u_aload_n (pc := 104) C d_R_castShadows_104 rfl ?_
            refine u_sipush (pc := 105) (v := 10000) C d_R_castShadows_105 (by decide) ?_
            refine u_aload_n (pc := 108) C d_R_castShadows_108 rfl ?_
            refine u_getr (pc := 109) (r := 0) C d_R_castShadows_109 fw_R_18 sC_75 rfl rfl ?_
            refine u_getr (pc := 112) (r := 4) C d_R_castShadows_112 fw_R_177 sC_0 rfl rfl ?_
            refine u_iload_n (pc := 115) C d_R_castShadows_115 rfl ?_
            refine u_callSi (pc := 116) C d_R_castShadows_116 mx_L_at mw_R_97 (c_L_at sC_4) rfl rfl (Nat.le_of_ble_eq_true rfl) (fun r116 M116 q116 => ?_)
            obtain ⟨e116, q116⟩ := q116
            have q116 := q116.symm
            subst q116
            refine u_iconst (pc := 119) (v := 3) C d_R_castShadows_119 (by decide) ?_
            refine u_irem (pc := 120) C d_R_castShadows_120 (by decide) ?_
            refine u_iload (pc := 121) C d_R_castShadows_121 rfl ?_
            refine u_iconst (pc := 123) (v := 0) C d_R_castShadows_123 (by decide) ?_
            refine u_iload (pc := 124) C d_R_castShadows_124 rfl ?_
            refine u_mmax (pc := 126) C d_R_castShadows_126 mm_R_180 mm_max_s mm_i mm_max_c (Nat.le_of_ble_eq_true rfl) (by decide) ?_
            refine u_callSi (pc := 129) C d_R_castShadows_129 mx_L_codeOf mw_R_186 (c_L_codeOf) rfl rfl (Nat.le_of_ble_eq_true rfl) (fun r129 M129 q129 => ?_)
            obtain ⟨e129, q129⟩ := q129
            have q129 := q129.symm
            subst q129
            refine u_iadd (pc := 132) C d_R_castShadows_132 ?_
            refine u_callVi (pc := 133) C d_R_castShadows_133 mx_G_push mw_R_190 (shG0 hk) rfl (c_G_push hk) rfl rfl (Nat.le_of_ble_eq_true rfl) (fun r133 M133 q133 => ?_)
            obtain ⟨e133, q133⟩ := q133
            have q133 := q133.symm
            subst q133
            refine u_pop (pc := 136) C d_R_castShadows_136 rfl ?_
            refine u_iinc (pc := 137) (v2 := 1) C d_R_castShadows_137 rfl rfl (by decide) (fun x137 e137 L9 hL9 => ?_)
            obtain rfl : L9 = [some (.ref 75), some (.ref (gp k)), some (.int x137), some (.int (nI (tb.getD i 0))), some (.int x70), some (.int x83), some (.int x102)] := hL9.symm
            refine u_goto (pc := 140) (tgt := 2) C d_R_castShadows_140 rfl ?_
            obtain rfl : x137 = nI (i + 1) := by rw [e137, nI_succ]
            refine u_drop 3 rfl ?_
            refine u_drop 4 rfl ?_
            refine u_drop 5 rfl ?_
            refine u_drop 6 rfl ?_
            rw [(at_cd hcd1 hc24).1] at e27
            rw [(at_cd hcd1 hc24).2.2.1] at e43
            rw [e43, hty] at c53
            rw [(at_cd hcd1 hc24).2.2.2.2] at e67
            rw [(at_cd hcd1 hc24).2.1] at e80
            rw [(at_cd hcd1 hc24).2.2.2.1] at e116
            have hP : (decide (cd 0 (tb.getD i 0) = 14) && decide (cd 2 (tb.getD i 0) = t)) = true := by
              rw [Bool.and_eq_true, decide_eq_true_eq, decide_eq_true_eq]
              exact ⟨by rw [← e27]; exact c32, c53⟩
            have hx : 10000 + r129 = shdw cd (tb.getD i 0) := by
              rw [e129, e116, e102, e70, e83, e67, e80, max0, shdw]
              rw [e70, e67] at c90
              rw [if_neg c90]
              rfl
            rw [hx]
            have h9 := take_f (f := fun c => decide (cd 0 c = 14) && decide (cd 2 c = t)) hlt
            rw [if_pos hP] at h9
            exact ih (i + 1) _ (psh g1 (shdw cd (tb.getD i 0))) (by omega) (by omega) (ho.trans pushF_off) (hR1.push hh2 hh1) (HB.psh ⟨hh, hh1, hh2⟩) (by rw [h9, List.foldl_append, ← hg1]; rfl)
          · refine u_iload (pc := 93) C d_R_castShadows_93 rfl ?_
            refine u_goto (pc := 95) (tgt := 102) C d_R_castShadows_95 rfl ?_
            refine u_istore (pc := 102) C d_R_castShadows_102 rfl (fun x102 e102 L9 hL9 => ?_)
            obtain rfl : L9 = [some (.ref 75), some (.ref (gp k)), some (.int (nI i)), some (.int (nI (tb.getD i 0))), some (.int x70), some (.int x83), some (.int x102)] := hL9.symm
            refine u_aload_n (pc := 104) C d_R_castShadows_104 rfl ?_
            refine u_sipush (pc := 105) (v := 10000) C d_R_castShadows_105 (by decide) ?_
            refine u_aload_n (pc := 108) C d_R_castShadows_108 rfl ?_
            refine u_getr (pc := 109) (r := 0) C d_R_castShadows_109 fw_R_18 sC_75 rfl rfl ?_
            refine u_getr (pc := 112) (r := 4) C d_R_castShadows_112 fw_R_177 sC_0 rfl rfl ?_
            refine u_iload_n (pc := 115) C d_R_castShadows_115 rfl ?_
            refine u_callSi (pc := 116) C d_R_castShadows_116 mx_L_at mw_R_97 (c_L_at sC_4) rfl rfl (Nat.le_of_ble_eq_true rfl) (fun r116 M116 q116 => ?_)
            obtain ⟨e116, q116⟩ := q116
            have q116 := q116.symm
            subst q116
            refine u_iconst (pc := 119) (v := 3) C d_R_castShadows_119 (by decide) ?_
            refine u_irem (pc := 120) C d_R_castShadows_120 (by decide) ?_
            refine u_iload (pc := 121) C d_R_castShadows_121 rfl ?_
            refine u_iconst (pc := 123) (v := 0) C d_R_castShadows_123 (by decide) ?_
            refine u_iload (pc := 124) C d_R_castShadows_124 rfl ?_
            refine u_mmax (pc := 126) C d_R_castShadows_126 mm_R_180 mm_max_s mm_i mm_max_c (Nat.le_of_ble_eq_true rfl) (by decide) ?_
            refine u_callSi (pc := 129) C d_R_castShadows_129 mx_L_codeOf mw_R_186 (c_L_codeOf) rfl rfl (Nat.le_of_ble_eq_true rfl) (fun r129 M129 q129 => ?_)
            obtain ⟨e129, q129⟩ := q129
            have q129 := q129.symm
            subst q129
            refine u_iadd (pc := 132) C d_R_castShadows_132 ?_
            refine u_callVi (pc := 133) C d_R_castShadows_133 mx_G_push mw_R_190 (shG0 hk) rfl (c_G_push hk) rfl rfl (Nat.le_of_ble_eq_true rfl) (fun r133 M133 q133 => ?_)
            obtain ⟨e133, q133⟩ := q133
            have q133 := q133.symm
            subst q133
            refine u_pop (pc := 136) C d_R_castShadows_136 rfl ?_
            refine u_iinc (pc := 137) (v2 := 1) C d_R_castShadows_137 rfl rfl (by decide) (fun x137 e137 L9 hL9 => ?_)
            obtain rfl : L9 = [some (.ref 75), some (.ref (gp k)), some (.int x137), some (.int (nI (tb.getD i 0))), some (.int x70), some (.int x83), some (.int x102)] := hL9.symm
            refine u_goto (pc := 140) (tgt := 2) C d_R_castShadows_140 rfl ?_
            obtain rfl : x137 = nI (i + 1) := by rw [e137, nI_succ]
            refine u_drop 3 rfl ?_
            refine u_drop 4 rfl ?_
            refine u_drop 5 rfl ?_
            refine u_drop 6 rfl ?_
            rw [(at_cd hcd1 hc24).1] at e27
            rw [(at_cd hcd1 hc24).2.2.1] at e43
            rw [e43, hty] at c53
            rw [(at_cd hcd1 hc24).2.2.2.2] at e67
            rw [(at_cd hcd1 hc24).2.1] at e80
            rw [(at_cd hcd1 hc24).2.2.2.1] at e116
            have hP : (decide (cd 0 (tb.getD i 0) = 14) && decide (cd 2 (tb.getD i 0) = t)) = true := by
              rw [Bool.and_eq_true, decide_eq_true_eq, decide_eq_true_eq]
              exact ⟨by rw [← e27]; exact c32, c53⟩
            have hx : 10000 + r129 = shdw cd (tb.getD i 0) := by
              rw [e129, e116, e102, e70, e83, e67, e80, max0, shdw]
              rw [e70, e67] at c90
              rw [if_pos c90]
              rfl
            rw [hx]
            have h9 := take_f (f := fun c => decide (cd 0 c = 14) && decide (cd 2 c = t)) hlt
            rw [if_pos hP] at h9
            exact ih (i + 1) _ (psh g1 (shdw cd (tb.getD i 0))) (by omega) (by omega) (ho.trans pushF_off) (hR1.push hh2 hh1) (HB.psh ⟨hh, hh1, hh2⟩) (by rw [h9, List.foldl_append, ← hg1]; rfl)
        · refine u_goto (pc := 56) (tgt := 137) C d_R_castShadows_56 rfl ?_
          refine u_iinc (pc := 137) (v2 := 1) C d_R_castShadows_137 rfl rfl (by decide) (fun x137 e137 L9 hL9 => ?_)
          obtain rfl : L9 = [some (.ref 75), some (.ref (gp k)), some (.int x137), some (.int (nI (tb.getD i 0))), none, none, none] := hL9.symm
          refine u_goto (pc := 140) (tgt := 2) C d_R_castShadows_140 rfl ?_
          obtain rfl : x137 = nI (i + 1) := by rw [e137, nI_succ]
          refine u_drop 3 rfl ?_
          refine u_drop 4 rfl ?_
          refine u_drop 5 rfl ?_
          refine u_drop 6 rfl ?_
          rw [(at_cd hcd1 hc24).1] at e27
          have hP : ¬ (decide (cd 0 (tb.getD i 0) = 14) && decide (cd 2 (tb.getD i 0) = t)) = true := by
            rw [Bool.and_eq_true, decide_eq_true_eq, decide_eq_true_eq]
            rintro ⟨q1, q2⟩
            rw [(at_cd hcd1 hc24).2.2.1] at e43
            exact c53 (by rw [e43, hty]; exact q2)
          have h9 := take_f (f := fun c => decide (cd 0 c = 14) && decide (cd 2 c = t)) hlt
          rw [if_neg hP, List.append_nil] at h9
          exact ih (i + 1) _ g1 (by omega) (by omega) ho hR1 ⟨hh, hh1, hh2⟩ (by rw [h9]; exact hg1)
set_option maxRecDepth 20000 in
theorem c_R_castShadows {k n m : Nat} {g : Gm} {tb : List Nat} {cd : Nat → Nat → Int32} {M : Mem} {t : Int32} (hk : k < 6) (hW : WFg cd n g tb) (hcd : CDm M cd) (hR : RepG M k n g tb m) (ht : M.1 (ep 1) 1 = t) : Ct lyC y_R_castShadows b_R_castShadows 7 none 2 [.ref 75, .ref (gp k)] M (Pv fun M' => RepG M' k n (echo cd tb t g) tb m ∧ Off (blk k) M M') := by
  refine Ct.ofG mx_R_castShadows [some (.ref 75), some (.ref (gp k)), none, none, none, none, none] rfl rfl (Nat.le_of_ble_eq_true rfl) (fun κ C hQ => ?_)
  refine u_iconst (pc := 0) (v := 0) C d_R_castShadows_0 (by decide) ?_
  refine u_istore_n (pc := 1) C d_R_castShadows_1 rfl (fun x1 e1 L9 hL9 => ?_)
  obtain rfl : L9 = [some (.ref 75), some (.ref (gp k)), some (.int x1), none, none, none, none] := hL9.symm
  obtain rfl : x1 = nI 0 := e1
  exact lp_cs hk hW hcd hR ht C hQ (tb.length + 1) 0 M g (by omega) (by omega) Off.refl hR hW.hb rfl
