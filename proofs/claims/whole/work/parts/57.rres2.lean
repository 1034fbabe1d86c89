/-! the reference: an answer, the top resolved -/
theorem LGr.g {M M' : Mem} {th ev : List Int32} (h : LGr M th ev) (ho : OfR gR M M') : LGr M' th ev := h.of ho (by unfold gR; decide) (by unfold gR; decide) (fun i => by unfold gR; decide) (fun i => by unfold gR; decide)
theorem LGr.lay {M M' : Mem} {th ev : List Int32} (h : LGr M th ev) (ho : OfR layR M M') : LGr M' th ev := h.of ho (fun q => by unfold layR at q; omega) (fun q => by unfold layR at q; omega) (fun i q => by unfold layR at q; omega) (fun i q => by unfold layR at q; omega)
theorem if_nil {p : Prop} {hd9 : Decidable p} {ev : List Int32} : (if p then ev ++ [] else ev) = ev := by
  rw [List.append_nil]
  split <;> rfl
set_option maxRecDepth 20000 in
theorem c_M_answer {cd : Nat → Nat → Int32} {n c : Nat} {g : Gm} {tb : List Nat} {M : Mem} {tr : Int32} {th ev : List Int32} (hS : RS M cd n g tb) (hc : c < n) (hw4 : WFg cd n (put4 g c) tb) (hk : 9 ≤ cd 0 c ∧ cd 0 c ≤ 13) (htr : M.1 0 32 = tr) (hL : LGr M th ev) (h01 : tr = 0 ∨ tr = 1) : Ct lyR y_M_answer b_M_answer 3 none 6 [.ref 0, .int (nI c)] M (Pv fun M' => RS M' cd n (answ cd n c (g, tb)).1.1 (answ cd n c (g, tb)).1.2 ∧ LGr M' th (if tr = 1 then ev ++ (answ cd n c (g, tb)).2 else ev) ∧ OfR rvR M M') := by
  have n24 := hS.n24
  have hc24 : c < 24 := by omega
  obtain ⟨k1, k2, k3, k4, k5⟩ := hS.cdc
  have hcl : (nI c).toNatClampNeg = c := nI_clamp (by omega)
  have hown := (hS.1.1.2 c hc).2.1
  refine Ct.ofG mx_M_answer [some (.ref 0), some (.int (nI c)), none] rfl rfl (Nat.le_of_ble_eq_true rfl) (fun κ C hQ => ?_)
  refine u_aload_n (pc := 0) C d_M_answer_0 rfl ?_
  refine u_getr (pc := 1) (r := 6) C d_M_answer_1 fw_M_25 sR_0 rfl rfl ?_
  refine u_bipush (pc := 4) (v := 71) C d_M_answer_4 (by decide) ?_
  refine u_iload_n (pc := 6) C d_M_answer_6 rfl ?_
  refine u_iadd (pc := 7) C d_M_answer_7 ?_
  refine u_iconst (pc := 8) (v := 4) C d_M_answer_8 (by decide) ?_
  refine u_iast (pc := 9) C d_M_answer_9 sR_6 (vp71 hc24) ?_
  refine u_gmem (fun M9 e9 => ?_)
  rw [ix71 hc24] at e9
  have o9 : OfR gR M M9 := by rw [e9]; exact ofg
  have hS9 : RS M9 cd n (put4 g c) tb := hS.row o9 hw4 (by rw [e9, up_r6]; exact hS.2.2.2.where hc24)
  have hLg := hL.g o9
  have ht9 : M9.1 0 32 = tr := OfR.tr htr o9 (by unfold gR; decide)
  obtain ⟨j1, j2, j3, j4, j5⟩ := hS9.cdc
  clear e9
  refine u_aload_n (pc := 10) C d_M_answer_10 rfl ?_
  refine u_getr (pc := 11) (r := 2) C d_M_answer_11 fw_M_13 sR_0 rfl rfl ?_
  refine u_iload_n (pc := 14) C d_M_answer_14 rfl ?_
  refine u_iald (pc := 15) C d_M_answer_15 sR_2 (vp24 hc24) ?_
  refine u_istore_n (pc := 16) C d_M_answer_16 rfl (fun x16 e16 L9 hL9 => ?_)
  obtain rfl : L9 = [some (.ref 0), some (.int (nI c)), some (.int x16)] := hL9.symm
  have e2 : x16 = cd 1 c := by rw [e16, j2, hcl]
  have h16 : x16 = 0 ∨ x16 = 1 := by rw [e2]; exact hown
  refine u_aload_n (pc := 17) C d_M_answer_17 rfl ?_
  refine u_getr (pc := 18) (r := 1) C d_M_answer_18 fw_M_9 sR_0 rfl rfl ?_
  refine u_iload_n (pc := 21) C d_M_answer_21 rfl ?_
  refine u_iald (pc := 22) C d_M_answer_22 sR_1 (vp24 hc24) ?_
  refine u_bipush (pc := 23) (v := 9) C d_M_answer_23 (by decide) ?_
  refine u_icmp_ne (pc := 25) (tgt := 51) C d_M_answer_25 rfl (fun c25 => ?_) (fun c25 => ?_)
  · refine u_aload_n (pc := 51) C d_M_answer_51 rfl ?_
    refine u_getr (pc := 52) (r := 1) C d_M_answer_52 fw_M_9 sR_0 rfl rfl ?_
    refine u_iload_n (pc := 55) C d_M_answer_55 rfl ?_
    refine u_iald (pc := 56) C d_M_answer_56 sR_1 (vp24 hc24) ?_
    refine u_bipush (pc := 57) (v := 10) C d_M_answer_57 (by decide) ?_
    refine u_icmp_ne (pc := 59) (tgt := 83) C d_M_answer_59 rfl (fun c59 => ?_) (fun c59 => ?_)
    · refine u_aload_n (pc := 83) C d_M_answer_83 rfl ?_
      refine u_getr (pc := 84) (r := 1) C d_M_answer_84 fw_M_9 sR_0 rfl rfl ?_
      refine u_iload_n (pc := 87) C d_M_answer_87 rfl ?_
      refine u_iald (pc := 88) C d_M_answer_88 sR_1 (vp24 hc24) ?_
      refine u_bipush (pc := 89) (v := 11) C d_M_answer_89 (by decide) ?_
      refine u_icmp_ne (pc := 91) (tgt := 115) C d_M_answer_91 rfl (fun c91 => ?_) (fun c91 => ?_)
      · refine u_aload_n (pc := 115) C d_M_answer_115 rfl ?_
        refine u_getr (pc := 116) (r := 1) C d_M_answer_116 fw_M_9 sR_0 rfl rfl ?_
        refine u_iload_n (pc := 119) C d_M_answer_119 rfl ?_
        refine u_iald (pc := 120) C d_M_answer_120 sR_1 (vp24 hc24) ?_
        refine u_bipush (pc := 121) (v := 12) C d_M_answer_121 (by decide) ?_
        refine u_icmp_ne (pc := 123) (tgt := 133) C d_M_answer_123 rfl (fun c123 => ?_) (fun c123 => ?_)
        · refine u_aload_n (pc := 133) C d_M_answer_133 rfl ?_
          refine u_iload_n (pc := 134) C d_M_answer_134 rfl ?_
          refine u_callVv (pc := 135) C d_M_answer_135 mx_M_clear mw_M_255 sR_0 rfl (c_M_clear hS9 h16) rfl rfl (Nat.le_of_ble_eq_true rfl) (fun M135 q135 => ?_)
          obtain ⟨hSs, os⟩ := q135
          rw [e2] at hSs
          refine u_vret (pc := 138) C d_M_answer_138 (hQ _ _ ⟨rfl, ?_⟩)
          rw [j1, hcl] at c25
          rw [j1, hcl] at c59
          rw [j1, hcl] at c91
          rw [j1, hcl] at c123
          refine ⟨?_, ?_, ?_⟩
          · rw [answ_def, if_neg c25, if_neg c59, if_neg c91, if_neg c123]
            exact hSs
          · rw [answ_def, if_neg c25, if_neg c59, if_neg c91, if_neg c123, if_nil]
            exact hLg.g os
          · exact (o9.mono (fun p j => g_rv)).trans (os.mono (fun p j => g_rv))
        · refine u_aload_n (pc := 126) C d_M_answer_126 rfl ?_
          refine u_callVv (pc := 127) C d_M_answer_127 mx_M_stop mw_M_253 sR_0 rfl (c_M_stop hS9) rfl rfl (Nat.le_of_ble_eq_true rfl) (fun M127 q127 => ?_)
          obtain ⟨hSs, os⟩ := q127
          refine u_goto (pc := 130) (tgt := 138) C d_M_answer_130 rfl ?_
          refine u_vret (pc := 138) C d_M_answer_138 (hQ _ _ ⟨rfl, ?_⟩)
          rw [j1, hcl] at c25
          rw [j1, hcl] at c59
          rw [j1, hcl] at c91
          rw [j1, hcl] at c123
          refine ⟨?_, ?_, ?_⟩
          · rw [answ_def, if_neg c25, if_neg c59, if_neg c91, if_pos c123]
            exact hSs
          · rw [answ_def, if_neg c25, if_neg c59, if_neg c91, if_pos c123, if_nil]
            exact hLg.g os
          · exact (o9.mono (fun p j => g_rv)).trans (os.mono (fun p j => g_rv))
      · refine u_aload_n (pc := 94) C d_M_answer_94 rfl ?_
        refine u_iconst (pc := 95) (v := 0) C d_M_answer_95 (by decide) ?_
        refine u_iload_n (pc := 96) C d_M_answer_96 rfl ?_
        refine u_aload_n (pc := 97) C d_M_answer_97 rfl ?_
        refine u_iconst (pc := 98) (v := 0) C d_M_answer_98 (by decide) ?_
        refine u_callVi (pc := 99) C d_M_answer_99 mx_M_valueNow mw_M_199 sR_0 rfl (c_M_valueNow (v := 0) hS9 (by decide)) rfl rfl (Nat.le_of_ble_eq_true rfl) (fun r99 M99 q99 => ?_)
        obtain ⟨e99, hV, ol⟩ := q99
        have hS1 := hS9.lay ol
        have hL1 := hLg.lay ol
        have ht1 : M99.1 0 32 = tr := OfR.tr ht9 ol (fun q => by unfold layR at q; omega)
        obtain ⟨k1b, k2b, k3b, k4b, k5b⟩ := hS1.cdc
        refine u_aload_n (pc := 102) C d_M_answer_102 rfl ?_
        refine u_getr (pc := 103) (r := 5) C d_M_answer_103 fw_M_22 sR_0 rfl rfl ?_
        refine u_iload_n (pc := 106) C d_M_answer_106 rfl ?_
        refine u_iald (pc := 107) C d_M_answer_107 sR_5 (vp24 hc24) ?_
        refine u_iadd (pc := 108) C d_M_answer_108 ?_
        refine u_callVv (pc := 109) C d_M_answer_109 mx_M_event mw_M_250 sR_0 rfl (c_M_event hS1 (t := 0) ⟨⟨0, by decide, rfl⟩, h16, within_ok _⟩ ht1 hL1 h01) rfl rfl (Nat.le_of_ble_eq_true rfl) (fun M109 q109 => ?_)
        obtain ⟨hSe, hLe, oe⟩ := q109
        rw [e99, k5b, hcl, e2] at hSe hLe
        refine u_goto (pc := 112) (tgt := 138) C d_M_answer_112 rfl ?_
        refine u_vret (pc := 138) C d_M_answer_138 (hQ _ _ ⟨rfl, ?_⟩)
        rw [j1, hcl] at c25
        rw [j1, hcl] at c59
        rw [j1, hcl] at c91
        refine ⟨?_, ?_, ?_⟩
        · rw [answ_def, if_neg c25, if_neg c59, if_pos c91]
          exact hSe
        · rw [answ_def, if_neg c25, if_neg c59, if_pos c91]
          exact hLe
        · exact ((o9.mono (fun p j => g_rv)).trans (ol.mono (fun p j => lay_rv))).trans (oe.mono (fun p j => ev_rv))
    · refine u_aload_n (pc := 62) C d_M_answer_62 rfl ?_
      refine u_iconst (pc := 63) (v := 2) C d_M_answer_63 (by decide) ?_
      refine u_iload_n (pc := 64) C d_M_answer_64 rfl ?_
      refine u_aload_n (pc := 65) C d_M_answer_65 rfl ?_
      refine u_iconst (pc := 66) (v := 2) C d_M_answer_66 (by decide) ?_
      refine u_callVi (pc := 67) C d_M_answer_67 mx_M_valueNow mw_M_199 sR_0 rfl (c_M_valueNow (v := 2) hS9 (by decide)) rfl rfl (Nat.le_of_ble_eq_true rfl) (fun r67 M67 q67 => ?_)
      obtain ⟨e67, hV, ol⟩ := q67
      have hS1 := hS9.lay ol
      have hL1 := hLg.lay ol
      have ht1 : M67.1 0 32 = tr := OfR.tr ht9 ol (fun q => by unfold layR at q; omega)
      obtain ⟨k1b, k2b, k3b, k4b, k5b⟩ := hS1.cdc
      refine u_aload_n (pc := 70) C d_M_answer_70 rfl ?_
      refine u_getr (pc := 71) (r := 5) C d_M_answer_71 fw_M_22 sR_0 rfl rfl ?_
      refine u_iload_n (pc := 74) C d_M_answer_74 rfl ?_
      refine u_iald (pc := 75) C d_M_answer_75 sR_5 (vp24 hc24) ?_
      refine u_iadd (pc := 76) C d_M_answer_76 ?_
      refine u_callVv (pc := 77) C d_M_answer_77 mx_M_event mw_M_250 sR_0 rfl (c_M_event hS1 (t := 2) ⟨⟨2, by decide, rfl⟩, h16, within_ok _⟩ ht1 hL1 h01) rfl rfl (Nat.le_of_ble_eq_true rfl) (fun M77 q77 => ?_)
      obtain ⟨hSe, hLe, oe⟩ := q77
      rw [e67, k5b, hcl, e2] at hSe hLe
      refine u_goto (pc := 80) (tgt := 138) C d_M_answer_80 rfl ?_
      refine u_vret (pc := 138) C d_M_answer_138 (hQ _ _ ⟨rfl, ?_⟩)
      rw [j1, hcl] at c25
      rw [j1, hcl] at c59
      refine ⟨?_, ?_, ?_⟩
      · rw [answ_def, if_neg c25, if_pos c59]
        exact hSe
      · rw [answ_def, if_neg c25, if_pos c59]
        exact hLe
      · exact ((o9.mono (fun p j => g_rv)).trans (ol.mono (fun p j => lay_rv))).trans (oe.mono (fun p j => ev_rv))
  · refine u_aload_n (pc := 28) C d_M_answer_28 rfl ?_
    refine u_iconst (pc := 29) (v := 1) C d_M_answer_29 (by decide) ?_
    refine u_iconst (pc := 30) (v := 1) C d_M_answer_30 (by decide) ?_
    refine u_iload_n (pc := 31) C d_M_answer_31 rfl ?_
    refine u_isub (pc := 32) C d_M_answer_32 ?_
    refine u_aload_n (pc := 33) C d_M_answer_33 rfl ?_
    refine u_iconst (pc := 34) (v := 1) C d_M_answer_34 (by decide) ?_
    refine u_callVi (pc := 35) C d_M_answer_35 mx_M_valueNow mw_M_199 sR_0 rfl (c_M_valueNow (v := 1) hS9 (by decide)) rfl rfl (Nat.le_of_ble_eq_true rfl) (fun r35 M35 q35 => ?_)
    obtain ⟨e35, hV, ol⟩ := q35
    have hS1 := hS9.lay ol
    have hL1 := hLg.lay ol
    have ht1 : M35.1 0 32 = tr := OfR.tr ht9 ol (fun q => by unfold layR at q; omega)
    obtain ⟨k1b, k2b, k3b, k4b, k5b⟩ := hS1.cdc
    refine u_aload_n (pc := 38) C d_M_answer_38 rfl ?_
    refine u_getr (pc := 39) (r := 5) C d_M_answer_39 fw_M_22 sR_0 rfl rfl ?_
    refine u_iload_n (pc := 42) C d_M_answer_42 rfl ?_
    refine u_iald (pc := 43) C d_M_answer_43 sR_5 (vp24 hc24) ?_
    refine u_iadd (pc := 44) C d_M_answer_44 ?_
    refine u_callVv (pc := 45) C d_M_answer_45 mx_M_event mw_M_250 sR_0 rfl (c_M_event hS1 (t := 1) ⟨⟨1, by decide, rfl⟩, (by rcases h16 with q | q <;> rw [q]; exact Or.inr rfl; exact Or.inl rfl), within_ok _⟩ ht1 hL1 h01) rfl rfl (Nat.le_of_ble_eq_true rfl) (fun M45 q45 => ?_)
    obtain ⟨hSe, hLe, oe⟩ := q45
    rw [e35, k5b, hcl, e2] at hSe hLe
    refine u_goto (pc := 48) (tgt := 138) C d_M_answer_48 rfl ?_
    refine u_vret (pc := 138) C d_M_answer_138 (hQ _ _ ⟨rfl, ?_⟩)
    rw [j1, hcl] at c25
    refine ⟨?_, ?_, ?_⟩
    · rw [answ_def, if_pos c25]
      exact hSe
    · rw [answ_def, if_pos c25]
      exact hLe
    · exact ((o9.mono (fun p j => g_rv)).trans (ol.mono (fun p j => lay_rv))).trans (oe.mono (fun p j => ev_rv))
set_option maxRecDepth 20000 in
theorem lp_rt60 {κ : KX} {cd : Nat → Nat → Int32} {n h : Nat} {g : Gm} {tb : List Nat} {M : Mem} {tr : Int32} {th ev : List Int32} (hw : WFg cd n g tb) (hh : g 1 4 = nI (h + 1)) (h64 : h < 64) (hS : RS M cd n (popd g) tb) (htr : M.1 0 32 = tr) (hL : LGr M th ev) (h01 : tr = 0 ∨ tr = 1) (C : Cx κ lyR y_M_resolveTop.cls b_M_resolveTop 2 none 7) (hQ : ∀ v M', Pv (fun M' => RS M' cd n (rsv cd n (g, tb)).1.1 (rsv cd n (g, tb)).1.2 ∧ LGr M' th (if tr = 1 then ev ++ (rsv cd n (g, tb)).2 else ev) ∧ OfR rvR M M') v M' → KQ κ v M') : G κ lyR 60 [some (.ref 0), some (.int (top g))] [] M := by
  have n24 := hS.n24
  obtain ⟨w1, w2, w3⟩ := hw.pop hh (by omega) (by omega)
  obtain ⟨k1, k2, k3, k4, k5⟩ := hS.cdc
  refine u_iload_n (pc := 60) C d_M_resolveTop_60 rfl ?_
  refine u_sipush (pc := 61) (v := 10000) C d_M_resolveTop_61 (by decide) ?_
  refine u_icmp_lt (pc := 64) (tgt := 93) C d_M_resolveTop_64 rfl (fun c64 => ?_) (fun c64 => ?_)
  · have hx10 : ¬ 10000 ≤ top g := Int32.not_le.mpr c64
    obtain ⟨c, c1, c2, c3⟩ := thV_card w2 hx10
    have hc24 : c < 24 := by omega
    have hcl : (nI c).toNatClampNeg = c := nI_clamp (by omega)
    have w4 := hw.top4 hh (by omega) (by omega) c1 c2 c3
    have etn : (top g).toNatClampNeg = c := by rw [c2, hcl]
    rw [c2]
    refine u_aload_n (pc := 93) C d_M_resolveTop_93 rfl ?_
    refine u_getr (pc := 94) (r := 1) C d_M_resolveTop_94 fw_M_9 sR_0 rfl rfl ?_
    refine u_iload_n (pc := 97) C d_M_resolveTop_97 rfl ?_
    refine u_iald (pc := 98) C d_M_resolveTop_98 sR_1 (vp24 hc24) ?_
    refine u_bipush (pc := 99) (v := 9) C d_M_resolveTop_99 (by decide) ?_
    refine u_bipush (pc := 101) (v := 13) C d_M_resolveTop_101 (by decide) ?_
    refine u_callSi (pc := 103) C d_M_resolveTop_103 mx_M_in mw_M_73 (c_M_in) rfl rfl (Nat.le_of_ble_eq_true rfl) (fun r103 M103 q103 => ?_)
    obtain ⟨e103, q103⟩ := q103
    have q103 := q103.symm
    subst q103
    refine u_if_eq (pc := 106) (tgt := 117) C d_M_resolveTop_106 rfl (fun c106 => ?_) (fun c106 => ?_)
    · rw [e103, k1, hcl] at c106
      have hka : ¬ (9 ≤ cd 0 c ∧ cd 0 c ≤ 13) := fun z => (in_n c106).elim (fun q => absurd z.1 (Int32.not_le.mpr q)) (fun q => absurd z.2 (Int32.not_le.mpr q))
      have hnt : c ∉ tb := fun q => by
        have q1 := (hS.tbm.mp q).2
        rw [show (popd g) 3 = g 3 from popd_3 (by decide), c3] at q1
        exact absurd q1 (by decide)
      refine u_aload_n (pc := 117) C d_M_resolveTop_117 rfl ?_
      refine u_getr (pc := 118) (r := 6) C d_M_resolveTop_118 fw_M_25 sR_0 rfl rfl ?_
      refine u_bipush (pc := 121) (v := 71) C d_M_resolveTop_121 (by decide) ?_
      refine u_iload_n (pc := 123) C d_M_resolveTop_123 rfl ?_
      refine u_iadd (pc := 124) C d_M_resolveTop_124 ?_
      refine u_iconst (pc := 125) (v := 3) C d_M_resolveTop_125 (by decide) ?_
      refine u_iast (pc := 126) C d_M_resolveTop_126 sR_6 (vp71 hc24) ?_
      refine u_aload_n (pc := 127) C d_M_resolveTop_127 rfl ?_
      refine u_getr (pc := 128) (r := 6) C d_M_resolveTop_128 fw_M_25 sR_0 rfl rfl ?_
      refine u_bipush (pc := 131) (v := 95) C d_M_resolveTop_131 (by decide) ?_
      refine u_iload_n (pc := 133) C d_M_resolveTop_133 rfl ?_
      refine u_iadd (pc := 134) C d_M_resolveTop_134 ?_
      refine u_aload_n (pc := 135) C d_M_resolveTop_135 rfl ?_
      refine u_getr (pc := 136) (r := 6) C d_M_resolveTop_136 fw_M_25 sR_0 rfl rfl ?_
      refine u_iconst (pc := 139) (v := 2) C d_M_resolveTop_139 (by decide) ?_
      refine u_dup2 (pc := 140) C d_M_resolveTop_140 rfl rfl ?_
      refine u_iald (pc := 141) C d_M_resolveTop_141 sR_6 v2 ?_
      refine u_dup_x2 (pc := 142) C d_M_resolveTop_142 rfl rfl rfl ?_
      refine u_iconst (pc := 143) (v := 1) C d_M_resolveTop_143 (by decide) ?_
      refine u_iadd (pc := 144) C d_M_resolveTop_144 ?_
      refine u_iast (pc := 145) C d_M_resolveTop_145 sR_6 v2 ?_
      refine u_iast (pc := 146) C d_M_resolveTop_146 sR_6 (vp95 hc24) ?_
      refine u_vret (pc := 147) C d_M_resolveTop_147 (hQ _ _ ⟨rfl, ?_⟩)
      have hck : (up M 6 (71 + c) 3).1 6 2 = (popd g) 1 0 := by
        rw [up_j (by omega)]; exact hS.2.2.2.2.1.1
      rw [ix71 hc24, cl2, ix95 hc24, hck]
      refine ⟨?_, ?_, ((ofg.trans ofg).trans ofg).mono (fun p j => g_rv)⟩
      · rw [rsv_def, if_neg hx10, etn, if_neg hka]
        refine hS.row ((ofg.trans ofg).trans ofg) (w1.lay c1 (by rw [popd_3 (by decide)]; exact c3) (w3 c c2 c1)) ?_
        rw [up_r6, up_r6, up_r6]
        exact hS.2.2.2.lay hc24 hnt
      · rw [rsv_def, if_neg hx10, etn, if_neg hka, if_nil]
        exact hL.g ((ofg.trans ofg).trans ofg)
    · rw [e103, k1, hcl] at c106
      have hka : 9 ≤ cd 0 c ∧ cd 0 c ≤ 13 := ⟨Int32.not_lt.mp (in_y c106).1, Int32.not_lt.mp (in_y c106).2⟩
      refine u_aload_n (pc := 109) C d_M_resolveTop_109 rfl ?_
      refine u_iload_n (pc := 110) C d_M_resolveTop_110 rfl ?_
      refine u_callVv (pc := 111) C d_M_resolveTop_111 mx_M_answer mw_M_260 sR_0 rfl (c_M_answer hS c1 w4 hka htr hL h01) rfl rfl (Nat.le_of_ble_eq_true rfl) (fun M111 q111 => ?_)
      obtain ⟨hSe, hLe, oe⟩ := q111
      refine u_goto (pc := 114) (tgt := 147) C d_M_resolveTop_114 rfl ?_
      refine u_vret (pc := 147) C d_M_resolveTop_147 (hQ _ _ ⟨rfl, ?_⟩)
      refine ⟨?_, ?_, oe⟩
      · rw [rsv_def, if_neg hx10, etn, if_pos hka]
        exact hSe
      · rw [rsv_def, if_neg hx10, etn, if_pos hka]
        exact hLe
  · obtain ⟨⟨s1, s2, s3⟩, hok⟩ := shd_r w2 n24 (Int32.not_lt.mp c64)
    rw [← s1, ← s2, ← s3] at hok
    refine u_aload_n (pc := 67) C d_M_resolveTop_67 rfl ?_
    refine u_iload_n (pc := 68) C d_M_resolveTop_68 rfl ?_
    refine u_sipush (pc := 69) (v := 1000) C d_M_resolveTop_69 (by decide) ?_
    refine u_idiv (pc := 72) C d_M_resolveTop_72 (by decide) ?_
    refine u_bipush (pc := 73) (v := 10) C d_M_resolveTop_73 (by decide) ?_
    refine u_irem (pc := 75) C d_M_resolveTop_75 (by decide) ?_
    refine u_iload_n (pc := 76) C d_M_resolveTop_76 rfl ?_
    refine u_bipush (pc := 77) (v := 100) C d_M_resolveTop_77 (by decide) ?_
    refine u_idiv (pc := 79) C d_M_resolveTop_79 (by decide) ?_
    refine u_bipush (pc := 80) (v := 10) C d_M_resolveTop_80 (by decide) ?_
    refine u_irem (pc := 82) C d_M_resolveTop_82 (by decide) ?_
    refine u_iload_n (pc := 83) C d_M_resolveTop_83 rfl ?_
    refine u_bipush (pc := 84) (v := 100) C d_M_resolveTop_84 (by decide) ?_
    refine u_irem (pc := 86) C d_M_resolveTop_86 (by decide) ?_
    refine u_callVv (pc := 87) C d_M_resolveTop_87 mx_M_event mw_M_250 sR_0 rfl (c_M_event hS hok htr hL h01) rfl rfl (Nat.le_of_ble_eq_true rfl) (fun M87 q87 => ?_)
    obtain ⟨hSe, hLe, oe⟩ := q87
    rw [s1, s2, s3] at hSe hLe
    refine u_goto (pc := 90) (tgt := 147) C d_M_resolveTop_90 rfl ?_
    refine u_vret (pc := 147) C d_M_resolveTop_147 (hQ _ _ ⟨rfl, ?_⟩)
    have hx10 := Int32.not_lt.mp c64
    refine ⟨?_, ?_, oe.mono (fun p j => ev_rv)⟩
    · rw [rsv_def, if_pos hx10]
      exact hSe
    · rw [rsv_def, if_pos hx10]
      exact hLe
set_option maxRecDepth 20000 in
theorem c_M_resolveTop {cd : Nat → Nat → Int32} {n h : Nat} {g : Gm} {tb : List Nat} {M : Mem} {tr : Int32} {th ev : List Int32} (hS : RS M cd n g tb) (hh : g 1 4 = nI (h + 1)) (h64 : h < 64) (htr : M.1 0 32 = tr) (hL : LGr M th ev) (h01 : tr = 0 ∨ tr = 1) : Ct lyR y_M_resolveTop b_M_resolveTop 2 none 7 [.ref 0] M (Pv fun M' => RS M' cd n (rsv cd n (g, tb)).1.1 (rsv cd n (g, tb)).1.2 ∧ LGr M' (if tr = 1 then th ++ [top g] else th) (if tr = 1 then ev ++ (rsv cd n (g, tb)).2 else ev) ∧ OfR rvR M M') := by
  have n24 := hS.n24
  have hm : M.1 6 6 = nI (h + 1) := by rw [← hh]; exact hS.many
  obtain ⟨w1, w2, w3⟩ := hS.1.pop hh (by omega) (by omega)
  obtain ⟨hFp, htp⟩ := hS.2.2.2.pop hh h64
  refine Ct.ofG mx_M_resolveTop [some (.ref 0), none] rfl rfl (Nat.le_of_ble_eq_true rfl) (fun κ C hQ => ?_)
  refine u_aload_n (pc := 0) C d_M_resolveTop_0 rfl ?_
  refine u_getr (pc := 1) (r := 6) C d_M_resolveTop_1 fw_M_25 sR_0 rfl rfl ?_
  refine u_bipush (pc := 4) (v := 6) C d_M_resolveTop_4 (by decide) ?_
  refine u_dup2 (pc := 6) C d_M_resolveTop_6 rfl rfl ?_
  refine u_iald (pc := 7) C d_M_resolveTop_7 sR_6 v6 ?_
  refine u_iconst (pc := 8) (v := 1) C d_M_resolveTop_8 (by decide) ?_
  refine u_isub (pc := 9) C d_M_resolveTop_9 ?_
  refine u_iast (pc := 10) C d_M_resolveTop_10 sR_6 v6 ?_
  refine u_gmem (fun M2 e2 => ?_)
  rw [cl6, hm, nI_pred] at e2
  have o2 : OfR gR M M2 := by rw [e2]; exact ofg
  have hF2 : FG (M2.1 6) (popd g) tb := by rw [e2, up_r6]; exact hFp
  have hS2 : RS M2 cd n (popd g) tb := hS.row o2 w1 hF2
  have hix : (7 : Int32) + M2.1 6 (6 : Int32).toNatClampNeg = 7 + nI h := by rw [cl6, e2, up_row, pk_us]
  have hth : M2.1 6 (7 + h) = top g := by rw [e2, up_r6, pk_un (by omega)]; exact htp
  have hL2 := hL.g o2
  have ht2 : M2.1 0 32 = tr := OfR.tr htr o2 (by unfold gR; decide)
  have hl29 := hL2.1.1
  have hmin : min th.length 40 ≤ 40 := Nat.min_le_right _ _
  refine u_aload_n (pc := 11) C d_M_resolveTop_11 rfl ?_
  refine u_getr (pc := 12) (r := 6) C d_M_resolveTop_12 fw_M_25 sR_0 rfl rfl ?_
  refine u_bipush (pc := 15) (v := 7) C d_M_resolveTop_15 (by decide) ?_
  refine u_aload_n (pc := 17) C d_M_resolveTop_17 rfl ?_
  refine u_getr (pc := 18) (r := 6) C d_M_resolveTop_18 fw_M_25 sR_0 rfl rfl ?_
  refine u_bipush (pc := 21) (v := 6) C d_M_resolveTop_21 (by decide) ?_
  refine u_iald (pc := 23) C d_M_resolveTop_23 sR_6 v6 ?_
  refine u_iadd (pc := 24) C d_M_resolveTop_24 ?_
  refine u_iald (pc := 25) C d_M_resolveTop_25 sR_6 (by rw [hix]; exact vp7 (by omega)) ?_
  refine u_istore_n (pc := 26) C d_M_resolveTop_26 rfl (fun x26 e26 L9 hL9 => ?_)
  obtain rfl : L9 = [some (.ref 0), some (.int x26)] := hL9.symm
  rw [hix, ix7 (by omega), hth] at e26
  subst e26
  refine u_aload_n (pc := 27) C d_M_resolveTop_27 rfl ?_
  refine u_geti (pc := 28) C d_M_resolveTop_28 fw_M_234 sR_0 rfl ?_
  refine u_if_eq (pc := 31) (tgt := 60) C d_M_resolveTop_31 rfl (fun c31 => ?_) (fun c31 => ?_)
  · rw [ht2] at c31
    refine lp_rt60 hS.1 hh h64 hS2 ht2 hL2 h01 C (fun v M9 q => hQ v M9 ?_)
    obtain ⟨rfl, q1, q2, q3⟩ := q
    refine ⟨rfl, q1, ?_, (o2.mono (fun p j => g_rv)).trans q3⟩
    rw [if_neg (show ¬ tr = 1 by rw [c31]; decide)]
    exact q2
  · refine u_aload_n (pc := 34) C d_M_resolveTop_34 rfl ?_
    refine u_geti (pc := 35) C d_M_resolveTop_35 fw_M_257 sR_0 rfl ?_
    refine u_bipush (pc := 38) (v := 40) C d_M_resolveTop_38 (by decide) ?_
    refine u_icmp_ge (pc := 40) (tgt := 60) C d_M_resolveTop_40 rfl (fun c40 => ?_) (fun c40 => ?_)
    · rw [ht2] at c31
      have c40 := hl29 ▸ c40
      have h40 := (nI_leI (a := 40) (b := min th.length 40) (by omega) (by omega)).mp c40
      have hL3 : LGr M2 (th ++ [top g]) ev := hL2.th0 (by omega)
      refine lp_rt60 hS.1 hh h64 hS2 ht2 hL3 h01 C (fun v M9 q => hQ v M9 ?_)
      obtain ⟨rfl, q1, q2, q3⟩ := q
      refine ⟨rfl, q1, ?_, (o2.mono (fun p j => g_rv)).trans q3⟩
      rw [if_pos (h01.resolve_left c31)]
      exact q2
    · refine u_aload_n (pc := 43) C d_M_resolveTop_43 rfl ?_
      refine u_getr (pc := 44) (r := 222) C d_M_resolveTop_44 fw_M_64 sR_0 rfl rfl ?_
      refine u_aload_n (pc := 47) C d_M_resolveTop_47 rfl ?_
      refine u_dup (pc := 48) C d_M_resolveTop_48 rfl ?_
      refine u_geti (pc := 49) C d_M_resolveTop_49 fw_M_257 sR_0 rfl ?_
      refine u_dup_x1 (pc := 52) C d_M_resolveTop_52 rfl rfl ?_
      refine u_iconst (pc := 53) (v := 1) C d_M_resolveTop_53 (by decide) ?_
      refine u_iadd (pc := 54) C d_M_resolveTop_54 ?_
      refine u_put (pc := 55) C d_M_resolveTop_55 fw_M_257 sR_0 rfl (Or.inl rfl) ?_
      refine u_iload_n (pc := 58) C d_M_resolveTop_58 rfl ?_
      refine u_iast (pc := 59) C d_M_resolveTop_59 sR_222 (by rw [hl29]; exact vp_in_nI (by rw [hl29] at c40; have := not_leI (a := 40) (b := min th.length 40) (by omega) (by omega) c40; omega) (by decide)) ?_
      rw [ht2] at c31
      have c40 := hl29 ▸ c40
      have h40 := not_leI (a := 40) (b := min th.length 40) (by omega) (by omega) c40
      have hme : min th.length 40 = th.length := by omega
      rw [hl29, hme, nI_clamp (by omega), ← nI_succ]
      refine u_gmem (fun M6 e6 => ?_)
      have hL3 : LGr M6 (th ++ [top g]) ev := by rw [e6]; exact hL2.th1 (by omega)
      have o6 : OfR rvR M2 M6 := by
        rw [e6]
        exact (OfR.up (Or.inr (Or.inr (Or.inr (Or.inr ⟨rfl, Or.inr (Or.inr (Or.inl rfl))⟩))))).trans (OfR.up (Or.inr (Or.inr (Or.inl rfl))))
      have hS6 : RS M6 cd n (popd g) tb := by
        rw [e6]
        exact hS2.of (S := fun p j => p = 222 ∨ (p = 0 ∧ j = 29)) ((OfR.up (Or.inr ⟨rfl, rfl⟩)).trans (OfR.up (Or.inl rfl))) (fun p j _ _ q => by omega) (fun q => by omega) (fun j q => by omega)
      have ht6 : M6.1 0 32 = tr := by rw [e6, up_ne (by decide), up_j (by decide)]; exact ht2
      refine lp_rt60 hS.1 hh h64 hS6 ht6 hL3 h01 C (fun v M9 q => hQ v M9 ?_)
      obtain ⟨rfl, q1, q2, q3⟩ := q
      refine ⟨rfl, q1, ?_, ((o2.mono (fun p j => g_rv)).trans o6).trans q3⟩
      rw [if_pos (h01.resolve_left c31)]
      exact q2
