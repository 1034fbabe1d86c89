/-! the top resolved -/
def EngS (k b p : Nat) : Prop := blk k p ∨ lblk b p ∨ yblk 1 p ∨ eblk 1 p
theorem y_l {a b p : Nat} (h : yblk a p) (ha : a < 2) : ¬ lblk b p := fun q => by
  have h1 := h.2
  have h2 := q.1
  unfold yp at h1
  unfold op at h2
  omega
theorem y_e {a b p : Nat} (h : yblk a p) (ha : a < 2) : ¬ eblk b p := fun q => by
  have h1 := h.2
  unfold yp at h1
  rcases q with q | q <;> (unfold ep at q; omega)
theorem evt_eq {cd : Nat → Nat → Int32} {n : Nat} {tb : List Nat} {t p a : Int32} {g : Gm} : evt cd n tb t p a g = happ cd n tb (repl cd tb.length tb (t, p, withinF a 0 99)).1 g := rfl
theorem WFg.evt {cd : Nat → Nat → Int32} {n : Nat} {tb : List Nat} {t p a : Int32} {g : Gm} (h : WFg cd n g tb) : WFg cd n (evt cd n tb t p a g) tb := by
  rw [evt_eq]
  exact h.happ
theorem rsv_def {cd : Nat → Nat → Int32} {n : Nat} {g : Gm} {tb : List Nat} : rsv cd n (g, tb) = if 10000 ≤ top g then ((evt cd n tb (shT (top g)) (shP (top g)) (shA (top g)) (popd g), tb), [evc cd tb (shT (top g)) (shP (top g)) (shA (top g))])
    else if 9 ≤ cd 0 (top g).toNatClampNeg ∧ cd 0 (top g).toNatClampNeg ≤ 13 then answ cd n (top g).toNatClampNeg (popd g, tb)
    else ((up2 (up2 (up2 (popd g) 3 (top g).toNatClampNeg 3) 4 (top g).toNatClampNeg ((popd g) 1 0)) 1 0 ((popd g) 1 0 + 1), tb ++ [(top g).toNatClampNeg]), []) := rfl
theorem answ_def {cd : Nat → Nat → Int32} {n c : Nat} {g : Gm} {tb : List Nat} : answ cd n c (g, tb) =
    if cd 0 c = 9 then ((evt cd n tb 1 (1 - cd 1 c) (vals cd (put4 g c) tb 1 + cd 4 c) (put4 g c), tb), [evc cd tb 1 (1 - cd 1 c) (vals cd (put4 g c) tb 1 + cd 4 c)])
    else if cd 0 c = 10 then ((evt cd n tb 2 (cd 1 c) (vals cd (put4 g c) tb 2 + cd 4 c) (put4 g c), tb), [evc cd tb 2 (cd 1 c) (vals cd (put4 g c) tb 2 + cd 4 c)])
    else if cd 0 c = 11 then ((evt cd n tb 0 (cd 1 c) (vals cd (put4 g c) tb 0 + cd 4 c) (put4 g c), tb), [evc cd tb 0 (cd 1 c) (vals cd (put4 g c) tb 0 + cd 4 c)])
    else if cd 0 c = 12 then ((stp (put4 g c), tb), [])
    else (clr cd (1 - cd 1 c) (put4 g c, tb), []) := rfl
theorem WFg.rsvL {cd : Nat → Nat → Int32} {n h : Nat} {g : Gm} {tb : List Nat} (hw : WFg cd n g tb) (hh : g 1 4 = nI h) (h0 : 0 < h) (h31 : h ≤ 64) : WFg cd n (rsv cd n (g, tb)).1.1 (rsv cd n (g, tb)).1.2 := by
  obtain ⟨h9, h64, hh9⟩ := hw.hb
  obtain rfl : h9 = h := (nI_eq (by omega) (by omega)).mp (by rw [← hh9, hh])
  have hn := hw.1.1
  · obtain ⟨w1, w2, w3⟩ := hw.pop hh h0 h64
    rw [rsv_def]
    split
    · exact w1.evt
    · rename_i hx
      obtain ⟨c, c1, c2, c3⟩ := thV_card w2 hx
      have e9 : (top g).toNatClampNeg = c := by rw [c2, nI_clamp (by omega)]
      rw [e9]
      have w4 := hw.top4 hh h0 h64 c1 c2 c3
      split
      · rw [answ_def]
        split
        · exact w4.evt
        · split
          · exact w4.evt
          · split
            · exact w4.evt
            · split
              · exact w4.stpL
              · exact w4.clrL
      · exact w1.lay c1 (by rw [popd_3 (by decide)]; exact c3) (w3 c c2 c1)
set_option maxRecDepth 20000 in
theorem c_R_resolveTop {k n m b h : Nat} {g : Gm} {tb : List Nat} {cd : Nat → Nat → Int32} {th ev : List Int32} {M : Mem} (hk : k < 6) (hb : b < 2) (hW : WFg cd n g tb) (hcd : CDm M cd) (hR : RepG M k n g tb m) (hL : LGd M b th ev) (hh : g 1 4 = nI h) (h0 : 0 < h) (h64 : h ≤ 64) : Ct lyC y_R_resolveTop b_R_resolveTop 5 none 4 [.ref 75, .ref (gp k), .ref (op b)] M (Pv fun M' => ∃ m', RepG M' k n (rsv cd n (g, tb)).1.1 (rsv cd n (g, tb)).1.2 m' ∧ LGd M' b (th ++ [top g]) (ev ++ (rsv cd n (g, tb)).2) ∧ Off (EngS k b) M M' ∧ mvd n g m (rsv cd n (g, tb)).1.1 m') := by
  obtain ⟨htl, hbn, hb24⟩ := hW.tl
  have hn := hW.1.1
  obtain ⟨w1, w2, w3⟩ := hW.pop hh h0 h64
  obtain ⟨p1, p2⟩ := hR.pop hh h0 h64
  have hpos := thV_pos w2 hn
  have o1 : Off (blk k) M (popF M k) := popF_off
  have hcd1 : CDm (popF M k) cd := hcd.off o1 (fun p h1 h2 => blk_cd h1 h2)
  have hL1 : LGd (popF M k) b th ev := hL.off o1 (fun p q => g_l hk q)
  refine Ct.ofG mx_R_resolveTop [some (.ref 75), some (.ref (gp k)), some (.ref (op b)), none, none] rfl rfl (Nat.le_of_ble_eq_true rfl) (fun κ C hQ => ?_)
  refine u_aload_n (pc := 0) C d_R_resolveTop_0 rfl ?_
  refine u_callVi (pc := 1) C d_R_resolveTop_1 mx_G_pop mw_R_76 (shG0 hk) rfl (c_G_pop hk) rfl rfl (Nat.le_of_ble_eq_true rfl) (fun r1 M1 q1 => ?_)
  obtain ⟨e1, q1⟩ := q1
  have q1 := q1.symm
  subst q1
  refine u_istore_n (pc := 4) C d_R_resolveTop_4 rfl (fun x4 e4 L9 hL9 => ?_)
  obtain rfl : L9 = [some (.ref 75), some (.ref (gp k)), some (.ref (op b)), some (.int x4), none] := hL9.symm
  have hx4 : x4 = top g := by rw [e4, e1, p1]
  clear e4 e1
  subst hx4
  refine u_iload_n (pc := 5) C d_R_resolveTop_5 rfl ?_
  refine u_if_ge (pc := 6) (tgt := 10) C d_R_resolveTop_6 rfl (fun c6 => ?_) (fun c6 => ?_)
  · refine u_aload_n (pc := 10) C d_R_resolveTop_10 rfl ?_
    refine u_iload_n (pc := 11) C d_R_resolveTop_11 rfl ?_
    refine u_callVv (pc := 12) C d_R_resolveTop_12 mx_O_addThing mw_R_79 (shO0 hb) rfl (c_O_addThing hb hL1) rfl rfl (Nat.le_of_ble_eq_true rfl) (fun M12 q12 => ?_)
    obtain ⟨hL12, o12⟩ := q12
    have hR12 : RepG M12 k n (popd g) tb m := p2.off o12 (fun p q => l_g hk q)
    have hcd12 : CDm M12 cd := hcd1.off o12 (fun p h1 h2 => l_cd h1 h2)
    have ho12 : Off (EngS k b) M M12 := (o1.mono (fun p q => Or.inl q)).trans (o12.mono (fun p q => Or.inr (Or.inl q)))
    refine u_iload_n (pc := 15) C d_R_resolveTop_15 rfl ?_
    refine u_sipush (pc := 16) (v := 10000) C d_R_resolveTop_16 (by decide) ?_
    refine u_icmp_lt (pc := 19) (tgt := 41) C d_R_resolveTop_19 rfl (fun c19 => ?_) (fun c19 => ?_)
    · refine u_aload_n (pc := 41) C d_R_resolveTop_41 rfl ?_
      refine u_getr (pc := 42) (r := 0) C d_R_resolveTop_42 fw_R_18 sC_75 rfl rfl ?_
      refine u_getr (pc := 45) (r := 1) C d_R_resolveTop_45 fw_R_91 sC_0 rfl rfl ?_
      refine u_iload_n (pc := 48) C d_R_resolveTop_48 rfl ?_
      obtain ⟨c, c1, c2, c3⟩ := thV_card w2 (fun q => absurd c19 (Int32.not_lt.mpr q))
      have hc24 : c < 24 := by omega
      have hcl : (top g).toNatClampNeg = c := by rw [c2, nI_clamp (by omega)]
      have hx : ¬ 10000 ≤ top g := fun q => absurd c19 (Int32.not_lt.mpr q)
      refine u_callSi (pc := 49) C d_R_resolveTop_49 mx_L_at mw_R_97 (c_L_at sC_1) rfl rfl (Nat.le_of_ble_eq_true rfl) (fun r49 M49 q49 => ?_)
      obtain ⟨e49, q49⟩ := q49
      have q49 := q49.symm
      subst q49
      refine u_istore (pc := 52) C d_R_resolveTop_52 rfl (fun x52 e52 L9 hL9 => ?_)
      obtain rfl : L9 = [some (.ref 75), some (.ref (gp k)), some (.ref (op b)), some (.int (top g)), some (.int x52)] := hL9.symm
      rw [c2, (at_cd hcd12 hc24).1] at e49
      rw [e49] at e52
      subst e52
      obtain ⟨⟨kk, hkk, hck⟩, hpo, -, -, -⟩ := hW.1.2 c c1
      have hf3 : famF (cd 0 c) = 3 ↔ (9 ≤ cd 0 c ∧ cd 0 c ≤ 13) := by rw [hck]; exact fam3 hkk
      refine u_iload (pc := 54) C d_R_resolveTop_54 rfl ?_
      refine u_callSi (pc := 56) C d_R_resolveTop_56 mx_L_familyOf mw_R_101 (c_L_familyOf) rfl rfl (Nat.le_of_ble_eq_true rfl) (fun r56 M56 q56 => ?_)
      obtain ⟨e56, q56⟩ := q56
      have q56 := q56.symm
      subst q56
      refine u_iconst (pc := 59) (v := 3) C d_R_resolveTop_59 (by decide) ?_
      refine u_icmp_eq (pc := 60) (tgt := 69) C d_R_resolveTop_60 rfl (fun c60 => ?_) (fun c60 => ?_)
      · refine u_aload_n (pc := 69) C d_R_resolveTop_69 rfl ?_
        refine u_iload_n (pc := 70) C d_R_resolveTop_70 rfl ?_
        refine u_iconst (pc := 71) (v := 4) C d_R_resolveTop_71 (by decide) ?_
        refine u_callVv (pc := 72) C d_R_resolveTop_72 mx_G_moveTo mw_R_107 (shG0 hk) rfl (c_G_moveTo hk) rfl rfl (Nat.le_of_ble_eq_true rfl) (fun M72 q72 => ?_)
        have q72 := q72.symm
        subst q72
        rw [e56, hf3] at c60
        have oc : Off (blk k) M12 (mvF M12 k (top g) 4) := mvF_off
        have hcdc : CDm (mvF M12 k (top g) 4) cd := hcd12.off oc (fun p h1 h2 => blk_cd h1 h2)
        have hLc : LGd (mvF M12 k (top g) 4) b (th ++ [top g]) ev := hL12.off oc (fun p q => g_l hk q)
        have hRc : RepG (mvF M12 k (top g) 4) k n (put4 (popd g) c) tb (m + 1) := by rw [c2]; exact hR12.mv hc24
        have hWc := hW.top4 hh h0 h64 c1 c2 c3
        have hoc : Off (EngS k b) M (mvF M12 k (top g) 4) := ho12.trans (oc.mono (fun p q => Or.inl q))
        have hmc : mvd n g m (put4 (popd g) c) (m + 1) := mvd.pop.trans (mvd.put4 c1 (by rw [popd_3 (by decide), c3]; decide))
        have er : rsv cd n (g, tb) = answ cd n c (popd g, tb) := by rw [rsv_def, if_neg hx, hcl, if_pos c60]
        generalize mvF M12 k (top g) 4 = Mc at *
        refine u_iload (pc := 75) C d_R_resolveTop_75 rfl ?_
        refine u_bipush (pc := 77) (v := 12) C d_R_resolveTop_77 (by decide) ?_
        refine u_icmp_ne (pc := 79) (tgt := 90) C d_R_resolveTop_79 rfl (fun c79 => ?_) (fun c79 => ?_)
        · refine u_iload (pc := 90) C d_R_resolveTop_90 rfl ?_
          refine u_bipush (pc := 92) (v := 13) C d_R_resolveTop_92 (by decide) ?_
          refine u_icmp_ne (pc := 94) (tgt := 118) C d_R_resolveTop_94 rfl (fun c94 => ?_) (fun c94 => ?_)
          · refine u_aload_n (pc := 118) C d_R_resolveTop_118 rfl ?_
            refine u_getr (pc := 119) (r := (yp 1)) C d_R_resolveTop_119 fw_R_27 sC_75 rfl rfl ?_
            refine u_aload_n (pc := 122) C d_R_resolveTop_122 rfl ?_
            refine u_callVv (pc := 123) C d_R_resolveTop_123 mx_Y_workOut mw_R_122 (shY0 (by decide)) rfl (c_Y_workOut (b := 1) (by decide) hk hRc hcdc hW.1.2 htl hn hbn hW.2.1.1) rfl rfl (Nat.le_of_ble_eq_true rfl) (fun M123 q123 => ?_)
            obtain ⟨hV, oY⟩ := q123
            have hcdY : CDm M123 cd := hcdc.off oY (fun p h1 h2 => y_cd h1 h2)
            have hRY : RepG M123 k n (put4 (popd g) c) tb (m + 1) := hRc.off oY (fun p q => y_g hk q)
            have hLY : LGd M123 b (th ++ [top g]) ev := hLc.off oY (fun p q => y_l q (by decide))
            refine u_aload_n (pc := 126) C d_R_resolveTop_126 rfl ?_
            refine u_iload (pc := 127) C d_R_resolveTop_127 rfl ?_
            refine u_aload_n (pc := 129) C d_R_resolveTop_129 rfl ?_
            refine u_getr (pc := 130) (r := 0) C d_R_resolveTop_130 fw_R_18 sC_75 rfl rfl ?_
            refine u_getr (pc := 133) (r := 2) C d_R_resolveTop_133 fw_R_115 sC_0 rfl rfl ?_
            refine u_iload_n (pc := 136) C d_R_resolveTop_136 rfl ?_
            refine u_callSi (pc := 137) C d_R_resolveTop_137 mx_L_at mw_R_97 (c_L_at sC_2) rfl rfl (Nat.le_of_ble_eq_true rfl) (fun r137 M137 q137 => ?_)
            obtain ⟨e137, q137⟩ := q137
            have q137 := q137.symm
            subst q137
            refine u_aload_n (pc := 140) C d_R_resolveTop_140 rfl ?_
            refine u_getr (pc := 141) (r := 0) C d_R_resolveTop_141 fw_R_18 sC_75 rfl rfl ?_
            refine u_getr (pc := 144) (r := 5) C d_R_resolveTop_144 fw_R_125 sC_0 rfl rfl ?_
            refine u_iload_n (pc := 147) C d_R_resolveTop_147 rfl ?_
            refine u_callSi (pc := 148) C d_R_resolveTop_148 mx_L_at mw_R_97 (c_L_at sC_5) rfl rfl (Nat.le_of_ble_eq_true rfl) (fun r148 M148 q148 => ?_)
            obtain ⟨e148, q148⟩ := q148
            have q148 := q148.symm
            subst q148
            rw [c2, (at_cd hcdY hc24).2.1] at e137
            rw [c2, (at_cd hcdY hc24).2.2.2.2] at e148
            subst e137
            subst e148
            have hkd : cd 0 c = 9 ∨ cd 0 c = 10 ∨ cd 0 c = 11 := by
              rw [hck] at c60 c79 c94 ⊢
              have z1 : 9 ≤ kk := (nI_leI (a := 9) (by omega) (by omega)).mp c60.1
              have z2 : kk ≤ 13 := (nI_leI (b := 13) (by omega) (by omega)).mp c60.2
              have z3 : kk ≠ 12 := fun q => c79 (by rw [q]; rfl)
              have z4 : kk ≠ 13 := fun q => c94 (by rw [q]; rfl)
              rcases (show kk = 9 ∨ kk = 10 ∨ kk = 11 by omega) with rfl | rfl | rfl
              · exact Or.inl rfl
              · exact Or.inr (Or.inl rfl)
              · exact Or.inr (Or.inr rfl)
            refine u_callVv (pc := 151) C d_R_resolveTop_151 mx_R_begin mw_R_128 sC_75 rfl (c_R_begin hkd hV.2.2) rfl rfl (Nat.le_of_ble_eq_true rfl) (fun M151 q151 => ?_)
            obtain ⟨hE151, oB⟩ := q151
            refine u_aload_n (pc := 154) C d_R_resolveTop_154 rfl ?_
            refine u_aload_n (pc := 155) C d_R_resolveTop_155 rfl ?_
            refine u_aload_n (pc := 156) C d_R_resolveTop_156 rfl ?_
            have hRB : RepG M151 k n (put4 (popd g) c) tb (m + 1) := hRY.off oB (fun p q => e_g hk q)
            have hcdB : CDm M151 cd := hcdY.off oB (fun p h1 h2 => e_cd h1 h2)
            have hLB : LGd M151 b (th ++ [top g]) ev := hLY.off oB (fun p q => e_l q (by decide))
            have hok : evok (bgE (cd 0 c) (cd 1 c) (cd 4 c) (vals cd (put4 (popd g) c) tb)) := by
              refine ⟨?_, ?_, within_ok _⟩
              · rcases hkd with q | q | q <;> rw [bgE, q]
                · exact ⟨1, by decide, rfl⟩
                · exact ⟨2, by decide, rfl⟩
                · exact ⟨0, by decide, rfl⟩
              · unfold bgE
                dsimp only
                split
                · exact (pl01 hpo).2.2
                · exact hpo
            refine u_callVv (pc := 157) C d_R_resolveTop_157 mx_R_happen mw_R_88 sC_75 rfl (c_R_happen hk hb hWc hcdB hRB hLB hE151 hok) rfl rfl (Nat.le_of_ble_eq_true rfl) (fun M157 q157 => ?_)
            obtain ⟨m9, g9, l9, o9, v9⟩ := q157
            refine u_vret (pc := 160) C d_R_resolveTop_160 (hQ _ _ ⟨rfl, ?_⟩)
            rw [er, answ_def]
            have hof : Off (EngS k b) M M157 := ((hoc.trans (oY.mono (fun p q => Or.inr (Or.inr (Or.inl q))))).trans (oB.mono (fun p q => Or.inr (Or.inr (Or.inr q))))).trans (o9.mono (fun p q => by
              rcases q with q | q | q
              · exact Or.inl q
              · exact Or.inr (Or.inl q)
              · exact Or.inr (Or.inr (Or.inr q))))
            rcases hkd with q | q | q
            · rw [if_pos q]
              simp only [bgE, q] at g9 l9 v9
              exact ⟨m9, g9, l9, hof, hmc.trans v9⟩
            · rw [if_neg (by rw [q]; decide), if_pos q]
              simp only [bgE, q] at g9 l9 v9
              exact ⟨m9, g9, l9, hof, hmc.trans v9⟩
            · rw [if_neg (by rw [q]; decide), if_neg (by rw [q]; decide), if_pos q]
              simp only [bgE, q] at g9 l9 v9
              exact ⟨m9, g9, l9, hof, hmc.trans v9⟩
          · refine u_aload_n (pc := 97) C d_R_resolveTop_97 rfl ?_
            refine u_aload_n (pc := 98) C d_R_resolveTop_98 rfl ?_
            refine u_iconst (pc := 99) (v := 1) C d_R_resolveTop_99 (by decide) ?_
            refine u_aload_n (pc := 100) C d_R_resolveTop_100 rfl ?_
            refine u_getr (pc := 101) (r := 0) C d_R_resolveTop_101 fw_R_18 sC_75 rfl rfl ?_
            refine u_getr (pc := 104) (r := 2) C d_R_resolveTop_104 fw_R_115 sC_0 rfl rfl ?_
            refine u_iload_n (pc := 107) C d_R_resolveTop_107 rfl ?_
            refine u_callSi (pc := 108) C d_R_resolveTop_108 mx_L_at mw_R_97 (c_L_at sC_2) rfl rfl (Nat.le_of_ble_eq_true rfl) (fun r108 M108 q108 => ?_)
            obtain ⟨e108, q108⟩ := q108
            have q108 := q108.symm
            subst q108
            refine u_isub (pc := 111) C d_R_resolveTop_111 ?_
            refine u_callVv (pc := 112) C d_R_resolveTop_112 mx_R_clearYoungest mw_R_118 sC_75 rfl (c_R_clearYoungest hk hWc hRc hcdc) rfl rfl (Nat.le_of_ble_eq_true rfl) (fun M112 q112 => ?_)
            obtain ⟨m9, g9, o9, v9⟩ := q112
            refine u_goto (pc := 115) (tgt := 160) C d_R_resolveTop_115 rfl ?_
            refine u_vret (pc := 160) C d_R_resolveTop_160 (hQ _ _ ⟨rfl, ?_⟩)
            rw [er, answ_def]
            rw [c2, (at_cd hcdc hc24).2.1] at e108
            rw [e108] at g9 v9
            rw [if_neg (by rw [c94]; decide), if_neg (by rw [c94]; decide), if_neg (by rw [c94]; decide), if_neg (by rw [c94]; decide), List.append_nil]
            exact ⟨m9, g9, hLc.off o9 (fun p q => g_l hk q), hoc.trans (o9.mono (fun p q => Or.inl q)), hmc.trans v9⟩
        · refine u_aload_n (pc := 82) C d_R_resolveTop_82 rfl ?_
          refine u_aload_n (pc := 83) C d_R_resolveTop_83 rfl ?_
          refine u_callVv (pc := 84) C d_R_resolveTop_84 mx_R_stopTop mw_R_111 sC_75 rfl (c_R_stopTop hk hWc hRc) rfl rfl (Nat.le_of_ble_eq_true rfl) (fun M84 q84 => ?_)
          obtain ⟨m9, g9, o9, v9⟩ := q84
          refine u_goto (pc := 87) (tgt := 160) C d_R_resolveTop_87 rfl ?_
          refine u_vret (pc := 160) C d_R_resolveTop_160 (hQ _ _ ⟨rfl, ?_⟩)
          rw [er, answ_def]
          rw [if_neg (by rw [c79]; decide), if_neg (by rw [c79]; decide), if_neg (by rw [c79]; decide), if_pos c79, List.append_nil]
          exact ⟨m9, g9, hLc.off o9 (fun p q => g_l hk q), hoc.trans (o9.mono (fun p q => Or.inl q)), hmc.trans v9⟩
      · refine u_aload_n (pc := 63) C d_R_resolveTop_63 rfl ?_
        refine u_iload_n (pc := 64) C d_R_resolveTop_64 rfl ?_
        refine u_callVv (pc := 65) C d_R_resolveTop_65 mx_G_layDown mw_R_104 (shG0 hk) rfl (c_G_layDown hk) rfl rfl (Nat.le_of_ble_eq_true rfl) (fun M65 q65 => ?_)
        have q65 := q65.symm
        subst q65
        refine u_vret (pc := 68) C d_R_resolveTop_68 (hQ _ _ ⟨rfl, ?_⟩)
        rw [e56, hf3] at c60
        have er : rsv cd n (g, tb) = ((up2 (up2 (up2 (popd g) 3 c 3) 4 c ((popd g) 1 0)) 1 0 ((popd g) 1 0 + 1), tb ++ [c]), []) := by rw [rsv_def, if_neg hx, hcl, if_neg c60]
        rw [er]
        have hct : c ∉ tb := fun q => by
          have := ((hW.2.1.2.1 c).mp q).2
          rw [c3] at this
          exact absurd this (by decide)
        have ht24 : tb.length < 24 := by
          have h9 := nodup_len (n := n) (l := c :: tb) (List.nodup_cons.mpr ⟨hct, hW.2.1.1⟩) (fun x hx => by
            rcases List.mem_cons.mp hx with q | q
            · rw [q]; exact c1
            · exact hbn x q)
          rw [List.length_cons] at h9
          omega
        have oc : Off (blk k) M12 (ldF M12 k (top g)) := ldF_off
        refine ⟨m + 1, by rw [c2]; exact hR12.lay hc24 ht24 hct, ?_, ho12.trans (oc.mono (fun p q => Or.inl q)), mvd.pop.trans (mvd.mv (c := c) (x := 3) c1 ?_ ?_)⟩
        · rw [List.append_nil]
          exact hL12.off oc (fun p q => g_l hk q)
        · show (up2 (up2 (up2 (popd g) 3 c 3) 4 c ((popd g) 1 0)) 1 0 ((popd g) 1 0 + 1)) 3 = (up2 (popd g) 3 c 3) 3
          rw [up2_s (show 3 ≠ 1 by decide), up2_s (show 3 ≠ 4 by decide)]
        · rw [popd_3 (by decide), c3]; decide
    · refine u_aload_n (pc := 22) C d_R_resolveTop_22 rfl ?_
      refine u_getr (pc := 23) (r := (ep 1)) C d_R_resolveTop_23 fw_R_34 sC_75 rfl rfl ?_
      refine u_iload_n (pc := 26) C d_R_resolveTop_26 rfl ?_
      refine u_sipush (pc := 27) (v := 10000) C d_R_resolveTop_27 (by decide) ?_
      refine u_isub (pc := 30) C d_R_resolveTop_30 ?_
      refine u_callVv (pc := 31) C d_R_resolveTop_31 mx_E_becomeTold mw_R_85 (shE0 (by decide)) rfl (c_E_becomeTold (b := 1) (by decide)) rfl rfl (Nat.le_of_ble_eq_true rfl) (fun M31 q31 => ?_)
      obtain ⟨hE31, o31⟩ := q31
      refine u_aload_n (pc := 34) C d_R_resolveTop_34 rfl ?_
      refine u_aload_n (pc := 35) C d_R_resolveTop_35 rfl ?_
      refine u_aload_n (pc := 36) C d_R_resolveTop_36 rfl ?_
      have hR31 : RepG M31 k n (popd g) tb m := hR12.off o31 (fun p q => e_g hk q)
      have hcd31 : CDm M31 cd := hcd12.off o31 (fun p h1 h2 => e_cd h1 h2)
      have hL31 : LGd M31 b (th ++ [top g]) ev := hL12.off o31 (fun p q => e_l q (by decide))
      have hx : 10000 ≤ top g := Int32.not_lt.mp c19
      obtain ⟨t, p, a, t1, t2, t3, t4, t5, t6⟩ := thV_shad w2 hn hx
      have hok : evok (shT (top g), shP (top g), withinF (shA (top g)) 0 99) := ⟨⟨t, t1, t4⟩, by
        show shP (top g) = 0 ∨ shP (top g) = 1
        rw [t5]
        rcases (show p = 0 ∨ p = 1 by omega) with rfl | rfl
        · exact Or.inl rfl
        · exact Or.inr rfl, within_ok _⟩
      refine u_callVv (pc := 37) C d_R_resolveTop_37 mx_R_happen mw_R_88 sC_75 rfl (c_R_happen hk hb w1 hcd31 hR31 hL31 hE31 hok) rfl rfl (Nat.le_of_ble_eq_true rfl) (fun M37 q37 => ?_)
      obtain ⟨m9, g9, l9, o9, v9⟩ := q37
      refine u_vret (pc := 40) C d_R_resolveTop_40 (hQ _ _ ⟨rfl, ?_⟩)
      have er : rsv cd n (g, tb) = ((evt cd n tb (shT (top g)) (shP (top g)) (shA (top g)) (popd g), tb), [evc cd tb (shT (top g)) (shP (top g)) (shA (top g))]) := by rw [rsv_def, if_pos hx]
      rw [er]
      refine ⟨m9, g9, l9, (ho12.trans (o31.mono (fun p q => Or.inr (Or.inr (Or.inr q))))).trans (o9.mono (fun p q => ?_)), mvd.pop.trans v9⟩
      rcases q with q | q | q
      · exact Or.inl q
      · exact Or.inr (Or.inl q)
      · exact Or.inr (Or.inr (Or.inr q))
  · exact absurd (Int32.not_lt.mp hpos) c6
