/-! the reference: by turns -/
theorem shLev {lv : Nat} (h : lv < 6) : sh lyR (8 + lv) 1 123 := (by decide +kernel : ∀ lv, lv < 6 → (8 + lv < lyR.1 ∧ lyR.2.1 (8 + lv) = (1, 123))) lv h
theorem lev_ix {lv : Nat} (h : lv < 6) : lyR.2.2 7 (nI lv).toNatClampNeg = 8 + lv := by rw [nI_clamp (by omega)]; rfl
theorem chg_1 {g : Gm} {p b : Int32} {j : Nat} : (chg g p b) 1 j = g 1 j := by rw [chg, up2_s (by decide)]
theorem draw_1 {cd : Nat → Nat → Int32} {n : Nat} {p : Int32} {g : Gm} : (draw1 cd n p g) 1 2 = g 1 2 := by
  unfold draw1
  split
  · exact chg_1
  · rw [up2_s (by decide), up2_n (by decide)]
theorem rptd_1 {cd : Nat → Nat → Int32} {n : Nat} {p : Int32} : ∀ (k : Nat) {g : Gm}, (rpt (draw1 cd n p) k g) 1 2 = g 1 2 := by
  intro k
  induction k with
  | zero => intro g; rfl
  | succ k ih => intro g; rw [rpt, ih, draw_1]
theorem evt_12 {cd : Nat → Nat → Int32} {n : Nat} {tb : List Nat} {t p a : Int32} {g : Gm} (h : HB g) : (evt cd n tb t p a g) 1 2 = g 1 2 := by
  rw [evt_eq, happ_def]
  have h1 : ∀ (e : Int32 × Int32 × Int32), HB (if e.1 = 1 then chg g e.2.1 (-e.2.2) else if e.1 = 2 then chg g e.2.1 e.2.2 else rpt (draw1 cd n e.2.1) e.2.2.toNatClampNeg g) ∧ (if e.1 = 1 then chg g e.2.1 (-e.2.2) else if e.1 = 2 then chg g e.2.1 e.2.2 else rpt (draw1 cd n e.2.1) e.2.2.toNatClampNeg g) 1 2 = g 1 2 := by
    intro e
    by_cases q1 : e.1 = 1
    · rw [if_pos q1]; exact ⟨chg_hb h, chg_1⟩
    · rw [if_neg q1]
      by_cases q2 : e.1 = 2
      · rw [if_pos q2]; exact ⟨chg_hb h, chg_1⟩
      · rw [if_neg q2]; exact ⟨rptd_hb _ h, rptd_1 _⟩
  obtain ⟨b1, b2⟩ := h1 (repl cd tb.length tb (t, p, withinF a 0 99)).1
  split
  · rw [show (echo cd tb (repl cd tb.length tb (t, p, withinF a 0 99)).1.1 _) 1 2 = _ from (fold_psh (f := shdw cd) _ _ b1).2.2 2 (by decide)]
    exact b2
  · exact b2
theorem put4_1 {g : Gm} {c j : Nat} : (put4 g c) 1 j = g 1 j := by rw [put4, up2_s (by decide)]
theorem rsv_12 {cd : Nat → Nat → Int32} {n h : Nat} {g : Gm} {tb : List Nat} (hw : WFg cd n g tb) (hh : g 1 4 = nI h) (h0 : 0 < h) (h64 : h ≤ 64) : (rsv cd n (g, tb)).1.1 1 2 = g 1 2 := by
  obtain ⟨w1, w2, w3⟩ := hw.pop hh h0 h64
  have hn := hw.1.1
  rw [rsv_def]
  split
  · show (evt cd n tb _ _ _ (popd g)) 1 2 = _
    rw [evt_12 w1.hb, popd_1 (by decide)]
  · rename_i hx
    obtain ⟨c, c1, c2, c3⟩ := thV_card w2 hx
    have e9 : (top g).toNatClampNeg = c := by rw [c2, nI_clamp (by omega)]
    rw [e9]
    have w4 := hw.top4 hh h0 h64 c1 c2 c3
    split
    · rw [answ_def]
      split
      · show (evt cd n tb _ _ _ (put4 (popd g) c)) 1 2 = _
        rw [evt_12 w4.hb, put4_1, popd_1 (by decide)]
      · split
        · show (evt cd n tb _ _ _ (put4 (popd g) c)) 1 2 = _
          rw [evt_12 w4.hb, put4_1, popd_1 (by decide)]
        · split
          · show (evt cd n tb _ _ _ (put4 (popd g) c)) 1 2 = _
            rw [evt_12 w4.hb, put4_1, popd_1 (by decide)]
          · split
            · show (stp (put4 (popd g) c)) 1 2 = _
              rw [show stp (put4 (popd g) c) = if (put4 (popd g) c) 1 4 ≤ 0 then put4 (popd g) c else if 10000 ≤ top (put4 (popd g) c) then popd (put4 (popd g) c) else put4 (popd (put4 (popd g) c)) (top (put4 (popd g) c)).toNatClampNeg from rfl]
              split
              · rw [put4_1, popd_1 (by decide)]
              · split
                · rw [popd_1 (by decide), put4_1, popd_1 (by decide)]
                · rw [put4_1, popd_1 (by decide), put4_1, popd_1 (by decide)]
            · show (clr cd (1 - cd 1 c) (put4 (popd g) c, tb)).1 1 2 = _
              rw [show clr cd (1 - cd 1 c) (put4 (popd g) c, tb) = match yng cd tb (1 - cd 1 c) with | none => (put4 (popd g) c, tb) | some d => (put4 (put4 (popd g) c) d, tb.erase d) from rfl]
              cases yng cd tb (1 - cd 1 c) with
              | none => show (put4 (popd g) c) 1 2 = _; rw [put4_1, popd_1 (by decide)]
              | some d => show (put4 (put4 (popd g) c) d) 1 2 = _; rw [put4_1, put4_1, popd_1 (by decide)]
    · show (up2 (up2 (up2 (popd g) 3 c 3) 4 c ((popd g) 1 0)) 1 0 ((popd g) 1 0 + 1)) 1 2 = _
      rw [up2_n (by decide), up2_s (by decide), up2_s (by decide), popd_1 (by decide)]
theorem runR_goes {cd : Nat → Nat → Int32} {n : Nat} {s : Gm × List Nat} : ∀ q, q < (runR cd n s).1 → goesOn cd n s q := by
  unfold runR
  by_cases h : ∃ q : Nat × Int32 × Int32 × Int32, Run cd n s q.1 q.2.1 q.2.2.1 q.2.2.2
  · rw [dif_pos h]; exact (Classical.choose_spec h).1
  · rw [dif_neg h]; intro q hq; exact absurd hq (Nat.not_lt_zero q)
theorem runS_12 {cd : Nat → Nat → Int32} {n : Nat} {s : Gm × List Nat} (h : WFg cd n s.1 s.2) : ∀ t, (∀ q, q < t → goesOn cd n s q) → (runS cd n s t).1 1 2 = s.1 1 2 := by
  intro t
  induction t with
  | zero => intro _; rfl
  | succ t ih =>
    intro hg
    have hw := runs_wf h t (fun q hq => hg q (by omega))
    obtain ⟨hh, h64, h4⟩ := hw.hb
    have hnz := (hg t (by omega)).2.1
    have h0 : 0 < hh := by
      rcases Nat.eq_zero_or_pos hh with z | z
      · rw [z] at h4; exact absurd h4 hnz
      · exact z
    exact (rsv_12 hw h4 h0 h64).trans (ih (fun q hq => hg q (by omega)))
theorem runG_12 {cd : Nat → Nat → Int32} {n : Nat} {s : Gm × List Nat} (h : WFg cd n s.1 s.2) : (runG cd n s).1 1 2 = s.1 1 2 := runS_12 h _ runR_goes
theorem plG_12 {g : Gm} {c : Nat} : (plG g c) 1 2 = g 1 2 := by rw [plG, up2_s (by decide), psh_1 (by decide)]
theorem mvr_01 {j : Nat} {g : Gm} (h : g 1 2 = 0 ∨ g 1 2 = 1) : mvr j g = 0 ∨ mvr j g = 1 := by
  unfold mvr
  split
  · exact h
  · rcases h with q | q
    · rw [q]; exact Or.inr rfl
    · rw [q]; exact Or.inl rfl
theorem mvr_s {j : Nat} {g g' : Gm} (h : g 1 2 = 0 ∨ g 1 2 = 1) (e : g' 1 2 = g 1 2) : 1 - mvr j g = mvr (j + 1) g' := by
  unfold mvr
  rw [e]
  by_cases q : j % 2 = 0
  · rw [if_pos q, if_neg (by omega)]
  · rw [if_neg q, if_pos (by omega)]
    rcases h with z | z <;> rw [z] <;> rfl
theorem mvr_w {j : Nat} {g : Gm} (h : g 1 2 = 0 ∨ g 1 2 = 1) : mvr j g = g 1 2 ↔ j % 2 = 0 := by
  unfold mvr
  by_cases q : j % 2 = 0
  · rw [if_pos q]; exact ⟨fun _ => q, fun _ => rfl⟩
  · rw [if_neg q]
    refine ⟨fun z => ?_, fun z => absurd z q⟩
    rcases h with y | y <;> rw [y] at z <;> exact absurd z (by decide)
/-- below a level nothing changes -/
def rcR (lv p j : Nat) : Prop := thR p j ∧ ¬ (8 ≤ p ∧ p < 8 + lv)
theorem rc_mono {lv p j : Nat} (h : rcR (lv + 1) p j) : rcR lv p j := ⟨h.1, fun z => h.2 ⟨z.1, by omega⟩⟩
theorem rn_rc {lv p j : Nat} (hl : lv < 6) (h : rnR p j) : rcR lv p j := ⟨rn_th h, fun z => by unfold rnR rvR at h; omega⟩
theorem g_rc {lv p j : Nat} (h : gR p j) : rcR lv p j := ⟨g_th h, fun z => by unfold gR at h; omega⟩
theorem OfR.rc0 {lv : Nat} {M M' : Mem} (h : OfR (rcR lv) M M') (h0 : M.1 0 32 = 0) : M'.1 0 32 = 0 := OfR.tr h0 h (fun z => by have := z.1; unfold thR at this; omega)
theorem RS.rc {lv : Nat} {M M' : Mem} {cd : Nat → Nat → Int32} {n : Nat} {g : Gm} {tb : List Nat} (hS : RS M cd n g tb) (h : OfR (rcR lv) M M') (h6 : ∀ j, j < 123 → M'.1 6 j = M.1 6 j) : RS M' cd n g tb :=
  ⟨hS.1, h.cd hS.2.1 (fun p j _ _ z => by have := z.1; unfold thR at this; omega), by rw [h 0 5 (fun z => by have := z.1; unfold thR at this; omega)]; exact hS.2.2.1, hS.2.2.2.of_eq h6⟩
theorem cp_rc {lv : Nat} {M M' : Mem} (c1 : ∀ t, t ≠ 8 + lv → M'.1 t = M.1 t) (hl : lv < 6) : OfR (rcR lv) M M' := fun p j hp => by
  rw [c1 p (fun z => hp ⟨by unfold thR; omega, by omega⟩)]
theorem cb_rc {lv : Nat} {M M' : Mem} (c1 : ∀ t, t ≠ 6 → M'.1 t = M.1 t) : OfR (rcR lv) M M' := fun p j hp => by
  rw [c1 p (fun z => hp ⟨Or.inl z, by omega⟩)]
set_option maxRecDepth 20000 in
theorem c_M_reach0 {cd : Nat → Nat → Int32} {n j lv : Nat} {s : Gm × List Nat} {M : Mem} {p wt : Int32} {th ev : List Int32} (hS : RS M cd n s.1 s.2) (ht0 : M.1 0 32 = 0) (hL0 : LGr M th ev) (hw : wt = s.1 1 2) (hp : p = mvr j s.1) (hlv : lv = j + 1) (hj : j ≤ 3) : Ct lyR y_M_reach b_M_reach 9 (some .int) 1 [.ref 0, .int (nI lv), .int (nI 0), .int p, .int wt] M (Pi fun r M' => r = otc cd n 0 j s ∧ OfR (rcR lv) M M' ∧ (∀ j, j < 123 → M'.1 6 j = M.1 6 j) ∧ LGr M' th ev) := by
  have h12 : wt = 0 ∨ wt = 1 := by rw [hw]; exact hS.1.2.2.2.2.2.1
  refine Ct.ofG mx_M_reach [some (.ref 0), some (.int (nI lv)), some (.int (nI 0)), some (.int p), some (.int wt), none, none, none, none] rfl rfl (Nat.le_of_ble_eq_true rfl) (fun κ C hQ => ?_)
  refine u_iload_n (pc := 0) C d_M_reach_0 rfl ?_
  refine u_if_ne (pc := 1) (tgt := 11) C d_M_reach_1 rfl (fun c1 => ?_) (fun c1 => ?_)
  · exact absurd (show nI 0 = 0 from rfl) c1
  · refine u_aload_n (pc := 4) C d_M_reach_4 rfl ?_
    refine u_iload (pc := 5) C d_M_reach_5 rfl ?_
    refine u_callVi (pc := 7) C d_M_reach_7 mx_M_worthOf mw_M_304 sR_0 rfl (c_worth2 hS h12) rfl rfl (Nat.le_of_ble_eq_true rfl) (fun r7 M7 q7 => ?_)
    obtain ⟨e7, q7⟩ := q7
    have q7 := q7.symm
    subst q7
    refine u_iret (pc := 10) C d_M_reach_10 (hQ _ _ ⟨_, rfl, ?_⟩)
    exact ⟨by rw [e7, hw]; rfl, OfR.refl, fun _ _ => rfl, hL0⟩
set_option maxRecDepth 20000 in
theorem lp_rch1 {κ : KX} {cd : Nat → Nat → Int32} {n j lv : Nat} {s : Gm × List Nat} {M : Mem} {p wt : Int32} {th ev : List Int32} (hS : RS M cd n s.1 s.2) (ht0 : M.1 0 32 = 0) (hL0 : LGr M th ev) (hw : wt = s.1 1 2) (hp : p = mvr j s.1) (hlv : lv = j + 1) (hj : j + 1 ≤ 3) (C : Cx κ lyR y_M_reach.cls b_M_reach 9 (some .int) 9) (hQ : ∀ v M', Pi (fun r M' => r = otc cd n 1 j s ∧ OfR (rcR lv) M M' ∧ (∀ j, j < 123 → M'.1 6 j = M.1 6 j) ∧ LGr M' th ev) v M' → KQ κ v M') : ∀ (f i : Nat) (x5 x6 : Int32) (M1 : Mem), i ≤ n → n - i < f → x6 = nI (atP cd i s.1 p 1).length → (atP cd i s.1 p 1).length ≤ 3 → x5 = bo (fun i => otc cd n 0 (j + 1) (runG cd n (chc cd n j s i))) (decide (j % 2 = 0)) ((atP cd i s.1 p 1).length + 1) → (¬ s.1 1 4 < 64 → i = 0) → OfR (rcR lv) M M1 → (∀ j, j < 123 → M1.1 6 j = M.1 6 j) → (∀ j, j < 123 → M1.1 (8 + lv) j = M.1 6 j) → LGr M1 th ev → G κ lyR 65 [some (.ref 0), some (.int (nI lv)), some (.int (nI 1)), some (.int p), some (.int wt), some (.int x5), some (.int x6), some (.int (nI i)), none] [] M1 := by
  intro f
  induction f with
  | zero => intro i x5 x6 M1 _ h; omega
  | succ f ih =>
    intro i x5 x6 M1 hi hf e6 htr e5 h64i ho h6 h8 hL
    have hl8 : sh lyR (8 + lv) 1 123 := shLev (by omega)
    have hS1 : RS M1 cd n s.1 s.2 := hS.rc ho h6
    have ht1 : M1.1 0 32 = 0 := ho.rc0 ht0
    have n24 := hS.n24
    have h5 := hS1.2.2.1
    have hac := hS.1.2.2.2.2.2.1
    have hp01 : p = 0 ∨ p = 1 := by rw [hp]; exact mvr_01 hac
    obtain ⟨k1, k2, k3, k4, k5⟩ := hS1.cdc
    obtain ⟨h, hh64, hh4⟩ := hS1.1.hb
    have hm : M1.1 6 6 = nI h := by rw [← hh4]; exact hS1.many
    have hin : nI n ≤ nI i ↔ n ≤ i := nI_leI (by omega) (by omega)
    have hlen := atP_len (cd := cd) (n := i) (g := s.1) (p := p) (pl := 1)
    have h3n : (3 : Int32) ≤ nI (atP cd i s.1 p 1).length ↔ 3 ≤ (atP cd i s.1 p 1).length := nI_leI (a := 3) (by omega) (by omega)
    obtain ⟨r9, hr9⟩ := atP_pre (cd := cd) (g := s.1) (p := p) (pl := 1) hi
    have hlr : (atP cd n s.1 p 1).length = (atP cd i s.1 p 1).length + r9.length := by rw [hr9, List.length_append]
    refine u_iload (pc := 65) C d_M_reach_65 rfl ?_
    refine u_aload_n (pc := 67) C d_M_reach_67 rfl ?_
    refine u_geti (pc := 68) C d_M_reach_68 fw_M_70 sR_0 rfl ?_
    refine u_icmp_ge (pc := 71) (tgt := 202) C d_M_reach_71 rfl (fun c71 => ?_) (fun c71 => ?_)
    · refine u_iload (pc := 202) C d_M_reach_202 rfl ?_
      refine u_iret (pc := 204) C d_M_reach_204 (hQ _ _ ⟨_, rfl, ?_⟩)
      refine ⟨?_, ho, h6, hL⟩
      rw [e5, otc, ← hp]
      congr 1
      unfold cntO
      by_cases z : s.1 1 4 < 64
      · have hge : i = n := by rw [h5, hin] at c71; omega
        subst hge
        rw [if_pos z]
        omega
      · have := h64i z
        subst this
        rw [if_neg z]; rfl
    · have hlt : i < n := by rw [h5, hin] at c71; omega
      have hi24 : i < 24 := by omega
      refine u_iload (pc := 74) C d_M_reach_74 rfl ?_
      refine u_iconst (pc := 76) (v := 3) C d_M_reach_76 (by decide) ?_
      refine u_icmp_ge (pc := 77) (tgt := 202) C d_M_reach_77 rfl (fun c77 => ?_) (fun c77 => ?_)
      · refine u_iload (pc := 202) C d_M_reach_202 rfl ?_
        refine u_iret (pc := 204) C d_M_reach_204 (hQ _ _ ⟨_, rfl, ?_⟩)
        refine ⟨?_, ho, h6, hL⟩
        rw [e5, otc, ← hp]
        congr 1
        unfold cntO
        rw [e6, h3n] at c77
        by_cases z : s.1 1 4 < 64
        · rw [if_pos z]
          omega
        · have := h64i z
          subst this
          exact absurd c77 (by show ¬ 3 ≤ 0; omega)
      · rw [e6, h3n] at c77
        refine u_aload_n (pc := 80) C d_M_reach_80 rfl ?_
        refine u_getr (pc := 81) (r := 6) C d_M_reach_81 fw_M_25 sR_0 rfl rfl ?_
        refine u_bipush (pc := 84) (v := 6) C d_M_reach_84 (by decide) ?_
        refine u_iald (pc := 86) C d_M_reach_86 sR_6 v6 ?_
        refine u_bipush (pc := 87) (v := 64) C d_M_reach_87 (by decide) ?_
        refine u_icmp_ge (pc := 89) (tgt := 202) C d_M_reach_89 rfl (fun c89 => ?_) (fun c89 => ?_)
        · refine u_iload (pc := 202) C d_M_reach_202 rfl ?_
          refine u_iret (pc := 204) C d_M_reach_204 (hQ _ _ ⟨_, rfl, ?_⟩)
          refine ⟨?_, ho, h6, hL⟩
          rw [e5, otc, ← hp]
          congr 1
          unfold cntO
          rw [cl6, hm] at c89
          have hh : ¬ s.1 1 4 < 64 := by rw [hh4]; exact Int32.not_lt.mpr c89
          have := h64i hh
          subst this
          rw [if_neg hh]; rfl
        · rw [cl6, hm] at c89
          have hh : s.1 1 4 < 64 := by rw [hh4]; exact Int32.not_le.mp c89
          refine u_aload_n (pc := 92) C d_M_reach_92 rfl ?_
          refine u_getr (pc := 93) (r := 2) C d_M_reach_93 fw_M_13 sR_0 rfl rfl ?_
          refine u_iload (pc := 96) C d_M_reach_96 rfl ?_
          refine u_iald (pc := 98) C d_M_reach_98 sR_2 (vp24 hi24) ?_
          refine u_iload_n (pc := 99) C d_M_reach_99 rfl ?_
          refine u_icmp_ne (pc := 100) (tgt := 196) C d_M_reach_100 rfl (fun c100 => ?_) (fun c100 => ?_)
          · refine u_iinc (pc := 196) (v2 := 1) C d_M_reach_196 rfl rfl (by decide) (fun x196 e196 L9 hL9 => ?_)
            obtain rfl : L9 = [some (.ref 0), some (.int (nI lv)), some (.int (nI 1)), some (.int p), some (.int wt), some (.int x5), some (.int x6), some (.int x196), none] := hL9.symm
            refine u_goto (pc := 199) (tgt := 65) C d_M_reach_199 rfl ?_
            rw [k2, nI_clamp (by omega)] at c100
            obtain rfl : x196 = nI (i + 1) := by rw [e196, nI_succ]
            have hc : ¬ (s.1 3 i = 1 ∧ cd 1 i = p) := fun z => c100 z.2
            have ea : atP cd (i + 1) s.1 p 1 = atP cd i s.1 p 1 := by rw [atP_succ, if_neg hc, List.append_nil]
            exact ih (i + 1) _ _ _ (by omega) (by omega) (by rw [ea]; exact e6) (by rw [ea]; exact htr) (by rw [ea]; exact e5) (fun z => absurd hh z) ho h6 h8 hL
          · refine u_aload_n (pc := 103) C d_M_reach_103 rfl ?_
            refine u_iload (pc := 104) C d_M_reach_104 rfl ?_
            refine u_iconst (pc := 106) (v := 1) C d_M_reach_106 (by decide) ?_
            refine u_callVi (pc := 107) C d_M_reach_107 mx_M_isAt mw_M_164 sR_0 rfl (c_M_isAt hi24) rfl rfl (Nat.le_of_ble_eq_true rfl) (fun r107 M107 q107 => ?_)
            obtain ⟨e107, q107⟩ := q107
            have q107 := q107.symm
            subst q107
            rw [hS1.wh hi24] at e107
            refine u_if_eq (pc := 110) (tgt := 196) C d_M_reach_110 rfl (fun c110 => ?_) (fun c110 => ?_)
            · refine u_iinc (pc := 196) (v2 := 1) C d_M_reach_196 rfl rfl (by decide) (fun x196 e196 L9 hL9 => ?_)
              obtain rfl : L9 = [some (.ref 0), some (.int (nI lv)), some (.int (nI 1)), some (.int p), some (.int wt), some (.int x5), some (.int x6), some (.int x196), none] := hL9.symm
              refine u_goto (pc := 199) (tgt := 65) C d_M_reach_199 rfl ?_
              rw [k2, nI_clamp (by omega)] at c100
              obtain rfl : x196 = nI (i + 1) := by rw [e196, nI_succ]
              have hc : ¬ (s.1 3 i = 1 ∧ cd 1 i = p) := fun z => zero_of e107 c110 z.1
              have ea : atP cd (i + 1) s.1 p 1 = atP cd i s.1 p 1 := by rw [atP_succ, if_neg hc, List.append_nil]
              exact ih (i + 1) _ _ _ (by omega) (by omega) (by rw [ea]; exact e6) (by rw [ea]; exact htr) (by rw [ea]; exact e5) (fun z => absurd hh z) ho h6 h8 hL
            · have h1 := one_of e107 c110
              rw [k2, nI_clamp (by omega)] at c100
              have hcc : s.1 3 i = 1 ∧ cd 1 i = p := ⟨h1, c100⟩
              have hap := atP_at hlt hcc
              have hgd : (atP cd n s.1 p 1).getD (atP cd i s.1 p 1).length 0 = i := by rw [List.getD_eq_getElem?_getD, hap]; rfl
              have ea : (atP cd (i + 1) s.1 p 1).length = (atP cd i s.1 p 1).length + 1 := by rw [atP_succ, if_pos hcc, List.length_append]; rfl
              have hch : chc cd n j s ((atP cd i s.1 p 1).length + 1) = (plG s.1 i, s.2) := by
                unfold chc
                rw [if_neg (by omega), Nat.add_sub_cancel, ← hp, hgd]
              refine u_iinc (pc := 113) (v2 := 1) C d_M_reach_113 rfl rfl (by decide) (fun x113 e113 L9 hL9 => ?_)
              obtain rfl : L9 = [some (.ref 0), some (.int (nI lv)), some (.int (nI 1)), some (.int p), some (.int wt), some (.int x5), some (.int x113), some (.int (nI i)), none] := hL9.symm
              refine u_aload_n (pc := 116) C d_M_reach_116 rfl ?_
              refine u_iload (pc := 117) C d_M_reach_117 rfl ?_
              refine u_callVv (pc := 119) C d_M_reach_119 mx_M_playIt mw_M_247 sR_0 rfl (c_M_playIt hS1 hlt h1) rfl rfl (Nat.le_of_ble_eq_true rfl) (fun M119 q119 => ?_)
              obtain ⟨hSp, op⟩ := q119
              have htp := OfR.tr ht1 op (by unfold gR; decide)
              have hLp := hL.g op
              refine u_aload_n (pc := 122) C d_M_reach_122 rfl ?_
              refine u_callVi (pc := 123) C d_M_reach_123 mx_M_runIt mw_M_288 sR_0 rfl (c_M_runIt (s := (plG s.1 i, s.2)) (Or.inl rfl) hSp htp hLp) rfl rfl (Nat.le_of_ble_eq_true rfl) (fun r123 M123 q123 => ?_)
              obtain ⟨e123, ⟨w1, w2, w3, hS2, hL2⟩, o2⟩ := q123
              rw [if_neg (by decide), if_neg (by decide)] at hL2
              have ht2 := OfR.tr htp o2 (fun z => by unfold rnR rvR at z; omega)
              have hrg : (runG cd n (plG s.1 i, s.2)).1 1 2 = s.1 1 2 := (runG_12 hSp.1).trans plG_12
              refine u_pop (pc := 126) C d_M_reach_126 rfl ?_
              refine u_aload_n (pc := 127) C d_M_reach_127 rfl ?_
              refine u_iload_n (pc := 128) C d_M_reach_128 rfl ?_
              refine u_iconst (pc := 129) (v := 1) C d_M_reach_129 (by decide) ?_
              refine u_iadd (pc := 130) C d_M_reach_130 ?_
              refine u_iload_n (pc := 131) C d_M_reach_131 rfl ?_
              refine u_iconst (pc := 132) (v := 1) C d_M_reach_132 (by decide) ?_
              refine u_isub (pc := 133) C d_M_reach_133 ?_
              refine u_iconst (pc := 134) (v := 1) C d_M_reach_134 (by decide) ?_
              refine u_iload_n (pc := 135) C d_M_reach_135 rfl ?_
              refine u_isub (pc := 136) C d_M_reach_136 ?_
              refine u_iload (pc := 137) C d_M_reach_137 rfl ?_
              rw [nI_1 lv, show nI 1 - 1 = nI 0 from by decide]
              refine u_callVi (pc := 139) C d_M_reach_139 mx_M_reach mw_M_310 sR_0 rfl (c_M_reach0 (s := runG cd n (plG s.1 i, s.2)) (j := j + 1) hS2 ht2 hL2 (by rw [hrg]; exact hw) (by rw [hp]; exact mvr_s hac hrg) (by omega) (by omega)) rfl rfl (Nat.le_of_ble_eq_true rfl) (fun r139 M139 q139 => ?_)
              obtain ⟨e139, o3, h63, hL3⟩ := q139
              refine u_istore (pc := 142) C d_M_reach_142 rfl (fun x142 e142 L9 hL9 => ?_)
              obtain rfl : L9 = [some (.ref 0), some (.int (nI lv)), some (.int (nI 1)), some (.int p), some (.int wt), some (.int x5), some (.int x113), some (.int (nI i)), some (.int x142)] := hL9.symm
              refine u_iload_n (pc := 144) C d_M_reach_144 rfl ?_
              refine u_iload (pc := 145) C d_M_reach_145 rfl ?_
              refine u_icmp_ne (pc := 147) (tgt := 167) C d_M_reach_147 rfl (fun c147 => ?_) (fun c147 => ?_)
              · refine u_iload (pc := 167) C d_M_reach_167 rfl ?_
                refine u_iload (pc := 169) C d_M_reach_169 rfl ?_
                refine u_icmp_ge (pc := 171) (tgt := 179) C d_M_reach_171 rfl (fun c171 => ?_) (fun c171 => ?_)
                · refine u_iload (pc := 179) C d_M_reach_179 rfl ?_
                  refine u_istore (pc := 181) C d_M_reach_181 rfl (fun x181 e181 L9 hL9 => ?_)
                  obtain rfl : L9 = [some (.ref 0), some (.int (nI lv)), some (.int (nI 1)), some (.int p), some (.int wt), some (.int x181), some (.int x113), some (.int (nI i)), some (.int x142)] := hL9.symm
                  refine u_aload_n (pc := 183) C d_M_reach_183 rfl ?_
                  refine u_getr (pc := 184) (r := 7) C d_M_reach_184 fw_M_30 sR_0 rfl rfl ?_
                  refine u_iload_n (pc := 187) C d_M_reach_187 rfl ?_
                  refine u_aaldR (pc := 188) (r := (8 + lv)) C d_M_reach_188 sR_7 (vp_in_nI (show lv < 6 by omega) (by decide)) (lev_ix (by omega)) ?_
                  refine u_aload_n (pc := 189) C d_M_reach_189 rfl ?_
                  refine u_getr (pc := 190) (r := 6) C d_M_reach_190 fw_M_25 sR_0 rfl rfl ?_
                  refine u_callSv (pc := 193) C d_M_reach_193 mx_M_copy mw_M_300 (c_M_copy hl8 sR_6 (by omega)) rfl rfl (Nat.le_of_ble_eq_true rfl) (fun M193 q193 => ?_)
                  obtain ⟨cb1, cb2⟩ := q193
                  refine u_iinc (pc := 196) (v2 := 1) C d_M_reach_196 rfl rfl (by decide) (fun x196 e196 L9 hL9 => ?_)
                  obtain rfl : L9 = [some (.ref 0), some (.int (nI lv)), some (.int (nI 1)), some (.int p), some (.int wt), some (.int x181), some (.int x113), some (.int x196), some (.int x142)] := hL9.symm
                  refine u_goto (pc := 199) (tgt := 65) C d_M_reach_199 rfl ?_
                  obtain rfl : x196 = nI (i + 1) := by rw [e196, nI_succ]
                  refine u_drop 8 rfl ?_
                  have o19 : OfR (rcR lv) M1 M193 := (((op.mono (fun p j => g_rc)).trans (o2.mono (fun p j => rn_rc (by omega)))).trans (o3.mono (fun p j => rc_mono))).trans (cb_rc cb1)
                  have h88 : ∀ q, M139.1 (8 + lv) q = M1.1 (8 + lv) q := fun q => by
                    rw [o3 (8 + lv) q (fun z => z.2 ⟨by omega, by omega⟩), o2 (8 + lv) q (rn8 (by omega) q), op (8 + lv) q (by unfold gR; omega)]
                  refine ih (i + 1) _ _ _ (by omega) (by omega) ?_ (by rw [ea]; omega) ?_ (fun z => absurd hh z) (ho.trans o19) (fun q hq => ?_) (fun q hq => ?_) (hL3.g (fun p j hp9 => by rw [cb1 p hp9]))
                  · rw [e113, e6, ea, nI_succ]
                  · rw [ea, bo_up (by omega)]
                    rw [hch, ← e5, ← e139, ← e142]
                    have hjm : ¬ j % 2 = 0 := fun z => c147 (by rw [hp, hw]; exact (mvr_w hac).mpr z)
                    rw [if_neg (by rw [decide_eq_false hjm]; decide), e181, if_neg (Int32.not_lt.mpr c171)]
                  · rw [cb2 q hq, h88 q, h8 q hq]
                  · rw [cb1 (8 + lv) (by omega), h88 q, h8 q hq]
                · refine u_iload (pc := 174) C d_M_reach_174 rfl ?_
                  refine u_goto (pc := 176) (tgt := 181) C d_M_reach_176 rfl ?_
                  refine u_istore (pc := 181) C d_M_reach_181 rfl (fun x181 e181 L9 hL9 => ?_)
                  obtain rfl : L9 = [some (.ref 0), some (.int (nI lv)), some (.int (nI 1)), some (.int p), some (.int wt), some (.int x181), some (.int x113), some (.int (nI i)), some (.int x142)] := hL9.symm
                  refine u_aload_n (pc := 183) C d_M_reach_183 rfl ?_
                  refine u_getr (pc := 184) (r := 7) C d_M_reach_184 fw_M_30 sR_0 rfl rfl ?_
                  refine u_iload_n (pc := 187) C d_M_reach_187 rfl ?_
                  refine u_aaldR (pc := 188) (r := (8 + lv)) C d_M_reach_188 sR_7 (vp_in_nI (show lv < 6 by omega) (by decide)) (lev_ix (by omega)) ?_
                  refine u_aload_n (pc := 189) C d_M_reach_189 rfl ?_
                  refine u_getr (pc := 190) (r := 6) C d_M_reach_190 fw_M_25 sR_0 rfl rfl ?_
                  refine u_callSv (pc := 193) C d_M_reach_193 mx_M_copy mw_M_300 (c_M_copy hl8 sR_6 (by omega)) rfl rfl (Nat.le_of_ble_eq_true rfl) (fun M193 q193 => ?_)
                  obtain ⟨cb1, cb2⟩ := q193
                  refine u_iinc (pc := 196) (v2 := 1) C d_M_reach_196 rfl rfl (by decide) (fun x196 e196 L9 hL9 => ?_)
                  obtain rfl : L9 = [some (.ref 0), some (.int (nI lv)), some (.int (nI 1)), some (.int p), some (.int wt), some (.int x181), some (.int x113), some (.int x196), some (.int x142)] := hL9.symm
                  refine u_goto (pc := 199) (tgt := 65) C d_M_reach_199 rfl ?_
                  obtain rfl : x196 = nI (i + 1) := by rw [e196, nI_succ]
                  refine u_drop 8 rfl ?_
                  have o19 : OfR (rcR lv) M1 M193 := (((op.mono (fun p j => g_rc)).trans (o2.mono (fun p j => rn_rc (by omega)))).trans (o3.mono (fun p j => rc_mono))).trans (cb_rc cb1)
                  have h88 : ∀ q, M139.1 (8 + lv) q = M1.1 (8 + lv) q := fun q => by
                    rw [o3 (8 + lv) q (fun z => z.2 ⟨by omega, by omega⟩), o2 (8 + lv) q (rn8 (by omega) q), op (8 + lv) q (by unfold gR; omega)]
                  refine ih (i + 1) _ _ _ (by omega) (by omega) ?_ (by rw [ea]; omega) ?_ (fun z => absurd hh z) (ho.trans o19) (fun q hq => ?_) (fun q hq => ?_) (hL3.g (fun p j hp9 => by rw [cb1 p hp9]))
                  · rw [e113, e6, ea, nI_succ]
                  · rw [ea, bo_up (by omega)]
                    rw [hch, ← e5, ← e139, ← e142]
                    have hjm : ¬ j % 2 = 0 := fun z => c147 (by rw [hp, hw]; exact (mvr_w hac).mpr z)
                    rw [if_neg (by rw [decide_eq_false hjm]; decide), e181, if_pos (Int32.not_le.mp c171)]
                  · rw [cb2 q hq, h88 q, h8 q hq]
                  · rw [cb1 (8 + lv) (by omega), h88 q, h8 q hq]
              · refine u_iload (pc := 150) C d_M_reach_150 rfl ?_
                refine u_iload (pc := 152) C d_M_reach_152 rfl ?_
                refine u_icmp_le (pc := 154) (tgt := 162) C d_M_reach_154 rfl (fun c154 => ?_) (fun c154 => ?_)
                · refine u_iload (pc := 162) C d_M_reach_162 rfl ?_
                  refine u_goto (pc := 164) (tgt := 181) C d_M_reach_164 rfl ?_
                  refine u_istore (pc := 181) C d_M_reach_181 rfl (fun x181 e181 L9 hL9 => ?_)
                  obtain rfl : L9 = [some (.ref 0), some (.int (nI lv)), some (.int (nI 1)), some (.int p), some (.int wt), some (.int x181), some (.int x113), some (.int (nI i)), some (.int x142)] := hL9.symm
                  refine u_aload_n (pc := 183) C d_M_reach_183 rfl ?_
                  refine u_getr (pc := 184) (r := 7) C d_M_reach_184 fw_M_30 sR_0 rfl rfl ?_
                  refine u_iload_n (pc := 187) C d_M_reach_187 rfl ?_
                  refine u_aaldR (pc := 188) (r := (8 + lv)) C d_M_reach_188 sR_7 (vp_in_nI (show lv < 6 by omega) (by decide)) (lev_ix (by omega)) ?_
                  refine u_aload_n (pc := 189) C d_M_reach_189 rfl ?_
                  refine u_getr (pc := 190) (r := 6) C d_M_reach_190 fw_M_25 sR_0 rfl rfl ?_
                  refine u_callSv (pc := 193) C d_M_reach_193 mx_M_copy mw_M_300 (c_M_copy hl8 sR_6 (by omega)) rfl rfl (Nat.le_of_ble_eq_true rfl) (fun M193 q193 => ?_)
                  obtain ⟨cb1, cb2⟩ := q193
                  refine u_iinc (pc := 196) (v2 := 1) C d_M_reach_196 rfl rfl (by decide) (fun x196 e196 L9 hL9 => ?_)
                  obtain rfl : L9 = [some (.ref 0), some (.int (nI lv)), some (.int (nI 1)), some (.int p), some (.int wt), some (.int x181), some (.int x113), some (.int x196), some (.int x142)] := hL9.symm
                  refine u_goto (pc := 199) (tgt := 65) C d_M_reach_199 rfl ?_
                  obtain rfl : x196 = nI (i + 1) := by rw [e196, nI_succ]
                  refine u_drop 8 rfl ?_
                  have o19 : OfR (rcR lv) M1 M193 := (((op.mono (fun p j => g_rc)).trans (o2.mono (fun p j => rn_rc (by omega)))).trans (o3.mono (fun p j => rc_mono))).trans (cb_rc cb1)
                  have h88 : ∀ q, M139.1 (8 + lv) q = M1.1 (8 + lv) q := fun q => by
                    rw [o3 (8 + lv) q (fun z => z.2 ⟨by omega, by omega⟩), o2 (8 + lv) q (rn8 (by omega) q), op (8 + lv) q (by unfold gR; omega)]
                  refine ih (i + 1) _ _ _ (by omega) (by omega) ?_ (by rw [ea]; omega) ?_ (fun z => absurd hh z) (ho.trans o19) (fun q hq => ?_) (fun q hq => ?_) (hL3.g (fun p j hp9 => by rw [cb1 p hp9]))
                  · rw [e113, e6, ea, nI_succ]
                  · rw [ea, bo_up (by omega)]
                    rw [hch, ← e5, ← e139, ← e142]
                    have hjm : j % 2 = 0 := (mvr_w hac).mp (by rw [← hp, ← hw]; exact c147)
                    rw [if_pos (decide_eq_true hjm), e181, if_neg (Int32.not_lt.mpr c154)]
                  · rw [cb2 q hq, h88 q, h8 q hq]
                  · rw [cb1 (8 + lv) (by omega), h88 q, h8 q hq]
                · refine u_iload (pc := 157) C d_M_reach_157 rfl ?_
                  refine u_goto (pc := 159) (tgt := 181) C d_M_reach_159 rfl ?_
                  refine u_istore (pc := 181) C d_M_reach_181 rfl (fun x181 e181 L9 hL9 => ?_)
                  obtain rfl : L9 = [some (.ref 0), some (.int (nI lv)), some (.int (nI 1)), some (.int p), some (.int wt), some (.int x181), some (.int x113), some (.int (nI i)), some (.int x142)] := hL9.symm
                  refine u_aload_n (pc := 183) C d_M_reach_183 rfl ?_
                  refine u_getr (pc := 184) (r := 7) C d_M_reach_184 fw_M_30 sR_0 rfl rfl ?_
                  refine u_iload_n (pc := 187) C d_M_reach_187 rfl ?_
                  refine u_aaldR (pc := 188) (r := (8 + lv)) C d_M_reach_188 sR_7 (vp_in_nI (show lv < 6 by omega) (by decide)) (lev_ix (by omega)) ?_
                  refine u_aload_n (pc := 189) C d_M_reach_189 rfl ?_
                  refine u_getr (pc := 190) (r := 6) C d_M_reach_190 fw_M_25 sR_0 rfl rfl ?_
                  refine u_callSv (pc := 193) C d_M_reach_193 mx_M_copy mw_M_300 (c_M_copy hl8 sR_6 (by omega)) rfl rfl (Nat.le_of_ble_eq_true rfl) (fun M193 q193 => ?_)
                  obtain ⟨cb1, cb2⟩ := q193
                  refine u_iinc (pc := 196) (v2 := 1) C d_M_reach_196 rfl rfl (by decide) (fun x196 e196 L9 hL9 => ?_)
                  obtain rfl : L9 = [some (.ref 0), some (.int (nI lv)), some (.int (nI 1)), some (.int p), some (.int wt), some (.int x181), some (.int x113), some (.int x196), some (.int x142)] := hL9.symm
                  refine u_goto (pc := 199) (tgt := 65) C d_M_reach_199 rfl ?_
                  obtain rfl : x196 = nI (i + 1) := by rw [e196, nI_succ]
                  refine u_drop 8 rfl ?_
                  have o19 : OfR (rcR lv) M1 M193 := (((op.mono (fun p j => g_rc)).trans (o2.mono (fun p j => rn_rc (by omega)))).trans (o3.mono (fun p j => rc_mono))).trans (cb_rc cb1)
                  have h88 : ∀ q, M139.1 (8 + lv) q = M1.1 (8 + lv) q := fun q => by
                    rw [o3 (8 + lv) q (fun z => z.2 ⟨by omega, by omega⟩), o2 (8 + lv) q (rn8 (by omega) q), op (8 + lv) q (by unfold gR; omega)]
                  refine ih (i + 1) _ _ _ (by omega) (by omega) ?_ (by rw [ea]; omega) ?_ (fun z => absurd hh z) (ho.trans o19) (fun q hq => ?_) (fun q hq => ?_) (hL3.g (fun p j hp9 => by rw [cb1 p hp9]))
                  · rw [e113, e6, ea, nI_succ]
                  · rw [ea, bo_up (by omega)]
                    rw [hch, ← e5, ← e139, ← e142]
                    have hjm : j % 2 = 0 := (mvr_w hac).mp (by rw [← hp, ← hw]; exact c147)
                    rw [if_pos (decide_eq_true hjm), e181, if_pos (Int32.not_le.mp c154)]
                  · rw [cb2 q hq, h88 q, h8 q hq]
                  · rw [cb1 (8 + lv) (by omega), h88 q, h8 q hq]
set_option maxRecDepth 20000 in
theorem c_M_reach1 {cd : Nat → Nat → Int32} {n j lv : Nat} {s : Gm × List Nat} {M : Mem} {p wt : Int32} {th ev : List Int32} (hS : RS M cd n s.1 s.2) (ht0 : M.1 0 32 = 0) (hL0 : LGr M th ev) (hw : wt = s.1 1 2) (hp : p = mvr j s.1) (hlv : lv = j + 1) (hj : j + 1 ≤ 3) : Ct lyR y_M_reach b_M_reach 9 (some .int) 9 [.ref 0, .int (nI lv), .int (nI 1), .int p, .int wt] M (Pi fun r M' => r = otc cd n 1 j s ∧ OfR (rcR lv) M M' ∧ (∀ j, j < 123 → M'.1 6 j = M.1 6 j) ∧ LGr M' th ev) := by
  have hl8 : sh lyR (8 + lv) 1 123 := shLev (by omega)
  have n24 := hS.n24
  have hac := hS.1.2.2.2.2.2.1
  refine Ct.ofG mx_M_reach [some (.ref 0), some (.int (nI lv)), some (.int (nI 1)), some (.int p), some (.int wt), none, none, none, none] rfl rfl (Nat.le_of_ble_eq_true rfl) (fun κ C hQ => ?_)
  refine u_iload_n (pc := 0) C d_M_reach_0 rfl ?_
  refine u_if_ne (pc := 1) (tgt := 11) C d_M_reach_1 rfl (fun c1 => ?_) (fun c1 => ?_)
  · refine u_aload_n (pc := 11) C d_M_reach_11 rfl ?_
    refine u_getr (pc := 12) (r := 6) C d_M_reach_12 fw_M_25 sR_0 rfl rfl ?_
    refine u_aload_n (pc := 15) C d_M_reach_15 rfl ?_
    refine u_getr (pc := 16) (r := 7) C d_M_reach_16 fw_M_30 sR_0 rfl rfl ?_
    refine u_iload_n (pc := 19) C d_M_reach_19 rfl ?_
    refine u_aaldR (pc := 20) (r := (8 + lv)) C d_M_reach_20 sR_7 (vp_in_nI (show lv < 6 by omega) (by decide)) (lev_ix (by omega)) ?_
    refine u_callSv (pc := 21) C d_M_reach_21 mx_M_copy mw_M_300 (c_M_copy sR_6 hl8 (by omega)) rfl rfl (Nat.le_of_ble_eq_true rfl) (fun M21 q21 => ?_)
    obtain ⟨cp1, cp2⟩ := q21
    obtain ⟨hS1, ht1, hL1, oc1⟩ := cp8 hS ht0 hL0 cp1 (by omega)
    refine u_aload_n (pc := 24) C d_M_reach_24 rfl ?_
    refine u_callVi (pc := 25) C d_M_reach_25 mx_M_runIt mw_M_288 sR_0 rfl (c_M_runIt (s := s) (Or.inl rfl) hS1 ht1 hL1) rfl rfl (Nat.le_of_ble_eq_true rfl) (fun r25 M25 q25 => ?_)
    obtain ⟨e25, ⟨w1, w2, w3, hS2, hL2⟩, o2⟩ := q25
    rw [if_neg (by decide), if_neg (by decide)] at hL2
    have ht2 := OfR.tr ht1 o2 (fun z => by unfold rnR rvR at z; omega)
    have hrg : (runG cd n s).1 1 2 = s.1 1 2 := runG_12 hS.1
    refine u_pop (pc := 28) C d_M_reach_28 rfl ?_
    refine u_aload_n (pc := 29) C d_M_reach_29 rfl ?_
    refine u_iload_n (pc := 30) C d_M_reach_30 rfl ?_
    refine u_iconst (pc := 31) (v := 1) C d_M_reach_31 (by decide) ?_
    refine u_iadd (pc := 32) C d_M_reach_32 ?_
    refine u_iload_n (pc := 33) C d_M_reach_33 rfl ?_
    refine u_iconst (pc := 34) (v := 1) C d_M_reach_34 (by decide) ?_
    refine u_isub (pc := 35) C d_M_reach_35 ?_
    refine u_iconst (pc := 36) (v := 1) C d_M_reach_36 (by decide) ?_
    refine u_iload_n (pc := 37) C d_M_reach_37 rfl ?_
    refine u_isub (pc := 38) C d_M_reach_38 ?_
    refine u_iload (pc := 39) C d_M_reach_39 rfl ?_
    rw [nI_1 lv, show nI 1 - 1 = nI 0 from by decide]
    refine u_callVi (pc := 41) C d_M_reach_41 mx_M_reach mw_M_310 sR_0 rfl (c_M_reach0 (s := runG cd n s) (j := j + 1) hS2 ht2 hL2 (by rw [hrg]; exact hw) (by rw [hp]; exact mvr_s hac hrg) (by omega) (by omega)) rfl rfl (Nat.le_of_ble_eq_true rfl) (fun r41 M41 q41 => ?_)
    obtain ⟨e41, o3, h63, hL3⟩ := q41
    refine u_istore (pc := 44) C d_M_reach_44 rfl (fun x44 e44 L9 hL9 => ?_)
    obtain rfl : L9 = [some (.ref 0), some (.int (nI lv)), some (.int (nI 1)), some (.int p), some (.int wt), some (.int x44), none, none, none] := hL9.symm
    refine u_aload_n (pc := 46) C d_M_reach_46 rfl ?_
    refine u_getr (pc := 47) (r := 7) C d_M_reach_47 fw_M_30 sR_0 rfl rfl ?_
    refine u_iload_n (pc := 50) C d_M_reach_50 rfl ?_
    refine u_aaldR (pc := 51) (r := (8 + lv)) C d_M_reach_51 sR_7 (vp_in_nI (show lv < 6 by omega) (by decide)) (lev_ix (by omega)) ?_
    refine u_aload_n (pc := 52) C d_M_reach_52 rfl ?_
    refine u_getr (pc := 53) (r := 6) C d_M_reach_53 fw_M_25 sR_0 rfl rfl ?_
    refine u_callSv (pc := 56) C d_M_reach_56 mx_M_copy mw_M_300 (c_M_copy hl8 sR_6 (by omega)) rfl rfl (Nat.le_of_ble_eq_true rfl) (fun M56 q56 => ?_)
    obtain ⟨cb1, cb2⟩ := q56
    refine u_iconst (pc := 59) (v := 0) C d_M_reach_59 (by decide) ?_
    refine u_istore (pc := 60) C d_M_reach_60 rfl (fun x60 e60 L9 hL9 => ?_)
    obtain rfl : L9 = [some (.ref 0), some (.int (nI lv)), some (.int (nI 1)), some (.int p), some (.int wt), some (.int x44), some (.int x60), none, none] := hL9.symm
    refine u_iconst (pc := 62) (v := 0) C d_M_reach_62 (by decide) ?_
    refine u_istore (pc := 63) C d_M_reach_63 rfl (fun x63 e63 L9 hL9 => ?_)
    obtain rfl : L9 = [some (.ref 0), some (.int (nI lv)), some (.int (nI 1)), some (.int p), some (.int wt), some (.int x44), some (.int x60), some (.int x63), none] := hL9.symm
    subst e60
    subst e63
    have h88 : ∀ q, M41.1 (8 + lv) q = M21.1 (8 + lv) q := fun q => by
      rw [o3 (8 + lv) q (fun z => z.2 ⟨by omega, by omega⟩), o2 (8 + lv) q (rn8 (by omega) q)]
    have o19 : OfR (rcR lv) M M56 := (((cp_rc cp1 (by omega)).trans (o2.mono (fun p j => rn_rc (by omega)))).trans (o3.mono (fun p j => rc_mono))).trans (cb_rc cb1)
    refine lp_rch1 hS ht0 hL0 hw hp hlv hj C hQ (n + 1) 0 _ _ _ (by omega) (by omega) rfl (Nat.zero_le _) ?_ (fun _ => rfl) o19 (fun q hq => by rw [cb2 q hq, h88 q, cp2 q hq]) (fun q hq => by rw [cb1 (8 + lv) (by omega), h88 q, cp2 q hq]) (hL3.g (fun p j hp9 => by rw [cb1 p hp9]))
    show x44 = bo _ _ 1
    rw [bo_one, e44, e41]
    rfl
  · exact absurd c1 (by decide)
set_option maxRecDepth 20000 in
theorem lp_rch2 {κ : KX} {cd : Nat → Nat → Int32} {n j lv : Nat} {s : Gm × List Nat} {M : Mem} {p wt : Int32} {th ev : List Int32} (hS : RS M cd n s.1 s.2) (ht0 : M.1 0 32 = 0) (hL0 : LGr M th ev) (hw : wt = s.1 1 2) (hp : p = mvr j s.1) (hlv : lv = j + 1) (hj : j + 2 ≤ 3) (C : Cx κ lyR y_M_reach.cls b_M_reach 9 (some .int) 10) (hQ : ∀ v M', Pi (fun r M' => r = otc cd n 2 j s ∧ OfR (rcR lv) M M' ∧ (∀ j, j < 123 → M'.1 6 j = M.1 6 j) ∧ LGr M' th ev) v M' → KQ κ v M') : ∀ (f i : Nat) (x5 x6 : Int32) (M1 : Mem), i ≤ n → n - i < f → x6 = nI (atP cd i s.1 p 1).length → (atP cd i s.1 p 1).length ≤ 3 → x5 = bo (fun i => otc cd n 1 (j + 1) (runG cd n (chc cd n j s i))) (decide (j % 2 = 0)) ((atP cd i s.1 p 1).length + 1) → (¬ s.1 1 4 < 64 → i = 0) → OfR (rcR lv) M M1 → (∀ j, j < 123 → M1.1 6 j = M.1 6 j) → (∀ j, j < 123 → M1.1 (8 + lv) j = M.1 6 j) → LGr M1 th ev → G κ lyR 65 [some (.ref 0), some (.int (nI lv)), some (.int (nI 2)), some (.int p), some (.int wt), some (.int x5), some (.int x6), some (.int (nI i)), none] [] M1 := by
  intro f
  induction f with
  | zero => intro i x5 x6 M1 _ h; omega
  | succ f ih =>
    intro i x5 x6 M1 hi hf e6 htr e5 h64i ho h6 h8 hL
    have hl8 : sh lyR (8 + lv) 1 123 := shLev (by omega)
    have hS1 : RS M1 cd n s.1 s.2 := hS.rc ho h6
    have ht1 : M1.1 0 32 = 0 := ho.rc0 ht0
    have n24 := hS.n24
    have h5 := hS1.2.2.1
    have hac := hS.1.2.2.2.2.2.1
    have hp01 : p = 0 ∨ p = 1 := by rw [hp]; exact mvr_01 hac
    obtain ⟨k1, k2, k3, k4, k5⟩ := hS1.cdc
    obtain ⟨h, hh64, hh4⟩ := hS1.1.hb
    have hm : M1.1 6 6 = nI h := by rw [← hh4]; exact hS1.many
    have hin : nI n ≤ nI i ↔ n ≤ i := nI_leI (by omega) (by omega)
    have hlen := atP_len (cd := cd) (n := i) (g := s.1) (p := p) (pl := 1)
    have h3n : (3 : Int32) ≤ nI (atP cd i s.1 p 1).length ↔ 3 ≤ (atP cd i s.1 p 1).length := nI_leI (a := 3) (by omega) (by omega)
    obtain ⟨r9, hr9⟩ := atP_pre (cd := cd) (g := s.1) (p := p) (pl := 1) hi
    have hlr : (atP cd n s.1 p 1).length = (atP cd i s.1 p 1).length + r9.length := by rw [hr9, List.length_append]
    refine u_iload (pc := 65) C d_M_reach_65 rfl ?_
    refine u_aload_n (pc := 67) C d_M_reach_67 rfl ?_
    refine u_geti (pc := 68) C d_M_reach_68 fw_M_70 sR_0 rfl ?_
    refine u_icmp_ge (pc := 71) (tgt := 202) C d_M_reach_71 rfl (fun c71 => ?_) (fun c71 => ?_)
    · refine u_iload (pc := 202) C d_M_reach_202 rfl ?_
      refine u_iret (pc := 204) C d_M_reach_204 (hQ _ _ ⟨_, rfl, ?_⟩)
      refine ⟨?_, ho, h6, hL⟩
      rw [e5, otc, ← hp]
      congr 1
      unfold cntO
      by_cases z : s.1 1 4 < 64
      · have hge : i = n := by rw [h5, hin] at c71; omega
        subst hge
        rw [if_pos z]
        omega
      · have := h64i z
        subst this
        rw [if_neg z]; rfl
    · have hlt : i < n := by rw [h5, hin] at c71; omega
      have hi24 : i < 24 := by omega
      refine u_iload (pc := 74) C d_M_reach_74 rfl ?_
      refine u_iconst (pc := 76) (v := 3) C d_M_reach_76 (by decide) ?_
      refine u_icmp_ge (pc := 77) (tgt := 202) C d_M_reach_77 rfl (fun c77 => ?_) (fun c77 => ?_)
      · refine u_iload (pc := 202) C d_M_reach_202 rfl ?_
        refine u_iret (pc := 204) C d_M_reach_204 (hQ _ _ ⟨_, rfl, ?_⟩)
        refine ⟨?_, ho, h6, hL⟩
        rw [e5, otc, ← hp]
        congr 1
        unfold cntO
        rw [e6, h3n] at c77
        by_cases z : s.1 1 4 < 64
        · rw [if_pos z]
          omega
        · have := h64i z
          subst this
          exact absurd c77 (by show ¬ 3 ≤ 0; omega)
      · rw [e6, h3n] at c77
        refine u_aload_n (pc := 80) C d_M_reach_80 rfl ?_
        refine u_getr (pc := 81) (r := 6) C d_M_reach_81 fw_M_25 sR_0 rfl rfl ?_
        refine u_bipush (pc := 84) (v := 6) C d_M_reach_84 (by decide) ?_
        refine u_iald (pc := 86) C d_M_reach_86 sR_6 v6 ?_
        refine u_bipush (pc := 87) (v := 64) C d_M_reach_87 (by decide) ?_
        refine u_icmp_ge (pc := 89) (tgt := 202) C d_M_reach_89 rfl (fun c89 => ?_) (fun c89 => ?_)
        · refine u_iload (pc := 202) C d_M_reach_202 rfl ?_
          refine u_iret (pc := 204) C d_M_reach_204 (hQ _ _ ⟨_, rfl, ?_⟩)
          refine ⟨?_, ho, h6, hL⟩
          rw [e5, otc, ← hp]
          congr 1
          unfold cntO
          rw [cl6, hm] at c89
          have hh : ¬ s.1 1 4 < 64 := by rw [hh4]; exact Int32.not_lt.mpr c89
          have := h64i hh
          subst this
          rw [if_neg hh]; rfl
        · rw [cl6, hm] at c89
          have hh : s.1 1 4 < 64 := by rw [hh4]; exact Int32.not_le.mp c89
          refine u_aload_n (pc := 92) C d_M_reach_92 rfl ?_
          refine u_getr (pc := 93) (r := 2) C d_M_reach_93 fw_M_13 sR_0 rfl rfl ?_
          refine u_iload (pc := 96) C d_M_reach_96 rfl ?_
          refine u_iald (pc := 98) C d_M_reach_98 sR_2 (vp24 hi24) ?_
          refine u_iload_n (pc := 99) C d_M_reach_99 rfl ?_
          refine u_icmp_ne (pc := 100) (tgt := 196) C d_M_reach_100 rfl (fun c100 => ?_) (fun c100 => ?_)
          · refine u_iinc (pc := 196) (v2 := 1) C d_M_reach_196 rfl rfl (by decide) (fun x196 e196 L9 hL9 => ?_)
            obtain rfl : L9 = [some (.ref 0), some (.int (nI lv)), some (.int (nI 2)), some (.int p), some (.int wt), some (.int x5), some (.int x6), some (.int x196), none] := hL9.symm
            refine u_goto (pc := 199) (tgt := 65) C d_M_reach_199 rfl ?_
            rw [k2, nI_clamp (by omega)] at c100
            obtain rfl : x196 = nI (i + 1) := by rw [e196, nI_succ]
            have hc : ¬ (s.1 3 i = 1 ∧ cd 1 i = p) := fun z => c100 z.2
            have ea : atP cd (i + 1) s.1 p 1 = atP cd i s.1 p 1 := by rw [atP_succ, if_neg hc, List.append_nil]
            exact ih (i + 1) _ _ _ (by omega) (by omega) (by rw [ea]; exact e6) (by rw [ea]; exact htr) (by rw [ea]; exact e5) (fun z => absurd hh z) ho h6 h8 hL
          · refine u_aload_n (pc := 103) C d_M_reach_103 rfl ?_
            refine u_iload (pc := 104) C d_M_reach_104 rfl ?_
            refine u_iconst (pc := 106) (v := 1) C d_M_reach_106 (by decide) ?_
            refine u_callVi (pc := 107) C d_M_reach_107 mx_M_isAt mw_M_164 sR_0 rfl (c_M_isAt hi24) rfl rfl (Nat.le_of_ble_eq_true rfl) (fun r107 M107 q107 => ?_)
            obtain ⟨e107, q107⟩ := q107
            have q107 := q107.symm
            subst q107
            rw [hS1.wh hi24] at e107
            refine u_if_eq (pc := 110) (tgt := 196) C d_M_reach_110 rfl (fun c110 => ?_) (fun c110 => ?_)
            · refine u_iinc (pc := 196) (v2 := 1) C d_M_reach_196 rfl rfl (by decide) (fun x196 e196 L9 hL9 => ?_)
              obtain rfl : L9 = [some (.ref 0), some (.int (nI lv)), some (.int (nI 2)), some (.int p), some (.int wt), some (.int x5), some (.int x6), some (.int x196), none] := hL9.symm
              refine u_goto (pc := 199) (tgt := 65) C d_M_reach_199 rfl ?_
              rw [k2, nI_clamp (by omega)] at c100
              obtain rfl : x196 = nI (i + 1) := by rw [e196, nI_succ]
              have hc : ¬ (s.1 3 i = 1 ∧ cd 1 i = p) := fun z => zero_of e107 c110 z.1
              have ea : atP cd (i + 1) s.1 p 1 = atP cd i s.1 p 1 := by rw [atP_succ, if_neg hc, List.append_nil]
              exact ih (i + 1) _ _ _ (by omega) (by omega) (by rw [ea]; exact e6) (by rw [ea]; exact htr) (by rw [ea]; exact e5) (fun z => absurd hh z) ho h6 h8 hL
            · have h1 := one_of e107 c110
              rw [k2, nI_clamp (by omega)] at c100
              have hcc : s.1 3 i = 1 ∧ cd 1 i = p := ⟨h1, c100⟩
              have hap := atP_at hlt hcc
              have hgd : (atP cd n s.1 p 1).getD (atP cd i s.1 p 1).length 0 = i := by rw [List.getD_eq_getElem?_getD, hap]; rfl
              have ea : (atP cd (i + 1) s.1 p 1).length = (atP cd i s.1 p 1).length + 1 := by rw [atP_succ, if_pos hcc, List.length_append]; rfl
              have hch : chc cd n j s ((atP cd i s.1 p 1).length + 1) = (plG s.1 i, s.2) := by
                unfold chc
                rw [if_neg (by omega), Nat.add_sub_cancel, ← hp, hgd]
              refine u_iinc (pc := 113) (v2 := 1) C d_M_reach_113 rfl rfl (by decide) (fun x113 e113 L9 hL9 => ?_)
              obtain rfl : L9 = [some (.ref 0), some (.int (nI lv)), some (.int (nI 2)), some (.int p), some (.int wt), some (.int x5), some (.int x113), some (.int (nI i)), none] := hL9.symm
              refine u_aload_n (pc := 116) C d_M_reach_116 rfl ?_
              refine u_iload (pc := 117) C d_M_reach_117 rfl ?_
              refine u_callVv (pc := 119) C d_M_reach_119 mx_M_playIt mw_M_247 sR_0 rfl (c_M_playIt hS1 hlt h1) rfl rfl (Nat.le_of_ble_eq_true rfl) (fun M119 q119 => ?_)
              obtain ⟨hSp, op⟩ := q119
              have htp := OfR.tr ht1 op (by unfold gR; decide)
              have hLp := hL.g op
              refine u_aload_n (pc := 122) C d_M_reach_122 rfl ?_
              refine u_callVi (pc := 123) C d_M_reach_123 mx_M_runIt mw_M_288 sR_0 rfl (c_M_runIt (s := (plG s.1 i, s.2)) (Or.inl rfl) hSp htp hLp) rfl rfl (Nat.le_of_ble_eq_true rfl) (fun r123 M123 q123 => ?_)
              obtain ⟨e123, ⟨w1, w2, w3, hS2, hL2⟩, o2⟩ := q123
              rw [if_neg (by decide), if_neg (by decide)] at hL2
              have ht2 := OfR.tr htp o2 (fun z => by unfold rnR rvR at z; omega)
              have hrg : (runG cd n (plG s.1 i, s.2)).1 1 2 = s.1 1 2 := (runG_12 hSp.1).trans plG_12
              refine u_pop (pc := 126) C d_M_reach_126 rfl ?_
              refine u_aload_n (pc := 127) C d_M_reach_127 rfl ?_
              refine u_iload_n (pc := 128) C d_M_reach_128 rfl ?_
              refine u_iconst (pc := 129) (v := 1) C d_M_reach_129 (by decide) ?_
              refine u_iadd (pc := 130) C d_M_reach_130 ?_
              refine u_iload_n (pc := 131) C d_M_reach_131 rfl ?_
              refine u_iconst (pc := 132) (v := 1) C d_M_reach_132 (by decide) ?_
              refine u_isub (pc := 133) C d_M_reach_133 ?_
              refine u_iconst (pc := 134) (v := 1) C d_M_reach_134 (by decide) ?_
              refine u_iload_n (pc := 135) C d_M_reach_135 rfl ?_
              refine u_isub (pc := 136) C d_M_reach_136 ?_
              refine u_iload (pc := 137) C d_M_reach_137 rfl ?_
              rw [nI_1 lv, show nI 2 - 1 = nI 1 from by decide]
              refine u_callVi (pc := 139) C d_M_reach_139 mx_M_reach mw_M_310 sR_0 rfl (c_M_reach1 (s := runG cd n (plG s.1 i, s.2)) (j := j + 1) hS2 ht2 hL2 (by rw [hrg]; exact hw) (by rw [hp]; exact mvr_s hac hrg) (by omega) (by omega)) rfl rfl (Nat.le_of_ble_eq_true rfl) (fun r139 M139 q139 => ?_)
              obtain ⟨e139, o3, h63, hL3⟩ := q139
              refine u_istore (pc := 142) C d_M_reach_142 rfl (fun x142 e142 L9 hL9 => ?_)
              obtain rfl : L9 = [some (.ref 0), some (.int (nI lv)), some (.int (nI 2)), some (.int p), some (.int wt), some (.int x5), some (.int x113), some (.int (nI i)), some (.int x142)] := hL9.symm
              refine u_iload_n (pc := 144) C d_M_reach_144 rfl ?_
              refine u_iload (pc := 145) C d_M_reach_145 rfl ?_
              refine u_icmp_ne (pc := 147) (tgt := 167) C d_M_reach_147 rfl (fun c147 => ?_) (fun c147 => ?_)
              · refine u_iload (pc := 167) C d_M_reach_167 rfl ?_
                refine u_iload (pc := 169) C d_M_reach_169 rfl ?_
                refine u_icmp_ge (pc := 171) (tgt := 179) C d_M_reach_171 rfl (fun c171 => ?_) (fun c171 => ?_)
                · refine u_iload (pc := 179) C d_M_reach_179 rfl ?_
                  refine u_istore (pc := 181) C d_M_reach_181 rfl (fun x181 e181 L9 hL9 => ?_)
                  obtain rfl : L9 = [some (.ref 0), some (.int (nI lv)), some (.int (nI 2)), some (.int p), some (.int wt), some (.int x181), some (.int x113), some (.int (nI i)), some (.int x142)] := hL9.symm
                  refine u_aload_n (pc := 183) C d_M_reach_183 rfl ?_
                  refine u_getr (pc := 184) (r := 7) C d_M_reach_184 fw_M_30 sR_0 rfl rfl ?_
                  refine u_iload_n (pc := 187) C d_M_reach_187 rfl ?_
                  refine u_aaldR (pc := 188) (r := (8 + lv)) C d_M_reach_188 sR_7 (vp_in_nI (show lv < 6 by omega) (by decide)) (lev_ix (by omega)) ?_
                  refine u_aload_n (pc := 189) C d_M_reach_189 rfl ?_
                  refine u_getr (pc := 190) (r := 6) C d_M_reach_190 fw_M_25 sR_0 rfl rfl ?_
                  refine u_callSv (pc := 193) C d_M_reach_193 mx_M_copy mw_M_300 (c_M_copy hl8 sR_6 (by omega)) rfl rfl (Nat.le_of_ble_eq_true rfl) (fun M193 q193 => ?_)
                  obtain ⟨cb1, cb2⟩ := q193
                  refine u_iinc (pc := 196) (v2 := 1) C d_M_reach_196 rfl rfl (by decide) (fun x196 e196 L9 hL9 => ?_)
                  obtain rfl : L9 = [some (.ref 0), some (.int (nI lv)), some (.int (nI 2)), some (.int p), some (.int wt), some (.int x181), some (.int x113), some (.int x196), some (.int x142)] := hL9.symm
                  refine u_goto (pc := 199) (tgt := 65) C d_M_reach_199 rfl ?_
                  obtain rfl : x196 = nI (i + 1) := by rw [e196, nI_succ]
                  refine u_drop 8 rfl ?_
                  have o19 : OfR (rcR lv) M1 M193 := (((op.mono (fun p j => g_rc)).trans (o2.mono (fun p j => rn_rc (by omega)))).trans (o3.mono (fun p j => rc_mono))).trans (cb_rc cb1)
                  have h88 : ∀ q, M139.1 (8 + lv) q = M1.1 (8 + lv) q := fun q => by
                    rw [o3 (8 + lv) q (fun z => z.2 ⟨by omega, by omega⟩), o2 (8 + lv) q (rn8 (by omega) q), op (8 + lv) q (by unfold gR; omega)]
                  refine ih (i + 1) _ _ _ (by omega) (by omega) ?_ (by rw [ea]; omega) ?_ (fun z => absurd hh z) (ho.trans o19) (fun q hq => ?_) (fun q hq => ?_) (hL3.g (fun p j hp9 => by rw [cb1 p hp9]))
                  · rw [e113, e6, ea, nI_succ]
                  · rw [ea, bo_up (by omega)]
                    rw [hch, ← e5, ← e139, ← e142]
                    have hjm : ¬ j % 2 = 0 := fun z => c147 (by rw [hp, hw]; exact (mvr_w hac).mpr z)
                    rw [if_neg (by rw [decide_eq_false hjm]; decide), e181, if_neg (Int32.not_lt.mpr c171)]
                  · rw [cb2 q hq, h88 q, h8 q hq]
                  · rw [cb1 (8 + lv) (by omega), h88 q, h8 q hq]
                · refine u_iload (pc := 174) C d_M_reach_174 rfl ?_
                  refine u_goto (pc := 176) (tgt := 181) C d_M_reach_176 rfl ?_
                  refine u_istore (pc := 181) C d_M_reach_181 rfl (fun x181 e181 L9 hL9 => ?_)
                  obtain rfl : L9 = [some (.ref 0), some (.int (nI lv)), some (.int (nI 2)), some (.int p), some (.int wt), some (.int x181), some (.int x113), some (.int (nI i)), some (.int x142)] := hL9.symm
                  refine u_aload_n (pc := 183) C d_M_reach_183 rfl ?_
                  refine u_getr (pc := 184) (r := 7) C d_M_reach_184 fw_M_30 sR_0 rfl rfl ?_
                  refine u_iload_n (pc := 187) C d_M_reach_187 rfl ?_
                  refine u_aaldR (pc := 188) (r := (8 + lv)) C d_M_reach_188 sR_7 (vp_in_nI (show lv < 6 by omega) (by decide)) (lev_ix (by omega)) ?_
                  refine u_aload_n (pc := 189) C d_M_reach_189 rfl ?_
                  refine u_getr (pc := 190) (r := 6) C d_M_reach_190 fw_M_25 sR_0 rfl rfl ?_
                  refine u_callSv (pc := 193) C d_M_reach_193 mx_M_copy mw_M_300 (c_M_copy hl8 sR_6 (by omega)) rfl rfl (Nat.le_of_ble_eq_true rfl) (fun M193 q193 => ?_)
                  obtain ⟨cb1, cb2⟩ := q193
                  refine u_iinc (pc := 196) (v2 := 1) C d_M_reach_196 rfl rfl (by decide) (fun x196 e196 L9 hL9 => ?_)
                  obtain rfl : L9 = [some (.ref 0), some (.int (nI lv)), some (.int (nI 2)), some (.int p), some (.int wt), some (.int x181), some (.int x113), some (.int x196), some (.int x142)] := hL9.symm
                  refine u_goto (pc := 199) (tgt := 65) C d_M_reach_199 rfl ?_
                  obtain rfl : x196 = nI (i + 1) := by rw [e196, nI_succ]
                  refine u_drop 8 rfl ?_
                  have o19 : OfR (rcR lv) M1 M193 := (((op.mono (fun p j => g_rc)).trans (o2.mono (fun p j => rn_rc (by omega)))).trans (o3.mono (fun p j => rc_mono))).trans (cb_rc cb1)
                  have h88 : ∀ q, M139.1 (8 + lv) q = M1.1 (8 + lv) q := fun q => by
                    rw [o3 (8 + lv) q (fun z => z.2 ⟨by omega, by omega⟩), o2 (8 + lv) q (rn8 (by omega) q), op (8 + lv) q (by unfold gR; omega)]
                  refine ih (i + 1) _ _ _ (by omega) (by omega) ?_ (by rw [ea]; omega) ?_ (fun z => absurd hh z) (ho.trans o19) (fun q hq => ?_) (fun q hq => ?_) (hL3.g (fun p j hp9 => by rw [cb1 p hp9]))
                  · rw [e113, e6, ea, nI_succ]
                  · rw [ea, bo_up (by omega)]
                    rw [hch, ← e5, ← e139, ← e142]
                    have hjm : ¬ j % 2 = 0 := fun z => c147 (by rw [hp, hw]; exact (mvr_w hac).mpr z)
                    rw [if_neg (by rw [decide_eq_false hjm]; decide), e181, if_pos (Int32.not_le.mp c171)]
                  · rw [cb2 q hq, h88 q, h8 q hq]
                  · rw [cb1 (8 + lv) (by omega), h88 q, h8 q hq]
              · refine u_iload (pc := 150) C d_M_reach_150 rfl ?_
                refine u_iload (pc := 152) C d_M_reach_152 rfl ?_
                refine u_icmp_le (pc := 154) (tgt := 162) C d_M_reach_154 rfl (fun c154 => ?_) (fun c154 => ?_)
                · refine u_iload (pc := 162) C d_M_reach_162 rfl ?_
                  refine u_goto (pc := 164) (tgt := 181) C d_M_reach_164 rfl ?_
                  refine u_istore (pc := 181) C d_M_reach_181 rfl (fun x181 e181 L9 hL9 => ?_)
                  obtain rfl : L9 = [some (.ref 0), some (.int (nI lv)), some (.int (nI 2)), some (.int p), some (.int wt), some (.int x181), some (.int x113), some (.int (nI i)), some (.int x142)] := hL9.symm
                  refine u_aload_n (pc := 183) C d_M_reach_183 rfl ?_
                  refine u_getr (pc := 184) (r := 7) C d_M_reach_184 fw_M_30 sR_0 rfl rfl ?_
                  refine u_iload_n (pc := 187) C d_M_reach_187 rfl ?_
                  refine u_aaldR (pc := 188) (r := (8 + lv)) C d_M_reach_188 sR_7 (vp_in_nI (show lv < 6 by omega) (by decide)) (lev_ix (by omega)) ?_
                  refine u_aload_n (pc := 189) C d_M_reach_189 rfl ?_
                  refine u_getr (pc := 190) (r := 6) C d_M_reach_190 fw_M_25 sR_0 rfl rfl ?_
                  refine u_callSv (pc := 193) C d_M_reach_193 mx_M_copy mw_M_300 (c_M_copy hl8 sR_6 (by omega)) rfl rfl (Nat.le_of_ble_eq_true rfl) (fun M193 q193 => ?_)
                  obtain ⟨cb1, cb2⟩ := q193
                  refine u_iinc (pc := 196) (v2 := 1) C d_M_reach_196 rfl rfl (by decide) (fun x196 e196 L9 hL9 => ?_)
                  obtain rfl : L9 = [some (.ref 0), some (.int (nI lv)), some (.int (nI 2)), some (.int p), some (.int wt), some (.int x181), some (.int x113), some (.int x196), some (.int x142)] := hL9.symm
                  refine u_goto (pc := 199) (tgt := 65) C d_M_reach_199 rfl ?_
                  obtain rfl : x196 = nI (i + 1) := by rw [e196, nI_succ]
                  refine u_drop 8 rfl ?_
                  have o19 : OfR (rcR lv) M1 M193 := (((op.mono (fun p j => g_rc)).trans (o2.mono (fun p j => rn_rc (by omega)))).trans (o3.mono (fun p j => rc_mono))).trans (cb_rc cb1)
                  have h88 : ∀ q, M139.1 (8 + lv) q = M1.1 (8 + lv) q := fun q => by
                    rw [o3 (8 + lv) q (fun z => z.2 ⟨by omega, by omega⟩), o2 (8 + lv) q (rn8 (by omega) q), op (8 + lv) q (by unfold gR; omega)]
                  refine ih (i + 1) _ _ _ (by omega) (by omega) ?_ (by rw [ea]; omega) ?_ (fun z => absurd hh z) (ho.trans o19) (fun q hq => ?_) (fun q hq => ?_) (hL3.g (fun p j hp9 => by rw [cb1 p hp9]))
                  · rw [e113, e6, ea, nI_succ]
                  · rw [ea, bo_up (by omega)]
                    rw [hch, ← e5, ← e139, ← e142]
                    have hjm : j % 2 = 0 := (mvr_w hac).mp (by rw [← hp, ← hw]; exact c147)
                    rw [if_pos (decide_eq_true hjm), e181, if_neg (Int32.not_lt.mpr c154)]
                  · rw [cb2 q hq, h88 q, h8 q hq]
                  · rw [cb1 (8 + lv) (by omega), h88 q, h8 q hq]
                · refine u_iload (pc := 157) C d_M_reach_157 rfl ?_
                  refine u_goto (pc := 159) (tgt := 181) C d_M_reach_159 rfl ?_
                  refine u_istore (pc := 181) C d_M_reach_181 rfl (fun x181 e181 L9 hL9 => ?_)
                  obtain rfl : L9 = [some (.ref 0), some (.int (nI lv)), some (.int (nI 2)), some (.int p), some (.int wt), some (.int x181), some (.int x113), some (.int (nI i)), some (.int x142)] := hL9.symm
                  refine u_aload_n (pc := 183) C d_M_reach_183 rfl ?_
                  refine u_getr (pc := 184) (r := 7) C d_M_reach_184 fw_M_30 sR_0 rfl rfl ?_
                  refine u_iload_n (pc := 187) C d_M_reach_187 rfl ?_
                  refine u_aaldR (pc := 188) (r := (8 + lv)) C d_M_reach_188 sR_7 (vp_in_nI (show lv < 6 by omega) (by decide)) (lev_ix (by omega)) ?_
                  refine u_aload_n (pc := 189) C d_M_reach_189 rfl ?_
                  refine u_getr (pc := 190) (r := 6) C d_M_reach_190 fw_M_25 sR_0 rfl rfl ?_
                  refine u_callSv (pc := 193) C d_M_reach_193 mx_M_copy mw_M_300 (c_M_copy hl8 sR_6 (by omega)) rfl rfl (Nat.le_of_ble_eq_true rfl) (fun M193 q193 => ?_)
                  obtain ⟨cb1, cb2⟩ := q193
                  refine u_iinc (pc := 196) (v2 := 1) C d_M_reach_196 rfl rfl (by decide) (fun x196 e196 L9 hL9 => ?_)
                  obtain rfl : L9 = [some (.ref 0), some (.int (nI lv)), some (.int (nI 2)), some (.int p), some (.int wt), some (.int x181), some (.int x113), some (.int x196), some (.int x142)] := hL9.symm
                  refine u_goto (pc := 199) (tgt := 65) C d_M_reach_199 rfl ?_
                  obtain rfl : x196 = nI (i + 1) := by rw [e196, nI_succ]
                  refine u_drop 8 rfl ?_
                  have o19 : OfR (rcR lv) M1 M193 := (((op.mono (fun p j => g_rc)).trans (o2.mono (fun p j => rn_rc (by omega)))).trans (o3.mono (fun p j => rc_mono))).trans (cb_rc cb1)
                  have h88 : ∀ q, M139.1 (8 + lv) q = M1.1 (8 + lv) q := fun q => by
                    rw [o3 (8 + lv) q (fun z => z.2 ⟨by omega, by omega⟩), o2 (8 + lv) q (rn8 (by omega) q), op (8 + lv) q (by unfold gR; omega)]
                  refine ih (i + 1) _ _ _ (by omega) (by omega) ?_ (by rw [ea]; omega) ?_ (fun z => absurd hh z) (ho.trans o19) (fun q hq => ?_) (fun q hq => ?_) (hL3.g (fun p j hp9 => by rw [cb1 p hp9]))
                  · rw [e113, e6, ea, nI_succ]
                  · rw [ea, bo_up (by omega)]
                    rw [hch, ← e5, ← e139, ← e142]
                    have hjm : j % 2 = 0 := (mvr_w hac).mp (by rw [← hp, ← hw]; exact c147)
                    rw [if_pos (decide_eq_true hjm), e181, if_pos (Int32.not_le.mp c154)]
                  · rw [cb2 q hq, h88 q, h8 q hq]
                  · rw [cb1 (8 + lv) (by omega), h88 q, h8 q hq]
set_option maxRecDepth 20000 in
theorem c_M_reach2 {cd : Nat → Nat → Int32} {n j lv : Nat} {s : Gm × List Nat} {M : Mem} {p wt : Int32} {th ev : List Int32} (hS : RS M cd n s.1 s.2) (ht0 : M.1 0 32 = 0) (hL0 : LGr M th ev) (hw : wt = s.1 1 2) (hp : p = mvr j s.1) (hlv : lv = j + 1) (hj : j + 2 ≤ 3) : Ct lyR y_M_reach b_M_reach 9 (some .int) 10 [.ref 0, .int (nI lv), .int (nI 2), .int p, .int wt] M (Pi fun r M' => r = otc cd n 2 j s ∧ OfR (rcR lv) M M' ∧ (∀ j, j < 123 → M'.1 6 j = M.1 6 j) ∧ LGr M' th ev) := by
  have hl8 : sh lyR (8 + lv) 1 123 := shLev (by omega)
  have n24 := hS.n24
  have hac := hS.1.2.2.2.2.2.1
  refine Ct.ofG mx_M_reach [some (.ref 0), some (.int (nI lv)), some (.int (nI 2)), some (.int p), some (.int wt), none, none, none, none] rfl rfl (Nat.le_of_ble_eq_true rfl) (fun κ C hQ => ?_)
  refine u_iload_n (pc := 0) C d_M_reach_0 rfl ?_
  refine u_if_ne (pc := 1) (tgt := 11) C d_M_reach_1 rfl (fun c1 => ?_) (fun c1 => ?_)
  · refine u_aload_n (pc := 11) C d_M_reach_11 rfl ?_
    refine u_getr (pc := 12) (r := 6) C d_M_reach_12 fw_M_25 sR_0 rfl rfl ?_
    refine u_aload_n (pc := 15) C d_M_reach_15 rfl ?_
    refine u_getr (pc := 16) (r := 7) C d_M_reach_16 fw_M_30 sR_0 rfl rfl ?_
    refine u_iload_n (pc := 19) C d_M_reach_19 rfl ?_
    refine u_aaldR (pc := 20) (r := (8 + lv)) C d_M_reach_20 sR_7 (vp_in_nI (show lv < 6 by omega) (by decide)) (lev_ix (by omega)) ?_
    refine u_callSv (pc := 21) C d_M_reach_21 mx_M_copy mw_M_300 (c_M_copy sR_6 hl8 (by omega)) rfl rfl (Nat.le_of_ble_eq_true rfl) (fun M21 q21 => ?_)
    obtain ⟨cp1, cp2⟩ := q21
    obtain ⟨hS1, ht1, hL1, oc1⟩ := cp8 hS ht0 hL0 cp1 (by omega)
    refine u_aload_n (pc := 24) C d_M_reach_24 rfl ?_
    refine u_callVi (pc := 25) C d_M_reach_25 mx_M_runIt mw_M_288 sR_0 rfl (c_M_runIt (s := s) (Or.inl rfl) hS1 ht1 hL1) rfl rfl (Nat.le_of_ble_eq_true rfl) (fun r25 M25 q25 => ?_)
    obtain ⟨e25, ⟨w1, w2, w3, hS2, hL2⟩, o2⟩ := q25
    rw [if_neg (by decide), if_neg (by decide)] at hL2
    have ht2 := OfR.tr ht1 o2 (fun z => by unfold rnR rvR at z; omega)
    have hrg : (runG cd n s).1 1 2 = s.1 1 2 := runG_12 hS.1
    refine u_pop (pc := 28) C d_M_reach_28 rfl ?_
    refine u_aload_n (pc := 29) C d_M_reach_29 rfl ?_
    refine u_iload_n (pc := 30) C d_M_reach_30 rfl ?_
    refine u_iconst (pc := 31) (v := 1) C d_M_reach_31 (by decide) ?_
    refine u_iadd (pc := 32) C d_M_reach_32 ?_
    refine u_iload_n (pc := 33) C d_M_reach_33 rfl ?_
    refine u_iconst (pc := 34) (v := 1) C d_M_reach_34 (by decide) ?_
    refine u_isub (pc := 35) C d_M_reach_35 ?_
    refine u_iconst (pc := 36) (v := 1) C d_M_reach_36 (by decide) ?_
    refine u_iload_n (pc := 37) C d_M_reach_37 rfl ?_
    refine u_isub (pc := 38) C d_M_reach_38 ?_
    refine u_iload (pc := 39) C d_M_reach_39 rfl ?_
    rw [nI_1 lv, show nI 2 - 1 = nI 1 from by decide]
    refine u_callVi (pc := 41) C d_M_reach_41 mx_M_reach mw_M_310 sR_0 rfl (c_M_reach1 (s := runG cd n s) (j := j + 1) hS2 ht2 hL2 (by rw [hrg]; exact hw) (by rw [hp]; exact mvr_s hac hrg) (by omega) (by omega)) rfl rfl (Nat.le_of_ble_eq_true rfl) (fun r41 M41 q41 => ?_)
    obtain ⟨e41, o3, h63, hL3⟩ := q41
    refine u_istore (pc := 44) C d_M_reach_44 rfl (fun x44 e44 L9 hL9 => ?_)
    obtain rfl : L9 = [some (.ref 0), some (.int (nI lv)), some (.int (nI 2)), some (.int p), some (.int wt), some (.int x44), none, none, none] := hL9.symm
    refine u_aload_n (pc := 46) C d_M_reach_46 rfl ?_
    refine u_getr (pc := 47) (r := 7) C d_M_reach_47 fw_M_30 sR_0 rfl rfl ?_
    refine u_iload_n (pc := 50) C d_M_reach_50 rfl ?_
    refine u_aaldR (pc := 51) (r := (8 + lv)) C d_M_reach_51 sR_7 (vp_in_nI (show lv < 6 by omega) (by decide)) (lev_ix (by omega)) ?_
    refine u_aload_n (pc := 52) C d_M_reach_52 rfl ?_
    refine u_getr (pc := 53) (r := 6) C d_M_reach_53 fw_M_25 sR_0 rfl rfl ?_
    refine u_callSv (pc := 56) C d_M_reach_56 mx_M_copy mw_M_300 (c_M_copy hl8 sR_6 (by omega)) rfl rfl (Nat.le_of_ble_eq_true rfl) (fun M56 q56 => ?_)
    obtain ⟨cb1, cb2⟩ := q56
    refine u_iconst (pc := 59) (v := 0) C d_M_reach_59 (by decide) ?_
    refine u_istore (pc := 60) C d_M_reach_60 rfl (fun x60 e60 L9 hL9 => ?_)
    obtain rfl : L9 = [some (.ref 0), some (.int (nI lv)), some (.int (nI 2)), some (.int p), some (.int wt), some (.int x44), some (.int x60), none, none] := hL9.symm
    refine u_iconst (pc := 62) (v := 0) C d_M_reach_62 (by decide) ?_
    refine u_istore (pc := 63) C d_M_reach_63 rfl (fun x63 e63 L9 hL9 => ?_)
    obtain rfl : L9 = [some (.ref 0), some (.int (nI lv)), some (.int (nI 2)), some (.int p), some (.int wt), some (.int x44), some (.int x60), some (.int x63), none] := hL9.symm
    subst e60
    subst e63
    have h88 : ∀ q, M41.1 (8 + lv) q = M21.1 (8 + lv) q := fun q => by
      rw [o3 (8 + lv) q (fun z => z.2 ⟨by omega, by omega⟩), o2 (8 + lv) q (rn8 (by omega) q)]
    have o19 : OfR (rcR lv) M M56 := (((cp_rc cp1 (by omega)).trans (o2.mono (fun p j => rn_rc (by omega)))).trans (o3.mono (fun p j => rc_mono))).trans (cb_rc cb1)
    refine lp_rch2 hS ht0 hL0 hw hp hlv hj C hQ (n + 1) 0 _ _ _ (by omega) (by omega) rfl (Nat.zero_le _) ?_ (fun _ => rfl) o19 (fun q hq => by rw [cb2 q hq, h88 q, cp2 q hq]) (fun q hq => by rw [cb1 (8 + lv) (by omega), h88 q, cp2 q hq]) (hL3.g (fun p j hp9 => by rw [cb1 p hp9]))
    show x44 = bo _ _ 1
    rw [bo_one, e44, e41]
    rfl
  · exact absurd c1 (by decide)
set_option maxRecDepth 20000 in
theorem lp_rch3 {κ : KX} {cd : Nat → Nat → Int32} {n j lv : Nat} {s : Gm × List Nat} {M : Mem} {p wt : Int32} {th ev : List Int32} (hS : RS M cd n s.1 s.2) (ht0 : M.1 0 32 = 0) (hL0 : LGr M th ev) (hw : wt = s.1 1 2) (hp : p = mvr j s.1) (hlv : lv = j + 1) (hj : j + 3 ≤ 3) (C : Cx κ lyR y_M_reach.cls b_M_reach 9 (some .int) 11) (hQ : ∀ v M', Pi (fun r M' => r = otc cd n 3 j s ∧ OfR (rcR lv) M M' ∧ (∀ j, j < 123 → M'.1 6 j = M.1 6 j) ∧ LGr M' th ev) v M' → KQ κ v M') : ∀ (f i : Nat) (x5 x6 : Int32) (M1 : Mem), i ≤ n → n - i < f → x6 = nI (atP cd i s.1 p 1).length → (atP cd i s.1 p 1).length ≤ 3 → x5 = bo (fun i => otc cd n 2 (j + 1) (runG cd n (chc cd n j s i))) (decide (j % 2 = 0)) ((atP cd i s.1 p 1).length + 1) → (¬ s.1 1 4 < 64 → i = 0) → OfR (rcR lv) M M1 → (∀ j, j < 123 → M1.1 6 j = M.1 6 j) → (∀ j, j < 123 → M1.1 (8 + lv) j = M.1 6 j) → LGr M1 th ev → G κ lyR 65 [some (.ref 0), some (.int (nI lv)), some (.int (nI 3)), some (.int p), some (.int wt), some (.int x5), some (.int x6), some (.int (nI i)), none] [] M1 := by
  intro f
  induction f with
  | zero => intro i x5 x6 M1 _ h; omega
  | succ f ih =>
    intro i x5 x6 M1 hi hf e6 htr e5 h64i ho h6 h8 hL
    have hl8 : sh lyR (8 + lv) 1 123 := shLev (by omega)
    have hS1 : RS M1 cd n s.1 s.2 := hS.rc ho h6
    have ht1 : M1.1 0 32 = 0 := ho.rc0 ht0
    have n24 := hS.n24
    have h5 := hS1.2.2.1
    have hac := hS.1.2.2.2.2.2.1
    have hp01 : p = 0 ∨ p = 1 := by rw [hp]; exact mvr_01 hac
    obtain ⟨k1, k2, k3, k4, k5⟩ := hS1.cdc
    obtain ⟨h, hh64, hh4⟩ := hS1.1.hb
    have hm : M1.1 6 6 = nI h := by rw [← hh4]; exact hS1.many
    have hin : nI n ≤ nI i ↔ n ≤ i := nI_leI (by omega) (by omega)
    have hlen := atP_len (cd := cd) (n := i) (g := s.1) (p := p) (pl := 1)
    have h3n : (3 : Int32) ≤ nI (atP cd i s.1 p 1).length ↔ 3 ≤ (atP cd i s.1 p 1).length := nI_leI (a := 3) (by omega) (by omega)
    obtain ⟨r9, hr9⟩ := atP_pre (cd := cd) (g := s.1) (p := p) (pl := 1) hi
    have hlr : (atP cd n s.1 p 1).length = (atP cd i s.1 p 1).length + r9.length := by rw [hr9, List.length_append]
    refine u_iload (pc := 65) C d_M_reach_65 rfl ?_
    refine u_aload_n (pc := 67) C d_M_reach_67 rfl ?_
    refine u_geti (pc := 68) C d_M_reach_68 fw_M_70 sR_0 rfl ?_
    refine u_icmp_ge (pc := 71) (tgt := 202) C d_M_reach_71 rfl (fun c71 => ?_) (fun c71 => ?_)
    · refine u_iload (pc := 202) C d_M_reach_202 rfl ?_
      refine u_iret (pc := 204) C d_M_reach_204 (hQ _ _ ⟨_, rfl, ?_⟩)
      refine ⟨?_, ho, h6, hL⟩
      rw [e5, otc, ← hp]
      congr 1
      unfold cntO
      by_cases z : s.1 1 4 < 64
      · have hge : i = n := by rw [h5, hin] at c71; omega
        subst hge
        rw [if_pos z]
        omega
      · have := h64i z
        subst this
        rw [if_neg z]; rfl
    · have hlt : i < n := by rw [h5, hin] at c71; omega
      have hi24 : i < 24 := by omega
      refine u_iload (pc := 74) C d_M_reach_74 rfl ?_
      refine u_iconst (pc := 76) (v := 3) C d_M_reach_76 (by decide) ?_
      refine u_icmp_ge (pc := 77) (tgt := 202) C d_M_reach_77 rfl (fun c77 => ?_) (fun c77 => ?_)
      · refine u_iload (pc := 202) C d_M_reach_202 rfl ?_
        refine u_iret (pc := 204) C d_M_reach_204 (hQ _ _ ⟨_, rfl, ?_⟩)
        refine ⟨?_, ho, h6, hL⟩
        rw [e5, otc, ← hp]
        congr 1
        unfold cntO
        rw [e6, h3n] at c77
        by_cases z : s.1 1 4 < 64
        · rw [if_pos z]
          omega
        · have := h64i z
          subst this
          exact absurd c77 (by show ¬ 3 ≤ 0; omega)
      · rw [e6, h3n] at c77
        refine u_aload_n (pc := 80) C d_M_reach_80 rfl ?_
        refine u_getr (pc := 81) (r := 6) C d_M_reach_81 fw_M_25 sR_0 rfl rfl ?_
        refine u_bipush (pc := 84) (v := 6) C d_M_reach_84 (by decide) ?_
        refine u_iald (pc := 86) C d_M_reach_86 sR_6 v6 ?_
        refine u_bipush (pc := 87) (v := 64) C d_M_reach_87 (by decide) ?_
        refine u_icmp_ge (pc := 89) (tgt := 202) C d_M_reach_89 rfl (fun c89 => ?_) (fun c89 => ?_)
        · refine u_iload (pc := 202) C d_M_reach_202 rfl ?_
          refine u_iret (pc := 204) C d_M_reach_204 (hQ _ _ ⟨_, rfl, ?_⟩)
          refine ⟨?_, ho, h6, hL⟩
          rw [e5, otc, ← hp]
          congr 1
          unfold cntO
          rw [cl6, hm] at c89
          have hh : ¬ s.1 1 4 < 64 := by rw [hh4]; exact Int32.not_lt.mpr c89
          have := h64i hh
          subst this
          rw [if_neg hh]; rfl
        · rw [cl6, hm] at c89
          have hh : s.1 1 4 < 64 := by rw [hh4]; exact Int32.not_le.mp c89
          refine u_aload_n (pc := 92) C d_M_reach_92 rfl ?_
          refine u_getr (pc := 93) (r := 2) C d_M_reach_93 fw_M_13 sR_0 rfl rfl ?_
          refine u_iload (pc := 96) C d_M_reach_96 rfl ?_
          refine u_iald (pc := 98) C d_M_reach_98 sR_2 (vp24 hi24) ?_
          refine u_iload_n (pc := 99) C d_M_reach_99 rfl ?_
          refine u_icmp_ne (pc := 100) (tgt := 196) C d_M_reach_100 rfl (fun c100 => ?_) (fun c100 => ?_)
          · refine u_iinc (pc := 196) (v2 := 1) C d_M_reach_196 rfl rfl (by decide) (fun x196 e196 L9 hL9 => ?_)
            obtain rfl : L9 = [some (.ref 0), some (.int (nI lv)), some (.int (nI 3)), some (.int p), some (.int wt), some (.int x5), some (.int x6), some (.int x196), none] := hL9.symm
            refine u_goto (pc := 199) (tgt := 65) C d_M_reach_199 rfl ?_
            rw [k2, nI_clamp (by omega)] at c100
            obtain rfl : x196 = nI (i + 1) := by rw [e196, nI_succ]
            have hc : ¬ (s.1 3 i = 1 ∧ cd 1 i = p) := fun z => c100 z.2
            have ea : atP cd (i + 1) s.1 p 1 = atP cd i s.1 p 1 := by rw [atP_succ, if_neg hc, List.append_nil]
            exact ih (i + 1) _ _ _ (by omega) (by omega) (by rw [ea]; exact e6) (by rw [ea]; exact htr) (by rw [ea]; exact e5) (fun z => absurd hh z) ho h6 h8 hL
          · refine u_aload_n (pc := 103) C d_M_reach_103 rfl ?_
            refine u_iload (pc := 104) C d_M_reach_104 rfl ?_
            refine u_iconst (pc := 106) (v := 1) C d_M_reach_106 (by decide) ?_
            refine u_callVi (pc := 107) C d_M_reach_107 mx_M_isAt mw_M_164 sR_0 rfl (c_M_isAt hi24) rfl rfl (Nat.le_of_ble_eq_true rfl) (fun r107 M107 q107 => ?_)
            obtain ⟨e107, q107⟩ := q107
            have q107 := q107.symm
            subst q107
            rw [hS1.wh hi24] at e107
            refine u_if_eq (pc := 110) (tgt := 196) C d_M_reach_110 rfl (fun c110 => ?_) (fun c110 => ?_)
            · refine u_iinc (pc := 196) (v2 := 1) C d_M_reach_196 rfl rfl (by decide) (fun x196 e196 L9 hL9 => ?_)
              obtain rfl : L9 = [some (.ref 0), some (.int (nI lv)), some (.int (nI 3)), some (.int p), some (.int wt), some (.int x5), some (.int x6), some (.int x196), none] := hL9.symm
              refine u_goto (pc := 199) (tgt := 65) C d_M_reach_199 rfl ?_
              rw [k2, nI_clamp (by omega)] at c100
              obtain rfl : x196 = nI (i + 1) := by rw [e196, nI_succ]
              have hc : ¬ (s.1 3 i = 1 ∧ cd 1 i = p) := fun z => zero_of e107 c110 z.1
              have ea : atP cd (i + 1) s.1 p 1 = atP cd i s.1 p 1 := by rw [atP_succ, if_neg hc, List.append_nil]
              exact ih (i + 1) _ _ _ (by omega) (by omega) (by rw [ea]; exact e6) (by rw [ea]; exact htr) (by rw [ea]; exact e5) (fun z => absurd hh z) ho h6 h8 hL
            · have h1 := one_of e107 c110
              rw [k2, nI_clamp (by omega)] at c100
              have hcc : s.1 3 i = 1 ∧ cd 1 i = p := ⟨h1, c100⟩
              have hap := atP_at hlt hcc
              have hgd : (atP cd n s.1 p 1).getD (atP cd i s.1 p 1).length 0 = i := by rw [List.getD_eq_getElem?_getD, hap]; rfl
              have ea : (atP cd (i + 1) s.1 p 1).length = (atP cd i s.1 p 1).length + 1 := by rw [atP_succ, if_pos hcc, List.length_append]; rfl
              have hch : chc cd n j s ((atP cd i s.1 p 1).length + 1) = (plG s.1 i, s.2) := by
                unfold chc
                rw [if_neg (by omega), Nat.add_sub_cancel, ← hp, hgd]
              refine u_iinc (pc := 113) (v2 := 1) C d_M_reach_113 rfl rfl (by decide) (fun x113 e113 L9 hL9 => ?_)
              obtain rfl : L9 = [some (.ref 0), some (.int (nI lv)), some (.int (nI 3)), some (.int p), some (.int wt), some (.int x5), some (.int x113), some (.int (nI i)), none] := hL9.symm
              refine u_aload_n (pc := 116) C d_M_reach_116 rfl ?_
              refine u_iload (pc := 117) C d_M_reach_117 rfl ?_
              refine u_callVv (pc := 119) C d_M_reach_119 mx_M_playIt mw_M_247 sR_0 rfl (c_M_playIt hS1 hlt h1) rfl rfl (Nat.le_of_ble_eq_true rfl) (fun M119 q119 => ?_)
              obtain ⟨hSp, op⟩ := q119
              have htp := OfR.tr ht1 op (by unfold gR; decide)
              have hLp := hL.g op
              refine u_aload_n (pc := 122) C d_M_reach_122 rfl ?_
              refine u_callVi (pc := 123) C d_M_reach_123 mx_M_runIt mw_M_288 sR_0 rfl (c_M_runIt (s := (plG s.1 i, s.2)) (Or.inl rfl) hSp htp hLp) rfl rfl (Nat.le_of_ble_eq_true rfl) (fun r123 M123 q123 => ?_)
              obtain ⟨e123, ⟨w1, w2, w3, hS2, hL2⟩, o2⟩ := q123
              rw [if_neg (by decide), if_neg (by decide)] at hL2
              have ht2 := OfR.tr htp o2 (fun z => by unfold rnR rvR at z; omega)
              have hrg : (runG cd n (plG s.1 i, s.2)).1 1 2 = s.1 1 2 := (runG_12 hSp.1).trans plG_12
              refine u_pop (pc := 126) C d_M_reach_126 rfl ?_
              refine u_aload_n (pc := 127) C d_M_reach_127 rfl ?_
              refine u_iload_n (pc := 128) C d_M_reach_128 rfl ?_
              refine u_iconst (pc := 129) (v := 1) C d_M_reach_129 (by decide) ?_
              refine u_iadd (pc := 130) C d_M_reach_130 ?_
              refine u_iload_n (pc := 131) C d_M_reach_131 rfl ?_
              refine u_iconst (pc := 132) (v := 1) C d_M_reach_132 (by decide) ?_
              refine u_isub (pc := 133) C d_M_reach_133 ?_
              refine u_iconst (pc := 134) (v := 1) C d_M_reach_134 (by decide) ?_
              refine u_iload_n (pc := 135) C d_M_reach_135 rfl ?_
              refine u_isub (pc := 136) C d_M_reach_136 ?_
              refine u_iload (pc := 137) C d_M_reach_137 rfl ?_
              rw [nI_1 lv, show nI 3 - 1 = nI 2 from by decide]
              refine u_callVi (pc := 139) C d_M_reach_139 mx_M_reach mw_M_310 sR_0 rfl (c_M_reach2 (s := runG cd n (plG s.1 i, s.2)) (j := j + 1) hS2 ht2 hL2 (by rw [hrg]; exact hw) (by rw [hp]; exact mvr_s hac hrg) (by omega) (by omega)) rfl rfl (Nat.le_of_ble_eq_true rfl) (fun r139 M139 q139 => ?_)
              obtain ⟨e139, o3, h63, hL3⟩ := q139
              refine u_istore (pc := 142) C d_M_reach_142 rfl (fun x142 e142 L9 hL9 => ?_)
              obtain rfl : L9 = [some (.ref 0), some (.int (nI lv)), some (.int (nI 3)), some (.int p), some (.int wt), some (.int x5), some (.int x113), some (.int (nI i)), some (.int x142)] := hL9.symm
              refine u_iload_n (pc := 144) C d_M_reach_144 rfl ?_
              refine u_iload (pc := 145) C d_M_reach_145 rfl ?_
              refine u_icmp_ne (pc := 147) (tgt := 167) C d_M_reach_147 rfl (fun c147 => ?_) (fun c147 => ?_)
              · refine u_iload (pc := 167) C d_M_reach_167 rfl ?_
                refine u_iload (pc := 169) C d_M_reach_169 rfl ?_
                refine u_icmp_ge (pc := 171) (tgt := 179) C d_M_reach_171 rfl (fun c171 => ?_) (fun c171 => ?_)
                · refine u_iload (pc := 179) C d_M_reach_179 rfl ?_
                  refine u_istore (pc := 181) C d_M_reach_181 rfl (fun x181 e181 L9 hL9 => ?_)
                  obtain rfl : L9 = [some (.ref 0), some (.int (nI lv)), some (.int (nI 3)), some (.int p), some (.int wt), some (.int x181), some (.int x113), some (.int (nI i)), some (.int x142)] := hL9.symm
                  refine u_aload_n (pc := 183) C d_M_reach_183 rfl ?_
                  refine u_getr (pc := 184) (r := 7) C d_M_reach_184 fw_M_30 sR_0 rfl rfl ?_
                  refine u_iload_n (pc := 187) C d_M_reach_187 rfl ?_
                  refine u_aaldR (pc := 188) (r := (8 + lv)) C d_M_reach_188 sR_7 (vp_in_nI (show lv < 6 by omega) (by decide)) (lev_ix (by omega)) ?_
                  refine u_aload_n (pc := 189) C d_M_reach_189 rfl ?_
                  refine u_getr (pc := 190) (r := 6) C d_M_reach_190 fw_M_25 sR_0 rfl rfl ?_
                  refine u_callSv (pc := 193) C d_M_reach_193 mx_M_copy mw_M_300 (c_M_copy hl8 sR_6 (by omega)) rfl rfl (Nat.le_of_ble_eq_true rfl) (fun M193 q193 => ?_)
                  obtain ⟨cb1, cb2⟩ := q193
                  refine u_iinc (pc := 196) (v2 := 1) C d_M_reach_196 rfl rfl (by decide) (fun x196 e196 L9 hL9 => ?_)
                  obtain rfl : L9 = [some (.ref 0), some (.int (nI lv)), some (.int (nI 3)), some (.int p), some (.int wt), some (.int x181), some (.int x113), some (.int x196), some (.int x142)] := hL9.symm
                  refine u_goto (pc := 199) (tgt := 65) C d_M_reach_199 rfl ?_
                  obtain rfl : x196 = nI (i + 1) := by rw [e196, nI_succ]
                  refine u_drop 8 rfl ?_
                  have o19 : OfR (rcR lv) M1 M193 := (((op.mono (fun p j => g_rc)).trans (o2.mono (fun p j => rn_rc (by omega)))).trans (o3.mono (fun p j => rc_mono))).trans (cb_rc cb1)
                  have h88 : ∀ q, M139.1 (8 + lv) q = M1.1 (8 + lv) q := fun q => by
                    rw [o3 (8 + lv) q (fun z => z.2 ⟨by omega, by omega⟩), o2 (8 + lv) q (rn8 (by omega) q), op (8 + lv) q (by unfold gR; omega)]
                  refine ih (i + 1) _ _ _ (by omega) (by omega) ?_ (by rw [ea]; omega) ?_ (fun z => absurd hh z) (ho.trans o19) (fun q hq => ?_) (fun q hq => ?_) (hL3.g (fun p j hp9 => by rw [cb1 p hp9]))
                  · rw [e113, e6, ea, nI_succ]
                  · rw [ea, bo_up (by omega)]
                    rw [hch, ← e5, ← e139, ← e142]
                    have hjm : ¬ j % 2 = 0 := fun z => c147 (by rw [hp, hw]; exact (mvr_w hac).mpr z)
                    rw [if_neg (by rw [decide_eq_false hjm]; decide), e181, if_neg (Int32.not_lt.mpr c171)]
                  · rw [cb2 q hq, h88 q, h8 q hq]
                  · rw [cb1 (8 + lv) (by omega), h88 q, h8 q hq]
                · refine u_iload (pc := 174) C d_M_reach_174 rfl ?_
                  refine u_goto (pc := 176) (tgt := 181) C d_M_reach_176 rfl ?_
                  refine u_istore (pc := 181) C d_M_reach_181 rfl (fun x181 e181 L9 hL9 => ?_)
                  obtain rfl : L9 = [some (.ref 0), some (.int (nI lv)), some (.int (nI 3)), some (.int p), some (.int wt), some (.int x181), some (.int x113), some (.int (nI i)), some (.int x142)] := hL9.symm
                  refine u_aload_n (pc := 183) C d_M_reach_183 rfl ?_
                  refine u_getr (pc := 184) (r := 7) C d_M_reach_184 fw_M_30 sR_0 rfl rfl ?_
                  refine u_iload_n (pc := 187) C d_M_reach_187 rfl ?_
                  refine u_aaldR (pc := 188) (r := (8 + lv)) C d_M_reach_188 sR_7 (vp_in_nI (show lv < 6 by omega) (by decide)) (lev_ix (by omega)) ?_
                  refine u_aload_n (pc := 189) C d_M_reach_189 rfl ?_
                  refine u_getr (pc := 190) (r := 6) C d_M_reach_190 fw_M_25 sR_0 rfl rfl ?_
                  refine u_callSv (pc := 193) C d_M_reach_193 mx_M_copy mw_M_300 (c_M_copy hl8 sR_6 (by omega)) rfl rfl (Nat.le_of_ble_eq_true rfl) (fun M193 q193 => ?_)
                  obtain ⟨cb1, cb2⟩ := q193
                  refine u_iinc (pc := 196) (v2 := 1) C d_M_reach_196 rfl rfl (by decide) (fun x196 e196 L9 hL9 => ?_)
                  obtain rfl : L9 = [some (.ref 0), some (.int (nI lv)), some (.int (nI 3)), some (.int p), some (.int wt), some (.int x181), some (.int x113), some (.int x196), some (.int x142)] := hL9.symm
                  refine u_goto (pc := 199) (tgt := 65) C d_M_reach_199 rfl ?_
                  obtain rfl : x196 = nI (i + 1) := by rw [e196, nI_succ]
                  refine u_drop 8 rfl ?_
                  have o19 : OfR (rcR lv) M1 M193 := (((op.mono (fun p j => g_rc)).trans (o2.mono (fun p j => rn_rc (by omega)))).trans (o3.mono (fun p j => rc_mono))).trans (cb_rc cb1)
                  have h88 : ∀ q, M139.1 (8 + lv) q = M1.1 (8 + lv) q := fun q => by
                    rw [o3 (8 + lv) q (fun z => z.2 ⟨by omega, by omega⟩), o2 (8 + lv) q (rn8 (by omega) q), op (8 + lv) q (by unfold gR; omega)]
                  refine ih (i + 1) _ _ _ (by omega) (by omega) ?_ (by rw [ea]; omega) ?_ (fun z => absurd hh z) (ho.trans o19) (fun q hq => ?_) (fun q hq => ?_) (hL3.g (fun p j hp9 => by rw [cb1 p hp9]))
                  · rw [e113, e6, ea, nI_succ]
                  · rw [ea, bo_up (by omega)]
                    rw [hch, ← e5, ← e139, ← e142]
                    have hjm : ¬ j % 2 = 0 := fun z => c147 (by rw [hp, hw]; exact (mvr_w hac).mpr z)
                    rw [if_neg (by rw [decide_eq_false hjm]; decide), e181, if_pos (Int32.not_le.mp c171)]
                  · rw [cb2 q hq, h88 q, h8 q hq]
                  · rw [cb1 (8 + lv) (by omega), h88 q, h8 q hq]
              · refine u_iload (pc := 150) C d_M_reach_150 rfl ?_
                refine u_iload (pc := 152) C d_M_reach_152 rfl ?_
                refine u_icmp_le (pc := 154) (tgt := 162) C d_M_reach_154 rfl (fun c154 => ?_) (fun c154 => ?_)
                · refine u_iload (pc := 162) C d_M_reach_162 rfl ?_
                  refine u_goto (pc := 164) (tgt := 181) C d_M_reach_164 rfl ?_
                  refine u_istore (pc := 181) C d_M_reach_181 rfl (fun x181 e181 L9 hL9 => ?_)
                  obtain rfl : L9 = [some (.ref 0), some (.int (nI lv)), some (.int (nI 3)), some (.int p), some (.int wt), some (.int x181), some (.int x113), some (.int (nI i)), some (.int x142)] := hL9.symm
                  refine u_aload_n (pc := 183) C d_M_reach_183 rfl ?_
                  refine u_getr (pc := 184) (r := 7) C d_M_reach_184 fw_M_30 sR_0 rfl rfl ?_
                  refine u_iload_n (pc := 187) C d_M_reach_187 rfl ?_
                  refine u_aaldR (pc := 188) (r := (8 + lv)) C d_M_reach_188 sR_7 (vp_in_nI (show lv < 6 by omega) (by decide)) (lev_ix (by omega)) ?_
                  refine u_aload_n (pc := 189) C d_M_reach_189 rfl ?_
                  refine u_getr (pc := 190) (r := 6) C d_M_reach_190 fw_M_25 sR_0 rfl rfl ?_
                  refine u_callSv (pc := 193) C d_M_reach_193 mx_M_copy mw_M_300 (c_M_copy hl8 sR_6 (by omega)) rfl rfl (Nat.le_of_ble_eq_true rfl) (fun M193 q193 => ?_)
                  obtain ⟨cb1, cb2⟩ := q193
                  refine u_iinc (pc := 196) (v2 := 1) C d_M_reach_196 rfl rfl (by decide) (fun x196 e196 L9 hL9 => ?_)
                  obtain rfl : L9 = [some (.ref 0), some (.int (nI lv)), some (.int (nI 3)), some (.int p), some (.int wt), some (.int x181), some (.int x113), some (.int x196), some (.int x142)] := hL9.symm
                  refine u_goto (pc := 199) (tgt := 65) C d_M_reach_199 rfl ?_
                  obtain rfl : x196 = nI (i + 1) := by rw [e196, nI_succ]
                  refine u_drop 8 rfl ?_
                  have o19 : OfR (rcR lv) M1 M193 := (((op.mono (fun p j => g_rc)).trans (o2.mono (fun p j => rn_rc (by omega)))).trans (o3.mono (fun p j => rc_mono))).trans (cb_rc cb1)
                  have h88 : ∀ q, M139.1 (8 + lv) q = M1.1 (8 + lv) q := fun q => by
                    rw [o3 (8 + lv) q (fun z => z.2 ⟨by omega, by omega⟩), o2 (8 + lv) q (rn8 (by omega) q), op (8 + lv) q (by unfold gR; omega)]
                  refine ih (i + 1) _ _ _ (by omega) (by omega) ?_ (by rw [ea]; omega) ?_ (fun z => absurd hh z) (ho.trans o19) (fun q hq => ?_) (fun q hq => ?_) (hL3.g (fun p j hp9 => by rw [cb1 p hp9]))
                  · rw [e113, e6, ea, nI_succ]
                  · rw [ea, bo_up (by omega)]
                    rw [hch, ← e5, ← e139, ← e142]
                    have hjm : j % 2 = 0 := (mvr_w hac).mp (by rw [← hp, ← hw]; exact c147)
                    rw [if_pos (decide_eq_true hjm), e181, if_neg (Int32.not_lt.mpr c154)]
                  · rw [cb2 q hq, h88 q, h8 q hq]
                  · rw [cb1 (8 + lv) (by omega), h88 q, h8 q hq]
                · refine u_iload (pc := 157) C d_M_reach_157 rfl ?_
                  refine u_goto (pc := 159) (tgt := 181) C d_M_reach_159 rfl ?_
                  refine u_istore (pc := 181) C d_M_reach_181 rfl (fun x181 e181 L9 hL9 => ?_)
                  obtain rfl : L9 = [some (.ref 0), some (.int (nI lv)), some (.int (nI 3)), some (.int p), some (.int wt), some (.int x181), some (.int x113), some (.int (nI i)), some (.int x142)] := hL9.symm
                  refine u_aload_n (pc := 183) C d_M_reach_183 rfl ?_
                  refine u_getr (pc := 184) (r := 7) C d_M_reach_184 fw_M_30 sR_0 rfl rfl ?_
                  refine u_iload_n (pc := 187) C d_M_reach_187 rfl ?_
                  refine u_aaldR (pc := 188) (r := (8 + lv)) C d_M_reach_188 sR_7 (vp_in_nI (show lv < 6 by omega) (by decide)) (lev_ix (by omega)) ?_
                  refine u_aload_n (pc := 189) C d_M_reach_189 rfl ?_
                  refine u_getr (pc := 190) (r := 6) C d_M_reach_190 fw_M_25 sR_0 rfl rfl ?_
                  refine u_callSv (pc := 193) C d_M_reach_193 mx_M_copy mw_M_300 (c_M_copy hl8 sR_6 (by omega)) rfl rfl (Nat.le_of_ble_eq_true rfl) (fun M193 q193 => ?_)
                  obtain ⟨cb1, cb2⟩ := q193
                  refine u_iinc (pc := 196) (v2 := 1) C d_M_reach_196 rfl rfl (by decide) (fun x196 e196 L9 hL9 => ?_)
                  obtain rfl : L9 = [some (.ref 0), some (.int (nI lv)), some (.int (nI 3)), some (.int p), some (.int wt), some (.int x181), some (.int x113), some (.int x196), some (.int x142)] := hL9.symm
                  refine u_goto (pc := 199) (tgt := 65) C d_M_reach_199 rfl ?_
                  obtain rfl : x196 = nI (i + 1) := by rw [e196, nI_succ]
                  refine u_drop 8 rfl ?_
                  have o19 : OfR (rcR lv) M1 M193 := (((op.mono (fun p j => g_rc)).trans (o2.mono (fun p j => rn_rc (by omega)))).trans (o3.mono (fun p j => rc_mono))).trans (cb_rc cb1)
                  have h88 : ∀ q, M139.1 (8 + lv) q = M1.1 (8 + lv) q := fun q => by
                    rw [o3 (8 + lv) q (fun z => z.2 ⟨by omega, by omega⟩), o2 (8 + lv) q (rn8 (by omega) q), op (8 + lv) q (by unfold gR; omega)]
                  refine ih (i + 1) _ _ _ (by omega) (by omega) ?_ (by rw [ea]; omega) ?_ (fun z => absurd hh z) (ho.trans o19) (fun q hq => ?_) (fun q hq => ?_) (hL3.g (fun p j hp9 => by rw [cb1 p hp9]))
                  · rw [e113, e6, ea, nI_succ]
                  · rw [ea, bo_up (by omega)]
                    rw [hch, ← e5, ← e139, ← e142]
                    have hjm : j % 2 = 0 := (mvr_w hac).mp (by rw [← hp, ← hw]; exact c147)
                    rw [if_pos (decide_eq_true hjm), e181, if_pos (Int32.not_le.mp c154)]
                  · rw [cb2 q hq, h88 q, h8 q hq]
                  · rw [cb1 (8 + lv) (by omega), h88 q, h8 q hq]
set_option maxRecDepth 20000 in
theorem c_M_reach3 {cd : Nat → Nat → Int32} {n j lv : Nat} {s : Gm × List Nat} {M : Mem} {p wt : Int32} {th ev : List Int32} (hS : RS M cd n s.1 s.2) (ht0 : M.1 0 32 = 0) (hL0 : LGr M th ev) (hw : wt = s.1 1 2) (hp : p = mvr j s.1) (hlv : lv = j + 1) (hj : j + 3 ≤ 3) : Ct lyR y_M_reach b_M_reach 9 (some .int) 11 [.ref 0, .int (nI lv), .int (nI 3), .int p, .int wt] M (Pi fun r M' => r = otc cd n 3 j s ∧ OfR (rcR lv) M M' ∧ (∀ j, j < 123 → M'.1 6 j = M.1 6 j) ∧ LGr M' th ev) := by
  have hl8 : sh lyR (8 + lv) 1 123 := shLev (by omega)
  have n24 := hS.n24
  have hac := hS.1.2.2.2.2.2.1
  refine Ct.ofG mx_M_reach [some (.ref 0), some (.int (nI lv)), some (.int (nI 3)), some (.int p), some (.int wt), none, none, none, none] rfl rfl (Nat.le_of_ble_eq_true rfl) (fun κ C hQ => ?_)
  refine u_iload_n (pc := 0) C d_M_reach_0 rfl ?_
  refine u_if_ne (pc := 1) (tgt := 11) C d_M_reach_1 rfl (fun c1 => ?_) (fun c1 => ?_)
  · refine u_aload_n (pc := 11) C d_M_reach_11 rfl ?_
    refine u_getr (pc := 12) (r := 6) C d_M_reach_12 fw_M_25 sR_0 rfl rfl ?_
    refine u_aload_n (pc := 15) C d_M_reach_15 rfl ?_
    refine u_getr (pc := 16) (r := 7) C d_M_reach_16 fw_M_30 sR_0 rfl rfl ?_
    refine u_iload_n (pc := 19) C d_M_reach_19 rfl ?_
    refine u_aaldR (pc := 20) (r := (8 + lv)) C d_M_reach_20 sR_7 (vp_in_nI (show lv < 6 by omega) (by decide)) (lev_ix (by omega)) ?_
    refine u_callSv (pc := 21) C d_M_reach_21 mx_M_copy mw_M_300 (c_M_copy sR_6 hl8 (by omega)) rfl rfl (Nat.le_of_ble_eq_true rfl) (fun M21 q21 => ?_)
    obtain ⟨cp1, cp2⟩ := q21
    obtain ⟨hS1, ht1, hL1, oc1⟩ := cp8 hS ht0 hL0 cp1 (by omega)
    refine u_aload_n (pc := 24) C d_M_reach_24 rfl ?_
    refine u_callVi (pc := 25) C d_M_reach_25 mx_M_runIt mw_M_288 sR_0 rfl (c_M_runIt (s := s) (Or.inl rfl) hS1 ht1 hL1) rfl rfl (Nat.le_of_ble_eq_true rfl) (fun r25 M25 q25 => ?_)
    obtain ⟨e25, ⟨w1, w2, w3, hS2, hL2⟩, o2⟩ := q25
    rw [if_neg (by decide), if_neg (by decide)] at hL2
    have ht2 := OfR.tr ht1 o2 (fun z => by unfold rnR rvR at z; omega)
    have hrg : (runG cd n s).1 1 2 = s.1 1 2 := runG_12 hS.1
    refine u_pop (pc := 28) C d_M_reach_28 rfl ?_
    refine u_aload_n (pc := 29) C d_M_reach_29 rfl ?_
    refine u_iload_n (pc := 30) C d_M_reach_30 rfl ?_
    refine u_iconst (pc := 31) (v := 1) C d_M_reach_31 (by decide) ?_
    refine u_iadd (pc := 32) C d_M_reach_32 ?_
    refine u_iload_n (pc := 33) C d_M_reach_33 rfl ?_
    refine u_iconst (pc := 34) (v := 1) C d_M_reach_34 (by decide) ?_
    refine u_isub (pc := 35) C d_M_reach_35 ?_
    refine u_iconst (pc := 36) (v := 1) C d_M_reach_36 (by decide) ?_
    refine u_iload_n (pc := 37) C d_M_reach_37 rfl ?_
    refine u_isub (pc := 38) C d_M_reach_38 ?_
    refine u_iload (pc := 39) C d_M_reach_39 rfl ?_
    rw [nI_1 lv, show nI 3 - 1 = nI 2 from by decide]
    refine u_callVi (pc := 41) C d_M_reach_41 mx_M_reach mw_M_310 sR_0 rfl (c_M_reach2 (s := runG cd n s) (j := j + 1) hS2 ht2 hL2 (by rw [hrg]; exact hw) (by rw [hp]; exact mvr_s hac hrg) (by omega) (by omega)) rfl rfl (Nat.le_of_ble_eq_true rfl) (fun r41 M41 q41 => ?_)
    obtain ⟨e41, o3, h63, hL3⟩ := q41
    refine u_istore (pc := 44) C d_M_reach_44 rfl (fun x44 e44 L9 hL9 => ?_)
    obtain rfl : L9 = [some (.ref 0), some (.int (nI lv)), some (.int (nI 3)), some (.int p), some (.int wt), some (.int x44), none, none, none] := hL9.symm
    refine u_aload_n (pc := 46) C d_M_reach_46 rfl ?_
    refine u_getr (pc := 47) (r := 7) C d_M_reach_47 fw_M_30 sR_0 rfl rfl ?_
    refine u_iload_n (pc := 50) C d_M_reach_50 rfl ?_
    refine u_aaldR (pc := 51) (r := (8 + lv)) C d_M_reach_51 sR_7 (vp_in_nI (show lv < 6 by omega) (by decide)) (lev_ix (by omega)) ?_
    refine u_aload_n (pc := 52) C d_M_reach_52 rfl ?_
    refine u_getr (pc := 53) (r := 6) C d_M_reach_53 fw_M_25 sR_0 rfl rfl ?_
    refine u_callSv (pc := 56) C d_M_reach_56 mx_M_copy mw_M_300 (c_M_copy hl8 sR_6 (by omega)) rfl rfl (Nat.le_of_ble_eq_true rfl) (fun M56 q56 => ?_)
    obtain ⟨cb1, cb2⟩ := q56
    refine u_iconst (pc := 59) (v := 0) C d_M_reach_59 (by decide) ?_
    refine u_istore (pc := 60) C d_M_reach_60 rfl (fun x60 e60 L9 hL9 => ?_)
    obtain rfl : L9 = [some (.ref 0), some (.int (nI lv)), some (.int (nI 3)), some (.int p), some (.int wt), some (.int x44), some (.int x60), none, none] := hL9.symm
    refine u_iconst (pc := 62) (v := 0) C d_M_reach_62 (by decide) ?_
    refine u_istore (pc := 63) C d_M_reach_63 rfl (fun x63 e63 L9 hL9 => ?_)
    obtain rfl : L9 = [some (.ref 0), some (.int (nI lv)), some (.int (nI 3)), some (.int p), some (.int wt), some (.int x44), some (.int x60), some (.int x63), none] := hL9.symm
    subst e60
    subst e63
    have h88 : ∀ q, M41.1 (8 + lv) q = M21.1 (8 + lv) q := fun q => by
      rw [o3 (8 + lv) q (fun z => z.2 ⟨by omega, by omega⟩), o2 (8 + lv) q (rn8 (by omega) q)]
    have o19 : OfR (rcR lv) M M56 := (((cp_rc cp1 (by omega)).trans (o2.mono (fun p j => rn_rc (by omega)))).trans (o3.mono (fun p j => rc_mono))).trans (cb_rc cb1)
    refine lp_rch3 hS ht0 hL0 hw hp hlv hj C hQ (n + 1) 0 _ _ _ (by omega) (by omega) rfl (Nat.zero_le _) ?_ (fun _ => rfl) o19 (fun q hq => by rw [cb2 q hq, h88 q, cp2 q hq]) (fun q hq => by rw [cb1 (8 + lv) (by omega), h88 q, cp2 q hq]) (hL3.g (fun p j hp9 => by rw [cb1 p hp9]))
    show x44 = bo _ _ 1
    rw [bo_one, e44, e41]
    rfl
  · exact absurd c1 (by decide)
