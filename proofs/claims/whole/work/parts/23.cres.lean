/-! a thing resolved -/
theorem thV_pos {n : Nat} {g : Gm} {x : Int32} (h : thV n g x) (hn : n ≤ 24) : ¬ x < 0 := by
  rcases h with ⟨c, h1, rfl, -⟩ | ⟨t, p, a, h1, h2, h3, rfl⟩
  · exact nI_pos (by omega)
  · exact nI_pos (by omega)
theorem thV_card {n : Nat} {g : Gm} {x : Int32} (h : thV n g x) (hx : ¬ 10000 ≤ x) : ∃ c, c < n ∧ x = nI c ∧ g 3 c = 2 := by
  rcases h with h | ⟨t, p, a, h1, h2, h3, rfl⟩
  · exact h
  · exact absurd (nI_le (a := 10000) (b := 10000 + 1000 * t + 100 * p + a) (by omega) (by omega)) hx
set_option maxRecDepth 20000 in
theorem thV_shad {n : Nat} {g : Gm} {x : Int32} (h : thV n g x) (hn : n ≤ 24) (hx : 10000 ≤ x) : ∃ t p a, t < 3 ∧ p < 2 ∧ a ≤ 99 ∧ shT x = nI t ∧ shP x = nI p ∧ shA x = nI a := by
  rcases h with ⟨c, h1, rfl, -⟩ | ⟨t, p, a, h1, h2, h3, rfl⟩
  · exact absurd hx (nI_ge (a := c) (b := 10000) (by omega) (by omega))
  · refine ⟨t, p, a, h1, h2, h3, ?_⟩
    have e : nI (10000 + 1000 * t + 100 * p + a) - 10000 = nI (1000 * t + 100 * p + a) := by
      rw [show (10000 : Int32) = nI 10000 from rfl, pk_sub (by omega)]
      exact congrArg nI (by omega)
    unfold shT shP shA
    rw [e]
    refine ⟨?_, ?_, ?_⟩
    · rw [show (1000 : Int32) = nI 1000 from rfl, pk_div (by omega) (by decide) (by decide)]
      exact congrArg nI (by omega)
    · unfold remF
      rw [show (1000 : Int32) = nI 1000 from rfl, pk_rem (by omega) (by decide) (by decide), show (100 : Int32) = nI 100 from rfl, pk_div (by omega) (by decide) (by decide)]
      exact congrArg nI (by omega)
    · unfold remF
      rw [show (100 : Int32) = nI 100 from rfl, pk_rem (by omega) (by decide) (by decide)]
      exact congrArg nI (by omega)
theorem popd_3 {g : Gm} {s : Nat} (h : s ≠ 1) : (popd g) s = g s := up2_s h
theorem popd_1 {g : Gm} {j : Nat} (h : j ≠ 4) : (popd g) 1 j = g 1 j := up2_n h
theorem mvd.pop {n m : Nat} {g : Gm} : mvd n g m (popd g) m := mvd.same (popd_3 (by decide)) (popd_1 (by decide)) (popd_3 (by decide))
theorem mvd.put4 {n m c : Nat} {g : Gm} (hc : c < n) (h : (g 3 c).toNatClampNeg < 4) : mvd n g m (put4 g c) (m + 1) := mvd.mv (x := 4) hc rfl h
/-- the top of a pile that isn't empty goes from there: a card is gone -/
theorem WFg.top4 {cd : Nat → Nat → Int32} {n h c : Nat} {g : Gm} {tb : List Nat} (hw : WFg cd n g tb) (hh : g 1 4 = nI h) (h0 : 0 < h) (h64 : h ≤ 64) (hc : c < n) (ht : top g = nI c) (h2 : g 3 c = 2) : WFg cd n (put4 (popd g) c) tb := by
  obtain ⟨w1, w2, w3⟩ := hw.pop hh h0 h64
  have h3 : (popd g) 3 c = 2 := by rw [popd_3 (by decide)]; exact h2
  exact w1.place (p := 4) hc (by rw [h3]; decide) (by decide) (by decide) (fun _ => rfl) (w3 c ht hc)
theorem WFg.stpL {cd : Nat → Nat → Int32} {n : Nat} {g : Gm} {tb : List Nat} (hw : WFg cd n g tb) : WFg cd n (stp g) tb := by
  obtain ⟨h, h64, hh⟩ := hw.hb
  rw [show stp g = if g 1 4 ≤ 0 then g else if 10000 ≤ top g then popd g else put4 (popd g) (top g).toNatClampNeg from rfl]
  split
  · exact hw
  · rename_i hp
    have h0 : 0 < h := by
      rcases Nat.eq_zero_or_pos h with z | z
      · rw [hh, z] at hp; exact absurd (show nI 0 ≤ (0 : Int32) by decide) hp
      · exact z
    obtain ⟨w1, w2, w3⟩ := hw.pop hh h0 h64
    split
    · exact w1
    · rename_i hx
      obtain ⟨c, c1, c2, c3⟩ := thV_card w2 hx
      have hn := hw.1.1
      rw [c2, nI_clamp (by omega)]
      exact hw.top4 hh h0 h64 c1 c2 c3
theorem yng_at {cd : Nat → Nat → Int32} {tb : List Nat} {p : Int32} {j : Nat} (hj : j < tb.length) (h1 : cd 1 (tb.getD j 0) = p) (h2 : ∀ t, j < t → t < tb.length → cd 1 (tb.getD t 0) ≠ p) : yng cd tb p = some (tb.getD j 0) := by
  unfold yng
  rw [List.find?_eq_some_iff_getElem]
  refine ⟨decide_eq_true h1, tb.length - 1 - j, by rw [List.length_reverse]; omega, ?_, fun t ht => ?_⟩
  · rw [List.getElem_reverse, getD_get hj]
    congr 1
    omega
  · rw [List.getElem_reverse]
    have := h2 (tb.length - 1 - t) (by omega) (by omega)
    rw [getD_get (by omega)] at this
    simp [this]
theorem yng_none {cd : Nat → Nat → Int32} {tb : List Nat} {p : Int32} (h2 : ∀ t, t < tb.length → cd 1 (tb.getD t 0) ≠ p) : yng cd tb p = none := by
  unfold yng
  rw [List.find?_eq_none]
  intro x hx
  obtain ⟨j, hj, rfl⟩ := List.mem_iff_getElem.mp (List.mem_reverse.mp hx)
  have := h2 j hj
  rw [getD_get hj] at this
  simp [this]
theorem yng_mem {cd : Nat → Nat → Int32} {tb : List Nat} {p : Int32} {c : Nat} (h : yng cd tb p = some c) : c ∈ tb := List.mem_reverse.mp (List.mem_of_find?_eq_some h)
theorem WFg.clrL {cd : Nat → Nat → Int32} {n : Nat} {g : Gm} {tb : List Nat} {p : Int32} (hw : WFg cd n g tb) : WFg cd n (clr cd p (g, tb)).1 (clr cd p (g, tb)).2 := by
  rw [show clr cd p (g, tb) = match yng cd tb p with | none => (g, tb) | some c => (put4 g c, tb.erase c) from rfl]
  cases hy : yng cd tb p with
  | none => exact hw
  | some c => exact hw.gone (yng_mem hy)
theorem fam3 {k : Nat} (h : k ≤ 14) : famF (nI k) = 3 ↔ (9 ≤ nI k ∧ nI k ≤ 13) := by
  revert k
  decide +kernel
set_option maxRecDepth 20000 in
theorem c_R_stopTop {k n m : Nat} {g : Gm} {tb : List Nat} {cd : Nat → Nat → Int32} {M : Mem} (hk : k < 6) (hW : WFg cd n g tb) (hR : RepG M k n g tb m) : Ct lyC y_R_stopTop b_R_stopTop 3 none 2 [.ref 75, .ref (gp k)] M (Pv fun M' => ∃ m', RepG M' k n (stp g) tb m' ∧ Off (blk k) M M' ∧ mvd n g m (stp g) m') := by
  obtain ⟨h, h64, hh⟩ := hW.hb
  have hn := hW.1.1
  have r10 := hR.2.2.2.2.2.2.2.2.1
  have es : stp g = if g 1 4 ≤ 0 then g else if 10000 ≤ top g then popd g else put4 (popd g) (top g).toNatClampNeg := rfl
  refine Ct.ofG mx_R_stopTop [some (.ref 75), some (.ref (gp k)), none] rfl rfl (Nat.le_of_ble_eq_true rfl) (fun κ C hQ => ?_)
  refine u_aload_n (pc := 0) C d_R_stopTop_0 rfl ?_
  refine u_callVi (pc := 1) C d_R_stopTop_1 mx_G_pop mw_R_76 (shG0 hk) rfl (c_G_pop hk) rfl rfl (Nat.le_of_ble_eq_true rfl) (fun r1 M1 q1 => ?_)
  obtain ⟨e1, q1⟩ := q1
  have q1 := q1.symm
  subst q1
  refine u_istore_n (pc := 4) C d_R_stopTop_4 rfl (fun x4 e4 L9 hL9 => ?_)
  obtain rfl : L9 = [some (.ref 75), some (.ref (gp k)), some (.int x4)] := hL9.symm
  refine u_iload_n (pc := 5) C d_R_stopTop_5 rfl ?_
  refine u_if_lt (pc := 6) (tgt := 22) C d_R_stopTop_6 rfl (fun c6 => ?_) (fun c6 => ?_)
  · refine u_vret (pc := 22) C d_R_stopTop_22 (hQ _ _ ⟨rfl, ?_⟩)
    have hz : h = 0 := by
      rcases Nat.eq_zero_or_pos h with z | z
      · exact z
      · obtain ⟨w1, w2, w3⟩ := hW.pop hh z h64
        obtain ⟨p1, p2⟩ := hR.pop hh z h64
        exact absurd (show top g < 0 by rw [← p1, ← e1, ← e4]; exact c6) (thV_pos w2 hn)
    subst hz
    have e9 : popF M k = M := by
      unfold popF
      rw [r10, hh, if_neg (show ¬ (0 : Int32) < nI 0 by decide)]
    rw [e9, es, hh, if_pos (show nI 0 ≤ (0 : Int32) by decide)]
    exact ⟨m, hR, Off.refl, mvd.refl⟩
  · refine u_iload_n (pc := 9) C d_R_stopTop_9 rfl ?_
    refine u_sipush (pc := 10) (v := 10000) C d_R_stopTop_10 (by decide) ?_
    refine u_icmp_ge (pc := 13) (tgt := 22) C d_R_stopTop_13 rfl (fun c13 => ?_) (fun c13 => ?_)
    · refine u_vret (pc := 22) C d_R_stopTop_22 (hQ _ _ ⟨rfl, ?_⟩)
      have h0 : 0 < h := by
        rcases Nat.eq_zero_or_pos h with z | z
        · subst z
          exact absurd (show x4 < 0 by rw [e4, e1, popR, r10, hh, if_neg (show ¬ (0 : Int32) < nI 0 by decide)]; decide) c6
        · exact z
      obtain ⟨w1, w2, w3⟩ := hW.pop hh h0 h64
      obtain ⟨p1, p2⟩ := hR.pop hh h0 h64
      have hx4 : x4 = top g := by rw [e4, e1, p1]
      rw [es, hh, if_neg (nI_nle h0 (by omega))]
      rw [hx4] at c13
      rw [if_pos c13]
      exact ⟨m, p2, popF_off, mvd.pop⟩
    · refine u_aload_n (pc := 16) C d_R_stopTop_16 rfl ?_
      refine u_iload_n (pc := 17) C d_R_stopTop_17 rfl ?_
      refine u_iconst (pc := 18) (v := 4) C d_R_stopTop_18 (by decide) ?_
      refine u_callVv (pc := 19) C d_R_stopTop_19 mx_G_moveTo mw_R_107 (shG0 hk) rfl (c_G_moveTo hk) rfl rfl (Nat.le_of_ble_eq_true rfl) (fun M19 q19 => ?_)
      have q19 := q19.symm
      subst q19
      refine u_vret (pc := 22) C d_R_stopTop_22 (hQ _ _ ⟨rfl, ?_⟩)
      have h0 : 0 < h := by
        rcases Nat.eq_zero_or_pos h with z | z
        · subst z
          exact absurd (show x4 < 0 by rw [e4, e1, popR, r10, hh, if_neg (show ¬ (0 : Int32) < nI 0 by decide)]; decide) c6
        · exact z
      obtain ⟨w1, w2, w3⟩ := hW.pop hh h0 h64
      obtain ⟨p1, p2⟩ := hR.pop hh h0 h64
      have hx4 : x4 = top g := by rw [e4, e1, p1]
      rw [es, hh, if_neg (nI_nle h0 (by omega))]
      rw [hx4] at c13
      obtain ⟨c, c1, c2, c3⟩ := thV_card w2 c13
      rw [if_neg c13, hx4, c2, nI_clamp (by omega)]
      exact ⟨m + 1, p2.mv (by omega), popF_off.trans mvF_off, mvd.pop.trans (mvd.put4 c1 (by rw [popd_3 (by decide), c3]; decide))⟩
set_option maxRecDepth 20000 in
theorem lp_cy {κ : KX} {k n m : Nat} {g : Gm} {tb : List Nat} {cd : Nat → Nat → Int32} {M : Mem} {p : Int32} (hk : k < 6) (hW : WFg cd n g tb) (hR : RepG M k n g tb m) (hcd : CDm M cd) (C : Cx κ lyC y_R_clearYoungest.cls b_R_clearYoungest 5 none 3) (hQ : ∀ v M', Pv (fun M' => ∃ m', RepG M' k n (clr cd p (g, tb)).1 (clr cd p (g, tb)).2 m' ∧ Off (blk k) M M' ∧ mvd n g m (clr cd p (g, tb)).1 m') v M' → KQ κ v M') : ∀ (j : Nat) (x3 : Int32), j ≤ tb.length → x3 = nI j - 1 → (∀ t, j ≤ t → t < tb.length → cd 1 (tb.getD t 0) ≠ p) → G κ lyC 7 [some (.ref 75), some (.ref (gp k)), some (.int p), some (.int x3), none] [] M := by
  obtain ⟨htl, hbn, hb24⟩ := hW.tl
  intro j
  induction j with
  | zero =>
    intro x3 hj e3 hw
    have hneg : x3 < 0 := by rw [e3]; decide
    have ec : clr cd p (g, tb) = (g, tb) := by
      rw [show clr cd p (g, tb) = match yng cd tb p with | none => (g, tb) | some c => (put4 g c, tb.erase c) from rfl, yng_none (fun t ht => hw t (by omega) ht)]
    refine u_iload_n (pc := 7) C d_R_clearYoungest_7 rfl ?_
    refine u_if_lt (pc := 8) (tgt := 50) C d_R_clearYoungest_8 rfl (fun c8 => ?_) (fun c8 => absurd hneg c8)
    refine u_vret (pc := 50) C d_R_clearYoungest_50 (hQ _ _ ⟨rfl, ?_⟩)
    rw [ec]
    exact ⟨m, hR, Off.refl, mvd.refl⟩
  | succ j ih =>
    intro x3 hj e3 hw
    obtain rfl : x3 = nI j := by rw [e3]; exact nI_pred j
    refine u_iload_n (pc := 7) C d_R_clearYoungest_7 rfl ?_
    refine u_if_lt (pc := 8) (tgt := 50) C d_R_clearYoungest_8 rfl (fun c8 => ?_) (fun c8 => ?_)
    · exact absurd c8 (nI_pos (by omega))
    · refine u_aload_n (pc := 11) C d_R_clearYoungest_11 rfl ?_
      refine u_getr (pc := 12) (r := (gp k + 5)) C d_R_clearYoungest_12 fw_R_135 (shG0 hk) rfl (rf_G_5 hk) ?_
      refine u_iload_n (pc := 15) C d_R_clearYoungest_15 rfl ?_
      refine u_callSi (pc := 16) C d_R_clearYoungest_16 mx_L_at mw_R_97 (c_L_at (shG5 hk)) rfl rfl (Nat.le_of_ble_eq_true rfl) (fun r16 M16 q16 => ?_)
      obtain ⟨e16, q16⟩ := q16
      have q16 := q16.symm
      subst q16
      refine u_istore (pc := 19) C d_R_clearYoungest_19 rfl (fun x19 e19 L9 hL9 => ?_)
      obtain rfl : L9 = [some (.ref 75), some (.ref (gp k)), some (.int p), some (.int (nI j)), some (.int x19)] := hL9.symm
      rw [atF_in (by omega) (by decide), hR.2.2.2.2.1 j (by omega)] at e16
      rw [e16] at e19
      subst e19
      have hm := getD_mem (l := tb) (j := j) (by omega)
      have hc24 := hb24 _ hm
      refine u_aload_n (pc := 21) C d_R_clearYoungest_21 rfl ?_
      refine u_getr (pc := 22) (r := 0) C d_R_clearYoungest_22 fw_R_18 sC_75 rfl rfl ?_
      refine u_getr (pc := 25) (r := 2) C d_R_clearYoungest_25 fw_R_115 sC_0 rfl rfl ?_
      refine u_iload (pc := 28) C d_R_clearYoungest_28 rfl ?_
      refine u_callSi (pc := 30) C d_R_clearYoungest_30 mx_L_at mw_R_97 (c_L_at sC_2) rfl rfl (Nat.le_of_ble_eq_true rfl) (fun r30 M30 q30 => ?_)
      obtain ⟨e30, q30⟩ := q30
      have q30 := q30.symm
      subst q30
      refine u_iload_n (pc := 33) C d_R_clearYoungest_33 rfl ?_
      refine u_icmp_ne (pc := 34) (tgt := 44) C d_R_clearYoungest_34 rfl (fun c34 => ?_) (fun c34 => ?_)
      · refine u_iinc (pc := 44) (v2 := (-1)) C d_R_clearYoungest_44 rfl rfl (by decide) (fun x44 e44 L9 hL9 => ?_)
        obtain rfl : L9 = [some (.ref 75), some (.ref (gp k)), some (.int p), some (.int x44), some (.int (nI (tb.getD j 0)))] := hL9.symm
        refine u_goto (pc := 47) (tgt := 7) C d_R_clearYoungest_47 rfl ?_
        rw [(at_cd hcd hc24).2.1] at e30
        refine u_drop 4 rfl ?_
        refine ih x44 (by omega) (by rw [e44]; exact (Int32.sub_eq_add_neg (nI j) 1).symm) (fun t h1 h2 => ?_)
        by_cases q : t = j
        · subst q
          intro z
          exact c34 (by rw [e30, z])
        · exact hw t (by omega) h2
      · refine u_aload_n (pc := 37) C d_R_clearYoungest_37 rfl ?_
        refine u_iload (pc := 38) C d_R_clearYoungest_38 rfl ?_
        refine u_callVv (pc := 40) C d_R_clearYoungest_40 mx_G_takeOff mw_R_138 (shG0 hk) rfl (c_G_takeOff hk hR htl hW.2.1.1 hb24 hc24) rfl rfl (Nat.le_of_ble_eq_true rfl) (fun M40 q40 => ?_)
        obtain ⟨g9, o9⟩ := q40
        refine u_vret (pc := 43) C d_R_clearYoungest_43 (hQ _ _ ⟨rfl, ?_⟩)
        rw [(at_cd hcd hc24).2.1] at e30
        have hy := yng_at (cd := cd) (tb := tb) (p := p) (j := j) (by omega) (by rw [← e30]; exact c34) (fun t h1 h2 => hw t (by omega) h2)
        have ec : clr cd p (g, tb) = (put4 g (tb.getD j 0), tb.erase (tb.getD j 0)) := by
          rw [show clr cd p (g, tb) = match yng cd tb p with | none => (g, tb) | some c => (put4 g c, tb.erase c) from rfl, hy]
        rw [ec]
        have h3 := (hW.2.1.2.1 _).mp hm
        exact ⟨m + 1, g9, o9, mvd.put4 h3.1 (by rw [h3.2]; decide)⟩
set_option maxRecDepth 20000 in
theorem c_R_clearYoungest {k n m : Nat} {g : Gm} {tb : List Nat} {cd : Nat → Nat → Int32} {M : Mem} {p : Int32} (hk : k < 6) (hW : WFg cd n g tb) (hR : RepG M k n g tb m) (hcd : CDm M cd) : Ct lyC y_R_clearYoungest b_R_clearYoungest 5 none 3 [.ref 75, .ref (gp k), .int p] M (Pv fun M' => ∃ m', RepG M' k n (clr cd p (g, tb)).1 (clr cd p (g, tb)).2 m' ∧ Off (blk k) M M' ∧ mvd n g m (clr cd p (g, tb)).1 m') := by
  refine Ct.ofG mx_R_clearYoungest [some (.ref 75), some (.ref (gp k)), some (.int p), none, none] rfl rfl (Nat.le_of_ble_eq_true rfl) (fun κ C hQ => ?_)
  refine u_aload_n (pc := 0) C d_R_clearYoungest_0 rfl ?_
  refine u_geti (pc := 1) C d_R_clearYoungest_1 fw_R_132 (shG0 hk) rfl ?_
  refine u_iconst (pc := 4) (v := 1) C d_R_clearYoungest_4 (by decide) ?_
  refine u_isub (pc := 5) C d_R_clearYoungest_5 ?_
  refine u_istore_n (pc := 6) C d_R_clearYoungest_6 rfl (fun x6 e6 L9 hL9 => ?_)
  obtain rfl : L9 = [some (.ref 75), some (.ref (gp k)), some (.int p), some (.int x6), none] := hL9.symm
  exact lp_cy hk hW hR hcd C hQ tb.length x6 (Nat.le_refl _) (by rw [e6, hR.2.2.2.2.2.2.2.1]) (fun t h1 h2 => by omega)
def bgE (kd p a : Int32) (vs : Nat → Int32) : Int32 × Int32 × Int32 := (if kd = 9 then 1 else if kd = 10 then 2 else 0, if kd = 9 then 1 - p else p, withinF ((if kd = 9 then vs 1 else if kd = 10 then vs 2 else vs 0) + a) 0 99)
set_option maxRecDepth 20000 in
theorem c_R_begin {kd p a : Int32} {vs : Nat → Int32} {M : Mem} (hkd : kd = 9 ∨ kd = 10 ∨ kd = 11) (hv : ∀ v, v < 4 → M.1 (yp 1 + 1) v = vs v) : Ct lyC y_R_begin b_R_begin 4 none 2 [.ref 75, .int kd, .int p, .int a] M (Pv fun M' => EV M' 1 (bgE kd p a vs) [] ∧ Off (eblk 1) M M') := by
  refine Ct.ofG mx_R_begin [some (.ref 75), some (.int kd), some (.int p), some (.int a)] rfl rfl (Nat.le_of_ble_eq_true rfl) (fun κ C hQ => ?_)
  refine u_iload_n (pc := 0) C d_R_begin_0 rfl ?_
  refine u_bipush (pc := 1) (v := 9) C d_R_begin_1 (by decide) ?_
  refine u_icmp_ne (pc := 3) (tgt := 33) C d_R_begin_3 rfl (fun c3 => ?_) (fun c3 => ?_)
  · refine u_iload_n (pc := 33) C d_R_begin_33 rfl ?_
    refine u_bipush (pc := 34) (v := 10) C d_R_begin_34 (by decide) ?_
    refine u_icmp_ne (pc := 36) (tgt := 64) C d_R_begin_36 rfl (fun c36 => ?_) (fun c36 => ?_)
    · refine u_iload_n (pc := 64) C d_R_begin_64 rfl ?_
      refine u_bipush (pc := 65) (v := 11) C d_R_begin_65 (by decide) ?_
      refine u_icmp_ne (pc := 67) (tgt := 92) C d_R_begin_67 rfl (fun c67 => ?_) (fun c67 => ?_)
      · refine u_vret (pc := 92) C d_R_begin_92 (hQ _ _ ⟨rfl, ?_⟩)
        rcases hkd with q | q | q
        · exact absurd q c3
        · exact absurd q c36
        · exact absurd q c67
      · refine u_aload_n (pc := 70) C d_R_begin_70 rfl ?_
        refine u_getr (pc := 71) (r := (ep 1)) C d_R_begin_71 fw_R_34 sC_75 rfl rfl ?_
        refine u_iconst (pc := 74) (v := 0) C d_R_begin_74 (by decide) ?_
        refine u_iload_n (pc := 75) C d_R_begin_75 rfl ?_
        refine u_aload_n (pc := 76) C d_R_begin_76 rfl ?_
        refine u_getr (pc := 77) (r := (yp 1)) C d_R_begin_77 fw_R_27 sC_75 rfl rfl ?_
        refine u_getr (pc := 80) (r := (yp 1 + 1)) C d_R_begin_80 fw_R_141 (shY0 (by decide)) rfl rfl ?_
        refine u_iconst (pc := 83) (v := 0) C d_R_begin_83 (by decide) ?_
        refine u_callSi (pc := 84) C d_R_begin_84 mx_L_at mw_R_97 (c_L_at (shY1 (by decide))) rfl rfl (Nat.le_of_ble_eq_true rfl) (fun r84 M84 q84 => ?_)
        obtain ⟨e84, q84⟩ := q84
        have q84 := q84.symm
        subst q84
        refine u_iload_n (pc := 87) C d_R_begin_87 rfl ?_
        refine u_iadd (pc := 88) C d_R_begin_88 ?_
        refine u_callVv (pc := 89) C d_R_begin_89 mx_E_become mw_R_144 (shE0 (by decide)) rfl (c_E_become (b := 1) (by decide)) rfl rfl (Nat.le_of_ble_eq_true rfl) (fun M89 q89 => ?_)
        obtain ⟨g89, o89⟩ := q89
        refine u_vret (pc := 92) C d_R_begin_92 (hQ _ _ ⟨rfl, ?_⟩)
        have e9 : r84 = vs 0 := by rw [e84]; exact (atF_in (c := 0) (by decide) (by decide)).trans (hv 0 (by decide))
        rw [e9] at g89
        rw [bgE, if_neg c3, if_neg c3, if_neg c3, if_neg c36, if_neg c36]
        exact ⟨g89, o89⟩
    · refine u_aload_n (pc := 39) C d_R_begin_39 rfl ?_
      refine u_getr (pc := 40) (r := (ep 1)) C d_R_begin_40 fw_R_34 sC_75 rfl rfl ?_
      refine u_iconst (pc := 43) (v := 2) C d_R_begin_43 (by decide) ?_
      refine u_iload_n (pc := 44) C d_R_begin_44 rfl ?_
      refine u_aload_n (pc := 45) C d_R_begin_45 rfl ?_
      refine u_getr (pc := 46) (r := (yp 1)) C d_R_begin_46 fw_R_27 sC_75 rfl rfl ?_
      refine u_getr (pc := 49) (r := (yp 1 + 1)) C d_R_begin_49 fw_R_141 (shY0 (by decide)) rfl rfl ?_
      refine u_iconst (pc := 52) (v := 2) C d_R_begin_52 (by decide) ?_
      refine u_callSi (pc := 53) C d_R_begin_53 mx_L_at mw_R_97 (c_L_at (shY1 (by decide))) rfl rfl (Nat.le_of_ble_eq_true rfl) (fun r53 M53 q53 => ?_)
      obtain ⟨e53, q53⟩ := q53
      have q53 := q53.symm
      subst q53
      refine u_iload_n (pc := 56) C d_R_begin_56 rfl ?_
      refine u_iadd (pc := 57) C d_R_begin_57 ?_
      refine u_callVv (pc := 58) C d_R_begin_58 mx_E_become mw_R_144 (shE0 (by decide)) rfl (c_E_become (b := 1) (by decide)) rfl rfl (Nat.le_of_ble_eq_true rfl) (fun M58 q58 => ?_)
      obtain ⟨g58, o58⟩ := q58
      refine u_goto (pc := 61) (tgt := 92) C d_R_begin_61 rfl ?_
      refine u_vret (pc := 92) C d_R_begin_92 (hQ _ _ ⟨rfl, ?_⟩)
      have e9 : r53 = vs 2 := by rw [e53]; exact (atF_in (c := 2) (by decide) (by decide)).trans (hv 2 (by decide))
      rw [e9] at g58
      rw [bgE, if_neg c3, if_neg c3, if_neg c3, if_pos c36, if_pos c36]
      exact ⟨g58, o58⟩
  · refine u_aload_n (pc := 6) C d_R_begin_6 rfl ?_
    refine u_getr (pc := 7) (r := (ep 1)) C d_R_begin_7 fw_R_34 sC_75 rfl rfl ?_
    refine u_iconst (pc := 10) (v := 1) C d_R_begin_10 (by decide) ?_
    refine u_iconst (pc := 11) (v := 1) C d_R_begin_11 (by decide) ?_
    refine u_iload_n (pc := 12) C d_R_begin_12 rfl ?_
    refine u_isub (pc := 13) C d_R_begin_13 ?_
    refine u_aload_n (pc := 14) C d_R_begin_14 rfl ?_
    refine u_getr (pc := 15) (r := (yp 1)) C d_R_begin_15 fw_R_27 sC_75 rfl rfl ?_
    refine u_getr (pc := 18) (r := (yp 1 + 1)) C d_R_begin_18 fw_R_141 (shY0 (by decide)) rfl rfl ?_
    refine u_iconst (pc := 21) (v := 1) C d_R_begin_21 (by decide) ?_
    refine u_callSi (pc := 22) C d_R_begin_22 mx_L_at mw_R_97 (c_L_at (shY1 (by decide))) rfl rfl (Nat.le_of_ble_eq_true rfl) (fun r22 M22 q22 => ?_)
    obtain ⟨e22, q22⟩ := q22
    have q22 := q22.symm
    subst q22
    refine u_iload_n (pc := 25) C d_R_begin_25 rfl ?_
    refine u_iadd (pc := 26) C d_R_begin_26 ?_
    refine u_callVv (pc := 27) C d_R_begin_27 mx_E_become mw_R_144 (shE0 (by decide)) rfl (c_E_become (b := 1) (by decide)) rfl rfl (Nat.le_of_ble_eq_true rfl) (fun M27 q27 => ?_)
    obtain ⟨g27, o27⟩ := q27
    refine u_goto (pc := 30) (tgt := 92) C d_R_begin_30 rfl ?_
    refine u_vret (pc := 92) C d_R_begin_92 (hQ _ _ ⟨rfl, ?_⟩)
    have e9 : r22 = vs 1 := by rw [e22]; exact (atF_in (c := 1) (by decide) (by decide)).trans (hv 1 (by decide))
    rw [e9] at g27
    rw [bgE, if_pos c3, if_pos c3, if_pos c3]
    exact ⟨g27, o27⟩
