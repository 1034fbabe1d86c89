/-! the reference: a turn -/
def lsI (l : List Nat) : Int32 := if l.length = 0 then -1 else nI (l.getD (l.length - 1) 0)
theorem lsI_app {l : List Nat} {c : Nat} : lsI (l ++ [c]) = nI c := by
  unfold lsI
  rw [if_neg (by simp), List.length_append, List.length_singleton, Nat.add_sub_cancel]
  simp [List.getD_eq_getElem?_getD]
set_option maxRecDepth 20000 in
theorem lp_greatest {κ : KX} {cd : Nat → Nat → Int32} {n : Nat} {g : Gm} {tb : List Nat} {M : Mem} {p : Int32} (hS : RS M cd n g tb) (C : Cx κ lyR y_M_greatestIn.cls b_M_greatestIn 4 (some .int) 2) (hQ : ∀ v M', Pi (fun r M' => r = lsI (atP cd n g p 1) ∧ M' = M) v M' → KQ κ v M') : ∀ (f i : Nat) (x2 : Int32), i ≤ n → n - i < f → x2 = lsI (atP cd i g p 1) → G κ lyR 4 [some (.ref 0), some (.int p), some (.int x2), some (.int (nI i))] [] M := by
  intro f
  induction f with
  | zero => intro i x2 _ h; omega
  | succ f ih =>
    intro i x2 hi hf e2
    have n24 := hS.n24
    have h5 := hS.2.2.1
    obtain ⟨k1, k2, k3, k4, k5⟩ := hS.cdc
    have hin : nI n ≤ nI i ↔ n ≤ i := nI_leI (by omega) (by omega)
    refine u_iload_n (pc := 4) C d_M_greatestIn_4 rfl ?_
    refine u_aload_n (pc := 5) C d_M_greatestIn_5 rfl ?_
    refine u_geti (pc := 6) C d_M_greatestIn_6 fw_M_70 sR_0 rfl ?_
    refine u_icmp_ge (pc := 9) (tgt := 43) C d_M_greatestIn_9 rfl (fun c9 => ?_) (fun c9 => ?_)
    · refine u_iload_n (pc := 43) C d_M_greatestIn_43 rfl ?_
      refine u_iret (pc := 44) C d_M_greatestIn_44 (hQ _ _ ⟨_, rfl, ?_⟩)
      have hge : i = n := by rw [h5, hin] at c9; omega
      subst hge
      exact ⟨e2, rfl⟩
    · have hlt : i < n := by rw [h5, hin] at c9; omega
      have hi24 : i < 24 := by omega
      refine u_aload_n (pc := 12) C d_M_greatestIn_12 rfl ?_
      refine u_getr (pc := 13) (r := 2) C d_M_greatestIn_13 fw_M_13 sR_0 rfl rfl ?_
      refine u_iload_n (pc := 16) C d_M_greatestIn_16 rfl ?_
      refine u_iald (pc := 17) C d_M_greatestIn_17 sR_2 (vp24 hi24) ?_
      refine u_iload_n (pc := 18) C d_M_greatestIn_18 rfl ?_
      refine u_icmp_ne (pc := 19) (tgt := 35) C d_M_greatestIn_19 rfl (fun c19 => ?_) (fun c19 => ?_)
      · refine u_iload_n (pc := 35) C d_M_greatestIn_35 rfl ?_
        refine u_istore_n (pc := 36) C d_M_greatestIn_36 rfl (fun x36 e36 L9 hL9 => ?_)
        obtain rfl : L9 = [some (.ref 0), some (.int p), some (.int x36), some (.int (nI i))] := hL9.symm
        refine u_iinc (pc := 37) (v2 := 1) C d_M_greatestIn_37 rfl rfl (by decide) (fun x37 e37 L9 hL9 => ?_)
        obtain rfl : L9 = [some (.ref 0), some (.int p), some (.int x36), some (.int x37)] := hL9.symm
        refine u_goto (pc := 40) (tgt := 4) C d_M_greatestIn_40 rfl ?_
        obtain rfl : x37 = nI (i + 1) := by rw [e37, nI_succ]
        rw [k2, nI_clamp (by omega)] at c19
        have hc : ¬ (g 3 i = 1 ∧ cd 1 i = p) := fun z => c19 z.2
        have ea : atP cd (i + 1) g p 1 = atP cd i g p 1 := by rw [atP_succ, if_neg hc, List.append_nil]
        exact ih (i + 1) _ (by omega) (by omega) (by rw [e36, ea]; exact e2)
      · refine u_aload_n (pc := 22) C d_M_greatestIn_22 rfl ?_
        refine u_iload_n (pc := 23) C d_M_greatestIn_23 rfl ?_
        refine u_iconst (pc := 24) (v := 1) C d_M_greatestIn_24 (by decide) ?_
        refine u_callVi (pc := 25) C d_M_greatestIn_25 mx_M_isAt mw_M_164 sR_0 rfl (c_M_isAt hi24) rfl rfl (Nat.le_of_ble_eq_true rfl) (fun r25 M25 q25 => ?_)
        obtain ⟨e25, q25⟩ := q25
        have q25 := q25.symm
        subst q25
        rw [hS.wh hi24] at e25
        refine u_if_eq (pc := 28) (tgt := 35) C d_M_greatestIn_28 rfl (fun c28 => ?_) (fun c28 => ?_)
        · refine u_iload_n (pc := 35) C d_M_greatestIn_35 rfl ?_
          refine u_istore_n (pc := 36) C d_M_greatestIn_36 rfl (fun x36 e36 L9 hL9 => ?_)
          obtain rfl : L9 = [some (.ref 0), some (.int p), some (.int x36), some (.int (nI i))] := hL9.symm
          refine u_iinc (pc := 37) (v2 := 1) C d_M_greatestIn_37 rfl rfl (by decide) (fun x37 e37 L9 hL9 => ?_)
          obtain rfl : L9 = [some (.ref 0), some (.int p), some (.int x36), some (.int x37)] := hL9.symm
          refine u_goto (pc := 40) (tgt := 4) C d_M_greatestIn_40 rfl ?_
          obtain rfl : x37 = nI (i + 1) := by rw [e37, nI_succ]
          rw [k2, nI_clamp (by omega)] at c19
          have hc : ¬ (g 3 i = 1 ∧ cd 1 i = p) := fun z => zero_of e25 c28 z.1
          have ea : atP cd (i + 1) g p 1 = atP cd i g p 1 := by rw [atP_succ, if_neg hc, List.append_nil]
          exact ih (i + 1) _ (by omega) (by omega) (by rw [e36, ea]; exact e2)
        · refine u_iload_n (pc := 31) C d_M_greatestIn_31 rfl ?_
          refine u_goto (pc := 32) (tgt := 36) C d_M_greatestIn_32 rfl ?_
          refine u_istore_n (pc := 36) C d_M_greatestIn_36 rfl (fun x36 e36 L9 hL9 => ?_)
          obtain rfl : L9 = [some (.ref 0), some (.int p), some (.int x36), some (.int (nI i))] := hL9.symm
          refine u_iinc (pc := 37) (v2 := 1) C d_M_greatestIn_37 rfl rfl (by decide) (fun x37 e37 L9 hL9 => ?_)
          obtain rfl : L9 = [some (.ref 0), some (.int p), some (.int x36), some (.int x37)] := hL9.symm
          refine u_goto (pc := 40) (tgt := 4) C d_M_greatestIn_40 rfl ?_
          obtain rfl : x37 = nI (i + 1) := by rw [e37, nI_succ]
          rw [k2, nI_clamp (by omega)] at c19
          have hc : g 3 i = 1 ∧ cd 1 i = p := ⟨one_of e25 c28, c19⟩
          have ea : atP cd (i + 1) g p 1 = atP cd i g p 1 ++ [i] := by rw [atP_succ, if_pos hc]
          exact ih (i + 1) _ (by omega) (by omega) (by rw [e36, ea, lsI_app])
set_option maxRecDepth 20000 in
theorem c_M_greatestIn {cd : Nat → Nat → Int32} {n : Nat} {g : Gm} {tb : List Nat} {M : Mem} {p : Int32} (hS : RS M cd n g tb) : Ct lyR y_M_greatestIn b_M_greatestIn 4 (some .int) 2 [.ref 0, .int p] M (Pi fun r M' => r = lsI (atP cd n g p 1) ∧ M' = M) := by
  refine Ct.ofG mx_M_greatestIn [some (.ref 0), some (.int p), none, none] rfl rfl (Nat.le_of_ble_eq_true rfl) (fun κ C hQ => ?_)
  refine u_iconst (pc := 0) (v := (-1)) C d_M_greatestIn_0 (by decide) ?_
  refine u_istore_n (pc := 1) C d_M_greatestIn_1 rfl (fun x1 e1 L9 hL9 => ?_)
  obtain rfl : L9 = [some (.ref 0), some (.int p), some (.int x1), none] := hL9.symm
  refine u_iconst (pc := 2) (v := 0) C d_M_greatestIn_2 (by decide) ?_
  refine u_istore_n (pc := 3) C d_M_greatestIn_3 rfl (fun x3 e3 L9 hL9 => ?_)
  obtain rfl : L9 = [some (.ref 0), some (.int p), some (.int x1), some (.int x3)] := hL9.symm
  subst e3
  obtain rfl : x1 = -1 := e1
  exact lp_greatest hS C hQ (n + 1) 0 _ (by omega) (by omega) rfl
theorem chg_5 {g : Gm} {p b : Int32} : (chg g p b) 5 = g 5 := up2_s (by decide)
theorem draw_5 {cd : Nat → Nat → Int32} {n : Nat} {p : Int32} {g : Gm} : (draw1 cd n p g) 5 = g 5 := by
  unfold draw1
  split
  · exact chg_5
  · rw [up2_s (by decide), up2_s (by decide)]
theorem rptd_5 {cd : Nat → Nat → Int32} {n : Nat} {p : Int32} : ∀ (k : Nat) {g : Gm}, (rpt (draw1 cd n p) k g) 5 = g 5 := by
  intro k
  induction k with
  | zero => intro g; rfl
  | succ k ih => intro g; rw [rpt, ih, draw_5]
theorem rptd_hb {cd : Nat → Nat → Int32} {n : Nat} {p : Int32} : ∀ (k : Nat) {g : Gm}, HB g → HB (rpt (draw1 cd n p) k g) := by
  intro k
  induction k with
  | zero => intro g h; exact h
  | succ k ih => intro g h; rw [rpt]; exact ih (draw1_hb h)
theorem chg_hb {g : Gm} {p b : Int32} (h : HB g) : HB (chg g p b) := by
  obtain ⟨h, h1, h2⟩ := h
  exact ⟨h, h1, by rw [chg, up2_s (by decide)]; exact h2⟩
theorem echo_5 {cd : Nat → Nat → Int32} {tb : List Nat} {t : Int32} {g : Gm} (h : HB g) : (echo cd tb t g) 5 = g 5 := (fold_psh (f := shdw cd) _ g h).2.1 5 (by decide) (by decide)
theorem evt_5 {cd : Nat → Nat → Int32} {n : Nat} {tb : List Nat} {t p a : Int32} {g : Gm} (h : HB g) : (evt cd n tb t p a g) 5 = g 5 := by
  rw [evt_eq, happ_def]
  have h1 : ∀ (e : Int32 × Int32 × Int32), HB (if e.1 = 1 then chg g e.2.1 (-e.2.2) else if e.1 = 2 then chg g e.2.1 e.2.2 else rpt (draw1 cd n e.2.1) e.2.2.toNatClampNeg g) ∧ (if e.1 = 1 then chg g e.2.1 (-e.2.2) else if e.1 = 2 then chg g e.2.1 e.2.2 else rpt (draw1 cd n e.2.1) e.2.2.toNatClampNeg g) 5 = g 5 := by
    intro e
    by_cases q1 : e.1 = 1
    · rw [if_pos q1]; exact ⟨chg_hb h, chg_5⟩
    · rw [if_neg q1]
      by_cases q2 : e.1 = 2
      · rw [if_pos q2]; exact ⟨chg_hb h, chg_5⟩
      · rw [if_neg q2]; exact ⟨rptd_hb _ h, rptd_5 _⟩
  obtain ⟨b1, b2⟩ := h1 (repl cd tb.length tb (t, p, withinF a 0 99)).1
  split
  · rw [echo_5 b1]; exact b2
  · exact b2
theorem vals_5 {cd : Nat → Nat → Int32} {g g' : Gm} {tb : List Nat} (h : g' 5 = g 5) : vals cd g' tb = vals cd g tb := by
  unfold vals
  rw [h]
theorem held_mx {x : Int32} (h : x.toInt ≤ 99) : withinF x 0 99 = mx0 x := by
  have e0 : (0 : Int32).toInt = 0 := by decide
  have e9 : (99 : Int32).toInt = 99 := by decide
  unfold withinF mx0
  by_cases q : (0 : Int32) < x
  · rw [if_pos q, if_pos (Int32.le_of_lt q), if_pos (by rw [Int32.le_iff_toInt_le, e9]; exact h)]
  · rw [if_neg q]
    by_cases z : (0 : Int32) ≤ x
    · rw [if_pos z, if_pos (by rw [Int32.le_iff_toInt_le, e9]; exact h)]
      apply Int32.toInt_inj.mp
      have a1 := Int32.le_iff_toInt_le.mp z
      have a2 : ¬ (0 : Int32).toInt < x.toInt := fun y => q (Int32.lt_iff_toInt_lt.mpr y)
      omega
    · rw [if_neg z]
def tkE (G : Gm) (p : Int32) : Gm := up2 (up2 G 1 2 (1 - p)) 1 3 (G 1 3 + 1)
set_option maxRecDepth 20000 in
theorem lp_turnR {κ : KX} {cd : Nat → Nat → Int32} {n : Nat} {tb : List Nat} {p x : Int32} {th ev : List Int32} (hp : p = 0 ∨ p = 1) (C : Cx κ lyR y_M_turnIt.cls b_M_turnIt 2 none 6) : ∀ (f j : Nat) (g : Gm) (M : Mem), j < f → j = (atP cd n g p 1).length → RS M cd n g tb → mx0 (vals cd g tb 3) = x → LGr M th ev → (∀ v M', Pv (fun M' => RS M' cd n (tkE (dsc cd n p x j g) p) tb ∧ LGr M' th ev ∧ OfR rvR M M') v M' → KQ κ v M') → G κ lyR 18 [some (.ref 0), some (.int p)] [] M := by
  intro f
  induction f with
  | zero => intro j g M h; omega
  | succ f ih =>
    intro j g M hf hj hS hx hL hQ
    have n24 := hS.n24
    have hjn := atP_len (cd := cd) (n := n) (g := g) (p := p) (pl := 1)
    refine u_aload_n (pc := 18) C d_M_turnIt_18 rfl ?_
    refine u_iload_n (pc := 19) C d_M_turnIt_19 rfl ?_
    refine u_iconst (pc := 20) (v := 1) C d_M_turnIt_20 (by decide) ?_
    refine u_callVi (pc := 21) C d_M_turnIt_21 mx_M_manyAt mw_M_168 sR_0 rfl (c_M_manyAt hS) rfl rfl (Nat.le_of_ble_eq_true rfl) (fun r21 M21 q21 => ?_)
    obtain ⟨e21, q21⟩ := q21
    have q21 := q21.symm
    subst q21
    refine u_aload_n (pc := 24) C d_M_turnIt_24 rfl ?_
    refine u_iconst (pc := 25) (v := 3) C d_M_turnIt_25 (by decide) ?_
    refine u_callVi (pc := 26) C d_M_turnIt_26 mx_M_valueNow mw_M_199 sR_0 rfl (c_M_valueNow (v := 3) hS (by decide)) rfl rfl (Nat.le_of_ble_eq_true rfl) (fun r26 M26 q26 => ?_)
    obtain ⟨e26, hV, ol⟩ := q26
    have hS1 := hS.lay ol
    have hL1 := hL.lay ol
    refine u_iconst (pc := 29) (v := 0) C d_M_turnIt_29 (by decide) ?_
    refine u_bipush (pc := 30) (v := 99) C d_M_turnIt_30 (by decide) ?_
    refine u_callSi (pc := 32) C d_M_turnIt_32 mx_M_held mw_M_186 (c_M_held (by decide)) rfl rfl (Nat.le_of_ble_eq_true rfl) (fun r32 M32 q32 => ?_)
    obtain ⟨e32, q32⟩ := q32
    have q32 := q32.symm
    subst q32
    refine u_icmp_le (pc := 35) (tgt := 55) C d_M_turnIt_35 rfl (fun c35 => ?_) (fun c35 => ?_)
    · rw [e21, mnL_p (pneg hp), ← hj, e32, e26, held_mx (hV.2 3 (by decide)).2.2, hx] at c35
      have hdj : dsc cd n p x j g = g := by
        cases j with
        | zero => rfl
        | succ j => rw [dsc, if_neg (Int32.not_lt.mpr c35)]
      refine u_aload_n (pc := 55) C d_M_turnIt_55 rfl ?_
      refine u_getr (pc := 56) (r := 6) C d_M_turnIt_56 fw_M_25 sR_0 rfl rfl ?_
      refine u_iconst (pc := 59) (v := 4) C d_M_turnIt_59 (by decide) ?_
      refine u_iconst (pc := 60) (v := 1) C d_M_turnIt_60 (by decide) ?_
      refine u_iload_n (pc := 61) C d_M_turnIt_61 rfl ?_
      refine u_isub (pc := 62) C d_M_turnIt_62 ?_
      refine u_iast (pc := 63) C d_M_turnIt_63 sR_6 v4 ?_
      refine u_aload_n (pc := 64) C d_M_turnIt_64 rfl ?_
      refine u_getr (pc := 65) (r := 6) C d_M_turnIt_65 fw_M_25 sR_0 rfl rfl ?_
      refine u_iconst (pc := 68) (v := 5) C d_M_turnIt_68 (by decide) ?_
      refine u_dup2 (pc := 69) C d_M_turnIt_69 rfl rfl ?_
      refine u_iald (pc := 70) C d_M_turnIt_70 sR_6 v5 ?_
      refine u_iconst (pc := 71) (v := 1) C d_M_turnIt_71 (by decide) ?_
      refine u_iadd (pc := 72) C d_M_turnIt_72 ?_
      refine u_iast (pc := 73) C d_M_turnIt_73 sR_6 v5 ?_
      refine u_vret (pc := 74) C d_M_turnIt_74 (hQ _ _ ⟨rfl, ?_⟩)
      rw [cl4, cl5]
      have ofs9 : OfR gR M26 (up (up M26 6 4 (1 - p)) 6 5 ((up M26 6 4 (1 - p)).1 6 5 + 1)) := ofg.trans ofg
      rw [hdj]
      refine ⟨?_, hL1.g ofs9, (ol.mono (fun p j => lay_rv)).trans (ofs9.mono (fun p j => g_rv))⟩
      refine hS1.row ofs9 (hS1.1.turned hp) ?_
      have h65 : (up M26 6 4 (1 - p)).1 6 5 = g 1 3 := by rw [up_j (by decide)]; exact hS1.2.2.2.2.1.2.2.2.1
      rw [h65, up_r6, up_r6]
      have h1 := (hS1.2.2.2.num (c := 2) (x := 1 - p) (by decide)).num (c := 3) (x := g 1 3 + 1) (by decide)
      exact h1
    · rw [e21, mnL_p (pneg hp), ← hj, e32, e26, held_mx (hV.2 3 (by decide)).2.2, hx] at c35
      obtain ⟨j', rfl⟩ : ∃ j', j = j' + 1 := ⟨j - 1, by
        rcases Nat.eq_zero_or_pos j with z | z
        · exfalso
          rw [z] at c35
          have h9 := mx0_pos (x := vals cd g tb 3)
          rw [hx] at h9
          exact c35 h9
        · omega⟩
      have hgr : lsI (atP cd n g p 1) = nI ((atP cd n g p 1).getD j' 0) := by
        unfold lsI
        rw [if_neg (by omega), ← hj]; rfl
      have hdm := getD_mem (l := atP cd n g p 1) (j := j') (by omega)
      obtain ⟨hd1, hd2, hd3⟩ := atP_mem.mp hdm
      have hd24 : (atP cd n g p 1).getD j' 0 < 24 := by omega
      refine u_aload_n (pc := 38) C d_M_turnIt_38 rfl ?_
      refine u_getr (pc := 39) (r := 6) C d_M_turnIt_39 fw_M_25 sR_0 rfl rfl ?_
      refine u_bipush (pc := 42) (v := 71) C d_M_turnIt_42 (by decide) ?_
      refine u_aload_n (pc := 44) C d_M_turnIt_44 rfl ?_
      refine u_iload_n (pc := 45) C d_M_turnIt_45 rfl ?_
      refine u_callVi (pc := 46) C d_M_turnIt_46 mx_M_greatestIn mw_M_297 sR_0 rfl (c_M_greatestIn hS1) rfl rfl (Nat.le_of_ble_eq_true rfl) (fun r46 M46 q46 => ?_)
      obtain ⟨e46, q46⟩ := q46
      have q46 := q46.symm
      subst q46
      refine u_iadd (pc := 49) C d_M_turnIt_49 ?_
      refine u_iconst (pc := 50) (v := 4) C d_M_turnIt_50 (by decide) ?_
      refine u_iast (pc := 51) C d_M_turnIt_51 sR_6 (by rw [e46, hgr]; exact vp71 hd24) ?_
      refine u_goto (pc := 52) (tgt := 18) C d_M_turnIt_52 rfl ?_
      rw [e46, hgr, ix71 hd24]
      have hw9 : WFg cd n (up2 g 3 ((atP cd n g p 1).getD j' 0) 4) tb := hS.1.place (p := 4) hd1 (by rw [hd2]; decide) (by decide) (by decide) (fun _ => rfl) (hS.1.offpile hd1 (by rw [hd2]; decide))
      have hS9 : RS (up M26 6 (71 + (atP cd n g p 1).getD j' 0) 4) cd n (up2 g 3 ((atP cd n g p 1).getD j' 0) 4) tb := hS1.row ofg hw9 (by rw [up_r6]; exact hS1.2.2.2.where hd24)
      have hout := atP_out n hdm
      have hdd : dsc cd n p x (j' + 1) g = dsc cd n p x j' (up2 g 3 ((atP cd n g p 1).getD j' 0) 4) := by
        rw [dsc, if_pos (Int32.not_le.mp c35)]
      refine ih j' _ _ (by omega) (by omega) hS9 (by rw [vals_5 (g := g) (up2_s (by decide))]; exact hx) (hL1.g ofg) (fun v M9 q => hQ v M9 ?_)
      obtain ⟨rfl, q1, q2, q3⟩ := q
      rw [hdd]
      exact ⟨rfl, q1, q2, ((ol.mono (fun p j => lay_rv)).trans (ofg.mono (fun p j => g_rv))).trans q3⟩
set_option maxRecDepth 20000 in
theorem c_M_turnIt {cd : Nat → Nat → Int32} {n : Nat} {g : Gm} {tb : List Nat} {M : Mem} {th ev : List Int32} (hS : RS M cd n g tb) (htr : M.1 0 32 = 0) (hL : LGr M th ev) : Ct lyR y_M_turnIt b_M_turnIt 2 none 6 [.ref 0] M (Pv fun M' => RS M' cd n (tkt cd n (g, tb)).1 (tkt cd n (g, tb)).2 ∧ LGr M' th ev ∧ OfR rvR M M') := by
  have hp := hS.1.2.2.2.2.2.1
  have hac : M.1 6 4 = g 1 2 := hS.2.2.2.2.1.2.2.1
  refine Ct.ofG mx_M_turnIt [some (.ref 0), none] rfl rfl (Nat.le_of_ble_eq_true rfl) (fun κ C hQ => ?_)
  refine u_aload_n (pc := 0) C d_M_turnIt_0 rfl ?_
  refine u_getr (pc := 1) (r := 6) C d_M_turnIt_1 fw_M_25 sR_0 rfl rfl ?_
  refine u_iconst (pc := 4) (v := 4) C d_M_turnIt_4 (by decide) ?_
  refine u_iald (pc := 5) C d_M_turnIt_5 sR_6 v4 ?_
  refine u_istore_n (pc := 6) C d_M_turnIt_6 rfl (fun x6 e6 L9 hL9 => ?_)
  obtain rfl : L9 = [some (.ref 0), some (.int x6)] := hL9.symm
  rw [cl4, hac] at e6
  subst e6
  refine u_aload_n (pc := 7) C d_M_turnIt_7 rfl ?_
  refine u_iconst (pc := 8) (v := 0) C d_M_turnIt_8 (by decide) ?_
  refine u_iload_n (pc := 9) C d_M_turnIt_9 rfl ?_
  refine u_aload_n (pc := 10) C d_M_turnIt_10 rfl ?_
  refine u_iconst (pc := 11) (v := 0) C d_M_turnIt_11 (by decide) ?_
  refine u_callVi (pc := 12) C d_M_turnIt_12 mx_M_valueNow mw_M_199 sR_0 rfl (c_M_valueNow (v := 0) hS (by decide)) rfl rfl (Nat.le_of_ble_eq_true rfl) (fun r12 M12 q12 => ?_)
  obtain ⟨e12, hV, ol⟩ := q12
  have hS1 := hS.lay ol
  have hL1 := hL.lay ol
  have ht1 := OfR.tr htr ol (fun z => by unfold layR at z; omega)
  have hok : evok (0, g 1 2, withinF r12 0 99) := ⟨⟨0, by decide, rfl⟩, hp, within_ok _⟩
  refine u_callVv (pc := 15) C d_M_turnIt_15 mx_M_event mw_M_250 sR_0 rfl (c_M_event hS1 hok ht1 hL1 (Or.inl rfl)) rfl rfl (Nat.le_of_ble_eq_true rfl) (fun M15 q15 => ?_)
  obtain ⟨hS2, hL2, o2⟩ := q15
  rw [if_neg (by decide)] at hL2
  rw [e12] at hS2
  have hv5 : vals cd (evt cd n tb 0 (g 1 2) (vals cd g tb 0) g) tb = vals cd g tb := vals_5 (evt_5 hS.1.hb)
  refine lp_turnR (x := mx0 (vals cd g tb 3)) hp C _ _ _ _ (Nat.lt_succ_self _) rfl hS2 (by rw [hv5]) hL2 (fun v M9 q => hQ v M9 ?_)
  obtain ⟨rfl, q1, q2, q3⟩ := q
  exact ⟨rfl, q1, q2, ((ol.mono (fun p j => lay_rv)).trans (o2.mono (fun p j => ev_rv))).trans q3⟩
set_option maxRecDepth 20000 in
theorem c_M_turn  {M : Mem} {σ : St} (hI : InvR M σ) : Ct lyR y_M_turn b_M_turn 1 (some .int) 7 [.ref 0] M (Pi fun r M' => r = (sp_turn σ).1 ∧ InvR M' (sp_turn σ).2) := by
  have hS := hI.1
  have n24 := hS.n24
  have h5 := hS.2.2.1
  obtain ⟨k1, k2, k3, k4, k5⟩ := hS.cdc
  have hlo := lost_if hS
  refine Ct.ofG mx_M_turn [some (.ref 0)] rfl rfl (Nat.le_of_ble_eq_true rfl) (fun κ C hQ => ?_)
  refine u_aload_n (pc := 0) C d_M_turn_0 rfl ?_
  refine u_getr (pc := 1) (r := 6) C d_M_turn_1 fw_M_25 sR_0 rfl rfl ?_
  refine u_bipush (pc := 4) (v := 6) C d_M_turn_4 (by decide) ?_
  refine u_iald (pc := 6) C d_M_turn_6 sR_6 v6 ?_
  refine u_if_gt (pc := 7) (tgt := 17) C d_M_turn_7 rfl (fun c7 => ?_) (fun c7 => ?_)
  · refine u_bipush (pc := 17) (v := (-5)) C d_M_turn_17 (by decide) ?_
    refine u_iret (pc := 19) C d_M_turn_19 (hQ _ _ ⟨_, rfl, ?_⟩)
    rw [cl6, hS.many] at c7
    have e9 : sp_turn σ = (-5, σ) := by
      rw [sp_turn, if_neg]
      intro z
      rw [z.1] at c7
      exact absurd c7 (by decide)
    rw [e9]
    exact ⟨rfl, hI⟩
  · refine u_aload_n (pc := 10) C d_M_turn_10 rfl ?_
    refine u_callVi (pc := 11) C d_M_turn_11 mx_M_isLost mw_M_275 sR_0 rfl (c_M_isLost) rfl rfl (Nat.le_of_ble_eq_true rfl) (fun r11 M11 q11 => ?_)
    obtain ⟨e11, q11⟩ := q11
    have q11 := q11.symm
    subst q11
    refine u_if_eq (pc := 14) (tgt := 20) C d_M_turn_14 rfl (fun c14 => ?_) (fun c14 => ?_)
    · rw [cl6, hS.many] at c7
      obtain ⟨h, hh64, hh4⟩ := hS.1.hb
      have h0 : σ.1.2.2.1 1 4 = 0 := by
        rw [hh4] at c7 ⊢
        rcases Nat.eq_zero_or_pos h with z | z
        · rw [z]; rfl
        · exact absurd (nI_lt (a := 0) z (by omega)) c7
      have hnl : lost σ.1.2.2.1 = false := by
        rcases Bool.eq_false_or_eq_true (lost σ.1.2.2.1) with q | q
        · exact absurd (hlo.mpr q) (zero_of e11 c14)
        · exact q
      refine u_aload_n (pc := 20) C d_M_turn_20 rfl ?_
      refine u_callVv (pc := 21) C d_M_turn_21 mx_M_turnIt mw_M_294 sR_0 rfl (c_M_turnIt hS hI.2.2.2.2.2.2 hI.2.2.2.2.2.1) rfl rfl (Nat.le_of_ble_eq_true rfl) (fun M21 q21 => ?_)
      obtain ⟨hS2, hL2, o2⟩ := q21
      refine u_aload_n (pc := 24) C d_M_turn_24 rfl ?_
      refine u_getr (pc := 25) (r := 6) C d_M_turn_25 fw_M_25 sR_0 rfl rfl ?_
      refine u_iconst (pc := 28) (v := 4) C d_M_turn_28 (by decide) ?_
      refine u_iald (pc := 29) C d_M_turn_29 sR_6 v4 ?_
      refine u_iret (pc := 30) C d_M_turn_30 (hQ _ _ ⟨_, rfl, ?_⟩)
      rw [sp_turn, if_pos ⟨h0, hnl⟩, cl4]
      exact ⟨hS2.2.2.2.2.1.2.2.1, hI.mk (s := tkt σ.1.1 σ.1.2.1 (σ.1.2.2.1, σ.1.2.2.2)) (o2.mono (fun p j => rv_th)) hS2 hL2⟩
    · refine u_bipush (pc := 17) (v := (-5)) C d_M_turn_17 (by decide) ?_
      refine u_iret (pc := 19) C d_M_turn_19 (hQ _ _ ⟨_, rfl, ?_⟩)
      have e9 : sp_turn σ = (-5, σ) := by
        rw [sp_turn, if_neg]
        intro z
        have h9 := hlo.mp (one_of e11 c14)
        rw [z.2] at h9
        cases h9
      rw [e9]
      exact ⟨rfl, hI⟩
