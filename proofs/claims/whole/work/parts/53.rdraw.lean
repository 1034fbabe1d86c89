/-! the reference: draws, the pile's shadows -/
theorem cl0 : (0 : Int32).toNatClampNeg = 0 := rfl
theorem cl1 : (1 : Int32).toNatClampNeg = 1 := rfl
theorem cl2 : (2 : Int32).toNatClampNeg = 2 := rfl
theorem cl3 : (3 : Int32).toNatClampNeg = 3 := rfl
theorem cl4 : (4 : Int32).toNatClampNeg = 4 := rfl
theorem cl5 : (5 : Int32).toNatClampNeg = 5 := rfl
theorem cl6 : (6 : Int32).toNatClampNeg = 6 := rfl
theorem v0 : vp_in (0 : Int32) 123 := vp_in_nI (n := 0) (by decide) (by decide)
theorem v1 : vp_in (1 : Int32) 123 := vp_in_nI (n := 1) (by decide) (by decide)
theorem v2 : vp_in (2 : Int32) 123 := vp_in_nI (n := 2) (by decide) (by decide)
theorem v3 : vp_in (3 : Int32) 123 := vp_in_nI (n := 3) (by decide) (by decide)
theorem v4 : vp_in (4 : Int32) 123 := vp_in_nI (n := 4) (by decide) (by decide)
theorem v5 : vp_in (5 : Int32) 123 := vp_in_nI (n := 5) (by decide) (by decide)
theorem v6 : vp_in (6 : Int32) 123 := vp_in_nI (n := 6) (by decide) (by decide)
theorem sub_s1 (a b : Int32) : a - b + -1 = a - (b + 1) := by rw [Int32.add_neg_eq_sub, Int32.sub_sub]
theorem sub_z {a b : Nat} (ha : a < 2 ^ 30) (hb : b < 2 ^ 30) : nI a - nI b = 0 ↔ a = b := by
  have h := pk_sub_toInt ha hb
  constructor
  · intro q
    rw [q] at h
    have h0 : (0 : Int32).toInt = 0 := by decide
    rw [h0] at h
    omega
  · intro q
    subst q
    exact Int32.sub_self _
theorem p_pix {p : Int32} (h : p = 0 ∨ p = 1) : ((0 : Int32) + p).toNatClampNeg = pix p ∧ vp_in ((0 : Int32) + p) 123 := by
  rcases h with h | h
  · rw [h]; exact ⟨rfl, v0⟩
  · rw [h]; exact ⟨rfl, v1⟩
def gR (p _j : Nat) : Prop := p = 6
theorem ofg {M : Mem} {j : Nat} {x : Int32} : OfR gR M (up M 6 j x) := OfR.up rfl
/-- a game with another row -/
theorem RS.row {M M' : Mem} {cd : Nat → Nat → Int32} {n : Nat} {g g' : Gm} {tb tb' : List Nat} (h : RS M cd n g tb) (ho : OfR gR M M') (hw : WFg cd n g' tb') (hf : FG (M'.1 6) g' tb') : RS M' cd n g' tb' :=
  ⟨hw, ho.cd h.2.1 (fun p j _ h5 q => by unfold gR at q; omega), by rw [ho 0 5 (by unfold gR; decide)]; exact h.2.2.1, hf⟩
/-- cards of a player, or of any (below 0), in a place -/
def mnL (cd : Nat → Nat → Int32) (n : Nat) (g : Gm) (p pl : Int32) : List Nat := (List.range n).filter (fun c => (decide (p < 0) || decide (cd 1 c = p)) && decide (g 3 c = pl))
theorem mnL_succ {cd : Nat → Nat → Int32} {n : Nat} {g : Gm} {p pl : Int32} : (mnL cd (n + 1) g p pl).length = (mnL cd n g p pl).length + if (p < 0 ∨ cd 1 n = p) ∧ g 3 n = pl then 1 else 0 := by
  unfold mnL
  rw [List.range_succ, List.filter_append, List.length_append]
  congr 1
  by_cases h : (p < 0 ∨ cd 1 n = p) ∧ g 3 n = pl
  · rw [if_pos h, List.filter_cons_of_pos (by simp only [Bool.and_eq_true, Bool.or_eq_true, decide_eq_true_eq]; exact h)]; rfl
  · rw [if_neg h, List.filter_cons_of_neg (by simp only [Bool.and_eq_true, Bool.or_eq_true, decide_eq_true_eq]; exact h)]; rfl
theorem mnL_p {cd : Nat → Nat → Int32} {n : Nat} {g : Gm} {p pl : Int32} (h : ¬ p < 0) : mnL cd n g p pl = atP cd n g p pl := by
  unfold mnL atP
  congr 1
  funext c
  rw [decide_eq_false h, Bool.false_or, Bool.and_comm]
theorem mnL_le {cd : Nat → Nat → Int32} {n : Nat} {g : Gm} {p pl : Int32} : (mnL cd n g p pl).length ≤ n := by
  unfold mnL
  exact Nat.le_trans (List.length_filter_le _ _) (by simp)
set_option maxRecDepth 20000 in
theorem lp_manyAt {κ : KX} {cd : Nat → Nat → Int32} {n : Nat} {g : Gm} {tb : List Nat} {M : Mem} (hS : RS M cd n g tb) {p pl : Int32} (C : Cx κ lyR y_M_manyAt.cls b_M_manyAt 5 (some .int) 1) (hQ : ∀ v M', Pi (fun r M' => r = nI (mnL cd n g p pl).length ∧ M' = M) v M' → KQ κ v M') : ∀ (f i : Nat) (x3 : Int32), i ≤ n → n - i < f → x3 = nI (mnL cd i g p pl).length → G κ lyR 5 [some (.ref 0), some (.int p), some (.int pl), some (.int x3), some (.int (nI i))] [] M := by
  intro f
  induction f with
  | zero => intro i x3 _ h; omega
  | succ f ih =>
    intro i x3 hi hf e3
    have n24 := hS.n24
    have h5 := hS.2.2.1
    have hin : nI n ≤ nI i ↔ n ≤ i := nI_leI (by omega) (by omega)
    obtain ⟨k1, k2, k3, k4, k5⟩ := hS.cdc
    refine u_iload (pc := 5) C d_M_manyAt_5 rfl ?_
    refine u_aload_n (pc := 7) C d_M_manyAt_7 rfl ?_
    refine u_geti (pc := 8) C d_M_manyAt_8 fw_M_70 sR_0 rfl ?_
    refine u_icmp_ge (pc := 11) (tgt := 53) C d_M_manyAt_11 rfl (fun c11 => ?_) (fun c11 => ?_)
    · refine u_iload_n (pc := 53) C d_M_manyAt_53 rfl ?_
      refine u_iret (pc := 54) C d_M_manyAt_54 (hQ _ _ ⟨_, rfl, ?_⟩)
      have hge : i = n := by rw [h5, hin] at c11; omega
      subst hge
      exact ⟨e3, rfl⟩
    · have hlt : i < n := by rw [h5, hin] at c11; omega
      have hi24 : i < 24 := by omega
      have hw := hS.wh hi24
      refine u_iload_n (pc := 14) C d_M_manyAt_14 rfl ?_
      refine u_iload_n (pc := 15) C d_M_manyAt_15 rfl ?_
      refine u_if_lt (pc := 16) (tgt := 30) C d_M_manyAt_16 rfl (fun c16 => ?_) (fun c16 => ?_)
      · refine u_aload_n (pc := 30) C d_M_manyAt_30 rfl ?_
        refine u_iload (pc := 31) C d_M_manyAt_31 rfl ?_
        refine u_iload_n (pc := 33) C d_M_manyAt_33 rfl ?_
        refine u_callVi (pc := 34) C d_M_manyAt_34 mx_M_isAt mw_M_164 sR_0 rfl (c_M_isAt hi24) rfl rfl (Nat.le_of_ble_eq_true rfl) (fun r34 M34 q34 => ?_)
        obtain ⟨e34, q34⟩ := q34
        have q34 := q34.symm
        subst q34
        rw [hw] at e34
        refine u_if_eq (pc := 37) (tgt := 44) C d_M_manyAt_37 rfl (fun c37 => ?_) (fun c37 => ?_)
        · refine u_iconst (pc := 44) (v := 0) C d_M_manyAt_44 (by decide) ?_
          refine u_iadd (pc := 45) C d_M_manyAt_45 ?_
          refine u_istore_n (pc := 46) C d_M_manyAt_46 rfl (fun x46 e46 L9 hL9 => ?_)
          obtain rfl : L9 = [some (.ref 0), some (.int p), some (.int pl), some (.int x46), some (.int (nI i))] := hL9.symm
          refine u_iinc (pc := 47) (v2 := 1) C d_M_manyAt_47 rfl rfl (by decide) (fun x47 e47 L9 hL9 => ?_)
          obtain rfl : L9 = [some (.ref 0), some (.int p), some (.int pl), some (.int x46), some (.int x47)] := hL9.symm
          refine u_goto (pc := 50) (tgt := 5) C d_M_manyAt_50 rfl ?_
          obtain rfl : x47 = nI (i + 1) := by rw [e47, nI_succ]
          have hc : ¬ ((p < 0 ∨ cd 1 i = p) ∧ g 3 i = pl) := fun z => zero_of e34 c37 z.2
          refine ih (i + 1) _ (by omega) (by omega) ?_
          rw [e46, e3, mnL_succ, if_neg hc]
          simp
        · refine u_iconst (pc := 40) (v := 1) C d_M_manyAt_40 (by decide) ?_
          refine u_goto (pc := 41) (tgt := 45) C d_M_manyAt_41 rfl ?_
          refine u_iadd (pc := 45) C d_M_manyAt_45 ?_
          refine u_istore_n (pc := 46) C d_M_manyAt_46 rfl (fun x46 e46 L9 hL9 => ?_)
          obtain rfl : L9 = [some (.ref 0), some (.int p), some (.int pl), some (.int x46), some (.int (nI i))] := hL9.symm
          refine u_iinc (pc := 47) (v2 := 1) C d_M_manyAt_47 rfl rfl (by decide) (fun x47 e47 L9 hL9 => ?_)
          obtain rfl : L9 = [some (.ref 0), some (.int p), some (.int pl), some (.int x46), some (.int x47)] := hL9.symm
          refine u_goto (pc := 50) (tgt := 5) C d_M_manyAt_50 rfl ?_
          obtain rfl : x47 = nI (i + 1) := by rw [e47, nI_succ]
          have hc : (p < 0 ∨ cd 1 i = p) ∧ g 3 i = pl := ⟨Or.inl c16, one_of e34 c37⟩
          refine ih (i + 1) _ (by omega) (by omega) ?_
          rw [e46, e3, mnL_succ, if_pos hc]
          exact (nI_succ _).symm
      · refine u_aload_n (pc := 19) C d_M_manyAt_19 rfl ?_
        refine u_getr (pc := 20) (r := 2) C d_M_manyAt_20 fw_M_13 sR_0 rfl rfl ?_
        refine u_iload (pc := 23) C d_M_manyAt_23 rfl ?_
        refine u_iald (pc := 25) C d_M_manyAt_25 sR_2 (vp24 hi24) ?_
        refine u_iload_n (pc := 26) C d_M_manyAt_26 rfl ?_
        refine u_icmp_ne (pc := 27) (tgt := 44) C d_M_manyAt_27 rfl (fun c27 => ?_) (fun c27 => ?_)
        · refine u_iconst (pc := 44) (v := 0) C d_M_manyAt_44 (by decide) ?_
          refine u_iadd (pc := 45) C d_M_manyAt_45 ?_
          refine u_istore_n (pc := 46) C d_M_manyAt_46 rfl (fun x46 e46 L9 hL9 => ?_)
          obtain rfl : L9 = [some (.ref 0), some (.int p), some (.int pl), some (.int x46), some (.int (nI i))] := hL9.symm
          refine u_iinc (pc := 47) (v2 := 1) C d_M_manyAt_47 rfl rfl (by decide) (fun x47 e47 L9 hL9 => ?_)
          obtain rfl : L9 = [some (.ref 0), some (.int p), some (.int pl), some (.int x46), some (.int x47)] := hL9.symm
          refine u_goto (pc := 50) (tgt := 5) C d_M_manyAt_50 rfl ?_
          obtain rfl : x47 = nI (i + 1) := by rw [e47, nI_succ]
          rw [k2, nI_clamp (by omega)] at c27
          have hc : ¬ ((p < 0 ∨ cd 1 i = p) ∧ g 3 i = pl) := fun z => z.1.elim c16 c27
          refine ih (i + 1) _ (by omega) (by omega) ?_
          rw [e46, e3, mnL_succ, if_neg hc]
          simp
        · refine u_aload_n (pc := 30) C d_M_manyAt_30 rfl ?_
          refine u_iload (pc := 31) C d_M_manyAt_31 rfl ?_
          refine u_iload_n (pc := 33) C d_M_manyAt_33 rfl ?_
          refine u_callVi (pc := 34) C d_M_manyAt_34 mx_M_isAt mw_M_164 sR_0 rfl (c_M_isAt hi24) rfl rfl (Nat.le_of_ble_eq_true rfl) (fun r34 M34 q34 => ?_)
          obtain ⟨e34, q34⟩ := q34
          have q34 := q34.symm
          subst q34
          rw [hw] at e34
          refine u_if_eq (pc := 37) (tgt := 44) C d_M_manyAt_37 rfl (fun c37 => ?_) (fun c37 => ?_)
          · refine u_iconst (pc := 44) (v := 0) C d_M_manyAt_44 (by decide) ?_
            refine u_iadd (pc := 45) C d_M_manyAt_45 ?_
            refine u_istore_n (pc := 46) C d_M_manyAt_46 rfl (fun x46 e46 L9 hL9 => ?_)
            obtain rfl : L9 = [some (.ref 0), some (.int p), some (.int pl), some (.int x46), some (.int (nI i))] := hL9.symm
            refine u_iinc (pc := 47) (v2 := 1) C d_M_manyAt_47 rfl rfl (by decide) (fun x47 e47 L9 hL9 => ?_)
            obtain rfl : L9 = [some (.ref 0), some (.int p), some (.int pl), some (.int x46), some (.int x47)] := hL9.symm
            refine u_goto (pc := 50) (tgt := 5) C d_M_manyAt_50 rfl ?_
            obtain rfl : x47 = nI (i + 1) := by rw [e47, nI_succ]
            rw [k2, nI_clamp (by omega)] at c27
            have hc : ¬ ((p < 0 ∨ cd 1 i = p) ∧ g 3 i = pl) := fun z => zero_of e34 c37 z.2
            refine ih (i + 1) _ (by omega) (by omega) ?_
            rw [e46, e3, mnL_succ, if_neg hc]
            simp
          · refine u_iconst (pc := 40) (v := 1) C d_M_manyAt_40 (by decide) ?_
            refine u_goto (pc := 41) (tgt := 45) C d_M_manyAt_41 rfl ?_
            refine u_iadd (pc := 45) C d_M_manyAt_45 ?_
            refine u_istore_n (pc := 46) C d_M_manyAt_46 rfl (fun x46 e46 L9 hL9 => ?_)
            obtain rfl : L9 = [some (.ref 0), some (.int p), some (.int pl), some (.int x46), some (.int (nI i))] := hL9.symm
            refine u_iinc (pc := 47) (v2 := 1) C d_M_manyAt_47 rfl rfl (by decide) (fun x47 e47 L9 hL9 => ?_)
            obtain rfl : L9 = [some (.ref 0), some (.int p), some (.int pl), some (.int x46), some (.int x47)] := hL9.symm
            refine u_goto (pc := 50) (tgt := 5) C d_M_manyAt_50 rfl ?_
            obtain rfl : x47 = nI (i + 1) := by rw [e47, nI_succ]
            rw [k2, nI_clamp (by omega)] at c27
            have hc : (p < 0 ∨ cd 1 i = p) ∧ g 3 i = pl := ⟨Or.inr c27, one_of e34 c37⟩
            refine ih (i + 1) _ (by omega) (by omega) ?_
            rw [e46, e3, mnL_succ, if_pos hc]
            exact (nI_succ _).symm
set_option maxRecDepth 20000 in
theorem c_M_manyAt {cd : Nat → Nat → Int32} {n : Nat} {g : Gm} {tb : List Nat} {M : Mem} (hS : RS M cd n g tb) {p pl : Int32} : Ct lyR y_M_manyAt b_M_manyAt 5 (some .int) 1 [.ref 0, .int p, .int pl] M (Pi fun r M' => r = nI (mnL cd n g p pl).length ∧ M' = M) := by
  refine Ct.ofG mx_M_manyAt [some (.ref 0), some (.int p), some (.int pl), none, none] rfl rfl (Nat.le_of_ble_eq_true rfl) (fun κ C hQ => ?_)
  refine u_iconst (pc := 0) (v := 0) C d_M_manyAt_0 (by decide) ?_
  refine u_istore_n (pc := 1) C d_M_manyAt_1 rfl (fun x1 e1 L9 hL9 => ?_)
  obtain rfl : L9 = [some (.ref 0), some (.int p), some (.int pl), some (.int x1), none] := hL9.symm
  refine u_iconst (pc := 2) (v := 0) C d_M_manyAt_2 (by decide) ?_
  refine u_istore (pc := 3) C d_M_manyAt_3 rfl (fun x3 e3 L9 hL9 => ?_)
  obtain rfl : L9 = [some (.ref 0), some (.int p), some (.int pl), some (.int x1), some (.int x3)] := hL9.symm
  subst e3
  subst e1
  exact lp_manyAt hS C hQ (n + 1) 0 _ (by omega) (by omega) rfl
set_option maxRecDepth 20000 in
theorem c_M_draw {k : Nat} {M : Mem} (hk : 0 < k) (hk2 : k < 2 ^ 31) : Ct lyR y_M_draw b_M_draw 2 (some .int) 0 [.ref 0, .int (nI k)] M (Pi fun r M' => r = drawnF (nI k) (seedF (M.1 6 3)) ∧ M' = up M 6 3 (seedF (M.1 6 3))) := by
  refine Ct.ofG mx_M_draw [some (.ref 0), some (.int (nI k))] rfl rfl (Nat.le_of_ble_eq_true rfl) (fun κ C hQ => ?_)
  refine u_aload_n (pc := 0) C d_M_draw_0 rfl ?_
  refine u_getr (pc := 1) (r := 6) C d_M_draw_1 fw_M_25 sR_0 rfl rfl ?_
  refine u_iconst (pc := 4) (v := 3) C d_M_draw_4 (by decide) ?_
  refine u_aload_n (pc := 5) C d_M_draw_5 rfl ?_
  refine u_getr (pc := 6) (r := 6) C d_M_draw_6 fw_M_25 sR_0 rfl rfl ?_
  refine u_iconst (pc := 9) (v := 3) C d_M_draw_9 (by decide) ?_
  refine u_iald (pc := 10) C d_M_draw_10 sR_6 v3 ?_
  refine u_ldc (pc := 11) C (mc_M_223) d_M_draw_11 ?_
  refine u_imul (pc := 13) C d_M_draw_13 ?_
  refine u_sipush (pc := 14) (v := 12345) C d_M_draw_14 (by decide) ?_
  refine u_iadd (pc := 17) C d_M_draw_17 ?_
  refine u_iast (pc := 18) C d_M_draw_18 sR_6 v3 ?_
  refine u_aload_n (pc := 19) C d_M_draw_19 rfl ?_
  refine u_getr (pc := 20) (r := 6) C d_M_draw_20 fw_M_25 sR_0 rfl rfl ?_
  refine u_iconst (pc := 23) (v := 3) C d_M_draw_23 (by decide) ?_
  refine u_iald (pc := 24) C d_M_draw_24 sR_6 v3 ?_
  refine u_bipush (pc := 25) (v := 16) C d_M_draw_25 (by decide) ?_
  refine u_iushr (pc := 27) C d_M_draw_27 ?_
  refine u_iload_n (pc := 28) C d_M_draw_28 rfl ?_
  refine u_irem (pc := 29) C d_M_draw_29 (nI_ne0 hk hk2) ?_
  refine u_iret (pc := 30) C d_M_draw_30 (hQ _ _ ⟨_, rfl, ?_⟩)
  rw [cl3, up_row, pk_us]
  refine ⟨?_, rfl⟩
  rw [drawnF, if_neg (nI_nle hk hk2)]
  rfl
theorem FG.seed {f : Nat → Int32} {g : Gm} {tb : List Nat} {x : Int32} (h : FG f g tb) : FG (upd f 3 x) (up2 g 1 1 x) tb := h.num (c := 1) (by decide)
theorem up_r6 {M : Mem} {j : Nat} {x : Int32} : (up M 6 j x).1 6 = upd (M.1 6) j x := up_row
set_option maxRecDepth 20000 in
theorem lp_draw {κ : KX} {x1 : Int32} {cd : Nat → Nat → Int32} {n j : Nat} {g : Gm} {tb : List Nat} {M2 : Mem} {p : Int32} (hS : RS M2 cd n g tb) (hp : M2.1 0 17 = p) (hj : j < (atP cd n g p 0).length) (C : Cx κ lyR y_M_drawOne.cls b_M_drawOne 4 none 2) (hQ : ∀ v M', Pv (fun M' => M' = up M2 6 (71 + (atP cd n g p 0).getD j 0) 1) v M' → KQ κ v M') : ∀ (f i : Nat) (x2 : Int32) (M1 : Mem), i ≤ n → n - i < f → x2 = nI j - nI (atP cd i g p 0).length → ((atP cd i g p 0).length ≤ j → M1 = M2) → (j < (atP cd i g p 0).length → M1 = up M2 6 (71 + (atP cd n g p 0).getD j 0) 1) → G κ lyR 54 [some (.ref 0), some (.int x1), some (.int x2), some (.int (nI i))] [] M1 := by
  intro f
  induction f with
  | zero => intro i x2 M1 _ h; omega
  | succ f ih =>
    intro i x2 M1 hi hf e2 hlo hhi
    have n24 := hS.n24
    have hjn : j < 24 := by have := atP_len (cd := cd) (n := n) (g := g) (p := p) (pl := 0); omega
    have hil := atP_len (cd := cd) (n := i) (g := g) (p := p) (pl := 0)
    have hpre := atP_pre (cd := cd) (g := g) (p := p) (pl := 0) hi
    obtain ⟨r9, hr9⟩ := hpre
    have hta : j < (atP cd i g p 0).length → (atP cd n g p 0).getD j 0 < i ∧ (atP cd n g p 0).getD j 0 < 24 := by
      intro q
      have h1 : (atP cd n g p 0).getD j 0 = (atP cd i g p 0).getD j 0 := by
        rw [hr9, List.getD_eq_getElem?_getD, List.getD_eq_getElem?_getD, List.getElem?_append_left q]
      have h2 := (atP_mem.mp (getD_mem (l := atP cd i g p 0) q)).1
      rw [h1]
      omega
    have hM : (∀ p j, p ≠ 6 → M1.1 p j = M2.1 p j) ∧ M1.1 6 (71 + i) = M2.1 6 (71 + i) := by
      by_cases q : (atP cd i g p 0).length ≤ j
      · rw [hlo q]; exact ⟨fun _ _ _ => rfl, rfl⟩
      · rw [hhi (by omega)]
        have := hta (by omega)
        exact ⟨fun p j hp9 => by rw [up_ne hp9], by rw [up_j (by omega)]⟩
    obtain ⟨hM1, hM2⟩ := hM
    have h5 : M1.1 0 5 = nI n := by rw [hM1 0 5 (by decide)]; exact hS.2.2.1
    have hp1 : M1.1 0 17 = p := by rw [hM1 0 17 (by decide)]; exact hp
    have k2 : ∀ c, M1.1 2 c = cd 1 c := fun c => by rw [hM1 2 c (by decide), hS.cdc.2.1]
    have hin : nI n ≤ nI i ↔ n ≤ i := nI_leI (by omega) (by omega)
    refine u_iload_n (pc := 54) C d_M_drawOne_54 rfl ?_
    refine u_aload_n (pc := 55) C d_M_drawOne_55 rfl ?_
    refine u_geti (pc := 56) C d_M_drawOne_56 fw_M_70 sR_0 rfl ?_
    refine u_icmp_ge (pc := 59) (tgt := 107) C d_M_drawOne_59 rfl (fun c59 => ?_) (fun c59 => ?_)
    · refine u_vret (pc := 107) C d_M_drawOne_107 (hQ _ _ ⟨rfl, ?_⟩)
      have hge : i = n := by rw [h5, hin] at c59; omega
      subst hge
      exact hhi hj
    · have hlt : i < n := by rw [h5, hin] at c59; omega
      have hi24 : i < 24 := by omega
      have hw : M1.1 6 (71 + i) = g 3 i := by rw [hM2]; exact hS.wh hi24
      refine u_aload_n (pc := 62) C d_M_drawOne_62 rfl ?_
      refine u_getr (pc := 63) (r := 2) C d_M_drawOne_63 fw_M_13 sR_0 rfl rfl ?_
      refine u_iload_n (pc := 66) C d_M_drawOne_66 rfl ?_
      refine u_iald (pc := 67) C d_M_drawOne_67 sR_2 (vp24 hi24) ?_
      refine u_aload_n (pc := 68) C d_M_drawOne_68 rfl ?_
      refine u_geti (pc := 69) C d_M_drawOne_69 fw_M_205 sR_0 rfl ?_
      refine u_icmp_ne (pc := 72) (tgt := 101) C d_M_drawOne_72 rfl (fun c72 => ?_) (fun c72 => ?_)
      · refine u_iinc (pc := 101) (v2 := 1) C d_M_drawOne_101 rfl rfl (by decide) (fun x101 e101 L9 hL9 => ?_)
        obtain rfl : L9 = [some (.ref 0), some (.int x1), some (.int x2), some (.int x101)] := hL9.symm
        refine u_goto (pc := 104) (tgt := 54) C d_M_drawOne_104 rfl ?_
        obtain rfl : x101 = nI (i + 1) := by rw [e101, nI_succ]
        rw [k2, nI_clamp (by omega), hp1] at c72
        have hc : ¬ (g 3 i = 0 ∧ cd 1 i = p) := fun z => c72 z.2
        have ea : atP cd (i + 1) g p 0 = atP cd i g p 0 := by rw [atP_succ, if_neg hc, List.append_nil]
        exact ih (i + 1) _ _ (by omega) (by omega) (by rw [ea]; exact e2) (by rw [ea]; exact hlo) (by rw [ea]; exact hhi)
      · refine u_aload_n (pc := 75) C d_M_drawOne_75 rfl ?_
        refine u_iload_n (pc := 76) C d_M_drawOne_76 rfl ?_
        refine u_iconst (pc := 77) (v := 0) C d_M_drawOne_77 (by decide) ?_
        refine u_callVi (pc := 78) C d_M_drawOne_78 mx_M_isAt mw_M_164 sR_0 rfl (c_M_isAt hi24) rfl rfl (Nat.le_of_ble_eq_true rfl) (fun r78 M78 q78 => ?_)
        obtain ⟨e78, q78⟩ := q78
        have q78 := q78.symm
        subst q78
        rw [hw] at e78
        refine u_if_eq (pc := 81) (tgt := 101) C d_M_drawOne_81 rfl (fun c81 => ?_) (fun c81 => ?_)
        · refine u_iinc (pc := 101) (v2 := 1) C d_M_drawOne_101 rfl rfl (by decide) (fun x101 e101 L9 hL9 => ?_)
          obtain rfl : L9 = [some (.ref 0), some (.int x1), some (.int x2), some (.int x101)] := hL9.symm
          refine u_goto (pc := 104) (tgt := 54) C d_M_drawOne_104 rfl ?_
          obtain rfl : x101 = nI (i + 1) := by rw [e101, nI_succ]
          rw [k2, nI_clamp (by omega), hp1] at c72
          have hc : ¬ (g 3 i = 0 ∧ cd 1 i = p) := fun z => zero_of e78 c81 z.1
          have ea : atP cd (i + 1) g p 0 = atP cd i g p 0 := by rw [atP_succ, if_neg hc, List.append_nil]
          exact ih (i + 1) _ _ (by omega) (by omega) (by rw [ea]; exact e2) (by rw [ea]; exact hlo) (by rw [ea]; exact hhi)
        · refine u_iload_n (pc := 84) C d_M_drawOne_84 rfl ?_
          refine u_if_ne (pc := 85) (tgt := 98) C d_M_drawOne_85 rfl (fun c85 => ?_) (fun c85 => ?_)
          · refine u_iinc (pc := 98) (v2 := (-1)) C d_M_drawOne_98 rfl rfl (by decide) (fun x98 e98 L9 hL9 => ?_)
            obtain rfl : L9 = [some (.ref 0), some (.int x1), some (.int x98), some (.int (nI i))] := hL9.symm
            refine u_iinc (pc := 101) (v2 := 1) C d_M_drawOne_101 rfl rfl (by decide) (fun x101 e101 L9 hL9 => ?_)
            obtain rfl : L9 = [some (.ref 0), some (.int x1), some (.int x98), some (.int x101)] := hL9.symm
            refine u_goto (pc := 104) (tgt := 54) C d_M_drawOne_104 rfl ?_
            obtain rfl : x101 = nI (i + 1) := by rw [e101, nI_succ]
            rw [k2, nI_clamp (by omega), hp1] at c72
            have hc : g 3 i = 0 ∧ cd 1 i = p := ⟨one_of e78 c81, c72⟩
            have ea : (atP cd (i + 1) g p 0).length = (atP cd i g p 0).length + 1 := by rw [atP_succ, if_pos hc, List.length_append]; rfl
            have e9 : j ≠ (atP cd i g p 0).length := fun q => c85 (by rw [e2]; exact (sub_z (by omega) (by omega)).mpr q)
            exact ih (i + 1) _ _ (by omega) (by omega) (by rw [e98, e2, ea, nI_succ, sub_s1]) (fun q => hlo (by omega)) (fun q => hhi (by omega))
          · refine u_aload_n (pc := 88) C d_M_drawOne_88 rfl ?_
            refine u_getr (pc := 89) (r := 6) C d_M_drawOne_89 fw_M_25 sR_0 rfl rfl ?_
            refine u_bipush (pc := 92) (v := 71) C d_M_drawOne_92 (by decide) ?_
            refine u_iload_n (pc := 94) C d_M_drawOne_94 rfl ?_
            refine u_iadd (pc := 95) C d_M_drawOne_95 ?_
            refine u_iconst (pc := 96) (v := 1) C d_M_drawOne_96 (by decide) ?_
            refine u_iast (pc := 97) C d_M_drawOne_97 sR_6 (vp71 hi24) ?_
            refine u_iinc (pc := 98) (v2 := (-1)) C d_M_drawOne_98 rfl rfl (by decide) (fun x98 e98 L9 hL9 => ?_)
            obtain rfl : L9 = [some (.ref 0), some (.int x1), some (.int x98), some (.int (nI i))] := hL9.symm
            refine u_iinc (pc := 101) (v2 := 1) C d_M_drawOne_101 rfl rfl (by decide) (fun x101 e101 L9 hL9 => ?_)
            obtain rfl : L9 = [some (.ref 0), some (.int x1), some (.int x98), some (.int x101)] := hL9.symm
            refine u_goto (pc := 104) (tgt := 54) C d_M_drawOne_104 rfl ?_
            obtain rfl : x101 = nI (i + 1) := by rw [e101, nI_succ]
            rw [k2, nI_clamp (by omega), hp1] at c72
            have hc : g 3 i = 0 ∧ cd 1 i = p := ⟨one_of e78 c81, c72⟩
            have ea : (atP cd (i + 1) g p 0).length = (atP cd i g p 0).length + 1 := by rw [atP_succ, if_pos hc, List.length_append]; rfl
            have e9 : j = (atP cd i g p 0).length := (sub_z (by omega) (by omega)).mp (by rw [← e2]; exact c85)
            refine ih (i + 1) _ _ (by omega) (by omega) (by rw [e98, e2, ea, nI_succ, sub_s1]) (fun q => by omega) (fun _ => ?_)
            rw [hlo (by omega), ix71 hi24]
            congr 2
            have h9 := atP_at hlt hc
            rw [List.getD_eq_getElem?_getD, e9, h9]
            rfl
set_option maxRecDepth 20000 in
theorem c_M_drawOne {cd : Nat → Nat → Int32} {n : Nat} {g : Gm} {tb : List Nat} {M : Mem} {p : Int32} (hS : RS M cd n g tb) (hp : M.1 0 17 = p) (hp01 : p = 0 ∨ p = 1) : Ct lyR y_M_drawOne b_M_drawOne 4 none 2 [.ref 0] M (Pv fun M' => RS M' cd n (draw1 cd n p g) tb ∧ OfR gR M M') := by
  obtain ⟨hp9, hp2, hp3⟩ := pl01 hp01
  have n24 := hS.n24
  have hlen := atP_len (cd := cd) (n := n) (g := g) (p := p) (pl := 0)
  have hpn : ¬ p < 0 := by rw [hp9]; exact nI_pos (by omega)
  have hli : M.1 6 (pix p) = g 0 (pix p) := by
    have h1 := hS.2.2.2.1
    rcases hp01 with q | q
    · subst q; exact h1.1
    · subst q; exact h1.2
  refine Ct.ofG mx_M_drawOne [some (.ref 0), none, none, none] rfl rfl (Nat.le_of_ble_eq_true rfl) (fun κ C hQ => ?_)
  refine u_aload_n (pc := 0) C d_M_drawOne_0 rfl ?_
  refine u_aload_n (pc := 1) C d_M_drawOne_1 rfl ?_
  refine u_geti (pc := 2) C d_M_drawOne_2 fw_M_205 sR_0 rfl ?_
  refine u_iconst (pc := 5) (v := 0) C d_M_drawOne_5 (by decide) ?_
  refine u_callVi (pc := 6) C d_M_drawOne_6 mx_M_manyAt mw_M_168 sR_0 rfl (c_M_manyAt hS) rfl rfl (Nat.le_of_ble_eq_true rfl) (fun r6 M6 q6 => ?_)
  obtain ⟨e6, q6⟩ := q6
  have q6 := q6.symm
  subst q6
  refine u_istore_n (pc := 9) C d_M_drawOne_9 rfl (fun x9 e9 L9 hL9 => ?_)
  obtain rfl : L9 = [some (.ref 0), some (.int x9), none, none] := hL9.symm
  rw [hp, mnL_p hpn] at e6
  refine u_iload_n (pc := 10) C d_M_drawOne_10 rfl ?_
  refine u_if_ne (pc := 11) (tgt := 46) C d_M_drawOne_11 rfl (fun c11 => ?_) (fun c11 => ?_)
  · have hk0 : 0 < (atP cd n g p 0).length := by
      rcases Nat.eq_zero_or_pos (atP cd n g p 0).length with q | q
      · exact absurd (by rw [e9, e6, q]; rfl) c11
      · exact q
    rw [e6] at e9
    subst e9
    refine u_aload_n (pc := 46) C d_M_drawOne_46 rfl ?_
    refine u_iload_n (pc := 47) C d_M_drawOne_47 rfl ?_
    refine u_callVi (pc := 48) C d_M_drawOne_48 mx_M_draw mw_M_224 sR_0 rfl (c_M_draw hk0 (by omega)) rfl rfl (Nat.le_of_ble_eq_true rfl) (fun r48 M48 q48 => ?_)
    obtain ⟨e48, q48⟩ := q48
    have q48 := q48.symm
    subst q48
    refine u_istore_n (pc := 51) C d_M_drawOne_51 rfl (fun x51 e51 L9 hL9 => ?_)
    obtain rfl : L9 = [some (.ref 0), some (.int (nI (atP cd n g p 0).length)), some (.int x51), none] := hL9.symm
    refine u_iconst (pc := 52) (v := 0) C d_M_drawOne_52 (by decide) ?_
    refine u_istore_n (pc := 53) C d_M_drawOne_53 rfl (fun x53 e53 L9 hL9 => ?_)
    obtain rfl : L9 = [some (.ref 0), some (.int (nI (atP cd n g p 0).length)), some (.int x51), some (.int x53)] := hL9.symm
    obtain ⟨j, hj, ej⟩ := drawn_lt hk0 (by omega) (seedF (M.1 6 3))
    rw [ej] at e48
    rw [e48] at e51
    subst e51
    subst e53
    have hse : M.1 6 3 = g 1 1 := hS.2.2.2.2.1.2.1
    have hd9 : draw1 cd n p g = up2 (up2 g 1 1 (seedF (M.1 6 3))) 3 ((atP cd n g p 0).getD j 0) 1 := by
      rw [draw1, if_neg (by omega), ← hse, ej, nI_clamp (by omega)]
    have hS2 : RS (up M 6 3 (seedF (M.1 6 3))) cd n (up2 g 1 1 (seedF (M.1 6 3))) tb := hS.row ofg (hS.1.seed _) (by rw [up_r6]; exact hS.2.2.2.seed)
    have hcg : atP cd n (up2 g 1 1 (seedF (M.1 6 3))) p 0 = atP cd n g p 0 := atP_congr (fun c _ => rfl)
    have ht := (atP_mem.mp (getD_mem hj)).1
    refine lp_draw (p := p) hS2 (by rw [up_ne (by decide)]; exact hp) (by rw [hcg]; exact hj) C (fun v M9 q => hQ v M9 ?_) (n + 1) 0 _ _ (by omega) (by omega) (by show nI j = nI j - 0; rw [Int32.sub_zero]) (fun _ => rfl) (fun q => absurd q (Nat.not_lt_zero _))
    obtain ⟨rfl, q⟩ := q
    have q := q.symm
    subst q
    rw [hcg]
    refine ⟨rfl, ?_, ofg.trans ofg⟩
    have hw9 : WFg cd n (draw1 cd n p g) tb := hS.1.draw
    refine hS2.row ofg hw9 ?_
    rw [up_r6, hd9]
    exact hS2.2.2.2.where (by omega)
  · refine u_aload_n (pc := 14) C d_M_drawOne_14 rfl ?_
    refine u_getr (pc := 15) (r := 6) C d_M_drawOne_15 fw_M_25 sR_0 rfl rfl ?_
    refine u_iconst (pc := 18) (v := 0) C d_M_drawOne_18 (by decide) ?_
    refine u_aload_n (pc := 19) C d_M_drawOne_19 rfl ?_
    refine u_geti (pc := 20) C d_M_drawOne_20 fw_M_205 sR_0 rfl ?_
    refine u_iadd (pc := 23) C d_M_drawOne_23 ?_
    refine u_aload_n (pc := 24) C d_M_drawOne_24 rfl ?_
    refine u_getr (pc := 25) (r := 6) C d_M_drawOne_25 fw_M_25 sR_0 rfl rfl ?_
    refine u_iconst (pc := 28) (v := 0) C d_M_drawOne_28 (by decide) ?_
    refine u_aload_n (pc := 29) C d_M_drawOne_29 rfl ?_
    refine u_geti (pc := 30) C d_M_drawOne_30 fw_M_205 sR_0 rfl ?_
    refine u_iadd (pc := 33) C d_M_drawOne_33 ?_
    refine u_iald (pc := 34) C d_M_drawOne_34 sR_6 (by rw [hp]; exact (p_pix hp01).2) ?_
    refine u_iconst (pc := 35) (v := 1) C d_M_drawOne_35 (by decide) ?_
    refine u_isub (pc := 36) C d_M_drawOne_36 ?_
    refine u_bipush (pc := 37) (v := (-99)) C d_M_drawOne_37 (by decide) ?_
    refine u_bipush (pc := 39) (v := 99) C d_M_drawOne_39 (by decide) ?_
    refine u_callSi (pc := 41) C d_M_drawOne_41 mx_M_held mw_M_186 (c_M_held (by decide)) rfl rfl (Nat.le_of_ble_eq_true rfl) (fun r41 M41 q41 => ?_)
    obtain ⟨e41, q41⟩ := q41
    have q41 := q41.symm
    subst q41
    refine u_iast (pc := 44) C d_M_drawOne_44 sR_6 (by rw [hp]; exact (p_pix hp01).2) ?_
    refine u_vret (pc := 45) C d_M_drawOne_45 (hQ _ _ ⟨rfl, ?_⟩)
    rw [hp, (p_pix hp01).1, hli] at e41
    rw [hp, (p_pix hp01).1, e41, Int32.sub_eq_add_neg]
    have h0 : (atP cd n g p 0).length = 0 := by
      rw [e9, e6] at c11
      exact (nI_eq (a := (atP cd n g p 0).length) (b := 0) (by omega) (by omega)).mp c11
    have hd9 : draw1 cd n p g = chg g p (-1) := by rw [draw1, if_pos h0]
    refine ⟨?_, ofg⟩
    have hw9 : WFg cd n (draw1 cd n p g) tb := hS.1.draw
    rw [hd9] at hw9 ⊢
    refine hS.row ofg hw9 ?_
    rw [up_r6]
    exact hS.2.2.2.life hp2
