/-! the reference: next, count, tells -/
theorem InvR.g6 {M M' : Mem} {σ : St} (h : InvR M σ) (ho : OfR gR M M') (h6 : ∀ j, j < 123 → M'.1 6 j = M.1 6 j) : InvR M' σ :=
  h.same (ho.mono (fun p j => g_th)) h6 (h.2.2.2.2.2.1.g ho)
theorem up_back {M : Mem} {j : Nat} {x : Int32} (i : Nat) : (up (up M 6 j x) 6 j (M.1 6 j)).1 6 i = M.1 6 i := by
  by_cases e : i = j
  · subst e; rw [up_row, pk_us]
  · rw [up_j e, up_j e]
set_option maxRecDepth 20000 in
theorem lp_next {κ : KX} {cd : Nat → Nat → Int32} {n j : Nat} {g : Gm} {tb : List Nat} {M : Mem} {p x2 x3 : Int32} (hS : RS M cd n g tb) (hj : j < (atP cd n g p 0).length)  (C : Cx κ lyR y_M_next.cls b_M_next 7 (some .int) 2) (hQ : ∀ v M', Pi (fun r M' => r = nI ((atP cd n g p 0).getD j 0) ∧ M' = M) v M' → KQ κ v M') : ∀ (f i : Nat) (x4 x5 : Int32), i ≤ n → n - i < f → x4 = nI j - nI (atP cd i g p 0).length → (j < (atP cd i g p 0).length → x5 = nI ((atP cd n g p 0).getD j 0)) → G κ lyR 53 [some (.ref 0), some (.int p), some (.int x2), some (.int x3), some (.int x4), some (.int x5), some (.int (nI i))] [] M := by
  intro f
  induction f with
  | zero => intro i x4 x5 _ h; omega
  | succ f ih =>
    intro i x4 x5 hi hf e4 hlo
    have n24 := hS.n24
    have h5 := hS.2.2.1
    obtain ⟨k1, k2, k3, k4, k5⟩ := hS.cdc
    have hil := atP_len (cd := cd) (n := i) (g := g) (p := p) (pl := 0)
    have hnl := atP_len (cd := cd) (n := n) (g := g) (p := p) (pl := 0)
    have hin : nI n ≤ nI i ↔ n ≤ i := nI_leI (by omega) (by omega)
    refine u_iload (pc := 53) C d_M_next_53 rfl ?_
    refine u_aload_n (pc := 55) C d_M_next_55 rfl ?_
    refine u_geti (pc := 56) C d_M_next_56 fw_M_70 sR_0 rfl ?_
    refine u_icmp_ge (pc := 59) (tgt := 106) C d_M_next_59 rfl (fun c59 => ?_) (fun c59 => ?_)
    · refine u_iload (pc := 106) C d_M_next_106 rfl ?_
      refine u_iret (pc := 108) C d_M_next_108 (hQ _ _ ⟨_, rfl, ?_⟩)
      have hge : i = n := by rw [h5, hin] at c59; omega
      subst hge
      exact ⟨hlo hj, rfl⟩
    · have hlt : i < n := by rw [h5, hin] at c59; omega
      have hi24 : i < 24 := by omega
      refine u_aload_n (pc := 62) C d_M_next_62 rfl ?_
      refine u_getr (pc := 63) (r := 2) C d_M_next_63 fw_M_13 sR_0 rfl rfl ?_
      refine u_iload (pc := 66) C d_M_next_66 rfl ?_
      refine u_iald (pc := 68) C d_M_next_68 sR_2 (vp24 hi24) ?_
      refine u_iload_n (pc := 69) C d_M_next_69 rfl ?_
      refine u_icmp_ne (pc := 70) (tgt := 100) C d_M_next_70 rfl (fun c70 => ?_) (fun c70 => ?_)
      · refine u_iinc (pc := 100) (v2 := 1) C d_M_next_100 rfl rfl (by decide) (fun x100 e100 L9 hL9 => ?_)
        obtain rfl : L9 = [some (.ref 0), some (.int p), some (.int x2), some (.int x3), some (.int x4), some (.int x5), some (.int x100)] := hL9.symm
        refine u_goto (pc := 103) (tgt := 53) C d_M_next_103 rfl ?_
        obtain rfl : x100 = nI (i + 1) := by rw [e100, nI_succ]
        rw [k2, nI_clamp (by omega)] at c70
        have hc : ¬ (g 3 i = 0 ∧ cd 1 i = p) := fun z => c70 z.2
        have ea : atP cd (i + 1) g p 0 = atP cd i g p 0 := by rw [atP_succ, if_neg hc, List.append_nil]
        exact ih (i + 1) _ _ (by omega) (by omega) (by rw [ea]; exact e4) (by rw [ea]; exact hlo)
      · refine u_aload_n (pc := 73) C d_M_next_73 rfl ?_
        refine u_iload (pc := 74) C d_M_next_74 rfl ?_
        refine u_iconst (pc := 76) (v := 0) C d_M_next_76 (by decide) ?_
        refine u_callVi (pc := 77) C d_M_next_77 mx_M_isAt mw_M_164 sR_0 rfl (c_M_isAt hi24) rfl rfl (Nat.le_of_ble_eq_true rfl) (fun r77 M77 q77 => ?_)
        obtain ⟨e77, q77⟩ := q77
        have q77 := q77.symm
        subst q77
        rw [hS.wh hi24] at e77
        refine u_if_eq (pc := 80) (tgt := 100) C d_M_next_80 rfl (fun c80 => ?_) (fun c80 => ?_)
        · refine u_iinc (pc := 100) (v2 := 1) C d_M_next_100 rfl rfl (by decide) (fun x100 e100 L9 hL9 => ?_)
          obtain rfl : L9 = [some (.ref 0), some (.int p), some (.int x2), some (.int x3), some (.int x4), some (.int x5), some (.int x100)] := hL9.symm
          refine u_goto (pc := 103) (tgt := 53) C d_M_next_103 rfl ?_
          obtain rfl : x100 = nI (i + 1) := by rw [e100, nI_succ]
          rw [k2, nI_clamp (by omega)] at c70
          have hc : ¬ (g 3 i = 0 ∧ cd 1 i = p) := fun z => zero_of e77 c80 z.1
          have ea : atP cd (i + 1) g p 0 = atP cd i g p 0 := by rw [atP_succ, if_neg hc, List.append_nil]
          exact ih (i + 1) _ _ (by omega) (by omega) (by rw [ea]; exact e4) (by rw [ea]; exact hlo)
        · refine u_iload (pc := 83) C d_M_next_83 rfl ?_
          refine u_if_ne (pc := 85) (tgt := 93) C d_M_next_85 rfl (fun c85 => ?_) (fun c85 => ?_)
          · refine u_iload (pc := 93) C d_M_next_93 rfl ?_
            refine u_istore (pc := 95) C d_M_next_95 rfl (fun x95 e95 L9 hL9 => ?_)
            obtain rfl : L9 = [some (.ref 0), some (.int p), some (.int x2), some (.int x3), some (.int x4), some (.int x95), some (.int (nI i))] := hL9.symm
            refine u_iinc (pc := 97) (v2 := (-1)) C d_M_next_97 rfl rfl (by decide) (fun x97 e97 L9 hL9 => ?_)
            obtain rfl : L9 = [some (.ref 0), some (.int p), some (.int x2), some (.int x3), some (.int x97), some (.int x95), some (.int (nI i))] := hL9.symm
            refine u_iinc (pc := 100) (v2 := 1) C d_M_next_100 rfl rfl (by decide) (fun x100 e100 L9 hL9 => ?_)
            obtain rfl : L9 = [some (.ref 0), some (.int p), some (.int x2), some (.int x3), some (.int x97), some (.int x95), some (.int x100)] := hL9.symm
            refine u_goto (pc := 103) (tgt := 53) C d_M_next_103 rfl ?_
            obtain rfl : x100 = nI (i + 1) := by rw [e100, nI_succ]
            rw [k2, nI_clamp (by omega)] at c70
            have hc : g 3 i = 0 ∧ cd 1 i = p := ⟨one_of e77 c80, c70⟩
            have ea : (atP cd (i + 1) g p 0).length = (atP cd i g p 0).length + 1 := by rw [atP_succ, if_pos hc, List.length_append]; rfl
            have e9 : j ≠ (atP cd i g p 0).length := fun q => c85 (by rw [e4]; exact (sub_z (by omega) (by omega)).mpr q)
            exact ih (i + 1) _ _ (by omega) (by omega) (by rw [e97, e4, ea, nI_succ, sub_s1]) (fun q => by rw [e95]; exact hlo (by omega))
          · refine u_iload (pc := 88) C d_M_next_88 rfl ?_
            refine u_goto (pc := 90) (tgt := 95) C d_M_next_90 rfl ?_
            refine u_istore (pc := 95) C d_M_next_95 rfl (fun x95 e95 L9 hL9 => ?_)
            obtain rfl : L9 = [some (.ref 0), some (.int p), some (.int x2), some (.int x3), some (.int x4), some (.int x95), some (.int (nI i))] := hL9.symm
            refine u_iinc (pc := 97) (v2 := (-1)) C d_M_next_97 rfl rfl (by decide) (fun x97 e97 L9 hL9 => ?_)
            obtain rfl : L9 = [some (.ref 0), some (.int p), some (.int x2), some (.int x3), some (.int x97), some (.int x95), some (.int (nI i))] := hL9.symm
            refine u_iinc (pc := 100) (v2 := 1) C d_M_next_100 rfl rfl (by decide) (fun x100 e100 L9 hL9 => ?_)
            obtain rfl : L9 = [some (.ref 0), some (.int p), some (.int x2), some (.int x3), some (.int x97), some (.int x95), some (.int x100)] := hL9.symm
            refine u_goto (pc := 103) (tgt := 53) C d_M_next_103 rfl ?_
            obtain rfl : x100 = nI (i + 1) := by rw [e100, nI_succ]
            rw [k2, nI_clamp (by omega)] at c70
            have hc : g 3 i = 0 ∧ cd 1 i = p := ⟨one_of e77 c80, c70⟩
            have ea : (atP cd (i + 1) g p 0).length = (atP cd i g p 0).length + 1 := by rw [atP_succ, if_pos hc, List.length_append]; rfl
            have e9 : j = (atP cd i g p 0).length := (sub_z (by omega) (by omega)).mp (by rw [← e4]; exact c85)
            refine ih (i + 1) _ _ (by omega) (by omega) (by rw [e97, e4, ea, nI_succ, sub_s1]) (fun _ => ?_)
            rw [e95]
            have h9 := atP_at hlt hc
            rw [List.getD_eq_getElem?_getD, e9, h9]
            rfl
set_option maxRecDepth 20000 in
theorem c_M_next {p : Int32} {M : Mem} {σ : St} (hI : InvR M σ) : Ct lyR y_M_next b_M_next 7 (some .int) 2 [.ref 0, .int p] M (Pi fun r M' => r = sp_next p σ ∧ InvR M' σ) := by
  have hS := hI.1
  have n24 := hS.n24
  have h5 := hS.2.2.1
  obtain ⟨k1, k2, k3, k4, k5⟩ := hS.cdc
  have hlen := atP_len (cd := σ.1.1) (n := σ.1.2.1) (g := σ.1.2.2.1) (p := p) (pl := 0)
  have hse : M.1 6 3 = σ.1.2.2.1 1 1 := hS.2.2.2.2.1.2.1
  refine Ct.ofG mx_M_next [some (.ref 0), some (.int p), none, none, none, none, none] rfl rfl (Nat.le_of_ble_eq_true rfl) (fun κ C hQ => ?_)
  refine u_iload_n (pc := 0) C d_M_next_0 rfl ?_
  refine u_iconst (pc := 1) (v := 0) C d_M_next_1 (by decide) ?_
  refine u_iconst (pc := 2) (v := 1) C d_M_next_2 (by decide) ?_
  refine u_callSi (pc := 3) C d_M_next_3 mx_M_in mw_M_73 (c_M_in) rfl rfl (Nat.le_of_ble_eq_true rfl) (fun r3 M3 q3 => ?_)
  obtain ⟨e3, q3⟩ := q3
  have q3 := q3.symm
  subst q3
  refine u_if_ne (pc := 6) (tgt := 11) C d_M_next_6 rfl (fun c6 => ?_) (fun c6 => ?_)
  · rw [e3] at c6
    have hp := in01 c6
    refine u_aload_n (pc := 11) C d_M_next_11 rfl ?_
    refine u_iload_n (pc := 12) C d_M_next_12 rfl ?_
    refine u_iconst (pc := 13) (v := 0) C d_M_next_13 (by decide) ?_
    refine u_callVi (pc := 14) C d_M_next_14 mx_M_manyAt mw_M_168 sR_0 rfl (c_M_manyAt hS) rfl rfl (Nat.le_of_ble_eq_true rfl) (fun r14 M14 q14 => ?_)
    obtain ⟨e14, q14⟩ := q14
    have q14 := q14.symm
    subst q14
    refine u_istore_n (pc := 17) C d_M_next_17 rfl (fun x17 e17 L9 hL9 => ?_)
    obtain rfl : L9 = [some (.ref 0), some (.int p), some (.int x17), none, none, none, none] := hL9.symm
    rw [mnL_p (pneg hp)] at e14
    refine u_iload_n (pc := 18) C d_M_next_18 rfl ?_
    refine u_if_ne (pc := 19) (tgt := 25) C d_M_next_19 rfl (fun c19 => ?_) (fun c19 => ?_)
    · have hk0 : 0 < (atP σ.1.1 σ.1.2.1 σ.1.2.2.1 p 0).length := by
        rcases Nat.eq_zero_or_pos (atP σ.1.1 σ.1.2.1 σ.1.2.2.1 p 0).length with q | q
        · exact absurd (by rw [e17, e14, q]; rfl) c19
        · exact q
      rw [e14] at e17
      subst e17
      refine u_aload_n (pc := 25) C d_M_next_25 rfl ?_
      refine u_getr (pc := 26) (r := 6) C d_M_next_26 fw_M_25 sR_0 rfl rfl ?_
      refine u_iconst (pc := 29) (v := 3) C d_M_next_29 (by decide) ?_
      refine u_iald (pc := 30) C d_M_next_30 sR_6 v3 ?_
      refine u_istore_n (pc := 31) C d_M_next_31 rfl (fun x31 e31 L9 hL9 => ?_)
      obtain rfl : L9 = [some (.ref 0), some (.int p), some (.int (nI (atP σ.1.1 σ.1.2.1 σ.1.2.2.1 p 0).length)), some (.int x31), none, none, none] := hL9.symm
      refine u_aload_n (pc := 32) C d_M_next_32 rfl ?_
      refine u_iload_n (pc := 33) C d_M_next_33 rfl ?_
      refine u_callVi (pc := 34) C d_M_next_34 mx_M_draw mw_M_224 sR_0 rfl (c_M_draw hk0 (by omega)) rfl rfl (Nat.le_of_ble_eq_true rfl) (fun r34 M34 q34 => ?_)
      obtain ⟨e34, q34⟩ := q34
      have q34 := q34.symm
      subst q34
      refine u_istore (pc := 37) C d_M_next_37 rfl (fun x37 e37 L9 hL9 => ?_)
      obtain rfl : L9 = [some (.ref 0), some (.int p), some (.int (nI (atP σ.1.1 σ.1.2.1 σ.1.2.2.1 p 0).length)), some (.int x31), some (.int x37), none, none] := hL9.symm
      refine u_aload_n (pc := 39) C d_M_next_39 rfl ?_
      refine u_getr (pc := 40) (r := 6) C d_M_next_40 fw_M_25 sR_0 rfl rfl ?_
      refine u_iconst (pc := 43) (v := 3) C d_M_next_43 (by decide) ?_
      refine u_iload_n (pc := 44) C d_M_next_44 rfl ?_
      refine u_iast (pc := 45) C d_M_next_45 sR_6 v3 ?_
      refine u_bipush (pc := 46) (v := (-2)) C d_M_next_46 (by decide) ?_
      refine u_istore (pc := 48) C d_M_next_48 rfl (fun x48 e48 L9 hL9 => ?_)
      obtain rfl : L9 = [some (.ref 0), some (.int p), some (.int (nI (atP σ.1.1 σ.1.2.1 σ.1.2.2.1 p 0).length)), some (.int x31), some (.int x37), some (.int x48), none] := hL9.symm
      refine u_iconst (pc := 50) (v := 0) C d_M_next_50 (by decide) ?_
      refine u_istore (pc := 51) C d_M_next_51 rfl (fun x51 e51 L9 hL9 => ?_)
      obtain rfl : L9 = [some (.ref 0), some (.int p), some (.int (nI (atP σ.1.1 σ.1.2.1 σ.1.2.2.1 p 0).length)), some (.int x31), some (.int x37), some (.int x48), some (.int x51)] := hL9.symm
      rw [cl3] at e31
      subst e31
      rw [cl3]
      obtain ⟨j, hj, ej⟩ := drawn_lt hk0 (by omega) (seedF (M.1 6 3))
      rw [e34, ej] at e37
      subst e37
      have hb := fun i => up_back (M := M) (j := 3) (x := seedF (M.1 6 3)) i
      have o9 : OfR gR M (up (up M 6 3 (seedF (M.1 6 3))) 6 3 (M.1 6 3)) := ofg.trans ofg
      have hI9 := hI.g6 o9 (fun i _ => hb i)
      subst e51
      refine lp_next hI9.1 hj C (fun v M9 q => hQ v M9 ?_) (σ.1.2.1 + 1) 0 _ _ (by omega) (by omega) (by show nI j = nI j - 0; rw [Int32.sub_zero]) (fun q => absurd q (Nat.not_lt_zero _))
      obtain ⟨r, rfl, q1, q⟩ := q
      have q := q.symm
      subst q
      refine ⟨r, rfl, ?_, hI9⟩
      rw [q1, sp_next, if_pos hp, if_neg (by omega), ← hse, ej, nI_clamp (by omega), nthR_lt hj]
    · refine u_bipush (pc := 22) (v := (-2)) C d_M_next_22 (by decide) ?_
      refine u_iret (pc := 24) C d_M_next_24 (hQ _ _ ⟨_, rfl, ?_⟩)
      rw [e17, e14] at c19
      have h0 : (atP σ.1.1 σ.1.2.1 σ.1.2.2.1 p 0).length = 0 := (nI_eq (b := 0) (by omega) (by decide)).mp c19
      exact ⟨by rw [sp_next, if_pos hp, if_pos h0], hI⟩
  · refine u_iconst (pc := 9) (v := (-1)) C d_M_next_9 (by decide) ?_
    refine u_iret (pc := 10) C d_M_next_10 (hQ _ _ ⟨_, rfl, ?_⟩)
    rw [e3] at c6
    exact ⟨by rw [sp_next, if_neg (in01n c6)], hI⟩
theorem mn_tab {M : Mem} {cd : Nat → Nat → Int32} {n : Nat} {g : Gm} {tb : List Nat} (h : RS M cd n g tb) : (mnL cd n g (-1) 3).length = tb.length := by
  have hm : ∀ c, c ∈ mnL cd n g (-1) 3 ↔ c ∈ tb := fun c => by
    rw [h.tbm]
    unfold mnL
    rw [List.mem_filter, List.mem_range]
    simp only [Bool.and_eq_true, Bool.or_eq_true, decide_eq_true_eq]
    exact ⟨fun z => ⟨z.1, z.2.2⟩, fun z => ⟨z.1, Or.inl (by decide), z.2⟩⟩
  have hnd : (mnL cd n g (-1) 3).Nodup := List.nodup_range.sublist List.filter_sublist
  exact List.Perm.length_eq ((List.perm_ext_iff_of_nodup hnd h.1.2.1.1).mpr hm)
theorem mn_two {cd : Nat → Nat → Int32} {N : Nat} {g : Gm} {pl : Int32} (hW : WFc cd N) : ∀ n, n ≤ N → (mnL cd n g (-1) pl).length = (atP cd n g 0 pl).length + (atP cd n g 1 pl).length := by
  intro n
  induction n with
  | zero => intro _; rfl
  | succ n ih =>
    intro hn
    rw [mnL_succ, atP_succ, atP_succ, List.length_append, List.length_append, ih (by omega)]
    have ho := (hW n (by omega)).2.1
    by_cases h : g 3 n = pl
    · rw [if_pos ⟨Or.inl (by decide), h⟩]
      rcases ho with q | q
      · rw [if_pos ⟨h, q⟩, if_neg (fun z => absurd (q.symm.trans z.2) (by decide))]
        simp; omega
      · rw [if_neg (fun z => absurd (z.2.symm.trans q) (by decide)), if_pos ⟨h, q⟩]
        simp; omega
    · rw [if_neg (fun z => h z.2), if_neg (fun z => h z.1), if_neg (fun z => h z.1)]
      simp
set_option maxRecDepth 20000 in
theorem c_M_count {what : Int32} {M : Mem} {σ : St} (hI : InvR M σ) : Ct lyR y_M_count b_M_count 2 (some .int) 2 [.ref 0, .int what] M (Pi fun r M' => r = sp_count what σ ∧ InvR M' σ) := by
  have hS := hI.1
  have n24 := hS.n24
  have h5 := hS.2.2.1
  obtain ⟨k1, k2, k3, k4, k5⟩ := hS.cdc
  refine Ct.ofG mx_M_count [some (.ref 0), some (.int what)] rfl rfl (Nat.le_of_ble_eq_true rfl) (fun κ C hQ => ?_)
  refine u_iload_n (pc := 0) C d_M_count_0 rfl ?_
  refine u_top (fun t1 e1 => ?_)
  rcases sw_0_8 t1 with q1 | q1 | q1 | q1 | q1 | q1 | q1 | q1 | q1 | q1
  · refine u_tsIn (pc := 1) (tgt := 52) C d_M_count_1 (by rw [q1]; decide) (by rw [q1]; decide) (by rw [q1]; rfl) rfl ?_
    refine u_aload_n (pc := 52) C d_M_count_52 rfl ?_
    refine u_geti (pc := 53) C d_M_count_53 fw_M_70 sR_0 rfl ?_
    refine u_iret (pc := 56) C d_M_count_56 (hQ _ _ ⟨_, rfl, ?_⟩)
    subst e1
    exact ⟨by rw [sp_count, q1, if_pos rfl, h5], hI⟩
  · refine u_tsIn (pc := 1) (tgt := 57) C d_M_count_1 (by rw [q1]; decide) (by rw [q1]; decide) (by rw [q1]; rfl) rfl ?_
    refine u_aload_n (pc := 57) C d_M_count_57 rfl ?_
    refine u_getr (pc := 58) (r := 6) C d_M_count_58 fw_M_25 sR_0 rfl rfl ?_
    refine u_bipush (pc := 61) (v := 6) C d_M_count_61 (by decide) ?_
    refine u_iald (pc := 63) C d_M_count_63 sR_6 v6 ?_
    refine u_iret (pc := 64) C d_M_count_64 (hQ _ _ ⟨_, rfl, ?_⟩)
    subst e1
    exact ⟨by rw [sp_count, q1, if_neg (by decide), if_pos rfl, cl6, hS.many], hI⟩
  · refine u_tsIn (pc := 1) (tgt := 65) C d_M_count_1 (by rw [q1]; decide) (by rw [q1]; decide) (by rw [q1]; rfl) rfl ?_
    refine u_aload_n (pc := 65) C d_M_count_65 rfl ?_
    refine u_iconst (pc := 66) (v := (-1)) C d_M_count_66 (by decide) ?_
    refine u_iconst (pc := 67) (v := 3) C d_M_count_67 (by decide) ?_
    refine u_callVi (pc := 68) C d_M_count_68 mx_M_manyAt mw_M_168 sR_0 rfl (c_M_manyAt hS) rfl rfl (Nat.le_of_ble_eq_true rfl) (fun r68 M68 q68 => ?_)
    obtain ⟨e68, q68⟩ := q68
    have q68 := q68.symm
    subst q68
    refine u_iret (pc := 71) C d_M_count_71 (hQ _ _ ⟨_, rfl, ?_⟩)
    subst e1
    exact ⟨by rw [sp_count, q1, if_neg (by decide), if_neg (by decide), if_pos rfl, e68, mn_tab hS], hI⟩
  · refine u_tsIn (pc := 1) (tgt := 72) C d_M_count_1 (by rw [q1]; decide) (by rw [q1]; decide) (by rw [q1]; rfl) rfl ?_
    refine u_aload_n (pc := 72) C d_M_count_72 rfl ?_
    refine u_iconst (pc := 73) (v := (-1)) C d_M_count_73 (by decide) ?_
    refine u_iconst (pc := 74) (v := 4) C d_M_count_74 (by decide) ?_
    refine u_callVi (pc := 75) C d_M_count_75 mx_M_manyAt mw_M_168 sR_0 rfl (c_M_manyAt hS) rfl rfl (Nat.le_of_ble_eq_true rfl) (fun r75 M75 q75 => ?_)
    obtain ⟨e75, q75⟩ := q75
    have q75 := q75.symm
    subst q75
    refine u_iret (pc := 78) C d_M_count_78 (hQ _ _ ⟨_, rfl, ?_⟩)
    subst e1
    exact ⟨by rw [sp_count, q1, if_neg (by decide), if_neg (by decide), if_neg (by decide), if_pos rfl, e75, nI_add, ← mn_two hS.1.1.2 _ (Nat.le_refl _)], hI⟩
  · refine u_tsIn (pc := 1) (tgt := 79) C d_M_count_1 (by rw [q1]; decide) (by rw [q1]; decide) (by rw [q1]; rfl) rfl ?_
    refine u_aload_n (pc := 79) C d_M_count_79 rfl ?_
    refine u_geti (pc := 80) C d_M_count_80 fw_M_81 sR_0 rfl ?_
    refine u_iret (pc := 83) C d_M_count_83 (hQ _ _ ⟨_, rfl, ?_⟩)
    subst e1
    exact ⟨by rw [sp_count, q1, if_neg (by decide), if_neg (by decide), if_neg (by decide), if_neg (by decide), if_pos rfl, hI.2.2.1.2.1], hI⟩
  · refine u_tsIn (pc := 1) (tgt := 84) C d_M_count_1 (by rw [q1]; decide) (by rw [q1]; decide) (by rw [q1]; rfl) rfl ?_
    refine u_aload_n (pc := 84) C d_M_count_84 rfl ?_
    refine u_getr (pc := 85) (r := 6) C d_M_count_85 fw_M_25 sR_0 rfl rfl ?_
    refine u_iconst (pc := 88) (v := 2) C d_M_count_88 (by decide) ?_
    refine u_iald (pc := 89) C d_M_count_89 sR_6 v2 ?_
    refine u_iret (pc := 90) C d_M_count_90 (hQ _ _ ⟨_, rfl, ?_⟩)
    subst e1
    exact ⟨by rw [sp_count, q1, if_neg (by decide), if_neg (by decide), if_neg (by decide), if_neg (by decide), if_neg (by decide), if_pos rfl, cl2, hS.2.2.2.2.1.1], hI⟩
  · refine u_tsIn (pc := 1) (tgt := 91) C d_M_count_1 (by rw [q1]; decide) (by rw [q1]; decide) (by rw [q1]; rfl) rfl ?_
    refine u_aload_n (pc := 91) C d_M_count_91 rfl ?_
    refine u_getr (pc := 92) (r := 6) C d_M_count_92 fw_M_25 sR_0 rfl rfl ?_
    refine u_iconst (pc := 95) (v := 5) C d_M_count_95 (by decide) ?_
    refine u_iald (pc := 96) C d_M_count_96 sR_6 v5 ?_
    refine u_iret (pc := 97) C d_M_count_97 (hQ _ _ ⟨_, rfl, ?_⟩)
    subst e1
    exact ⟨by rw [sp_count, q1, if_neg (by decide), if_neg (by decide), if_neg (by decide), if_neg (by decide), if_neg (by decide), if_neg (by decide), if_pos rfl, cl5, hS.2.2.2.2.1.2.2.2.1], hI⟩
  · refine u_tsIn (pc := 1) (tgt := 98) C d_M_count_1 (by rw [q1]; decide) (by rw [q1]; decide) (by rw [q1]; rfl) rfl ?_
    refine u_aload_n (pc := 98) C d_M_count_98 rfl ?_
    refine u_getr (pc := 99) (r := 6) C d_M_count_99 fw_M_25 sR_0 rfl rfl ?_
    refine u_iconst (pc := 102) (v := 4) C d_M_count_102 (by decide) ?_
    refine u_iald (pc := 103) C d_M_count_103 sR_6 v4 ?_
    refine u_iret (pc := 104) C d_M_count_104 (hQ _ _ ⟨_, rfl, ?_⟩)
    subst e1
    exact ⟨by rw [sp_count, q1, if_neg (by decide), if_neg (by decide), if_neg (by decide), if_neg (by decide), if_neg (by decide), if_neg (by decide), if_neg (by decide), if_pos rfl, cl4, hS.2.2.2.2.1.2.2.1], hI⟩
  · refine u_tsIn (pc := 1) (tgt := 105) C d_M_count_1 (by rw [q1]; decide) (by rw [q1]; decide) (by rw [q1]; rfl) rfl ?_
    refine u_aload_n (pc := 105) C d_M_count_105 rfl ?_
    refine u_getr (pc := 106) (r := 6) C d_M_count_106 fw_M_25 sR_0 rfl rfl ?_
    refine u_iconst (pc := 109) (v := 0) C d_M_count_109 (by decide) ?_
    refine u_iald (pc := 110) C d_M_count_110 sR_6 v0 ?_
    refine u_if_gt (pc := 111) (tgt := 118) C d_M_count_111 rfl (fun c111 => ?_) (fun c111 => ?_)
    · refine u_iconst (pc := 118) (v := 0) C d_M_count_118 (by decide) ?_
      refine u_aload_n (pc := 119) C d_M_count_119 rfl ?_
      refine u_getr (pc := 120) (r := 6) C d_M_count_120 fw_M_25 sR_0 rfl rfl ?_
      refine u_iconst (pc := 123) (v := 1) C d_M_count_123 (by decide) ?_
      refine u_iald (pc := 124) C d_M_count_124 sR_6 v1 ?_
      refine u_if_gt (pc := 125) (tgt := 132) C d_M_count_125 rfl (fun c125 => ?_) (fun c125 => ?_)
      · refine u_iconst (pc := 132) (v := 0) C d_M_count_132 (by decide) ?_
        refine u_iadd (pc := 133) C d_M_count_133 ?_
        refine u_iret (pc := 134) C d_M_count_134 (hQ _ _ ⟨_, rfl, ?_⟩)
        subst e1
        refine ⟨?_, hI⟩
        rw [cl0, hS.2.2.2.1.1] at c111
        rw [cl1, hS.2.2.2.1.2] at c125
        rw [sp_count, q1, if_neg (by decide), if_neg (by decide), if_neg (by decide), if_neg (by decide), if_neg (by decide), if_neg (by decide), if_neg (by decide), if_neg (by decide), if_pos rfl, if_neg (Int32.not_le.mpr c111), if_neg (Int32.not_le.mpr c125)]
      · refine u_iconst (pc := 128) (v := 2) C d_M_count_128 (by decide) ?_
        refine u_goto (pc := 129) (tgt := 133) C d_M_count_129 rfl ?_
        refine u_iadd (pc := 133) C d_M_count_133 ?_
        refine u_iret (pc := 134) C d_M_count_134 (hQ _ _ ⟨_, rfl, ?_⟩)
        subst e1
        refine ⟨?_, hI⟩
        rw [cl0, hS.2.2.2.1.1] at c111
        rw [cl1, hS.2.2.2.1.2] at c125
        rw [sp_count, q1, if_neg (by decide), if_neg (by decide), if_neg (by decide), if_neg (by decide), if_neg (by decide), if_neg (by decide), if_neg (by decide), if_neg (by decide), if_pos rfl, if_neg (Int32.not_le.mpr c111), if_pos (Int32.not_lt.mp c125)]
    · refine u_iconst (pc := 114) (v := 1) C d_M_count_114 (by decide) ?_
      refine u_goto (pc := 115) (tgt := 119) C d_M_count_115 rfl ?_
      refine u_aload_n (pc := 119) C d_M_count_119 rfl ?_
      refine u_getr (pc := 120) (r := 6) C d_M_count_120 fw_M_25 sR_0 rfl rfl ?_
      refine u_iconst (pc := 123) (v := 1) C d_M_count_123 (by decide) ?_
      refine u_iald (pc := 124) C d_M_count_124 sR_6 v1 ?_
      refine u_if_gt (pc := 125) (tgt := 132) C d_M_count_125 rfl (fun c125 => ?_) (fun c125 => ?_)
      · refine u_iconst (pc := 132) (v := 0) C d_M_count_132 (by decide) ?_
        refine u_iadd (pc := 133) C d_M_count_133 ?_
        refine u_iret (pc := 134) C d_M_count_134 (hQ _ _ ⟨_, rfl, ?_⟩)
        subst e1
        refine ⟨?_, hI⟩
        rw [cl0, hS.2.2.2.1.1] at c111
        rw [cl1, hS.2.2.2.1.2] at c125
        rw [sp_count, q1, if_neg (by decide), if_neg (by decide), if_neg (by decide), if_neg (by decide), if_neg (by decide), if_neg (by decide), if_neg (by decide), if_neg (by decide), if_pos rfl, if_pos (Int32.not_lt.mp c111), if_neg (Int32.not_le.mpr c125)]
      · refine u_iconst (pc := 128) (v := 2) C d_M_count_128 (by decide) ?_
        refine u_goto (pc := 129) (tgt := 133) C d_M_count_129 rfl ?_
        refine u_iadd (pc := 133) C d_M_count_133 ?_
        refine u_iret (pc := 134) C d_M_count_134 (hQ _ _ ⟨_, rfl, ?_⟩)
        subst e1
        refine ⟨?_, hI⟩
        rw [cl0, hS.2.2.2.1.1] at c111
        rw [cl1, hS.2.2.2.1.2] at c125
        rw [sp_count, q1, if_neg (by decide), if_neg (by decide), if_neg (by decide), if_neg (by decide), if_neg (by decide), if_neg (by decide), if_neg (by decide), if_neg (by decide), if_pos rfl, if_pos (Int32.not_lt.mp c111), if_pos (Int32.not_lt.mp c125)]
  · refine u_tsOut (pc := 1) (tgt := 135) C d_M_count_1 q1 rfl ?_
    refine u_iconst (pc := 135) (v := (-1)) C d_M_count_135 (by decide) ?_
    refine u_iret (pc := 136) C d_M_count_136 (hQ _ _ ⟨_, rfl, ?_⟩)
    subst e1
    have z : ∀ k : Int32, (0 ≤ k.toInt ∧ k.toInt ≤ 8) → ¬ t1 = k := fun k hk q => by rw [q] at q1; rcases q1 with q1 | q1 <;> omega
    exact ⟨by rw [sp_count, if_neg (z 0 (by decide)), if_neg (z 1 (by decide)), if_neg (z 2 (by decide)), if_neg (z 3 (by decide)), if_neg (z 4 (by decide)), if_neg (z 5 (by decide)), if_neg (z 6 (by decide)), if_neg (z 7 (by decide)), if_neg (z 8 (by decide))], hI⟩
theorem fam_k : ∀ k, k ≤ 14 → famF (nI k) = if k ≤ 4 then 1 else if k ≤ 8 then 2 else if k ≤ 13 then 3 else 4 := by decide +kernel
theorem w10a : ∀ k, k ≤ 18 → withinF (10 + (nI k - 9)) (-99) 99 = 10 + (nI k - 9) ∧ withinF (10 * (nI k - 9)) (-99) 99 = 10 * (nI k - 9) := by decide +kernel
theorem a_ex {x : Int32} (h : -9 ≤ x.toInt ∧ x.toInt ≤ 9) : ∃ k, k ≤ 18 ∧ x = nI k - 9 := by
  refine ⟨(x.toInt + 9).toNat, by omega, ?_⟩
  apply Int32.toInt_inj.mp
  have h9 : (9 : Int32) = nI 9 := rfl
  rw [h9, pk_sub_toInt (by omega) (by omega)]
  omega
def tellK (cd : Nat → Nat → Int32) (c : Nat) : Int32 := if cd 0 c = 0 then 10 + cd 4 c else if cd 0 c = 1 then 10 * cd 4 c else if cd 0 c = 2 then cd 4 c else if cd 0 c = 3 then 20 else if cd 0 c = 4 then 30 else if cd 0 c = 5 then 20 else if cd 0 c = 7 then 10 - cd 4 c else if cd 0 c = 6 ∨ cd 0 c = 8 then 10 else if cd 0 c = 14 then 4 * cd 2 c + cd 3 c else cd 4 c
theorem tell_eq {cd : Nat → Nat → Int32} {n c : Nat} (hW : WFc cd n) (hc : c < n) : tellF cd c = tellK cd c := by
  obtain ⟨⟨k, hk, e⟩, -, -, -, ha⟩ := hW c hc
  obtain ⟨a, ha9, ea⟩ := a_ex ha
  have w := w10a a ha9
  unfold tellF tellK layF repF
  rw [e, ea, fam_k k hk, w.1, w.2]
  have hk15 : k = 0 ∨ k = 1 ∨ k = 2 ∨ k = 3 ∨ k = 4 ∨ k = 5 ∨ k = 6 ∨ k = 7 ∨ k = 8 ∨ k = 9 ∨ k = 10 ∨ k = 11 ∨ k = 12 ∨ k = 13 ∨ k = 14 := by omega
  rcases hk15 with q | q | q | q | q | q | q | q | q | q | q | q | q | q | q
  all_goals (subst q; first | rfl | (simp only [Int32.mul_comm]; rfl))
set_option maxRecDepth 20000 in
theorem c_M_toldBy {cd : Nat → Nat → Int32} {n c : Nat} {g : Gm} {tb : List Nat} {M : Mem} (hS : RS M cd n g tb) (hc : c < n) : Ct lyR y_M_toldBy b_M_toldBy 3 (some .int) 0 [.ref 0, .int (nI c)] M (Pi fun r M' => r = tellK cd c ∧ M' = M) := by
  have n24 := hS.n24
  have hc24 : c < 24 := by omega
  obtain ⟨k1, k2, k3, k4, k5⟩ := hS.cdc
  have hcl : (nI c).toNatClampNeg = c := nI_clamp (by omega)
  refine Ct.ofG mx_M_toldBy [some (.ref 0), some (.int (nI c)), none] rfl rfl (Nat.le_of_ble_eq_true rfl) (fun κ C hQ => ?_)
  refine u_aload_n (pc := 0) C d_M_toldBy_0 rfl ?_
  refine u_getr (pc := 1) (r := 5) C d_M_toldBy_1 fw_M_22 sR_0 rfl rfl ?_
  refine u_iload_n (pc := 4) C d_M_toldBy_4 rfl ?_
  refine u_iald (pc := 5) C d_M_toldBy_5 sR_5 (vp24 hc24) ?_
  refine u_istore_n (pc := 6) C d_M_toldBy_6 rfl (fun x6 e6 L9 hL9 => ?_)
  obtain rfl : L9 = [some (.ref 0), some (.int (nI c)), some (.int x6)] := hL9.symm
  rw [k5, hcl] at e6
  refine u_aload_n (pc := 7) C d_M_toldBy_7 rfl ?_
  refine u_getr (pc := 8) (r := 1) C d_M_toldBy_8 fw_M_9 sR_0 rfl rfl ?_
  refine u_iload_n (pc := 11) C d_M_toldBy_11 rfl ?_
  refine u_iald (pc := 12) C d_M_toldBy_12 sR_1 (vp24 hc24) ?_
  refine u_top (fun t13 e13 => ?_)
  rcases sw_0_14 t13 with q13 | q13 | q13 | q13 | q13 | q13 | q13 | q13 | q13 | q13 | q13 | q13 | q13 | q13 | q13 | q13
  · refine u_tsIn (pc := 13) (tgt := 88) C d_M_toldBy_13 (by rw [q13]; decide) (by rw [q13]; decide) (by rw [q13]; rfl) rfl ?_
    refine u_bipush (pc := 88) (v := 10) C d_M_toldBy_88 (by decide) ?_
    refine u_iload_n (pc := 90) C d_M_toldBy_90 rfl ?_
    refine u_iadd (pc := 91) C d_M_toldBy_91 ?_
    refine u_iret (pc := 92) C d_M_toldBy_92 (hQ _ _ ⟨_, rfl, ?_⟩)
    rw [k1, hcl] at e13
    refine ⟨?_, rfl⟩
    unfold tellK
    rw [← e13]
    first
      | (rw [q13]
         first
           | rfl
           | (rw [e6]; rfl)
           | (rw [hcl]; rfl))
      | (have z : ∀ k : Int32, (0 ≤ k.toInt ∧ k.toInt ≤ 14) → ¬ t13 = k := fun k hk q => by rw [q] at q13; rcases q13 with q13 | q13 <;> omega
         rw [if_neg (z 0 (by decide)), if_neg (z 1 (by decide)), if_neg (z 2 (by decide)), if_neg (z 3 (by decide)), if_neg (z 4 (by decide)), if_neg (z 5 (by decide)), if_neg (z 7 (by decide)), if_neg (fun y => y.elim (z 6 (by decide)) (z 8 (by decide))), if_neg (z 14 (by decide))]
         exact e6)
  · refine u_tsIn (pc := 13) (tgt := 93) C d_M_toldBy_13 (by rw [q13]; decide) (by rw [q13]; decide) (by rw [q13]; rfl) rfl ?_
    refine u_bipush (pc := 93) (v := 10) C d_M_toldBy_93 (by decide) ?_
    refine u_iload_n (pc := 95) C d_M_toldBy_95 rfl ?_
    refine u_imul (pc := 96) C d_M_toldBy_96 ?_
    refine u_iret (pc := 97) C d_M_toldBy_97 (hQ _ _ ⟨_, rfl, ?_⟩)
    rw [k1, hcl] at e13
    refine ⟨?_, rfl⟩
    unfold tellK
    rw [← e13]
    first
      | (rw [q13]
         first
           | rfl
           | (rw [e6]; rfl)
           | (rw [hcl]; rfl))
      | (have z : ∀ k : Int32, (0 ≤ k.toInt ∧ k.toInt ≤ 14) → ¬ t13 = k := fun k hk q => by rw [q] at q13; rcases q13 with q13 | q13 <;> omega
         rw [if_neg (z 0 (by decide)), if_neg (z 1 (by decide)), if_neg (z 2 (by decide)), if_neg (z 3 (by decide)), if_neg (z 4 (by decide)), if_neg (z 5 (by decide)), if_neg (z 7 (by decide)), if_neg (fun y => y.elim (z 6 (by decide)) (z 8 (by decide))), if_neg (z 14 (by decide))]
         exact e6)
  · refine u_tsIn (pc := 13) (tgt := 98) C d_M_toldBy_13 (by rw [q13]; decide) (by rw [q13]; decide) (by rw [q13]; rfl) rfl ?_
    refine u_iload_n (pc := 98) C d_M_toldBy_98 rfl ?_
    refine u_iret (pc := 99) C d_M_toldBy_99 (hQ _ _ ⟨_, rfl, ?_⟩)
    rw [k1, hcl] at e13
    refine ⟨?_, rfl⟩
    unfold tellK
    rw [← e13]
    first
      | (rw [q13]
         first
           | rfl
           | (rw [e6]; rfl)
           | (rw [hcl]; rfl))
      | (have z : ∀ k : Int32, (0 ≤ k.toInt ∧ k.toInt ≤ 14) → ¬ t13 = k := fun k hk q => by rw [q] at q13; rcases q13 with q13 | q13 <;> omega
         rw [if_neg (z 0 (by decide)), if_neg (z 1 (by decide)), if_neg (z 2 (by decide)), if_neg (z 3 (by decide)), if_neg (z 4 (by decide)), if_neg (z 5 (by decide)), if_neg (z 7 (by decide)), if_neg (fun y => y.elim (z 6 (by decide)) (z 8 (by decide))), if_neg (z 14 (by decide))]
         exact e6)
  · refine u_tsIn (pc := 13) (tgt := 100) C d_M_toldBy_13 (by rw [q13]; decide) (by rw [q13]; decide) (by rw [q13]; rfl) rfl ?_
    refine u_bipush (pc := 100) (v := 20) C d_M_toldBy_100 (by decide) ?_
    refine u_iret (pc := 102) C d_M_toldBy_102 (hQ _ _ ⟨_, rfl, ?_⟩)
    rw [k1, hcl] at e13
    refine ⟨?_, rfl⟩
    unfold tellK
    rw [← e13]
    first
      | (rw [q13]
         first
           | rfl
           | (rw [e6]; rfl)
           | (rw [hcl]; rfl))
      | (have z : ∀ k : Int32, (0 ≤ k.toInt ∧ k.toInt ≤ 14) → ¬ t13 = k := fun k hk q => by rw [q] at q13; rcases q13 with q13 | q13 <;> omega
         rw [if_neg (z 0 (by decide)), if_neg (z 1 (by decide)), if_neg (z 2 (by decide)), if_neg (z 3 (by decide)), if_neg (z 4 (by decide)), if_neg (z 5 (by decide)), if_neg (z 7 (by decide)), if_neg (fun y => y.elim (z 6 (by decide)) (z 8 (by decide))), if_neg (z 14 (by decide))]
         exact e6)
  · refine u_tsIn (pc := 13) (tgt := 103) C d_M_toldBy_13 (by rw [q13]; decide) (by rw [q13]; decide) (by rw [q13]; rfl) rfl ?_
    refine u_bipush (pc := 103) (v := 30) C d_M_toldBy_103 (by decide) ?_
    refine u_iret (pc := 105) C d_M_toldBy_105 (hQ _ _ ⟨_, rfl, ?_⟩)
    rw [k1, hcl] at e13
    refine ⟨?_, rfl⟩
    unfold tellK
    rw [← e13]
    first
      | (rw [q13]
         first
           | rfl
           | (rw [e6]; rfl)
           | (rw [hcl]; rfl))
      | (have z : ∀ k : Int32, (0 ≤ k.toInt ∧ k.toInt ≤ 14) → ¬ t13 = k := fun k hk q => by rw [q] at q13; rcases q13 with q13 | q13 <;> omega
         rw [if_neg (z 0 (by decide)), if_neg (z 1 (by decide)), if_neg (z 2 (by decide)), if_neg (z 3 (by decide)), if_neg (z 4 (by decide)), if_neg (z 5 (by decide)), if_neg (z 7 (by decide)), if_neg (fun y => y.elim (z 6 (by decide)) (z 8 (by decide))), if_neg (z 14 (by decide))]
         exact e6)
  · refine u_tsIn (pc := 13) (tgt := 106) C d_M_toldBy_13 (by rw [q13]; decide) (by rw [q13]; decide) (by rw [q13]; rfl) rfl ?_
    refine u_bipush (pc := 106) (v := 20) C d_M_toldBy_106 (by decide) ?_
    refine u_iret (pc := 108) C d_M_toldBy_108 (hQ _ _ ⟨_, rfl, ?_⟩)
    rw [k1, hcl] at e13
    refine ⟨?_, rfl⟩
    unfold tellK
    rw [← e13]
    first
      | (rw [q13]
         first
           | rfl
           | (rw [e6]; rfl)
           | (rw [hcl]; rfl))
      | (have z : ∀ k : Int32, (0 ≤ k.toInt ∧ k.toInt ≤ 14) → ¬ t13 = k := fun k hk q => by rw [q] at q13; rcases q13 with q13 | q13 <;> omega
         rw [if_neg (z 0 (by decide)), if_neg (z 1 (by decide)), if_neg (z 2 (by decide)), if_neg (z 3 (by decide)), if_neg (z 4 (by decide)), if_neg (z 5 (by decide)), if_neg (z 7 (by decide)), if_neg (fun y => y.elim (z 6 (by decide)) (z 8 (by decide))), if_neg (z 14 (by decide))]
         exact e6)
  · refine u_tsIn (pc := 13) (tgt := 114) C d_M_toldBy_13 (by rw [q13]; decide) (by rw [q13]; decide) (by rw [q13]; rfl) rfl ?_
    refine u_bipush (pc := 114) (v := 10) C d_M_toldBy_114 (by decide) ?_
    refine u_iret (pc := 116) C d_M_toldBy_116 (hQ _ _ ⟨_, rfl, ?_⟩)
    rw [k1, hcl] at e13
    refine ⟨?_, rfl⟩
    unfold tellK
    rw [← e13]
    first
      | (rw [q13]
         first
           | rfl
           | (rw [e6]; rfl)
           | (rw [hcl]; rfl))
      | (have z : ∀ k : Int32, (0 ≤ k.toInt ∧ k.toInt ≤ 14) → ¬ t13 = k := fun k hk q => by rw [q] at q13; rcases q13 with q13 | q13 <;> omega
         rw [if_neg (z 0 (by decide)), if_neg (z 1 (by decide)), if_neg (z 2 (by decide)), if_neg (z 3 (by decide)), if_neg (z 4 (by decide)), if_neg (z 5 (by decide)), if_neg (z 7 (by decide)), if_neg (fun y => y.elim (z 6 (by decide)) (z 8 (by decide))), if_neg (z 14 (by decide))]
         exact e6)
  · refine u_tsIn (pc := 13) (tgt := 109) C d_M_toldBy_13 (by rw [q13]; decide) (by rw [q13]; decide) (by rw [q13]; rfl) rfl ?_
    refine u_bipush (pc := 109) (v := 10) C d_M_toldBy_109 (by decide) ?_
    refine u_iload_n (pc := 111) C d_M_toldBy_111 rfl ?_
    refine u_isub (pc := 112) C d_M_toldBy_112 ?_
    refine u_iret (pc := 113) C d_M_toldBy_113 (hQ _ _ ⟨_, rfl, ?_⟩)
    rw [k1, hcl] at e13
    refine ⟨?_, rfl⟩
    unfold tellK
    rw [← e13]
    first
      | (rw [q13]
         first
           | rfl
           | (rw [e6]; rfl)
           | (rw [hcl]; rfl))
      | (have z : ∀ k : Int32, (0 ≤ k.toInt ∧ k.toInt ≤ 14) → ¬ t13 = k := fun k hk q => by rw [q] at q13; rcases q13 with q13 | q13 <;> omega
         rw [if_neg (z 0 (by decide)), if_neg (z 1 (by decide)), if_neg (z 2 (by decide)), if_neg (z 3 (by decide)), if_neg (z 4 (by decide)), if_neg (z 5 (by decide)), if_neg (z 7 (by decide)), if_neg (fun y => y.elim (z 6 (by decide)) (z 8 (by decide))), if_neg (z 14 (by decide))]
         exact e6)
  · refine u_tsIn (pc := 13) (tgt := 114) C d_M_toldBy_13 (by rw [q13]; decide) (by rw [q13]; decide) (by rw [q13]; rfl) rfl ?_
    refine u_bipush (pc := 114) (v := 10) C d_M_toldBy_114 (by decide) ?_
    refine u_iret (pc := 116) C d_M_toldBy_116 (hQ _ _ ⟨_, rfl, ?_⟩)
    rw [k1, hcl] at e13
    refine ⟨?_, rfl⟩
    unfold tellK
    rw [← e13]
    first
      | (rw [q13]
         first
           | rfl
           | (rw [e6]; rfl)
           | (rw [hcl]; rfl))
      | (have z : ∀ k : Int32, (0 ≤ k.toInt ∧ k.toInt ≤ 14) → ¬ t13 = k := fun k hk q => by rw [q] at q13; rcases q13 with q13 | q13 <;> omega
         rw [if_neg (z 0 (by decide)), if_neg (z 1 (by decide)), if_neg (z 2 (by decide)), if_neg (z 3 (by decide)), if_neg (z 4 (by decide)), if_neg (z 5 (by decide)), if_neg (z 7 (by decide)), if_neg (fun y => y.elim (z 6 (by decide)) (z 8 (by decide))), if_neg (z 14 (by decide))]
         exact e6)
  · refine u_tsIn (pc := 13) (tgt := 133) C d_M_toldBy_13 (by rw [q13]; decide) (by rw [q13]; decide) (by rw [q13]; rfl) rfl ?_
    refine u_iload_n (pc := 133) C d_M_toldBy_133 rfl ?_
    refine u_iret (pc := 134) C d_M_toldBy_134 (hQ _ _ ⟨_, rfl, ?_⟩)
    rw [k1, hcl] at e13
    refine ⟨?_, rfl⟩
    unfold tellK
    rw [← e13]
    first
      | (rw [q13]
         first
           | rfl
           | (rw [e6]; rfl)
           | (rw [hcl]; rfl))
      | (have z : ∀ k : Int32, (0 ≤ k.toInt ∧ k.toInt ≤ 14) → ¬ t13 = k := fun k hk q => by rw [q] at q13; rcases q13 with q13 | q13 <;> omega
         rw [if_neg (z 0 (by decide)), if_neg (z 1 (by decide)), if_neg (z 2 (by decide)), if_neg (z 3 (by decide)), if_neg (z 4 (by decide)), if_neg (z 5 (by decide)), if_neg (z 7 (by decide)), if_neg (fun y => y.elim (z 6 (by decide)) (z 8 (by decide))), if_neg (z 14 (by decide))]
         exact e6)
  · refine u_tsIn (pc := 13) (tgt := 133) C d_M_toldBy_13 (by rw [q13]; decide) (by rw [q13]; decide) (by rw [q13]; rfl) rfl ?_
    refine u_iload_n (pc := 133) C d_M_toldBy_133 rfl ?_
    refine u_iret (pc := 134) C d_M_toldBy_134 (hQ _ _ ⟨_, rfl, ?_⟩)
    rw [k1, hcl] at e13
    refine ⟨?_, rfl⟩
    unfold tellK
    rw [← e13]
    first
      | (rw [q13]
         first
           | rfl
           | (rw [e6]; rfl)
           | (rw [hcl]; rfl))
      | (have z : ∀ k : Int32, (0 ≤ k.toInt ∧ k.toInt ≤ 14) → ¬ t13 = k := fun k hk q => by rw [q] at q13; rcases q13 with q13 | q13 <;> omega
         rw [if_neg (z 0 (by decide)), if_neg (z 1 (by decide)), if_neg (z 2 (by decide)), if_neg (z 3 (by decide)), if_neg (z 4 (by decide)), if_neg (z 5 (by decide)), if_neg (z 7 (by decide)), if_neg (fun y => y.elim (z 6 (by decide)) (z 8 (by decide))), if_neg (z 14 (by decide))]
         exact e6)
  · refine u_tsIn (pc := 13) (tgt := 133) C d_M_toldBy_13 (by rw [q13]; decide) (by rw [q13]; decide) (by rw [q13]; rfl) rfl ?_
    refine u_iload_n (pc := 133) C d_M_toldBy_133 rfl ?_
    refine u_iret (pc := 134) C d_M_toldBy_134 (hQ _ _ ⟨_, rfl, ?_⟩)
    rw [k1, hcl] at e13
    refine ⟨?_, rfl⟩
    unfold tellK
    rw [← e13]
    first
      | (rw [q13]
         first
           | rfl
           | (rw [e6]; rfl)
           | (rw [hcl]; rfl))
      | (have z : ∀ k : Int32, (0 ≤ k.toInt ∧ k.toInt ≤ 14) → ¬ t13 = k := fun k hk q => by rw [q] at q13; rcases q13 with q13 | q13 <;> omega
         rw [if_neg (z 0 (by decide)), if_neg (z 1 (by decide)), if_neg (z 2 (by decide)), if_neg (z 3 (by decide)), if_neg (z 4 (by decide)), if_neg (z 5 (by decide)), if_neg (z 7 (by decide)), if_neg (fun y => y.elim (z 6 (by decide)) (z 8 (by decide))), if_neg (z 14 (by decide))]
         exact e6)
  · refine u_tsIn (pc := 13) (tgt := 133) C d_M_toldBy_13 (by rw [q13]; decide) (by rw [q13]; decide) (by rw [q13]; rfl) rfl ?_
    refine u_iload_n (pc := 133) C d_M_toldBy_133 rfl ?_
    refine u_iret (pc := 134) C d_M_toldBy_134 (hQ _ _ ⟨_, rfl, ?_⟩)
    rw [k1, hcl] at e13
    refine ⟨?_, rfl⟩
    unfold tellK
    rw [← e13]
    first
      | (rw [q13]
         first
           | rfl
           | (rw [e6]; rfl)
           | (rw [hcl]; rfl))
      | (have z : ∀ k : Int32, (0 ≤ k.toInt ∧ k.toInt ≤ 14) → ¬ t13 = k := fun k hk q => by rw [q] at q13; rcases q13 with q13 | q13 <;> omega
         rw [if_neg (z 0 (by decide)), if_neg (z 1 (by decide)), if_neg (z 2 (by decide)), if_neg (z 3 (by decide)), if_neg (z 4 (by decide)), if_neg (z 5 (by decide)), if_neg (z 7 (by decide)), if_neg (fun y => y.elim (z 6 (by decide)) (z 8 (by decide))), if_neg (z 14 (by decide))]
         exact e6)
  · refine u_tsIn (pc := 13) (tgt := 133) C d_M_toldBy_13 (by rw [q13]; decide) (by rw [q13]; decide) (by rw [q13]; rfl) rfl ?_
    refine u_iload_n (pc := 133) C d_M_toldBy_133 rfl ?_
    refine u_iret (pc := 134) C d_M_toldBy_134 (hQ _ _ ⟨_, rfl, ?_⟩)
    rw [k1, hcl] at e13
    refine ⟨?_, rfl⟩
    unfold tellK
    rw [← e13]
    first
      | (rw [q13]
         first
           | rfl
           | (rw [e6]; rfl)
           | (rw [hcl]; rfl))
      | (have z : ∀ k : Int32, (0 ≤ k.toInt ∧ k.toInt ≤ 14) → ¬ t13 = k := fun k hk q => by rw [q] at q13; rcases q13 with q13 | q13 <;> omega
         rw [if_neg (z 0 (by decide)), if_neg (z 1 (by decide)), if_neg (z 2 (by decide)), if_neg (z 3 (by decide)), if_neg (z 4 (by decide)), if_neg (z 5 (by decide)), if_neg (z 7 (by decide)), if_neg (fun y => y.elim (z 6 (by decide)) (z 8 (by decide))), if_neg (z 14 (by decide))]
         exact e6)
  · refine u_tsIn (pc := 13) (tgt := 117) C d_M_toldBy_13 (by rw [q13]; decide) (by rw [q13]; decide) (by rw [q13]; rfl) rfl ?_
    refine u_iconst (pc := 117) (v := 4) C d_M_toldBy_117 (by decide) ?_
    refine u_aload_n (pc := 118) C d_M_toldBy_118 rfl ?_
    refine u_getr (pc := 119) (r := 3) C d_M_toldBy_119 fw_M_16 sR_0 rfl rfl ?_
    refine u_iload_n (pc := 122) C d_M_toldBy_122 rfl ?_
    refine u_iald (pc := 123) C d_M_toldBy_123 sR_3 (vp24 hc24) ?_
    refine u_imul (pc := 124) C d_M_toldBy_124 ?_
    refine u_aload_n (pc := 125) C d_M_toldBy_125 rfl ?_
    refine u_getr (pc := 126) (r := 4) C d_M_toldBy_126 fw_M_19 sR_0 rfl rfl ?_
    refine u_iload_n (pc := 129) C d_M_toldBy_129 rfl ?_
    refine u_iald (pc := 130) C d_M_toldBy_130 sR_4 (vp24 hc24) ?_
    refine u_iadd (pc := 131) C d_M_toldBy_131 ?_
    refine u_iret (pc := 132) C d_M_toldBy_132 (hQ _ _ ⟨_, rfl, ?_⟩)
    rw [k1, hcl] at e13
    refine ⟨?_, rfl⟩
    unfold tellK
    rw [← e13]
    first
      | (rw [q13]
         first
           | rfl
           | (rw [k3, k4, hcl]; rfl)
           | (rw [hcl]; rfl))
      | (have z : ∀ k : Int32, (0 ≤ k.toInt ∧ k.toInt ≤ 14) → ¬ t13 = k := fun k hk q => by rw [q] at q13; rcases q13 with q13 | q13 <;> omega
         rw [if_neg (z 0 (by decide)), if_neg (z 1 (by decide)), if_neg (z 2 (by decide)), if_neg (z 3 (by decide)), if_neg (z 4 (by decide)), if_neg (z 5 (by decide)), if_neg (z 7 (by decide)), if_neg (fun y => y.elim (z 6 (by decide)) (z 8 (by decide))), if_neg (z 14 (by decide))]
         exact e6)
  · refine u_tsOut (pc := 13) (tgt := 133) C d_M_toldBy_13 q13 rfl ?_
    refine u_iload_n (pc := 133) C d_M_toldBy_133 rfl ?_
    refine u_iret (pc := 134) C d_M_toldBy_134 (hQ _ _ ⟨_, rfl, ?_⟩)
    rw [k1, hcl] at e13
    refine ⟨?_, rfl⟩
    unfold tellK
    rw [← e13]
    first
      | (rw [q13]
         first
           | rfl
           | (rw [e6]; rfl)
           | (rw [hcl]; rfl))
      | (have z : ∀ k : Int32, (0 ≤ k.toInt ∧ k.toInt ≤ 14) → ¬ t13 = k := fun k hk q => by rw [q] at q13; rcases q13 with q13 | q13 <;> omega
         rw [if_neg (z 0 (by decide)), if_neg (z 1 (by decide)), if_neg (z 2 (by decide)), if_neg (z 3 (by decide)), if_neg (z 4 (by decide)), if_neg (z 5 (by decide)), if_neg (z 7 (by decide)), if_neg (fun y => y.elim (z 6 (by decide)) (z 8 (by decide))), if_neg (z 14 (by decide))]
         exact e6)
set_option maxRecDepth 20000 in
theorem c_M_tells {h f : Int32} {M : Mem} {σ : St} (hI : InvR M σ) : Ct lyR y_M_tells b_M_tells 4 (some .int) 1 [.ref 0, .int h, .int f] M (Pi fun r M' => r = sp_tells h f σ ∧ InvR M' σ) := by
  have hS := hI.1
  have n24 := hS.n24
  have h5 := hS.2.2.1
  obtain ⟨k1, k2, k3, k4, k5⟩ := hS.cdc
  have hh8 := hI.2.2.2.1
  refine Ct.ofG mx_M_tells [some (.ref 0), some (.int h), some (.int f), none] rfl rfl (Nat.le_of_ble_eq_true rfl) (fun κ C hQ => ?_)
  refine u_iload_n (pc := 0) C d_M_tells_0 rfl ?_
  refine u_iconst (pc := 1) (v := 0) C d_M_tells_1 (by decide) ?_
  refine u_bipush (pc := 2) (v := 7) C d_M_tells_2 (by decide) ?_
  refine u_callSi (pc := 4) C d_M_tells_4 mx_M_in mw_M_73 (c_M_in) rfl rfl (Nat.le_of_ble_eq_true rfl) (fun r4 M4 q4 => ?_)
  obtain ⟨e4, q4⟩ := q4
  have q4 := q4.symm
  subst q4
  refine u_if_eq (pc := 7) (tgt := 19) C d_M_tells_7 rfl (fun c7 => ?_) (fun c7 => ?_)
  · refine u_iconst (pc := 19) (v := (-1)) C d_M_tells_19 (by decide) ?_
    refine u_iret (pc := 20) C d_M_tells_20 (hQ _ _ ⟨_, rfl, ?_⟩)
    rw [e4] at c7
    refine ⟨?_, hI⟩
    rcases in_n c7 with q | q
    · rw [sp_tells, if_pos q]
    · have h0 : ¬ h < 0 := fun z => by
        have a1 := Int32.lt_iff_toInt_lt.mp z
        have a2 := Int32.lt_iff_toInt_lt.mp q
        have a0 : (0 : Int32).toInt = 0 := by decide
        have a7 : (7 : Int32).toInt = 7 := by decide
        omega
      have h8 : (8 : Int32) ≤ h := by
        have a2 := Int32.lt_iff_toInt_lt.mp q
        have a8 : (8 : Int32).toInt = 8 := by decide
        have a7 : (7 : Int32).toInt = 7 := by decide
        rw [Int32.le_iff_toInt_le]
        omega
      rw [sp_tells, if_neg h0, if_pos h8]
  · rw [e4] at c7
    obtain ⟨t, ht7, rfl⟩ := inN (n := 7) rfl (by decide) c7
    have htl : (nI t).toNatClampNeg = t := nI_clamp (by omega)
    have htp : ¬ nI t < 0 := nI_pos (by omega)
    have ht8 : ¬ 8 ≤ nI t := nI_ge (b := 8) (by omega) (by decide)
    have hht := hh8 t (by omega)
    refine u_iload_n (pc := 10) C d_M_tells_10 rfl ?_
    refine u_iconst (pc := 11) (v := 0) C d_M_tells_11 (by decide) ?_
    refine u_iconst (pc := 12) (v := 4) C d_M_tells_12 (by decide) ?_
    refine u_callSi (pc := 13) C d_M_tells_13 mx_M_in mw_M_73 (c_M_in) rfl rfl (Nat.le_of_ble_eq_true rfl) (fun r13 M13 q13 => ?_)
    obtain ⟨e13, q13⟩ := q13
    have q13 := q13.symm
    subst q13
    refine u_if_ne (pc := 16) (tgt := 21) C d_M_tells_16 rfl (fun c16 => ?_) (fun c16 => ?_)
    · rw [e13] at c16
      have hf0 := (in_y c16).1
      have hf4 := (in_y c16).2
      refine u_aload_n (pc := 21) C d_M_tells_21 rfl ?_
      refine u_getr (pc := 22) (r := 221) C d_M_tells_22 fw_M_55 sR_0 rfl rfl ?_
      refine u_iload_n (pc := 25) C d_M_tells_25 rfl ?_
      refine u_iald (pc := 26) C d_M_tells_26 sR_221 (vp_in_nI (by omega) (by decide)) ?_
      refine u_istore_n (pc := 27) C d_M_tells_27 rfl (fun x27 e27 L9 hL9 => ?_)
      obtain rfl : L9 = [some (.ref 0), some (.int (nI t)), some (.int f), some (.int x27)] := hL9.symm
      refine u_iload_n (pc := 28) C d_M_tells_28 rfl ?_
      refine u_if_ge (pc := 29) (tgt := 35) C d_M_tells_29 rfl (fun c29 => ?_) (fun c29 => ?_)
      · obtain ⟨d, hsd, hd, ex⟩ : ∃ d, σ.2.2.2.1 t = some d ∧ d < σ.1.2.1 ∧ x27 = nI d := by
          cases hs : σ.2.2.2.1 t with
          | none =>
            rw [hs] at hht
            simp only [] at hht
            rw [e27, htl, hht] at c29
            exact absurd (show ¬ (0 : Int32) ≤ -1 by decide) (fun y => y c29)
          | some d =>
            rw [hs] at hht
            simp only [] at hht
            exact ⟨d, rfl, hht.2, by rw [e27, htl]; exact hht.1⟩
        subst ex
        have d24 : d < 24 := by omega
        have dcl : (nI d).toNatClampNeg = d := nI_clamp (by omega)
        refine u_iload_n (pc := 35) C d_M_tells_35 rfl ?_
        refine u_if_eq (pc := 36) (tgt := 55) C d_M_tells_36 rfl (fun c36 => ?_) (fun c36 => ?_)
        · refine u_bipush (pc := 55) (v := 100) C d_M_tells_55 (by decide) ?_
          refine u_iload_n (pc := 57) C d_M_tells_57 rfl ?_
          refine u_if_ne (pc := 58) (tgt := 70) C d_M_tells_58 rfl (fun c58 => ?_) (fun c58 => ?_)
          · exact absurd c36 c58
          · refine u_aload_n (pc := 61) C d_M_tells_61 rfl ?_
            refine u_getr (pc := 62) (r := 1) C d_M_tells_62 fw_M_9 sR_0 rfl rfl ?_
            refine u_iload_n (pc := 65) C d_M_tells_65 rfl ?_
            refine u_iald (pc := 66) C d_M_tells_66 sR_1 (vp24 d24) ?_
            refine u_goto (pc := 67) (tgt := 75) C d_M_tells_67 rfl ?_
            refine u_iadd (pc := 75) C d_M_tells_75 ?_
            refine u_iret (pc := 76) C d_M_tells_76 (hQ _ _ ⟨_, rfl, ?_⟩)
            refine ⟨?_, hI⟩
            rw [sp_tells, if_neg htp, if_neg ht8, if_neg hf0, if_neg hf4, htl, hsd]
            simp only []
            rw [if_pos c58, k1, dcl]
        · refine u_aload_n (pc := 39) C d_M_tells_39 rfl ?_
          refine u_getr (pc := 40) (r := 1) C d_M_tells_40 fw_M_9 sR_0 rfl rfl ?_
          refine u_iload_n (pc := 43) C d_M_tells_43 rfl ?_
          refine u_iald (pc := 44) C d_M_tells_44 sR_1 (vp24 d24) ?_
          refine u_callSi (pc := 45) C d_M_tells_45 mx_M_familyOf mw_M_314 (c_M_familyOf) rfl rfl (Nat.le_of_ble_eq_true rfl) (fun r45 M45 q45 => ?_)
          obtain ⟨e45, q45⟩ := q45
          have q45 := q45.symm
          subst q45
          refine u_iload_n (pc := 48) C d_M_tells_48 rfl ?_
          refine u_icmp_eq (pc := 49) (tgt := 55) C d_M_tells_49 rfl (fun c49 => ?_) (fun c49 => ?_)
          · refine u_bipush (pc := 55) (v := 100) C d_M_tells_55 (by decide) ?_
            refine u_iload_n (pc := 57) C d_M_tells_57 rfl ?_
            refine u_if_ne (pc := 58) (tgt := 70) C d_M_tells_58 rfl (fun c58 => ?_) (fun c58 => ?_)
            · refine u_aload_n (pc := 70) C d_M_tells_70 rfl ?_
              refine u_iload_n (pc := 71) C d_M_tells_71 rfl ?_
              refine u_callVi (pc := 72) C d_M_tells_72 mx_M_toldBy mw_M_317 sR_0 rfl (c_M_toldBy hS hd) rfl rfl (Nat.le_of_ble_eq_true rfl) (fun r72 M72 q72 => ?_)
              obtain ⟨e72, q72⟩ := q72
              have q72 := q72.symm
              subst q72
              refine u_iadd (pc := 75) C d_M_tells_75 ?_
              refine u_iret (pc := 76) C d_M_tells_76 (hQ _ _ ⟨_, rfl, ?_⟩)
              refine ⟨?_, hI⟩
              rw [sp_tells, if_neg htp, if_neg ht8, if_neg hf0, if_neg hf4, htl, hsd]
              simp only []
              rw [e45, k1, dcl] at c49
              rw [if_neg c36, if_pos c49.symm, e72, tell_eq hS.1.1.2 hd]
            · exact absurd c58 c36
          · refine u_bipush (pc := 52) (v := (-12)) C d_M_tells_52 (by decide) ?_
            refine u_iret (pc := 54) C d_M_tells_54 (hQ _ _ ⟨_, rfl, ?_⟩)
            refine ⟨?_, hI⟩
            rw [e45, k1, dcl] at c49
            rw [sp_tells, if_neg htp, if_neg ht8, if_neg hf0, if_neg hf4, htl, hsd]
            simp only []
            rw [if_neg c36, if_neg (fun z => c49 z.symm)]
      · refine u_bipush (pc := 32) (v := (-11)) C d_M_tells_32 (by decide) ?_
        refine u_iret (pc := 34) C d_M_tells_34 (hQ _ _ ⟨_, rfl, ?_⟩)
        refine ⟨?_, hI⟩
        rw [sp_tells, if_neg htp, if_neg ht8, if_neg hf0, if_neg hf4, htl]
        cases hs : σ.2.2.2.1 t with
        | none => rfl
        | some d =>
          rw [hs] at hht
          simp only [] at hht
          rw [e27, htl, hht.1] at c29
          exact absurd (nI_pos' (n := d) (by omega)) c29
    · refine u_iconst (pc := 19) (v := (-1)) C d_M_tells_19 (by decide) ?_
      refine u_iret (pc := 20) C d_M_tells_20 (hQ _ _ ⟨_, rfl, ?_⟩)
      rw [e13] at c16
      refine ⟨?_, hI⟩
      rcases in_n c16 with q | q
      · rw [sp_tells, if_neg htp, if_neg ht8, if_pos q]
      · rw [sp_tells, if_neg htp, if_neg ht8]
        by_cases hz : f < 0
        · rw [if_pos hz]
        · rw [if_neg hz, if_pos q]
