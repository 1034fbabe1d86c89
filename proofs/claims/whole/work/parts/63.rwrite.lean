/-! the reference: calls that change -/
theorem InvR.gm {M M' : Mem} {σ : St} {g : Gm} (h : InvR M σ) (ho : OfR gR M M') (hw : WFg σ.1.1 σ.1.2.1 g σ.1.2.2.2) (hf : FG (M'.1 6) g σ.1.2.2.2) : InvR M' (setG σ g) :=
  h.mk (s := (g, σ.1.2.2.2)) (ho.mono (fun p j => g_th)) (h.1.row ho hw hf) (h.2.2.2.2.2.1.g ho)
theorem WFg.deal {cd : Nat → Nat → Int32} {n c : Nat} {g : Gm} {tb : List Nat} (h : WFg cd n g tb) (hc : c < n) (h0 : g 3 c = 0) : WFg cd n (up2 g 3 c 1) tb :=
  h.place (p := 1) hc (by rw [h0]; decide) (by decide) (by decide) (fun z => by rw [h0] at z; exact absurd z (by decide)) (h.offpile hc (by rw [h0]; decide))
theorem in99 {x : Int32} (h : ¬ inF x (-99) 99 = 0) : ¬ x < -99 ∧ x ≤ 99 := ⟨(in_y h).1, Int32.not_lt.mp (in_y h).2⟩
theorem in99b {x : Int32} (h : ¬ inF x (-99) 99 = 0) : -99 ≤ x.toInt ∧ x.toInt ≤ 99 := by
  obtain ⟨h1, h2⟩ := in99 h
  have a := Int32.le_iff_toInt_le.mp (Int32.not_lt.mp h1)
  have b := Int32.le_iff_toInt_le.mp h2
  have e1 : (-99 : Int32).toInt = -99 := by decide
  have e2 : (99 : Int32).toInt = 99 := by decide
  omega
theorem WFg.baseR {cd : Nat → Nat → Int32} {n v : Nat} {g : Gm} {tb : List Nat} {x : Int32} (h : WFg cd n g tb) (hx : -99 ≤ x.toInt ∧ x.toInt ≤ 99) : WFg cd n (up2 g 5 v x) tb := by
  obtain ⟨a1, a2, a3, a4, ⟨cl, d1, d2, d3⟩, a6, a7⟩ := h
  refine ⟨a1, a2, a3, a4, ⟨cl, d1, by rw [tc_eq (g := up2 g 5 v x) (h := g) (fun _ _ => rfl)]; exact d2, d3⟩, a6, fun w hw => ?_⟩
  by_cases e : w = v
  · subst e; rw [up2_e]; exact hx
  · rw [up2_n e]; exact a7 w hw
theorem WFg.lifeR {cd : Nat → Nat → Int32} {n p : Nat} {g : Gm} {tb : List Nat} {x : Int32} (h : WFg cd n g tb) : WFg cd n (up2 g 0 p x) tb :=
  h.keep (up2_s (by decide)) (up2_s (by decide)) (up2_s (by decide)) (up2_s (by decide)) (by rw [up2_s (by decide)]) (by rw [up2_s (by decide)]) (by rw [up2_s (by decide)])
set_option maxRecDepth 20000 in
theorem c_M_seed {v : Int32} {M : Mem} {σ : St} (hI : InvR M σ) : Ct lyR y_M_seed b_M_seed 3 (some .int) 0 [.ref 0, .int v] M (Pi fun r M' => r = (sp_seed v σ).1 ∧ InvR M' (sp_seed v σ).2) := by
  have hS := hI.1
  have n24 := hS.n24
  have h5 := hS.2.2.1
  obtain ⟨k1, k2, k3, k4, k5⟩ := hS.cdc
  refine Ct.ofG mx_M_seed [some (.ref 0), some (.int v), none] rfl rfl (Nat.le_of_ble_eq_true rfl) (fun κ C hQ => ?_)
  refine u_aload_n (pc := 0) C d_M_seed_0 rfl ?_
  refine u_getr (pc := 1) (r := 6) C d_M_seed_1 fw_M_25 sR_0 rfl rfl ?_
  refine u_iconst (pc := 4) (v := 3) C d_M_seed_4 (by decide) ?_
  refine u_iald (pc := 5) C d_M_seed_5 sR_6 v3 ?_
  refine u_istore_n (pc := 6) C d_M_seed_6 rfl (fun x6 e6 L9 hL9 => ?_)
  obtain rfl : L9 = [some (.ref 0), some (.int v), some (.int x6)] := hL9.symm
  refine u_aload_n (pc := 7) C d_M_seed_7 rfl ?_
  refine u_getr (pc := 8) (r := 6) C d_M_seed_8 fw_M_25 sR_0 rfl rfl ?_
  refine u_iconst (pc := 11) (v := 3) C d_M_seed_11 (by decide) ?_
  refine u_iload_n (pc := 12) C d_M_seed_12 rfl ?_
  refine u_iast (pc := 13) C d_M_seed_13 sR_6 v3 ?_
  refine u_iload_n (pc := 14) C d_M_seed_14 rfl ?_
  refine u_iret (pc := 15) C d_M_seed_15 (hQ _ _ ⟨_, rfl, ?_⟩)
  rw [cl3] at e6
  rw [cl3, sp_seed]
  exact ⟨by rw [e6, hS.2.2.2.2.1.2.1], hI.gm ofg (hS.1.seed v) (by rw [up_r6]; exact hS.2.2.2.seed)⟩
set_option maxRecDepth 20000 in
theorem c_M_deal {c : Int32} {M : Mem} {σ : St} (hI : InvR M σ) : Ct lyR y_M_deal b_M_deal 2 (some .int) 2 [.ref 0, .int c] M (Pi fun r M' => r = (sp_deal c σ).1 ∧ InvR M' (sp_deal c σ).2) := by
  have hS := hI.1
  have n24 := hS.n24
  have h5 := hS.2.2.1
  obtain ⟨k1, k2, k3, k4, k5⟩ := hS.cdc
  refine Ct.ofG mx_M_deal [some (.ref 0), some (.int c)] rfl rfl (Nat.le_of_ble_eq_true rfl) (fun κ C hQ => ?_)
  refine u_aload_n (pc := 0) C d_M_deal_0 rfl ?_
  refine u_iload_n (pc := 1) C d_M_deal_1 rfl ?_
  refine u_callVi (pc := 2) C d_M_deal_2 mx_M_isCard mw_M_160 sR_0 rfl (c_M_isCard h5 n24) rfl rfl (Nat.le_of_ble_eq_true rfl) (fun r2 M2 q2 => ?_)
  obtain ⟨e2, q2⟩ := q2
  have q2 := q2.symm
  subst q2
  refine u_if_ne (pc := 5) (tgt := 10) C d_M_deal_5 rfl (fun c5 => ?_) (fun c5 => ?_)
  · rw [e2] at c5
    obtain ⟨d, hd, rfl⟩ := has_ix c5 n24
    have d24 : d < 24 := by omega
    have dcl : (nI d).toNatClampNeg = d := nI_clamp (by omega)
    refine u_aload_n (pc := 10) C d_M_deal_10 rfl ?_
    refine u_iload_n (pc := 11) C d_M_deal_11 rfl ?_
    refine u_iconst (pc := 12) (v := 0) C d_M_deal_12 (by decide) ?_
    refine u_callVi (pc := 13) C d_M_deal_13 mx_M_isAt mw_M_164 sR_0 rfl (c_M_isAt d24) rfl rfl (Nat.le_of_ble_eq_true rfl) (fun r13 M13 q13 => ?_)
    obtain ⟨e13, q13⟩ := q13
    have q13 := q13.symm
    subst q13
    refine u_if_ne (pc := 16) (tgt := 22) C d_M_deal_16 rfl (fun c16 => ?_) (fun c16 => ?_)
    · refine u_aload_n (pc := 22) C d_M_deal_22 rfl ?_
      refine u_getr (pc := 23) (r := 6) C d_M_deal_23 fw_M_25 sR_0 rfl rfl ?_
      refine u_bipush (pc := 26) (v := 71) C d_M_deal_26 (by decide) ?_
      refine u_iload_n (pc := 28) C d_M_deal_28 rfl ?_
      refine u_iadd (pc := 29) C d_M_deal_29 ?_
      refine u_iconst (pc := 30) (v := 1) C d_M_deal_30 (by decide) ?_
      refine u_iast (pc := 31) C d_M_deal_31 sR_6 (vp71 d24) ?_
      refine u_iconst (pc := 32) (v := 1) C d_M_deal_32 (by decide) ?_
      refine u_iret (pc := 33) C d_M_deal_33 (hQ _ _ ⟨_, rfl, ?_⟩)
      rw [hS.wh d24] at e13
      have h0 := one_of e13 c16
      rw [sp_deal, if_neg c5, dcl, if_pos h0, ix71 d24]
      exact ⟨rfl, hI.gm ofg (hS.1.deal hd h0) (by rw [up_r6]; exact hS.2.2.2.where d24)⟩
    · refine u_bipush (pc := 19) (v := (-5)) C d_M_deal_19 (by decide) ?_
      refine u_iret (pc := 21) C d_M_deal_21 (hQ _ _ ⟨_, rfl, ?_⟩)
      rw [hS.wh d24] at e13
      rw [sp_deal, if_neg c5, dcl, if_neg (zero_of e13 c16)]
      exact ⟨rfl, hI⟩
  · refine u_iconst (pc := 8) (v := (-1)) C d_M_deal_8 (by decide) ?_
    refine u_iret (pc := 9) C d_M_deal_9 (hQ _ _ ⟨_, rfl, ?_⟩)
    rw [e2] at c5
    rw [sp_deal, if_pos c5]
    exact ⟨rfl, hI⟩
set_option maxRecDepth 20000 in
theorem c_M_base {v x : Int32} {M : Mem} {σ : St} (hI : InvR M σ) : Ct lyR y_M_base b_M_base 4 (some .int) 1 [.ref 0, .int v, .int x] M (Pi fun r M' => r = (sp_base v x σ).1 ∧ InvR M' (sp_base v x σ).2) := by
  have hS := hI.1
  have n24 := hS.n24
  have h5 := hS.2.2.1
  obtain ⟨k1, k2, k3, k4, k5⟩ := hS.cdc
  refine Ct.ofG mx_M_base [some (.ref 0), some (.int v), some (.int x), none] rfl rfl (Nat.le_of_ble_eq_true rfl) (fun κ C hQ => ?_)
  refine u_iload_n (pc := 0) C d_M_base_0 rfl ?_
  refine u_iconst (pc := 1) (v := 0) C d_M_base_1 (by decide) ?_
  refine u_iconst (pc := 2) (v := 3) C d_M_base_2 (by decide) ?_
  refine u_callSi (pc := 3) C d_M_base_3 mx_M_in mw_M_73 (c_M_in) rfl rfl (Nat.le_of_ble_eq_true rfl) (fun r3 M3 q3 => ?_)
  obtain ⟨e3, q3⟩ := q3
  have q3 := q3.symm
  subst q3
  refine u_if_eq (pc := 6) (tgt := 20) C d_M_base_6 rfl (fun c6 => ?_) (fun c6 => ?_)
  · refine u_ldc (pc := 20) C (mc_M_167) d_M_base_20 ?_
    refine u_iret (pc := 22) C d_M_base_22 (hQ _ _ ⟨_, rfl, ?_⟩)
    rw [e3] at c6
    have e9 : sp_base v x σ = (-2000000000, σ) := by
      rcases in_n c6 with q | q
      · rw [sp_base, if_pos q]
      · have h0 : ¬ v < 0 := fun z => by
          have a1 := Int32.lt_iff_toInt_lt.mp z
          have a2 := Int32.lt_iff_toInt_lt.mp q
          have a0 : (0 : Int32).toInt = 0 := by decide
          have a7 : (3 : Int32).toInt = 3 := by decide
          omega
        have h8 : (4 : Int32) ≤ v := by
          have a2 := Int32.lt_iff_toInt_lt.mp q
          have a8 : (4 : Int32).toInt = 4 := by decide
          have a7 : (3 : Int32).toInt = 3 := by decide
          rw [Int32.le_iff_toInt_le]
          omega
        rw [sp_base, if_neg h0, if_pos h8]
    rw [e9]
    exact ⟨rfl, hI⟩
  · rw [e3] at c6
    obtain ⟨j, hj3, rfl⟩ := inN (n := 3) rfl (by decide) c6
    have hj4 : j < 4 := by omega
    have jcl : (nI j).toNatClampNeg = j := nI_clamp (by omega)
    have j0 : ¬ nI j < 0 := nI_pos (by omega)
    have j4 : ¬ 4 ≤ nI j := nI_ge (b := 4) hj4 (by decide)
    refine u_iload_n (pc := 9) C d_M_base_9 rfl ?_
    refine u_bipush (pc := 10) (v := (-99)) C d_M_base_10 (by decide) ?_
    refine u_bipush (pc := 12) (v := 99) C d_M_base_12 (by decide) ?_
    refine u_callSi (pc := 14) C d_M_base_14 mx_M_in mw_M_73 (c_M_in) rfl rfl (Nat.le_of_ble_eq_true rfl) (fun r14 M14 q14 => ?_)
    obtain ⟨e14, q14⟩ := q14
    have q14 := q14.symm
    subst q14
    refine u_if_ne (pc := 17) (tgt := 23) C d_M_base_17 rfl (fun c17 => ?_) (fun c17 => ?_)
    · rw [e14] at c17
      obtain ⟨a1, a2⟩ := in99 c17
      refine u_aload_n (pc := 23) C d_M_base_23 rfl ?_
      refine u_getr (pc := 24) (r := 6) C d_M_base_24 fw_M_25 sR_0 rfl rfl ?_
      refine u_bipush (pc := 27) (v := 119) C d_M_base_27 (by decide) ?_
      refine u_iload_n (pc := 29) C d_M_base_29 rfl ?_
      refine u_iadd (pc := 30) C d_M_base_30 ?_
      refine u_iald (pc := 31) C d_M_base_31 sR_6 (vp119 hj4) ?_
      refine u_istore_n (pc := 32) C d_M_base_32 rfl (fun x32 e32 L9 hL9 => ?_)
      obtain rfl : L9 = [some (.ref 0), some (.int (nI j)), some (.int x), some (.int x32)] := hL9.symm
      refine u_aload_n (pc := 33) C d_M_base_33 rfl ?_
      refine u_getr (pc := 34) (r := 6) C d_M_base_34 fw_M_25 sR_0 rfl rfl ?_
      refine u_bipush (pc := 37) (v := 119) C d_M_base_37 (by decide) ?_
      refine u_iload_n (pc := 39) C d_M_base_39 rfl ?_
      refine u_iadd (pc := 40) C d_M_base_40 ?_
      refine u_iload_n (pc := 41) C d_M_base_41 rfl ?_
      refine u_iast (pc := 42) C d_M_base_42 sR_6 (vp119 hj4) ?_
      refine u_iload_n (pc := 43) C d_M_base_43 rfl ?_
      refine u_iret (pc := 44) C d_M_base_44 (hQ _ _ ⟨_, rfl, ?_⟩)
      rw [ix119 hj4, hS.ba hj4] at e32
      rw [sp_base, if_neg j0, if_neg j4, if_neg a1, if_pos a2, jcl, ix119 hj4]
      exact ⟨e32, hI.gm ofg (hS.1.baseR (in99b c17)) (by rw [up_r6]; exact hS.2.2.2.base hj4)⟩
    · refine u_ldc (pc := 20) C (mc_M_167) d_M_base_20 ?_
      refine u_iret (pc := 22) C d_M_base_22 (hQ _ _ ⟨_, rfl, ?_⟩)
      rw [e14] at c17
      have e9 : sp_base (nI j) x σ = (-2000000000, σ) := by
        rcases in_n c17 with q | q
        · rw [sp_base, if_neg j0, if_neg j4, if_pos q]
        · rw [sp_base, if_neg j0, if_neg j4]
          by_cases hz : x < -99
          · rw [if_pos hz]
          · rw [if_neg hz, if_neg (Int32.not_le.mpr q)]
      rw [e9]
      exact ⟨rfl, hI⟩
set_option maxRecDepth 20000 in
theorem c_M_mend {p x : Int32} {M : Mem} {σ : St} (hI : InvR M σ) : Ct lyR y_M_mend b_M_mend 4 (some .int) 1 [.ref 0, .int p, .int x] M (Pi fun r M' => r = (sp_mend p x σ).1 ∧ InvR M' (sp_mend p x σ).2) := by
  have hS := hI.1
  have n24 := hS.n24
  have h5 := hS.2.2.1
  obtain ⟨k1, k2, k3, k4, k5⟩ := hS.cdc
  refine Ct.ofG mx_M_mend [some (.ref 0), some (.int p), some (.int x), none] rfl rfl (Nat.le_of_ble_eq_true rfl) (fun κ C hQ => ?_)
  refine u_iload_n (pc := 0) C d_M_mend_0 rfl ?_
  refine u_iconst (pc := 1) (v := 0) C d_M_mend_1 (by decide) ?_
  refine u_iconst (pc := 2) (v := 1) C d_M_mend_2 (by decide) ?_
  refine u_callSi (pc := 3) C d_M_mend_3 mx_M_in mw_M_73 (c_M_in) rfl rfl (Nat.le_of_ble_eq_true rfl) (fun r3 M3 q3 => ?_)
  obtain ⟨e3, q3⟩ := q3
  have q3 := q3.symm
  subst q3
  refine u_if_eq (pc := 6) (tgt := 20) C d_M_mend_6 rfl (fun c6 => ?_) (fun c6 => ?_)
  · refine u_ldc (pc := 20) C (mc_M_167) d_M_mend_20 ?_
    refine u_iret (pc := 22) C d_M_mend_22 (hQ _ _ ⟨_, rfl, ?_⟩)
    rw [e3] at c6
    rw [sp_mend, if_neg (in01n c6)]
    exact ⟨rfl, hI⟩
  · rw [e3] at c6
    have hp := in01 c6
    obtain ⟨hp9, hp2, hp3⟩ := pl01 hp
    refine u_iload_n (pc := 9) C d_M_mend_9 rfl ?_
    refine u_bipush (pc := 10) (v := (-99)) C d_M_mend_10 (by decide) ?_
    refine u_bipush (pc := 12) (v := 99) C d_M_mend_12 (by decide) ?_
    refine u_callSi (pc := 14) C d_M_mend_14 mx_M_in mw_M_73 (c_M_in) rfl rfl (Nat.le_of_ble_eq_true rfl) (fun r14 M14 q14 => ?_)
    obtain ⟨e14, q14⟩ := q14
    have q14 := q14.symm
    subst q14
    refine u_if_ne (pc := 17) (tgt := 23) C d_M_mend_17 rfl (fun c17 => ?_) (fun c17 => ?_)
    · rw [e14] at c17
      obtain ⟨a1, a2⟩ := in99 c17
      refine u_aload_n (pc := 23) C d_M_mend_23 rfl ?_
      refine u_getr (pc := 24) (r := 6) C d_M_mend_24 fw_M_25 sR_0 rfl rfl ?_
      refine u_iconst (pc := 27) (v := 0) C d_M_mend_27 (by decide) ?_
      refine u_iload_n (pc := 28) C d_M_mend_28 rfl ?_
      refine u_iadd (pc := 29) C d_M_mend_29 ?_
      refine u_iald (pc := 30) C d_M_mend_30 sR_6 (p_pix hp).2 ?_
      refine u_istore_n (pc := 31) C d_M_mend_31 rfl (fun x31 e31 L9 hL9 => ?_)
      obtain rfl : L9 = [some (.ref 0), some (.int p), some (.int x), some (.int x31)] := hL9.symm
      refine u_aload_n (pc := 32) C d_M_mend_32 rfl ?_
      refine u_getr (pc := 33) (r := 6) C d_M_mend_33 fw_M_25 sR_0 rfl rfl ?_
      refine u_iconst (pc := 36) (v := 0) C d_M_mend_36 (by decide) ?_
      refine u_iload_n (pc := 37) C d_M_mend_37 rfl ?_
      refine u_iadd (pc := 38) C d_M_mend_38 ?_
      refine u_iload_n (pc := 39) C d_M_mend_39 rfl ?_
      refine u_iast (pc := 40) C d_M_mend_40 sR_6 (p_pix hp).2 ?_
      refine u_iload_n (pc := 41) C d_M_mend_41 rfl ?_
      refine u_iret (pc := 42) C d_M_mend_42 (hQ _ _ ⟨_, rfl, ?_⟩)
      rw [(p_pix hp).1, hS.li hp] at e31
      rw [sp_mend, if_pos hp, if_neg a1, if_pos a2, (p_pix hp).1]
      exact ⟨e31, hI.gm ofg hS.1.lifeR (by rw [up_r6]; exact hS.2.2.2.life hp2)⟩
    · refine u_ldc (pc := 20) C (mc_M_167) d_M_mend_20 ?_
      refine u_iret (pc := 22) C d_M_mend_22 (hQ _ _ ⟨_, rfl, ?_⟩)
      rw [e14] at c17
      have e9 : sp_mend p x σ = (-2000000000, σ) := by
        rcases in_n c17 with q | q
        · rw [sp_mend, if_pos hp, if_pos q]
        · rw [sp_mend, if_pos hp]
          by_cases hz : x < -99
          · rw [if_pos hz]
          · rw [if_neg hz, if_neg (Int32.not_le.mpr q)]
      rw [e9]
      exact ⟨rfl, hI⟩
set_option maxRecDepth 20000 in
theorem c_M_play {c : Int32} {M : Mem} {σ : St} (hI : InvR M σ) : Ct lyR y_M_play b_M_play 2 (some .int) 2 [.ref 0, .int c] M (Pi fun r M' => r = (sp_play c σ).1 ∧ InvR M' (sp_play c σ).2) := by
  have hS := hI.1
  have n24 := hS.n24
  have h5 := hS.2.2.1
  obtain ⟨k1, k2, k3, k4, k5⟩ := hS.cdc
  obtain ⟨h, hh64, hh4⟩ := hS.1.hb
  have hm : M.1 6 6 = nI h := by rw [← hh4]; exact hS.many
  refine Ct.ofG mx_M_play [some (.ref 0), some (.int c)] rfl rfl (Nat.le_of_ble_eq_true rfl) (fun κ C hQ => ?_)
  refine u_aload_n (pc := 0) C d_M_play_0 rfl ?_
  refine u_iload_n (pc := 1) C d_M_play_1 rfl ?_
  refine u_callVi (pc := 2) C d_M_play_2 mx_M_isCard mw_M_160 sR_0 rfl (c_M_isCard h5 n24) rfl rfl (Nat.le_of_ble_eq_true rfl) (fun r2 M2 q2 => ?_)
  obtain ⟨e2, q2⟩ := q2
  have q2 := q2.symm
  subst q2
  refine u_if_ne (pc := 5) (tgt := 10) C d_M_play_5 rfl (fun c5 => ?_) (fun c5 => ?_)
  · rw [e2] at c5
    obtain ⟨d, hd, rfl⟩ := has_ix c5 n24
    have d24 : d < 24 := by omega
    have dcl : (nI d).toNatClampNeg = d := nI_clamp (by omega)
    refine u_aload_n (pc := 10) C d_M_play_10 rfl ?_
    refine u_iload_n (pc := 11) C d_M_play_11 rfl ?_
    refine u_iconst (pc := 12) (v := 1) C d_M_play_12 (by decide) ?_
    refine u_callVi (pc := 13) C d_M_play_13 mx_M_isAt mw_M_164 sR_0 rfl (c_M_isAt d24) rfl rfl (Nat.le_of_ble_eq_true rfl) (fun r13 M13 q13 => ?_)
    obtain ⟨e13, q13⟩ := q13
    have q13 := q13.symm
    subst q13
    refine u_if_ne (pc := 16) (tgt := 22) C d_M_play_16 rfl (fun c16 => ?_) (fun c16 => ?_)
    · rw [hS.wh d24] at e13
      have h1 := one_of e13 c16
      refine u_aload_n (pc := 22) C d_M_play_22 rfl ?_
      refine u_getr (pc := 23) (r := 6) C d_M_play_23 fw_M_25 sR_0 rfl rfl ?_
      refine u_bipush (pc := 26) (v := 6) C d_M_play_26 (by decide) ?_
      refine u_iald (pc := 28) C d_M_play_28 sR_6 v6 ?_
      refine u_bipush (pc := 29) (v := 64) C d_M_play_29 (by decide) ?_
      refine u_icmp_ne (pc := 31) (tgt := 37) C d_M_play_31 rfl (fun c31 => ?_) (fun c31 => ?_)
      · refine u_aload_n (pc := 37) C d_M_play_37 rfl ?_
        refine u_iload_n (pc := 38) C d_M_play_38 rfl ?_
        refine u_callVv (pc := 39) C d_M_play_39 mx_M_playIt mw_M_247 sR_0 rfl (c_M_playIt hS hd h1) rfl rfl (Nat.le_of_ble_eq_true rfl) (fun M39 q39 => ?_)
        obtain ⟨hSp, op⟩ := q39
        refine u_aload_n (pc := 42) C d_M_play_42 rfl ?_
        refine u_getr (pc := 43) (r := 6) C d_M_play_43 fw_M_25 sR_0 rfl rfl ?_
        refine u_bipush (pc := 46) (v := 6) C d_M_play_46 (by decide) ?_
        refine u_iald (pc := 48) C d_M_play_48 sR_6 v6 ?_
        refine u_iret (pc := 49) C d_M_play_49 (hQ _ _ ⟨_, rfl, ?_⟩)
        rw [cl6, hm] at c31
        have hq : h < 64 := by
          rcases Nat.lt_or_ge h 64 with z | z
          · exact z
          · exact absurd (by rw [show h = 64 by omega]; rfl) c31
        have hnl : σ.1.2.2.1 1 4 < 64 := by rw [hh4]; exact nI_lt (b := 64) hq (by decide)
        rw [sp_play, if_neg c5, dcl, if_pos h1, if_pos hnl, cl6, hSp.many]
        refine ⟨?_, hI.gm op hSp.1 hSp.2.2.2⟩
        show up2 (psh σ.1.2.2.1 (nI d)) 3 d 2 1 4 = _
        rw [up2_s (by decide), psh_def, if_pos hnl, up2_e]
      · refine u_bipush (pc := 34) (v := (-3)) C d_M_play_34 (by decide) ?_
        refine u_iret (pc := 36) C d_M_play_36 (hQ _ _ ⟨_, rfl, ?_⟩)
        rw [cl6, hm] at c31
        have hq : h = 64 := (nI_eq (b := 64) (by omega) (by decide)).mp c31
        have hnl : ¬ σ.1.2.2.1 1 4 < 64 := by rw [hh4]; exact nI_nlt (b := 64) (by omega) (by omega)
        rw [sp_play, if_neg c5, dcl, if_pos h1, if_neg hnl]
        exact ⟨rfl, hI⟩
    · refine u_bipush (pc := 19) (v := (-5)) C d_M_play_19 (by decide) ?_
      refine u_iret (pc := 21) C d_M_play_21 (hQ _ _ ⟨_, rfl, ?_⟩)
      rw [hS.wh d24] at e13
      rw [sp_play, if_neg c5, dcl, if_neg (zero_of e13 c16)]
      exact ⟨rfl, hI⟩
  · refine u_iconst (pc := 8) (v := (-1)) C d_M_play_8 (by decide) ?_
    refine u_iret (pc := 9) C d_M_play_9 (hQ _ _ ⟨_, rfl, ?_⟩)
    rw [e2] at c5
    rw [sp_play, if_pos c5]
    exact ⟨rfl, hI⟩
theorem InvR.add {M M' : Mem} {σ : St} {k p vw a : Int32} (hI : InvR M σ) (ho : OfR (fun p j => (1 ≤ p ∧ p ≤ 5) ∨ p = 6 ∨ (p = 0 ∧ j = 5)) M M') (hn : σ.1.2.1 < 24) (hc : WFc (cdU σ.1.1 σ.1.2.1 k p (vw / 10) (remF vw 10) a) (σ.1.2.1 + 1)) (h5 : M'.1 0 5 = nI (σ.1.2.1 + 1)) (hf : FG (M'.1 6) (up2 σ.1.2.2.1 3 σ.1.2.1 0) σ.1.2.2.2) (hcd : CDm M' (cdU σ.1.1 σ.1.2.1 k p (vw / 10) (remF vw 10) a)) : InvR M' (setC σ k p vw a) := by
  obtain ⟨h1, h2, ⟨h3, h4, h5', h6⟩, h7, h8, h9, h10⟩ := hI
  have k0 : ∀ j, j ≠ 5 → M'.1 0 j = M.1 0 j := fun j hj => ho 0 j (fun z => by omega)
  have kp : ∀ p, 7 ≤ p → ∀ j, M'.1 p j = M.1 p j := fun p hp j => ho p j (fun z => by omega)
  refine ⟨⟨h1.1.card hn hc, hcd, h5, hf⟩, ?_, ⟨h3, by rw [k0 20 (by decide)]; exact h4, fun i hi => by rw [kp 220 (by decide)]; exact h5' i hi, h6⟩, fun q hq => ?_, ?_, h9.of ho (fun z => by omega) (fun z => by omega) (fun i z => by omega) (fun i z => by omega), by rw [k0 32 (by decide)]; exact h10⟩
  · show match σ.2.1 with | none => M'.1 0 9 = -1 | some i => M'.1 0 9 = nI i.1 ∧ i.1 ≤ σ.1.2.1 + 1 ∧ WFg (cdU σ.1.1 σ.1.2.1 k p (vw / 10) (remF vw 10) a) i.1 i.2.1 i.2.2 ∧ FG (M'.1 14) i.2.1 i.2.2
    cases hi : σ.2.1 with
    | none => rw [hi] at h2; simp only [] at h2 ⊢; rw [k0 9 (by decide)]; exact h2
    | some i =>
      rw [hi] at h2
      simp only [] at h2 ⊢
      rw [k0 9 (by decide)]
      exact ⟨h2.1, by omega, h2.2.2.1.cdL (fun z c hc => cdU_lo (by omega) z), h2.2.2.2.of_eq (fun j _ => kp 14 (by decide) j)⟩
  · have h7q := h7 q hq
    show match σ.2.2.2.1 q with | none => M'.1 221 q = -1 | some c => M'.1 221 q = nI c ∧ c < σ.1.2.1 + 1
    rw [kp 221 (by decide)]
    cases hc9 : σ.2.2.2.1 q with
    | none => rw [hc9] at h7q; exact h7q
    | some c => rw [hc9] at h7q; simp only [] at h7q ⊢; exact ⟨h7q.1, by omega⟩
  · show M'.1 0 25 = σ.2.2.2.2.1.1 ∧ M'.1 0 26 = σ.2.2.2.2.1.2.1 ∧ M'.1 0 27 = σ.2.2.2.2.1.2.2
    rw [k0 25 (by decide), k0 26 (by decide), k0 27 (by decide)]
    exact h8
set_option maxRecDepth 20000 in
theorem c_M_add {cd : Nat → Nat → Int32} {n : Nat} {M : Mem} {k p v w a : Int32} (hcd : CDm M cd) (h5 : M.1 0 5 = nI n) (hn : n < 24) : Ct lyR y_M_add b_M_add 6 (some .int) 0 [.ref 0, .int k, .int p, .int v, .int w, .int a] M (Pi fun r M' => r = nI n ∧ CDm M' (cdU cd n k p v w a) ∧ M'.1 0 5 = nI (n + 1) ∧ M'.1 6 = upd (upd (M.1 6) (71 + n) 0) (95 + n) 0 ∧ OfR (fun p j => (1 ≤ p ∧ p ≤ 5) ∨ p = 6 ∨ (p = 0 ∧ j = 5)) M M') := by
  refine Ct.ofG mx_M_add [some (.ref 0), some (.int k), some (.int p), some (.int v), some (.int w), some (.int a)] rfl rfl (Nat.le_of_ble_eq_true rfl) (fun κ C hQ => ?_)
  refine u_aload_n (pc := 0) C d_M_add_0 rfl ?_
  refine u_getr (pc := 1) (r := 1) C d_M_add_1 fw_M_9 sR_0 rfl rfl ?_
  refine u_aload_n (pc := 4) C d_M_add_4 rfl ?_
  refine u_geti (pc := 5) C d_M_add_5 fw_M_70 sR_0 rfl ?_
  refine u_iload_n (pc := 8) C d_M_add_8 rfl ?_
  refine u_iast (pc := 9) C d_M_add_9 sR_1 (by rw [h5]; exact vp_in_nI hn (by decide)) ?_
  refine u_aload_n (pc := 10) C d_M_add_10 rfl ?_
  refine u_getr (pc := 11) (r := 2) C d_M_add_11 fw_M_13 sR_0 rfl rfl ?_
  refine u_aload_n (pc := 14) C d_M_add_14 rfl ?_
  refine u_geti (pc := 15) C d_M_add_15 fw_M_70 sR_0 rfl ?_
  refine u_iload_n (pc := 18) C d_M_add_18 rfl ?_
  refine u_iast (pc := 19) C d_M_add_19 sR_2 (by simp only [up_ne (show (0 : Nat) ≠ 1 by decide), up_ne (show (0 : Nat) ≠ 2 by decide), up_ne (show (0 : Nat) ≠ 3 by decide), up_ne (show (0 : Nat) ≠ 4 by decide), up_ne (show (0 : Nat) ≠ 5 by decide), up_ne (show (0 : Nat) ≠ 6 by decide), h5]; exact vp_in_nI hn (by decide)) ?_
  refine u_aload_n (pc := 20) C d_M_add_20 rfl ?_
  refine u_getr (pc := 21) (r := 3) C d_M_add_21 fw_M_16 sR_0 rfl rfl ?_
  refine u_aload_n (pc := 24) C d_M_add_24 rfl ?_
  refine u_geti (pc := 25) C d_M_add_25 fw_M_70 sR_0 rfl ?_
  refine u_iload_n (pc := 28) C d_M_add_28 rfl ?_
  refine u_iast (pc := 29) C d_M_add_29 sR_3 (by simp only [up_ne (show (0 : Nat) ≠ 1 by decide), up_ne (show (0 : Nat) ≠ 2 by decide), up_ne (show (0 : Nat) ≠ 3 by decide), up_ne (show (0 : Nat) ≠ 4 by decide), up_ne (show (0 : Nat) ≠ 5 by decide), up_ne (show (0 : Nat) ≠ 6 by decide), h5]; exact vp_in_nI hn (by decide)) ?_
  refine u_aload_n (pc := 30) C d_M_add_30 rfl ?_
  refine u_getr (pc := 31) (r := 4) C d_M_add_31 fw_M_19 sR_0 rfl rfl ?_
  refine u_aload_n (pc := 34) C d_M_add_34 rfl ?_
  refine u_geti (pc := 35) C d_M_add_35 fw_M_70 sR_0 rfl ?_
  refine u_iload (pc := 38) C d_M_add_38 rfl ?_
  refine u_iast (pc := 40) C d_M_add_40 sR_4 (by simp only [up_ne (show (0 : Nat) ≠ 1 by decide), up_ne (show (0 : Nat) ≠ 2 by decide), up_ne (show (0 : Nat) ≠ 3 by decide), up_ne (show (0 : Nat) ≠ 4 by decide), up_ne (show (0 : Nat) ≠ 5 by decide), up_ne (show (0 : Nat) ≠ 6 by decide), h5]; exact vp_in_nI hn (by decide)) ?_
  refine u_aload_n (pc := 41) C d_M_add_41 rfl ?_
  refine u_getr (pc := 42) (r := 5) C d_M_add_42 fw_M_22 sR_0 rfl rfl ?_
  refine u_aload_n (pc := 45) C d_M_add_45 rfl ?_
  refine u_geti (pc := 46) C d_M_add_46 fw_M_70 sR_0 rfl ?_
  refine u_iload (pc := 49) C d_M_add_49 rfl ?_
  refine u_iast (pc := 51) C d_M_add_51 sR_5 (by simp only [up_ne (show (0 : Nat) ≠ 1 by decide), up_ne (show (0 : Nat) ≠ 2 by decide), up_ne (show (0 : Nat) ≠ 3 by decide), up_ne (show (0 : Nat) ≠ 4 by decide), up_ne (show (0 : Nat) ≠ 5 by decide), up_ne (show (0 : Nat) ≠ 6 by decide), h5]; exact vp_in_nI hn (by decide)) ?_
  refine u_aload_n (pc := 52) C d_M_add_52 rfl ?_
  refine u_getr (pc := 53) (r := 6) C d_M_add_53 fw_M_25 sR_0 rfl rfl ?_
  refine u_bipush (pc := 56) (v := 71) C d_M_add_56 (by decide) ?_
  refine u_aload_n (pc := 58) C d_M_add_58 rfl ?_
  refine u_geti (pc := 59) C d_M_add_59 fw_M_70 sR_0 rfl ?_
  refine u_iadd (pc := 62) C d_M_add_62 ?_
  refine u_iconst (pc := 63) (v := 0) C d_M_add_63 (by decide) ?_
  refine u_iast (pc := 64) C d_M_add_64 sR_6 (by simp only [up_ne (show (0 : Nat) ≠ 1 by decide), up_ne (show (0 : Nat) ≠ 2 by decide), up_ne (show (0 : Nat) ≠ 3 by decide), up_ne (show (0 : Nat) ≠ 4 by decide), up_ne (show (0 : Nat) ≠ 5 by decide), up_ne (show (0 : Nat) ≠ 6 by decide), h5]; exact vp71 hn) ?_
  refine u_aload_n (pc := 65) C d_M_add_65 rfl ?_
  refine u_getr (pc := 66) (r := 6) C d_M_add_66 fw_M_25 sR_0 rfl rfl ?_
  refine u_bipush (pc := 69) (v := 95) C d_M_add_69 (by decide) ?_
  refine u_aload_n (pc := 71) C d_M_add_71 rfl ?_
  refine u_geti (pc := 72) C d_M_add_72 fw_M_70 sR_0 rfl ?_
  refine u_iadd (pc := 75) C d_M_add_75 ?_
  refine u_iconst (pc := 76) (v := 0) C d_M_add_76 (by decide) ?_
  refine u_iast (pc := 77) C d_M_add_77 sR_6 (by simp only [up_ne (show (0 : Nat) ≠ 1 by decide), up_ne (show (0 : Nat) ≠ 2 by decide), up_ne (show (0 : Nat) ≠ 3 by decide), up_ne (show (0 : Nat) ≠ 4 by decide), up_ne (show (0 : Nat) ≠ 5 by decide), up_ne (show (0 : Nat) ≠ 6 by decide), h5]; exact vp95 hn) ?_
  refine u_aload_n (pc := 78) C d_M_add_78 rfl ?_
  refine u_dup (pc := 79) C d_M_add_79 rfl ?_
  refine u_geti (pc := 80) C d_M_add_80 fw_M_70 sR_0 rfl ?_
  refine u_dup_x1 (pc := 83) C d_M_add_83 rfl rfl ?_
  refine u_iconst (pc := 84) (v := 1) C d_M_add_84 (by decide) ?_
  refine u_iadd (pc := 85) C d_M_add_85 ?_
  refine u_put (pc := 86) C d_M_add_86 fw_M_70 sR_0 rfl (Or.inl rfl) ?_
  refine u_iret (pc := 89) C d_M_add_89 (hQ _ _ ⟨_, rfl, ?_⟩)
  simp only [up_ne (show (0 : Nat) ≠ 1 by decide), up_ne (show (0 : Nat) ≠ 2 by decide), up_ne (show (0 : Nat) ≠ 3 by decide), up_ne (show (0 : Nat) ≠ 4 by decide), up_ne (show (0 : Nat) ≠ 5 by decide), up_ne (show (0 : Nat) ≠ 6 by decide), h5]
  rw [ix71 hn, ix95 hn, nI_clamp (by omega), ← nI_succ]
  obtain ⟨c1, c2, c3, c4, c5⟩ := hcd
  have hu : ∀ p', 1 ≤ p' → p' ≤ 5 → p' ≠ 6 ∧ p' ≠ 0 := fun p' _ _ => ⟨by omega, by omega⟩
  refine ⟨trivial, ⟨?_, ?_, ?_, ?_, ?_⟩, ?_, ?_, ?_⟩
  · simp only [up_ne (show (1 : Nat) ≠ 0 by decide), up_ne (show (1 : Nat) ≠ 6 by decide), up_ne (show (1 : Nat) ≠ 5 by decide), up_ne (show (1 : Nat) ≠ 4 by decide), up_ne (show (1 : Nat) ≠ 3 by decide), up_ne (show (1 : Nat) ≠ 2 by decide), up_row]
    rw [c1]; rfl
  · simp only [up_ne (show (2 : Nat) ≠ 0 by decide), up_ne (show (2 : Nat) ≠ 6 by decide), up_ne (show (2 : Nat) ≠ 5 by decide), up_ne (show (2 : Nat) ≠ 4 by decide), up_ne (show (2 : Nat) ≠ 3 by decide), up_ne (show (2 : Nat) ≠ 1 by decide), up_row]
    rw [c2]; rfl
  · simp only [up_ne (show (3 : Nat) ≠ 0 by decide), up_ne (show (3 : Nat) ≠ 6 by decide), up_ne (show (3 : Nat) ≠ 5 by decide), up_ne (show (3 : Nat) ≠ 4 by decide), up_ne (show (3 : Nat) ≠ 1 by decide), up_ne (show (3 : Nat) ≠ 2 by decide), up_row]
    rw [c3]; rfl
  · simp only [up_ne (show (4 : Nat) ≠ 0 by decide), up_ne (show (4 : Nat) ≠ 6 by decide), up_ne (show (4 : Nat) ≠ 5 by decide), up_ne (show (4 : Nat) ≠ 1 by decide), up_ne (show (4 : Nat) ≠ 3 by decide), up_ne (show (4 : Nat) ≠ 2 by decide), up_row]
    rw [c4]; rfl
  · simp only [up_ne (show (5 : Nat) ≠ 0 by decide), up_ne (show (5 : Nat) ≠ 6 by decide), up_ne (show (5 : Nat) ≠ 1 by decide), up_ne (show (5 : Nat) ≠ 4 by decide), up_ne (show (5 : Nat) ≠ 3 by decide), up_ne (show (5 : Nat) ≠ 2 by decide), up_row]
    rw [c5]; rfl
  · rw [up_row, pk_us]
  · simp only [up_ne (show (6 : Nat) ≠ 0 by decide), up_ne (show (6 : Nat) ≠ 1 by decide), up_ne (show (6 : Nat) ≠ 2 by decide), up_ne (show (6 : Nat) ≠ 3 by decide), up_ne (show (6 : Nat) ≠ 4 by decide), up_ne (show (6 : Nat) ≠ 5 by decide), up_row]
  · exact (((((((OfR.up (Or.inl ⟨by decide, by decide⟩)).trans (OfR.up (Or.inl ⟨by decide, by decide⟩))).trans (OfR.up (Or.inl ⟨by decide, by decide⟩))).trans (OfR.up (Or.inl ⟨by decide, by decide⟩))).trans (OfR.up (Or.inl ⟨by decide, by decide⟩))).trans (OfR.up (Or.inr (Or.inl rfl)))).trans (OfR.up (Or.inr (Or.inl rfl)))).trans (OfR.up (Or.inr (Or.inr ⟨rfl, rfl⟩)))
