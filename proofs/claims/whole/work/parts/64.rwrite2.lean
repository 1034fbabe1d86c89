/-! the reference: further calls that change -/
theorem FG.add {f : Nat → Int32} {g : Gm} {tb : List Nat} {n : Nat} (h : FG f g tb) (hn : n < 24) (hnt : n ∉ tb) : FG (upd (upd f (71 + n) 0) (95 + n) 0) (up2 g 3 n 0) tb := (h.where hn).age hn hnt
theorem card_bad {k p vw a : Int32} {σ : St} (h : inF k 0 14 = 0 ∨ inF p 0 1 = 0 ∨ inF vw 0 33 = 0 ∨ 3 < vw - vw / 10 * 10 ∨ inF a (-9) 9 = 0) : sp_card k p vw a σ = (-1, σ) := by
  have e0 : (0 : Int32).toInt = 0 := by decide
  unfold sp_card
  by_cases h1 : k < 0
  · rw [if_pos h1]
  rw [if_neg h1]
  by_cases h2 : 15 ≤ k
  · rw [if_pos h2]
  rw [if_neg h2]
  by_cases h3 : ¬ (p = 0 ∨ p = 1)
  · rw [if_neg h3]
  have h3 := Classical.not_not.mp h3
  rw [if_pos h3]
  by_cases h4 : ¬ (¬ vw < 0 ∧ ¬ 3 < vw / 10 ∧ ¬ 3 < remF vw 10)
  · rw [if_neg h4]
  have h4 := Classical.not_not.mp h4
  rw [if_pos h4]
  by_cases h6 : a < -9
  · rw [if_pos h6]
  rw [if_neg h6]
  by_cases h7 : ¬ a ≤ 9
  · rw [if_neg h7]
  have h7 := Classical.not_not.mp h7
  exfalso
  rcases h with q | q | q | q | q
  · rcases in_n q with z | z
    · exact h1 z
    · have a1 := Int32.lt_iff_toInt_lt.mp z
      have a14 : (14 : Int32).toInt = 14 := by decide
      have a15 : (15 : Int32).toInt = 15 := by decide
      exact h2 (by rw [Int32.le_iff_toInt_le]; omega)
  · exact in01n q h3
  · rcases in_n q with z | z
    · exact h4.1 z
    · obtain ⟨j, hj, rfl⟩ := nI_of h4.1
      have a1 : 33 < j := (nI_ltI (a := 33) (by decide) hj).mp z
      have h5 := h4.2.1
      have h8 := h4.2.2
      unfold remF at h8
      rw [show (10 : Int32) = nI 10 from rfl] at h5 h8
      rw [pk_div hj (by decide) (by decide)] at h5
      rw [pk_rem hj (by decide) (by decide)] at h8
      have b1 : ¬ 3 < j / 10 := fun y => h5 (nI_lt (a := 3) y (by omega))
      have b2 : ¬ 3 < j % 10 := fun y => h8 (nI_lt (a := 3) y (by omega))
      omega
  · exact h4.2.2 q
  · rcases in_n q with z | z
    · exact h6 z
    · exact absurd h7 (Int32.not_le.mpr z)
theorem card_ok {k p vw a : Int32} {σ : St} (h1 : ¬ inF k 0 14 = 0) (h2 : ¬ inF p 0 1 = 0) (h3 : ¬ inF vw 0 33 = 0) (h4 : ¬ 3 < vw - vw / 10 * 10) (h5 : ¬ inF a (-9) 9 = 0) :
    (∃ j, j ≤ 14 ∧ k = nI j) ∧ (p = 0 ∨ p = 1) ∧ (∃ j, j < 4 ∧ vw / 10 = nI j) ∧ (∃ j, j < 4 ∧ remF vw 10 = nI j) ∧ (-9 ≤ a.toInt ∧ a.toInt ≤ 9) ∧
    sp_card k p vw a σ = if σ.1.2.1 < 24 then (nI σ.1.2.1, setC σ k p vw a) else (-3, σ) := by
  obtain ⟨j, hj, rfl⟩ := inN (n := 14) rfl (by decide) h1
  have hp := in01 h2
  obtain ⟨w, hw, rfl⟩ := inN (n := 33) rfl (by decide) h3
  have hd : nI w / 10 = nI (w / 10) := by rw [show (10 : Int32) = nI 10 from rfl, pk_div (by omega) (by decide) (by decide)]
  have hr : remF (nI w) 10 = nI (w % 10) := by unfold remF; rw [show (10 : Int32) = nI 10 from rfl, pk_rem (by omega) (by decide) (by decide)]
  have h4' : ¬ (3 : Int32) < nI (w % 10) := by rw [← hr]; exact h4
  have hm : ¬ 3 < w % 10 := fun z => h4' (nI_lt (a := 3) z (by omega))
  obtain ⟨a1, a2⟩ := in_y h5
  have b1 := Int32.le_iff_toInt_le.mp (Int32.not_lt.mp a1)
  have b2 := Int32.le_iff_toInt_le.mp (Int32.not_lt.mp a2)
  have e9 : (-9 : Int32).toInt = -9 := by decide
  have f9 : (9 : Int32).toInt = 9 := by decide
  have q1 : ¬ (3 : Int32) < nI w / 10 := by rw [hd]; exact nI_nlt (a := 3) (by omega) (by decide)
  refine ⟨⟨j, hj, rfl⟩, hp, ⟨w / 10, by omega, hd⟩, ⟨w % 10, by omega, hr⟩, ⟨by omega, by omega⟩, ?_⟩
  rw [sp_card, if_neg (nI_pos (by omega)), if_neg (show ¬ (15 : Int32) ≤ nI j from nI_ge (b := 15) (by omega) (by decide)), if_pos hp, if_pos ⟨nI_pos (by omega), q1, h4⟩, if_neg a1, if_pos (Int32.not_lt.mp a2)]
set_option maxRecDepth 20000 in
theorem c_M_card {k p vw a : Int32} {M : Mem} {σ : St} (hI : InvR M σ) : Ct lyR y_M_card b_M_card 5 (some .int) 1 [.ref 0, .int k, .int p, .int vw, .int a] M (Pi fun r M' => r = (sp_card k p vw a σ).1 ∧ InvR M' (sp_card k p vw a σ).2) := by
  have hS := hI.1
  have n24 := hS.n24
  have h5 := hS.2.2.1
  obtain ⟨k1, k2, k3, k4, k5⟩ := hS.cdc
  refine Ct.ofG mx_M_card [some (.ref 0), some (.int k), some (.int p), some (.int vw), some (.int a)] rfl rfl (Nat.le_of_ble_eq_true rfl) (fun κ C hQ => ?_)
  refine u_iload_n (pc := 0) C d_M_card_0 rfl ?_
  refine u_iconst (pc := 1) (v := 0) C d_M_card_1 (by decide) ?_
  refine u_bipush (pc := 2) (v := 14) C d_M_card_2 (by decide) ?_
  refine u_callSi (pc := 4) C d_M_card_4 mx_M_in mw_M_73 (c_M_in) rfl rfl (Nat.le_of_ble_eq_true rfl) (fun r4 M4 q4 => ?_)
  obtain ⟨e4, q4⟩ := q4
  have q4 := q4.symm
  subst q4
  refine u_if_eq (pc := 7) (tgt := 49) C d_M_card_7 rfl (fun c7 => ?_) (fun c7 => ?_)
  · refine u_iconst (pc := 49) (v := (-1)) C d_M_card_49 (by decide) ?_
    refine u_iret (pc := 50) C d_M_card_50 (hQ _ _ ⟨_, rfl, ?_⟩)
    rw [card_bad (Or.inl (by rw [← e4]; exact c7))]
    exact ⟨rfl, hI⟩
  · refine u_iload_n (pc := 10) C d_M_card_10 rfl ?_
    refine u_iconst (pc := 11) (v := 0) C d_M_card_11 (by decide) ?_
    refine u_iconst (pc := 12) (v := 1) C d_M_card_12 (by decide) ?_
    refine u_callSi (pc := 13) C d_M_card_13 mx_M_in mw_M_73 (c_M_in) rfl rfl (Nat.le_of_ble_eq_true rfl) (fun r13 M13 q13 => ?_)
    obtain ⟨e13, q13⟩ := q13
    have q13 := q13.symm
    subst q13
    refine u_if_eq (pc := 16) (tgt := 49) C d_M_card_16 rfl (fun c16 => ?_) (fun c16 => ?_)
    · refine u_iconst (pc := 49) (v := (-1)) C d_M_card_49 (by decide) ?_
      refine u_iret (pc := 50) C d_M_card_50 (hQ _ _ ⟨_, rfl, ?_⟩)
      rw [card_bad (Or.inr (Or.inl (by rw [← e13]; exact c16)))]
      exact ⟨rfl, hI⟩
    · refine u_iload_n (pc := 19) C d_M_card_19 rfl ?_
      refine u_iconst (pc := 20) (v := 0) C d_M_card_20 (by decide) ?_
      refine u_bipush (pc := 21) (v := 33) C d_M_card_21 (by decide) ?_
      refine u_callSi (pc := 23) C d_M_card_23 mx_M_in mw_M_73 (c_M_in) rfl rfl (Nat.le_of_ble_eq_true rfl) (fun r23 M23 q23 => ?_)
      obtain ⟨e23, q23⟩ := q23
      have q23 := q23.symm
      subst q23
      refine u_if_eq (pc := 26) (tgt := 49) C d_M_card_26 rfl (fun c26 => ?_) (fun c26 => ?_)
      · refine u_iconst (pc := 49) (v := (-1)) C d_M_card_49 (by decide) ?_
        refine u_iret (pc := 50) C d_M_card_50 (hQ _ _ ⟨_, rfl, ?_⟩)
        rw [card_bad (Or.inr (Or.inr (Or.inl (by rw [← e23]; exact c26))))]
        exact ⟨rfl, hI⟩
      · refine u_iload_n (pc := 29) C d_M_card_29 rfl ?_
        refine u_bipush (pc := 30) (v := 10) C d_M_card_30 (by decide) ?_
        refine u_irem (pc := 32) C d_M_card_32 (by decide) ?_
        refine u_iconst (pc := 33) (v := 3) C d_M_card_33 (by decide) ?_
        refine u_icmp_gt (pc := 34) (tgt := 49) C d_M_card_34 rfl (fun c34 => ?_) (fun c34 => ?_)
        · refine u_iconst (pc := 49) (v := (-1)) C d_M_card_49 (by decide) ?_
          refine u_iret (pc := 50) C d_M_card_50 (hQ _ _ ⟨_, rfl, ?_⟩)
          rw [card_bad (Or.inr (Or.inr (Or.inr (Or.inl c34))))]
          exact ⟨rfl, hI⟩
        · refine u_iload (pc := 37) C d_M_card_37 rfl ?_
          refine u_bipush (pc := 39) (v := (-9)) C d_M_card_39 (by decide) ?_
          refine u_bipush (pc := 41) (v := 9) C d_M_card_41 (by decide) ?_
          refine u_callSi (pc := 43) C d_M_card_43 mx_M_in mw_M_73 (c_M_in) rfl rfl (Nat.le_of_ble_eq_true rfl) (fun r43 M43 q43 => ?_)
          obtain ⟨e43, q43⟩ := q43
          have q43 := q43.symm
          subst q43
          refine u_if_ne (pc := 46) (tgt := 51) C d_M_card_46 rfl (fun c46 => ?_) (fun c46 => ?_)
          · rw [e4] at c7
            rw [e13] at c16
            rw [e23] at c26
            rw [e43] at c46
            obtain ⟨hk, hp, hv, hw, ha, hsp⟩ := card_ok (σ := σ) c7 c16 c26 c34 c46
            refine u_aload_n (pc := 51) C d_M_card_51 rfl ?_
            refine u_geti (pc := 52) C d_M_card_52 fw_M_70 sR_0 rfl ?_
            refine u_bipush (pc := 55) (v := 24) C d_M_card_55 (by decide) ?_
            refine u_icmp_ne (pc := 57) (tgt := 65) C d_M_card_57 rfl (fun c57 => ?_) (fun c57 => ?_)
            · have hn9 : σ.1.2.1 < 24 := by
                rcases Nat.lt_or_ge σ.1.2.1 24 with z | z
                · exact z
                · exact absurd (by rw [h5, show σ.1.2.1 = 24 by omega]; rfl) c57
              refine u_aload_n (pc := 65) C d_M_card_65 rfl ?_
              refine u_iload_n (pc := 66) C d_M_card_66 rfl ?_
              refine u_iload_n (pc := 67) C d_M_card_67 rfl ?_
              refine u_iload_n (pc := 68) C d_M_card_68 rfl ?_
              refine u_bipush (pc := 69) (v := 10) C d_M_card_69 (by decide) ?_
              refine u_idiv (pc := 71) C d_M_card_71 (by decide) ?_
              refine u_iload_n (pc := 72) C d_M_card_72 rfl ?_
              refine u_bipush (pc := 73) (v := 10) C d_M_card_73 (by decide) ?_
              refine u_irem (pc := 75) C d_M_card_75 (by decide) ?_
              refine u_iload (pc := 76) C d_M_card_76 rfl ?_
              refine u_callVi (pc := 78) C d_M_card_78 mx_M_add mw_M_77 sR_0 rfl (c_M_add hS.2.1 h5 hn9) rfl rfl (Nat.le_of_ble_eq_true rfl) (fun r78 M78 q78 => ?_)
              obtain ⟨e78, hcd9, h59, hf9, o9⟩ := q78
              refine u_iret (pc := 81) C d_M_card_81 (hQ _ _ ⟨_, rfl, ?_⟩)
              have hnt : σ.1.2.1 ∉ σ.1.2.2.2 := fun z => by have := (hS.tbm.mp z).1; omega
              rw [hsp, if_pos hn9]
              refine ⟨e78, hI.add o9 hn9 (hS.1.1.2.cdUL hk hp hv hw ha) h59 ?_ hcd9⟩
              rw [hf9]
              exact hS.2.2.2.add hn9 hnt
            · refine u_bipush (pc := 60) (v := (-3)) C d_M_card_60 (by decide) ?_
              refine u_goto (pc := 62) (tgt := 81) C d_M_card_62 rfl ?_
              refine u_iret (pc := 81) C d_M_card_81 (hQ _ _ ⟨_, rfl, ?_⟩)
              rw [h5] at c57
              have hq : σ.1.2.1 = 24 := (nI_eq (b := 24) (by omega) (by decide)).mp c57
              rw [hsp, if_neg (by omega)]
              exact ⟨rfl, hI⟩
          · refine u_iconst (pc := 49) (v := (-1)) C d_M_card_49 (by decide) ?_
            refine u_iret (pc := 50) C d_M_card_50 (hQ _ _ ⟨_, rfl, ?_⟩)
            rw [card_bad (Or.inr (Or.inr (Or.inr (Or.inr (by rw [← e43]; exact c46)))))]
            exact ⟨rfl, hI⟩
set_option maxRecDepth 20000 in
theorem c_M_feed {x : Int32} {M : Mem} {σ : St} (hI : InvR M σ) : Ct lyR y_M_feed b_M_feed 2 (some .int) 1 [.ref 0, .int x] M (Pi fun r M' => r = (sp_feed x σ).1 ∧ InvR M' (sp_feed x σ).2) := by
  have hS := hI.1
  have n24 := hS.n24
  have h5 := hS.2.2.1
  obtain ⟨k1, k2, k3, k4, k5⟩ := hS.cdc
  obtain ⟨t1, t2, t3, t4⟩ := hI.2.2.1
  refine Ct.ofG mx_M_feed [some (.ref 0), some (.int x)] rfl rfl (Nat.le_of_ble_eq_true rfl) (fun κ C hQ => ?_)
  refine u_iload_n (pc := 0) C d_M_feed_0 rfl ?_
  refine u_iconst (pc := 1) (v := 0) C d_M_feed_1 (by decide) ?_
  refine u_sipush (pc := 2) (v := 255) C d_M_feed_2 (by decide) ?_
  refine u_callSi (pc := 5) C d_M_feed_5 mx_M_in mw_M_73 (c_M_in) rfl rfl (Nat.le_of_ble_eq_true rfl) (fun r5 M5 q5 => ?_)
  obtain ⟨e5, q5⟩ := q5
  have q5 := q5.symm
  subst q5
  refine u_if_ne (pc := 8) (tgt := 13) C d_M_feed_8 rfl (fun c8 => ?_) (fun c8 => ?_)
  · rw [e5] at c8
    have hx0 := (in_y c8).1
    have hx2 := Int32.not_lt.mp (in_y c8).2
    refine u_aload_n (pc := 13) C d_M_feed_13 rfl ?_
    refine u_geti (pc := 14) C d_M_feed_14 fw_M_81 sR_0 rfl ?_
    refine u_bipush (pc := 17) (v := 120) C d_M_feed_17 (by decide) ?_
    refine u_icmp_ne (pc := 19) (tgt := 25) C d_M_feed_19 rfl (fun c19 => ?_) (fun c19 => ?_)
    · have hl : σ.2.2.1.length < 120 := by
        rcases Nat.lt_or_ge σ.2.2.1.length 120 with z | z
        · exact z
        · exact absurd (by rw [t2, show σ.2.2.1.length = 120 by omega]; rfl) c19
      refine u_aload_n (pc := 25) C d_M_feed_25 rfl ?_
      refine u_getr (pc := 26) (r := 220) C d_M_feed_26 fw_M_52 sR_0 rfl rfl ?_
      refine u_aload_n (pc := 29) C d_M_feed_29 rfl ?_
      refine u_dup (pc := 30) C d_M_feed_30 rfl ?_
      refine u_geti (pc := 31) C d_M_feed_31 fw_M_81 sR_0 rfl ?_
      refine u_dup_x1 (pc := 34) C d_M_feed_34 rfl rfl ?_
      refine u_iconst (pc := 35) (v := 1) C d_M_feed_35 (by decide) ?_
      refine u_iadd (pc := 36) C d_M_feed_36 ?_
      refine u_put (pc := 37) C d_M_feed_37 fw_M_81 sR_0 rfl (Or.inl rfl) ?_
      refine u_iload_n (pc := 40) C d_M_feed_40 rfl ?_
      refine u_iast (pc := 41) C d_M_feed_41 sR_220 (by rw [t2]; exact vp_in_nI (by omega) (by decide)) ?_
      refine u_aload_n (pc := 42) C d_M_feed_42 rfl ?_
      refine u_geti (pc := 43) C d_M_feed_43 fw_M_81 sR_0 rfl ?_
      refine u_iret (pc := 46) C d_M_feed_46 (hQ _ _ ⟨_, rfl, ?_⟩)
      rw [sp_feed, if_neg hx0, if_pos hx2, if_pos hl, t2, nI_clamp (by omega), ← nI_succ]
      refine ⟨by rw [up_ne (by decide), up_row, pk_us], ?_⟩
      obtain ⟨h1, h2, -, h7, h8, h9, h10⟩ := hI
      have k0 : ∀ j, j ≠ 20 → (up (up M 0 20 (nI (σ.2.2.1.length + 1))) 220 σ.2.2.1.length x).1 0 j = M.1 0 j := fun j hj => by rw [up_ne (by decide), up_j hj]
      have kp : ∀ p, p ≠ 0 → p ≠ 220 → (up (up M 0 20 (nI (σ.2.2.1.length + 1))) 220 σ.2.2.1.length x).1 p = M.1 p := fun p q1 q2 => by rw [up_ne q2, up_ne q1]
      have ofs : OfR (fun p j => p = 220 ∨ (p = 0 ∧ j = 20)) M (up (up M 0 20 (nI (σ.2.2.1.length + 1))) 220 σ.2.2.1.length x) := (OfR.up (Or.inr ⟨rfl, rfl⟩)).trans (OfR.up (Or.inl rfl))
      refine ⟨h1.of ofs (fun p j _ _ z => by omega) (fun z => by omega) (fun j z => by omega), ?_, ⟨?_, ?_, fun i hi => ?_, fun y hy => ?_⟩, fun q hq => ?_, ?_, h9.of ofs (fun z => by omega) (fun z => by omega) (fun i z => by omega) (fun i z => by omega), ?_⟩
      · rw [k0 9 (by decide), kp 14 (by decide) (by decide)]; exact h2
      · show (σ.2.2.1 ++ [x]).length ≤ 120
        simp; omega
      · show _ = nI (σ.2.2.1 ++ [x]).length
        rw [up_ne (by decide), up_row, pk_us]
        simp
      · show _ = (σ.2.2.1 ++ [x]).getD i 0
        have hi' : i < σ.2.2.1.length + 1 := by
          have : i < (σ.2.2.1 ++ [x]).length := hi
          simpa using this
        rw [up_row]
        by_cases e : i = σ.2.2.1.length
        · subst e; rw [pk_us, getDI_last]
        · rw [pk_un e, up_ne (by decide), getDI_app (by omega)]
          exact t3 i (by omega)
      · rcases List.mem_append.mp hy with z | z
        · exact t4 y z
        · rw [List.mem_singleton.mp z]
          have a1 := Int32.le_iff_toInt_le.mp (Int32.not_lt.mp hx0)
          have a2 := Int32.le_iff_toInt_le.mp hx2
          have a0 : (0 : Int32).toInt = 0 := by decide
          have a255 : (255 : Int32).toInt = 255 := by decide
          omega
      · rw [kp 221 (by decide) (by decide)]; exact h7 q hq
      · rw [k0 25 (by decide), k0 26 (by decide), k0 27 (by decide)]; exact h8
      · rw [k0 32 (by decide)]; exact h10
    · refine u_bipush (pc := 22) (v := (-3)) C d_M_feed_22 (by decide) ?_
      refine u_iret (pc := 24) C d_M_feed_24 (hQ _ _ ⟨_, rfl, ?_⟩)
      rw [t2] at c19
      have hq : σ.2.2.1.length = 120 := (nI_eq (b := 120) (by omega) (by decide)).mp c19
      rw [sp_feed, if_neg hx0, if_pos hx2, if_neg (by omega)]
      exact ⟨rfl, hI⟩
  · refine u_iconst (pc := 11) (v := (-1)) C d_M_feed_11 (by decide) ?_
    refine u_iret (pc := 12) C d_M_feed_12 (hQ _ _ ⟨_, rfl, ?_⟩)
    rw [e5] at c8
    have e9 : sp_feed x σ = (-1, σ) := by
      rcases in_n c8 with q | q
      · rw [sp_feed, if_pos q]
      · rw [sp_feed]
        by_cases hz : x < 0
        · rw [if_pos hz]
        · rw [if_neg hz, if_neg (Int32.not_le.mpr q)]
    rw [e9]
    exact ⟨rfl, hI⟩
theorem up_o {M : Mem} {p j q i : Nat} {x : Int32} (h : ¬ (q = p ∧ i = j)) : (up M p j x).1 q i = M.1 q i := if_neg h
theorem InvR.hold {M : Mem} {σ : St} {h : Nat} {x : Int32} {y : Option Nat} (hI : InvR M σ) (hx : match y with | none => x = -1 | some c => x = nI c ∧ c < σ.1.2.1) : InvR (up M 221 h x) (setH σ h y) := by
  obtain ⟨h1, h2, h3, h7, h8, h9, h10⟩ := hI
  have kp : ∀ p, p ≠ 221 → (up M 221 h x).1 p = M.1 p := fun p q => up_ne q
  have ofs : OfR (fun p _ => p = 221) M (up M 221 h x) := OfR.up rfl
  refine ⟨h1.of ofs (fun p j _ _ z => by omega) (fun z => by omega) (fun j z => by omega), ?_, ?_, fun q hq => ?_, ?_, h9.of ofs (fun z => by omega) (fun z => by omega) (fun i z => by omega) (fun i z => by omega), ?_⟩
  · rw [kp 0 (by decide), kp 14 (by decide)]; exact h2
  · rw [kp 0 (by decide), kp 220 (by decide)]; exact h3
  · show match (if q = h then y else σ.2.2.2.1 q) with | none => (up M 221 h x).1 221 q = -1 | some c => (up M 221 h x).1 221 q = nI c ∧ c < σ.1.2.1
    rw [up_row]
    by_cases e : q = h
    · subst e
      rw [if_pos rfl, pk_us]
      exact hx
    · rw [if_neg e, pk_un e]
      exact h7 q hq
  · rw [kp 0 (by decide)]; exact h8
  · rw [kp 0 (by decide)]; exact h10
set_option maxRecDepth 20000 in
theorem c_M_image  {M : Mem} {σ : St} (hI : InvR M σ) : Ct lyR y_M_image b_M_image 1 (some .int) 1 [.ref 0] M (Pi fun r M' => r = (sp_image σ).1 ∧ InvR M' (sp_image σ).2) := by
  have hS := hI.1
  have n24 := hS.n24
  have h5 := hS.2.2.1
  obtain ⟨k1, k2, k3, k4, k5⟩ := hS.cdc
  refine Ct.ofG mx_M_image [some (.ref 0)] rfl rfl (Nat.le_of_ble_eq_true rfl) (fun κ C hQ => ?_)
  refine u_aload_n (pc := 0) C d_M_image_0 rfl ?_
  refine u_getr (pc := 1) (r := 6) C d_M_image_1 fw_M_25 sR_0 rfl rfl ?_
  refine u_aload_n (pc := 4) C d_M_image_4 rfl ?_
  refine u_getr (pc := 5) (r := 14) C d_M_image_5 fw_M_33 sR_0 rfl rfl ?_
  refine u_callSv (pc := 8) C d_M_image_8 mx_M_copy mw_M_300 (c_M_copy sR_6 sR_14 (by decide)) rfl rfl (Nat.le_of_ble_eq_true rfl) (fun M8 q8 => ?_)
  obtain ⟨cp1, cp2⟩ := q8
  refine u_aload_n (pc := 11) C d_M_image_11 rfl ?_
  refine u_aload_n (pc := 12) C d_M_image_12 rfl ?_
  refine u_geti (pc := 13) C d_M_image_13 fw_M_70 sR_0 rfl ?_
  refine u_put (pc := 16) C d_M_image_16 fw_M_36 sR_0 rfl (Or.inl rfl) ?_
  refine u_aload_n (pc := 19) C d_M_image_19 rfl ?_
  refine u_geti (pc := 20) C d_M_image_20 fw_M_70 sR_0 rfl ?_
  refine u_iret (pc := 23) C d_M_image_23 (hQ _ _ ⟨_, rfl, ?_⟩)
  have k0 : ∀ j, j ≠ 9 → (up M8 0 9 (M8.1 0 5)).1 0 j = M.1 0 j := fun j hj => by rw [up_j hj, cp1 0 (by decide)]
  have kp : ∀ p, p ≠ 0 → p ≠ 14 → (up M8 0 9 (M8.1 0 5)).1 p = M.1 p := fun p q1 q2 => by rw [up_ne q1, cp1 p q2]
  obtain ⟨h1, h2, h3, h7, h8, h9, h10⟩ := hI
  have ofs : OfR (fun p j => p = 14 ∨ (p = 0 ∧ j = 9)) M (up M8 0 9 (M8.1 0 5)) := fun p j z => by
    rw [up_o (fun y => z (Or.inr y)), cp1 p (fun y => z (Or.inl y))]
  have e5 : M8.1 0 5 = nI σ.1.2.1 := by rw [cp1 0 (by decide)]; exact h5
  refine ⟨by rw [k0 5 (by decide), h5]; rfl, h1.of ofs (fun p j _ _ z => by omega) (fun z => by omega) (fun j z => by omega), ?_, ?_, fun q hq => ?_, ?_, h9.of ofs (fun z => by omega) (fun z => by omega) (fun i z => by omega) (fun i z => by omega), ?_⟩
  · show (up M8 0 9 (M8.1 0 5)).1 0 9 = nI σ.1.2.1 ∧ σ.1.2.1 ≤ σ.1.2.1 ∧ WFg σ.1.1 σ.1.2.1 σ.1.2.2.1 σ.1.2.2.2 ∧ FG ((up M8 0 9 (M8.1 0 5)).1 14) σ.1.2.2.1 σ.1.2.2.2
    exact ⟨by rw [up_row, pk_us]; exact e5, Nat.le_refl _, h1.1, h1.2.2.2.of_eq (fun j hj => by rw [up_ne (by decide)]; exact cp2 j hj)⟩
  · rw [k0 20 (by decide), kp 220 (by decide) (by decide)]; exact h3
  · rw [kp 221 (by decide) (by decide)]; exact h7 q hq
  · rw [k0 25 (by decide), k0 26 (by decide), k0 27 (by decide)]; exact h8
  · rw [k0 32 (by decide)]; exact h10
set_option maxRecDepth 20000 in
theorem c_M_hold {h c : Int32} {M : Mem} {σ : St} (hI : InvR M σ) : Ct lyR y_M_hold b_M_hold 3 (some .int) 2 [.ref 0, .int h, .int c] M (Pi fun r M' => r = (sp_hold h c σ).1 ∧ InvR M' (sp_hold h c σ).2) := by
  have hS := hI.1
  have n24 := hS.n24
  have h5 := hS.2.2.1
  obtain ⟨k1, k2, k3, k4, k5⟩ := hS.cdc
  refine Ct.ofG mx_M_hold [some (.ref 0), some (.int h), some (.int c)] rfl rfl (Nat.le_of_ble_eq_true rfl) (fun κ C hQ => ?_)
  refine u_iload_n (pc := 0) C d_M_hold_0 rfl ?_
  refine u_iconst (pc := 1) (v := 0) C d_M_hold_1 (by decide) ?_
  refine u_bipush (pc := 2) (v := 7) C d_M_hold_2 (by decide) ?_
  refine u_callSi (pc := 4) C d_M_hold_4 mx_M_in mw_M_73 (c_M_in) rfl rfl (Nat.le_of_ble_eq_true rfl) (fun r4 M4 q4 => ?_)
  obtain ⟨e4, q4⟩ := q4
  have q4 := q4.symm
  subst q4
  refine u_if_eq (pc := 7) (tgt := 23) C d_M_hold_7 rfl (fun c7 => ?_) (fun c7 => ?_)
  · refine u_iconst (pc := 23) (v := (-1)) C d_M_hold_23 (by decide) ?_
    refine u_iret (pc := 24) C d_M_hold_24 (hQ _ _ ⟨_, rfl, ?_⟩)
    rw [e4] at c7
    have e9 : sp_hold h c σ = (-1, σ) := by
      rcases in_n c7 with q | q
      · rw [sp_hold, if_pos q]
      · rw [sp_hold]
        by_cases hz : h < 0
        · rw [if_pos hz]
        · rw [if_neg hz, if_neg]
          intro z
          have a1 := Int32.lt_iff_toInt_lt.mp z
          have a2 := Int32.lt_iff_toInt_lt.mp q
          have a8 : (8 : Int32).toInt = 8 := by decide
          have a7 : (7 : Int32).toInt = 7 := by decide
          omega
    rw [e9]
    exact ⟨rfl, hI⟩
  · rw [e4] at c7
    obtain ⟨t, ht7, rfl⟩ := inN (n := 7) rfl (by decide) c7
    have htl : (nI t).toNatClampNeg = t := nI_clamp (by omega)
    have htp : ¬ nI t < 0 := nI_pos (by omega)
    have ht8 : nI t < 8 := nI_lt (b := 8) (by omega) (by decide)
    refine u_iload_n (pc := 10) C d_M_hold_10 rfl ?_
    refine u_iconst (pc := 11) (v := (-1)) C d_M_hold_11 (by decide) ?_
    refine u_icmp_eq (pc := 12) (tgt := 25) C d_M_hold_12 rfl (fun c12 => ?_) (fun c12 => ?_)
    · refine u_aload_n (pc := 25) C d_M_hold_25 rfl ?_
      refine u_getr (pc := 26) (r := 221) C d_M_hold_26 fw_M_55 sR_0 rfl rfl ?_
      refine u_iload_n (pc := 29) C d_M_hold_29 rfl ?_
      refine u_iload_n (pc := 30) C d_M_hold_30 rfl ?_
      refine u_iast (pc := 31) C d_M_hold_31 sR_221 (vp_in_nI (by omega) (by decide)) ?_
      refine u_iconst (pc := 32) (v := 1) C d_M_hold_32 (by decide) ?_
      refine u_iret (pc := 33) C d_M_hold_33 (hQ _ _ ⟨_, rfl, ?_⟩)
      rw [sp_hold, if_neg htp, if_pos ht8, if_pos c12, htl]
      exact ⟨rfl, hI.hold (y := none) c12⟩
    · refine u_aload_n (pc := 15) C d_M_hold_15 rfl ?_
      refine u_iload_n (pc := 16) C d_M_hold_16 rfl ?_
      refine u_callVi (pc := 17) C d_M_hold_17 mx_M_isCard mw_M_160 sR_0 rfl (c_M_isCard h5 n24) rfl rfl (Nat.le_of_ble_eq_true rfl) (fun r17 M17 q17 => ?_)
      obtain ⟨e17, q17⟩ := q17
      have q17 := q17.symm
      subst q17
      refine u_if_ne (pc := 20) (tgt := 25) C d_M_hold_20 rfl (fun c20 => ?_) (fun c20 => ?_)
      · refine u_aload_n (pc := 25) C d_M_hold_25 rfl ?_
        refine u_getr (pc := 26) (r := 221) C d_M_hold_26 fw_M_55 sR_0 rfl rfl ?_
        refine u_iload_n (pc := 29) C d_M_hold_29 rfl ?_
        refine u_iload_n (pc := 30) C d_M_hold_30 rfl ?_
        refine u_iast (pc := 31) C d_M_hold_31 sR_221 (vp_in_nI (by omega) (by decide)) ?_
        refine u_iconst (pc := 32) (v := 1) C d_M_hold_32 (by decide) ?_
        refine u_iret (pc := 33) C d_M_hold_33 (hQ _ _ ⟨_, rfl, ?_⟩)
        rw [e17] at c20
        obtain ⟨d, hd, rfl⟩ := has_ix c20 n24
        rw [sp_hold, if_neg htp, if_pos ht8, if_neg c12, if_neg c20, htl, nI_clamp (by omega)]
        exact ⟨rfl, hI.hold (y := some d) ⟨rfl, hd⟩⟩
      · refine u_iconst (pc := 23) (v := (-1)) C d_M_hold_23 (by decide) ?_
        refine u_iret (pc := 24) C d_M_hold_24 (hQ _ _ ⟨_, rfl, ?_⟩)
        rw [e17] at c20
        rw [sp_hold, if_neg htp, if_pos ht8, if_neg c12, if_pos c20]
        exact ⟨rfl, hI⟩
