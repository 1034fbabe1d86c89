/-! the class's events -/
def eblk (b p : Nat) : Prop := p = ep b ∨ p = ep b + 1
theorem e_g {b k p : Nat} (hk : k < 6) (h : eblk b p) : ¬ blk k p := fun q => by
  have h2 := q.2
  unfold gp at h2
  rcases h with h | h <;> (unfold ep at h; omega)
theorem e_cd {b p : Nat} (h1 : 1 ≤ p) (h2 : p ≤ 5) : ¬ eblk b p := fun q => by
  rcases q with h | h <;> (unfold ep at h; omega)
def EV (M : Mem) (b : Nat) (e : Int32 × Int32 × Int32) (us : List Nat) : Prop :=
  M.1 (ep b) 1 = e.1 ∧ M.1 (ep b) 2 = e.2.1 ∧ M.1 (ep b) 3 = e.2.2 ∧ M.1 (ep b) 5 = nI us.length ∧ (∀ i, i < us.length → M.1 (ep b + 1) i = nI (us.getD i 0)) ∧ ∀ c, c < 24 → bt (M.1 (ep b) 6) c = decide (c ∈ us)
theorem b_one (i : Nat) : bt 1 i = decide (i = 0) := by
  rcases Nat.lt_or_ge i 32 with h | h
  · revert i; decide +kernel
  · rw [b_big h]; symm; exact decide_eq_false (by omega)
theorem bit1 {x : Int32} {c : Nat} (hc : c < 32) : (x >>> (nI c &&& 31)) &&& 1 = 0 ↔ bt x c = false := by
  constructor
  · intro h
    have h0 : bt ((x >>> (nI c &&& 31)) &&& 1) 0 = false := by rw [h, b_0]
    rw [b_and, b_one, b_sshr c hc x (by decide), if_pos (by omega)] at h0
    simpa using h0
  · intro h
    apply b_ext
    intro i hi
    rw [b_0, b_and, b_one, b_sshr c hc x hi]
    by_cases e : i = 0
    · subst e
      rw [if_pos (by omega), Nat.add_zero, h]; rfl
    · rw [decide_eq_false e, Bool.and_false]
theorem bit_set {x : Int32} {c d : Nat} (hc : c < 32) (hd : d < 32) : bt (x ||| ((1 : Int32) <<< (nI c &&& 31))) d = (bt x d || decide (d = c)) := by
  rw [b_or, b_shl c hc 1 hd, b_one]
  congr 1
  by_cases e : d = c
  · subst e; simp
  · by_cases h : c ≤ d
    · rw [decide_eq_false e, decide_eq_false (show ¬ d - c = 0 by omega), Bool.and_false]
    · rw [decide_eq_false e, decide_eq_false h, Bool.false_and]
theorem fam2 {k : Nat} (h : k ≤ 14) : famF (nI k) = 2 ↔ (5 ≤ nI k ∧ nI k ≤ 8) := by
  revert k
  decide +kernel
/-- which of the table weren't used yet -/
def unu (tb us : List Nat) : List Nat := tb.filter (fun c => decide (c ∉ us))
theorem find_filter {p q : Nat → Bool} : ∀ l : List Nat, (l.filter p).find? q = l.find? (fun a => p a && q a) := by
  intro l
  induction l with
  | nil => rfl
  | cons a l ih =>
    by_cases h : p a = true
    · rw [List.filter_cons_of_pos h, List.find?_cons, List.find?_cons, h, ih]; rfl
    · have h2 : p a = false := by simpa using h
      rw [List.filter_cons_of_neg h, List.find?_cons, h2, ih]; rfl
theorem unu_at {tb us : List Nat} {f : Nat → Bool} {i : Nat} (hi : i < tb.length) (h1 : ∀ j, j < i → ¬ (f (tb.getD j 0) = true ∧ tb.getD j 0 ∉ us)) (h2 : f (tb.getD i 0) = true ∧ tb.getD i 0 ∉ us) : (unu tb us).find? f = some (tb.getD i 0) := by
  unfold unu
  rw [find_filter, List.find?_eq_some_iff_getElem]
  refine ⟨by rw [h2.1, Bool.and_true]; exact decide_eq_true h2.2, i, hi, (getD_get hi).symm, fun j hj => ?_⟩
  have := h1 j hj
  rw [getD_get (by omega)] at this
  by_cases e : f tb[j] = true
  · have e2 : tb[j] ∈ us := by
      rcases Classical.em (tb[j] ∈ us) with q | q
      · exact q
      · exact absurd ⟨e, q⟩ this
    simp [e2]
  · simp [e]
theorem unu_none {tb us : List Nat} {f : Nat → Bool} (h1 : ∀ j, j < tb.length → ¬ (f (tb.getD j 0) = true ∧ tb.getD j 0 ∉ us)) : (unu tb us).find? f = none := by
  unfold unu
  rw [find_filter, List.find?_eq_none]
  intro x hx
  obtain ⟨j, hj, rfl⟩ := List.mem_iff_getElem.mp hx
  have := h1 j hj
  rw [getD_get hj] at this
  intro q
  simp at q
  exact this ⟨q.2, q.1⟩
theorem unu_erase {tb us : List Nat} {c : Nat} (hnd : tb.Nodup) : (unu tb us).erase c = unu tb (us ++ [c]) := by
  unfold unu
  rw [List.Nodup.erase_eq_filter (hnd.filter _), List.filter_filter]
  apply List.filter_congr
  intro d _
  by_cases h1 : d = c <;> by_cases h2 : d ∈ us <;> simp [h1, h2]
set_option maxRecDepth 20000 in
theorem c_E_become {b : Nat} {M : Mem} (hb : b < 2) {t p a : Int32} : Ct lyC y_E_become b_E_become 4 none 1 [.ref (ep b), .int t, .int p, .int a] M (Pv fun M' => EV M' b (t, p, withinF a 0 99) [] ∧ Off (eblk b) M M') := by
  refine Ct.ofG mx_E_become [some (.ref (ep b)), some (.int t), some (.int p), some (.int a)] rfl rfl (Nat.le_of_ble_eq_true rfl) (fun κ C hQ => ?_)
  refine u_aload_n (pc := 0) C d_E_become_0 rfl ?_
  refine u_iload_n (pc := 1) C d_E_become_1 rfl ?_
  refine u_put (pc := 2) C d_E_become_2 fw_E_19 (shE0 hb) rfl (Or.inl rfl) ?_
  refine u_aload_n (pc := 5) C d_E_become_5 rfl ?_
  refine u_iload_n (pc := 6) C d_E_become_6 rfl ?_
  refine u_put (pc := 7) C d_E_become_7 fw_E_23 (shE0 hb) rfl (Or.inl rfl) ?_
  refine u_aload_n (pc := 10) C d_E_become_10 rfl ?_
  refine u_iload_n (pc := 11) C d_E_become_11 rfl ?_
  refine u_iconst (pc := 12) (v := 0) C d_E_become_12 (by decide) ?_
  refine u_bipush (pc := 13) (v := 99) C d_E_become_13 (by decide) ?_
  refine u_callSi (pc := 15) C d_E_become_15 mx_L_within mw_E_26 (c_L_within) rfl rfl (Nat.le_of_ble_eq_true rfl) (fun r15 M15 q15 => ?_)
  obtain ⟨e15, q15⟩ := q15
  have q15 := q15.symm
  subst q15
  refine u_put (pc := 18) C d_E_become_18 fw_E_30 (shE0 hb) rfl (Or.inl rfl) ?_
  refine u_aload_n (pc := 21) C d_E_become_21 rfl ?_
  refine u_iconst (pc := 22) (v := 0) C d_E_become_22 (by decide) ?_
  refine u_put (pc := 23) C d_E_become_23 fw_E_33 (shE0 hb) rfl (Or.inl rfl) ?_
  refine u_aload_n (pc := 26) C d_E_become_26 rfl ?_
  refine u_iconst (pc := 27) (v := 0) C d_E_become_27 (by decide) ?_
  refine u_put (pc := 28) C d_E_become_28 fw_E_36 (shE0 hb) rfl (Or.inl rfl) ?_
  refine u_vret (pc := 31) C d_E_become_31 (hQ _ _ ⟨rfl, ?_⟩)
  subst e15
  refine ⟨⟨by simp [up], by simp [up], by simp [up], by simp [up]; rfl, fun i hi => by simp at hi, fun c _ => ?_⟩, ((((Off.up (Or.inl rfl)).trans (Off.up (Or.inl rfl))).trans (Off.up (Or.inl rfl))).trans (Off.up (Or.inl rfl))).trans (Off.up (Or.inl rfl))⟩
  simp [up, b_0]
set_option maxRecDepth 20000 in
theorem c_E_becomeTold {b : Nat} {M : Mem} (hb : b < 2) {x : Int32} : Ct lyC y_E_becomeTold b_E_becomeTold 2 none 2 [.ref (ep b), .int x] M (Pv fun M' => EV M' b (x / 1000, remF x 1000 / 100, withinF (remF x 100) 0 99) [] ∧ Off (eblk b) M M') := by
  refine Ct.ofG mx_E_becomeTold [some (.ref (ep b)), some (.int x)] rfl rfl (Nat.le_of_ble_eq_true rfl) (fun κ C hQ => ?_)
  refine u_aload_n (pc := 0) C d_E_becomeTold_0 rfl ?_
  refine u_iload_n (pc := 1) C d_E_becomeTold_1 rfl ?_
  refine u_sipush (pc := 2) (v := 1000) C d_E_becomeTold_2 (by decide) ?_
  refine u_idiv (pc := 5) C d_E_becomeTold_5 (by decide) ?_
  refine u_iload_n (pc := 6) C d_E_becomeTold_6 rfl ?_
  refine u_sipush (pc := 7) (v := 1000) C d_E_becomeTold_7 (by decide) ?_
  refine u_irem (pc := 10) C d_E_becomeTold_10 (by decide) ?_
  refine u_bipush (pc := 11) (v := 100) C d_E_becomeTold_11 (by decide) ?_
  refine u_idiv (pc := 13) C d_E_becomeTold_13 (by decide) ?_
  refine u_iload_n (pc := 14) C d_E_becomeTold_14 rfl ?_
  refine u_bipush (pc := 15) (v := 100) C d_E_becomeTold_15 (by decide) ?_
  refine u_irem (pc := 17) C d_E_becomeTold_17 (by decide) ?_
  refine u_callVv (pc := 18) C d_E_becomeTold_18 mx_E_become mw_E_39 (shE0 hb) rfl (c_E_become hb) rfl rfl (Nat.le_of_ble_eq_true rfl) (fun M18 q18 => ?_)
  refine u_vret (pc := 21) C d_E_becomeTold_21 (hQ _ _ ⟨rfl, ?_⟩)
  exact q18
set_option maxRecDepth 20000 in
theorem c_E_told {b : Nat} {M : Mem} (hb : b < 2)  : Ct lyC y_E_told b_E_told 1 (some .int) 1 [.ref (ep b)] M (Pi fun r M' => r = codeF (M.1 (ep b) 1) (M.1 (ep b) 2) (M.1 (ep b) 3) ∧ M' = M) := by
  refine Ct.ofG mx_E_told [some (.ref (ep b))] rfl rfl (Nat.le_of_ble_eq_true rfl) (fun κ C hQ => ?_)
  refine u_aload_n (pc := 0) C d_E_told_0 rfl ?_
  refine u_geti (pc := 1) C d_E_told_1 fw_E_19 (shE0 hb) rfl ?_
  refine u_aload_n (pc := 4) C d_E_told_4 rfl ?_
  refine u_geti (pc := 5) C d_E_told_5 fw_E_23 (shE0 hb) rfl ?_
  refine u_aload_n (pc := 8) C d_E_told_8 rfl ?_
  refine u_geti (pc := 9) C d_E_told_9 fw_E_30 (shE0 hb) rfl ?_
  refine u_callSi (pc := 12) C d_E_told_12 mx_L_codeOf mw_E_43 (c_L_codeOf) rfl rfl (Nat.le_of_ble_eq_true rfl) (fun r12 M12 q12 => ?_)
  obtain ⟨e12, q12⟩ := q12
  have q12 := q12.symm
  subst q12
  refine u_iret (pc := 15) C d_E_told_15 (hQ _ _ ⟨_, rfl, ?_⟩)
  exact ⟨e12, rfl⟩
set_option maxRecDepth 20000 in
theorem c_E_fits {b : Nat} {M : Mem} (hb : b < 2) {c n : Nat} {cd : Nat → Nat → Int32} {e : Int32 × Int32 × Int32} {us : List Nat} (hcd : CDm M cd) (hc : c < 24) (hcn : c < n) (hW : WFc cd n) (hE : EV M b e us) : Ct lyC y_E_fits b_E_fits 3 (some .boolean) 1 [.ref (ep b), .int (nI c)] M (Pi fun r M' => r = (if fitR cd e.1 e.2.1 c = true ∧ c ∉ us then 1 else 0) ∧ M' = M) := by
  refine Ct.ofG mx_E_fits [some (.ref (ep b)), some (.int (nI c)), none] rfl rfl (Nat.le_of_ble_eq_true rfl) (fun κ C hQ => ?_)
  refine u_aload_n (pc := 0) C d_E_fits_0 rfl ?_
  refine u_getr (pc := 1) (r := 0) C d_E_fits_1 fw_E_15 (shE0 hb) rfl (rf_E_0 hb) ?_
  refine u_getr (pc := 4) (r := 1) C d_E_fits_4 fw_E_66 sC_0 rfl rfl ?_
  refine u_iload_n (pc := 7) C d_E_fits_7 rfl ?_
  refine u_callSi (pc := 8) C d_E_fits_8 mx_L_at mw_E_54 (c_L_at sC_1) rfl rfl (Nat.le_of_ble_eq_true rfl) (fun r8 M8 q8 => ?_)
  obtain ⟨e8, q8⟩ := q8
  have q8 := q8.symm
  subst q8
  refine u_istore_n (pc := 11) C d_E_fits_11 rfl (fun x11 e11 L9 hL9 => ?_)
  obtain rfl : L9 = [some (.ref (ep b)), some (.int (nI c)), some (.int x11)] := hL9.symm
  obtain ⟨⟨kk, hkk, hck⟩, -, -, -, -⟩ := hW c hcn
  rw [(at_cd hcd hc).1] at e8
  have hf2 : famF (cd 0 c) = 2 ↔ isR cd c = true := by
    rw [hck, fam2 hkk, isR, hck, Bool.and_eq_true, decide_eq_true_eq, decide_eq_true_eq]
  refine u_iload_n (pc := 12) C d_E_fits_12 rfl ?_
  refine u_callSi (pc := 13) C d_E_fits_13 mx_L_familyOf mw_E_71 (c_L_familyOf) rfl rfl (Nat.le_of_ble_eq_true rfl) (fun r13 M13 q13 => ?_)
  obtain ⟨e13, q13⟩ := q13
  have q13 := q13.symm
  subst q13
  refine u_iconst (pc := 16) (v := 2) C d_E_fits_16 (by decide) ?_
  refine u_icmp_ne (pc := 17) (tgt := 49) C d_E_fits_17 rfl (fun c17 => ?_) (fun c17 => ?_)
  · refine u_iconst (pc := 49) (v := 0) C d_E_fits_49 (by decide) ?_
    refine u_zret (pc := 50) C d_E_fits_50 (by decide) (hQ _ _ ⟨_, rfl, ?_⟩)
    refine ⟨?_, rfl⟩
    rw [if_neg]
    rintro ⟨q1, q2⟩
    unfold fitR at q1
    rw [Bool.and_eq_true, Bool.and_eq_true] at q1
    exact c17 (by rw [e13, e11, e8]; exact hf2.mpr q1.1.1)
  · refine u_aload_n (pc := 20) C d_E_fits_20 rfl ?_
    refine u_geti (pc := 21) C d_E_fits_21 fw_E_36 (shE0 hb) rfl ?_
    refine u_iload_n (pc := 24) C d_E_fits_24 rfl ?_
    refine u_ishr (pc := 25) C d_E_fits_25 ?_
    refine u_iconst (pc := 26) (v := 1) C d_E_fits_26 (by decide) ?_
    refine u_iand (pc := 27) C d_E_fits_27 ?_
    refine u_if_ne (pc := 28) (tgt := 49) C d_E_fits_28 rfl (fun c28 => ?_) (fun c28 => ?_)
    · refine u_iconst (pc := 49) (v := 0) C d_E_fits_49 (by decide) ?_
      refine u_zret (pc := 50) C d_E_fits_50 (by decide) (hQ _ _ ⟨_, rfl, ?_⟩)
      refine ⟨?_, rfl⟩
      rw [if_neg]
      rintro ⟨q1, q2⟩
      unfold fitR at q1
      rw [Bool.and_eq_true, Bool.and_eq_true] at q1
      rw [bit1 (show c < 32 by omega), hE.2.2.2.2.2 c hc] at c28
      simp [q2] at c28
    · refine u_aload_n (pc := 31) C d_E_fits_31 rfl ?_
      refine u_getr (pc := 32) (r := 0) C d_E_fits_32 fw_E_15 (shE0 hb) rfl (rf_E_0 hb) ?_
      refine u_getr (pc := 35) (r := 3) C d_E_fits_35 fw_E_75 sC_0 rfl rfl ?_
      refine u_iload_n (pc := 38) C d_E_fits_38 rfl ?_
      refine u_callSi (pc := 39) C d_E_fits_39 mx_L_at mw_E_54 (c_L_at sC_3) rfl rfl (Nat.le_of_ble_eq_true rfl) (fun r39 M39 q39 => ?_)
      obtain ⟨e39, q39⟩ := q39
      have q39 := q39.symm
      subst q39
      refine u_aload_n (pc := 42) C d_E_fits_42 rfl ?_
      refine u_geti (pc := 43) C d_E_fits_43 fw_E_19 (shE0 hb) rfl ?_
      refine u_icmp_eq (pc := 46) (tgt := 51) C d_E_fits_46 rfl (fun c46 => ?_) (fun c46 => ?_)
      · refine u_iload_n (pc := 51) C d_E_fits_51 rfl ?_
        refine u_iconst (pc := 52) (v := 5) C d_E_fits_52 (by decide) ?_
        refine u_icmp_eq (pc := 53) (tgt := 80) C d_E_fits_53 rfl (fun c53 => ?_) (fun c53 => ?_)
        · refine u_iconst (pc := 80) (v := 1) C d_E_fits_80 (by decide) ?_
          refine u_goto (pc := 81) (tgt := 85) C d_E_fits_81 rfl ?_
          refine u_zret (pc := 85) C d_E_fits_85 (by decide) (hQ _ _ ⟨_, rfl, ?_⟩)
          refine ⟨?_, rfl⟩
          rw [e13, e11, e8, hf2] at c17
          rw [bit1 (show c < 32 by omega), hE.2.2.2.2.2 c hc] at c28
          rw [(at_cd hcd hc).2.2.1] at e39
          have hnu : c ∉ us := by simpa using c28
          rw [e39, hE.1] at c46
          rw [if_pos]
          refine ⟨?_, hnu⟩
          unfold fitR
          rw [Bool.and_eq_true, Bool.and_eq_true, Bool.or_eq_true, Bool.or_eq_true, decide_eq_true_eq, decide_eq_true_eq, decide_eq_true_eq, decide_eq_true_eq]
          rw [e11, e8] at c53
          exact ⟨⟨c17, c46⟩, Or.inl (Or.inl c53)⟩
        · refine u_iload_n (pc := 56) C d_E_fits_56 rfl ?_
          refine u_bipush (pc := 57) (v := 8) C d_E_fits_57 (by decide) ?_
          refine u_icmp_eq (pc := 59) (tgt := 80) C d_E_fits_59 rfl (fun c59 => ?_) (fun c59 => ?_)
          · refine u_iconst (pc := 80) (v := 1) C d_E_fits_80 (by decide) ?_
            refine u_goto (pc := 81) (tgt := 85) C d_E_fits_81 rfl ?_
            refine u_zret (pc := 85) C d_E_fits_85 (by decide) (hQ _ _ ⟨_, rfl, ?_⟩)
            refine ⟨?_, rfl⟩
            rw [e13, e11, e8, hf2] at c17
            rw [bit1 (show c < 32 by omega), hE.2.2.2.2.2 c hc] at c28
            rw [(at_cd hcd hc).2.2.1] at e39
            have hnu : c ∉ us := by simpa using c28
            rw [e39, hE.1] at c46
            rw [if_pos]
            refine ⟨?_, hnu⟩
            unfold fitR
            rw [Bool.and_eq_true, Bool.and_eq_true, Bool.or_eq_true, Bool.or_eq_true, decide_eq_true_eq, decide_eq_true_eq, decide_eq_true_eq, decide_eq_true_eq]
            rw [e11, e8] at c59
            exact ⟨⟨c17, c46⟩, Or.inl (Or.inr c59)⟩
          · refine u_aload_n (pc := 62) C d_E_fits_62 rfl ?_
            refine u_getr (pc := 63) (r := 0) C d_E_fits_63 fw_E_15 (shE0 hb) rfl (rf_E_0 hb) ?_
            refine u_getr (pc := 66) (r := 2) C d_E_fits_66 fw_E_78 sC_0 rfl rfl ?_
            refine u_iload_n (pc := 69) C d_E_fits_69 rfl ?_
            refine u_callSi (pc := 70) C d_E_fits_70 mx_L_at mw_E_54 (c_L_at sC_2) rfl rfl (Nat.le_of_ble_eq_true rfl) (fun r70 M70 q70 => ?_)
            obtain ⟨e70, q70⟩ := q70
            have q70 := q70.symm
            subst q70
            refine u_aload_n (pc := 73) C d_E_fits_73 rfl ?_
            refine u_geti (pc := 74) C d_E_fits_74 fw_E_23 (shE0 hb) rfl ?_
            refine u_icmp_ne (pc := 77) (tgt := 84) C d_E_fits_77 rfl (fun c77 => ?_) (fun c77 => ?_)
            · refine u_iconst (pc := 84) (v := 0) C d_E_fits_84 (by decide) ?_
              refine u_zret (pc := 85) C d_E_fits_85 (by decide) (hQ _ _ ⟨_, rfl, ?_⟩)
              refine ⟨?_, rfl⟩
              rw [e13, e11, e8, hf2] at c17
              rw [bit1 (show c < 32 by omega), hE.2.2.2.2.2 c hc] at c28
              rw [(at_cd hcd hc).2.2.1] at e39
              have hnu : c ∉ us := by simpa using c28
              rw [e39, hE.1] at c46
              rw [(at_cd hcd hc).2.1] at e70
              rw [e70, hE.2.1] at c77
              rw [if_neg]
              rintro ⟨q1, q2⟩
              unfold fitR at q1
              rw [Bool.and_eq_true, Bool.or_eq_true, Bool.or_eq_true, decide_eq_true_eq, decide_eq_true_eq, decide_eq_true_eq] at q1
              rw [e11, e8] at c53 c59
              rcases q1.2 with (q | q) | q
              · exact c53 q
              · exact c59 q
              · exact c77 q
            · refine u_iconst (pc := 80) (v := 1) C d_E_fits_80 (by decide) ?_
              refine u_goto (pc := 81) (tgt := 85) C d_E_fits_81 rfl ?_
              refine u_zret (pc := 85) C d_E_fits_85 (by decide) (hQ _ _ ⟨_, rfl, ?_⟩)
              refine ⟨?_, rfl⟩
              rw [e13, e11, e8, hf2] at c17
              rw [bit1 (show c < 32 by omega), hE.2.2.2.2.2 c hc] at c28
              rw [(at_cd hcd hc).2.2.1] at e39
              have hnu : c ∉ us := by simpa using c28
              rw [e39, hE.1] at c46
              rw [(at_cd hcd hc).2.1] at e70
              rw [e70, hE.2.1] at c77
              rw [if_pos]
              refine ⟨?_, hnu⟩
              unfold fitR
              rw [Bool.and_eq_true, Bool.and_eq_true, Bool.or_eq_true, Bool.or_eq_true, decide_eq_true_eq, decide_eq_true_eq, decide_eq_true_eq, decide_eq_true_eq]
              exact ⟨⟨c17, c46⟩, Or.inr c77⟩
      · refine u_iconst (pc := 49) (v := 0) C d_E_fits_49 (by decide) ?_
        refine u_zret (pc := 50) C d_E_fits_50 (by decide) (hQ _ _ ⟨_, rfl, ?_⟩)
        refine ⟨?_, rfl⟩
        rw [if_neg]
        rintro ⟨q1, q2⟩
        unfold fitR at q1
        rw [Bool.and_eq_true, Bool.and_eq_true] at q1
        rw [(at_cd hcd hc).2.2.1] at e39
        exact c46 (by rw [e39, hE.1]; simpa using q1.1.2)
