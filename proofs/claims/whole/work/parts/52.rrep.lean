/-! the reference: what replaces an event -/
theorem u_gmem {κ : KX} {y : LY} {pc : Nat} {L : List (Option Value)} {st : List Value} {M : Mem} (kk : ∀ M2, M2 = M → G κ y pc L st M2) : G κ y pc L st M := kk M rfl
def EVr (M : Mem) (e : Int32 × Int32 × Int32) (us : List Nat) : Prop := M.1 0 16 = e.1 ∧ M.1 0 17 = e.2.1 ∧ M.1 0 18 = e.2.2 ∧ USr M 15 219 us
def repR (p j : Nat) : Prop := (p = 0 ∧ 15 ≤ j ∧ j ≤ 18) ∨ p = 219
theorem RS.rep {M M' : Mem} {cd : Nat → Nat → Int32} {n : Nat} {g : Gm} {tb : List Nat} (h : RS M cd n g tb) (ho : OfR repR M M') : RS M' cd n g tb :=
  h.of ho (fun p j _ _ q => by rcases q with q | q <;> omega) (fun q => by rcases q with q | q <;> omega) (fun j q => by rcases q with q | q <;> omega)
set_option maxRecDepth 20000 in
theorem c_M_fits {cd : Nat → Nat → Int32} {n : Nat} {g : Gm} {tb : List Nat} {M : Mem} (hS : RS M cd n g tb) {c : Nat} (hc : c < 24) : Ct lyR y_M_fits b_M_fits 2 (some .boolean) 1 [.ref 0, .int (nI c)] M (Pi fun r M' => r = (if g 3 c = 3 ∧ fitR cd (M.1 0 16) (M.1 0 17) c = true then 1 else 0) ∧ M' = M) := by
  have hw := hS.wh hc
  obtain ⟨k1, k2, k3, k4, k5⟩ := hS.cdc
  have hcl : (nI c).toNatClampNeg = c := nI_clamp (by omega)
  have i1 : M.1 1 (nI c).toNatClampNeg = cd 0 c := by rw [k1, hcl]
  have i2 : M.1 2 (nI c).toNatClampNeg = cd 1 c := by rw [k2, hcl]
  have i3 : M.1 3 (nI c).toNatClampNeg = cd 2 c := by rw [k3, hcl]
  have efr : fitR cd (M.1 0 16) (M.1 0 17) c = true ↔ ((5 ≤ cd 0 c ∧ cd 0 c ≤ 8) ∧ cd 2 c = M.1 0 16) ∧ ((cd 0 c = 5 ∨ cd 0 c = 8) ∨ cd 1 c = M.1 0 17) := by
    unfold fitR isR
    simp only [Bool.and_eq_true, Bool.or_eq_true, decide_eq_true_eq]
  refine Ct.ofG mx_M_fits [some (.ref 0), some (.int (nI c))] rfl rfl (Nat.le_of_ble_eq_true rfl) (fun κ C hQ => ?_)
  refine u_aload_n (pc := 0) C d_M_fits_0 rfl ?_
  refine u_iload_n (pc := 1) C d_M_fits_1 rfl ?_
  refine u_iconst (pc := 2) (v := 3) C d_M_fits_2 (by decide) ?_
  refine u_callVi (pc := 3) C d_M_fits_3 mx_M_isAt mw_M_164 sR_0 rfl (c_M_isAt hc) rfl rfl (Nat.le_of_ble_eq_true rfl) (fun r3 M3 q3 => ?_)
  obtain ⟨e3, q3⟩ := q3
  have q3 := q3.symm
  subst q3
  refine u_if_eq (pc := 6) (tgt := 37) C d_M_fits_6 rfl (fun c6 => ?_) (fun c6 => ?_)
  · refine u_iconst (pc := 37) (v := 0) C d_M_fits_37 (by decide) ?_
    refine u_zret (pc := 38) C d_M_fits_38 (by decide) (hQ _ _ ⟨_, rfl, ?_⟩)
    refine ⟨?_, rfl⟩
    rw [hw] at e3
    rw [if_neg (fun z => zero_of e3 c6 z.1)]
  · refine u_aload_n (pc := 9) C d_M_fits_9 rfl ?_
    refine u_getr (pc := 10) (r := 1) C d_M_fits_10 fw_M_9 sR_0 rfl rfl ?_
    refine u_iload_n (pc := 13) C d_M_fits_13 rfl ?_
    refine u_iald (pc := 14) C d_M_fits_14 sR_1 (vp24 hc) ?_
    refine u_iconst (pc := 15) (v := 5) C d_M_fits_15 (by decide) ?_
    refine u_bipush (pc := 16) (v := 8) C d_M_fits_16 (by decide) ?_
    refine u_callSi (pc := 18) C d_M_fits_18 mx_M_in mw_M_73 (c_M_in) rfl rfl (Nat.le_of_ble_eq_true rfl) (fun r18 M18 q18 => ?_)
    obtain ⟨e18, q18⟩ := q18
    have q18 := q18.symm
    subst q18
    refine u_if_eq (pc := 21) (tgt := 37) C d_M_fits_21 rfl (fun c21 => ?_) (fun c21 => ?_)
    · refine u_iconst (pc := 37) (v := 0) C d_M_fits_37 (by decide) ?_
      refine u_zret (pc := 38) C d_M_fits_38 (by decide) (hQ _ _ ⟨_, rfl, ?_⟩)
      refine ⟨?_, rfl⟩
      rw [e18, i1] at c21
      rw [if_neg]
      intro z
      have z1 := (efr.mp z.2).1.1
      rcases in_n c21 with q | q
      · exact absurd z1.1 (Int32.not_le.mpr q)
      · exact absurd z1.2 (Int32.not_le.mpr q)
    · refine u_aload_n (pc := 24) C d_M_fits_24 rfl ?_
      refine u_getr (pc := 25) (r := 3) C d_M_fits_25 fw_M_16 sR_0 rfl rfl ?_
      refine u_iload_n (pc := 28) C d_M_fits_28 rfl ?_
      refine u_iald (pc := 29) C d_M_fits_29 sR_3 (vp24 hc) ?_
      refine u_aload_n (pc := 30) C d_M_fits_30 rfl ?_
      refine u_geti (pc := 31) C d_M_fits_31 fw_M_202 sR_0 rfl ?_
      refine u_icmp_eq (pc := 34) (tgt := 39) C d_M_fits_34 rfl (fun c34 => ?_) (fun c34 => ?_)
      · refine u_aload_n (pc := 39) C d_M_fits_39 rfl ?_
        refine u_getr (pc := 40) (r := 1) C d_M_fits_40 fw_M_9 sR_0 rfl rfl ?_
        refine u_iload_n (pc := 43) C d_M_fits_43 rfl ?_
        refine u_iald (pc := 44) C d_M_fits_44 sR_1 (vp24 hc) ?_
        refine u_iconst (pc := 45) (v := 5) C d_M_fits_45 (by decide) ?_
        refine u_icmp_eq (pc := 46) (tgt := 73) C d_M_fits_46 rfl (fun c46 => ?_) (fun c46 => ?_)
        · refine u_iconst (pc := 73) (v := 1) C d_M_fits_73 (by decide) ?_
          refine u_goto (pc := 74) (tgt := 78) C d_M_fits_74 rfl ?_
          refine u_zret (pc := 78) C d_M_fits_78 (by decide) (hQ _ _ ⟨_, rfl, ?_⟩)
          refine ⟨?_, rfl⟩
          rw [hw] at e3
          have h3 := one_of e3 c6
          rw [e18, i1] at c21
          have h58 := in_y c21
          rw [i3] at c34
          rw [i1] at c46
          
          have hz : (5 ≤ cd 0 c ∧ cd 0 c ≤ 8) := ⟨Int32.not_lt.mp h58.1, Int32.not_lt.mp h58.2⟩
          rw [if_pos ⟨h3, efr.mpr ⟨⟨hz, c34⟩, Or.inl (Or.inl c46)⟩⟩]
        · refine u_aload_n (pc := 49) C d_M_fits_49 rfl ?_
          refine u_getr (pc := 50) (r := 1) C d_M_fits_50 fw_M_9 sR_0 rfl rfl ?_
          refine u_iload_n (pc := 53) C d_M_fits_53 rfl ?_
          refine u_iald (pc := 54) C d_M_fits_54 sR_1 (vp24 hc) ?_
          refine u_bipush (pc := 55) (v := 8) C d_M_fits_55 (by decide) ?_
          refine u_icmp_eq (pc := 57) (tgt := 73) C d_M_fits_57 rfl (fun c57 => ?_) (fun c57 => ?_)
          · refine u_iconst (pc := 73) (v := 1) C d_M_fits_73 (by decide) ?_
            refine u_goto (pc := 74) (tgt := 78) C d_M_fits_74 rfl ?_
            refine u_zret (pc := 78) C d_M_fits_78 (by decide) (hQ _ _ ⟨_, rfl, ?_⟩)
            refine ⟨?_, rfl⟩
            rw [hw] at e3
            have h3 := one_of e3 c6
            rw [e18, i1] at c21
            have h58 := in_y c21
            rw [i3] at c34
            rw [i1] at c46
            rw [i1] at c57
            have hz : (5 ≤ cd 0 c ∧ cd 0 c ≤ 8) := ⟨Int32.not_lt.mp h58.1, Int32.not_lt.mp h58.2⟩
            rw [if_pos ⟨h3, efr.mpr ⟨⟨hz, c34⟩, Or.inl (Or.inr c57)⟩⟩]
          · refine u_aload_n (pc := 60) C d_M_fits_60 rfl ?_
            refine u_getr (pc := 61) (r := 2) C d_M_fits_61 fw_M_13 sR_0 rfl rfl ?_
            refine u_iload_n (pc := 64) C d_M_fits_64 rfl ?_
            refine u_iald (pc := 65) C d_M_fits_65 sR_2 (vp24 hc) ?_
            refine u_aload_n (pc := 66) C d_M_fits_66 rfl ?_
            refine u_geti (pc := 67) C d_M_fits_67 fw_M_205 sR_0 rfl ?_
            refine u_icmp_ne (pc := 70) (tgt := 77) C d_M_fits_70 rfl (fun c70 => ?_) (fun c70 => ?_)
            · refine u_iconst (pc := 77) (v := 0) C d_M_fits_77 (by decide) ?_
              refine u_zret (pc := 78) C d_M_fits_78 (by decide) (hQ _ _ ⟨_, rfl, ?_⟩)
              refine ⟨?_, rfl⟩
              rw [hw] at e3
              have h3 := one_of e3 c6
              rw [e18, i1] at c21
              have h58 := in_y c21
              rw [i3] at c34
              rw [i1] at c46
              rw [i1] at c57
              have hz : (5 ≤ cd 0 c ∧ cd 0 c ≤ 8) := ⟨Int32.not_lt.mp h58.1, Int32.not_lt.mp h58.2⟩
              rw [i2] at c70
              rw [if_neg (fun z => (efr.mp z.2).2.elim (fun q => q.elim c46 c57) c70)]
            · refine u_iconst (pc := 73) (v := 1) C d_M_fits_73 (by decide) ?_
              refine u_goto (pc := 74) (tgt := 78) C d_M_fits_74 rfl ?_
              refine u_zret (pc := 78) C d_M_fits_78 (by decide) (hQ _ _ ⟨_, rfl, ?_⟩)
              refine ⟨?_, rfl⟩
              rw [hw] at e3
              have h3 := one_of e3 c6
              rw [e18, i1] at c21
              have h58 := in_y c21
              rw [i3] at c34
              rw [i1] at c46
              rw [i1] at c57
              have hz : (5 ≤ cd 0 c ∧ cd 0 c ≤ 8) := ⟨Int32.not_lt.mp h58.1, Int32.not_lt.mp h58.2⟩
              rw [i2] at c70
              rw [if_pos ⟨h3, efr.mpr ⟨⟨hz, c34⟩, Or.inr c70⟩⟩]
      · refine u_iconst (pc := 37) (v := 0) C d_M_fits_37 (by decide) ?_
        refine u_zret (pc := 38) C d_M_fits_38 (by decide) (hQ _ _ ⟨_, rfl, ?_⟩)
        refine ⟨?_, rfl⟩
        rw [i3] at c34
        rw [if_neg (fun z => c34 (efr.mp z.2).1.2)]
theorem RS.unm {M : Mem} {cd : Nat → Nat → Int32} {n c : Nat} {g : Gm} {tb us : List Nat} (h : RS M cd n g tb) : c ∈ unu tb us ↔ c < n ∧ g 3 c = 3 ∧ c ∉ us := by
  unfold unu
  rw [List.mem_filter, h.tbm]
  simp only [decide_eq_true_eq]
  exact ⟨fun q => ⟨q.1.1, q.1.2, q.2⟩, fun q => ⟨⟨q.1, q.2.1⟩, q.2.2⟩⟩
def plR (cd : Nat → Nat → Int32) (un : List Nat) (t p : Int32) (c : Nat) : Bool := decide (c ∈ un) && fitR cd t p c
set_option maxRecDepth 20000 in
theorem lp_nextReplacer {κ : KX} {cd : Nat → Nat → Int32} {n : Nat} {g : Gm} {tb : List Nat} {M : Mem} (hS : RS M cd n g tb) {us : List Nat} {e : Int32 × Int32 × Int32} (hE : EVr M e us) (C : Cx κ lyR y_M_nextReplacer.cls b_M_nextReplacer 3 (some .int) 2) (hQ : ∀ v M', Pi (fun r M' => r = oI ((unu tb us).find? (fitR cd e.1 e.2.1)) ∧ M' = M) v M' → KQ κ v M') : ∀ (f i : Nat) (x1 : Int32), i ≤ n → n - i < f → x1 = oI (amin (ltR M) (plR cd (unu tb us) e.1 e.2.1) i) → G κ lyR 4 [some (.ref 0), some (.int x1), some (.int (nI i))] [] M := by
  intro f
  induction f with
  | zero => intro i x1 _ h; omega
  | succ f ih =>
    intro i x1 hi hf e1
    have n24 := hS.n24
    have h5 := hS.2.2.1
    have hin : nI n ≤ nI i ↔ n ≤ i := nI_leI (by omega) (by omega)
    obtain ⟨ev1, ev2, ev3, hU⟩ := id hE
    have hbd : ∀ b, amin (ltR M) (plR cd (unu tb us) e.1 e.2.1) i = some b → b < 24 := fun b hb => by have := (amin_lt hb).1; omega
    refine u_iload_n (pc := 4) C d_M_nextReplacer_4 rfl ?_
    refine u_aload_n (pc := 5) C d_M_nextReplacer_5 rfl ?_
    refine u_geti (pc := 6) C d_M_nextReplacer_6 fw_M_70 sR_0 rfl ?_
    refine u_icmp_ge (pc := 9) (tgt := 61) C d_M_nextReplacer_9 rfl (fun c9 => ?_) (fun c9 => ?_)
    · refine u_iload_n (pc := 61) C d_M_nextReplacer_61 rfl ?_
      refine u_iret (pc := 62) C d_M_nextReplacer_62 (hQ _ _ ⟨_, rfl, ?_⟩)
      have hge : i = n := by rw [h5, hin] at c9; omega
      subst hge
      refine ⟨?_, rfl⟩
      rw [e1]
      congr 1
      refine amin_l ltR_tr ltR_ir (hS.srt.filter _) (fun c hc => (hS.unm.mp hc).1) (fun c _ hp => ?_) (fun c hc => ?_)
      · unfold plR at hp
        rw [Bool.and_eq_true, decide_eq_true_eq] at hp
        exact hp.1
      · unfold plR
        rw [Bool.and_eq_true, decide_eq_true_eq]
        exact ⟨fun q => q.2, fun q => ⟨hc, q⟩⟩
    · have hlt : i < n := by rw [h5, hin] at c9; omega
      have hi24 : i < 24 := by omega
      refine u_aload_n (pc := 12) C d_M_nextReplacer_12 rfl ?_
      refine u_iload_n (pc := 13) C d_M_nextReplacer_13 rfl ?_
      refine u_callVi (pc := 14) C d_M_nextReplacer_14 mx_M_fits mw_M_211 sR_0 rfl (c_M_fits hS hi24) rfl rfl (Nat.le_of_ble_eq_true rfl) (fun r14 M14 q14 => ?_)
      obtain ⟨e14, q14⟩ := q14
      have q14 := q14.symm
      subst q14
      rw [ev1, ev2] at e14
      refine u_if_eq (pc := 17) (tgt := 55) C d_M_nextReplacer_17 rfl (fun c17 => ?_) (fun c17 => ?_)
      · refine u_iinc (pc := 55) (v2 := 1) C d_M_nextReplacer_55 rfl rfl (by decide) (fun x55 e55 L9 hL9 => ?_)
        obtain rfl : L9 = [some (.ref 0), some (.int x1), some (.int x55)] := hL9.symm
        refine u_goto (pc := 58) (tgt := 4) C d_M_nextReplacer_58 rfl ?_
        obtain rfl : x55 = nI (i + 1) := by rw [e55, nI_succ]
        have hP : ¬ plR cd (unu tb us) e.1 e.2.1 i = true := by
          unfold plR
          rw [Bool.and_eq_true, decide_eq_true_eq, hS.unm]
          rintro ⟨z1, z2⟩
          exact zero_of e14 c17 ⟨z1.2.1, z2⟩
        exact ih (i + 1) _ (by omega) (by omega) (by rw [e1, amin_no hP])
      · refine u_aload_n (pc := 20) C d_M_nextReplacer_20 rfl ?_
        refine u_iload_n (pc := 21) C d_M_nextReplacer_21 rfl ?_
        refine u_callVi (pc := 22) C d_M_nextReplacer_22 mx_M_wasUsed mw_M_214 sR_0 rfl (c_M_wasUsed hU hi24) rfl rfl (Nat.le_of_ble_eq_true rfl) (fun r22 M22 q22 => ?_)
        obtain ⟨e22, q22⟩ := q22
        have q22 := q22.symm
        subst q22
        refine u_if_ne (pc := 25) (tgt := 55) C d_M_nextReplacer_25 rfl (fun c25 => ?_) (fun c25 => ?_)
        · refine u_iinc (pc := 55) (v2 := 1) C d_M_nextReplacer_55 rfl rfl (by decide) (fun x55 e55 L9 hL9 => ?_)
          obtain rfl : L9 = [some (.ref 0), some (.int x1), some (.int x55)] := hL9.symm
          refine u_goto (pc := 58) (tgt := 4) C d_M_nextReplacer_58 rfl ?_
          obtain rfl : x55 = nI (i + 1) := by rw [e55, nI_succ]
          have hP : ¬ plR cd (unu tb us) e.1 e.2.1 i = true := by
            unfold plR
            rw [Bool.and_eq_true, decide_eq_true_eq, hS.unm]
            rintro ⟨z1, z2⟩
            exact z1.2.2 (one_of e22 c25)
          exact ih (i + 1) _ (by omega) (by omega) (by rw [e1, amin_no hP])
        · refine u_iload_n (pc := 28) C d_M_nextReplacer_28 rfl ?_
          refine u_if_lt (pc := 29) (tgt := 53) C d_M_nextReplacer_29 rfl (fun c29 => ?_) (fun c29 => ?_)
          · refine u_iload_n (pc := 53) C d_M_nextReplacer_53 rfl ?_
            refine u_istore_n (pc := 54) C d_M_nextReplacer_54 rfl (fun x54 e54 L9 hL9 => ?_)
            obtain rfl : L9 = [some (.ref 0), some (.int x54), some (.int (nI i))] := hL9.symm
            refine u_iinc (pc := 55) (v2 := 1) C d_M_nextReplacer_55 rfl rfl (by decide) (fun x55 e55 L9 hL9 => ?_)
            obtain rfl : L9 = [some (.ref 0), some (.int x54), some (.int x55)] := hL9.symm
            refine u_goto (pc := 58) (tgt := 4) C d_M_nextReplacer_58 rfl ?_
            obtain rfl : x55 = nI (i + 1) := by rw [e55, nI_succ]
            have hP : plR cd (unu tb us) e.1 e.2.1 i = true := by
              unfold plR
              rw [Bool.and_eq_true, decide_eq_true_eq, hS.unm]
              exact ⟨⟨hlt, (one_of e14 c17).1, zero_of e22 c25⟩, (one_of e14 c17).2⟩
            have hn9 := oI_none (fun c hc => by have := hbd c hc; omega) (by rw [← e1]; exact c29)
            exact ih (i + 1) _ (by omega) (by omega) (by rw [e54, amin_new hP hn9]; rfl)
          · have hb := oI_some (by rw [← e1]; exact c29)
            obtain ⟨b, hb⟩ := hb
            have hb24 := hbd b hb
            have e2' : x1 = nI b := by rw [e1, hb]; rfl
            subst e2' 
            refine u_aload_n (pc := 32) C d_M_nextReplacer_32 rfl ?_
            refine u_getr (pc := 33) (r := 6) C d_M_nextReplacer_33 fw_M_25 sR_0 rfl rfl ?_
            refine u_bipush (pc := 36) (v := 95) C d_M_nextReplacer_36 (by decide) ?_
            refine u_iload_n (pc := 38) C d_M_nextReplacer_38 rfl ?_
            refine u_iadd (pc := 39) C d_M_nextReplacer_39 ?_
            refine u_iald (pc := 40) C d_M_nextReplacer_40 sR_6 (vp95 hi24) ?_
            refine u_aload_n (pc := 41) C d_M_nextReplacer_41 rfl ?_
            refine u_getr (pc := 42) (r := 6) C d_M_nextReplacer_42 fw_M_25 sR_0 rfl rfl ?_
            refine u_bipush (pc := 45) (v := 95) C d_M_nextReplacer_45 (by decide) ?_
            refine u_iload_n (pc := 47) C d_M_nextReplacer_47 rfl ?_
            refine u_iadd (pc := 48) C d_M_nextReplacer_48 ?_
            refine u_iald (pc := 49) C d_M_nextReplacer_49 sR_6 (vp95 hb24) ?_
            refine u_icmp_ge (pc := 50) (tgt := 55) C d_M_nextReplacer_50 rfl (fun c50 => ?_) (fun c50 => ?_)
            · refine u_iinc (pc := 55) (v2 := 1) C d_M_nextReplacer_55 rfl rfl (by decide) (fun x55 e55 L9 hL9 => ?_)
              obtain rfl : L9 = [some (.ref 0), some (.int (nI b)), some (.int x55)] := hL9.symm
              refine u_goto (pc := 58) (tgt := 4) C d_M_nextReplacer_58 rfl ?_
              obtain rfl : x55 = nI (i + 1) := by rw [e55, nI_succ]
              have hP : plR cd (unu tb us) e.1 e.2.1 i = true := by
                unfold plR
                rw [Bool.and_eq_true, decide_eq_true_eq, hS.unm]
                exact ⟨⟨hlt, (one_of e14 c17).1, zero_of e22 c25⟩, (one_of e14 c17).2⟩
              rw [ix95 hi24, ix95 hb24] at c50
              exact ih (i + 1) _ (by omega) (by omega) (by rw [amin_more hb (by unfold ltR; rw [decide_eq_true_eq]; exact Int32.not_lt.mpr c50)]; rfl)
            · refine u_iload_n (pc := 53) C d_M_nextReplacer_53 rfl ?_
              refine u_istore_n (pc := 54) C d_M_nextReplacer_54 rfl (fun x54 e54 L9 hL9 => ?_)
              obtain rfl : L9 = [some (.ref 0), some (.int x54), some (.int (nI i))] := hL9.symm
              refine u_iinc (pc := 55) (v2 := 1) C d_M_nextReplacer_55 rfl rfl (by decide) (fun x55 e55 L9 hL9 => ?_)
              obtain rfl : L9 = [some (.ref 0), some (.int x54), some (.int x55)] := hL9.symm
              refine u_goto (pc := 58) (tgt := 4) C d_M_nextReplacer_58 rfl ?_
              obtain rfl : x55 = nI (i + 1) := by rw [e55, nI_succ]
              have hP : plR cd (unu tb us) e.1 e.2.1 i = true := by
                unfold plR
                rw [Bool.and_eq_true, decide_eq_true_eq, hS.unm]
                exact ⟨⟨hlt, (one_of e14 c17).1, zero_of e22 c25⟩, (one_of e14 c17).2⟩
              rw [ix95 hi24, ix95 hb24] at c50
              exact ih (i + 1) _ (by omega) (by omega) (by rw [e54, amin_less hP hb (by unfold ltR; rw [decide_eq_true_eq]; exact Int32.not_le.mp c50)]; rfl)
set_option maxRecDepth 20000 in
theorem c_M_nextReplacer {cd : Nat → Nat → Int32} {n : Nat} {g : Gm} {tb : List Nat} {M : Mem} (hS : RS M cd n g tb) {us : List Nat} {e : Int32 × Int32 × Int32} (hE : EVr M e us) : Ct lyR y_M_nextReplacer b_M_nextReplacer 3 (some .int) 2 [.ref 0] M (Pi fun r M' => r = oI ((unu tb us).find? (fitR cd e.1 e.2.1)) ∧ M' = M) := by
  refine Ct.ofG mx_M_nextReplacer [some (.ref 0), none, none] rfl rfl (Nat.le_of_ble_eq_true rfl) (fun κ C hQ => ?_)
  refine u_iconst (pc := 0) (v := (-1)) C d_M_nextReplacer_0 (by decide) ?_
  refine u_istore_n (pc := 1) C d_M_nextReplacer_1 rfl (fun x1 e1 L9 hL9 => ?_)
  obtain rfl : L9 = [some (.ref 0), some (.int x1), none] := hL9.symm
  refine u_iconst (pc := 2) (v := 0) C d_M_nextReplacer_2 (by decide) ?_
  refine u_istore_n (pc := 3) C d_M_nextReplacer_3 rfl (fun x3 e3 L9 hL9 => ?_)
  obtain rfl : L9 = [some (.ref 0), some (.int x1), some (.int x3)] := hL9.symm
  subst e3
  obtain rfl : x1 = -1 := e1
  exact lp_nextReplacer hS hE C hQ (n + 1) 0 _ (by omega) (by omega) amin_0.symm
theorem repl_step {cd : Nat → Nat → Int32} {tb us : List Nat} {e : Int32 × Int32 × Int32} {c : Nat} (hnd : tb.Nodup) (h : (unu tb us).find? (fitR cd e.1 e.2.1) = some c) :
    (repl cd (unu tb us).length (unu tb us) e).1 = (repl cd (unu tb (us ++ [c])).length (unu tb (us ++ [c])) (useR cd e c)).1 ∧ (repl cd (unu tb us).length (unu tb us) e).2 = c :: (repl cd (unu tb (us ++ [c])).length (unu tb (us ++ [c])) (useR cd e c)).2 := by
  have hm := List.mem_of_find?_eq_some h
  have hl := List.length_erase_of_mem hm
  have hp := List.length_pos_of_mem hm
  rw [← unu_erase hnd] at *
  rw [show (unu tb us).length = ((unu tb us).erase c).length + 1 by omega, repl, h]
  exact ⟨rfl, rfl⟩
theorem repl_stop {cd : Nat → Nat → Int32} {un : List Nat} {e : Int32 × Int32 × Int32} (h : un.find? (fitR cd e.1 e.2.1) = none) (k : Nat) : repl cd k un e = (e, []) := by
  cases k with
  | zero => rfl
  | succ k => rw [repl, h]
theorem useR_1 {cd : Nat → Nat → Int32} {e : Int32 × Int32 × Int32} {c : Nat} : (useR cd e c).1 = if cd 0 c = 8 then remF (cd 3 c) 3 else e.1 := rfl
theorem useR_2 {cd : Nat → Nat → Int32} {e : Int32 × Int32 × Int32} {c : Nat} : (useR cd e c).2.1 = if cd 0 c = 6 then 1 - e.2.1 else e.2.1 := rfl
theorem useR_3 {cd : Nat → Nat → Int32} {e : Int32 × Int32 × Int32} {c : Nat} : (useR cd e c).2.2 = withinF (repF (cd 0 c) (cd 4 c) e.2.2) 0 99 := rfl
theorem within_a {a : Nat} (h : a ≤ 99) : withinF (nI a) 0 99 = nI a := by
  have e0 : (0 : Int32) ≤ nI a := nI_pos' (by omega)
  rw [withinF, if_pos e0, if_pos (show nI a ≤ (99 : Int32) from nI_le (b := 99) h (by decide))]
theorem fit_kind {cd : Nat → Nat → Int32} {t p : Int32} {c : Nat} (h : fitR cd t p c = true) (h5 : ¬ cd 0 c = 5) (h6 : ¬ cd 0 c = 6) (h7 : ¬ cd 0 c = 7) : cd 0 c = 8 := by
  unfold fitR isR at h
  simp only [Bool.and_eq_true, decide_eq_true_eq] at h
  obtain ⟨⟨⟨h1, h2⟩, -⟩, -⟩ := h
  have e : ∀ k : Int32, 5 ≤ k.toInt ∧ k.toInt ≤ 8 → (cd 0 c).toInt = k.toInt → cd 0 c = k := fun k _ q => Int32.toInt_inj.mp q
  have a5 : ¬ (cd 0 c).toInt = (5 : Int32).toInt := fun q => h5 (e 5 (by decide) q)
  have a6 : ¬ (cd 0 c).toInt = (6 : Int32).toInt := fun q => h6 (e 6 (by decide) q)
  have a7 : ¬ (cd 0 c).toInt = (7 : Int32).toInt := fun q => h7 (e 7 (by decide) q)
  refine e 8 (by decide) ?_
  rw [Int32.le_iff_toInt_le] at h1 h2
  have z5 : (5 : Int32).toInt = 5 := by decide
  have z6 : (6 : Int32).toInt = 6 := by decide
  have z7 : (7 : Int32).toInt = 7 := by decide
  have z8 : (8 : Int32).toInt = 8 := by decide
  rw [z5] at a5 h1
  rw [z6] at a6
  rw [z7] at a7
  rw [z8] at h2 ⊢
  omega
set_option maxRecDepth 20000 in
theorem lp_repE {κ : KX} {M : Mem} (C : Cx κ lyR y_M_replaced.cls b_M_replaced 5 none 3) {x1 x2 x3 : Int32} (hQ : ∀ v M', Pv (fun M' => M' = M) v M' → KQ κ v M') : ∀ (x4 : Int32), x4 < 0 → G κ lyR 32 [some (.ref 0), some (.int x1), some (.int x2), some (.int x3), some (.int x4)] [] M := by
  intro x4 hx1
  refine u_iload (pc := 32) C d_M_replaced_32 rfl ?_
  refine u_if_lt (pc := 34) (tgt := 169) C d_M_replaced_34 rfl (fun c34 => ?_) (fun c34 => ?_)
  · refine u_vret (pc := 169) C d_M_replaced_169 (hQ _ _ ⟨rfl, ?_⟩)
    rfl
  · exact absurd hx1 c34
set_option maxRecDepth 20000 in
theorem lp_rep {κ : KX} {cd : Nat → Nat → Int32} {n : Nat} {g : Gm} {tb : List Nat} {M : Mem} (hS : RS M cd n g tb) {t p a : Int32} (he0 : evok (t, p, withinF a 0 99)) {x1 x2 x3 : Int32} (C : Cx κ lyR y_M_replaced.cls b_M_replaced 5 none 3) (hQ : ∀ v M', Pv (fun M' => EVr M' (rep cd tb t p a).1 (rep cd tb t p a).2 ∧ OfR repR M M') v M' → KQ κ v M') : ∀ (f : Nat) (us : List Nat) (e : Int32 × Int32 × Int32) (M1 : Mem) (x4 : Int32), (unu tb us).length < f → OfR repR M M1 → EVr M1 e us → x4 = oI ((unu tb us).find? (fitR cd e.1 e.2.1)) → (repl cd (unu tb us).length (unu tb us) e).1 = (rep cd tb t p a).1 → us ++ (repl cd (unu tb us).length (unu tb us) e).2 = (rep cd tb t p a).2 → evok e → G κ lyR 32 [some (.ref 0), some (.int x1), some (.int x2), some (.int x3), some (.int x4)] [] M1 := by
  intro f
  induction f with
  | zero => intro us e M1 x4 h; omega
  | succ f ih =>
    intro us e M1 x4 hf ho hE hx4 he1 he2 hev
    have n24 := hS.n24
    have hS1 : RS M1 cd n g tb := hS.rep ho
    have hnd := hS.1.2.1.1
    obtain ⟨ev1, ev2, ev3, hU⟩ := id hE
    obtain ⟨u1, u2, u3, u4⟩ := id hU
    refine u_iload (pc := 32) C d_M_replaced_32 rfl ?_
    refine u_if_lt (pc := 34) (tgt := 169) C d_M_replaced_34 rfl (fun c34 => ?_) (fun c34 => ?_)
    · refine u_vret (pc := 169) C d_M_replaced_169 (hQ _ _ ⟨rfl, ?_⟩)
      rw [hx4] at c34
      have h0 := oI_none (fun c hc => by have := (hS1.unm.mp (List.mem_of_find?_eq_some hc)).1; omega) c34
      rw [repl_stop h0] at he1 he2
      rw [List.append_nil] at he2
      rw [← he1, ← he2]
      exact ⟨hE, ho⟩
    · rw [hx4] at c34
      obtain ⟨c, hc⟩ := oI_some c34
      have ex : x4 = nI c := by rw [hx4, hc]; rfl
      subst ex
      obtain ⟨hst1, hst2⟩ := repl_step hnd hc
      have hm := List.mem_of_find?_eq_some hc
      have hcm := hS1.unm.mp hm
      have hcn := hcm.1
      have hc24 : c < 24 := by omega
      have hfit := List.find?_some hc
      have hul : us.length < 24 := by
        have h9 := repl_len (cd := cd) tb.length tb (t, p, withinF a 0 99)
        have h8 : (rep cd tb t p a).2.length ≤ 24 := Nat.le_trans h9 hS.1.tl.1
        rw [← he2, hst2, List.length_append, List.length_cons] at h8
        omega
      have hcl : (nI c).toNatClampNeg = c := nI_clamp (by omega)
      obtain ⟨aa, haa, hea⟩ := hev.2.2
      have hok := useR_ok hS.1.1.2 hcn hev
      refine u_aload_n (pc := 37) C d_M_replaced_37 rfl ?_
      refine u_getr (pc := 38) (r := 219) C d_M_replaced_38 fw_M_49 sR_0 rfl rfl ?_
      refine u_aload_n (pc := 41) C d_M_replaced_41 rfl ?_
      refine u_dup (pc := 42) C d_M_replaced_42 rfl ?_
      refine u_geti (pc := 43) C d_M_replaced_43 fw_M_208 sR_0 rfl ?_
      refine u_dup_x1 (pc := 46) C d_M_replaced_46 rfl rfl ?_
      refine u_iconst (pc := 47) (v := 1) C d_M_replaced_47 (by decide) ?_
      refine u_iadd (pc := 48) C d_M_replaced_48 ?_
      refine u_put (pc := 49) C d_M_replaced_49 fw_M_208 sR_0 rfl (Or.inl rfl) ?_
      refine u_iload (pc := 52) C d_M_replaced_52 rfl ?_
      refine u_iast (pc := 54) C d_M_replaced_54 sR_219 (by rw [u1]; exact vp_in_nI (by omega) (by decide)) ?_
      refine u_gmem (fun M5 e5 => ?_)
      rw [u1, ← nI_succ, nI_clamp (by omega)] at e5
      have o5 : OfR repR M1 M5 := by
        rw [e5]
        exact (OfR.up (Or.inl ⟨rfl, by decide, by decide⟩)).trans (OfR.up (Or.inr rfl))
      have hU5 : USr M5 15 219 (us ++ [c]) := by
        rw [e5]
        exact hU.add (by decide) hul hc24
      have v16 : M5.1 0 16 = e.1 := by rw [e5, up_ne (by decide), up_j (by decide)]; exact ev1
      have v17 : M5.1 0 17 = e.2.1 := by rw [e5, up_ne (by decide), up_j (by decide)]; exact ev2
      have v18 : M5.1 0 18 = e.2.2 := by rw [e5, up_ne (by decide), up_j (by decide)]; exact ev3
      obtain ⟨k1, k2, k3, k4, k5⟩ := (hS1.rep o5).cdc
      have i1 : M5.1 1 (nI c).toNatClampNeg = cd 0 c := by rw [k1, hcl]
      have i4 : M5.1 4 (nI c).toNatClampNeg = cd 3 c := by rw [k4, hcl]
      have i5 : M5.1 5 (nI c).toNatClampNeg = cd 4 c := by rw [k5, hcl]
      clear e5
      refine u_aload_n (pc := 55) C d_M_replaced_55 rfl ?_
      refine u_getr (pc := 56) (r := 1) C d_M_replaced_56 fw_M_9 sR_0 rfl rfl ?_
      refine u_iload (pc := 59) C d_M_replaced_59 rfl ?_
      refine u_iald (pc := 61) C d_M_replaced_61 sR_1 (vp24 hc24) ?_
      refine u_iconst (pc := 62) (v := 5) C d_M_replaced_62 (by decide) ?_
      refine u_icmp_ne (pc := 63) (tgt := 85) C d_M_replaced_63 rfl (fun c63 => ?_) (fun c63 => ?_)
      · refine u_aload_n (pc := 85) C d_M_replaced_85 rfl ?_
        refine u_getr (pc := 86) (r := 1) C d_M_replaced_86 fw_M_9 sR_0 rfl rfl ?_
        refine u_iload (pc := 89) C d_M_replaced_89 rfl ?_
        refine u_iald (pc := 91) C d_M_replaced_91 sR_1 (vp24 hc24) ?_
        refine u_bipush (pc := 92) (v := 6) C d_M_replaced_92 (by decide) ?_
        refine u_icmp_ne (pc := 94) (tgt := 110) C d_M_replaced_94 rfl (fun c94 => ?_) (fun c94 => ?_)
        · refine u_aload_n (pc := 110) C d_M_replaced_110 rfl ?_
          refine u_getr (pc := 111) (r := 1) C d_M_replaced_111 fw_M_9 sR_0 rfl rfl ?_
          refine u_iload (pc := 114) C d_M_replaced_114 rfl ?_
          refine u_iald (pc := 116) C d_M_replaced_116 sR_1 (vp24 hc24) ?_
          refine u_bipush (pc := 117) (v := 7) C d_M_replaced_117 (by decide) ?_
          refine u_icmp_ne (pc := 119) (tgt := 147) C d_M_replaced_119 rfl (fun c119 => ?_) (fun c119 => ?_)
          · refine u_aload_n (pc := 147) C d_M_replaced_147 rfl ?_
            refine u_aload_n (pc := 148) C d_M_replaced_148 rfl ?_
            refine u_getr (pc := 149) (r := 4) C d_M_replaced_149 fw_M_19 sR_0 rfl rfl ?_
            refine u_iload (pc := 152) C d_M_replaced_152 rfl ?_
            refine u_iald (pc := 154) C d_M_replaced_154 sR_4 (vp24 hc24) ?_
            refine u_iconst (pc := 155) (v := 3) C d_M_replaced_155 (by decide) ?_
            refine u_irem (pc := 156) C d_M_replaced_156 (by decide) ?_
            refine u_put (pc := 157) C d_M_replaced_157 fw_M_202 sR_0 rfl (Or.inl rfl) ?_
            refine u_gmem (fun M6 e6 => ?_)
            have hE2 : EVr M6 (useR cd e c) (us ++ [c]) := by
              rw [e6]
              rw [i1] at c63 c94 c119
              have h8 := fit_kind hfit c63 c94 c119
              refine ⟨?_, by rw [up_j (by decide), v17, useR_2, if_neg c94], ?_, hU5.of (S := fun p j => p = 0 ∧ j = 16) (OfR.up ⟨rfl, rfl⟩) (by decide) (fun i q => absurd q.1 (by decide))⟩
              · rw [up_row, pk_us, i4, useR_1, if_pos h8, remF]
              · rw [up_j (by decide), v18, useR_3, repF, if_neg c63, if_neg c119, hea, within_a haa]
            have o6 : OfR repR M1 M6 := by
              rw [e6]
              exact o5.trans (OfR.up (Or.inl ⟨rfl, by decide, by decide⟩))
            have hS2 := hS1.rep o6
            clear e6
            refine u_aload_n (pc := 160) C d_M_replaced_160 rfl ?_
            refine u_callVi (pc := 161) C d_M_replaced_161 mx_M_nextReplacer mw_M_220 sR_0 rfl (c_M_nextReplacer hS2 hE2) rfl rfl (Nat.le_of_ble_eq_true rfl) (fun r161 M161 q161 => ?_)
            obtain ⟨e161, q161⟩ := q161
            have q161 := q161.symm
            subst q161
            refine u_istore (pc := 164) C d_M_replaced_164 rfl (fun x164 e164 L9 hL9 => ?_)
            obtain rfl : L9 = [some (.ref 0), some (.int x1), some (.int x2), some (.int x3), some (.int x164)] := hL9.symm
            refine u_goto (pc := 166) (tgt := 32) C d_M_replaced_166 rfl ?_
            refine ih (us ++ [c]) (useR cd e c) _ _ ?_ (ho.trans o6) hE2 (by rw [e164, e161]) ?_ ?_ hok
            · have h1 := List.length_erase_of_mem hm
              have h2 := List.length_pos_of_mem hm
              rw [unu_erase hnd] at h1
              omega
            · rw [← he1, hst1]
            · rw [← he2, hst2, List.append_assoc]; rfl
          · refine u_aload_n (pc := 122) C d_M_replaced_122 rfl ?_
            refine u_aload_n (pc := 123) C d_M_replaced_123 rfl ?_
            refine u_geti (pc := 124) C d_M_replaced_124 fw_M_217 sR_0 rfl ?_
            refine u_aload_n (pc := 127) C d_M_replaced_127 rfl ?_
            refine u_getr (pc := 128) (r := 5) C d_M_replaced_128 fw_M_22 sR_0 rfl rfl ?_
            refine u_iload (pc := 131) C d_M_replaced_131 rfl ?_
            refine u_iald (pc := 133) C d_M_replaced_133 sR_5 (vp24 hc24) ?_
            refine u_isub (pc := 134) C d_M_replaced_134 ?_
            refine u_iconst (pc := 135) (v := 0) C d_M_replaced_135 (by decide) ?_
            refine u_bipush (pc := 136) (v := 99) C d_M_replaced_136 (by decide) ?_
            refine u_callSi (pc := 138) C d_M_replaced_138 mx_M_held mw_M_186 (c_M_held (by decide)) rfl rfl (Nat.le_of_ble_eq_true rfl) (fun r138 M138 q138 => ?_)
            obtain ⟨e138, q138⟩ := q138
            have q138 := q138.symm
            subst q138
            refine u_put (pc := 141) C d_M_replaced_141 fw_M_217 sR_0 rfl (Or.inl rfl) ?_
            refine u_goto (pc := 144) (tgt := 160) C d_M_replaced_144 rfl ?_
            refine u_gmem (fun M6 e6 => ?_)
            have hE2 : EVr M6 (useR cd e c) (us ++ [c]) := by
              rw [e6]
              rw [i1] at c63 c94 c119
              refine ⟨by rw [up_j (by decide), v16, useR_1, if_neg (by rw [c119]; decide)], by rw [up_j (by decide), v17, useR_2, if_neg (by rw [c119]; decide)], ?_, hU5.of (S := fun p j => p = 0 ∧ j = 18) (OfR.up ⟨rfl, rfl⟩) (by decide) (fun i q => absurd q.1 (by decide))⟩
              rw [up_row, pk_us, e138, v18, i5, useR_3, repF, if_neg c63, if_pos c119]
            have o6 : OfR repR M1 M6 := by
              rw [e6]
              exact o5.trans (OfR.up (Or.inl ⟨rfl, by decide, by decide⟩))
            have hS2 := hS1.rep o6
            clear e6
            refine u_aload_n (pc := 160) C d_M_replaced_160 rfl ?_
            refine u_callVi (pc := 161) C d_M_replaced_161 mx_M_nextReplacer mw_M_220 sR_0 rfl (c_M_nextReplacer hS2 hE2) rfl rfl (Nat.le_of_ble_eq_true rfl) (fun r161 M161 q161 => ?_)
            obtain ⟨e161, q161⟩ := q161
            have q161 := q161.symm
            subst q161
            refine u_istore (pc := 164) C d_M_replaced_164 rfl (fun x164 e164 L9 hL9 => ?_)
            obtain rfl : L9 = [some (.ref 0), some (.int x1), some (.int x2), some (.int x3), some (.int x164)] := hL9.symm
            refine u_goto (pc := 166) (tgt := 32) C d_M_replaced_166 rfl ?_
            refine ih (us ++ [c]) (useR cd e c) _ _ ?_ (ho.trans o6) hE2 (by rw [e164, e161]) ?_ ?_ hok
            · have h1 := List.length_erase_of_mem hm
              have h2 := List.length_pos_of_mem hm
              rw [unu_erase hnd] at h1
              omega
            · rw [← he1, hst1]
            · rw [← he2, hst2, List.append_assoc]; rfl
        · refine u_aload_n (pc := 97) C d_M_replaced_97 rfl ?_
          refine u_iconst (pc := 98) (v := 1) C d_M_replaced_98 (by decide) ?_
          refine u_aload_n (pc := 99) C d_M_replaced_99 rfl ?_
          refine u_geti (pc := 100) C d_M_replaced_100 fw_M_205 sR_0 rfl ?_
          refine u_isub (pc := 103) C d_M_replaced_103 ?_
          refine u_put (pc := 104) C d_M_replaced_104 fw_M_205 sR_0 rfl (Or.inl rfl) ?_
          refine u_goto (pc := 107) (tgt := 160) C d_M_replaced_107 rfl ?_
          refine u_gmem (fun M6 e6 => ?_)
          have hE2 : EVr M6 (useR cd e c) (us ++ [c]) := by
            rw [e6]
            rw [i1] at c63 c94
            refine ⟨by rw [up_j (by decide), v16, useR_1, if_neg (by rw [c94]; decide)], ?_, ?_, hU5.of (S := fun p j => p = 0 ∧ j = 17) (OfR.up ⟨rfl, rfl⟩) (by decide) (fun i q => absurd q.1 (by decide))⟩
            · rw [up_row, pk_us, v17, useR_2, if_pos c94]
            · rw [up_j (by decide), v18, useR_3, repF, if_neg c63, if_neg (by rw [c94]; decide), hea, within_a haa]
          have o6 : OfR repR M1 M6 := by
            rw [e6]
            exact o5.trans (OfR.up (Or.inl ⟨rfl, by decide, by decide⟩))
          have hS2 := hS1.rep o6
          clear e6
          refine u_aload_n (pc := 160) C d_M_replaced_160 rfl ?_
          refine u_callVi (pc := 161) C d_M_replaced_161 mx_M_nextReplacer mw_M_220 sR_0 rfl (c_M_nextReplacer hS2 hE2) rfl rfl (Nat.le_of_ble_eq_true rfl) (fun r161 M161 q161 => ?_)
          obtain ⟨e161, q161⟩ := q161
          have q161 := q161.symm
          subst q161
          refine u_istore (pc := 164) C d_M_replaced_164 rfl (fun x164 e164 L9 hL9 => ?_)
          obtain rfl : L9 = [some (.ref 0), some (.int x1), some (.int x2), some (.int x3), some (.int x164)] := hL9.symm
          refine u_goto (pc := 166) (tgt := 32) C d_M_replaced_166 rfl ?_
          refine ih (us ++ [c]) (useR cd e c) _ _ ?_ (ho.trans o6) hE2 (by rw [e164, e161]) ?_ ?_ hok
          · have h1 := List.length_erase_of_mem hm
            have h2 := List.length_pos_of_mem hm
            rw [unu_erase hnd] at h1
            omega
          · rw [← he1, hst1]
          · rw [← he2, hst2, List.append_assoc]; rfl
      · refine u_aload_n (pc := 66) C d_M_replaced_66 rfl ?_
        refine u_iconst (pc := 67) (v := 2) C d_M_replaced_67 (by decide) ?_
        refine u_aload_n (pc := 68) C d_M_replaced_68 rfl ?_
        refine u_geti (pc := 69) C d_M_replaced_69 fw_M_217 sR_0 rfl ?_
        refine u_imul (pc := 72) C d_M_replaced_72 ?_
        refine u_iconst (pc := 73) (v := 0) C d_M_replaced_73 (by decide) ?_
        refine u_bipush (pc := 74) (v := 99) C d_M_replaced_74 (by decide) ?_
        refine u_callSi (pc := 76) C d_M_replaced_76 mx_M_held mw_M_186 (c_M_held (by decide)) rfl rfl (Nat.le_of_ble_eq_true rfl) (fun r76 M76 q76 => ?_)
        obtain ⟨e76, q76⟩ := q76
        have q76 := q76.symm
        subst q76
        refine u_put (pc := 79) C d_M_replaced_79 fw_M_217 sR_0 rfl (Or.inl rfl) ?_
        refine u_goto (pc := 82) (tgt := 160) C d_M_replaced_82 rfl ?_
        refine u_gmem (fun M6 e6 => ?_)
        have hE2 : EVr M6 (useR cd e c) (us ++ [c]) := by
          rw [e6]
          rw [i1] at c63
          refine ⟨by rw [up_j (by decide), v16, useR_1, if_neg (by rw [c63]; decide)], by rw [up_j (by decide), v17, useR_2, if_neg (by rw [c63]; decide)], ?_, hU5.of (S := fun p j => p = 0 ∧ j = 18) (OfR.up ⟨rfl, rfl⟩) (by decide) (fun i q => absurd q.1 (by decide))⟩
          rw [up_row, pk_us, e76, v18, useR_3, repF, if_pos c63, Int32.mul_comm]
        have o6 : OfR repR M1 M6 := by
          rw [e6]
          exact o5.trans (OfR.up (Or.inl ⟨rfl, by decide, by decide⟩))
        have hS2 := hS1.rep o6
        clear e6
        refine u_aload_n (pc := 160) C d_M_replaced_160 rfl ?_
        refine u_callVi (pc := 161) C d_M_replaced_161 mx_M_nextReplacer mw_M_220 sR_0 rfl (c_M_nextReplacer hS2 hE2) rfl rfl (Nat.le_of_ble_eq_true rfl) (fun r161 M161 q161 => ?_)
        obtain ⟨e161, q161⟩ := q161
        have q161 := q161.symm
        subst q161
        refine u_istore (pc := 164) C d_M_replaced_164 rfl (fun x164 e164 L9 hL9 => ?_)
        obtain rfl : L9 = [some (.ref 0), some (.int x1), some (.int x2), some (.int x3), some (.int x164)] := hL9.symm
        refine u_goto (pc := 166) (tgt := 32) C d_M_replaced_166 rfl ?_
        refine ih (us ++ [c]) (useR cd e c) _ _ ?_ (ho.trans o6) hE2 (by rw [e164, e161]) ?_ ?_ hok
        · have h1 := List.length_erase_of_mem hm
          have h2 := List.length_pos_of_mem hm
          rw [unu_erase hnd] at h1
          omega
        · rw [← he1, hst1]
        · rw [← he2, hst2, List.append_assoc]; rfl
set_option maxRecDepth 20000 in
theorem c_M_replaced {cd : Nat → Nat → Int32} {n : Nat} {g : Gm} {tb : List Nat} {M : Mem} (hS : RS M cd n g tb) {t p a : Int32} (he0 : evok (t, p, withinF a 0 99)) : Ct lyR y_M_replaced b_M_replaced 5 none 3 [.ref 0, .int t, .int p, .int a] M (Pv fun M' => EVr M' (rep cd tb t p a).1 (rep cd tb t p a).2 ∧ OfR repR M M') := by
  refine Ct.ofG mx_M_replaced [some (.ref 0), some (.int t), some (.int p), some (.int a), none] rfl rfl (Nat.le_of_ble_eq_true rfl) (fun κ C hQ => ?_)
  refine u_aload_n (pc := 0) C d_M_replaced_0 rfl ?_
  refine u_iload_n (pc := 1) C d_M_replaced_1 rfl ?_
  refine u_put (pc := 2) C d_M_replaced_2 fw_M_202 sR_0 rfl (Or.inl rfl) ?_
  refine u_aload_n (pc := 5) C d_M_replaced_5 rfl ?_
  refine u_iload_n (pc := 6) C d_M_replaced_6 rfl ?_
  refine u_put (pc := 7) C d_M_replaced_7 fw_M_205 sR_0 rfl (Or.inl rfl) ?_
  refine u_aload_n (pc := 10) C d_M_replaced_10 rfl ?_
  refine u_iload_n (pc := 11) C d_M_replaced_11 rfl ?_
  refine u_iconst (pc := 12) (v := 0) C d_M_replaced_12 (by decide) ?_
  refine u_bipush (pc := 13) (v := 99) C d_M_replaced_13 (by decide) ?_
  refine u_callSi (pc := 15) C d_M_replaced_15 mx_M_held mw_M_186 (c_M_held (by decide)) rfl rfl (Nat.le_of_ble_eq_true rfl) (fun r15 M15 q15 => ?_)
  obtain ⟨e15, q15⟩ := q15
  have q15 := q15.symm
  subst q15
  refine u_put (pc := 18) C d_M_replaced_18 fw_M_217 sR_0 rfl (Or.inl rfl) ?_
  refine u_aload_n (pc := 21) C d_M_replaced_21 rfl ?_
  refine u_iconst (pc := 22) (v := 0) C d_M_replaced_22 (by decide) ?_
  refine u_put (pc := 23) C d_M_replaced_23 fw_M_208 sR_0 rfl (Or.inl rfl) ?_
  refine u_gmem (fun M6 e6 => ?_)
  have hE2 : EVr M6 (t, p, withinF a 0 99) [] := by
    rw [e6, e15]
    refine ⟨?_, ?_, ?_, ?_, fun i hi => absurd hi (Nat.not_lt_zero i), Nat.zero_le _, fun d hd => absurd hd List.not_mem_nil⟩
    · rw [up_j (by decide), up_j (by decide), up_j (by decide), up_row, pk_us]
    · rw [up_j (by decide), up_j (by decide), up_row, pk_us]
    · rw [up_j (by decide), up_row, pk_us]
    · rw [up_row, pk_us]; rfl
  have o6 : OfR repR M M6 := by
    rw [e6]
    exact (((OfR.up (Or.inl ⟨rfl, by decide, by decide⟩)).trans (OfR.up (Or.inl ⟨rfl, by decide, by decide⟩))).trans (OfR.up (Or.inl ⟨rfl, by decide, by decide⟩))).trans (OfR.up (Or.inl ⟨rfl, by decide, by decide⟩))
  have hS2 := hS.rep o6
  clear e6
  refine u_aload_n (pc := 26) C d_M_replaced_26 rfl ?_
  refine u_callVi (pc := 27) C d_M_replaced_27 mx_M_nextReplacer mw_M_220 sR_0 rfl (c_M_nextReplacer hS2 hE2) rfl rfl (Nat.le_of_ble_eq_true rfl) (fun r27 M27 q27 => ?_)
  obtain ⟨e27, q27⟩ := q27
  have q27 := q27.symm
  subst q27
  refine u_istore (pc := 30) C d_M_replaced_30 rfl (fun x30 e30 L9 hL9 => ?_)
  obtain rfl : L9 = [some (.ref 0), some (.int t), some (.int p), some (.int a), some (.int x30)] := hL9.symm
  refine lp_rep hS he0 C hQ _ [] _ _ _ (Nat.lt_succ_self _) o6 hE2 (by rw [e30, e27]) ?_ ?_ he0
  · rw [unu_nil]; rfl
  · rw [unu_nil]; rfl
