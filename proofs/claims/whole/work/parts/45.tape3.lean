/-! the tape's reader: a word -/
theorem alk_le {t : List Int32} {cu k : Nat} : ∀ f i, cu + i ≤ t.length → cu + alk t cu k f i ≤ t.length := by
  intro f
  induction f with
  | zero => intro i h; exact h
  | succ f ih =>
    intro i h
    rw [alk]
    split
    · rename_i q
      split
      · split
        · omega
        · exact ih (i + 1) (by omega)
      · exact h
    · exact h
theorem alk_7 {t : List Int32} {cu k : Nat} : ∀ f i, i ≤ 7 → alk t cu k f i ≤ 7 := by
  intro f
  induction f with
  | zero => intro i h; exact h
  | succ f ih =>
    intro i h
    rw [alk]
    split
    · rename_i q
      split
      · split
        · omega
        · exact ih (i + 1) (by omega)
      · exact h
    · exact h
/-- the kind whose word stands at a place, and how far it goes (or how far any does) -/
def rdw (t : List Int32) (cu : Nat) : Nat → Nat → Nat → Int32 × Nat
  | 0, _, mx => (-1, mx)
  | f + 1, k, mx => if 0 < alk t cu k 8 0 ∧ t.getD (cu + alk t cu k 8 0 - 1) 0 = 32 then (nI k, alk t cu k 8 0) else rdw t cu f (k + 1) (max mx (alk t cu k 8 0))
theorem rdw_le {t : List Int32} {cu : Nat} (h : cu ≤ t.length) : ∀ f k mx, cu + mx ≤ t.length → cu + (rdw t cu f k mx).2 ≤ t.length := by
  intro f
  induction f with
  | zero => intro k mx h; exact h
  | succ f ih =>
    intro k mx hm
    have ha := alk_le (k := k) 8 0 (show cu + 0 ≤ t.length from h)
    rw [rdw]
    split
    · exact ha
    · exact ih _ _ (by omega)
set_option maxRecDepth 20000 in
theorem lp_word {κ : KX} {t : List Int32} {cu : Nat} {M : Mem} (hT : TP M t cu) (C : Cx κ lyC y_T_readWord.cls b_T_readWord 4 (some .int) 5) (hQ : ∀ v M', Pi (fun r M' => r = (rdw t cu 15 0 0).1 ∧ M' = up M 76 2 (nI (cu + (rdw t cu 15 0 0).2))) v M' → KQ κ v M') : ∀ (f k mx : Nat), k ≤ 15 → 15 - k < f → mx ≤ 7 → rdw t cu (15 - k) k mx = rdw t cu 15 0 0 → G κ lyC 4 [some (.ref 76), some (.int (nI mx)), some (.int (nI k)), none] [] M := by
  intro f
  induction f with
  | zero => intro k mx h; omega
  | succ f ih =>
    intro k mx hk hf hmx ha
    have h2 : M.1 76 2 = nI cu := hT.2.1
    have h5 := hT.2.2
    have h120 := hT.1.1
    have hk15 : (15 : Int32) ≤ nI k ↔ 15 ≤ k := nI_leI (a := 15) (by omega) (by omega)
    refine u_iload_n (pc := 4) C d_T_readWord_4 rfl ?_
    refine u_bipush (pc := 5) (v := 15) C d_T_readWord_5 (by decide) ?_
    refine u_icmp_ge (pc := 7) (tgt := 64) C d_T_readWord_7 rfl (fun c7 => ?_) (fun c7 => ?_)
    · refine u_aload_n (pc := 64) C d_T_readWord_64 rfl ?_
      refine u_dup (pc := 65) C d_T_readWord_65 rfl ?_
      refine u_geti (pc := 66) C d_T_readWord_66 fw_T_35 sC_76 rfl ?_
      refine u_iload_n (pc := 69) C d_T_readWord_69 rfl ?_
      refine u_iadd (pc := 70) C d_T_readWord_70 ?_
      refine u_put (pc := 71) C d_T_readWord_71 fw_T_35 sC_76 rfl (Or.inl rfl) ?_
      refine u_iconst (pc := 74) (v := (-1)) C d_T_readWord_74 (by decide) ?_
      refine u_iret (pc := 75) C d_T_readWord_75 (hQ _ _ ⟨_, rfl, ?_⟩)
      have hk2 : k = 15 := by rw [hk15] at c7; omega
      subst hk2
      rw [← ha]
      exact ⟨rfl, by rw [h2, nI_add]; rfl⟩
    · have hk14 : k < 15 := by
        have q := c7
        rw [hk15] at q
        omega
      refine u_aload_n (pc := 10) C d_T_readWord_10 rfl ?_
      refine u_iload_n (pc := 11) C d_T_readWord_11 rfl ?_
      refine u_callVi (pc := 12) C d_T_readWord_12 mx_T_lettersAlike mw_T_57 sC_76 rfl (c_T_lettersAlike hT hk14) rfl rfl (Nat.le_of_ble_eq_true rfl) (fun r12 M12 q12 => ?_)
      obtain ⟨e12, q12⟩ := q12
      have q12 := q12.symm
      subst q12
      refine u_istore_n (pc := 15) C d_T_readWord_15 rfl (fun x15 e15 L9 hL9 => ?_)
      obtain rfl : L9 = [some (.ref 76), some (.int (nI mx)), some (.int (nI k)), some (.int x15)] := hL9.symm
      have e9 : x15 = nI (alk t cu k 8 0) := by rw [e15, e12]
      clear e15
      subst e9
      have hle := alk_le (k := k) 8 0 (show cu + 0 ≤ t.length from h5)
      have h7 := alk_7 (t := t) (cu := cu) (k := k) 8 0 (by omega)
      have hst : rdw t cu (15 - k) k mx = if 0 < alk t cu k 8 0 ∧ t.getD (cu + alk t cu k 8 0 - 1) 0 = 32 then (nI k, alk t cu k 8 0) else rdw t cu (15 - (k + 1)) (k + 1) (max mx (alk t cu k 8 0)) := by
        rw [show 15 - k = (15 - (k + 1)) + 1 by omega, rdw]
      have hap : nI (alk t cu k 8 0) ≤ 0 ↔ alk t cu k 8 0 ≤ 0 := nI_leI (b := 0) (by omega) (by omega)
      refine u_iload_n (pc := 16) C d_T_readWord_16 rfl ?_
      refine u_if_le (pc := 17) (tgt := 52) C d_T_readWord_17 rfl (fun c17 => ?_) (fun c17 => ?_)
      · refine u_iload_n (pc := 52) C d_T_readWord_52 rfl ?_
        refine u_iload_n (pc := 53) C d_T_readWord_53 rfl ?_
        refine u_mmax (pc := 54) C d_T_readWord_54 mm_T_64 mm_max_s mm_i mm_max_c (Nat.le_of_ble_eq_true rfl) (by decide) ?_
        refine u_istore_n (pc := 57) C d_T_readWord_57 rfl (fun x57 e57 L9 hL9 => ?_)
        obtain rfl : L9 = [some (.ref 76), some (.int x57), some (.int (nI k)), some (.int (nI (alk t cu k 8 0)))] := hL9.symm
        refine u_iinc (pc := 58) (v2 := 1) C d_T_readWord_58 rfl rfl (by decide) (fun x58 e58 L9 hL9 => ?_)
        obtain rfl : L9 = [some (.ref 76), some (.int x57), some (.int x58), some (.int (nI (alk t cu k 8 0)))] := hL9.symm
        refine u_goto (pc := 61) (tgt := 4) C d_T_readWord_61 rfl ?_
        obtain rfl : x58 = nI (k + 1) := by rw [e58, nI_succ]
        have e9 : x57 = nI (max mx (alk t cu k 8 0)) := by
          rw [e57]
          by_cases z : mx < alk t cu k 8 0
          · rw [if_pos ((nI_ltI (by omega) (by omega)).mpr z), Nat.max_eq_right (by omega)]
          · rw [if_neg (fun q => z ((nI_ltI (by omega) (by omega)).mp q)), Nat.max_eq_left (by omega)]
        subst e9
        refine u_drop 3 rfl ?_
        refine ih (k + 1) _ (by omega) (by omega) (by omega) ?_
        rw [← ha, hst, if_neg (fun z => by rw [hap] at c17; omega)]
      · have ha0 : 0 < alk t cu k 8 0 := by
          have q := c17
          rw [hap] at q
          omega
        refine u_aload_n (pc := 20) C d_T_readWord_20 rfl ?_
        refine u_getr (pc := 21) (r := 77) C d_T_readWord_21 fw_T_9 sC_76 rfl rfl ?_
        refine u_aload_n (pc := 24) C d_T_readWord_24 rfl ?_
        refine u_geti (pc := 25) C d_T_readWord_25 fw_T_35 sC_76 rfl ?_
        refine u_iload_n (pc := 28) C d_T_readWord_28 rfl ?_
        refine u_iadd (pc := 29) C d_T_readWord_29 ?_
        refine u_iconst (pc := 30) (v := 1) C d_T_readWord_30 (by decide) ?_
        refine u_isub (pc := 31) C d_T_readWord_31 ?_
        refine u_callSi (pc := 32) C d_T_readWord_32 mx_L_at mw_T_60 (c_L_at sC_77) rfl rfl (Nat.le_of_ble_eq_true rfl) (fun r32 M32 q32 => ?_)
        obtain ⟨e32, q32⟩ := q32
        have q32 := q32.symm
        subst q32
        rw [h2, nI_add, nI_sub1 (by omega), hT.at (show cu + alk t cu k 8 0 - 1 < t.length by omega)] at e32
        refine u_bipush (pc := 35) (v := 32) C d_T_readWord_35 (by decide) ?_
        refine u_icmp_ne (pc := 37) (tgt := 52) C d_T_readWord_37 rfl (fun c37 => ?_) (fun c37 => ?_)
        · refine u_iload_n (pc := 52) C d_T_readWord_52 rfl ?_
          refine u_iload_n (pc := 53) C d_T_readWord_53 rfl ?_
          refine u_mmax (pc := 54) C d_T_readWord_54 mm_T_64 mm_max_s mm_i mm_max_c (Nat.le_of_ble_eq_true rfl) (by decide) ?_
          refine u_istore_n (pc := 57) C d_T_readWord_57 rfl (fun x57 e57 L9 hL9 => ?_)
          obtain rfl : L9 = [some (.ref 76), some (.int x57), some (.int (nI k)), some (.int (nI (alk t cu k 8 0)))] := hL9.symm
          refine u_iinc (pc := 58) (v2 := 1) C d_T_readWord_58 rfl rfl (by decide) (fun x58 e58 L9 hL9 => ?_)
          obtain rfl : L9 = [some (.ref 76), some (.int x57), some (.int x58), some (.int (nI (alk t cu k 8 0)))] := hL9.symm
          refine u_goto (pc := 61) (tgt := 4) C d_T_readWord_61 rfl ?_
          obtain rfl : x58 = nI (k + 1) := by rw [e58, nI_succ]
          have e9 : x57 = nI (max mx (alk t cu k 8 0)) := by
            rw [e57]
            by_cases z : mx < alk t cu k 8 0
            · rw [if_pos ((nI_ltI (by omega) (by omega)).mpr z), Nat.max_eq_right (by omega)]
            · rw [if_neg (fun q => z ((nI_ltI (by omega) (by omega)).mp q)), Nat.max_eq_left (by omega)]
          subst e9
          refine u_drop 3 rfl ?_
          refine ih (k + 1) _ (by omega) (by omega) (by omega) ?_
          rw [e32] at c37
          rw [← ha, hst, if_neg (fun z => c37 z.2)]
        · refine u_aload_n (pc := 40) C d_T_readWord_40 rfl ?_
          refine u_dup (pc := 41) C d_T_readWord_41 rfl ?_
          refine u_geti (pc := 42) C d_T_readWord_42 fw_T_35 sC_76 rfl ?_
          refine u_iload_n (pc := 45) C d_T_readWord_45 rfl ?_
          refine u_iadd (pc := 46) C d_T_readWord_46 ?_
          refine u_put (pc := 47) C d_T_readWord_47 fw_T_35 sC_76 rfl (Or.inl rfl) ?_
          refine u_iload_n (pc := 50) C d_T_readWord_50 rfl ?_
          refine u_iret (pc := 51) C d_T_readWord_51 (hQ _ _ ⟨_, rfl, ?_⟩)
          rw [e32] at c37
          rw [← ha, hst, if_pos ⟨ha0, c37⟩]
          exact ⟨rfl, by rw [h2, nI_add]⟩
set_option maxRecDepth 20000 in
theorem c_T_readWord {t : List Int32} {cu : Nat} {M : Mem} (hT : TP M t cu) : Ct lyC y_T_readWord b_T_readWord 4 (some .int) 5 [.ref 76] M (Pi fun r M' => r = (rdw t cu 15 0 0).1 ∧ M' = up M 76 2 (nI (cu + (rdw t cu 15 0 0).2))) := by
  refine Ct.ofG mx_T_readWord [some (.ref 76), none, none, none] rfl rfl (Nat.le_of_ble_eq_true rfl) (fun κ C hQ => ?_)
  refine u_iconst (pc := 0) (v := 0) C d_T_readWord_0 (by decide) ?_
  refine u_istore_n (pc := 1) C d_T_readWord_1 rfl (fun x1 e1 L9 hL9 => ?_)
  obtain rfl : L9 = [some (.ref 76), some (.int x1), none, none] := hL9.symm
  refine u_iconst (pc := 2) (v := 0) C d_T_readWord_2 (by decide) ?_
  refine u_istore_n (pc := 3) C d_T_readWord_3 rfl (fun x3 e3 L9 hL9 => ?_)
  obtain rfl : L9 = [some (.ref 76), some (.int x1), some (.int x3), none] := hL9.symm
  subst e3
  subst e1
  exact lp_word hT C hQ 16 0 0 (by omega) (by omega) (by omega) rfl
