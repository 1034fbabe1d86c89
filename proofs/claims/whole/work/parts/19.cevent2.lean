set_option maxRecDepth 20000 in
theorem c_E_use {b : Nat} {M : Mem} (hb : b < 2) {c n : Nat} {cd : Nat → Nat → Int32} {e : Int32 × Int32 × Int32} {us : List Nat} (hcd : CDm M cd) (hc : c < 24) (hcn : c < n) (hW : WFc cd n) (hE : EV M b e us) (hu : us.length < 24) (hnu : c ∉ us) : Ct lyC y_E_use b_E_use 3 none 1 [.ref (ep b), .int (nI c)] M (Pv fun M' => EV M' b (useR cd e c) (us ++ [c]) ∧ Off (eblk b) M M') := by
  refine Ct.ofG mx_E_use [some (.ref (ep b)), some (.int (nI c)), none] rfl rfl (Nat.le_of_ble_eq_true rfl) (fun κ C hQ => ?_)
  refine u_aload_n (pc := 0) C d_E_use_0 rfl ?_
  refine u_getr (pc := 1) (r := (ep b + 1)) C d_E_use_1 fw_E_9 (shE0 hb) rfl (rf_E_4 hb) ?_
  refine u_aload_n (pc := 4) C d_E_use_4 rfl ?_
  refine u_geti (pc := 5) C d_E_use_5 fw_E_33 (shE0 hb) rfl ?_
  refine u_iload_n (pc := 8) C d_E_use_8 rfl ?_
  refine u_callSv (pc := 9) C d_E_use_9 mx_L_put mw_E_81 (c_L_put (shE1 hb)) rfl rfl (Nat.le_of_ble_eq_true rfl) (fun M9 q9 => ?_)
  have q9 := q9.symm
  subst q9
  have h5 := hE.2.2.2.1
  refine u_mem (by rw [h5, putF_in hu (by decide)]) ?_
  refine u_aload_n (pc := 12) C d_E_use_12 rfl ?_
  refine u_dup (pc := 13) C d_E_use_13 rfl ?_
  refine u_geti (pc := 14) C d_E_use_14 fw_E_33 (shE0 hb) rfl ?_
  refine u_iconst (pc := 17) (v := 1) C d_E_use_17 (by decide) ?_
  refine u_iadd (pc := 18) C d_E_use_18 ?_
  refine u_put (pc := 19) C d_E_use_19 fw_E_33 (shE0 hb) rfl (Or.inl rfl) ?_
  refine u_aload_n (pc := 22) C d_E_use_22 rfl ?_
  refine u_dup (pc := 23) C d_E_use_23 rfl ?_
  refine u_geti (pc := 24) C d_E_use_24 fw_E_36 (shE0 hb) rfl ?_
  refine u_iconst (pc := 27) (v := 1) C d_E_use_27 (by decide) ?_
  refine u_iload_n (pc := 28) C d_E_use_28 rfl ?_
  refine u_ishl (pc := 29) C d_E_use_29 ?_
  refine u_ior (pc := 30) C d_E_use_30 ?_
  refine u_put (pc := 31) C d_E_use_31 fw_E_36 (shE0 hb) rfl (Or.inl rfl) ?_
  have h6 : (up (up M (ep b + 1) us.length (nI c)) (ep b) 5 ((up M (ep b + 1) us.length (nI c)).1 (ep b) 5 + 1)).1 (ep b) 6 = M.1 (ep b) 6 := by simp [up]
  refine u_mem (by rw [h6]) ?_
  have ho9 : Off (eblk b) M (up (up (up M (ep b + 1) us.length (nI c)) (ep b) 5 ((up M (ep b + 1) us.length (nI c)).1 (ep b) 5 + 1)) (ep b) 6 (M.1 (ep b) 6 ||| 1 <<< (nI c &&& 31))) := ((Off.up (Or.inr rfl)).trans (Off.up (Or.inl rfl))).trans (Off.up (Or.inl rfl))
  have hcd9 := hcd.off ho9 (fun p h1 h2 => e_cd h1 h2)
  generalize hM9 : up (up (up M (ep b + 1) us.length (nI c)) (ep b) 5 ((up M (ep b + 1) us.length (nI c)).1 (ep b) 5 + 1)) (ep b) 6 (M.1 (ep b) 6 ||| 1 <<< (nI c &&& 31)) = M9 at *
  have f1 : M9.1 (ep b) 1 = e.1 := by rw [← hM9]; simp [up, hE.1]
  have f2 : M9.1 (ep b) 2 = e.2.1 := by rw [← hM9]; simp [up, hE.2.1]
  have f3 : M9.1 (ep b) 3 = e.2.2 := by rw [← hM9]; simp [up, hE.2.2.1]
  have f5 : M9.1 (ep b) 5 = nI (us ++ [c]).length := by rw [← hM9]; simp [up, h5, nI_succ]
  have f4 : ∀ i, i < (us ++ [c]).length → M9.1 (ep b + 1) i = nI ((us ++ [c]).getD i 0) := fun i hi => by
    rw [← hM9]
    by_cases q : i = us.length
    · subst q; simp [up]
    · have hi2 : i < us.length := by simp at hi; omega
      rw [getD_app hi2]
      simp [up, q, hE.2.2.2.2.1 i hi2]
  have f6 : ∀ d, d < 24 → bt (M9.1 (ep b) 6) d = decide (d ∈ us ++ [c]) := fun d hd => by
    rw [← hM9, show (up (up (up M (ep b + 1) us.length (nI c)) (ep b) 5 ((up M (ep b + 1) us.length (nI c)).1 (ep b) 5 + 1)) (ep b) 6 (M.1 (ep b) 6 ||| 1 <<< (nI c &&& 31))).1 (ep b) 6 = _ from if_pos ⟨rfl, rfl⟩, bit_set (by omega) (by omega), hE.2.2.2.2.2 d hd]
    by_cases q1 : d ∈ us <;> by_cases q2 : d = c <;> simp [q1, q2]
  refine u_aload_n (pc := 34) C d_E_use_34 rfl ?_
  refine u_getr (pc := 35) (r := 0) C d_E_use_35 fw_E_15 (shE0 hb) rfl (rf_E_0 hb) ?_
  refine u_getr (pc := 38) (r := 1) C d_E_use_38 fw_E_66 sC_0 rfl rfl ?_
  refine u_iload_n (pc := 41) C d_E_use_41 rfl ?_
  refine u_callSi (pc := 42) C d_E_use_42 mx_L_at mw_E_54 (c_L_at sC_1) rfl rfl (Nat.le_of_ble_eq_true rfl) (fun r42 M42 q42 => ?_)
  obtain ⟨e42, q42⟩ := q42
  have q42 := q42.symm
  subst q42
  refine u_istore_n (pc := 45) C d_E_use_45 rfl (fun x45 e45 L9 hL9 => ?_)
  obtain rfl : L9 = [some (.ref (ep b)), some (.int (nI c)), some (.int x45)] := hL9.symm
  refine u_aload_n (pc := 46) C d_E_use_46 rfl ?_
  refine u_iload_n (pc := 47) C d_E_use_47 rfl ?_
  refine u_aload_n (pc := 48) C d_E_use_48 rfl ?_
  refine u_getr (pc := 49) (r := 0) C d_E_use_49 fw_E_15 (shE0 hb) rfl (rf_E_0 hb) ?_
  refine u_getr (pc := 52) (r := 5) C d_E_use_52 fw_E_85 sC_0 rfl rfl ?_
  refine u_iload_n (pc := 55) C d_E_use_55 rfl ?_
  refine u_callSi (pc := 56) C d_E_use_56 mx_L_at mw_E_54 (c_L_at sC_5) rfl rfl (Nat.le_of_ble_eq_true rfl) (fun r56 M56 q56 => ?_)
  obtain ⟨e56, q56⟩ := q56
  have q56 := q56.symm
  subst q56
  refine u_aload_n (pc := 59) C d_E_use_59 rfl ?_
  refine u_geti (pc := 60) C d_E_use_60 fw_E_30 (shE0 hb) rfl ?_
  refine u_callSi (pc := 63) C d_E_use_63 mx_L_replacedAmount mw_E_88 (c_L_replacedAmount) rfl rfl (Nat.le_of_ble_eq_true rfl) (fun r63 M63 q63 => ?_)
  obtain ⟨e63, q63⟩ := q63
  have q63 := q63.symm
  subst q63
  refine u_iconst (pc := 66) (v := 0) C d_E_use_66 (by decide) ?_
  refine u_bipush (pc := 67) (v := 99) C d_E_use_67 (by decide) ?_
  refine u_callSi (pc := 69) C d_E_use_69 mx_L_within mw_E_26 (c_L_within) rfl rfl (Nat.le_of_ble_eq_true rfl) (fun r69 M69 q69 => ?_)
  obtain ⟨e69, q69⟩ := q69
  have q69 := q69.symm
  subst q69
  refine u_put (pc := 72) C d_E_use_72 fw_E_30 (shE0 hb) rfl (Or.inl rfl) ?_
  rw [(at_cd hcd9 hc).1] at e42
  rw [(at_cd hcd9 hc).2.2.2.2] at e56
  rw [e45, e42, e56, f3] at e63
  rw [e63] at e69
  rw [e45, e42]
  have ho10 := ho9.trans (Off.up (S := eblk b) (M := M9) (p := ep b) (j := 3) (x := r69) (Or.inl rfl))
  refine u_iload_n (pc := 75) C d_E_use_75 rfl ?_
  refine u_bipush (pc := 76) (v := 6) C d_E_use_76 (by decide) ?_
  refine u_icmp_ne (pc := 78) (tgt := 94) C d_E_use_78 rfl (fun c78 => ?_) (fun c78 => ?_)
  · refine u_iload_n (pc := 94) C d_E_use_94 rfl ?_
    refine u_bipush (pc := 95) (v := 8) C d_E_use_95 (by decide) ?_
    refine u_icmp_ne (pc := 97) (tgt := 117) C d_E_use_97 rfl (fun c97 => ?_) (fun c97 => ?_)
    · refine u_vret (pc := 117) C d_E_use_117 (hQ _ _ ⟨rfl, ?_⟩)
      refine ⟨⟨?_, ?_, ?_, ?_, fun i hi => ?_, fun d hd => ?_⟩, ho10⟩
      · simp [up, useR, f1, c97]
      · simp [up, useR, f2, c78]
      · simp [up, useR, e69]
      · simp [up, f5]
      · rw [up_ne (by omega)]; exact f4 i hi
      · simpa [up] using f6 d hd
    · refine u_aload_n (pc := 100) C d_E_use_100 rfl ?_
      refine u_aload_n (pc := 101) C d_E_use_101 rfl ?_
      refine u_getr (pc := 102) (r := 0) C d_E_use_102 fw_E_15 (shE0 hb) rfl (rf_E_0 hb) ?_
      refine u_getr (pc := 105) (r := 4) C d_E_use_105 fw_E_91 sC_0 rfl rfl ?_
      refine u_iload_n (pc := 108) C d_E_use_108 rfl ?_
      refine u_callSi (pc := 109) C d_E_use_109 mx_L_at mw_E_54 (c_L_at sC_4) rfl rfl (Nat.le_of_ble_eq_true rfl) (fun r109 M109 q109 => ?_)
      obtain ⟨e109, q109⟩ := q109
      have q109 := q109.symm
      subst q109
      refine u_iconst (pc := 112) (v := 3) C d_E_use_112 (by decide) ?_
      refine u_irem (pc := 113) C d_E_use_113 (by decide) ?_
      refine u_put (pc := 114) C d_E_use_114 fw_E_19 (shE0 hb) rfl (Or.inl rfl) ?_
      refine u_vret (pc := 117) C d_E_use_117 (hQ _ _ ⟨rfl, ?_⟩)
      refine ⟨⟨?_, ?_, ?_, ?_, fun i hi => ?_, fun d hd => ?_⟩, ho10.trans (Off.up (Or.inl rfl))⟩
      · rw [(at_cd (hcd9.off (S := eblk b) (Off.up (Or.inl rfl)) (fun p h1 h2 => e_cd h1 h2)) hc).2.2.2.1] at e109
        simp [up, useR, e109, c97, remF]
      · simp [up, useR, f2, c97]
      · simp [up, useR, e69]
      · simp [up, f5]
      · rw [up_ne (by omega), up_ne (by omega)]; exact f4 i hi
      · simpa [up] using f6 d hd
  · refine u_aload_n (pc := 81) C d_E_use_81 rfl ?_
    refine u_iconst (pc := 82) (v := 1) C d_E_use_82 (by decide) ?_
    refine u_aload_n (pc := 83) C d_E_use_83 rfl ?_
    refine u_geti (pc := 84) C d_E_use_84 fw_E_23 (shE0 hb) rfl ?_
    refine u_isub (pc := 87) C d_E_use_87 ?_
    refine u_put (pc := 88) C d_E_use_88 fw_E_23 (shE0 hb) rfl (Or.inl rfl) ?_
    refine u_goto (pc := 91) (tgt := 117) C d_E_use_91 rfl ?_
    refine u_vret (pc := 117) C d_E_use_117 (hQ _ _ ⟨rfl, ?_⟩)
    refine ⟨⟨?_, ?_, ?_, ?_, fun i hi => ?_, fun d hd => ?_⟩, ho10.trans (Off.up (Or.inl rfl))⟩
    · simp [up, useR, f1, c78]
    · simp [up, useR, f2, c78]
    · simp [up, useR, e69]
    · simp [up, f5]
    · rw [up_ne (by omega), up_ne (by omega)]; exact f4 i hi
    · simpa [up] using f6 d hd
theorem unu_len {tb us : List Nat} {c : Nat} (hnd : tb.Nodup) (hc : c ∈ tb) (hu : c ∉ us) : (unu tb (us ++ [c])).length + 1 = (unu tb us).length := by
  rw [← unu_erase hnd]
  have hm : c ∈ unu tb us := by
    unfold unu
    exact List.mem_filter.mpr ⟨hc, decide_eq_true hu⟩
  have := List.length_pos_of_mem hm
  rw [List.length_erase_of_mem hm]
  omega
set_option maxRecDepth 20000 in
theorem lp_rb {κ : KX} {b : Nat} {M : Mem} (hb : b < 2) {k n m : Nat} {g : Gm} {tb : List Nat} {cd : Nat → Nat → Int32} (hk : k < 6) (hR : RepG M k n g tb m) (hcd : CDm M cd) (hW : WFc cd n) (ht : tb.length ≤ 24) (hn : n ≤ 24) (hbd : ∀ d, d ∈ tb → d < n) (hnd : tb.Nodup) (C : Cx κ lyC y_E_replaceBy.cls b_E_replaceBy 5 none 2) : ∀ (f i s : Nat) (us : List Nat) (e : Int32 × Int32 × Int32) (M1 : Mem), (unu tb us).length * 25 + (tb.length - i) < f → i ≤ tb.length → us.length + (unu tb us).length = tb.length → us.length ≤ 24 → s ≤ us.length * 24 + i → Off (eblk b) M M1 → EV M1 b e us → (∀ j, j < i → ¬ (fitR cd e.1 e.2.1 (tb.getD j 0) = true ∧ tb.getD j 0 ∉ us)) → (∀ v M', Pv (fun M' => EV M' b (repl cd (unu tb us).length (unu tb us) e).1 (us ++ (repl cd (unu tb us).length (unu tb us) e).2) ∧ Off (eblk b) M M') v M' → KQ κ v M') → G κ lyC 4 [some (.ref (ep b)), some (.ref (gp k)), some (.int (nI i)), some (.int (nI s)), none] [] M1 := by
  intro f
  induction f with
  | zero => intro i s us e M1 h; omega
  | succ f ih =>
    intro i s us e M1 hf hi hsl hus hs ho hE hw hQ
    have hR1 : RepG M1 k n g tb m := hR.off ho (fun p q => e_g hk q)
    have hcd1 : CDm M1 cd := hcd.off ho (fun p h1 h2 => e_cd h1 h2)
    have r9 := hR1.2.2.2.2.2.2.2.1
    have hin : nI tb.length ≤ nI i ↔ tb.length ≤ i := nI_leI (by omega) (by omega)
    have h600 : (600 : Int32) ≤ nI s ↔ 600 ≤ s := nI_leI (a := 600) (by omega) (by omega)
    have huS : us.length * 24 ≤ 576 := by omega
    refine u_iload_n (pc := 4) C d_E_replaceBy_4 rfl ?_
    refine u_sipush (pc := 5) (v := 600) C d_E_replaceBy_5 (by decide) ?_
    refine u_icmp_ge (pc := 8) (tgt := 58) C d_E_replaceBy_8 rfl (fun c8 => ?_) (fun c8 => ?_)
    · refine u_vret (pc := 58) C d_E_replaceBy_58 (hQ _ _ ⟨rfl, ?_⟩)
      have hi2 : i = tb.length := by
        rw [h600] at c8
        omega
      subst hi2
      have hz : repl cd (unu tb us).length (unu tb us) e = (e, []) := by
        have hfn := unu_none (f := fitR cd e.1 e.2.1) hw
        cases hq : (unu tb us).length with
        | zero => rfl
        | succ q => rw [repl, hfn]
      rw [hz, List.append_nil]
      exact ⟨hE, ho⟩
    · refine u_iload_n (pc := 11) C d_E_replaceBy_11 rfl ?_
      refine u_aload_n (pc := 12) C d_E_replaceBy_12 rfl ?_
      refine u_geti (pc := 13) C d_E_replaceBy_13 fw_E_46 (shG0 hk) rfl ?_
      refine u_icmp_ge (pc := 16) (tgt := 58) C d_E_replaceBy_16 rfl (fun c16 => ?_) (fun c16 => ?_)
      · refine u_vret (pc := 58) C d_E_replaceBy_58 (hQ _ _ ⟨rfl, ?_⟩)
        have hi2 : i = tb.length := by
          rw [r9, hin] at c16
          omega
        subst hi2
        have hz : repl cd (unu tb us).length (unu tb us) e = (e, []) := by
          have hfn := unu_none (f := fitR cd e.1 e.2.1) hw
          cases hq : (unu tb us).length with
          | zero => rfl
          | succ q => rw [repl, hfn]
        rw [hz, List.append_nil]
        exact ⟨hE, ho⟩
      · refine u_aload_n (pc := 19) C d_E_replaceBy_19 rfl ?_
        refine u_getr (pc := 20) (r := (gp k + 5)) C d_E_replaceBy_20 fw_E_51 (shG0 hk) rfl (rf_G_5 hk) ?_
        refine u_iload_n (pc := 23) C d_E_replaceBy_23 rfl ?_
        refine u_callSi (pc := 24) C d_E_replaceBy_24 mx_L_at mw_E_54 (c_L_at (shG5 hk)) rfl rfl (Nat.le_of_ble_eq_true rfl) (fun r24 M24 q24 => ?_)
        obtain ⟨e24, q24⟩ := q24
        have q24 := q24.symm
        subst q24
        refine u_istore (pc := 27) C d_E_replaceBy_27 rfl (fun x27 e27 L9 hL9 => ?_)
        obtain rfl : L9 = [some (.ref (ep b)), some (.ref (gp k)), some (.int (nI i)), some (.int (nI s)), some (.int x27)] := hL9.symm
        have hlt : i < tb.length := by rw [r9, hin] at c16; omega
        rw [atF_in (by omega) (by decide), hR1.2.2.2.2.1 i hlt] at e24
        rw [e24] at e27
        subst e27
        have hcn := hbd _ (getD_mem hlt)
        have hc24 : tb.getD i 0 < 24 := Nat.lt_of_lt_of_le hcn hn
        refine u_aload_n (pc := 29) C d_E_replaceBy_29 rfl ?_
        refine u_iload (pc := 30) C d_E_replaceBy_30 rfl ?_
        refine u_callVi (pc := 32) C d_E_replaceBy_32 mx_E_fits mw_E_58 (shE0 hb) rfl (c_E_fits hb hcd1 hc24 hcn hW hE) rfl rfl (Nat.le_of_ble_eq_true rfl) (fun r32 M32 q32 => ?_)
        obtain ⟨e32, q32⟩ := q32
        have q32 := q32.symm
        subst q32
        refine u_if_eq (pc := 35) (tgt := 49) C d_E_replaceBy_35 rfl (fun c35 => ?_) (fun c35 => ?_)
        · refine u_iinc (pc := 49) (v2 := 1) C d_E_replaceBy_49 rfl rfl (by decide) (fun x49 e49 L9 hL9 => ?_)
          obtain rfl : L9 = [some (.ref (ep b)), some (.ref (gp k)), some (.int x49), some (.int (nI s)), some (.int (nI (tb.getD i 0)))] := hL9.symm
          refine u_iinc (pc := 52) (v2 := 1) C d_E_replaceBy_52 rfl rfl (by decide) (fun x52 e52 L9 hL9 => ?_)
          obtain rfl : L9 = [some (.ref (ep b)), some (.ref (gp k)), some (.int x49), some (.int x52), some (.int (nI (tb.getD i 0)))] := hL9.symm
          refine u_goto (pc := 55) (tgt := 4) C d_E_replaceBy_55 rfl ?_
          obtain rfl : x52 = nI (s + 1) := by rw [e52, nI_succ]
          refine u_drop 4 rfl ?_
          obtain rfl : x49 = nI (i + 1) := by rw [e49, nI_succ]
          refine ih (i + 1) (s + 1) us e _ (by omega) (by omega) hsl hus (by omega) ho hE (fun j hj => ?_) hQ
          by_cases q : j = i
          · subst q
            intro z
            exact absurd ((e32.trans (if_pos z)).symm.trans c35) (by decide)
          · exact hw j (by omega)
        · have hfu : fitR cd e.1 e.2.1 (tb.getD i 0) = true ∧ tb.getD i 0 ∉ us := by
            rcases Classical.em (fitR cd e.1 e.2.1 (tb.getD i 0) = true ∧ tb.getD i 0 ∉ us) with q | q
            · exact q
            · exact absurd (e32.trans (if_neg q)) c35
          refine u_aload_n (pc := 38) C d_E_replaceBy_38 rfl ?_
          refine u_iload (pc := 39) C d_E_replaceBy_39 rfl ?_
          refine u_callVv (pc := 41) C d_E_replaceBy_41 mx_E_use mw_E_62 (shE0 hb) rfl (c_E_use hb hcd1 hc24 hcn hW hE (by have := unu_len hnd (getD_mem hlt) hfu.2; omega) hfu.2) rfl rfl (Nat.le_of_ble_eq_true rfl) (fun M41 q41 => ?_)
          obtain ⟨hE2, ho2⟩ := q41
          refine u_iconst (pc := 44) (v := 0) C d_E_replaceBy_44 (by decide) ?_
          refine u_istore_n (pc := 45) C d_E_replaceBy_45 rfl (fun x45 e45 L9 hL9 => ?_)
          obtain rfl : L9 = [some (.ref (ep b)), some (.ref (gp k)), some (.int x45), some (.int (nI s)), some (.int (nI (tb.getD i 0)))] := hL9.symm
          refine u_goto (pc := 46) (tgt := 52) C d_E_replaceBy_46 rfl ?_
          refine u_iinc (pc := 52) (v2 := 1) C d_E_replaceBy_52 rfl rfl (by decide) (fun x52 e52 L9 hL9 => ?_)
          obtain rfl : L9 = [some (.ref (ep b)), some (.ref (gp k)), some (.int x45), some (.int x52), some (.int (nI (tb.getD i 0)))] := hL9.symm
          refine u_goto (pc := 55) (tgt := 4) C d_E_replaceBy_55 rfl ?_
          obtain rfl : x52 = nI (s + 1) := by rw [e52, nI_succ]
          refine u_drop 4 rfl ?_
          obtain rfl : x45 = nI 0 := e45
          have hlen := unu_len hnd (getD_mem hlt) hfu.2
          refine ih 0 (s + 1) (us ++ [tb.getD i 0]) _ _ (by omega) (by omega) (by rw [List.length_append, List.length_singleton]; omega) (by rw [List.length_append, List.length_singleton]; omega) (by rw [List.length_append, List.length_singleton]; omega) (ho.trans ho2) hE2 (fun j hj => by omega) (fun v M' h => hQ v M' ?_)
          have er : repl cd (unu tb us).length (unu tb us) e = ((repl cd (unu tb (us ++ [tb.getD i 0])).length (unu tb (us ++ [tb.getD i 0])) (useR cd e (tb.getD i 0))).1, tb.getD i 0 :: (repl cd (unu tb (us ++ [tb.getD i 0])).length (unu tb (us ++ [tb.getD i 0])) (useR cd e (tb.getD i 0))).2) := by
            rw [show (unu tb us).length = (unu tb (us ++ [tb.getD i 0])).length + 1 from hlen.symm, repl, unu_at hlt hw hfu]
            dsimp only
            rw [unu_erase hnd]
          rw [er]
          rw [List.append_assoc] at h
          exact h
set_option maxRecDepth 20000 in
theorem c_E_replaceBy {b : Nat} {M : Mem} (hb : b < 2) {k n m : Nat} {g : Gm} {tb : List Nat} {cd : Nat → Nat → Int32} {e : Int32 × Int32 × Int32} (hk : k < 6) (hR : RepG M k n g tb m) (hcd : CDm M cd) (hW : WFc cd n) (ht : tb.length ≤ 24) (hn : n ≤ 24) (hbd : ∀ d, d ∈ tb → d < n) (hnd : tb.Nodup) (hE : EV M b e []) : Ct lyC y_E_replaceBy b_E_replaceBy 5 none 2 [.ref (ep b), .ref (gp k)] M (Pv fun M' => EV M' b (repl cd tb.length tb e).1 (repl cd tb.length tb e).2 ∧ Off (eblk b) M M') := by
  refine Ct.ofG mx_E_replaceBy [some (.ref (ep b)), some (.ref (gp k)), none, none, none] rfl rfl (Nat.le_of_ble_eq_true rfl) (fun κ C hQ => ?_)
  refine u_iconst (pc := 0) (v := 0) C d_E_replaceBy_0 (by decide) ?_
  refine u_istore_n (pc := 1) C d_E_replaceBy_1 rfl (fun x1 e1 L9 hL9 => ?_)
  obtain rfl : L9 = [some (.ref (ep b)), some (.ref (gp k)), some (.int x1), none, none] := hL9.symm
  refine u_iconst (pc := 2) (v := 0) C d_E_replaceBy_2 (by decide) ?_
  refine u_istore_n (pc := 3) C d_E_replaceBy_3 rfl (fun x3 e3 L9 hL9 => ?_)
  obtain rfl : L9 = [some (.ref (ep b)), some (.ref (gp k)), some (.int x1), some (.int x3), none] := hL9.symm
  obtain rfl : x1 = nI 0 := e1
  obtain rfl : x3 = nI 0 := e3
  have hu : unu tb [] = tb := by
    unfold unu
    exact List.filter_eq_self.mpr (fun a _ => by simp)
  exact lp_rb hb hk hR hcd hW ht hn hbd hnd C (tb.length * 25 + tb.length + 1) 0 0 [] e M (by rw [hu]; omega) (by omega) (by rw [hu]; simp) (by simp) (by simp) Off.refl hE (fun j hj => by omega) (fun v M' h => hQ v M' (by rw [hu, List.nil_append] at h; exact h))
def lblk (b p : Nat) : Prop := op b ≤ p ∧ p < op b + 3
def LGd (M : Mem) (b : Nat) (th ev : List Int32) : Prop := M.1 (op b) 2 = nI (min th.length 40) ∧ (∀ i, i < min th.length 40 → M.1 (op b + 1) i = th.getD i 0) ∧ M.1 (op b) 3 = nI (min ev.length 40) ∧ (∀ i, i < min ev.length 40 → M.1 (op b + 2) i = ev.getD i 0)
theorem lblk0 {b : Nat} : lblk b (op b) := ⟨by omega, by omega⟩
theorem lblkj {b : Nat} (j : Nat) (h : j < 3) : lblk b (op b + j) := ⟨by omega, by omega⟩
theorem l_g {b k p : Nat} (hk : k < 6) (h : lblk b p) : ¬ blk k p := fun q => by
  have h1 := h.1
  have h2 := q.2
  unfold op at h1
  unfold gp at h2
  omega
theorem l_cd {b p : Nat} (h1 : 1 ≤ p) (h2 : p ≤ 5) : ¬ lblk b p := fun q => by
  have h1 := q.1
  unfold op at h1
  omega
theorem LGd.off {S : Nat → Prop} {M M' : Mem} {b : Nat} {th ev : List Int32} (h : LGd M b th ev) (ho : Off S M M') (hS : ∀ p, S p → ¬ lblk b p) : LGd M' b th ev := by
  unfold LGd at h ⊢
  rw [(ho (op b) (fun q => hS _ q lblk0)).1, (ho (op b + 1) (fun q => hS _ q (lblkj 1 (by decide)))).1, (ho (op b + 2) (fun q => hS _ q (lblkj 2 (by decide)))).1]
  exact h
theorem getDI_app {l : List Int32} {x : Int32} {i : Nat} (h : i < l.length) : (l ++ [x]).getD i 0 = l.getD i 0 := by
  simp [List.getD_eq_getElem?_getD, List.getElem?_append_left h]
theorem getDI_last {l : List Int32} {x : Int32} : (l ++ [x]).getD l.length 0 = x := by simp [List.getD_eq_getElem?_getD]
set_option maxRecDepth 20000 in
theorem c_O_empty {b : Nat} {M : Mem} (hb : b < 2)  : Ct lyC y_O_empty b_O_empty 1 none 1 [.ref (op b)] M (Pv fun M' => LGd M' b [] [] ∧ Off (lblk b) M M') := by
  refine Ct.ofG mx_O_empty [some (.ref (op b))] rfl rfl (Nat.le_of_ble_eq_true rfl) (fun κ C hQ => ?_)
  refine u_aload_n (pc := 0) C d_O_empty_0 rfl ?_
  refine u_iconst (pc := 1) (v := 0) C d_O_empty_1 (by decide) ?_
  refine u_put (pc := 2) C d_O_empty_2 fw_O_18 (shO0 hb) rfl (Or.inl rfl) ?_
  refine u_aload_n (pc := 5) C d_O_empty_5 rfl ?_
  refine u_iconst (pc := 6) (v := 0) C d_O_empty_6 (by decide) ?_
  refine u_put (pc := 7) C d_O_empty_7 fw_O_22 (shO0 hb) rfl (Or.inl rfl) ?_
  refine u_vret (pc := 10) C d_O_empty_10 (hQ _ _ ⟨rfl, ?_⟩)
  exact ⟨⟨by simp [up]; rfl, fun i hi => by simp at hi, by simp [up]; rfl, fun i hi => by simp at hi⟩, (Off.up lblk0).trans (Off.up lblk0)⟩
set_option maxRecDepth 20000 in
theorem c_O_addThing {b : Nat} {M : Mem} (hb : b < 2) {th ev : List Int32} {x : Int32} (h : LGd M b th ev) : Ct lyC y_O_addThing b_O_addThing 2 none 1 [.ref (op b), .int x] M (Pv fun M' => LGd M' b (th ++ [x]) ev ∧ Off (lblk b) M M') := by
  refine Ct.ofG mx_O_addThing [some (.ref (op b)), some (.int x)] rfl rfl (Nat.le_of_ble_eq_true rfl) (fun κ C hQ => ?_)
  refine u_aload_n (pc := 0) C d_O_addThing_0 rfl ?_
  refine u_geti (pc := 1) C d_O_addThing_1 fw_O_18 (shO0 hb) rfl ?_
  refine u_bipush (pc := 4) (v := 40) C d_O_addThing_4 (by decide) ?_
  refine u_icmp_ge (pc := 6) (tgt := 31) C d_O_addThing_6 rfl (fun c6 => ?_) (fun c6 => ?_)
  · refine u_vret (pc := 31) C d_O_addThing_31 (hQ _ _ ⟨rfl, ?_⟩)
    rw [h.1] at c6
    have hge : 40 ≤ min th.length 40 := (nI_leI (a := 40) (by omega) (by omega)).mp c6
    have e9 : min th.length 40 = 40 := by omega
    have e8 : min (th ++ [x]).length 40 = 40 := by rw [List.length_append, List.length_singleton]; omega
    obtain ⟨h1, h2, h3, h4⟩ := h
    refine ⟨⟨by rw [e8, h1, e9], fun i hi => ?_, h3, h4⟩, Off.refl⟩
    rw [e8] at hi
    rw [getDI_app (by omega)]
    exact h2 i (by omega)
  · refine u_aload_n (pc := 9) C d_O_addThing_9 rfl ?_
    refine u_getr (pc := 10) (r := (op b + 1)) C d_O_addThing_10 fw_O_9 (shO0 hb) rfl (rf_O_0 hb) ?_
    refine u_aload_n (pc := 13) C d_O_addThing_13 rfl ?_
    refine u_geti (pc := 14) C d_O_addThing_14 fw_O_18 (shO0 hb) rfl ?_
    refine u_iload_n (pc := 17) C d_O_addThing_17 rfl ?_
    refine u_callSv (pc := 18) C d_O_addThing_18 mx_L_put mw_O_25 (c_L_put (shO1 hb)) rfl rfl (Nat.le_of_ble_eq_true rfl) (fun M18 q18 => ?_)
    have q18 := q18.symm
    subst q18
    refine u_aload_n (pc := 21) C d_O_addThing_21 rfl ?_
    refine u_dup (pc := 22) C d_O_addThing_22 rfl ?_
    refine u_geti (pc := 23) C d_O_addThing_23 fw_O_18 (shO0 hb) rfl ?_
    refine u_iconst (pc := 26) (v := 1) C d_O_addThing_26 (by decide) ?_
    refine u_iadd (pc := 27) C d_O_addThing_27 ?_
    refine u_put (pc := 28) C d_O_addThing_28 fw_O_18 (shO0 hb) rfl (Or.inl rfl) ?_
    refine u_vret (pc := 31) C d_O_addThing_31 (hQ _ _ ⟨rfl, ?_⟩)
    rw [h.1] at c6
    have hlt : min th.length 40 < 40 := (nI_ltI (b := 40) (by omega) (by omega)).mp (Int32.not_le.mp c6)
    have e9 : min th.length 40 = th.length := by omega
    have e8 : min (th ++ [x]).length 40 = th.length + 1 := by rw [List.length_append, List.length_singleton]; omega
    obtain ⟨h1, h2, h3, h4⟩ := h
    rw [h1, e9, putF_in (by omega) (by decide)]
    refine ⟨⟨by rw [e8]; simp [up, h1, e9, nI_succ], fun i hi => ?_, by simpa [up] using h3, by simpa [up] using h4⟩, (Off.up (lblkj 1 (by decide))).trans (Off.up lblk0)⟩
    rw [e8] at hi
    by_cases q : i = th.length
    · subst q
      rw [getDI_last]; simp [up]
    · rw [getDI_app (by omega), up_ne (by omega)]
      exact (if_neg (fun z => q z.2)).trans (h2 i (by omega))
set_option maxRecDepth 20000 in
theorem c_O_addEvent {b : Nat} {M : Mem} (hb : b < 2) {th ev : List Int32} {x : Int32} (h : LGd M b th ev) : Ct lyC y_O_addEvent b_O_addEvent 2 none 1 [.ref (op b), .int x] M (Pv fun M' => LGd M' b th (ev ++ [x]) ∧ Off (lblk b) M M') := by
  refine Ct.ofG mx_O_addEvent [some (.ref (op b)), some (.int x)] rfl rfl (Nat.le_of_ble_eq_true rfl) (fun κ C hQ => ?_)
  refine u_aload_n (pc := 0) C d_O_addEvent_0 rfl ?_
  refine u_geti (pc := 1) C d_O_addEvent_1 fw_O_22 (shO0 hb) rfl ?_
  refine u_bipush (pc := 4) (v := 40) C d_O_addEvent_4 (by decide) ?_
  refine u_icmp_ge (pc := 6) (tgt := 31) C d_O_addEvent_6 rfl (fun c6 => ?_) (fun c6 => ?_)
  · refine u_vret (pc := 31) C d_O_addEvent_31 (hQ _ _ ⟨rfl, ?_⟩)
    rw [h.2.2.1] at c6
    have hge : 40 ≤ min ev.length 40 := (nI_leI (a := 40) (by omega) (by omega)).mp c6
    have e9 : min ev.length 40 = 40 := by omega
    have e8 : min (ev ++ [x]).length 40 = 40 := by rw [List.length_append, List.length_singleton]; omega
    obtain ⟨h1, h2, h3, h4⟩ := h
    refine ⟨⟨h1, h2, by rw [e8, h3, e9], fun i hi => ?_⟩, Off.refl⟩
    rw [e8] at hi
    rw [getDI_app (by omega)]
    exact h4 i (by omega)
  · refine u_aload_n (pc := 9) C d_O_addEvent_9 rfl ?_
    refine u_getr (pc := 10) (r := (op b + 2)) C d_O_addEvent_10 fw_O_15 (shO0 hb) rfl (rf_O_1 hb) ?_
    refine u_aload_n (pc := 13) C d_O_addEvent_13 rfl ?_
    refine u_geti (pc := 14) C d_O_addEvent_14 fw_O_22 (shO0 hb) rfl ?_
    refine u_iload_n (pc := 17) C d_O_addEvent_17 rfl ?_
    refine u_callSv (pc := 18) C d_O_addEvent_18 mx_L_put mw_O_25 (c_L_put (shO2 hb)) rfl rfl (Nat.le_of_ble_eq_true rfl) (fun M18 q18 => ?_)
    have q18 := q18.symm
    subst q18
    refine u_aload_n (pc := 21) C d_O_addEvent_21 rfl ?_
    refine u_dup (pc := 22) C d_O_addEvent_22 rfl ?_
    refine u_geti (pc := 23) C d_O_addEvent_23 fw_O_22 (shO0 hb) rfl ?_
    refine u_iconst (pc := 26) (v := 1) C d_O_addEvent_26 (by decide) ?_
    refine u_iadd (pc := 27) C d_O_addEvent_27 ?_
    refine u_put (pc := 28) C d_O_addEvent_28 fw_O_22 (shO0 hb) rfl (Or.inl rfl) ?_
    refine u_vret (pc := 31) C d_O_addEvent_31 (hQ _ _ ⟨rfl, ?_⟩)
    rw [h.2.2.1] at c6
    have hlt : min ev.length 40 < 40 := (nI_ltI (b := 40) (by omega) (by omega)).mp (Int32.not_le.mp c6)
    have e9 : min ev.length 40 = ev.length := by omega
    have e8 : min (ev ++ [x]).length 40 = ev.length + 1 := by rw [List.length_append, List.length_singleton]; omega
    obtain ⟨h1, h2, h3, h4⟩ := h
    rw [h3, e9, putF_in (by omega) (by decide)]
    refine ⟨⟨by simpa [up] using h1, by simpa [up] using h2, by rw [e8]; simp [up, h3, e9, nI_succ], fun i hi => ?_⟩, (Off.up (lblkj 2 (by decide))).trans (Off.up lblk0)⟩
    rw [e8] at hi
    by_cases q : i = ev.length
    · subst q
      rw [getDI_last]; simp [up]
    · rw [getDI_app (by omega), up_ne (by omega)]
      exact (if_neg (fun z => q z.2)).trans (h4 i (by omega))
