/-! the class's layers: which come to the values in what order, and what the values are -/
def WFc (cd : Nat → Nat → Int32) (n : Nat) : Prop := ∀ c, c < n → (∃ k, k ≤ 14 ∧ cd 0 c = nI k) ∧ (cd 1 c = 0 ∨ cd 1 c = 1) ∧ (∃ v, v < 4 ∧ cd 2 c = nI v) ∧ (∃ w, w < 4 ∧ cd 3 c = nI w) ∧ (-9 ≤ (cd 4 c).toInt ∧ (cd 4 c).toInt ≤ 9)
def yblk (b p : Nat) : Prop := yp b ≤ p ∧ p < yp b + 5
theorem yblkj {b : Nat} (j : Nat) (h : j < 5) : yblk b (yp b + j) := ⟨by omega, by omega⟩
theorem yblk0 {b : Nat} : yblk b (yp b) := ⟨by omega, by omega⟩
theorem y_g {b k p : Nat} (hk : k < 6) (h : yblk b p) : ¬ blk k p := fun q => by
  have h1 := h.1
  have h2 := q.2
  unfold yp at h1
  unfold gp at h2
  omega
theorem y_cd {b p : Nat} (h1 : 1 ≤ p) (h2 : p ≤ 5) : ¬ yblk b p := fun q => by
  have h1 := q.1
  unfold yp at h1
  omega
def cnt (cd : Nat → Nat → Int32) (op : List Nat) (v : Nat) : Nat := (op.filter (fun o => decide (cd 2 o = nI v))).length
theorem cnt_le {cd : Nat → Nat → Int32} {op : List Nat} {v : Nat} : cnt cd op v ≤ op.length := List.length_filter_le _ _
theorem cnt_app {cd : Nat → Nat → Int32} {op : List Nat} {c v vv : Nat} (hc : cd 2 c = nI vv) (h1 : v < 4) (h2 : vv < 4) : cnt cd (op ++ [c]) v = cnt cd op v + if v = vv then 1 else 0 := by
  have e : (nI vv = nI v) ↔ v = vv := ⟨fun q => ((nI_eq (by omega) (by omega)).mp q).symm, fun q => by rw [q]⟩
  by_cases h : v = vv
  · subst h
    rw [if_pos rfl, cnt, cnt, List.filter_append, List.length_append, List.filter_cons_of_pos (by simp [hc]), List.filter_nil]; rfl
  · rw [if_neg h, cnt, cnt, List.filter_append, List.length_append, List.filter_cons_of_neg (by simp [hc, e, h]), List.filter_nil]; rfl
theorem cnt_erase {cd : Nat → Nat → Int32} {op : List Nat} {c v vv : Nat} (hm : c ∈ op) (hc : cd 2 c = nI vv) (h1 : v < 4) (h2 : vv < 4) : cnt cd op v = cnt cd (op.erase c) v + if v = vv then 1 else 0 := by
  rw [← cnt_app hc h1 h2]
  unfold cnt
  apply List.Perm.length_eq
  apply List.Perm.filter
  exact (List.perm_cons_erase hm).trans (List.perm_append_singleton c (op.erase c)).symm
/-- the open layers of a Layering -/
def LYo (M : Mem) (b : Nat) (cd : Nat → Nat → Int32) (op : List Nat) : Prop := M.1 (yp b) 6 = nI op.length ∧ (∀ i, i < op.length → M.1 (yp b + 3) i = nI (op.getD i 0)) ∧ ∀ v, v < 4 → M.1 (yp b + 4) v = nI (cnt cd op v)
theorem at_cd {M : Mem} {cd : Nat → Nat → Int32} {c : Nat} (hcd : CDm M cd) (hc : c < 24) : atF (M.1 1) 24 (nI c) = cd 0 c ∧ atF (M.1 2) 24 (nI c) = cd 1 c ∧ atF (M.1 3) 24 (nI c) = cd 2 c ∧ atF (M.1 4) 24 (nI c) = cd 3 c ∧ atF (M.1 5) 24 (nI c) = cd 4 c := by
  obtain ⟨h1, h2, h3, h4, h5⟩ := hcd
  rw [h1, h2, h3, h4, h5]
  exact ⟨atF_in hc (by decide), atF_in hc (by decide), atF_in hc (by decide), atF_in hc (by decide), atF_in hc (by decide)⟩
set_option maxRecDepth 20000 in
theorem c_Y_countOn {b : Nat} {cd : Nat → Nat → Int32} {M : Mem} (hb : b < 2) {c v : Nat} {x : Int32} (hcd : CDm M cd) (hc : c < 24) (hv : v < 4) (hcv : cd 2 c = nI v) : Ct lyC y_Y_countOn b_Y_countOn 4 none 1 [.ref (yp b), .int (nI c), .int x] M (Pv fun M' => M' = up M (yp b + 4) v (M.1 (yp b + 4) v + x)) := by
  refine Ct.ofG mx_Y_countOn [some (.ref (yp b)), some (.int (nI c)), some (.int x), none] rfl rfl (Nat.le_of_ble_eq_true rfl) (fun κ C hQ => ?_)
  refine u_aload_n (pc := 0) C d_Y_countOn_0 rfl ?_
  refine u_getr (pc := 1) (r := 0) C d_Y_countOn_1 fw_Y_24 (shY0 hb) rfl (rf_Y_0 hb) ?_
  refine u_getr (pc := 4) (r := 3) C d_Y_countOn_4 fw_Y_83 sC_0 rfl rfl ?_
  refine u_iload_n (pc := 7) C d_Y_countOn_7 rfl ?_
  refine u_callSi (pc := 8) C d_Y_countOn_8 mx_L_at mw_Y_66 (c_L_at sC_3) rfl rfl (Nat.le_of_ble_eq_true rfl) (fun r8 M8 q8 => ?_)
  obtain ⟨e8, q8⟩ := q8
  have q8 := q8.symm
  subst q8
  refine u_istore_n (pc := 11) C d_Y_countOn_11 rfl (fun x11 e11 L9 hL9 => ?_)
  obtain rfl : L9 = [some (.ref (yp b)), some (.int (nI c)), some (.int x), some (.int x11)] := hL9.symm
  refine u_aload_n (pc := 12) C d_Y_countOn_12 rfl ?_
  refine u_getr (pc := 13) (r := (yp b + 4)) C d_Y_countOn_13 fw_Y_21 (shY0 hb) rfl (rf_Y_5 hb) ?_
  refine u_iload_n (pc := 16) C d_Y_countOn_16 rfl ?_
  refine u_aload_n (pc := 17) C d_Y_countOn_17 rfl ?_
  refine u_getr (pc := 18) (r := (yp b + 4)) C d_Y_countOn_18 fw_Y_21 (shY0 hb) rfl (rf_Y_5 hb) ?_
  refine u_iload_n (pc := 21) C d_Y_countOn_21 rfl ?_
  refine u_callSi (pc := 22) C d_Y_countOn_22 mx_L_at mw_Y_66 (c_L_at (shY4 hb)) rfl rfl (Nat.le_of_ble_eq_true rfl) (fun r22 M22 q22 => ?_)
  obtain ⟨e22, q22⟩ := q22
  have q22 := q22.symm
  subst q22
  refine u_iload_n (pc := 25) C d_Y_countOn_25 rfl ?_
  refine u_iadd (pc := 26) C d_Y_countOn_26 ?_
  refine u_callSv (pc := 27) C d_Y_countOn_27 mx_L_put mw_Y_52 (c_L_put (shY4 hb)) rfl rfl (Nat.le_of_ble_eq_true rfl) (fun M27 q27 => ?_)
  have q27 := q27.symm
  subst q27
  refine u_vret (pc := 30) C d_Y_countOn_30 (hQ _ _ ⟨rfl, ?_⟩)
  rw [(at_cd hcd hc).2.2.1, hcv] at e8
  rw [e11, e8, putF_in hv (by decide), e22, e11, e8, atF_in hv (by decide)]
set_option maxRecDepth 20000 in
theorem c_Y_waits {b : Nat} {cd : Nat → Nat → Int32} {M : Mem} (hb : b < 2) {c v w : Nat} (hcd : CDm M cd) (hc : c < 24) (hv : v < 4) (hw : w < 4) (hcv : cd 2 c = nI v) (hcw : cd 3 c = nI w) : Ct lyC y_Y_waits b_Y_waits 4 (some .boolean) 1 [.ref (yp b), .int (nI c)] M (Pi fun r M' => r = (if (cd 0 c = 3 ∨ cd 0 c = 4) ∧ (if v = w then (1 : Int32) else 0) < M.1 (yp b + 4) w then 1 else 0) ∧ M' = M) := by
  refine Ct.ofG mx_Y_waits [some (.ref (yp b)), some (.int (nI c)), none, none] rfl rfl (Nat.le_of_ble_eq_true rfl) (fun κ C hQ => ?_)
  refine u_aload_n (pc := 0) C d_Y_waits_0 rfl ?_
  refine u_getr (pc := 1) (r := 0) C d_Y_waits_1 fw_Y_24 (shY0 hb) rfl (rf_Y_0 hb) ?_
  refine u_getr (pc := 4) (r := 1) C d_Y_waits_4 fw_Y_70 sC_0 rfl rfl ?_
  refine u_iload_n (pc := 7) C d_Y_waits_7 rfl ?_
  refine u_callSi (pc := 8) C d_Y_waits_8 mx_L_at mw_Y_66 (c_L_at sC_1) rfl rfl (Nat.le_of_ble_eq_true rfl) (fun r8 M8 q8 => ?_)
  obtain ⟨e8, q8⟩ := q8
  have q8 := q8.symm
  subst q8
  refine u_callSi (pc := 11) C d_Y_waits_11 mx_L_looksAtOther mw_Y_90 (c_L_looksAtOther) rfl rfl (Nat.le_of_ble_eq_true rfl) (fun r11 M11 q11 => ?_)
  obtain ⟨e11, q11⟩ := q11
  have q11 := q11.symm
  subst q11
  refine u_if_ne (pc := 14) (tgt := 19) C d_Y_waits_14 rfl (fun c14 => ?_) (fun c14 => ?_)
  · refine u_aload_n (pc := 19) C d_Y_waits_19 rfl ?_
    refine u_getr (pc := 20) (r := 0) C d_Y_waits_20 fw_Y_24 (shY0 hb) rfl (rf_Y_0 hb) ?_
    refine u_getr (pc := 23) (r := 4) C d_Y_waits_23 fw_Y_93 sC_0 rfl rfl ?_
    refine u_iload_n (pc := 26) C d_Y_waits_26 rfl ?_
    refine u_callSi (pc := 27) C d_Y_waits_27 mx_L_at mw_Y_66 (c_L_at sC_4) rfl rfl (Nat.le_of_ble_eq_true rfl) (fun r27 M27 q27 => ?_)
    obtain ⟨e27, q27⟩ := q27
    have q27 := q27.symm
    subst q27
    refine u_istore_n (pc := 30) C d_Y_waits_30 rfl (fun x30 e30 L9 hL9 => ?_)
    obtain rfl : L9 = [some (.ref (yp b)), some (.int (nI c)), some (.int x30), none] := hL9.symm
    refine u_aload_n (pc := 31) C d_Y_waits_31 rfl ?_
    refine u_getr (pc := 32) (r := 0) C d_Y_waits_32 fw_Y_24 (shY0 hb) rfl (rf_Y_0 hb) ?_
    refine u_getr (pc := 35) (r := 3) C d_Y_waits_35 fw_Y_83 sC_0 rfl rfl ?_
    refine u_iload_n (pc := 38) C d_Y_waits_38 rfl ?_
    refine u_callSi (pc := 39) C d_Y_waits_39 mx_L_at mw_Y_66 (c_L_at sC_3) rfl rfl (Nat.le_of_ble_eq_true rfl) (fun r39 M39 q39 => ?_)
    obtain ⟨e39, q39⟩ := q39
    have q39 := q39.symm
    subst q39
    refine u_iload_n (pc := 42) C d_Y_waits_42 rfl ?_
    refine u_icmp_ne (pc := 43) (tgt := 50) C d_Y_waits_43 rfl (fun c43 => ?_) (fun c43 => ?_)
    · refine u_iconst (pc := 50) (v := 0) C d_Y_waits_50 (by decide) ?_
      refine u_istore_n (pc := 51) C d_Y_waits_51 rfl (fun x51 e51 L9 hL9 => ?_)
      obtain rfl : L9 = [some (.ref (yp b)), some (.int (nI c)), some (.int x30), some (.int x51)] := hL9.symm
      refine u_aload_n (pc := 52) C d_Y_waits_52 rfl ?_
      refine u_getr (pc := 53) (r := (yp b + 4)) C d_Y_waits_53 fw_Y_21 (shY0 hb) rfl (rf_Y_5 hb) ?_
      refine u_iload_n (pc := 56) C d_Y_waits_56 rfl ?_
      refine u_callSi (pc := 57) C d_Y_waits_57 mx_L_at mw_Y_66 (c_L_at (shY4 hb)) rfl rfl (Nat.le_of_ble_eq_true rfl) (fun r57 M57 q57 => ?_)
      obtain ⟨e57, q57⟩ := q57
      have q57 := q57.symm
      subst q57
      refine u_iload_n (pc := 60) C d_Y_waits_60 rfl ?_
      refine u_icmp_le (pc := 61) (tgt := 68) C d_Y_waits_61 rfl (fun c61 => ?_) (fun c61 => ?_)
      · refine u_iconst (pc := 68) (v := 0) C d_Y_waits_68 (by decide) ?_
        refine u_zret (pc := 69) C d_Y_waits_69 (by decide) (hQ _ _ ⟨_, rfl, ?_⟩)
        refine ⟨?_, rfl⟩
        rw [e8, (at_cd hcd hc).1] at e11
        rw [e27, (at_cd hcd hc).2.2.2.1, hcw] at e30
        rw [(at_cd hcd hc).2.2.1, hcv] at e39
        rw [e30, atF_in hw (by decide)] at e57
        have hk : cd 0 c = 3 ∨ cd 0 c = 4 := by
          rcases Classical.em (cd 0 c = 3 ∨ cd 0 c = 4) with q | q
          · exact q
          · exact absurd (e11.trans (if_neg q)) c14
        have hvw : (if v = w then (1 : Int32) else 0) = x51 := by
          rw [e51]
          rw [e39, e30] at c43
          first
            | exact if_pos ((nI_eq (by omega) (by omega)).mp c43)
            | exact if_neg (fun q => c43 (by rw [q]))
        rw [e57] at c61
        rw [hvw]
        first
          | (rw [if_pos ⟨hk, Int32.not_le.mp c61⟩]; done)
          | (rw [if_neg (fun q => absurd c61 (Int32.not_le.mpr q.2))])
      · refine u_iconst (pc := 64) (v := 1) C d_Y_waits_64 (by decide) ?_
        refine u_goto (pc := 65) (tgt := 69) C d_Y_waits_65 rfl ?_
        refine u_zret (pc := 69) C d_Y_waits_69 (by decide) (hQ _ _ ⟨_, rfl, ?_⟩)
        refine ⟨?_, rfl⟩
        rw [e8, (at_cd hcd hc).1] at e11
        rw [e27, (at_cd hcd hc).2.2.2.1, hcw] at e30
        rw [(at_cd hcd hc).2.2.1, hcv] at e39
        rw [e30, atF_in hw (by decide)] at e57
        have hk : cd 0 c = 3 ∨ cd 0 c = 4 := by
          rcases Classical.em (cd 0 c = 3 ∨ cd 0 c = 4) with q | q
          · exact q
          · exact absurd (e11.trans (if_neg q)) c14
        have hvw : (if v = w then (1 : Int32) else 0) = x51 := by
          rw [e51]
          rw [e39, e30] at c43
          first
            | exact if_pos ((nI_eq (by omega) (by omega)).mp c43)
            | exact if_neg (fun q => c43 (by rw [q]))
        rw [e57] at c61
        rw [hvw]
        first
          | (rw [if_pos ⟨hk, Int32.not_le.mp c61⟩]; done)
          | (rw [if_neg (fun q => absurd c61 (Int32.not_le.mpr q.2))])
    · refine u_iconst (pc := 46) (v := 1) C d_Y_waits_46 (by decide) ?_
      refine u_goto (pc := 47) (tgt := 51) C d_Y_waits_47 rfl ?_
      refine u_istore_n (pc := 51) C d_Y_waits_51 rfl (fun x51 e51 L9 hL9 => ?_)
      obtain rfl : L9 = [some (.ref (yp b)), some (.int (nI c)), some (.int x30), some (.int x51)] := hL9.symm
      refine u_aload_n (pc := 52) C d_Y_waits_52 rfl ?_
      refine u_getr (pc := 53) (r := (yp b + 4)) C d_Y_waits_53 fw_Y_21 (shY0 hb) rfl (rf_Y_5 hb) ?_
      refine u_iload_n (pc := 56) C d_Y_waits_56 rfl ?_
      refine u_callSi (pc := 57) C d_Y_waits_57 mx_L_at mw_Y_66 (c_L_at (shY4 hb)) rfl rfl (Nat.le_of_ble_eq_true rfl) (fun r57 M57 q57 => ?_)
      obtain ⟨e57, q57⟩ := q57
      have q57 := q57.symm
      subst q57
      refine u_iload_n (pc := 60) C d_Y_waits_60 rfl ?_
      refine u_icmp_le (pc := 61) (tgt := 68) C d_Y_waits_61 rfl (fun c61 => ?_) (fun c61 => ?_)
      · refine u_iconst (pc := 68) (v := 0) C d_Y_waits_68 (by decide) ?_
        refine u_zret (pc := 69) C d_Y_waits_69 (by decide) (hQ _ _ ⟨_, rfl, ?_⟩)
        refine ⟨?_, rfl⟩
        rw [e8, (at_cd hcd hc).1] at e11
        rw [e27, (at_cd hcd hc).2.2.2.1, hcw] at e30
        rw [(at_cd hcd hc).2.2.1, hcv] at e39
        rw [e30, atF_in hw (by decide)] at e57
        have hk : cd 0 c = 3 ∨ cd 0 c = 4 := by
          rcases Classical.em (cd 0 c = 3 ∨ cd 0 c = 4) with q | q
          · exact q
          · exact absurd (e11.trans (if_neg q)) c14
        have hvw : (if v = w then (1 : Int32) else 0) = x51 := by
          rw [e51]
          rw [e39, e30] at c43
          first
            | exact if_pos ((nI_eq (by omega) (by omega)).mp c43)
            | exact if_neg (fun q => c43 (by rw [q]))
        rw [e57] at c61
        rw [hvw]
        first
          | (rw [if_pos ⟨hk, Int32.not_le.mp c61⟩]; done)
          | (rw [if_neg (fun q => absurd c61 (Int32.not_le.mpr q.2))])
      · refine u_iconst (pc := 64) (v := 1) C d_Y_waits_64 (by decide) ?_
        refine u_goto (pc := 65) (tgt := 69) C d_Y_waits_65 rfl ?_
        refine u_zret (pc := 69) C d_Y_waits_69 (by decide) (hQ _ _ ⟨_, rfl, ?_⟩)
        refine ⟨?_, rfl⟩
        rw [e8, (at_cd hcd hc).1] at e11
        rw [e27, (at_cd hcd hc).2.2.2.1, hcw] at e30
        rw [(at_cd hcd hc).2.2.1, hcv] at e39
        rw [e30, atF_in hw (by decide)] at e57
        have hk : cd 0 c = 3 ∨ cd 0 c = 4 := by
          rcases Classical.em (cd 0 c = 3 ∨ cd 0 c = 4) with q | q
          · exact q
          · exact absurd (e11.trans (if_neg q)) c14
        have hvw : (if v = w then (1 : Int32) else 0) = x51 := by
          rw [e51]
          rw [e39, e30] at c43
          first
            | exact if_pos ((nI_eq (by omega) (by omega)).mp c43)
            | exact if_neg (fun q => c43 (by rw [q]))
        rw [e57] at c61
        rw [hvw]
        first
          | (rw [if_pos ⟨hk, Int32.not_le.mp c61⟩]; done)
          | (rw [if_neg (fun q => absurd c61 (Int32.not_le.mpr q.2))])
  · refine u_iconst (pc := 17) (v := 0) C d_Y_waits_17 (by decide) ?_
    refine u_zret (pc := 18) C d_Y_waits_18 (by decide) (hQ _ _ ⟨_, rfl, ?_⟩)
    refine ⟨?_, rfl⟩
    rw [e8, (at_cd hcd hc).1] at e11
    rw [if_neg]
    rintro ⟨q, -⟩
    rw [if_pos q, c14] at e11
    exact absurd e11 (by decide)
set_option maxRecDepth 20000 in
theorem c_Y_use {b : Nat} {cd : Nat → Nat → Int32} {M : Mem} (hb : b < 2) {c v w : Nat} (hcd : CDm M cd) (hc : c < 24) (hv : v < 4) (hw : w < 4) (hcv : cd 2 c = nI v) (hcw : cd 3 c = nI w) : Ct lyC y_Y_use b_Y_use 5 none 2 [.ref (yp b), .int (nI c)] M (Pv fun M' => M' = up M (yp b + 1) v (layF (cd 0 c) (cd 4 c) (M.1 (yp b + 1) v) (M.1 (yp b + 1) w))) := by
  refine Ct.ofG mx_Y_use [some (.ref (yp b)), some (.int (nI c)), none, none, none] rfl rfl (Nat.le_of_ble_eq_true rfl) (fun κ C hQ => ?_)
  refine u_aload_n (pc := 0) C d_Y_use_0 rfl ?_
  refine u_getr (pc := 1) (r := 0) C d_Y_use_1 fw_Y_24 (shY0 hb) rfl (rf_Y_0 hb) ?_
  refine u_getr (pc := 4) (r := 3) C d_Y_use_4 fw_Y_83 sC_0 rfl rfl ?_
  refine u_iload_n (pc := 7) C d_Y_use_7 rfl ?_
  refine u_callSi (pc := 8) C d_Y_use_8 mx_L_at mw_Y_66 (c_L_at sC_3) rfl rfl (Nat.le_of_ble_eq_true rfl) (fun r8 M8 q8 => ?_)
  obtain ⟨e8, q8⟩ := q8
  have q8 := q8.symm
  subst q8
  refine u_istore_n (pc := 11) C d_Y_use_11 rfl (fun x11 e11 L9 hL9 => ?_)
  obtain rfl : L9 = [some (.ref (yp b)), some (.int (nI c)), some (.int x11), none, none] := hL9.symm
  refine u_aload_n (pc := 12) C d_Y_use_12 rfl ?_
  refine u_getr (pc := 13) (r := (yp b + 1)) C d_Y_use_13 fw_Y_9 (shY0 hb) rfl (rf_Y_1 hb) ?_
  refine u_iload_n (pc := 16) C d_Y_use_16 rfl ?_
  refine u_callSi (pc := 17) C d_Y_use_17 mx_L_at mw_Y_66 (c_L_at (shY1 hb)) rfl rfl (Nat.le_of_ble_eq_true rfl) (fun r17 M17 q17 => ?_)
  obtain ⟨e17, q17⟩ := q17
  have q17 := q17.symm
  subst q17
  refine u_istore_n (pc := 20) C d_Y_use_20 rfl (fun x20 e20 L9 hL9 => ?_)
  obtain rfl : L9 = [some (.ref (yp b)), some (.int (nI c)), some (.int x11), some (.int x20), none] := hL9.symm
  refine u_aload_n (pc := 21) C d_Y_use_21 rfl ?_
  refine u_getr (pc := 22) (r := (yp b + 1)) C d_Y_use_22 fw_Y_9 (shY0 hb) rfl (rf_Y_1 hb) ?_
  refine u_aload_n (pc := 25) C d_Y_use_25 rfl ?_
  refine u_getr (pc := 26) (r := 0) C d_Y_use_26 fw_Y_24 (shY0 hb) rfl (rf_Y_0 hb) ?_
  refine u_getr (pc := 29) (r := 4) C d_Y_use_29 fw_Y_93 sC_0 rfl rfl ?_
  refine u_iload_n (pc := 32) C d_Y_use_32 rfl ?_
  refine u_callSi (pc := 33) C d_Y_use_33 mx_L_at mw_Y_66 (c_L_at sC_4) rfl rfl (Nat.le_of_ble_eq_true rfl) (fun r33 M33 q33 => ?_)
  obtain ⟨e33, q33⟩ := q33
  have q33 := q33.symm
  subst q33
  refine u_callSi (pc := 36) C d_Y_use_36 mx_L_at mw_Y_66 (c_L_at (shY1 hb)) rfl rfl (Nat.le_of_ble_eq_true rfl) (fun r36 M36 q36 => ?_)
  obtain ⟨e36, q36⟩ := q36
  have q36 := q36.symm
  subst q36
  refine u_istore (pc := 39) C d_Y_use_39 rfl (fun x39 e39 L9 hL9 => ?_)
  obtain rfl : L9 = [some (.ref (yp b)), some (.int (nI c)), some (.int x11), some (.int x20), some (.int x39)] := hL9.symm
  refine u_aload_n (pc := 41) C d_Y_use_41 rfl ?_
  refine u_getr (pc := 42) (r := (yp b + 1)) C d_Y_use_42 fw_Y_9 (shY0 hb) rfl (rf_Y_1 hb) ?_
  refine u_iload_n (pc := 45) C d_Y_use_45 rfl ?_
  refine u_aload_n (pc := 46) C d_Y_use_46 rfl ?_
  refine u_getr (pc := 47) (r := 0) C d_Y_use_47 fw_Y_24 (shY0 hb) rfl (rf_Y_0 hb) ?_
  refine u_getr (pc := 50) (r := 1) C d_Y_use_50 fw_Y_70 sC_0 rfl rfl ?_
  refine u_iload_n (pc := 53) C d_Y_use_53 rfl ?_
  refine u_callSi (pc := 54) C d_Y_use_54 mx_L_at mw_Y_66 (c_L_at sC_1) rfl rfl (Nat.le_of_ble_eq_true rfl) (fun r54 M54 q54 => ?_)
  obtain ⟨e54, q54⟩ := q54
  have q54 := q54.symm
  subst q54
  refine u_aload_n (pc := 57) C d_Y_use_57 rfl ?_
  refine u_getr (pc := 58) (r := 0) C d_Y_use_58 fw_Y_24 (shY0 hb) rfl (rf_Y_0 hb) ?_
  refine u_getr (pc := 61) (r := 5) C d_Y_use_61 fw_Y_96 sC_0 rfl rfl ?_
  refine u_iload_n (pc := 64) C d_Y_use_64 rfl ?_
  refine u_callSi (pc := 65) C d_Y_use_65 mx_L_at mw_Y_66 (c_L_at sC_5) rfl rfl (Nat.le_of_ble_eq_true rfl) (fun r65 M65 q65 => ?_)
  obtain ⟨e65, q65⟩ := q65
  have q65 := q65.symm
  subst q65
  refine u_iload_n (pc := 68) C d_Y_use_68 rfl ?_
  refine u_iload (pc := 69) C d_Y_use_69 rfl ?_
  refine u_callSi (pc := 71) C d_Y_use_71 mx_L_layered mw_Y_99 (c_L_layered) rfl rfl (Nat.le_of_ble_eq_true rfl) (fun r71 M71 q71 => ?_)
  obtain ⟨e71, q71⟩ := q71
  have q71 := q71.symm
  subst q71
  refine u_callSv (pc := 74) C d_Y_use_74 mx_L_put mw_Y_52 (c_L_put (shY1 hb)) rfl rfl (Nat.le_of_ble_eq_true rfl) (fun M74 q74 => ?_)
  have q74 := q74.symm
  subst q74
  refine u_vret (pc := 77) C d_Y_use_77 (hQ _ _ ⟨rfl, ?_⟩)
  rw [(at_cd hcd hc).2.2.1, hcv] at e8
  rw [(at_cd hcd hc).2.2.2.1, hcw] at e33
  rw [(at_cd hcd hc).1] at e54
  rw [(at_cd hcd hc).2.2.2.2] at e65
  rw [e11, e8, atF_in hv (by decide)] at e17
  rw [e33, atF_in hw (by decide)] at e36
  rw [e11, e8, putF_in hv (by decide), e71, e54, e65, e20, e17, e39, e36]
theorem take_f {tb : List Nat} {f : Nat → Bool} {i : Nat} (hi : i < tb.length) : (tb.take (i + 1)).filter f = (tb.take i).filter f ++ if f (tb.getD i 0) = true then [tb.getD i 0] else [] := by
  have h9 : tb[i] = tb.getD i 0 := by rw [List.getD_eq_getElem?_getD, List.getElem?_eq_getElem hi]; rfl
  rw [List.take_succ_eq_append_getElem hi, List.filter_append, h9]
  by_cases h : f (tb.getD i 0) = true
  · rw [if_pos h, List.filter_cons_of_pos h, List.filter_nil]
  · rw [if_neg h, List.filter_cons_of_neg h, List.filter_nil]
theorem fam1 {k : Nat} (h : k ≤ 14) : famF (nI k) = 1 ↔ (nI k ≤ 4) := by
  revert k
  decide +kernel
theorem LYo.push {M : Mem} {b c v : Nat} {cd : Nat → Nat → Int32} {op : List Nat} (h : LYo M b cd op) (hc : cd 2 c = nI v) (hv : v < 4) :
    LYo (up (up (up M (yp b + 3) op.length (nI c)) (yp b) 6 (nI op.length + 1)) (yp b + 4) v (M.1 (yp b + 4) v + 1)) b cd (op ++ [c]) := by
  obtain ⟨h1, h2, h3⟩ := h
  refine ⟨by simp [up, nI_succ], fun i hi => ?_, fun u hu => ?_⟩
  · by_cases e : i = op.length
    · subst e
      simp [up]
    · have hi2 : i < op.length := by simp at hi; omega
      rw [getD_app hi2]
      simp [up, e, h2 i hi2]
  · rw [cnt_app hc hu hv]
    by_cases e : u = v
    · subst e
      simp [up, h3 u hu, nI_succ]
    · simp [up, e, h3 u hu]
set_option maxRecDepth 20000 in
theorem lp_gatherB {κ : KX} {b : Nat} {cd : Nat → Nat → Int32} {M : Mem} (hb : b < 2) {k n m : Nat} {g : Gm} {tb : List Nat} (hk : k < 6) (hR : RepG M k n g tb m) (hcd : CDm M cd) (hW : WFc cd n) (ht : tb.length ≤ 24) (hn : n ≤ 24) (hbd : ∀ d, d ∈ tb → d < n) (C : Cx κ lyC y_Y_gather.cls b_Y_gather 4 none 2) (hQ : ∀ v M', Pv (fun M' => LYo M' b cd (tb.filter (isL cd)) ∧ Off (yblk b) M M' ∧ M'.1 (yp b + 1) = M.1 (yp b + 1)) v M' → KQ κ v M') : ∀ (f i : Nat) (M1 : Mem), i ≤ tb.length → tb.length - i < f → Off (yblk b) M M1 → M1.1 (yp b + 1) = M.1 (yp b + 1) → LYo M1 b cd ((tb.take i).filter (isL cd)) → G κ lyC 31 [some (.ref (yp b)), some (.ref (gp k)), some (.int (nI i)), none] [] M1 := by
  intro f
  induction f with
  | zero => intro i _ _ h; omega
  | succ f ih =>
    intro i M1 hi hf ho hv1 hL
    have hR1 : RepG M1 k n g tb m := hR.off ho (fun p q => y_g hk q)
    have hcd1 : CDm M1 cd := hcd.off ho (fun p h1 h2 => y_cd h1 h2)
    have r9 := hR1.2.2.2.2.2.2.2.1
    have hin : nI tb.length ≤ nI i ↔ tb.length ≤ i := nI_leI (by omega) (by omega)
    have hfl : ((tb.take i).filter (isL cd)).length ≤ i := Nat.le_trans (List.length_filter_le _ _) (by simp; omega)
    refine u_iload_n (pc := 31) C d_Y_gather_31 rfl ?_
    refine u_aload_n (pc := 32) C d_Y_gather_32 rfl ?_
    refine u_geti (pc := 33) C d_Y_gather_33 fw_Y_60 (shG0 hk) rfl ?_
    refine u_icmp_ge (pc := 36) (tgt := 100) C d_Y_gather_36 rfl (fun c36 => ?_) (fun c36 => ?_)
    · refine u_vret (pc := 100) C d_Y_gather_100 (hQ _ _ ⟨rfl, ?_⟩)
      have hi2 : i = tb.length := by rw [r9, hin] at c36; omega
      subst hi2
      rw [List.take_length] at hL
      exact ⟨hL, ho, hv1⟩
    · refine u_aload_n (pc := 39) C d_Y_gather_39 rfl ?_
      refine u_getr (pc := 40) (r := (gp k + 5)) C d_Y_gather_40 fw_Y_63 (shG0 hk) rfl (rf_G_5 hk) ?_
      refine u_iload_n (pc := 43) C d_Y_gather_43 rfl ?_
      refine u_callSi (pc := 44) C d_Y_gather_44 mx_L_at mw_Y_66 (c_L_at (shG5 hk)) rfl rfl (Nat.le_of_ble_eq_true rfl) (fun r44 M44 q44 => ?_)
      obtain ⟨e44, q44⟩ := q44
      have q44 := q44.symm
      subst q44
      refine u_istore_n (pc := 47) C d_Y_gather_47 rfl (fun x47 e47 L9 hL9 => ?_)
      obtain rfl : L9 = [some (.ref (yp b)), some (.ref (gp k)), some (.int (nI i)), some (.int x47)] := hL9.symm
      have hlt : i < tb.length := by rw [r9, hin] at c36; omega
      rw [atF_in (by omega) (by decide), hR1.2.2.2.2.1 i hlt] at e44
      have hcn := hbd _ (getD_mem hlt)
      generalize hcg : tb.getD i 0 = c at *
      have e47' : x47 = nI c := by rw [e47, e44]
      clear e47 e44
      subst e47'
      have hc24 : c < 24 := by omega
      obtain ⟨⟨kk, hkk, hck⟩, -, ⟨v, hv4, hcv⟩, -⟩ := hW c hcn
      have hk4 : isL cd c = true ↔ famF (cd 0 c) = 1 := by rw [hck, fam1 hkk, isL, hck, decide_eq_true_eq]
      refine u_aload_n (pc := 48) C d_Y_gather_48 rfl ?_
      refine u_getr (pc := 49) (r := 0) C d_Y_gather_49 fw_Y_24 (shY0 hb) rfl (rf_Y_0 hb) ?_
      refine u_getr (pc := 52) (r := 1) C d_Y_gather_52 fw_Y_70 sC_0 rfl rfl ?_
      refine u_iload_n (pc := 55) C d_Y_gather_55 rfl ?_
      refine u_callSi (pc := 56) C d_Y_gather_56 mx_L_at mw_Y_66 (c_L_at sC_1) rfl rfl (Nat.le_of_ble_eq_true rfl) (fun r56 M56 q56 => ?_)
      obtain ⟨e56, q56⟩ := q56
      have q56 := q56.symm
      subst q56
      refine u_callSi (pc := 59) C d_Y_gather_59 mx_L_familyOf mw_Y_75 (c_L_familyOf) rfl rfl (Nat.le_of_ble_eq_true rfl) (fun r59 M59 q59 => ?_)
      obtain ⟨e59, q59⟩ := q59
      have q59 := q59.symm
      subst q59
      refine u_iconst (pc := 62) (v := 1) C d_Y_gather_62 (by decide) ?_
      refine u_icmp_ne (pc := 63) (tgt := 94) C d_Y_gather_63 rfl (fun c63 => ?_) (fun c63 => ?_)
      · refine u_iinc (pc := 94) (v2 := 1) C d_Y_gather_94 rfl rfl (by decide) (fun x94 e94 L9 hL9 => ?_)
        obtain rfl : L9 = [some (.ref (yp b)), some (.ref (gp k)), some (.int x94), some (.int (nI c))] := hL9.symm
        refine u_goto (pc := 97) (tgt := 31) C d_Y_gather_97 rfl ?_
        obtain rfl : x94 = nI (i + 1) := by rw [e94, nI_succ]
        refine u_drop 3 rfl ?_
        have hl : ¬ isL cd c = true := fun q => c63 (by
          rw [hk4, ← (at_cd hcd1 hc24).1, ← e56, ← e59] at q
          exact q)
        have e9 : (tb.take (i + 1)).filter (isL cd) = (tb.take i).filter (isL cd) := by rw [take_f hlt, hcg, if_neg hl, List.append_nil]
        exact ih (i + 1) _ (by omega) (by omega) ho hv1 (by rw [e9]; exact hL)
      · refine u_aload_n (pc := 66) C d_Y_gather_66 rfl ?_
        refine u_getr (pc := 67) (r := (yp b + 3)) C d_Y_gather_67 fw_Y_18 (shY0 hb) rfl (rf_Y_4 hb) ?_
        refine u_aload_n (pc := 70) C d_Y_gather_70 rfl ?_
        refine u_geti (pc := 71) C d_Y_gather_71 fw_Y_45 (shY0 hb) rfl ?_
        refine u_iload_n (pc := 74) C d_Y_gather_74 rfl ?_
        refine u_callSv (pc := 75) C d_Y_gather_75 mx_L_put mw_Y_52 (c_L_put (shY3 hb)) rfl rfl (Nat.le_of_ble_eq_true rfl) (fun M75 q75 => ?_)
        have q75 := q75.symm
        subst q75
        refine u_aload_n (pc := 78) C d_Y_gather_78 rfl ?_
        refine u_dup (pc := 79) C d_Y_gather_79 rfl ?_
        refine u_geti (pc := 80) C d_Y_gather_80 fw_Y_45 (shY0 hb) rfl ?_
        refine u_iconst (pc := 83) (v := 1) C d_Y_gather_83 (by decide) ?_
        refine u_iadd (pc := 84) C d_Y_gather_84 ?_
        refine u_put (pc := 85) C d_Y_gather_85 fw_Y_45 (shY0 hb) rfl (Or.inl rfl) ?_
        refine u_aload_n (pc := 88) C d_Y_gather_88 rfl ?_
        refine u_iload_n (pc := 89) C d_Y_gather_89 rfl ?_
        refine u_iconst (pc := 90) (v := 1) C d_Y_gather_90 (by decide) ?_
        have e74 : putF M1 (yp b + 3) 24 (M1.1 (yp b) 6) (nI c) = up M1 (yp b + 3) ((tb.take i).filter (isL cd)).length (nI c) := by rw [hL.1, putF_in (by omega) (by decide)]
        have e74b : (up M1 (yp b + 3) ((tb.take i).filter (isL cd)).length (nI c)).1 (yp b) 6 = nI ((tb.take i).filter (isL cd)).length := by rw [up_ne (by omega), hL.1]
        refine u_mem (by rw [e74, e74b]) ?_
        have ho2 : Off (yblk b) M1 (up (up M1 (yp b + 3) ((tb.take i).filter (isL cd)).length (nI c)) (yp b) 6 (nI ((tb.take i).filter (isL cd)).length + 1)) := (Off.up (yblkj 3 (by decide))).trans (Off.up yblk0)
        have hcd2 : CDm (up (up M1 (yp b + 3) ((tb.take i).filter (isL cd)).length (nI c)) (yp b) 6 (nI ((tb.take i).filter (isL cd)).length + 1)) cd := hcd1.off ho2 (fun p h1 h2 => y_cd h1 h2)
        refine u_callVv (pc := 91) C d_Y_gather_91 mx_Y_countOn mw_Y_79 (shY0 hb) rfl (c_Y_countOn hb hcd2 hc24 hv4 hcv) rfl rfl (Nat.le_of_ble_eq_true rfl) (fun M91 q91 => ?_)
        have q91 := q91.symm
        subst q91
        refine u_iinc (pc := 94) (v2 := 1) C d_Y_gather_94 rfl rfl (by decide) (fun x94 e94 L9 hL9 => ?_)
        obtain rfl : L9 = [some (.ref (yp b)), some (.ref (gp k)), some (.int x94), some (.int (nI c))] := hL9.symm
        refine u_goto (pc := 97) (tgt := 31) C d_Y_gather_97 rfl ?_
        obtain rfl : x94 = nI (i + 1) := by rw [e94, nI_succ]
        refine u_drop 3 rfl ?_
        have hl : isL cd c = true := by
          rw [hk4, ← (at_cd hcd1 hc24).1, ← e56, ← e59]
          exact c63
        have e9 : (tb.take (i + 1)).filter (isL cd) = (tb.take i).filter (isL cd) ++ [c] := by rw [take_f hlt, hcg, if_pos hl]
        have hv9 : (up (up M1 (yp b + 3) ((tb.take i).filter (isL cd)).length (nI c)) (yp b) 6 (nI ((tb.take i).filter (isL cd)).length + 1)).1 (yp b + 4) v = M1.1 (yp b + 4) v := by rw [up_ne (by omega), up_ne (by omega)]
        refine ih (i + 1) _ (by omega) (by omega) ((ho.trans ho2).trans (Off.up (yblkj 4 (by decide)))) ?_ ?_
        · rw [up_ne (by omega), up_ne (by omega), up_ne (by omega)]; exact hv1
        · rw [e9, hv9]
          exact hL.push hcv hv4
set_option maxRecDepth 20000 in
theorem lp_gatherA {κ : KX} {b : Nat} {cd : Nat → Nat → Int32} {M : Mem} (hb : b < 2) {k n m : Nat} {g : Gm} {tb : List Nat} (hk : k < 6) (hR : RepG M k n g tb m) (hcd : CDm M cd) (hW : WFc cd n) (ht : tb.length ≤ 24) (hn : n ≤ 24) (hbd : ∀ d, d ∈ tb → d < n) (C : Cx κ lyC y_Y_gather.cls b_Y_gather 4 none 2) (hQ : ∀ v M', Pv (fun M' => LYo M' b cd (tb.filter (isL cd)) ∧ Off (yblk b) M M' ∧ M'.1 (yp b + 1) = M.1 (yp b + 1)) v M' → KQ κ v M') : ∀ (f i : Nat) (M1 : Mem), i ≤ 4 → 4 - i < f → Off (yblk b) M M1 → M1.1 (yp b + 1) = M.1 (yp b + 1) → M1.1 (yp b) 6 = 0 → (∀ j, j < i → M1.1 (yp b + 4) j = 0) → G κ lyC 7 [some (.ref (yp b)), some (.ref (gp k)), some (.int (nI i)), none] [] M1 := by
  intro f
  induction f with
  | zero => intro i _ _ h; omega
  | succ f ih =>
    intro i M1 hi hf ho hv1 h6 hz
    have hin : Int32.ofNat 4 ≤ nI i ↔ 4 ≤ i := nI_leI (by omega) (by omega)
    refine u_iload_n (pc := 7) C d_Y_gather_7 rfl ?_
    refine u_aload_n (pc := 8) C d_Y_gather_8 rfl ?_
    refine u_getr (pc := 9) (r := (yp b + 4)) C d_Y_gather_9 fw_Y_21 (shY0 hb) rfl (rf_Y_5 hb) ?_
    refine u_alen (pc := 12) C d_Y_gather_12 (shY4 hb) rfl rfl ?_
    refine u_icmp_ge (pc := 13) (tgt := 29) C d_Y_gather_13 rfl (fun c13 => ?_) (fun c13 => ?_)
    · refine u_iconst (pc := 29) (v := 0) C d_Y_gather_29 (by decide) ?_
      refine u_istore_n (pc := 30) C d_Y_gather_30 rfl (fun x30 e30 L9 hL9 => ?_)
      obtain rfl : L9 = [some (.ref (yp b)), some (.ref (gp k)), some (.int x30), none] := hL9.symm
      subst e30
      have hi2 : i = 4 := by rw [hin] at c13; omega
      subst hi2
      refine lp_gatherB hb hk hR hcd hW ht hn hbd C hQ (tb.length + 1) 0 M1 (by omega) (by omega) ho hv1 ⟨h6, fun i hi => by simp at hi, fun v hv => ?_⟩
      rw [hz v hv]; rfl
    · refine u_aload_n (pc := 16) C d_Y_gather_16 rfl ?_
      refine u_getr (pc := 17) (r := (yp b + 4)) C d_Y_gather_17 fw_Y_21 (shY0 hb) rfl (rf_Y_5 hb) ?_
      refine u_iload_n (pc := 20) C d_Y_gather_20 rfl ?_
      refine u_iconst (pc := 21) (v := 0) C d_Y_gather_21 (by decide) ?_
      refine u_iast (pc := 22) C d_Y_gather_22 (shY4 hb) (vp_in_nI (show i < 4 by rw [hin] at c13; omega) (by decide)) ?_
      refine u_iinc (pc := 23) (v2 := 1) C d_Y_gather_23 rfl rfl (by decide) (fun x23 e23 L9 hL9 => ?_)
      obtain rfl : L9 = [some (.ref (yp b)), some (.ref (gp k)), some (.int x23), none] := hL9.symm
      refine u_goto (pc := 26) (tgt := 7) C d_Y_gather_26 rfl ?_
      obtain rfl : x23 = nI (i + 1) := by rw [e23, nI_succ]
      have hlt : i < 4 := by rw [hin] at c13; omega
      refine ih (i + 1) _ (by omega) (by omega) (ho.trans (Off.up (yblkj 4 (by decide)))) (by rw [up_ne (by omega)]; exact hv1) (by rw [up_ne (by omega)]; exact h6) (fun j hj => ?_)
      rw [nI_clamp (by omega)]
      by_cases e : j = i
      · subst e; simp [up]
      · simp [up, e, hz j (by omega)]
set_option maxRecDepth 20000 in
theorem c_Y_gather {b : Nat} {cd : Nat → Nat → Int32} {M : Mem} (hb : b < 2) {k n m : Nat} {g : Gm} {tb : List Nat} (hk : k < 6) (hR : RepG M k n g tb m) (hcd : CDm M cd) (hW : WFc cd n) (ht : tb.length ≤ 24) (hn : n ≤ 24) (hbd : ∀ d, d ∈ tb → d < n) : Ct lyC y_Y_gather b_Y_gather 4 none 2 [.ref (yp b), .ref (gp k)] M (Pv fun M' => LYo M' b cd (tb.filter (isL cd)) ∧ Off (yblk b) M M' ∧ M'.1 (yp b + 1) = M.1 (yp b + 1)) := by
  refine Ct.ofG mx_Y_gather [some (.ref (yp b)), some (.ref (gp k)), none, none] rfl rfl (Nat.le_of_ble_eq_true rfl) (fun κ C hQ => ?_)
  refine u_aload_n (pc := 0) C d_Y_gather_0 rfl ?_
  refine u_iconst (pc := 1) (v := 0) C d_Y_gather_1 (by decide) ?_
  refine u_put (pc := 2) C d_Y_gather_2 fw_Y_45 (shY0 hb) rfl (Or.inl rfl) ?_
  refine u_iconst (pc := 5) (v := 0) C d_Y_gather_5 (by decide) ?_
  refine u_istore_n (pc := 6) C d_Y_gather_6 rfl (fun x6 e6 L9 hL9 => ?_)
  obtain rfl : L9 = [some (.ref (yp b)), some (.ref (gp k)), some (.int x6), none] := hL9.symm
  subst e6
  exact lp_gatherA hb hk hR hcd hW ht hn hbd C hQ 5 0 _ (by omega) (by omega) (Off.up yblk0) (by rw [up_ne (by omega)]) (by simp [up]) (fun j hj => by omega)
