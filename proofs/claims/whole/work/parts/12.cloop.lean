/-! loops of the class's games -/
def CDm (M : Mem) (cd : Nat → Nat → Int32) : Prop := M.1 1 = cd 0 ∧ M.1 2 = cd 1 ∧ M.1 3 = cd 2 ∧ M.1 4 = cd 3 ∧ M.1 5 = cd 4
theorem atP_succ {cd : Nat → Nat → Int32} {n : Nat} {g : Gm} {p pl : Int32} : atP cd (n + 1) g p pl = atP cd n g p pl ++ (if g 3 n = pl ∧ cd 1 n = p then [n] else []) := by
  unfold atP
  rw [List.range_succ, List.filter_append]
  congr 1
  by_cases h : g 3 n = pl ∧ cd 1 n = p
  · rw [if_pos h]; simp [h.1, h.2]
  · rw [if_neg h]
    by_cases h1 : g 3 n = pl
    · have h2 : ¬ cd 1 n = p := fun q => h ⟨h1, q⟩
      simp [h1, h2]
    · simp [h1]
theorem atP_len {cd : Nat → Nat → Int32} {n : Nat} {g : Gm} {p pl : Int32} : (atP cd n g p pl).length ≤ n := by
  unfold atP
  exact Nat.le_trans (List.length_filter_le _ _) (by simp)
theorem atP_pre {cd : Nat → Nat → Int32} {i n : Nat} {g : Gm} {p pl : Int32} (h : i ≤ n) : ∃ r, atP cd n g p pl = atP cd i g p pl ++ r := by
  induction n with
  | zero => exact ⟨[], by rw [show i = 0 by omega]; simp⟩
  | succ n ih =>
    by_cases e : i = n + 1
    · exact ⟨[], by rw [e]; simp⟩
    · obtain ⟨r, hr⟩ := ih (by omega)
      exact ⟨r ++ _, by rw [atP_succ, hr, List.append_assoc]⟩
theorem atP_at {cd : Nat → Nat → Int32} {i n : Nat} {g : Gm} {p pl : Int32} (h : i < n) (hc : g 3 i = pl ∧ cd 1 i = p) : (atP cd n g p pl)[(atP cd i g p pl).length]? = some i := by
  obtain ⟨r, hr⟩ := atP_pre (cd := cd) (g := g) (p := p) (pl := pl) (show i + 1 ≤ n from h)
  rw [hr, atP_succ, if_pos hc, List.append_assoc, List.getElem?_append_right (Nat.le_refl _)]
  simp
theorem atP_mem {cd : Nat → Nat → Int32} {n c : Nat} {g : Gm} {p pl : Int32} : c ∈ atP cd n g p pl ↔ c < n ∧ g 3 c = pl ∧ cd 1 c = p := by
  simp [atP]
def nthR (l : List Nat) (j : Nat) : Int32 := match l[j]? with
  | some c => nI c
  | none => -2
set_option maxRecDepth 20000 in
theorem lp_countIn {κ : KX} {k n m : Nat} {g : Gm} {tb : List Nat} {cd : Nat → Nat → Int32} {M : Mem} (hk : k < 6) {p pl : Int32} (C : Cx κ lyC y_G_countIn.cls b_G_countIn 5 (some .int) 1) (hR : RepG M k n g tb m) (hcd : CDm M cd) (hn : n ≤ 24) (hQ : ∀ v M', Pi (fun r M' => r = nI (atP cd n g p pl).length ∧ M' = M) v M' → KQ κ v M')  : ∀ (f i : Nat), i ≤ n → n - i < f → ∀ x3 : Int32, x3 = nI (atP cd i g p pl).length → G κ lyC 5 [some (.ref (gp k)), some (.int p), some (.int pl), some (.int x3), some (.int (nI i))] [] M := by
  intro f
  induction f with
  | zero => intro i _ h; omega
  | succ f ih =>
    intro i hi hf x3 e3
    have r8 := hR.2.2.2.2.2.2.1
    have hin : nI n ≤ nI i ↔ n ≤ i := nI_leI (by omega) (by omega)
    refine u_iload (pc := 5) C d_G_countIn_5 rfl ?_
    refine u_aload_n (pc := 7) C d_G_countIn_7 rfl ?_
    refine u_geti (pc := 8) C d_G_countIn_8 fw_G_42 (shG0 hk) rfl ?_
    refine u_icmp_ge (pc := 11) (tgt := 52) C d_G_countIn_11 rfl (fun c11 => ?_) (fun c11 => ?_)
    · refine u_iload_n (pc := 52) C d_G_countIn_52 rfl ?_
      refine u_iret (pc := 53) C d_G_countIn_53 (hQ _ _ ⟨_, rfl, ?_⟩)
      have hi2 : i = n := by rw [r8, hin] at c11; omega
      subst hi2
      exact ⟨e3, rfl⟩
    · refine u_aload_n (pc := 14) C d_G_countIn_14 rfl ?_
      refine u_getr (pc := 15) (r := (gp k + 3)) C d_G_countIn_15 fw_G_18 (shG0 hk) rfl (rf_G_3 hk) ?_
      refine u_iload (pc := 18) C d_G_countIn_18 rfl ?_
      refine u_callSi (pc := 20) C d_G_countIn_20 mx_L_at mw_G_81 (c_L_at (shG3 hk)) rfl rfl (Nat.le_of_ble_eq_true rfl) (fun r20 M20 q20 => ?_)
      obtain ⟨e20, q20⟩ := q20
      have q20 := q20.symm
      subst q20
      refine u_iload_n (pc := 23) C d_G_countIn_23 rfl ?_
      refine u_icmp_ne (pc := 24) (tgt := 46) C d_G_countIn_24 rfl (fun c24 => ?_) (fun c24 => ?_)
      · refine u_iinc (pc := 46) (v2 := 1) C d_G_countIn_46 rfl rfl (by decide) (fun x46 e46 L9 hL9 => ?_)
        obtain rfl : L9 = [some (.ref (gp k)), some (.int p), some (.int pl), some (.int x3), some (.int x46)] := hL9.symm
        refine u_goto (pc := 49) (tgt := 5) C d_G_countIn_49 rfl ?_
        obtain rfl : x46 = nI (i + 1) := by rw [e46, nI_succ]
        have hlt : i < n := by rw [r8, hin] at c11; omega
        rw [atF_in (by omega) (by decide), hR.2.2.1 i (by omega)] at e20
        have cx : ¬ (g 3 i = pl ∧ cd 1 i = p) := fun q => c24 (by rw [e20]; exact q.1)
        exact ih (i + 1) (by omega) (by omega) _ (by rw [e3, atP_succ, if_neg cx, List.append_nil])
      · refine u_aload_n (pc := 27) C d_G_countIn_27 rfl ?_
        refine u_getr (pc := 28) (r := 0) C d_G_countIn_28 fw_G_34 (shG0 hk) rfl (rf_G_0 hk) ?_
        refine u_getr (pc := 31) (r := 2) C d_G_countIn_31 fw_G_85 sC_0 rfl rfl ?_
        refine u_iload (pc := 34) C d_G_countIn_34 rfl ?_
        refine u_callSi (pc := 36) C d_G_countIn_36 mx_L_at mw_G_81 (c_L_at sC_2) rfl rfl (Nat.le_of_ble_eq_true rfl) (fun r36 M36 q36 => ?_)
        obtain ⟨e36, q36⟩ := q36
        have q36 := q36.symm
        subst q36
        refine u_iload_n (pc := 39) C d_G_countIn_39 rfl ?_
        refine u_icmp_ne (pc := 40) (tgt := 46) C d_G_countIn_40 rfl (fun c40 => ?_) (fun c40 => ?_)
        · refine u_iinc (pc := 46) (v2 := 1) C d_G_countIn_46 rfl rfl (by decide) (fun x46 e46 L9 hL9 => ?_)
          obtain rfl : L9 = [some (.ref (gp k)), some (.int p), some (.int pl), some (.int x3), some (.int x46)] := hL9.symm
          refine u_goto (pc := 49) (tgt := 5) C d_G_countIn_49 rfl ?_
          obtain rfl : x46 = nI (i + 1) := by rw [e46, nI_succ]
          have hlt : i < n := by rw [r8, hin] at c11; omega
          rw [atF_in (by omega) (by decide), hR.2.2.1 i (by omega)] at e20
          rw [atF_in (by omega) (by decide), hcd.2.1] at e36
          have cx : ¬ (g 3 i = pl ∧ cd 1 i = p) := fun q => c40 (by rw [e36]; exact q.2)
          exact ih (i + 1) (by omega) (by omega) _ (by rw [e3, atP_succ, if_neg cx, List.append_nil])
        · refine u_iinc (pc := 43) (v2 := 1) C d_G_countIn_43 rfl rfl (by decide) (fun x43 e43 L9 hL9 => ?_)
          obtain rfl : L9 = [some (.ref (gp k)), some (.int p), some (.int pl), some (.int x43), some (.int (nI i))] := hL9.symm
          refine u_iinc (pc := 46) (v2 := 1) C d_G_countIn_46 rfl rfl (by decide) (fun x46 e46 L9 hL9 => ?_)
          obtain rfl : L9 = [some (.ref (gp k)), some (.int p), some (.int pl), some (.int x43), some (.int x46)] := hL9.symm
          refine u_goto (pc := 49) (tgt := 5) C d_G_countIn_49 rfl ?_
          obtain rfl : x46 = nI (i + 1) := by rw [e46, nI_succ]
          have hlt : i < n := by rw [r8, hin] at c11; omega
          rw [atF_in (by omega) (by decide), hR.2.2.1 i (by omega)] at e20
          rw [atF_in (by omega) (by decide), hcd.2.1] at e36
          have cx : g 3 i = pl ∧ cd 1 i = p := ⟨by rw [← e20]; exact c24, by rw [← e36]; exact c40⟩
          exact ih (i + 1) (by omega) (by omega) _ (by rw [e43, e3, atP_succ, if_pos cx, List.length_append]; exact (nI_succ _).symm)
set_option maxRecDepth 20000 in
theorem c_G_countIn {k n m : Nat} {g : Gm} {tb : List Nat} {cd : Nat → Nat → Int32} {M : Mem} (hk : k < 6) {p pl : Int32} (hR : RepG M k n g tb m) (hcd : CDm M cd) (hn : n ≤ 24)  : Ct lyC y_G_countIn b_G_countIn 5 (some .int) 1 [.ref (gp k), .int p, .int pl] M (Pi fun r M' => r = nI (atP cd n g p pl).length ∧ M' = M) := by
  refine Ct.ofG mx_G_countIn [some (.ref (gp k)), some (.int p), some (.int pl), none, none] rfl rfl (Nat.le_of_ble_eq_true rfl) (fun κ C hQ => ?_)
  refine u_iconst (pc := 0) (v := 0) C d_G_countIn_0 (by decide) ?_
  refine u_istore_n (pc := 1) C d_G_countIn_1 rfl (fun x1 e1 L9 hL9 => ?_)
  obtain rfl : L9 = [some (.ref (gp k)), some (.int p), some (.int pl), some (.int x1), none] := hL9.symm
  refine u_iconst (pc := 2) (v := 0) C d_G_countIn_2 (by decide) ?_
  refine u_istore (pc := 3) C d_G_countIn_3 rfl (fun x3 e3 L9 hL9 => ?_)
  obtain rfl : L9 = [some (.ref (gp k)), some (.int p), some (.int pl), some (.int x1), some (.int x3)] := hL9.symm
  subst e1
  obtain rfl : x3 = nI 0 := e3
  exact lp_countIn hk C hR hcd hn hQ (n + 1) 0 (by omega) (by omega) _ rfl
set_option maxRecDepth 20000 in
theorem lp_nthIn {κ : KX} {k n m : Nat} {g : Gm} {tb : List Nat} {cd : Nat → Nat → Int32} {M : Mem} (hk : k < 6) {p pl : Int32} {j : Nat} (C : Cx κ lyC y_G_nthIn.cls b_G_nthIn 6 (some .int) 1) (hR : RepG M k n g tb m) (hcd : CDm M cd) (hn : n ≤ 24) (hj : j < 2 ^ 31) (hQ : ∀ v M', Pi (fun r M' => r = nthR (atP cd n g p pl) j ∧ M' = M) v M' → KQ κ v M')  : ∀ (f i : Nat), i ≤ n → n - i < f → ∀ x4 : Int32, x4 = nI (atP cd i g p pl).length → (atP cd i g p pl).length ≤ j → G κ lyC 6 [some (.ref (gp k)), some (.int p), some (.int pl), some (.int (nI j)), some (.int x4), some (.int (nI i))] [] M := by
  intro f
  induction f with
  | zero => intro i _ h; omega
  | succ f ih =>
    intro i hi hf x4 e4 hle
    have r8 := hR.2.2.2.2.2.2.1
    have hin : nI n ≤ nI i ↔ n ≤ i := nI_leI (by omega) (by omega)
    have hil := atP_len (cd := cd) (n := i) (g := g) (p := p) (pl := pl)
    refine u_iload (pc := 6) C d_G_nthIn_6 rfl ?_
    refine u_aload_n (pc := 8) C d_G_nthIn_8 rfl ?_
    refine u_geti (pc := 9) C d_G_nthIn_9 fw_G_42 (shG0 hk) rfl ?_
    refine u_icmp_ge (pc := 12) (tgt := 62) C d_G_nthIn_12 rfl (fun c12 => ?_) (fun c12 => ?_)
    · refine u_bipush (pc := 62) (v := (-2)) C d_G_nthIn_62 (by decide) ?_
      refine u_iret (pc := 64) C d_G_nthIn_64 (hQ _ _ ⟨_, rfl, ?_⟩)
      have hi2 : i = n := by rw [r8, hin] at c12; omega
      subst hi2
      exact ⟨by rw [nthR, List.getElem?_eq_none hle], rfl⟩
    · refine u_aload_n (pc := 15) C d_G_nthIn_15 rfl ?_
      refine u_getr (pc := 16) (r := (gp k + 3)) C d_G_nthIn_16 fw_G_18 (shG0 hk) rfl (rf_G_3 hk) ?_
      refine u_iload (pc := 19) C d_G_nthIn_19 rfl ?_
      refine u_callSi (pc := 21) C d_G_nthIn_21 mx_L_at mw_G_81 (c_L_at (shG3 hk)) rfl rfl (Nat.le_of_ble_eq_true rfl) (fun r21 M21 q21 => ?_)
      obtain ⟨e21, q21⟩ := q21
      have q21 := q21.symm
      subst q21
      refine u_iload_n (pc := 24) C d_G_nthIn_24 rfl ?_
      refine u_icmp_ne (pc := 25) (tgt := 56) C d_G_nthIn_25 rfl (fun c25 => ?_) (fun c25 => ?_)
      · refine u_iinc (pc := 56) (v2 := 1) C d_G_nthIn_56 rfl rfl (by decide) (fun x56 e56 L9 hL9 => ?_)
        obtain rfl : L9 = [some (.ref (gp k)), some (.int p), some (.int pl), some (.int (nI j)), some (.int x4), some (.int x56)] := hL9.symm
        refine u_goto (pc := 59) (tgt := 6) C d_G_nthIn_59 rfl ?_
        obtain rfl : x56 = nI (i + 1) := by rw [e56, nI_succ]
        have hlt : i < n := by rw [r8, hin] at c12; omega
        rw [atF_in (by omega) (by decide), hR.2.2.1 i (by omega)] at e21
        have cx : ¬ (g 3 i = pl ∧ cd 1 i = p) := fun q => c25 (by rw [e21]; exact q.1)
        have e9 : atP cd (i + 1) g p pl = atP cd i g p pl := by rw [atP_succ, if_neg cx, List.append_nil]
        exact ih (i + 1) (by omega) (by omega) _ (by rw [e4, e9]) (by rw [e9]; exact hle)
      · refine u_aload_n (pc := 28) C d_G_nthIn_28 rfl ?_
        refine u_getr (pc := 29) (r := 0) C d_G_nthIn_29 fw_G_34 (shG0 hk) rfl (rf_G_0 hk) ?_
        refine u_getr (pc := 32) (r := 2) C d_G_nthIn_32 fw_G_85 sC_0 rfl rfl ?_
        refine u_iload (pc := 35) C d_G_nthIn_35 rfl ?_
        refine u_callSi (pc := 37) C d_G_nthIn_37 mx_L_at mw_G_81 (c_L_at sC_2) rfl rfl (Nat.le_of_ble_eq_true rfl) (fun r37 M37 q37 => ?_)
        obtain ⟨e37, q37⟩ := q37
        have q37 := q37.symm
        subst q37
        refine u_iload_n (pc := 40) C d_G_nthIn_40 rfl ?_
        refine u_icmp_ne (pc := 41) (tgt := 56) C d_G_nthIn_41 rfl (fun c41 => ?_) (fun c41 => ?_)
        · refine u_iinc (pc := 56) (v2 := 1) C d_G_nthIn_56 rfl rfl (by decide) (fun x56 e56 L9 hL9 => ?_)
          obtain rfl : L9 = [some (.ref (gp k)), some (.int p), some (.int pl), some (.int (nI j)), some (.int x4), some (.int x56)] := hL9.symm
          refine u_goto (pc := 59) (tgt := 6) C d_G_nthIn_59 rfl ?_
          obtain rfl : x56 = nI (i + 1) := by rw [e56, nI_succ]
          have hlt : i < n := by rw [r8, hin] at c12; omega
          rw [atF_in (by omega) (by decide), hR.2.2.1 i (by omega)] at e21
          rw [atF_in (by omega) (by decide), hcd.2.1] at e37
          have cx : ¬ (g 3 i = pl ∧ cd 1 i = p) := fun q => c41 (by rw [e37]; exact q.2)
          have e9 : atP cd (i + 1) g p pl = atP cd i g p pl := by rw [atP_succ, if_neg cx, List.append_nil]
          exact ih (i + 1) (by omega) (by omega) _ (by rw [e4, e9]) (by rw [e9]; exact hle)
        · refine u_iload (pc := 44) C d_G_nthIn_44 rfl ?_
          refine u_iload_n (pc := 46) C d_G_nthIn_46 rfl ?_
          refine u_icmp_ne (pc := 47) (tgt := 53) C d_G_nthIn_47 rfl (fun c47 => ?_) (fun c47 => ?_)
          · refine u_iinc (pc := 53) (v2 := 1) C d_G_nthIn_53 rfl rfl (by decide) (fun x53 e53 L9 hL9 => ?_)
            obtain rfl : L9 = [some (.ref (gp k)), some (.int p), some (.int pl), some (.int (nI j)), some (.int x53), some (.int (nI i))] := hL9.symm
            refine u_iinc (pc := 56) (v2 := 1) C d_G_nthIn_56 rfl rfl (by decide) (fun x56 e56 L9 hL9 => ?_)
            obtain rfl : L9 = [some (.ref (gp k)), some (.int p), some (.int pl), some (.int (nI j)), some (.int x53), some (.int x56)] := hL9.symm
            refine u_goto (pc := 59) (tgt := 6) C d_G_nthIn_59 rfl ?_
            obtain rfl : x56 = nI (i + 1) := by rw [e56, nI_succ]
            have hlt : i < n := by rw [r8, hin] at c12; omega
            rw [atF_in (by omega) (by decide), hR.2.2.1 i (by omega)] at e21
            rw [atF_in (by omega) (by decide), hcd.2.1] at e37
            have cx : g 3 i = pl ∧ cd 1 i = p := ⟨by rw [← e21]; exact c25, by rw [← e37]; exact c41⟩
            have e9 : (atP cd (i + 1) g p pl).length = (atP cd i g p pl).length + 1 := by rw [atP_succ, if_pos cx, List.length_append]; rfl
            have cj : (atP cd i g p pl).length ≠ j := fun q => c47 (by rw [e4, q])
            exact ih (i + 1) (by omega) (by omega) _ (by rw [e53, e4, e9, nI_succ]) (by omega)
          · refine u_iload (pc := 50) C d_G_nthIn_50 rfl ?_
            refine u_iret (pc := 52) C d_G_nthIn_52 (hQ _ _ ⟨_, rfl, ?_⟩)
            have hlt : i < n := by rw [r8, hin] at c12; omega
            rw [atF_in (by omega) (by decide), hR.2.2.1 i (by omega)] at e21
            rw [atF_in (by omega) (by decide), hcd.2.1] at e37
            have cx : g 3 i = pl ∧ cd 1 i = p := ⟨by rw [← e21]; exact c25, by rw [← e37]; exact c41⟩
            have cj : (atP cd i g p pl).length = j := (nI_eq (by omega) (by omega)).mp (by rw [← e4]; exact c47)
            exact ⟨by rw [nthR, ← cj, atP_at hlt cx], rfl⟩
set_option maxRecDepth 20000 in
theorem c_G_nthIn {k n m : Nat} {g : Gm} {tb : List Nat} {cd : Nat → Nat → Int32} {M : Mem} (hk : k < 6) {p pl : Int32} {j : Nat} (hR : RepG M k n g tb m) (hcd : CDm M cd) (hn : n ≤ 24) (hj : j < 2 ^ 31) : Ct lyC y_G_nthIn b_G_nthIn 6 (some .int) 1 [.ref (gp k), .int p, .int pl, .int (nI j)] M (Pi fun r M' => r = nthR (atP cd n g p pl) j ∧ M' = M) := by
  refine Ct.ofG mx_G_nthIn [some (.ref (gp k)), some (.int p), some (.int pl), some (.int (nI j)), none, none] rfl rfl (Nat.le_of_ble_eq_true rfl) (fun κ C hQ => ?_)
  refine u_iconst (pc := 0) (v := 0) C d_G_nthIn_0 (by decide) ?_
  refine u_istore (pc := 1) C d_G_nthIn_1 rfl (fun x1 e1 L9 hL9 => ?_)
  obtain rfl : L9 = [some (.ref (gp k)), some (.int p), some (.int pl), some (.int (nI j)), some (.int x1), none] := hL9.symm
  refine u_iconst (pc := 3) (v := 0) C d_G_nthIn_3 (by decide) ?_
  refine u_istore (pc := 4) C d_G_nthIn_4 rfl (fun x4 e4 L9 hL9 => ?_)
  obtain rfl : L9 = [some (.ref (gp k)), some (.int p), some (.int pl), some (.int (nI j)), some (.int x1), some (.int x4)] := hL9.symm
  subst e1
  obtain rfl : x4 = nI 0 := e4
  exact lp_nthIn hk C hR hcd hn hj hQ (n + 1) 0 (by omega) (by omega) _ rfl (Nat.zero_le _)
