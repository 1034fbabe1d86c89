/-! the class's games, method by method -/
def hasF (n c : Int32) : Int32 := if c < 0 then 0 else if n ≤ c then 0 else 1
def mvF (M : Mem) (k : Nat) (c pl : Int32) : Mem := up (putF M (gp k + 3) 24 c pl) (gp k) 14 ((putF M (gp k + 3) 24 c pl).1 (gp k) 14 + 1)
def pushR (M : Mem) (k : Nat) : Int32 := if M.1 (gp k) 9 < 64 then 1 else 0
def pushF (M : Mem) (k : Nat) (x : Int32) : Mem := if M.1 (gp k) 9 < 64 then up (putF M (gp k + 6) 64 (M.1 (gp k) 9) x) (gp k) 9 ((putF M (gp k + 6) 64 (M.1 (gp k) 9) x).1 (gp k) 9 + 1) else M
def popF (M : Mem) (k : Nat) : Mem := if 0 < M.1 (gp k) 9 then up M (gp k) 9 (M.1 (gp k) 9 - 1) else M
def popR (M : Mem) (k : Nat) : Int32 := if 0 < M.1 (gp k) 9 then atF ((popF M k).1 (gp k + 6)) 64 ((popF M k).1 (gp k) 9) else -2
def chF (M : Mem) (k : Nat) (p b : Int32) : Mem := putF M (gp k + 1) 2 p (withinF (atF (M.1 (gp k + 1)) 2 p + b) (-99) 99)
def woF (M : Mem) (k : Nat) (p : Int32) : Int32 := atF (M.1 (gp k + 1)) 2 p - atF (M.1 (gp k + 1)) 2 (1 - p)
def lbF (M : Mem) (k : Nat) : Int32 := (if 0 < atF (M.1 (gp k + 1)) 2 0 then 0 else 1) ||| (if 0 < atF (M.1 (gp k + 1)) 2 1 then 0 else 2)
def plF (M : Mem) (k : Nat) (c : Int32) : Mem := if M.1 (gp k) 9 < 64 then mvF (pushF M k c) k c 2 else M
def ldF (M : Mem) (k : Nat) (c : Int32) : Mem :=
  let M1 := putF M (gp k + 5) 24 (M.1 (gp k) 8) c
  let M2 := up M1 (gp k) 8 (M1.1 (gp k) 8 + 1)
  let M3 := putF M2 (gp k + 4) 24 c (M2.1 (gp k) 10)
  mvF (up M3 (gp k) 10 (M3.1 (gp k) 10 + 1)) k c 3
set_option maxRecDepth 20000 in
theorem c_G_has {k : Nat} (hk : k < 6) {c : Int32} {M : Mem} : Ct lyC y_G_has b_G_has 2 (some .boolean) 0 [.ref (gp k), .int c] M (Pi fun r M' => r = hasF (M.1 (gp k) 7) c ∧ M' = M) := by
  refine Ct.ofG mx_G_has [some (.ref (gp k)), some (.int c)] rfl rfl (Nat.le_of_ble_eq_true rfl) (fun κ C hQ => ?_)
  refine u_iload_n (pc := 0) C d_G_has_0 rfl ?_
  refine u_if_lt (pc := 1) (tgt := 16) C d_G_has_1 rfl (fun c1 => ?_) (fun c1 => ?_)
  · refine u_iconst (pc := 16) (v := 0) C d_G_has_16 (by decide) ?_
    refine u_zret (pc := 17) C d_G_has_17 (by decide) (hQ _ _ ⟨_, rfl, ?_⟩)
    exact ⟨by simp [hasF, *], rfl⟩
  · refine u_iload_n (pc := 4) C d_G_has_4 rfl ?_
    refine u_aload_n (pc := 5) C d_G_has_5 rfl ?_
    refine u_geti (pc := 6) C d_G_has_6 fw_G_42 (shG0 hk) rfl ?_
    refine u_icmp_ge (pc := 9) (tgt := 16) C d_G_has_9 rfl (fun c9 => ?_) (fun c9 => ?_)
    · refine u_iconst (pc := 16) (v := 0) C d_G_has_16 (by decide) ?_
      refine u_zret (pc := 17) C d_G_has_17 (by decide) (hQ _ _ ⟨_, rfl, ?_⟩)
      exact ⟨by simp [hasF, *], rfl⟩
    · refine u_iconst (pc := 12) (v := 1) C d_G_has_12 (by decide) ?_
      refine u_goto (pc := 13) (tgt := 17) C d_G_has_13 rfl ?_
      refine u_zret (pc := 17) C d_G_has_17 (by decide) (hQ _ _ ⟨_, rfl, ?_⟩)
      exact ⟨by simp [hasF, *], rfl⟩
set_option maxRecDepth 20000 in
theorem c_G_moveTo {k : Nat} (hk : k < 6) {c pl : Int32} {M : Mem} : Ct lyC y_G_moveTo b_G_moveTo 3 none 1 [.ref (gp k), .int c, .int pl] M (Pv fun M' => M' = mvF M k c pl) := by
  refine Ct.ofG mx_G_moveTo [some (.ref (gp k)), some (.int c), some (.int pl)] rfl rfl (Nat.le_of_ble_eq_true rfl) (fun κ C hQ => ?_)
  refine u_aload_n (pc := 0) C d_G_moveTo_0 rfl ?_
  refine u_getr (pc := 1) (r := (gp k + 3)) C d_G_moveTo_1 fw_G_18 (shG0 hk) rfl (rf_G_3 hk) ?_
  refine u_iload_n (pc := 4) C d_G_moveTo_4 rfl ?_
  refine u_iload_n (pc := 5) C d_G_moveTo_5 rfl ?_
  refine u_callSv (pc := 6) C d_G_moveTo_6 mx_L_put mw_G_69 (c_L_put (shG3 hk)) rfl rfl (Nat.le_of_ble_eq_true rfl) (fun M6 q6 => ?_)
  have q6 := q6.symm
  subst q6
  refine u_aload_n (pc := 9) C d_G_moveTo_9 rfl ?_
  refine u_dup (pc := 10) C d_G_moveTo_10 rfl ?_
  refine u_geti (pc := 11) C d_G_moveTo_11 fw_G_60 (shG0 hk) rfl ?_
  refine u_iconst (pc := 14) (v := 1) C d_G_moveTo_14 (by decide) ?_
  refine u_iadd (pc := 15) C d_G_moveTo_15 ?_
  refine u_put (pc := 16) C d_G_moveTo_16 fw_G_60 (shG0 hk) rfl (Or.inl rfl) ?_
  refine u_vret (pc := 19) C d_G_moveTo_19 (hQ _ _ ⟨rfl, ?_⟩)
  rfl
set_option maxRecDepth 20000 in
theorem c_G_push {k : Nat} (hk : k < 6) {x : Int32} {M : Mem} : Ct lyC y_G_push b_G_push 2 (some .boolean) 1 [.ref (gp k), .int x] M (Pi fun r M' => r = pushR M k ∧ M' = pushF M k x) := by
  refine Ct.ofG mx_G_push [some (.ref (gp k)), some (.int x)] rfl rfl (Nat.le_of_ble_eq_true rfl) (fun κ C hQ => ?_)
  refine u_aload_n (pc := 0) C d_G_push_0 rfl ?_
  refine u_geti (pc := 1) C d_G_push_1 fw_G_48 (shG0 hk) rfl ?_
  refine u_bipush (pc := 4) (v := 64) C d_G_push_4 (by decide) ?_
  refine u_icmp_lt (pc := 6) (tgt := 11) C d_G_push_6 rfl (fun c6 => ?_) (fun c6 => ?_)
  · refine u_aload_n (pc := 11) C d_G_push_11 rfl ?_
    refine u_getr (pc := 12) (r := (gp k + 6)) C d_G_push_12 fw_G_27 (shG0 hk) rfl (rf_G_6 hk) ?_
    refine u_aload_n (pc := 15) C d_G_push_15 rfl ?_
    refine u_geti (pc := 16) C d_G_push_16 fw_G_48 (shG0 hk) rfl ?_
    refine u_iload_n (pc := 19) C d_G_push_19 rfl ?_
    refine u_callSv (pc := 20) C d_G_push_20 mx_L_put mw_G_69 (c_L_put (shG6 hk)) rfl rfl (Nat.le_of_ble_eq_true rfl) (fun M20 q20 => ?_)
    have q20 := q20.symm
    subst q20
    refine u_aload_n (pc := 23) C d_G_push_23 rfl ?_
    refine u_dup (pc := 24) C d_G_push_24 rfl ?_
    refine u_geti (pc := 25) C d_G_push_25 fw_G_48 (shG0 hk) rfl ?_
    refine u_iconst (pc := 28) (v := 1) C d_G_push_28 (by decide) ?_
    refine u_iadd (pc := 29) C d_G_push_29 ?_
    refine u_put (pc := 30) C d_G_push_30 fw_G_48 (shG0 hk) rfl (Or.inl rfl) ?_
    refine u_iconst (pc := 33) (v := 1) C d_G_push_33 (by decide) ?_
    refine u_zret (pc := 34) C d_G_push_34 (by decide) (hQ _ _ ⟨_, rfl, ?_⟩)
    exact ⟨by simp [pushR, *], by simp [pushF, *]⟩
  · refine u_iconst (pc := 9) (v := 0) C d_G_push_9 (by decide) ?_
    refine u_zret (pc := 10) C d_G_push_10 (by decide) (hQ _ _ ⟨_, rfl, ?_⟩)
    exact ⟨by simp [pushR, *], by simp [pushF, *]⟩
set_option maxRecDepth 20000 in
theorem c_G_pop {k : Nat} (hk : k < 6) {M : Mem} : Ct lyC y_G_pop b_G_pop 1 (some .int) 1 [.ref (gp k)] M (Pi fun r M' => r = popR M k ∧ M' = popF M k) := by
  refine Ct.ofG mx_G_pop [some (.ref (gp k))] rfl rfl (Nat.le_of_ble_eq_true rfl) (fun κ C hQ => ?_)
  refine u_aload_n (pc := 0) C d_G_pop_0 rfl ?_
  refine u_geti (pc := 1) C d_G_pop_1 fw_G_48 (shG0 hk) rfl ?_
  refine u_if_gt (pc := 4) (tgt := 10) C d_G_pop_4 rfl (fun c4 => ?_) (fun c4 => ?_)
  · refine u_aload_n (pc := 10) C d_G_pop_10 rfl ?_
    refine u_dup (pc := 11) C d_G_pop_11 rfl ?_
    refine u_geti (pc := 12) C d_G_pop_12 fw_G_48 (shG0 hk) rfl ?_
    refine u_iconst (pc := 15) (v := 1) C d_G_pop_15 (by decide) ?_
    refine u_isub (pc := 16) C d_G_pop_16 ?_
    refine u_put (pc := 17) C d_G_pop_17 fw_G_48 (shG0 hk) rfl (Or.inl rfl) ?_
    refine u_aload_n (pc := 20) C d_G_pop_20 rfl ?_
    refine u_getr (pc := 21) (r := (gp k + 6)) C d_G_pop_21 fw_G_27 (shG0 hk) rfl (rf_G_6 hk) ?_
    refine u_aload_n (pc := 24) C d_G_pop_24 rfl ?_
    refine u_geti (pc := 25) C d_G_pop_25 fw_G_48 (shG0 hk) rfl ?_
    refine u_callSi (pc := 28) C d_G_pop_28 mx_L_at mw_G_81 (c_L_at (shG6 hk)) rfl rfl (Nat.le_of_ble_eq_true rfl) (fun r28 M28 q28 => ?_)
    obtain ⟨e28, q28⟩ := q28
    have q28 := q28.symm
    subst q28
    refine u_iret (pc := 31) C d_G_pop_31 (hQ _ _ ⟨_, rfl, ?_⟩)
    exact ⟨by simp [popR, popF, *], by simp [popF, *]⟩
  · refine u_bipush (pc := 7) (v := (-2)) C d_G_pop_7 (by decide) ?_
    refine u_iret (pc := 9) C d_G_pop_9 (hQ _ _ ⟨_, rfl, ?_⟩)
    exact ⟨by simp [popR, popF, *], by simp [popF, *]⟩
set_option maxRecDepth 20000 in
theorem c_G_playCard {k : Nat} (hk : k < 6) {c : Int32} {M : Mem} : Ct lyC y_G_playCard b_G_playCard 2 none 2 [.ref (gp k), .int c] M (Pv fun M' => M' = plF M k c) := by
  refine Ct.ofG mx_G_playCard [some (.ref (gp k)), some (.int c)] rfl rfl (Nat.le_of_ble_eq_true rfl) (fun κ C hQ => ?_)
  refine u_aload_n (pc := 0) C d_G_playCard_0 rfl ?_
  refine u_iload_n (pc := 1) C d_G_playCard_1 rfl ?_
  refine u_callVi (pc := 2) C d_G_playCard_2 mx_G_push mw_G_73 (shG0 hk) rfl (c_G_push hk) rfl rfl (Nat.le_of_ble_eq_true rfl) (fun r2 M2 q2 => ?_)
  obtain ⟨e2, q2⟩ := q2
  have q2 := q2.symm
  subst q2
  refine u_if_eq (pc := 5) (tgt := 14) C d_G_playCard_5 rfl (fun c5 => ?_) (fun c5 => ?_)
  · refine u_vret (pc := 14) C d_G_playCard_14 (hQ _ _ ⟨rfl, ?_⟩)
    rw [e2, pushR] at c5
    split at c5 <;> rename_i z <;> first
      | (exact absurd c5 (by decide))
      | (exact absurd rfl c5)
      | (rw [plF, if_neg z, pushF, if_neg z])
      | (rw [plF, if_pos z])
  · refine u_aload_n (pc := 8) C d_G_playCard_8 rfl ?_
    refine u_iload_n (pc := 9) C d_G_playCard_9 rfl ?_
    refine u_iconst (pc := 10) (v := 2) C d_G_playCard_10 (by decide) ?_
    refine u_callVv (pc := 11) C d_G_playCard_11 mx_G_moveTo mw_G_77 (shG0 hk) rfl (c_G_moveTo hk) rfl rfl (Nat.le_of_ble_eq_true rfl) (fun M11 q11 => ?_)
    have q11 := q11.symm
    subst q11
    refine u_vret (pc := 14) C d_G_playCard_14 (hQ _ _ ⟨rfl, ?_⟩)
    rw [e2, pushR] at c5
    split at c5 <;> rename_i z <;> first
      | (exact absurd c5 (by decide))
      | (exact absurd rfl c5)
      | (rw [plF, if_neg z, pushF, if_neg z])
      | (rw [plF, if_pos z])
set_option maxRecDepth 20000 in
theorem c_G_changeLife {k : Nat} (hk : k < 6) {p b : Int32} {M : Mem} : Ct lyC y_G_changeLife b_G_changeLife 3 none 1 [.ref (gp k), .int p, .int b] M (Pv fun M' => M' = chF M k p b) := by
  refine Ct.ofG mx_G_changeLife [some (.ref (gp k)), some (.int p), some (.int b)] rfl rfl (Nat.le_of_ble_eq_true rfl) (fun κ C hQ => ?_)
  refine u_aload_n (pc := 0) C d_G_changeLife_0 rfl ?_
  refine u_getr (pc := 1) (r := (gp k + 1)) C d_G_changeLife_1 fw_G_9 (shG0 hk) rfl (rf_G_1 hk) ?_
  refine u_iload_n (pc := 4) C d_G_changeLife_4 rfl ?_
  refine u_aload_n (pc := 5) C d_G_changeLife_5 rfl ?_
  refine u_getr (pc := 6) (r := (gp k + 1)) C d_G_changeLife_6 fw_G_9 (shG0 hk) rfl (rf_G_1 hk) ?_
  refine u_iload_n (pc := 9) C d_G_changeLife_9 rfl ?_
  refine u_callSi (pc := 10) C d_G_changeLife_10 mx_L_at mw_G_81 (c_L_at (shG1 hk)) rfl rfl (Nat.le_of_ble_eq_true rfl) (fun r10 M10 q10 => ?_)
  obtain ⟨e10, q10⟩ := q10
  have q10 := q10.symm
  subst q10
  refine u_iload_n (pc := 13) C d_G_changeLife_13 rfl ?_
  refine u_iadd (pc := 14) C d_G_changeLife_14 ?_
  refine u_bipush (pc := 15) (v := (-99)) C d_G_changeLife_15 (by decide) ?_
  refine u_bipush (pc := 17) (v := 99) C d_G_changeLife_17 (by decide) ?_
  refine u_callSi (pc := 19) C d_G_changeLife_19 mx_L_within mw_G_106 (c_L_within) rfl rfl (Nat.le_of_ble_eq_true rfl) (fun r19 M19 q19 => ?_)
  obtain ⟨e19, q19⟩ := q19
  have q19 := q19.symm
  subst q19
  refine u_callSv (pc := 22) C d_G_changeLife_22 mx_L_put mw_G_69 (c_L_put (shG1 hk)) rfl rfl (Nat.le_of_ble_eq_true rfl) (fun M22 q22 => ?_)
  have q22 := q22.symm
  subst q22
  refine u_vret (pc := 25) C d_G_changeLife_25 (hQ _ _ ⟨rfl, ?_⟩)
  rw [e19, e10]; rfl
set_option maxRecDepth 20000 in
theorem c_G_worthTo {k : Nat} (hk : k < 6) {p : Int32} {M : Mem} : Ct lyC y_G_worthTo b_G_worthTo 2 (some .int) 1 [.ref (gp k), .int p] M (Pi fun r M' => r = woF M k p ∧ M' = M) := by
  refine Ct.ofG mx_G_worthTo [some (.ref (gp k)), some (.int p)] rfl rfl (Nat.le_of_ble_eq_true rfl) (fun κ C hQ => ?_)
  refine u_aload_n (pc := 0) C d_G_worthTo_0 rfl ?_
  refine u_getr (pc := 1) (r := (gp k + 1)) C d_G_worthTo_1 fw_G_9 (shG0 hk) rfl (rf_G_1 hk) ?_
  refine u_iload_n (pc := 4) C d_G_worthTo_4 rfl ?_
  refine u_callSi (pc := 5) C d_G_worthTo_5 mx_L_at mw_G_81 (c_L_at (shG1 hk)) rfl rfl (Nat.le_of_ble_eq_true rfl) (fun r5 M5 q5 => ?_)
  obtain ⟨e5, q5⟩ := q5
  have q5 := q5.symm
  subst q5
  refine u_aload_n (pc := 8) C d_G_worthTo_8 rfl ?_
  refine u_getr (pc := 9) (r := (gp k + 1)) C d_G_worthTo_9 fw_G_9 (shG0 hk) rfl (rf_G_1 hk) ?_
  refine u_iconst (pc := 12) (v := 1) C d_G_worthTo_12 (by decide) ?_
  refine u_iload_n (pc := 13) C d_G_worthTo_13 rfl ?_
  refine u_isub (pc := 14) C d_G_worthTo_14 ?_
  refine u_callSi (pc := 15) C d_G_worthTo_15 mx_L_at mw_G_81 (c_L_at (shG1 hk)) rfl rfl (Nat.le_of_ble_eq_true rfl) (fun r15 M15 q15 => ?_)
  obtain ⟨e15, q15⟩ := q15
  have q15 := q15.symm
  subst q15
  refine u_isub (pc := 18) C d_G_worthTo_18 ?_
  refine u_iret (pc := 19) C d_G_worthTo_19 (hQ _ _ ⟨_, rfl, ?_⟩)
  exact ⟨by rw [e5, e15]; rfl, rfl⟩
set_option maxRecDepth 20000 in
theorem c_G_lostBits {k : Nat} (hk : k < 6) {M : Mem} : Ct lyC y_G_lostBits b_G_lostBits 1 (some .int) 1 [.ref (gp k)] M (Pi fun r M' => r = lbF M k ∧ M' = M) := by
  refine Ct.ofG mx_G_lostBits [some (.ref (gp k))] rfl rfl (Nat.le_of_ble_eq_true rfl) (fun κ C hQ => ?_)
  refine u_aload_n (pc := 0) C d_G_lostBits_0 rfl ?_
  refine u_getr (pc := 1) (r := (gp k + 1)) C d_G_lostBits_1 fw_G_9 (shG0 hk) rfl (rf_G_1 hk) ?_
  refine u_iconst (pc := 4) (v := 0) C d_G_lostBits_4 (by decide) ?_
  refine u_callSi (pc := 5) C d_G_lostBits_5 mx_L_at mw_G_81 (c_L_at (shG1 hk)) rfl rfl (Nat.le_of_ble_eq_true rfl) (fun r5 M5 q5 => ?_)
  obtain ⟨e5, q5⟩ := q5
  have q5 := q5.symm
  subst q5
  refine u_if_gt (pc := 8) (tgt := 15) C d_G_lostBits_8 rfl (fun c8 => ?_) (fun c8 => ?_)
  · refine u_iconst (pc := 15) (v := 0) C d_G_lostBits_15 (by decide) ?_
    refine u_aload_n (pc := 16) C d_G_lostBits_16 rfl ?_
    refine u_getr (pc := 17) (r := (gp k + 1)) C d_G_lostBits_17 fw_G_9 (shG0 hk) rfl (rf_G_1 hk) ?_
    refine u_iconst (pc := 20) (v := 1) C d_G_lostBits_20 (by decide) ?_
    refine u_callSi (pc := 21) C d_G_lostBits_21 mx_L_at mw_G_81 (c_L_at (shG1 hk)) rfl rfl (Nat.le_of_ble_eq_true rfl) (fun r21 M21 q21 => ?_)
    obtain ⟨e21, q21⟩ := q21
    have q21 := q21.symm
    subst q21
    refine u_if_gt (pc := 24) (tgt := 31) C d_G_lostBits_24 rfl (fun c24 => ?_) (fun c24 => ?_)
    · refine u_iconst (pc := 31) (v := 0) C d_G_lostBits_31 (by decide) ?_
      refine u_ior (pc := 32) C d_G_lostBits_32 ?_
      refine u_iret (pc := 33) C d_G_lostBits_33 (hQ _ _ ⟨_, rfl, ?_⟩)
      rw [e5] at c8
      rw [e21] at c24
      exact ⟨by simp [lbF, c8, c24], rfl⟩
    · refine u_iconst (pc := 27) (v := 2) C d_G_lostBits_27 (by decide) ?_
      refine u_goto (pc := 28) (tgt := 32) C d_G_lostBits_28 rfl ?_
      refine u_ior (pc := 32) C d_G_lostBits_32 ?_
      refine u_iret (pc := 33) C d_G_lostBits_33 (hQ _ _ ⟨_, rfl, ?_⟩)
      rw [e5] at c8
      rw [e21] at c24
      exact ⟨by simp [lbF, c8, c24], rfl⟩
  · refine u_iconst (pc := 11) (v := 1) C d_G_lostBits_11 (by decide) ?_
    refine u_goto (pc := 12) (tgt := 16) C d_G_lostBits_12 rfl ?_
    refine u_aload_n (pc := 16) C d_G_lostBits_16 rfl ?_
    refine u_getr (pc := 17) (r := (gp k + 1)) C d_G_lostBits_17 fw_G_9 (shG0 hk) rfl (rf_G_1 hk) ?_
    refine u_iconst (pc := 20) (v := 1) C d_G_lostBits_20 (by decide) ?_
    refine u_callSi (pc := 21) C d_G_lostBits_21 mx_L_at mw_G_81 (c_L_at (shG1 hk)) rfl rfl (Nat.le_of_ble_eq_true rfl) (fun r21 M21 q21 => ?_)
    obtain ⟨e21, q21⟩ := q21
    have q21 := q21.symm
    subst q21
    refine u_if_gt (pc := 24) (tgt := 31) C d_G_lostBits_24 rfl (fun c24 => ?_) (fun c24 => ?_)
    · refine u_iconst (pc := 31) (v := 0) C d_G_lostBits_31 (by decide) ?_
      refine u_ior (pc := 32) C d_G_lostBits_32 ?_
      refine u_iret (pc := 33) C d_G_lostBits_33 (hQ _ _ ⟨_, rfl, ?_⟩)
      rw [e5] at c8
      rw [e21] at c24
      exact ⟨by simp [lbF, c8, c24], rfl⟩
    · refine u_iconst (pc := 27) (v := 2) C d_G_lostBits_27 (by decide) ?_
      refine u_goto (pc := 28) (tgt := 32) C d_G_lostBits_28 rfl ?_
      refine u_ior (pc := 32) C d_G_lostBits_32 ?_
      refine u_iret (pc := 33) C d_G_lostBits_33 (hQ _ _ ⟨_, rfl, ?_⟩)
      rw [e5] at c8
      rw [e21] at c24
      exact ⟨by simp [lbF, c8, c24], rfl⟩
set_option maxRecDepth 20000 in
theorem c_G_isQuiet {k : Nat} (hk : k < 6) {M : Mem} : Ct lyC y_G_isQuiet b_G_isQuiet 1 (some .boolean) 2 [.ref (gp k)] M (Pi fun r M' => r = (if M.1 (gp k) 9 = 0 ∧ lbF M k = 0 then 1 else 0) ∧ M' = M) := by
  refine Ct.ofG mx_G_isQuiet [some (.ref (gp k))] rfl rfl (Nat.le_of_ble_eq_true rfl) (fun κ C hQ => ?_)
  refine u_aload_n (pc := 0) C d_G_isQuiet_0 rfl ?_
  refine u_geti (pc := 1) C d_G_isQuiet_1 fw_G_48 (shG0 hk) rfl ?_
  refine u_if_ne (pc := 4) (tgt := 18) C d_G_isQuiet_4 rfl (fun c4 => ?_) (fun c4 => ?_)
  · refine u_iconst (pc := 18) (v := 0) C d_G_isQuiet_18 (by decide) ?_
    refine u_zret (pc := 19) C d_G_isQuiet_19 (by decide) (hQ _ _ ⟨_, rfl, ?_⟩)
    exact ⟨by simp_all, rfl⟩
  · refine u_aload_n (pc := 7) C d_G_isQuiet_7 rfl ?_
    refine u_callVi (pc := 8) C d_G_isQuiet_8 mx_G_lostBits mw_G_109 (shG0 hk) rfl (c_G_lostBits hk) rfl rfl (Nat.le_of_ble_eq_true rfl) (fun r8 M8 q8 => ?_)
    obtain ⟨e8, q8⟩ := q8
    have q8 := q8.symm
    subst q8
    refine u_if_ne (pc := 11) (tgt := 18) C d_G_isQuiet_11 rfl (fun c11 => ?_) (fun c11 => ?_)
    · refine u_iconst (pc := 18) (v := 0) C d_G_isQuiet_18 (by decide) ?_
      refine u_zret (pc := 19) C d_G_isQuiet_19 (by decide) (hQ _ _ ⟨_, rfl, ?_⟩)
      exact ⟨by simp_all, rfl⟩
    · refine u_iconst (pc := 14) (v := 1) C d_G_isQuiet_14 (by decide) ?_
      refine u_goto (pc := 15) (tgt := 19) C d_G_isQuiet_15 rfl ?_
      refine u_zret (pc := 19) C d_G_isQuiet_19 (by decide) (hQ _ _ ⟨_, rfl, ?_⟩)
      exact ⟨by simp_all, rfl⟩
set_option maxRecDepth 20000 in
theorem c_G_layDown {k : Nat} (hk : k < 6) {c : Int32} {M : Mem} : Ct lyC y_G_layDown b_G_layDown 2 none 2 [.ref (gp k), .int c] M (Pv fun M' => M' = ldF M k c) := by
  refine Ct.ofG mx_G_layDown [some (.ref (gp k)), some (.int c)] rfl rfl (Nat.le_of_ble_eq_true rfl) (fun κ C hQ => ?_)
  refine u_aload_n (pc := 0) C d_G_layDown_0 rfl ?_
  refine u_getr (pc := 1) (r := (gp k + 5)) C d_G_layDown_1 fw_G_24 (shG0 hk) rfl (rf_G_5 hk) ?_
  refine u_aload_n (pc := 4) C d_G_layDown_4 rfl ?_
  refine u_geti (pc := 5) C d_G_layDown_5 fw_G_45 (shG0 hk) rfl ?_
  refine u_iload_n (pc := 8) C d_G_layDown_8 rfl ?_
  refine u_callSv (pc := 9) C d_G_layDown_9 mx_L_put mw_G_69 (c_L_put (shG5 hk)) rfl rfl (Nat.le_of_ble_eq_true rfl) (fun M9 q9 => ?_)
  have q9 := q9.symm
  subst q9
  refine u_aload_n (pc := 12) C d_G_layDown_12 rfl ?_
  refine u_dup (pc := 13) C d_G_layDown_13 rfl ?_
  refine u_geti (pc := 14) C d_G_layDown_14 fw_G_45 (shG0 hk) rfl ?_
  refine u_iconst (pc := 17) (v := 1) C d_G_layDown_17 (by decide) ?_
  refine u_iadd (pc := 18) C d_G_layDown_18 ?_
  refine u_put (pc := 19) C d_G_layDown_19 fw_G_45 (shG0 hk) rfl (Or.inl rfl) ?_
  refine u_aload_n (pc := 22) C d_G_layDown_22 rfl ?_
  refine u_getr (pc := 23) (r := (gp k + 4)) C d_G_layDown_23 fw_G_21 (shG0 hk) rfl (rf_G_4 hk) ?_
  refine u_iload_n (pc := 26) C d_G_layDown_26 rfl ?_
  refine u_aload_n (pc := 27) C d_G_layDown_27 rfl ?_
  refine u_geti (pc := 28) C d_G_layDown_28 fw_G_51 (shG0 hk) rfl ?_
  refine u_callSv (pc := 31) C d_G_layDown_31 mx_L_put mw_G_69 (c_L_put (shG4 hk)) rfl rfl (Nat.le_of_ble_eq_true rfl) (fun M31 q31 => ?_)
  have q31 := q31.symm
  subst q31
  refine u_aload_n (pc := 34) C d_G_layDown_34 rfl ?_
  refine u_dup (pc := 35) C d_G_layDown_35 rfl ?_
  refine u_geti (pc := 36) C d_G_layDown_36 fw_G_51 (shG0 hk) rfl ?_
  refine u_iconst (pc := 39) (v := 1) C d_G_layDown_39 (by decide) ?_
  refine u_iadd (pc := 40) C d_G_layDown_40 ?_
  refine u_put (pc := 41) C d_G_layDown_41 fw_G_51 (shG0 hk) rfl (Or.inl rfl) ?_
  refine u_aload_n (pc := 44) C d_G_layDown_44 rfl ?_
  refine u_iload_n (pc := 45) C d_G_layDown_45 rfl ?_
  refine u_iconst (pc := 46) (v := 3) C d_G_layDown_46 (by decide) ?_
  refine u_callVv (pc := 47) C d_G_layDown_47 mx_G_moveTo mw_G_77 (shG0 hk) rfl (c_G_moveTo hk) rfl rfl (Nat.le_of_ble_eq_true rfl) (fun M47 q47 => ?_)
  have q47 := q47.symm
  subst q47
  refine u_vret (pc := 50) C d_G_layDown_50 (hQ _ _ ⟨rfl, ?_⟩)
  rfl
