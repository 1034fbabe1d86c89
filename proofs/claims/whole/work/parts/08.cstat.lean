/-! the class's own small functions -/
def atF (f : Nat → Int32) (n : Nat) (i : Int32) : Int32 := if i < 0 then 0 else if Int32.ofNat n ≤ i then 0 else f i.toNatClampNeg
def putF (M : Mem) (p n : Nat) (i x : Int32) : Mem := if i < 0 then M else if Int32.ofNat n ≤ i then M else up M p i.toNatClampNeg x
def withinF (x a b : Int32) : Int32 := if a ≤ x then (if x ≤ b then x else b) else a
def famF (k : Int32) : Int32 := if 4 < k then (if 8 < k then (if 13 < k then 4 else 3) else 2) else 1
def layF (k a own other : Int32) : Int32 := if k = 0 then withinF (own + a) (-99) 99 else if k = 1 then withinF (own * a) (-99) 99 else if k = 2 then a else if k = 3 then other else withinF (own + other) (-99) 99
def repF (k a n : Int32) : Int32 := if k = 5 then n * 2 else if k = 7 then n - a else n
def codeF (t p n : Int32) : Int32 := 1000 * t + 100 * p + n
def seedF (s : Int32) : Int32 := s * 1103515245 + 12345
def remF (x z : Int32) : Int32 := x - x / z * z
def drawnF (n s : Int32) : Int32 := if n ≤ 0 then 0 else remF ((s.toUInt32 >>> (Int32.toUInt32 16 &&& Int32.toUInt32 31)).toInt32) n
theorem lenC {p t n : Nat} (h : sh lyC p t n) : n < 4000 := by
  have h1 : ∀ p, p < 84 → (lyC.2.1 p).2 < 4000 := by decide +kernel
  have := h1 p h.1
  rw [h.2] at this
  exact this
theorem ofNat_nI (n : Nat) : Int32.ofNat n = nI n := rfl
theorem vp_of {i : Int32} {n : Nat} (h1 : ¬ i < 0) (h2 : ¬ Int32.ofNat n ≤ i) (hn : n < 2 ^ 31) : vp_in i n := by
  obtain ⟨j, hj, rfl⟩ := nI_of h1
  refine vp_in_nI ?_ hn
  rcases Nat.lt_or_ge j n with h | h
  · exact h
  · exact absurd (nI_le h hj) h2
set_option maxRecDepth 20000 in
theorem c_L_at {p n : Nat} {i : Int32} {M : Mem} (hp : sh lyC p 1 n) : Ct lyC y_L_at b_L_at 2 (some .int) 0 [.ref p, .int i] M (Pi fun r M' => r = atF (M.1 p) n i ∧ M' = M) := by
  refine Ct.ofG mx_L_at [some (.ref p), some (.int i)] rfl rfl (Nat.le_of_ble_eq_true rfl) (fun κ C hQ => ?_)
  refine u_iload_n (pc := 0) C d_L_at_0 rfl ?_
  refine u_if_lt (pc := 1) (tgt := 16) C d_L_at_1 rfl (fun c1 => ?_) (fun c1 => ?_)
  · refine u_iconst (pc := 16) (v := 0) C d_L_at_16 (by decide) ?_
    refine u_iret (pc := 17) C d_L_at_17 (hQ _ _ ⟨_, rfl, ?_⟩)
    exact ⟨by simp [atF, *], rfl⟩
  · refine u_iload_n (pc := 4) C d_L_at_4 rfl ?_
    refine u_aload_n (pc := 5) C d_L_at_5 rfl ?_
    refine u_alen (pc := 6) C d_L_at_6 hp rfl rfl ?_
    refine u_icmp_ge (pc := 7) (tgt := 16) C d_L_at_7 rfl (fun c7 => ?_) (fun c7 => ?_)
    · refine u_iconst (pc := 16) (v := 0) C d_L_at_16 (by decide) ?_
      refine u_iret (pc := 17) C d_L_at_17 (hQ _ _ ⟨_, rfl, ?_⟩)
      exact ⟨by simp [atF, *], rfl⟩
    · refine u_aload_n (pc := 10) C d_L_at_10 rfl ?_
      refine u_iload_n (pc := 11) C d_L_at_11 rfl ?_
      refine u_iald (pc := 12) C d_L_at_12 hp (vp_of c1 c7 (Nat.lt_trans (lenC hp) (by decide))) ?_
      refine u_goto (pc := 13) (tgt := 17) C d_L_at_13 rfl ?_
      refine u_iret (pc := 17) C d_L_at_17 (hQ _ _ ⟨_, rfl, ?_⟩)
      exact ⟨by simp [atF, *], rfl⟩
set_option maxRecDepth 20000 in
theorem c_L_put {p n : Nat} {i x : Int32} {M : Mem} (hp : sh lyC p 1 n) : Ct lyC y_L_put b_L_put 3 none 0 [.ref p, .int i, .int x] M (Pv fun M' => M' = putF M p n i x) := by
  refine Ct.ofG mx_L_put [some (.ref p), some (.int i), some (.int x)] rfl rfl (Nat.le_of_ble_eq_true rfl) (fun κ C hQ => ?_)
  refine u_iload_n (pc := 0) C d_L_put_0 rfl ?_
  refine u_if_lt (pc := 1) (tgt := 14) C d_L_put_1 rfl (fun c1 => ?_) (fun c1 => ?_)
  · refine u_vret (pc := 14) C d_L_put_14 (hQ _ _ ⟨rfl, ?_⟩)
    simp [putF, *]
  · refine u_iload_n (pc := 4) C d_L_put_4 rfl ?_
    refine u_aload_n (pc := 5) C d_L_put_5 rfl ?_
    refine u_alen (pc := 6) C d_L_put_6 hp rfl rfl ?_
    refine u_icmp_ge (pc := 7) (tgt := 14) C d_L_put_7 rfl (fun c7 => ?_) (fun c7 => ?_)
    · refine u_vret (pc := 14) C d_L_put_14 (hQ _ _ ⟨rfl, ?_⟩)
      simp [putF, *]
    · refine u_aload_n (pc := 10) C d_L_put_10 rfl ?_
      refine u_iload_n (pc := 11) C d_L_put_11 rfl ?_
      refine u_iload_n (pc := 12) C d_L_put_12 rfl ?_
      refine u_iast (pc := 13) C d_L_put_13 hp (vp_of c1 c7 (Nat.lt_trans (lenC hp) (by decide))) ?_
      refine u_vret (pc := 14) C d_L_put_14 (hQ _ _ ⟨rfl, ?_⟩)
      simp [putF, *]
set_option maxRecDepth 20000 in
theorem c_L_within {x a b : Int32} {M : Mem} : Ct lyC y_L_within b_L_within 3 (some .int) 0 [.int x, .int a, .int b] M (Pi fun r M' => r = withinF x a b ∧ M' = M) := by
  refine Ct.ofG mx_L_within [some (.int x), some (.int a), some (.int b)] rfl rfl (Nat.le_of_ble_eq_true rfl) (fun κ C hQ => ?_)
  refine u_iload_n (pc := 0) C d_L_within_0 rfl ?_
  refine u_iload_n (pc := 1) C d_L_within_1 rfl ?_
  refine u_icmp_ge (pc := 2) (tgt := 7) C d_L_within_2 rfl (fun c2 => ?_) (fun c2 => ?_)
  · refine u_iload_n (pc := 7) C d_L_within_7 rfl ?_
    refine u_iload_n (pc := 8) C d_L_within_8 rfl ?_
    refine u_icmp_le (pc := 9) (tgt := 16) C d_L_within_9 rfl (fun c9 => ?_) (fun c9 => ?_)
    · refine u_iload_n (pc := 16) C d_L_within_16 rfl ?_
      refine u_iret (pc := 17) C d_L_within_17 (hQ _ _ ⟨_, rfl, ?_⟩)
      exact ⟨by simp [withinF, *], rfl⟩
    · refine u_iload_n (pc := 12) C d_L_within_12 rfl ?_
      refine u_goto (pc := 13) (tgt := 17) C d_L_within_13 rfl ?_
      refine u_iret (pc := 17) C d_L_within_17 (hQ _ _ ⟨_, rfl, ?_⟩)
      exact ⟨by simp [withinF, *], rfl⟩
  · refine u_iload_n (pc := 5) C d_L_within_5 rfl ?_
    refine u_iret (pc := 6) C d_L_within_6 (hQ _ _ ⟨_, rfl, ?_⟩)
    exact ⟨by simp [withinF, *], rfl⟩
set_option maxRecDepth 20000 in
theorem c_L_isPlayer {x : Int32} {M : Mem} : Ct lyC y_L_isPlayer b_L_isPlayer 1 (some .boolean) 0 [.int x] M (Pi fun r M' => r = (if x = 0 ∨ x = 1 then 1 else 0) ∧ M' = M) := by
  refine Ct.ofG mx_L_isPlayer [some (.int x)] rfl rfl (Nat.le_of_ble_eq_true rfl) (fun κ C hQ => ?_)
  refine u_iload_n (pc := 0) C d_L_isPlayer_0 rfl ?_
  refine u_if_eq (pc := 1) (tgt := 9) C d_L_isPlayer_1 rfl (fun c1 => ?_) (fun c1 => ?_)
  · refine u_iconst (pc := 9) (v := 1) C d_L_isPlayer_9 (by decide) ?_
    refine u_goto (pc := 10) (tgt := 14) C d_L_isPlayer_10 rfl ?_
    refine u_zret (pc := 14) C d_L_isPlayer_14 (by decide) (hQ _ _ ⟨_, rfl, ?_⟩)
    exact ⟨by simp [*], rfl⟩
  · refine u_iload_n (pc := 4) C d_L_isPlayer_4 rfl ?_
    refine u_iconst (pc := 5) (v := 1) C d_L_isPlayer_5 (by decide) ?_
    refine u_icmp_ne (pc := 6) (tgt := 13) C d_L_isPlayer_6 rfl (fun c6 => ?_) (fun c6 => ?_)
    · refine u_iconst (pc := 13) (v := 0) C d_L_isPlayer_13 (by decide) ?_
      refine u_zret (pc := 14) C d_L_isPlayer_14 (by decide) (hQ _ _ ⟨_, rfl, ?_⟩)
      exact ⟨by simp [*], rfl⟩
    · refine u_iconst (pc := 9) (v := 1) C d_L_isPlayer_9 (by decide) ?_
      refine u_goto (pc := 10) (tgt := 14) C d_L_isPlayer_10 rfl ?_
      refine u_zret (pc := 14) C d_L_isPlayer_14 (by decide) (hQ _ _ ⟨_, rfl, ?_⟩)
      exact ⟨by simp [*], rfl⟩
set_option maxRecDepth 20000 in
theorem c_L_isPair {x : Int32} {M : Mem} : Ct lyC y_L_isPair b_L_isPair 1 (some .boolean) 0 [.int x] M (Pi fun r M' => r = (if ¬ x < 0 ∧ ¬ 3 < x / 10 ∧ ¬ 3 < remF x 10 then 1 else 0) ∧ M' = M) := by
  refine Ct.ofG mx_L_isPair [some (.int x)] rfl rfl (Nat.le_of_ble_eq_true rfl) (fun κ C hQ => ?_)
  refine u_iload_n (pc := 0) C d_L_isPair_0 rfl ?_
  refine u_if_lt (pc := 1) (tgt := 24) C d_L_isPair_1 rfl (fun c1 => ?_) (fun c1 => ?_)
  · refine u_iconst (pc := 24) (v := 0) C d_L_isPair_24 (by decide) ?_
    refine u_zret (pc := 25) C d_L_isPair_25 (by decide) (hQ _ _ ⟨_, rfl, ?_⟩)
    exact ⟨by simp [remF, *], rfl⟩
  · refine u_iload_n (pc := 4) C d_L_isPair_4 rfl ?_
    refine u_bipush (pc := 5) (v := 10) C d_L_isPair_5 (by decide) ?_
    refine u_idiv (pc := 7) C d_L_isPair_7 (by decide) ?_
    refine u_iconst (pc := 8) (v := 3) C d_L_isPair_8 (by decide) ?_
    refine u_icmp_gt (pc := 9) (tgt := 24) C d_L_isPair_9 rfl (fun c9 => ?_) (fun c9 => ?_)
    · refine u_iconst (pc := 24) (v := 0) C d_L_isPair_24 (by decide) ?_
      refine u_zret (pc := 25) C d_L_isPair_25 (by decide) (hQ _ _ ⟨_, rfl, ?_⟩)
      exact ⟨by simp [remF, *], rfl⟩
    · refine u_iload_n (pc := 12) C d_L_isPair_12 rfl ?_
      refine u_bipush (pc := 13) (v := 10) C d_L_isPair_13 (by decide) ?_
      refine u_irem (pc := 15) C d_L_isPair_15 (by decide) ?_
      refine u_iconst (pc := 16) (v := 3) C d_L_isPair_16 (by decide) ?_
      refine u_icmp_gt (pc := 17) (tgt := 24) C d_L_isPair_17 rfl (fun c17 => ?_) (fun c17 => ?_)
      · refine u_iconst (pc := 24) (v := 0) C d_L_isPair_24 (by decide) ?_
        refine u_zret (pc := 25) C d_L_isPair_25 (by decide) (hQ _ _ ⟨_, rfl, ?_⟩)
        exact ⟨by simp [remF, *], rfl⟩
      · refine u_iconst (pc := 20) (v := 1) C d_L_isPair_20 (by decide) ?_
        refine u_goto (pc := 21) (tgt := 25) C d_L_isPair_21 rfl ?_
        refine u_zret (pc := 25) C d_L_isPair_25 (by decide) (hQ _ _ ⟨_, rfl, ?_⟩)
        exact ⟨by simp [remF, *], rfl⟩
set_option maxRecDepth 20000 in
theorem c_L_familyOf {k : Int32} {M : Mem} : Ct lyC y_L_familyOf b_L_familyOf 1 (some .int) 0 [.int k] M (Pi fun r M' => r = famF k ∧ M' = M) := by
  refine Ct.ofG mx_L_familyOf [some (.int k)] rfl rfl (Nat.le_of_ble_eq_true rfl) (fun κ C hQ => ?_)
  refine u_iload_n (pc := 0) C d_L_familyOf_0 rfl ?_
  refine u_iconst (pc := 1) (v := 4) C d_L_familyOf_1 (by decide) ?_
  refine u_icmp_gt (pc := 2) (tgt := 7) C d_L_familyOf_2 rfl (fun c2 => ?_) (fun c2 => ?_)
  · refine u_iload_n (pc := 7) C d_L_familyOf_7 rfl ?_
    refine u_bipush (pc := 8) (v := 8) C d_L_familyOf_8 (by decide) ?_
    refine u_icmp_gt (pc := 10) (tgt := 15) C d_L_familyOf_10 rfl (fun c10 => ?_) (fun c10 => ?_)
    · refine u_iload_n (pc := 15) C d_L_familyOf_15 rfl ?_
      refine u_bipush (pc := 16) (v := 13) C d_L_familyOf_16 (by decide) ?_
      refine u_icmp_gt (pc := 18) (tgt := 25) C d_L_familyOf_18 rfl (fun c18 => ?_) (fun c18 => ?_)
      · refine u_iconst (pc := 25) (v := 4) C d_L_familyOf_25 (by decide) ?_
        refine u_iret (pc := 26) C d_L_familyOf_26 (hQ _ _ ⟨_, rfl, ?_⟩)
        exact ⟨by simp [famF, *], rfl⟩
      · refine u_iconst (pc := 21) (v := 3) C d_L_familyOf_21 (by decide) ?_
        refine u_goto (pc := 22) (tgt := 26) C d_L_familyOf_22 rfl ?_
        refine u_iret (pc := 26) C d_L_familyOf_26 (hQ _ _ ⟨_, rfl, ?_⟩)
        exact ⟨by simp [famF, *], rfl⟩
    · refine u_iconst (pc := 13) (v := 2) C d_L_familyOf_13 (by decide) ?_
      refine u_iret (pc := 14) C d_L_familyOf_14 (hQ _ _ ⟨_, rfl, ?_⟩)
      exact ⟨by simp [famF, *], rfl⟩
  · refine u_iconst (pc := 5) (v := 1) C d_L_familyOf_5 (by decide) ?_
    refine u_iret (pc := 6) C d_L_familyOf_6 (hQ _ _ ⟨_, rfl, ?_⟩)
    exact ⟨by simp [famF, *], rfl⟩
set_option maxRecDepth 20000 in
theorem c_L_looksAtOther {k : Int32} {M : Mem} : Ct lyC y_L_looksAtOther b_L_looksAtOther 1 (some .boolean) 0 [.int k] M (Pi fun r M' => r = (if k = 3 ∨ k = 4 then 1 else 0) ∧ M' = M) := by
  refine Ct.ofG mx_L_looksAtOther [some (.int k)] rfl rfl (Nat.le_of_ble_eq_true rfl) (fun κ C hQ => ?_)
  refine u_iload_n (pc := 0) C d_L_looksAtOther_0 rfl ?_
  refine u_iconst (pc := 1) (v := 3) C d_L_looksAtOther_1 (by decide) ?_
  refine u_icmp_eq (pc := 2) (tgt := 10) C d_L_looksAtOther_2 rfl (fun c2 => ?_) (fun c2 => ?_)
  · refine u_iconst (pc := 10) (v := 1) C d_L_looksAtOther_10 (by decide) ?_
    refine u_goto (pc := 11) (tgt := 15) C d_L_looksAtOther_11 rfl ?_
    refine u_zret (pc := 15) C d_L_looksAtOther_15 (by decide) (hQ _ _ ⟨_, rfl, ?_⟩)
    exact ⟨by simp [*], rfl⟩
  · refine u_iload_n (pc := 5) C d_L_looksAtOther_5 rfl ?_
    refine u_iconst (pc := 6) (v := 4) C d_L_looksAtOther_6 (by decide) ?_
    refine u_icmp_ne (pc := 7) (tgt := 14) C d_L_looksAtOther_7 rfl (fun c7 => ?_) (fun c7 => ?_)
    · refine u_iconst (pc := 14) (v := 0) C d_L_looksAtOther_14 (by decide) ?_
      refine u_zret (pc := 15) C d_L_looksAtOther_15 (by decide) (hQ _ _ ⟨_, rfl, ?_⟩)
      exact ⟨by simp [*], rfl⟩
    · refine u_iconst (pc := 10) (v := 1) C d_L_looksAtOther_10 (by decide) ?_
      refine u_goto (pc := 11) (tgt := 15) C d_L_looksAtOther_11 rfl ?_
      refine u_zret (pc := 15) C d_L_looksAtOther_15 (by decide) (hQ _ _ ⟨_, rfl, ?_⟩)
      exact ⟨by simp [*], rfl⟩
set_option maxRecDepth 20000 in
theorem c_L_layered {k a own other : Int32} {M : Mem} : Ct lyC y_L_layered b_L_layered 4 (some .int) 1 [.int k, .int a, .int own, .int other] M (Pi fun r M' => r = layF k a own other ∧ M' = M) := by
  refine Ct.ofG mx_L_layered [some (.int k), some (.int a), some (.int own), some (.int other)] rfl rfl (Nat.le_of_ble_eq_true rfl) (fun κ C hQ => ?_)
  refine u_iload_n (pc := 0) C d_L_layered_0 rfl ?_
  refine u_top (fun t1 e1 => ?_)
  rcases sw_0_3 t1 with q1 | q1 | q1 | q1 | q1
  · refine u_tsIn (pc := 1) (tgt := 32) C d_L_layered_1 (by rw [q1]; decide) (by rw [q1]; decide) (by rw [q1]; rfl) rfl ?_
    refine u_iload_n (pc := 32) C d_L_layered_32 rfl ?_
    refine u_iload_n (pc := 33) C d_L_layered_33 rfl ?_
    refine u_iadd (pc := 34) C d_L_layered_34 ?_
    refine u_bipush (pc := 35) (v := (-99)) C d_L_layered_35 (by decide) ?_
    refine u_bipush (pc := 37) (v := 99) C d_L_layered_37 (by decide) ?_
    refine u_callSi (pc := 39) C d_L_layered_39 mx_L_within mw_L_325 (c_L_within) rfl rfl (Nat.le_of_ble_eq_true rfl) (fun r39 M39 q39 => ?_)
    obtain ⟨e39, q39⟩ := q39
    have q39 := q39.symm
    subst q39
    refine u_iret (pc := 42) C d_L_layered_42 (hQ _ _ ⟨_, rfl, ?_⟩)
    exact ⟨by subst_vars; simp [layF], rfl⟩
  · refine u_tsIn (pc := 1) (tgt := 43) C d_L_layered_1 (by rw [q1]; decide) (by rw [q1]; decide) (by rw [q1]; rfl) rfl ?_
    refine u_iload_n (pc := 43) C d_L_layered_43 rfl ?_
    refine u_iload_n (pc := 44) C d_L_layered_44 rfl ?_
    refine u_imul (pc := 45) C d_L_layered_45 ?_
    refine u_bipush (pc := 46) (v := (-99)) C d_L_layered_46 (by decide) ?_
    refine u_bipush (pc := 48) (v := 99) C d_L_layered_48 (by decide) ?_
    refine u_callSi (pc := 50) C d_L_layered_50 mx_L_within mw_L_325 (c_L_within) rfl rfl (Nat.le_of_ble_eq_true rfl) (fun r50 M50 q50 => ?_)
    obtain ⟨e50, q50⟩ := q50
    have q50 := q50.symm
    subst q50
    refine u_iret (pc := 53) C d_L_layered_53 (hQ _ _ ⟨_, rfl, ?_⟩)
    exact ⟨by subst_vars; simp [layF], rfl⟩
  · refine u_tsIn (pc := 1) (tgt := 54) C d_L_layered_1 (by rw [q1]; decide) (by rw [q1]; decide) (by rw [q1]; rfl) rfl ?_
    refine u_iload_n (pc := 54) C d_L_layered_54 rfl ?_
    refine u_iret (pc := 55) C d_L_layered_55 (hQ _ _ ⟨_, rfl, ?_⟩)
    exact ⟨by subst_vars; simp [layF], rfl⟩
  · refine u_tsIn (pc := 1) (tgt := 56) C d_L_layered_1 (by rw [q1]; decide) (by rw [q1]; decide) (by rw [q1]; rfl) rfl ?_
    refine u_iload_n (pc := 56) C d_L_layered_56 rfl ?_
    refine u_iret (pc := 57) C d_L_layered_57 (hQ _ _ ⟨_, rfl, ?_⟩)
    exact ⟨by subst_vars; simp [layF], rfl⟩
  · refine u_tsOut (pc := 1) (tgt := 58) C d_L_layered_1 q1 rfl ?_
    refine u_iload_n (pc := 58) C d_L_layered_58 rfl ?_
    refine u_iload_n (pc := 59) C d_L_layered_59 rfl ?_
    refine u_iadd (pc := 60) C d_L_layered_60 ?_
    refine u_bipush (pc := 61) (v := (-99)) C d_L_layered_61 (by decide) ?_
    refine u_bipush (pc := 63) (v := 99) C d_L_layered_63 (by decide) ?_
    refine u_callSi (pc := 65) C d_L_layered_65 mx_L_within mw_L_325 (c_L_within) rfl rfl (Nat.le_of_ble_eq_true rfl) (fun r65 M65 q65 => ?_)
    obtain ⟨e65, q65⟩ := q65
    have q65 := q65.symm
    subst q65
    refine u_iret (pc := 68) C d_L_layered_68 (hQ _ _ ⟨_, rfl, ?_⟩)
    refine ⟨?_, rfl⟩
    have z0 : ¬ k = 0 := fun q => by subst e1; rw [q] at q1; revert q1; decide
    have z1 : ¬ k = 1 := fun q => by subst e1; rw [q] at q1; revert q1; decide
    have z2 : ¬ k = 2 := fun q => by subst e1; rw [q] at q1; revert q1; decide
    have z3 : ¬ k = 3 := fun q => by subst e1; rw [q] at q1; revert q1; decide
    rw [e65, layF, if_neg z0, if_neg z1, if_neg z2, if_neg z3]
set_option maxRecDepth 20000 in
theorem c_L_replacedAmount {k a n : Int32} {M : Mem} : Ct lyC y_L_replacedAmount b_L_replacedAmount 3 (some .int) 0 [.int k, .int a, .int n] M (Pi fun r M' => r = repF k a n ∧ M' = M) := by
  refine Ct.ofG mx_L_replacedAmount [some (.int k), some (.int a), some (.int n)] rfl rfl (Nat.le_of_ble_eq_true rfl) (fun κ C hQ => ?_)
  refine u_iload_n (pc := 0) C d_L_replacedAmount_0 rfl ?_
  refine u_iconst (pc := 1) (v := 5) C d_L_replacedAmount_1 (by decide) ?_
  refine u_icmp_ne (pc := 2) (tgt := 9) C d_L_replacedAmount_2 rfl (fun c2 => ?_) (fun c2 => ?_)
  · refine u_iload_n (pc := 9) C d_L_replacedAmount_9 rfl ?_
    refine u_bipush (pc := 10) (v := 7) C d_L_replacedAmount_10 (by decide) ?_
    refine u_icmp_ne (pc := 12) (tgt := 21) C d_L_replacedAmount_12 rfl (fun c12 => ?_) (fun c12 => ?_)
    · refine u_iload_n (pc := 21) C d_L_replacedAmount_21 rfl ?_
      refine u_iret (pc := 22) C d_L_replacedAmount_22 (hQ _ _ ⟨_, rfl, ?_⟩)
      exact ⟨by simp [repF, *], rfl⟩
    · refine u_iload_n (pc := 15) C d_L_replacedAmount_15 rfl ?_
      refine u_iload_n (pc := 16) C d_L_replacedAmount_16 rfl ?_
      refine u_isub (pc := 17) C d_L_replacedAmount_17 ?_
      refine u_goto (pc := 18) (tgt := 22) C d_L_replacedAmount_18 rfl ?_
      refine u_iret (pc := 22) C d_L_replacedAmount_22 (hQ _ _ ⟨_, rfl, ?_⟩)
      exact ⟨by simp [repF, *], rfl⟩
  · refine u_iload_n (pc := 5) C d_L_replacedAmount_5 rfl ?_
    refine u_iconst (pc := 6) (v := 2) C d_L_replacedAmount_6 (by decide) ?_
    refine u_imul (pc := 7) C d_L_replacedAmount_7 ?_
    refine u_iret (pc := 8) C d_L_replacedAmount_8 (hQ _ _ ⟨_, rfl, ?_⟩)
    exact ⟨by simp [repF, *], rfl⟩
set_option maxRecDepth 20000 in
theorem c_L_codeOf {t p n : Int32} {M : Mem} : Ct lyC y_L_codeOf b_L_codeOf 3 (some .int) 0 [.int t, .int p, .int n] M (Pi fun r M' => r = codeF t p n ∧ M' = M) := by
  refine Ct.ofG mx_L_codeOf [some (.int t), some (.int p), some (.int n)] rfl rfl (Nat.le_of_ble_eq_true rfl) (fun κ C hQ => ?_)
  refine u_sipush (pc := 0) (v := 1000) C d_L_codeOf_0 (by decide) ?_
  refine u_iload_n (pc := 3) C d_L_codeOf_3 rfl ?_
  refine u_imul (pc := 4) C d_L_codeOf_4 ?_
  refine u_bipush (pc := 5) (v := 100) C d_L_codeOf_5 (by decide) ?_
  refine u_iload_n (pc := 7) C d_L_codeOf_7 rfl ?_
  refine u_imul (pc := 8) C d_L_codeOf_8 ?_
  refine u_iadd (pc := 9) C d_L_codeOf_9 ?_
  refine u_iload_n (pc := 10) C d_L_codeOf_10 rfl ?_
  refine u_iadd (pc := 11) C d_L_codeOf_11 ?_
  refine u_iret (pc := 12) C d_L_codeOf_12 (hQ _ _ ⟨_, rfl, ?_⟩)
  exact ⟨rfl, rfl⟩
set_option maxRecDepth 20000 in
theorem c_L_seedAfter {s : Int32} {M : Mem} : Ct lyC y_L_seedAfter b_L_seedAfter 1 (some .int) 0 [.int s] M (Pi fun r M' => r = seedF s ∧ M' = M) := by
  refine Ct.ofG mx_L_seedAfter [some (.int s)] rfl rfl (Nat.le_of_ble_eq_true rfl) (fun κ C hQ => ?_)
  refine u_iload_n (pc := 0) C d_L_seedAfter_0 rfl ?_
  refine u_ldcw (pc := 1) C (mc_L_328) d_L_seedAfter_1 ?_
  refine u_imul (pc := 4) C d_L_seedAfter_4 ?_
  refine u_sipush (pc := 5) (v := 12345) C d_L_seedAfter_5 (by decide) ?_
  refine u_iadd (pc := 8) C d_L_seedAfter_8 ?_
  refine u_iret (pc := 9) C d_L_seedAfter_9 (hQ _ _ ⟨_, rfl, ?_⟩)
  exact ⟨rfl, rfl⟩
set_option maxRecDepth 20000 in
theorem c_L_drawnBelow {n s : Int32} {M : Mem} : Ct lyC y_L_drawnBelow b_L_drawnBelow 2 (some .int) 0 [.int n, .int s] M (Pi fun r M' => r = drawnF n s ∧ M' = M) := by
  refine Ct.ofG mx_L_drawnBelow [some (.int n), some (.int s)] rfl rfl (Nat.le_of_ble_eq_true rfl) (fun κ C hQ => ?_)
  refine u_iload_n (pc := 0) C d_L_drawnBelow_0 rfl ?_
  refine u_if_le (pc := 1) (tgt := 13) C d_L_drawnBelow_1 rfl (fun c1 => ?_) (fun c1 => ?_)
  · refine u_iconst (pc := 13) (v := 0) C d_L_drawnBelow_13 (by decide) ?_
    refine u_iret (pc := 14) C d_L_drawnBelow_14 (hQ _ _ ⟨_, rfl, ?_⟩)
    exact ⟨by simp [drawnF, remF, *], rfl⟩
  · refine u_iload_n (pc := 4) C d_L_drawnBelow_4 rfl ?_
    refine u_bipush (pc := 5) (v := 16) C d_L_drawnBelow_5 (by decide) ?_
    refine u_iushr (pc := 7) C d_L_drawnBelow_7 ?_
    refine u_iload_n (pc := 8) C d_L_drawnBelow_8 rfl ?_
    refine u_irem (pc := 9) C d_L_drawnBelow_9 (fun q => by rw [q] at c1; exact c1 (by decide)) ?_
    refine u_goto (pc := 10) (tgt := 14) C d_L_drawnBelow_10 rfl ?_
    refine u_iret (pc := 14) C d_L_drawnBelow_14 (hQ _ _ ⟨_, rfl, ?_⟩)
    exact ⟨by simp [drawnF, remF, *], rfl⟩
set_option maxRecDepth 20000 in
theorem c_L_copyRow {p q n n2 : Nat} {M : Mem} (hp : sh lyC p 1 n) (hq : sh lyC q 1 n2) : Ct lyC y_L_copyRow b_L_copyRow 2 none 1 [.ref p, .ref q] M (Pv fun M' => M' = cpr M p q (min n n2)) := by
  have l1 := lenC hp
  have l2 := lenC hq
  have hm : (if Int32.ofNat n2 < Int32.ofNat n then Int32.ofNat n2 else Int32.ofNat n) = nI (min n n2) := by
    rw [ofNat_nI, ofNat_nI]
    by_cases h : n2 < n
    · rw [if_pos (nI_lt h (by omega)), Nat.min_eq_right (by omega)]
    · rw [if_neg (nI_nlt (by omega) (by omega)), Nat.min_eq_left (by omega)]
  refine Ct.ofG mx_L_copyRow [some (.ref p), some (.ref q)] rfl rfl (Nat.le_of_ble_eq_true rfl) (fun κ C hQ => ?_)
  refine u_aload_n (pc := 0) C d_L_copyRow_0 rfl ?_
  refine u_iconst (pc := 1) (v := 0) C d_L_copyRow_1 (by decide) ?_
  refine u_aload_n (pc := 2) C d_L_copyRow_2 rfl ?_
  refine u_iconst (pc := 3) (v := 0) C d_L_copyRow_3 (by decide) ?_
  refine u_aload_n (pc := 4) C d_L_copyRow_4 rfl ?_
  refine u_alen (pc := 5) C d_L_copyRow_5 hp rfl rfl ?_
  refine u_aload_n (pc := 6) C d_L_copyRow_6 rfl ?_
  refine u_alen (pc := 7) C d_L_copyRow_7 hq rfl rfl ?_
  refine u_mmin (pc := 8) C d_L_copyRow_8 mm_L_314 mm_min_s mm_i mm_min_c (Nat.le_of_ble_eq_true rfl) (by decide) ?_
  refine u_copy (pc := 11) C d_L_copyRow_11 ma_L_319 ma_n ma_s ma_i hp hq ?_ ?_ ?_ (by decide) ?_
  · rw [hm]; exact nI_pos (by omega)
  · rw [hm, nI_clamp (by omega)]; exact Nat.min_le_left _ _
  · rw [hm, nI_clamp (by omega)]; exact Nat.min_le_right _ _
  refine u_vret (pc := 14) C d_L_copyRow_14 (hQ _ _ ⟨rfl, ?_⟩)
  rw [hm, nI_clamp (by omega)]
