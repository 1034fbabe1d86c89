/-! the reference: the oldest of some, its layers -/
def amin (lt : Nat → Nat → Bool) (P : Nat → Bool) : Nat → Option Nat
  | 0 => none
  | i + 1 => match amin lt P i with
    | none => if P i = true then some i else none
    | some b => if P i = true ∧ lt i b = true then some i else some b
def oI : Option Nat → Int32
  | none => -1
  | some c => nI c
theorem amin_0 {lt : Nat → Nat → Bool} {P : Nat → Bool} : oI (amin lt P 0) = -1 := rfl
theorem amin_no {lt : Nat → Nat → Bool} {P : Nat → Bool} {i : Nat} (h : ¬ P i = true) : amin lt P (i + 1) = amin lt P i := by
  rw [amin]
  cases amin lt P i with
  | none => simp only []; rw [if_neg h]
  | some b => simp only []; rw [if_neg (fun q => h q.1)]
theorem amin_lt {lt : Nat → Nat → Bool} {P : Nat → Bool} : ∀ {i b : Nat}, amin lt P i = some b → b < i ∧ P b = true := by
  intro i
  induction i with
  | zero => intro b h; cases h
  | succ i ih =>
    intro b h
    rw [amin] at h
    cases ha : amin lt P i with
    | none =>
      rw [ha] at h
      simp only [] at h
      by_cases hp : P i = true
      · rw [if_pos hp] at h; cases h; exact ⟨by omega, hp⟩
      · rw [if_neg hp] at h; cases h
    | some d =>
      rw [ha] at h
      simp only [] at h
      by_cases hp : P i = true ∧ lt i d = true
      · rw [if_pos hp] at h; cases h; exact ⟨by omega, hp.1⟩
      · rw [if_neg hp] at h; cases h
        have := ih ha
        exact ⟨by omega, this.2⟩
theorem amin_new {lt : Nat → Nat → Bool} {P : Nat → Bool} {i : Nat} (h : P i = true) (hn : amin lt P i = none) : amin lt P (i + 1) = some i := by
  rw [amin, hn]; simp only []; rw [if_pos h]
theorem amin_less {lt : Nat → Nat → Bool} {P : Nat → Bool} {i b : Nat} (h : P i = true) (hn : amin lt P i = some b) (hl : lt i b = true) : amin lt P (i + 1) = some i := by
  rw [amin, hn]; simp only []; rw [if_pos ⟨h, hl⟩]
theorem amin_more {lt : Nat → Nat → Bool} {P : Nat → Bool} {i b : Nat} (hn : amin lt P i = some b) (hl : ¬ lt i b = true) : amin lt P (i + 1) = some b := by
  rw [amin, hn]; simp only []; rw [if_neg (fun q => hl q.2)]
theorem oI_neg {q : Option Nat} : oI q < 0 ↔ q = none ∨ ∃ c, q = some c ∧ nI c < 0 := by
  cases q with
  | none => exact ⟨fun _ => Or.inl rfl, fun _ => (by decide : (-1 : Int32) < 0)⟩
  | some c => exact ⟨fun h => Or.inr ⟨c, rfl, h⟩, fun h => by
      rcases h with h | ⟨d, h, h2⟩
      · cases h
      · cases h; exact h2⟩
theorem oI_none {q : Option Nat} (hb : ∀ c, q = some c → c < 2 ^ 31) (h : oI q < 0) : q = none := by
  rcases oI_neg.mp h with h | ⟨c, h, h2⟩
  · exact h
  · exact absurd h2 (nI_pos (hb c h))
theorem oI_some {q : Option Nat} (h : ¬ oI q < 0) : ∃ c, q = some c := by
  cases q with
  | none => exact absurd (by decide : (-1 : Int32) < 0) h
  | some c => exact ⟨c, rfl⟩
theorem amin_l {lt : Nat → Nat → Bool} {P Q : Nat → Bool} {n : Nat} {l : List Nat} (tr : ∀ a b c, lt a b = true → lt b c = true → lt a c = true) (ir : ∀ a, ¬ lt a a = true)
    (hs : l.Pairwise (fun a b => lt a b = true)) (hb : ∀ c, c ∈ l → c < n) (hP : ∀ c, c < n → P c = true → c ∈ l) (hPQ : ∀ c, c ∈ l → (P c = true ↔ Q c = true)) : amin lt P n = l.find? Q := by
  have spec : ∀ n, (amin lt P n = none → ∀ c, c < n → ¬ P c = true) ∧ ∀ b, amin lt P n = some b → ∀ c, c < n → P c = true → ¬ lt c b = true := by
    intro n
    induction n with
    | zero => exact ⟨fun _ c hc => absurd hc (Nat.not_lt_zero c), fun _ h => by cases h⟩
    | succ i ih =>
      obtain ⟨ih1, ih2⟩ := ih
      cases ha : amin lt P i with
      | none =>
        by_cases hp : P i = true
        · rw [amin_new hp ha]
          refine ⟨fun h => (by cases h), fun b h c hc hc2 => ?_⟩
          cases h
          by_cases e : c = i
          · subst e; exact ir c
          · exact absurd hc2 (ih1 ha c (by omega))
        · rw [amin_no hp, ha]
          refine ⟨fun _ c hc => ?_, fun b h => by cases h⟩
          by_cases e : c = i
          · subst e; exact hp
          · exact ih1 ha c (by omega)
      | some d =>
        by_cases hp : P i = true
        · by_cases hl : lt i d = true
          · rw [amin_less hp ha hl]
            refine ⟨fun h => (by cases h), fun b h c hc hc2 => ?_⟩
            cases h
            by_cases e : c = i
            · subst e; exact ir c
            · exact fun z => ih2 d ha c (by omega) hc2 (tr _ _ _ z hl)
          · rw [amin_more ha hl]
            refine ⟨fun h => (by cases h), fun b h c hc hc2 => ?_⟩
            cases h
            by_cases e : c = i
            · subst e; exact hl
            · exact ih2 _ ha c (by omega) hc2
        · rw [amin_no hp, ha]
          refine ⟨fun h => (by cases h), fun b h c hc hc2 => ?_⟩
          cases h
          by_cases e : c = i
          · subst e; exact absurd hc2 hp
          · exact ih2 _ ha c (by omega) hc2
  obtain ⟨s1, s2⟩ := spec n
  cases hf : l.find? Q with
  | none =>
    have h1 := List.find?_eq_none.mp hf
    cases ha : amin lt P n with
    | none => rfl
    | some b =>
      have h2 := amin_lt ha
      have h3 := hP b h2.1 h2.2
      exact absurd ((hPQ b h3).mp h2.2) (h1 b h3)
  | some b =>
    obtain ⟨hq, as, bs, hl, has⟩ := List.find?_eq_some_iff_append.mp hf
    have hbl : b ∈ l := by rw [hl]; simp
    have hPb := (hPQ b hbl).mpr hq
    cases ha : amin lt P n with
    | none => exact absurd hPb (s1 ha b (hb b hbl))
    | some d =>
      have h2 := amin_lt ha
      have h3 := hP d h2.1 h2.2
      have h4 := s2 d ha b (hb b hbl) hPb
      congr 1
      rcases Classical.em (d = b) with e | e
      · exact e
      · have hs2 := hs
        rw [hl] at h3 hs2
        rcases List.mem_append.mp h3 with q | q
        · have h5 := has d q
          have h6 := (hPQ d (by rw [hl]; exact List.mem_append_left _ q)).mp h2.2
          rw [h6] at h5
          exact absurd h5 (by decide)
        · rcases List.mem_cons.mp q with q | q
          · exact absurd q e
          · exact absurd ((List.pairwise_cons.mp (List.pairwise_append.mp hs2).2.1).1 d q) h4
/-- older, by the row -/
def ltR (M : Mem) (a b : Nat) : Bool := decide (M.1 6 (95 + a) < M.1 6 (95 + b))
theorem ltR_tr {M : Mem} (a b c : Nat) (h1 : ltR M a b = true) (h2 : ltR M b c = true) : ltR M a c = true := by
  unfold ltR at *
  simp only [decide_eq_true_eq, Int32.lt_iff_toInt_lt] at *
  omega
theorem ltR_ir {M : Mem} (a : Nat) : ¬ ltR M a a = true := by
  unfold ltR
  simp only [decide_eq_true_eq, Int32.lt_iff_toInt_lt]
  omega
theorem RS.srt {M : Mem} {cd : Nat → Nat → Int32} {n : Nat} {g : Gm} {tb : List Nat} (h : RS M cd n g tb) : tb.Pairwise (fun a b => ltR M a b = true) := by
  refine List.Pairwise.imp_of_mem (fun {a b} ha hb q => ?_) h.1.2.1.2.2
  unfold ltR
  rw [decide_eq_true_eq, h.ag ha, h.ag hb]
  exact q
theorem RS.tbm {M : Mem} {cd : Nat → Nat → Int32} {n c : Nat} {g : Gm} {tb : List Nat} (h : RS M cd n g tb) : c ∈ tb ↔ c < n ∧ g 3 c = 3 := h.1.2.1.2.1 c
/-- a list of used cards: where its length lies, where it lies -/
def USr (M : Mem) (j p : Nat) (us : List Nat) : Prop := M.1 0 j = nI us.length ∧ (∀ i, i < us.length → M.1 p i = nI (us.getD i 0)) ∧ us.length ≤ 24 ∧ ∀ d, d ∈ us → d < 24
theorem USr.of {S : Nat → Nat → Prop} {M M' : Mem} {j p : Nat} {us : List Nat} (h : USr M j p us) (ho : OfR S M M') (h1 : ¬ S 0 j) (h2 : ∀ i, ¬ S p i) : USr M' j p us := by
  obtain ⟨a, b, c, d⟩ := h
  exact ⟨by rw [ho 0 j h1]; exact a, fun i hi => by rw [ho p i (h2 i)]; exact b i hi, c, d⟩
theorem USr.add {M : Mem} {j p c : Nat} {us : List Nat} (h : USr M j p us) (hp : p ≠ 0) (hl : us.length < 24) (hc : c < 24) : USr (up (up M 0 j (nI (us.length + 1))) p us.length (nI c)) j p (us ++ [c]) := by
  obtain ⟨a, b, e, d⟩ := h
  refine ⟨?_, fun i hi => ?_, by simp; omega, fun q hq => ?_⟩
  · rw [up_ne (fun z => hp z.symm)]
    simp [up]
  · by_cases e : i = us.length
    · subst e
      simp [up]
    · have hi2 : i < us.length := by simp at hi; omega
      rw [getD_app hi2, up_j e, up_ne hp]
      exact b i hi2
  · rcases List.mem_append.mp hq with z | z
    · exact d q z
    · rw [List.mem_singleton.mp z]; exact hc
set_option maxRecDepth 20000 in
theorem c_M_isLayer {cd : Nat → Nat → Int32} {n : Nat} {g : Gm} {tb : List Nat} {M : Mem} (hS : RS M cd n g tb) {c : Nat} (hc : c < 24) : Ct lyR y_M_isLayer b_M_isLayer 2 (some .boolean) 1 [.ref 0, .int (nI c)] M (Pi fun r M' => r = (if g 3 c = 3 ∧ isL cd c = true then 1 else 0) ∧ M' = M) := by
  have hw := hS.wh hc
  obtain ⟨k1, k2, k3, k4, k5⟩ := hS.cdc
  refine Ct.ofG mx_M_isLayer [some (.ref 0), some (.int (nI c))] rfl rfl (Nat.le_of_ble_eq_true rfl) (fun κ C hQ => ?_)
  refine u_aload_n (pc := 0) C d_M_isLayer_0 rfl ?_
  refine u_iload_n (pc := 1) C d_M_isLayer_1 rfl ?_
  refine u_iconst (pc := 2) (v := 3) C d_M_isLayer_2 (by decide) ?_
  refine u_callVi (pc := 3) C d_M_isLayer_3 mx_M_isAt mw_M_164 sR_0 rfl (c_M_isAt hc) rfl rfl (Nat.le_of_ble_eq_true rfl) (fun r3 M3 q3 => ?_)
  obtain ⟨e3, q3⟩ := q3
  have q3 := q3.symm
  subst q3
  refine u_if_eq (pc := 6) (tgt := 23) C d_M_isLayer_6 rfl (fun c6 => ?_) (fun c6 => ?_)
  · refine u_iconst (pc := 23) (v := 0) C d_M_isLayer_23 (by decide) ?_
    refine u_zret (pc := 24) C d_M_isLayer_24 (by decide) (hQ _ _ ⟨_, rfl, ?_⟩)
    rw [hw] at e3
    refine ⟨?_, rfl⟩
    rw [if_neg (fun z => absurd (e3.symm.trans c6) (by rw [if_pos z.1]; decide))]
  · refine u_aload_n (pc := 9) C d_M_isLayer_9 rfl ?_
    refine u_getr (pc := 10) (r := 1) C d_M_isLayer_10 fw_M_9 sR_0 rfl rfl ?_
    refine u_iload_n (pc := 13) C d_M_isLayer_13 rfl ?_
    refine u_iald (pc := 14) C d_M_isLayer_14 sR_1 (vp24 hc) ?_
    refine u_iconst (pc := 15) (v := 4) C d_M_isLayer_15 (by decide) ?_
    refine u_icmp_gt (pc := 16) (tgt := 23) C d_M_isLayer_16 rfl (fun c16 => ?_) (fun c16 => ?_)
    · refine u_iconst (pc := 23) (v := 0) C d_M_isLayer_23 (by decide) ?_
      refine u_zret (pc := 24) C d_M_isLayer_24 (by decide) (hQ _ _ ⟨_, rfl, ?_⟩)
      rw [hw] at e3
      rw [k1, nI_clamp (by omega)] at c16
      have h3 : g 3 c = 3 := by
        rcases Classical.em (g 3 c = 3) with q | q
        · exact q
        · exact absurd (e3.trans (if_neg q)) c6
      refine ⟨?_, rfl⟩
      unfold isL
      first
        | (rw [if_pos ⟨h3, decide_eq_true (Int32.not_lt.mp c16)⟩]; done)
        | (rw [if_neg (fun z => absurd (of_decide_eq_true z.2) (Int32.not_le.mpr c16))])
    · refine u_iconst (pc := 19) (v := 1) C d_M_isLayer_19 (by decide) ?_
      refine u_goto (pc := 20) (tgt := 24) C d_M_isLayer_20 rfl ?_
      refine u_zret (pc := 24) C d_M_isLayer_24 (by decide) (hQ _ _ ⟨_, rfl, ?_⟩)
      rw [hw] at e3
      rw [k1, nI_clamp (by omega)] at c16
      have h3 : g 3 c = 3 := by
        rcases Classical.em (g 3 c = 3) with q | q
        · exact q
        · exact absurd (e3.trans (if_neg q)) c6
      refine ⟨?_, rfl⟩
      unfold isL
      first
        | (rw [if_pos ⟨h3, decide_eq_true (Int32.not_lt.mp c16)⟩]; done)
        | (rw [if_neg (fun z => absurd (of_decide_eq_true z.2) (Int32.not_le.mpr c16))])
set_option maxRecDepth 20000 in
theorem c_M_hangs {cd : Nat → Nat → Int32} {n : Nat} {g : Gm} {tb : List Nat} {M : Mem} (hS : RS M cd n g tb) {c d : Nat} (hc : c < 24) (hd : d < 24) : Ct lyR y_M_hangs b_M_hangs 3 (some .boolean) 0 [.ref 0, .int (nI c), .int (nI d)] M (Pi fun r M' => r = (if hng cd c d = true then 1 else 0) ∧ M' = M) := by
  obtain ⟨k1, k2, k3, k4, k5⟩ := hS.cdc
  have ecd : nI c = nI d ↔ c = d := nI_eq (by omega) (by omega)
  refine Ct.ofG mx_M_hangs [some (.ref 0), some (.int (nI c)), some (.int (nI d))] rfl rfl (Nat.le_of_ble_eq_true rfl) (fun κ C hQ => ?_)
  refine u_iload_n (pc := 0) C d_M_hangs_0 rfl ?_
  refine u_iload_n (pc := 1) C d_M_hangs_1 rfl ?_
  refine u_icmp_eq (pc := 2) (tgt := 44) C d_M_hangs_2 rfl (fun c2 => ?_) (fun c2 => ?_)
  · refine u_iconst (pc := 44) (v := 0) C d_M_hangs_44 (by decide) ?_
    refine u_zret (pc := 45) C d_M_hangs_45 (by decide) (hQ _ _ ⟨_, rfl, ?_⟩)
    refine ⟨?_, rfl⟩
    simp only [k1, k3, k4, nI_clamp (show c < 2 ^ 31 by omega), nI_clamp (show d < 2 ^ 31 by omega), ecd] at *
    unfold hng
    simp [*]
  · refine u_aload_n (pc := 5) C d_M_hangs_5 rfl ?_
    refine u_getr (pc := 6) (r := 1) C d_M_hangs_6 fw_M_9 sR_0 rfl rfl ?_
    refine u_iload_n (pc := 9) C d_M_hangs_9 rfl ?_
    refine u_iald (pc := 10) C d_M_hangs_10 sR_1 (vp24 hc) ?_
    refine u_iconst (pc := 11) (v := 3) C d_M_hangs_11 (by decide) ?_
    refine u_icmp_eq (pc := 12) (tgt := 25) C d_M_hangs_12 rfl (fun c12 => ?_) (fun c12 => ?_)
    · refine u_aload_n (pc := 25) C d_M_hangs_25 rfl ?_
      refine u_getr (pc := 26) (r := 4) C d_M_hangs_26 fw_M_19 sR_0 rfl rfl ?_
      refine u_iload_n (pc := 29) C d_M_hangs_29 rfl ?_
      refine u_iald (pc := 30) C d_M_hangs_30 sR_4 (vp24 hc) ?_
      refine u_aload_n (pc := 31) C d_M_hangs_31 rfl ?_
      refine u_getr (pc := 32) (r := 3) C d_M_hangs_32 fw_M_16 sR_0 rfl rfl ?_
      refine u_iload_n (pc := 35) C d_M_hangs_35 rfl ?_
      refine u_iald (pc := 36) C d_M_hangs_36 sR_3 (vp24 hd) ?_
      refine u_icmp_ne (pc := 37) (tgt := 44) C d_M_hangs_37 rfl (fun c37 => ?_) (fun c37 => ?_)
      · refine u_iconst (pc := 44) (v := 0) C d_M_hangs_44 (by decide) ?_
        refine u_zret (pc := 45) C d_M_hangs_45 (by decide) (hQ _ _ ⟨_, rfl, ?_⟩)
        refine ⟨?_, rfl⟩
        simp only [k1, k3, k4, nI_clamp (show c < 2 ^ 31 by omega), nI_clamp (show d < 2 ^ 31 by omega), ecd] at *
        unfold hng
        simp [*]
      · refine u_iconst (pc := 40) (v := 1) C d_M_hangs_40 (by decide) ?_
        refine u_goto (pc := 41) (tgt := 45) C d_M_hangs_41 rfl ?_
        refine u_zret (pc := 45) C d_M_hangs_45 (by decide) (hQ _ _ ⟨_, rfl, ?_⟩)
        refine ⟨?_, rfl⟩
        simp only [k1, k3, k4, nI_clamp (show c < 2 ^ 31 by omega), nI_clamp (show d < 2 ^ 31 by omega), ecd] at *
        unfold hng
        simp [*]
    · refine u_aload_n (pc := 15) C d_M_hangs_15 rfl ?_
      refine u_getr (pc := 16) (r := 1) C d_M_hangs_16 fw_M_9 sR_0 rfl rfl ?_
      refine u_iload_n (pc := 19) C d_M_hangs_19 rfl ?_
      refine u_iald (pc := 20) C d_M_hangs_20 sR_1 (vp24 hc) ?_
      refine u_iconst (pc := 21) (v := 4) C d_M_hangs_21 (by decide) ?_
      refine u_icmp_ne (pc := 22) (tgt := 44) C d_M_hangs_22 rfl (fun c22 => ?_) (fun c22 => ?_)
      · refine u_iconst (pc := 44) (v := 0) C d_M_hangs_44 (by decide) ?_
        refine u_zret (pc := 45) C d_M_hangs_45 (by decide) (hQ _ _ ⟨_, rfl, ?_⟩)
        refine ⟨?_, rfl⟩
        simp only [k1, k3, k4, nI_clamp (show c < 2 ^ 31 by omega), nI_clamp (show d < 2 ^ 31 by omega), ecd] at *
        unfold hng
        simp [*]
      · refine u_aload_n (pc := 25) C d_M_hangs_25 rfl ?_
        refine u_getr (pc := 26) (r := 4) C d_M_hangs_26 fw_M_19 sR_0 rfl rfl ?_
        refine u_iload_n (pc := 29) C d_M_hangs_29 rfl ?_
        refine u_iald (pc := 30) C d_M_hangs_30 sR_4 (vp24 hc) ?_
        refine u_aload_n (pc := 31) C d_M_hangs_31 rfl ?_
        refine u_getr (pc := 32) (r := 3) C d_M_hangs_32 fw_M_16 sR_0 rfl rfl ?_
        refine u_iload_n (pc := 35) C d_M_hangs_35 rfl ?_
        refine u_iald (pc := 36) C d_M_hangs_36 sR_3 (vp24 hd) ?_
        refine u_icmp_ne (pc := 37) (tgt := 44) C d_M_hangs_37 rfl (fun c37 => ?_) (fun c37 => ?_)
        · refine u_iconst (pc := 44) (v := 0) C d_M_hangs_44 (by decide) ?_
          refine u_zret (pc := 45) C d_M_hangs_45 (by decide) (hQ _ _ ⟨_, rfl, ?_⟩)
          refine ⟨?_, rfl⟩
          simp only [k1, k3, k4, nI_clamp (show c < 2 ^ 31 by omega), nI_clamp (show d < 2 ^ 31 by omega), ecd] at *
          unfold hng
          simp [*]
        · refine u_iconst (pc := 40) (v := 1) C d_M_hangs_40 (by decide) ?_
          refine u_goto (pc := 41) (tgt := 45) C d_M_hangs_41 rfl ?_
          refine u_zret (pc := 45) C d_M_hangs_45 (by decide) (hQ _ _ ⟨_, rfl, ?_⟩)
          refine ⟨?_, rfl⟩
          simp only [k1, k3, k4, nI_clamp (show c < 2 ^ 31 by omega), nI_clamp (show d < 2 ^ 31 by omega), ecd] at *
          unfold hng
          simp [*]
set_option maxRecDepth 20000 in
theorem lp_isUsed {κ : KX} {us : List Nat} {c : Nat} {M : Mem} (hU : USr M 13 218 us) (hc : c < 24) (C : Cx κ lyR y_M_isUsed.cls b_M_isUsed 3 (some .boolean) 0) (hQ : ∀ v M', Pi (fun r M' => r = (if c ∈ us then 1 else 0) ∧ M' = M) v M' → KQ κ v M') : ∀ (f i : Nat), i ≤ us.length → us.length - i < f → (∀ j, j < i → us.getD j 0 ≠ c) → G κ lyR 2 [some (.ref 0), some (.int (nI c)), some (.int (nI i))] [] M := by
  intro f
  induction f with
  | zero => intro i _ h; omega
  | succ f ih =>
    intro i hi hf hno
    obtain ⟨u1, u2, u3, u4⟩ := hU
    have hin : nI us.length ≤ nI i ↔ us.length ≤ i := nI_leI (by omega) (by omega)
    refine u_iload_n (pc := 2) C d_M_isUsed_2 rfl ?_
    refine u_aload_n (pc := 3) C d_M_isUsed_3 rfl ?_
    refine u_geti (pc := 4) C d_M_isUsed_4 fw_M_171 sR_0 rfl ?_
    refine u_icmp_ge (pc := 7) (tgt := 28) C d_M_isUsed_7 rfl (fun c7 => ?_) (fun c7 => ?_)
    · refine u_iconst (pc := 28) (v := 0) C d_M_isUsed_28 (by decide) ?_
      refine u_zret (pc := 29) C d_M_isUsed_29 (by decide) (hQ _ _ ⟨_, rfl, ?_⟩)
      have hge : us.length ≤ i := by rw [u1, hin] at c7; exact c7
      refine ⟨?_, rfl⟩
      rw [if_neg]
      intro z
      obtain ⟨j, hj, e⟩ := List.mem_iff_getElem.mp z
      exact hno j (by omega) (by rw [getD_get hj]; exact e)
    · refine u_aload_n (pc := 10) C d_M_isUsed_10 rfl ?_
      refine u_getr (pc := 11) (r := 218) C d_M_isUsed_11 fw_M_46 sR_0 rfl rfl ?_
      refine u_iload_n (pc := 14) C d_M_isUsed_14 rfl ?_
      refine u_iald (pc := 15) C d_M_isUsed_15 sR_218 (vp_in_nI (show i < 24 by rw [u1, hin] at c7; omega) (by decide)) ?_
      refine u_iload_n (pc := 16) C d_M_isUsed_16 rfl ?_
      refine u_icmp_ne (pc := 17) (tgt := 22) C d_M_isUsed_17 rfl (fun c17 => ?_) (fun c17 => ?_)
      · refine u_iinc (pc := 22) (v2 := 1) C d_M_isUsed_22 rfl rfl (by decide) (fun x22 e22 L9 hL9 => ?_)
        obtain rfl : L9 = [some (.ref 0), some (.int (nI c)), some (.int x22)] := hL9.symm
        refine u_goto (pc := 25) (tgt := 2) C d_M_isUsed_25 rfl ?_
        obtain rfl : x22 = nI (i + 1) := by rw [e22, nI_succ]
        have hlt : i < us.length := by rw [u1, hin] at c7; omega
        rw [nI_clamp (by omega), u2 i hlt, nI_eq (by have := u4 _ (getD_mem hlt); omega) (by omega)] at c17
        exact ih (i + 1) (by omega) (by omega) (fun j hj => by
          by_cases e : j = i
          · subst e; exact c17
          · exact hno j (by omega))
      · refine u_iconst (pc := 20) (v := 1) C d_M_isUsed_20 (by decide) ?_
        refine u_zret (pc := 21) C d_M_isUsed_21 (by decide) (hQ _ _ ⟨_, rfl, ?_⟩)
        have hlt : i < us.length := by rw [u1, hin] at c7; omega
        rw [nI_clamp (by omega), u2 i hlt, nI_eq (by have := u4 _ (getD_mem hlt); omega) (by omega)] at c17
        exact ⟨by rw [if_pos (by rw [← c17]; exact getD_mem hlt)], rfl⟩
set_option maxRecDepth 20000 in
theorem c_M_isUsed {us : List Nat} {c : Nat} {M : Mem} (hU : USr M 13 218 us) (hc : c < 24) : Ct lyR y_M_isUsed b_M_isUsed 3 (some .boolean) 0 [.ref 0, .int (nI c)] M (Pi fun r M' => r = (if c ∈ us then 1 else 0) ∧ M' = M) := by
  refine Ct.ofG mx_M_isUsed [some (.ref 0), some (.int (nI c)), none] rfl rfl (Nat.le_of_ble_eq_true rfl) (fun κ C hQ => ?_)
  refine u_iconst (pc := 0) (v := 0) C d_M_isUsed_0 (by decide) ?_
  refine u_istore_n (pc := 1) C d_M_isUsed_1 rfl (fun x1 e1 L9 hL9 => ?_)
  obtain rfl : L9 = [some (.ref 0), some (.int (nI c)), some (.int x1)] := hL9.symm
  subst e1
  exact lp_isUsed hU hc C hQ (us.length + 1) 0 (by omega) (by omega) (fun j hj => absurd hj (Nat.not_lt_zero j))
set_option maxRecDepth 20000 in
theorem lp_wasUsed {κ : KX} {us : List Nat} {c : Nat} {M : Mem} (hU : USr M 15 219 us) (hc : c < 24) (C : Cx κ lyR y_M_wasUsed.cls b_M_wasUsed 3 (some .boolean) 0) (hQ : ∀ v M', Pi (fun r M' => r = (if c ∈ us then 1 else 0) ∧ M' = M) v M' → KQ κ v M') : ∀ (f i : Nat), i ≤ us.length → us.length - i < f → (∀ j, j < i → us.getD j 0 ≠ c) → G κ lyR 2 [some (.ref 0), some (.int (nI c)), some (.int (nI i))] [] M := by
  intro f
  induction f with
  | zero => intro i _ h; omega
  | succ f ih =>
    intro i hi hf hno
    obtain ⟨u1, u2, u3, u4⟩ := hU
    have hin : nI us.length ≤ nI i ↔ us.length ≤ i := nI_leI (by omega) (by omega)
    refine u_iload_n (pc := 2) C d_M_wasUsed_2 rfl ?_
    refine u_aload_n (pc := 3) C d_M_wasUsed_3 rfl ?_
    refine u_geti (pc := 4) C d_M_wasUsed_4 fw_M_208 sR_0 rfl ?_
    refine u_icmp_ge (pc := 7) (tgt := 28) C d_M_wasUsed_7 rfl (fun c7 => ?_) (fun c7 => ?_)
    · refine u_iconst (pc := 28) (v := 0) C d_M_wasUsed_28 (by decide) ?_
      refine u_zret (pc := 29) C d_M_wasUsed_29 (by decide) (hQ _ _ ⟨_, rfl, ?_⟩)
      have hge : us.length ≤ i := by rw [u1, hin] at c7; exact c7
      refine ⟨?_, rfl⟩
      rw [if_neg]
      intro z
      obtain ⟨j, hj, e⟩ := List.mem_iff_getElem.mp z
      exact hno j (by omega) (by rw [getD_get hj]; exact e)
    · refine u_aload_n (pc := 10) C d_M_wasUsed_10 rfl ?_
      refine u_getr (pc := 11) (r := 219) C d_M_wasUsed_11 fw_M_49 sR_0 rfl rfl ?_
      refine u_iload_n (pc := 14) C d_M_wasUsed_14 rfl ?_
      refine u_iald (pc := 15) C d_M_wasUsed_15 sR_219 (vp_in_nI (show i < 24 by rw [u1, hin] at c7; omega) (by decide)) ?_
      refine u_iload_n (pc := 16) C d_M_wasUsed_16 rfl ?_
      refine u_icmp_ne (pc := 17) (tgt := 22) C d_M_wasUsed_17 rfl (fun c17 => ?_) (fun c17 => ?_)
      · refine u_iinc (pc := 22) (v2 := 1) C d_M_wasUsed_22 rfl rfl (by decide) (fun x22 e22 L9 hL9 => ?_)
        obtain rfl : L9 = [some (.ref 0), some (.int (nI c)), some (.int x22)] := hL9.symm
        refine u_goto (pc := 25) (tgt := 2) C d_M_wasUsed_25 rfl ?_
        obtain rfl : x22 = nI (i + 1) := by rw [e22, nI_succ]
        have hlt : i < us.length := by rw [u1, hin] at c7; omega
        rw [nI_clamp (by omega), u2 i hlt, nI_eq (by have := u4 _ (getD_mem hlt); omega) (by omega)] at c17
        exact ih (i + 1) (by omega) (by omega) (fun j hj => by
          by_cases e : j = i
          · subst e; exact c17
          · exact hno j (by omega))
      · refine u_iconst (pc := 20) (v := 1) C d_M_wasUsed_20 (by decide) ?_
        refine u_zret (pc := 21) C d_M_wasUsed_21 (by decide) (hQ _ _ ⟨_, rfl, ?_⟩)
        have hlt : i < us.length := by rw [u1, hin] at c7; omega
        rw [nI_clamp (by omega), u2 i hlt, nI_eq (by have := u4 _ (getD_mem hlt); omega) (by omega)] at c17
        exact ⟨by rw [if_pos (by rw [← c17]; exact getD_mem hlt)], rfl⟩
set_option maxRecDepth 20000 in
theorem c_M_wasUsed {us : List Nat} {c : Nat} {M : Mem} (hU : USr M 15 219 us) (hc : c < 24) : Ct lyR y_M_wasUsed b_M_wasUsed 3 (some .boolean) 0 [.ref 0, .int (nI c)] M (Pi fun r M' => r = (if c ∈ us then 1 else 0) ∧ M' = M) := by
  refine Ct.ofG mx_M_wasUsed [some (.ref 0), some (.int (nI c)), none] rfl rfl (Nat.le_of_ble_eq_true rfl) (fun κ C hQ => ?_)
  refine u_iconst (pc := 0) (v := 0) C d_M_wasUsed_0 (by decide) ?_
  refine u_istore_n (pc := 1) C d_M_wasUsed_1 rfl (fun x1 e1 L9 hL9 => ?_)
  obtain rfl : L9 = [some (.ref 0), some (.int (nI c)), some (.int x1)] := hL9.symm
  subst e1
  exact lp_wasUsed hU hc C hQ (us.length + 1) 0 (by omega) (by omega) (fun j hj => absurd hj (Nat.not_lt_zero j))
/-- the layers not used yet, as the reference finds them -/
theorem RS.opm {M : Mem} {cd : Nat → Nat → Int32} {n c : Nat} {g : Gm} {tb ord : List Nat} (h : RS M cd n g tb) : c ∈ unu (tb.filter (isL cd)) ord ↔ c < n ∧ (g 3 c = 3 ∧ isL cd c = true) ∧ c ∉ ord := by
  unfold unu
  rw [List.mem_filter, List.mem_filter, h.tbm]
  simp only [decide_eq_true_eq]
  exact ⟨fun q => ⟨q.1.1.1, ⟨q.1.1.2, q.1.2⟩, q.2⟩, fun q => ⟨⟨⟨q.1, q.2.1.1⟩, q.2.1.2⟩, q.2.2⟩⟩
theorem one_of {p : Prop} {hd9 : Decidable p} {r : Int32} (e : r = if p then 1 else 0) (h : ¬ r = 0) : p := by
  rcases Classical.em p with q | q
  · exact q
  · exact absurd (e.trans (if_neg q)) h
theorem zero_of {p : Prop} {hd9 : Decidable p} {r : Int32} (e : r = if p then 1 else 0) (h : r = 0) : ¬ p := by
  intro q
  rw [if_pos q] at e
  rw [e] at h
  exact absurd h (by decide)
set_option maxRecDepth 20000 in
theorem lp_isFree {κ : KX} {cd : Nat → Nat → Int32} {n : Nat} {g : Gm} {tb : List Nat} {M : Mem} (hS : RS M cd n g tb) {c : Nat} {ord : List Nat} (hU : USr M 13 218 ord) (hc : c < 24) (C : Cx κ lyR y_M_isFree.cls b_M_isFree 3 (some .boolean) 2) (hQ : ∀ v M', Pi (fun r M' => r = (if fre cd (unu (tb.filter (isL cd)) ord) c = true then 1 else 0) ∧ M' = M) v M' → KQ κ v M') : ∀ (f i : Nat), i ≤ n → n - i < f → (∀ j, j < i → ¬ (j ∈ unu (tb.filter (isL cd)) ord ∧ hng cd c j = true)) → G κ lyR 2 [some (.ref 0), some (.int (nI c)), some (.int (nI i))] [] M := by
  intro f
  induction f with
  | zero => intro i _ h; omega
  | succ f ih =>
    intro i hi hf hno
    have n24 := hS.n24
    have h5 := hS.2.2.1
    have hin : nI n ≤ nI i ↔ n ≤ i := nI_leI (by omega) (by omega)
    refine u_iload_n (pc := 2) C d_M_isFree_2 rfl ?_
    refine u_aload_n (pc := 3) C d_M_isFree_3 rfl ?_
    refine u_geti (pc := 4) C d_M_isFree_4 fw_M_70 sR_0 rfl ?_
    refine u_icmp_ge (pc := 7) (tgt := 43) C d_M_isFree_7 rfl (fun c7 => ?_) (fun c7 => ?_)
    · refine u_iconst (pc := 43) (v := 1) C d_M_isFree_43 (by decide) ?_
      refine u_zret (pc := 44) C d_M_isFree_44 (by decide) (hQ _ _ ⟨_, rfl, ?_⟩)
      have hge : n ≤ i := by rw [h5, hin] at c7; exact c7
      refine ⟨?_, rfl⟩
      rw [if_pos]
      unfold fre
      rw [Bool.not_eq_true', List.any_eq_false]
      intro j hj hz
      exact hno j (by have := (hS.opm.mp hj).1; omega) ⟨hj, hz⟩
    · have hlt : i < n := by rw [h5, hin] at c7; omega
      have hi24 : i < 24 := by omega
      refine u_aload_n (pc := 10) C d_M_isFree_10 rfl ?_
      refine u_iload_n (pc := 11) C d_M_isFree_11 rfl ?_
      refine u_callVi (pc := 12) C d_M_isFree_12 mx_M_isLayer mw_M_174 sR_0 rfl (c_M_isLayer hS hi24) rfl rfl (Nat.le_of_ble_eq_true rfl) (fun r12 M12 q12 => ?_)
      obtain ⟨e12, q12⟩ := q12
      have q12 := q12.symm
      subst q12
      refine u_if_eq (pc := 15) (tgt := 37) C d_M_isFree_15 rfl (fun c15 => ?_) (fun c15 => ?_)
      · refine u_iinc (pc := 37) (v2 := 1) C d_M_isFree_37 rfl rfl (by decide) (fun x37 e37 L9 hL9 => ?_)
        obtain rfl : L9 = [some (.ref 0), some (.int (nI c)), some (.int x37)] := hL9.symm
        refine u_goto (pc := 40) (tgt := 2) C d_M_isFree_40 rfl ?_
        obtain rfl : x37 = nI (i + 1) := by rw [e37, nI_succ]
        have hcur : ¬ (i ∈ unu (tb.filter (isL cd)) ord ∧ hng cd c i = true) := by
          rintro ⟨z1, z2⟩
          rw [hS.opm] at z1
          exact zero_of e12 c15 z1.2.1
        exact ih (i + 1) (by omega) (by omega) (fun j hj => by
          by_cases e : j = i
          · subst e; exact hcur
          · exact hno j (by omega))
      · refine u_aload_n (pc := 18) C d_M_isFree_18 rfl ?_
        refine u_iload_n (pc := 19) C d_M_isFree_19 rfl ?_
        refine u_callVi (pc := 20) C d_M_isFree_20 mx_M_isUsed mw_M_177 sR_0 rfl (c_M_isUsed hU hi24) rfl rfl (Nat.le_of_ble_eq_true rfl) (fun r20 M20 q20 => ?_)
        obtain ⟨e20, q20⟩ := q20
        have q20 := q20.symm
        subst q20
        refine u_if_ne (pc := 23) (tgt := 37) C d_M_isFree_23 rfl (fun c23 => ?_) (fun c23 => ?_)
        · refine u_iinc (pc := 37) (v2 := 1) C d_M_isFree_37 rfl rfl (by decide) (fun x37 e37 L9 hL9 => ?_)
          obtain rfl : L9 = [some (.ref 0), some (.int (nI c)), some (.int x37)] := hL9.symm
          refine u_goto (pc := 40) (tgt := 2) C d_M_isFree_40 rfl ?_
          obtain rfl : x37 = nI (i + 1) := by rw [e37, nI_succ]
          have hcur : ¬ (i ∈ unu (tb.filter (isL cd)) ord ∧ hng cd c i = true) := by
            rintro ⟨z1, z2⟩
            rw [hS.opm] at z1
            exact z1.2.2 (one_of e20 c23)
          exact ih (i + 1) (by omega) (by omega) (fun j hj => by
            by_cases e : j = i
            · subst e; exact hcur
            · exact hno j (by omega))
        · refine u_aload_n (pc := 26) C d_M_isFree_26 rfl ?_
          refine u_iload_n (pc := 27) C d_M_isFree_27 rfl ?_
          refine u_iload_n (pc := 28) C d_M_isFree_28 rfl ?_
          refine u_callVi (pc := 29) C d_M_isFree_29 mx_M_hangs mw_M_180 sR_0 rfl (c_M_hangs hS hc hi24) rfl rfl (Nat.le_of_ble_eq_true rfl) (fun r29 M29 q29 => ?_)
          obtain ⟨e29, q29⟩ := q29
          have q29 := q29.symm
          subst q29
          refine u_if_eq (pc := 32) (tgt := 37) C d_M_isFree_32 rfl (fun c32 => ?_) (fun c32 => ?_)
          · refine u_iinc (pc := 37) (v2 := 1) C d_M_isFree_37 rfl rfl (by decide) (fun x37 e37 L9 hL9 => ?_)
            obtain rfl : L9 = [some (.ref 0), some (.int (nI c)), some (.int x37)] := hL9.symm
            refine u_goto (pc := 40) (tgt := 2) C d_M_isFree_40 rfl ?_
            obtain rfl : x37 = nI (i + 1) := by rw [e37, nI_succ]
            have hcur : ¬ (i ∈ unu (tb.filter (isL cd)) ord ∧ hng cd c i = true) := by
              rintro ⟨z1, z2⟩
              rw [hS.opm] at z1
              exact zero_of e29 c32 z2
            exact ih (i + 1) (by omega) (by omega) (fun j hj => by
              by_cases e : j = i
              · subst e; exact hcur
              · exact hno j (by omega))
          · refine u_iconst (pc := 35) (v := 0) C d_M_isFree_35 (by decide) ?_
            refine u_zret (pc := 36) C d_M_isFree_36 (by decide) (hQ _ _ ⟨_, rfl, ?_⟩)
            have z1 := one_of e12 c15
            have z2 := zero_of e20 c23
            have z3 := one_of e29 c32
            refine ⟨?_, rfl⟩
            rw [if_neg]
            unfold fre
            intro z
            rw [Bool.not_eq_true', List.any_eq_false] at z
            exact z i (hS.opm.mpr ⟨hlt, z1, z2⟩) z3
set_option maxRecDepth 20000 in
theorem c_M_isFree {cd : Nat → Nat → Int32} {n : Nat} {g : Gm} {tb : List Nat} {M : Mem} (hS : RS M cd n g tb) {c : Nat} {ord : List Nat} (hU : USr M 13 218 ord) (hc : c < 24) : Ct lyR y_M_isFree b_M_isFree 3 (some .boolean) 2 [.ref 0, .int (nI c)] M (Pi fun r M' => r = (if fre cd (unu (tb.filter (isL cd)) ord) c = true then 1 else 0) ∧ M' = M) := by
  refine Ct.ofG mx_M_isFree [some (.ref 0), some (.int (nI c)), none] rfl rfl (Nat.le_of_ble_eq_true rfl) (fun κ C hQ => ?_)
  refine u_iconst (pc := 0) (v := 0) C d_M_isFree_0 (by decide) ?_
  refine u_istore_n (pc := 1) C d_M_isFree_1 rfl (fun x1 e1 L9 hL9 => ?_)
  obtain rfl : L9 = [some (.ref 0), some (.int (nI c)), some (.int x1)] := hL9.symm
  subst e1
  exact lp_isFree hS hU hc C hQ (n + 1) 0 (by omega) (by omega) (fun j hj => absurd hj (Nat.not_lt_zero j))
def plN (cd : Nat → Nat → Int32) (op : List Nat) (fr : Int32) (c : Nat) : Bool := decide (c ∈ op) && (decide (fr = 0) || fre cd op c)
set_option maxRecDepth 20000 in
theorem lp_nextLayer {κ : KX} {cd : Nat → Nat → Int32} {n : Nat} {g : Gm} {tb : List Nat} {M : Mem} (hS : RS M cd n g tb) {ord : List Nat} {fr : Int32} (hU : USr M 13 218 ord) (C : Cx κ lyR y_M_nextLayer.cls b_M_nextLayer 4 (some .int) 3) (hQ : ∀ v M', Pi (fun r M' => r = oI ((unu (tb.filter (isL cd)) ord).find? (fun c => decide (fr = 0) || fre cd (unu (tb.filter (isL cd)) ord) c)) ∧ M' = M) v M' → KQ κ v M') : ∀ (f i : Nat) (x2 : Int32), i ≤ n → n - i < f → x2 = oI (amin (ltR M) (plN cd (unu (tb.filter (isL cd)) ord) fr) i) → G κ lyR 4 [some (.ref 0), some (.int fr), some (.int x2), some (.int (nI i))] [] M := by
  intro f
  induction f with
  | zero => intro i x2 _ h; omega
  | succ f ih =>
    intro i x2 hi hf e2
    have n24 := hS.n24
    have h5 := hS.2.2.1
    have hin : nI n ≤ nI i ↔ n ≤ i := nI_leI (by omega) (by omega)
    have hbd : ∀ b, amin (ltR M) (plN cd (unu (tb.filter (isL cd)) ord) fr) i = some b → b < 24 := fun b hb => by have := (amin_lt hb).1; omega
    refine u_iload_n (pc := 4) C d_M_nextLayer_4 rfl ?_
    refine u_aload_n (pc := 5) C d_M_nextLayer_5 rfl ?_
    refine u_geti (pc := 6) C d_M_nextLayer_6 fw_M_70 sR_0 rfl ?_
    refine u_icmp_ge (pc := 9) (tgt := 73) C d_M_nextLayer_9 rfl (fun c9 => ?_) (fun c9 => ?_)
    · refine u_iload_n (pc := 73) C d_M_nextLayer_73 rfl ?_
      refine u_iret (pc := 74) C d_M_nextLayer_74 (hQ _ _ ⟨_, rfl, ?_⟩)
      have hge : i = n := by rw [h5, hin] at c9; omega
      subst hge
      refine ⟨?_, rfl⟩
      rw [e2]
      congr 1
      refine amin_l ltR_tr ltR_ir ((hS.srt.filter _).filter _) (fun c hc => (hS.opm.mp hc).1) (fun c _ hp => ?_) (fun c hc => ?_)
      · unfold plN at hp
        rw [Bool.and_eq_true, decide_eq_true_eq] at hp
        exact hp.1
      · unfold plN
        rw [Bool.and_eq_true, decide_eq_true_eq]
        exact ⟨fun q => q.2, fun q => ⟨hc, q⟩⟩
    · have hlt : i < n := by rw [h5, hin] at c9; omega
      have hi24 : i < 24 := by omega
      refine u_aload_n (pc := 12) C d_M_nextLayer_12 rfl ?_
      refine u_iload_n (pc := 13) C d_M_nextLayer_13 rfl ?_
      refine u_callVi (pc := 14) C d_M_nextLayer_14 mx_M_isLayer mw_M_174 sR_0 rfl (c_M_isLayer hS hi24) rfl rfl (Nat.le_of_ble_eq_true rfl) (fun r14 M14 q14 => ?_)
      obtain ⟨e14, q14⟩ := q14
      have q14 := q14.symm
      subst q14
      refine u_if_eq (pc := 17) (tgt := 67) C d_M_nextLayer_17 rfl (fun c17 => ?_) (fun c17 => ?_)
      · refine u_iinc (pc := 67) (v2 := 1) C d_M_nextLayer_67 rfl rfl (by decide) (fun x67 e67 L9 hL9 => ?_)
        obtain rfl : L9 = [some (.ref 0), some (.int fr), some (.int x2), some (.int x67)] := hL9.symm
        refine u_goto (pc := 70) (tgt := 4) C d_M_nextLayer_70 rfl ?_
        obtain rfl : x67 = nI (i + 1) := by rw [e67, nI_succ]
        have hP : ¬ plN cd (unu (tb.filter (isL cd)) ord) fr i = true := by
          unfold plN
          rw [Bool.and_eq_true, decide_eq_true_eq]
          rintro ⟨z1, z2⟩
          rw [hS.opm] at z1
          exact zero_of e14 c17 z1.2.1
        exact ih (i + 1) _ (by omega) (by omega) (by rw [e2, amin_no hP])
      · refine u_aload_n (pc := 20) C d_M_nextLayer_20 rfl ?_
        refine u_iload_n (pc := 21) C d_M_nextLayer_21 rfl ?_
        refine u_callVi (pc := 22) C d_M_nextLayer_22 mx_M_isUsed mw_M_177 sR_0 rfl (c_M_isUsed hU hi24) rfl rfl (Nat.le_of_ble_eq_true rfl) (fun r22 M22 q22 => ?_)
        obtain ⟨e22, q22⟩ := q22
        have q22 := q22.symm
        subst q22
        refine u_if_ne (pc := 25) (tgt := 67) C d_M_nextLayer_25 rfl (fun c25 => ?_) (fun c25 => ?_)
        · refine u_iinc (pc := 67) (v2 := 1) C d_M_nextLayer_67 rfl rfl (by decide) (fun x67 e67 L9 hL9 => ?_)
          obtain rfl : L9 = [some (.ref 0), some (.int fr), some (.int x2), some (.int x67)] := hL9.symm
          refine u_goto (pc := 70) (tgt := 4) C d_M_nextLayer_70 rfl ?_
          obtain rfl : x67 = nI (i + 1) := by rw [e67, nI_succ]
          have hP : ¬ plN cd (unu (tb.filter (isL cd)) ord) fr i = true := by
            unfold plN
            rw [Bool.and_eq_true, decide_eq_true_eq]
            rintro ⟨z1, z2⟩
            rw [hS.opm] at z1
            exact z1.2.2 (one_of e22 c25)
          exact ih (i + 1) _ (by omega) (by omega) (by rw [e2, amin_no hP])
        · refine u_iload_n (pc := 28) C d_M_nextLayer_28 rfl ?_
          refine u_if_eq (pc := 29) (tgt := 40) C d_M_nextLayer_29 rfl (fun c29 => ?_) (fun c29 => ?_)
          · refine u_iload_n (pc := 40) C d_M_nextLayer_40 rfl ?_
            refine u_if_lt (pc := 41) (tgt := 65) C d_M_nextLayer_41 rfl (fun c41 => ?_) (fun c41 => ?_)
            · refine u_iload_n (pc := 65) C d_M_nextLayer_65 rfl ?_
              refine u_istore_n (pc := 66) C d_M_nextLayer_66 rfl (fun x66 e66 L9 hL9 => ?_)
              obtain rfl : L9 = [some (.ref 0), some (.int fr), some (.int x66), some (.int (nI i))] := hL9.symm
              refine u_iinc (pc := 67) (v2 := 1) C d_M_nextLayer_67 rfl rfl (by decide) (fun x67 e67 L9 hL9 => ?_)
              obtain rfl : L9 = [some (.ref 0), some (.int fr), some (.int x66), some (.int x67)] := hL9.symm
              refine u_goto (pc := 70) (tgt := 4) C d_M_nextLayer_70 rfl ?_
              obtain rfl : x67 = nI (i + 1) := by rw [e67, nI_succ]
              have hP : plN cd (unu (tb.filter (isL cd)) ord) fr i = true := by
                unfold plN
                rw [Bool.and_eq_true, decide_eq_true_eq, hS.opm, Bool.or_eq_true, decide_eq_true_eq]
                exact ⟨⟨hlt, one_of e14 c17, zero_of e22 c25⟩, Or.inl c29⟩
              have hn9 := oI_none (fun c hc => by have := hbd c hc; omega) (by rw [← e2]; exact c41)
              exact ih (i + 1) _ (by omega) (by omega) (by rw [e66, amin_new hP hn9]; rfl)
            · have hb := oI_some (by rw [← e2]; exact c41)
              obtain ⟨b, hb⟩ := hb
              have hb24 := hbd b hb
              have e2' : x2 = nI b := by rw [e2, hb]; rfl
              subst e2' 
              refine u_aload_n (pc := 44) C d_M_nextLayer_44 rfl ?_
              refine u_getr (pc := 45) (r := 6) C d_M_nextLayer_45 fw_M_25 sR_0 rfl rfl ?_
              refine u_bipush (pc := 48) (v := 95) C d_M_nextLayer_48 (by decide) ?_
              refine u_iload_n (pc := 50) C d_M_nextLayer_50 rfl ?_
              refine u_iadd (pc := 51) C d_M_nextLayer_51 ?_
              refine u_iald (pc := 52) C d_M_nextLayer_52 sR_6 (vp95 hi24) ?_
              refine u_aload_n (pc := 53) C d_M_nextLayer_53 rfl ?_
              refine u_getr (pc := 54) (r := 6) C d_M_nextLayer_54 fw_M_25 sR_0 rfl rfl ?_
              refine u_bipush (pc := 57) (v := 95) C d_M_nextLayer_57 (by decide) ?_
              refine u_iload_n (pc := 59) C d_M_nextLayer_59 rfl ?_
              refine u_iadd (pc := 60) C d_M_nextLayer_60 ?_
              refine u_iald (pc := 61) C d_M_nextLayer_61 sR_6 (vp95 hb24) ?_
              refine u_icmp_ge (pc := 62) (tgt := 67) C d_M_nextLayer_62 rfl (fun c62 => ?_) (fun c62 => ?_)
              · refine u_iinc (pc := 67) (v2 := 1) C d_M_nextLayer_67 rfl rfl (by decide) (fun x67 e67 L9 hL9 => ?_)
                obtain rfl : L9 = [some (.ref 0), some (.int fr), some (.int (nI b)), some (.int x67)] := hL9.symm
                refine u_goto (pc := 70) (tgt := 4) C d_M_nextLayer_70 rfl ?_
                obtain rfl : x67 = nI (i + 1) := by rw [e67, nI_succ]
                have hP : plN cd (unu (tb.filter (isL cd)) ord) fr i = true := by
                  unfold plN
                  rw [Bool.and_eq_true, decide_eq_true_eq, hS.opm, Bool.or_eq_true, decide_eq_true_eq]
                  exact ⟨⟨hlt, one_of e14 c17, zero_of e22 c25⟩, Or.inl c29⟩
                rw [ix95 hi24, ix95 hb24] at c62
                exact ih (i + 1) _ (by omega) (by omega) (by rw [amin_more hb (by unfold ltR; rw [decide_eq_true_eq]; exact Int32.not_lt.mpr c62)]; rfl)
              · refine u_iload_n (pc := 65) C d_M_nextLayer_65 rfl ?_
                refine u_istore_n (pc := 66) C d_M_nextLayer_66 rfl (fun x66 e66 L9 hL9 => ?_)
                obtain rfl : L9 = [some (.ref 0), some (.int fr), some (.int x66), some (.int (nI i))] := hL9.symm
                refine u_iinc (pc := 67) (v2 := 1) C d_M_nextLayer_67 rfl rfl (by decide) (fun x67 e67 L9 hL9 => ?_)
                obtain rfl : L9 = [some (.ref 0), some (.int fr), some (.int x66), some (.int x67)] := hL9.symm
                refine u_goto (pc := 70) (tgt := 4) C d_M_nextLayer_70 rfl ?_
                obtain rfl : x67 = nI (i + 1) := by rw [e67, nI_succ]
                have hP : plN cd (unu (tb.filter (isL cd)) ord) fr i = true := by
                  unfold plN
                  rw [Bool.and_eq_true, decide_eq_true_eq, hS.opm, Bool.or_eq_true, decide_eq_true_eq]
                  exact ⟨⟨hlt, one_of e14 c17, zero_of e22 c25⟩, Or.inl c29⟩
                rw [ix95 hi24, ix95 hb24] at c62
                exact ih (i + 1) _ (by omega) (by omega) (by rw [e66, amin_less hP hb (by unfold ltR; rw [decide_eq_true_eq]; exact Int32.not_le.mp c62)]; rfl)
          · refine u_aload_n (pc := 32) C d_M_nextLayer_32 rfl ?_
            refine u_iload_n (pc := 33) C d_M_nextLayer_33 rfl ?_
            refine u_callVi (pc := 34) C d_M_nextLayer_34 mx_M_isFree mw_M_183 sR_0 rfl (c_M_isFree hS hU hi24) rfl rfl (Nat.le_of_ble_eq_true rfl) (fun r34 M34 q34 => ?_)
            obtain ⟨e34, q34⟩ := q34
            have q34 := q34.symm
            subst q34
            refine u_if_eq (pc := 37) (tgt := 67) C d_M_nextLayer_37 rfl (fun c37 => ?_) (fun c37 => ?_)
            · refine u_iinc (pc := 67) (v2 := 1) C d_M_nextLayer_67 rfl rfl (by decide) (fun x67 e67 L9 hL9 => ?_)
              obtain rfl : L9 = [some (.ref 0), some (.int fr), some (.int x2), some (.int x67)] := hL9.symm
              refine u_goto (pc := 70) (tgt := 4) C d_M_nextLayer_70 rfl ?_
              obtain rfl : x67 = nI (i + 1) := by rw [e67, nI_succ]
              have hP : ¬ plN cd (unu (tb.filter (isL cd)) ord) fr i = true := by
                unfold plN
                rw [Bool.and_eq_true, decide_eq_true_eq]
                rintro ⟨z1, z2⟩
                rw [hS.opm] at z1
                rw [Bool.or_eq_true, decide_eq_true_eq] at z2
                exact z2.elim c29 (zero_of e34 c37)
              exact ih (i + 1) _ (by omega) (by omega) (by rw [e2, amin_no hP])
            · refine u_iload_n (pc := 40) C d_M_nextLayer_40 rfl ?_
              refine u_if_lt (pc := 41) (tgt := 65) C d_M_nextLayer_41 rfl (fun c41 => ?_) (fun c41 => ?_)
              · refine u_iload_n (pc := 65) C d_M_nextLayer_65 rfl ?_
                refine u_istore_n (pc := 66) C d_M_nextLayer_66 rfl (fun x66 e66 L9 hL9 => ?_)
                obtain rfl : L9 = [some (.ref 0), some (.int fr), some (.int x66), some (.int (nI i))] := hL9.symm
                refine u_iinc (pc := 67) (v2 := 1) C d_M_nextLayer_67 rfl rfl (by decide) (fun x67 e67 L9 hL9 => ?_)
                obtain rfl : L9 = [some (.ref 0), some (.int fr), some (.int x66), some (.int x67)] := hL9.symm
                refine u_goto (pc := 70) (tgt := 4) C d_M_nextLayer_70 rfl ?_
                obtain rfl : x67 = nI (i + 1) := by rw [e67, nI_succ]
                have hP : plN cd (unu (tb.filter (isL cd)) ord) fr i = true := by
                  unfold plN
                  rw [Bool.and_eq_true, decide_eq_true_eq, hS.opm, Bool.or_eq_true, decide_eq_true_eq]
                  exact ⟨⟨hlt, one_of e14 c17, zero_of e22 c25⟩, Or.inr (one_of e34 c37)⟩
                have hn9 := oI_none (fun c hc => by have := hbd c hc; omega) (by rw [← e2]; exact c41)
                exact ih (i + 1) _ (by omega) (by omega) (by rw [e66, amin_new hP hn9]; rfl)
              · have hb := oI_some (by rw [← e2]; exact c41)
                obtain ⟨b, hb⟩ := hb
                have hb24 := hbd b hb
                have e2' : x2 = nI b := by rw [e2, hb]; rfl
                subst e2' 
                refine u_aload_n (pc := 44) C d_M_nextLayer_44 rfl ?_
                refine u_getr (pc := 45) (r := 6) C d_M_nextLayer_45 fw_M_25 sR_0 rfl rfl ?_
                refine u_bipush (pc := 48) (v := 95) C d_M_nextLayer_48 (by decide) ?_
                refine u_iload_n (pc := 50) C d_M_nextLayer_50 rfl ?_
                refine u_iadd (pc := 51) C d_M_nextLayer_51 ?_
                refine u_iald (pc := 52) C d_M_nextLayer_52 sR_6 (vp95 hi24) ?_
                refine u_aload_n (pc := 53) C d_M_nextLayer_53 rfl ?_
                refine u_getr (pc := 54) (r := 6) C d_M_nextLayer_54 fw_M_25 sR_0 rfl rfl ?_
                refine u_bipush (pc := 57) (v := 95) C d_M_nextLayer_57 (by decide) ?_
                refine u_iload_n (pc := 59) C d_M_nextLayer_59 rfl ?_
                refine u_iadd (pc := 60) C d_M_nextLayer_60 ?_
                refine u_iald (pc := 61) C d_M_nextLayer_61 sR_6 (vp95 hb24) ?_
                refine u_icmp_ge (pc := 62) (tgt := 67) C d_M_nextLayer_62 rfl (fun c62 => ?_) (fun c62 => ?_)
                · refine u_iinc (pc := 67) (v2 := 1) C d_M_nextLayer_67 rfl rfl (by decide) (fun x67 e67 L9 hL9 => ?_)
                  obtain rfl : L9 = [some (.ref 0), some (.int fr), some (.int (nI b)), some (.int x67)] := hL9.symm
                  refine u_goto (pc := 70) (tgt := 4) C d_M_nextLayer_70 rfl ?_
                  obtain rfl : x67 = nI (i + 1) := by rw [e67, nI_succ]
                  have hP : plN cd (unu (tb.filter (isL cd)) ord) fr i = true := by
                    unfold plN
                    rw [Bool.and_eq_true, decide_eq_true_eq, hS.opm, Bool.or_eq_true, decide_eq_true_eq]
                    exact ⟨⟨hlt, one_of e14 c17, zero_of e22 c25⟩, Or.inr (one_of e34 c37)⟩
                  rw [ix95 hi24, ix95 hb24] at c62
                  exact ih (i + 1) _ (by omega) (by omega) (by rw [amin_more hb (by unfold ltR; rw [decide_eq_true_eq]; exact Int32.not_lt.mpr c62)]; rfl)
                · refine u_iload_n (pc := 65) C d_M_nextLayer_65 rfl ?_
                  refine u_istore_n (pc := 66) C d_M_nextLayer_66 rfl (fun x66 e66 L9 hL9 => ?_)
                  obtain rfl : L9 = [some (.ref 0), some (.int fr), some (.int x66), some (.int (nI i))] := hL9.symm
                  refine u_iinc (pc := 67) (v2 := 1) C d_M_nextLayer_67 rfl rfl (by decide) (fun x67 e67 L9 hL9 => ?_)
                  obtain rfl : L9 = [some (.ref 0), some (.int fr), some (.int x66), some (.int x67)] := hL9.symm
                  refine u_goto (pc := 70) (tgt := 4) C d_M_nextLayer_70 rfl ?_
                  obtain rfl : x67 = nI (i + 1) := by rw [e67, nI_succ]
                  have hP : plN cd (unu (tb.filter (isL cd)) ord) fr i = true := by
                    unfold plN
                    rw [Bool.and_eq_true, decide_eq_true_eq, hS.opm, Bool.or_eq_true, decide_eq_true_eq]
                    exact ⟨⟨hlt, one_of e14 c17, zero_of e22 c25⟩, Or.inr (one_of e34 c37)⟩
                  rw [ix95 hi24, ix95 hb24] at c62
                  exact ih (i + 1) _ (by omega) (by omega) (by rw [e66, amin_less hP hb (by unfold ltR; rw [decide_eq_true_eq]; exact Int32.not_le.mp c62)]; rfl)
set_option maxRecDepth 20000 in
theorem c_M_nextLayer {cd : Nat → Nat → Int32} {n : Nat} {g : Gm} {tb : List Nat} {M : Mem} (hS : RS M cd n g tb) {ord : List Nat} {fr : Int32} (hU : USr M 13 218 ord) : Ct lyR y_M_nextLayer b_M_nextLayer 4 (some .int) 3 [.ref 0, .int fr] M (Pi fun r M' => r = oI ((unu (tb.filter (isL cd)) ord).find? (fun c => decide (fr = 0) || fre cd (unu (tb.filter (isL cd)) ord) c)) ∧ M' = M) := by
  refine Ct.ofG mx_M_nextLayer [some (.ref 0), some (.int fr), none, none] rfl rfl (Nat.le_of_ble_eq_true rfl) (fun κ C hQ => ?_)
  refine u_iconst (pc := 0) (v := (-1)) C d_M_nextLayer_0 (by decide) ?_
  refine u_istore_n (pc := 1) C d_M_nextLayer_1 rfl (fun x1 e1 L9 hL9 => ?_)
  obtain rfl : L9 = [some (.ref 0), some (.int fr), some (.int x1), none] := hL9.symm
  refine u_iconst (pc := 2) (v := 0) C d_M_nextLayer_2 (by decide) ?_
  refine u_istore_n (pc := 3) C d_M_nextLayer_3 rfl (fun x3 e3 L9 hL9 => ?_)
  obtain rfl : L9 = [some (.ref 0), some (.int fr), some (.int x1), some (.int x3)] := hL9.symm
  subst e3
  obtain rfl : x1 = -1 := e1
  exact lp_nextLayer hS hU C hQ (n + 1) 0 _ (by omega) (by omega) amin_0.symm
