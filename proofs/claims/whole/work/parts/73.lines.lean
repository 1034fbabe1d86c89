/-! the tape's text: lines -/
abbrev QD : Type := Int32 × Int32 × Int32 × Int32
/-- a line's numbers, as they become a card -/
def qok (q : QD) : Prop := (∃ j, j ≤ 14 ∧ q.1 = nI j) ∧ (q.2.1 = 0 ∨ q.2.1 = 1) ∧ (∃ v w, v < 4 ∧ w < 4 ∧ q.2.2.1 = nI (10 * v + w)) ∧ (-9 ≤ q.2.2.2.toInt ∧ q.2.2.2.toInt ≤ 9)
theorem rdw_suc {t : List Int32} {cu : Nat} : ∀ f k mx, k + f ≤ 15 → (rdw t cu f k mx).1 < 0 ∨ ∃ j, j < 15 ∧ rdw t cu f k mx = (nI j, wlen j + 1) ∧ cu + wlen j < t.length := by
  intro f
  induction f with
  | zero => intro k mx _; exact Or.inl (by decide : (-1 : Int32) < 0)
  | succ f ih =>
    intro k mx h
    by_cases q : gk t cu k = wlen k ∧ cu + wlen k < t.length ∧ t.getD (cu + wlen k) 0 = 32
    · obtain ⟨a1, a2⟩ := suc (show k < 15 by omega) q
      exact Or.inr ⟨k, by omega, by rw [rdw, if_pos a2, a1], q.2.1⟩
    · obtain ⟨a1, a2⟩ := no_suc (show k < 15 by omega) q
      rw [rdw, if_neg a2]
      exact ih (k + 1) _ (by omega)
theorem dg_nI {t : List Int32} {c n : Nat} {mx : Int32} (hmx : mx = nI n) (hn : n < 100) (h : dgF t c mx) : ∃ j, j ≤ n ∧ t.getD c 0 - 48 = nI j := by
  obtain ⟨h1, h2, h3⟩ := h
  obtain ⟨j, hj, e⟩ := nI_of (Int32.not_lt.mpr h2)
  refine ⟨j, ?_, e⟩
  rw [e, hmx] at h3
  exact (nI_leI hj (by omega)).mp h3
theorem neg9 : ∀ j, j ≤ 9 → (-9 ≤ (nI j).toInt ∧ (nI j).toInt ≤ 9) ∧ (-9 ≤ (-(nI j)).toInt ∧ (-(nI j)).toInt ≤ 9) := by decide +kernel
theorem rdl_ok {t : List Int32} {cu : Nat} {q : QD} {c : Nat} (h : rdl t cu = (some q, c)) : qok q ∧ cu + 11 ≤ c ∧ c ≤ t.length := by
  unfold rdl at h
  simp only [] at h
  by_cases h0 : (rdw t cu 15 0 0).1 < 0
  · rw [if_pos h0] at h; cases h
  · rw [if_neg h0] at h
    obtain ⟨j, hj, hw, hcl⟩ : ∃ j, j < 15 ∧ rdw t cu 15 0 0 = (nI j, wlen j + 1) ∧ cu + wlen j < t.length := by
      rcases rdw_suc (t := t) (cu := cu) 15 0 0 (by omega) with z | z
      · exact absurd z h0
      · exact z
    rw [hw] at h
    simp only [] at h
    have hl := w_len j hj
    by_cases h1x : ¬ (dgF t (cu + (wlen j + 1)) 1)
    · rw [if_neg h1x] at h; cases h
    have h1 := Classical.not_not.mp h1x
    rw [if_pos h1] at h
    by_cases h2x : ¬ (skF t (cu + (wlen j + 1) + 1) 32)
    · rw [if_neg h2x] at h; cases h
    have h2 := Classical.not_not.mp h2x
    rw [if_pos h2] at h
    by_cases h3x : ¬ (dgF t (cu + (wlen j + 1) + 2) 3)
    · rw [if_neg h3x] at h; cases h
    have h3 := Classical.not_not.mp h3x
    rw [if_pos h3] at h
    by_cases h4x : ¬ (skF t (cu + (wlen j + 1) + 3) 32)
    · rw [if_neg h4x] at h; cases h
    have h4 := Classical.not_not.mp h4x
    rw [if_pos h4] at h
    by_cases h5x : ¬ (dgF t (cu + (wlen j + 1) + 4) 3)
    · rw [if_neg h5x] at h; cases h
    have h5 := Classical.not_not.mp h5x
    rw [if_pos h5] at h
    by_cases h6x : ¬ (skF t (cu + (wlen j + 1) + 5) 32)
    · rw [if_neg h6x] at h; cases h
    have h6 := Classical.not_not.mp h6x
    rw [if_pos h6] at h
    obtain ⟨p, hp, ep⟩ := dg_nI (n := 1) rfl (by decide) h1
    obtain ⟨v, hv, ev⟩ := dg_nI (n := 3) rfl (by decide) h3
    obtain ⟨w, hw9, ew⟩ := dg_nI (n := 3) rfl (by decide) h5
    have hp01 : t.getD (cu + (wlen j + 1)) 0 - 48 = 0 ∨ t.getD (cu + (wlen j + 1)) 0 - 48 = 1 := by
      rw [ep]
      rcases (show p = 0 ∨ p = 1 by omega) with z | z
      · rw [z]; exact Or.inl rfl
      · rw [z]; exact Or.inr rfl
    have hvw : (10 : Int32) * (t.getD (cu + (wlen j + 1) + 2) 0 - 48) + (t.getD (cu + (wlen j + 1) + 4) 0 - 48) = nI (10 * v + w) := by
      rw [ev, ew, show (10 : Int32) = nI 10 from rfl, pk_mul, nI_add]
    by_cases h7 : skF t (cu + (wlen j + 1) + 6) 45
    · rw [if_pos h7] at h
      by_cases h8 : dgF t (cu + (wlen j + 1) + 7) 9
      · rw [if_pos h8] at h
        obtain ⟨a, ha, ea⟩ := dg_nI (n := 9) rfl (by decide) h8
        simp only [Prod.mk.injEq, Option.some.injEq] at h
        obtain ⟨rfl, rfl⟩ := h
        refine ⟨⟨⟨j, by omega, rfl⟩, hp01, ⟨v, w, by omega, by omega, hvw⟩, ?_⟩, by omega, by have := h8.1; omega⟩
        show -9 ≤ (-(t.getD (cu + (wlen j + 1) + 7) 0 - 48)).toInt ∧ _
        rw [ea]
        exact (neg9 a ha).2
      · rw [if_neg h8] at h; cases h
    · rw [if_neg h7] at h
      by_cases h8 : dgF t (cu + (wlen j + 1) + 6) 9
      · rw [if_pos h8] at h
        obtain ⟨a, ha, ea⟩ := dg_nI (n := 9) rfl (by decide) h8
        simp only [Prod.mk.injEq, Option.some.injEq] at h
        obtain ⟨rfl, rfl⟩ := h
        refine ⟨⟨⟨j, by omega, rfl⟩, hp01, ⟨v, w, by omega, by omega, hvw⟩, ?_⟩, by omega, by have := h8.1; omega⟩
        show -9 ≤ (t.getD (cu + (wlen j + 1) + 6) 0 - 48).toInt ∧ _
        rw [ea]
        exact (neg9 a ha).1
      · rw [if_neg h8] at h; cases h
/-- the lines read, and the fault, if there is one -/
noncomputable def rdt (t : List Int32) : Nat → Nat → List QD × Option Nat
  | 0, cu => ([], some cu)
  | f + 1, cu => match rdl t cu with
    | (none, c) => ([], some c)
    | (some q, c) => if t.length ≤ c then ([q], none) else if t.getD c 0 = 59 then (q :: (rdt t f (c + 1)).1, (rdt t f (c + 1)).2) else ([q], some c)
theorem rdt_bad {t : List Int32} {f cu c : Nat} (h : rdl t cu = (none, c)) : rdt t (f + 1) cu = ([], some c) := by rw [rdt, h]
theorem rdt_end {t : List Int32} {f cu c : Nat} {q : QD} (h : rdl t cu = (some q, c)) (hc : t.length ≤ c) : rdt t (f + 1) cu = ([q], none) := by rw [rdt, h]; simp only []; rw [if_pos hc]
theorem rdt_more {t : List Int32} {f cu c : Nat} {q : QD} (h : rdl t cu = (some q, c)) (hc : ¬ t.length ≤ c) (h59 : t.getD c 0 = 59) : rdt t (f + 1) cu = (q :: (rdt t f (c + 1)).1, (rdt t f (c + 1)).2) := by rw [rdt, h]; simp only []; rw [if_neg hc, if_pos h59]
theorem rdt_no {t : List Int32} {f cu c : Nat} {q : QD} (h : rdl t cu = (some q, c)) (hc : ¬ t.length ≤ c) (h59 : ¬ t.getD c 0 = 59) : rdt t (f + 1) cu = ([q], some c) := by rw [rdt, h]; simp only []; rw [if_neg hc, if_neg h59]
theorem rdt_len {t : List Int32} : ∀ f cu, (rdt t f cu).1.length ≤ f := by
  intro f
  induction f with
  | zero => intro cu; exact Nat.le_refl _
  | succ f ih =>
    intro cu
    rw [rdt]
    split
    · exact Nat.zero_le _
    · split
      · simp
      · split
        · rw [List.length_cons]; have := ih (‹Nat› + 1); omega
        · simp
theorem rdt_ok {t : List Int32} : ∀ f cu, ∀ q, q ∈ (rdt t f cu).1 → qok q := by
  intro f
  induction f with
  | zero => intro cu q h; cases h
  | succ f ih =>
    intro cu q h
    rcases hr : rdl t cu with ⟨o, c⟩
    cases o with
    | none => rw [rdt_bad hr] at h; cases h
    | some q9 =>
      have hq9 := (rdl_ok hr).1
      by_cases hc : t.length ≤ c
      · rw [rdt_end hr hc] at h; rw [List.mem_singleton.mp h]; exact hq9
      · by_cases h59 : t.getD c 0 = 59
        · rw [rdt_more hr hc h59] at h
          rcases List.mem_cons.mp h with z | z
          · rw [z]; exact hq9
          · exact ih _ q z
        · rw [rdt_no hr hc h59] at h; rw [List.mem_singleton.mp h]; exact hq9
theorem rdl_end {t : List Int32} {cu : Nat} (h : t.length ≤ cu) : rdl t cu = (none, cu) := by
  have h0 : ∀ f k, k + f ≤ 15 → rdw t cu f k 0 = (-1, 0) := by
    intro f
    induction f with
    | zero => intro k _; rfl
    | succ f ih =>
      intro k hk
      have hg : gk t cu k = 0 := by
        rcases Nat.eq_zero_or_pos (gk t cu k) with z | z
        · exact z
        · have := (gk_m (t := t) (cu := cu) (k := k) (m := 0) z).1
          omega
      have hl := w_len k (by omega)
      obtain ⟨a1, a2⟩ := no_suc (t := t) (cu := cu) (k := k) (by omega) (fun z => by omega)
      rw [rdw, if_neg a2, a1, hg]
      exact ih (k + 1) (by omega)
  unfold rdl
  simp only []
  rw [h0 15 0 (by omega), if_pos (by decide)]
  rfl
/-- a tape of at most 120 bytes holds no more than ten lines -/
theorem rdt_fuel {t : List Int32} (h120 : t.length ≤ 120) : ∀ f cu, cu ≤ t.length → 120 ≤ cu + 12 * f → rdt t f cu = rdt t (f + 1) cu := by
  intro f
  induction f with
  | zero =>
    intro cu h1 h2
    rw [rdt_bad (rdl_end (by omega))]; rfl
  | succ f ih =>
    intro cu h1 h2
    rcases hr : rdl t cu with ⟨o, c⟩
    cases o with
    | none => rw [rdt_bad hr, rdt_bad hr]
    | some q9 =>
      have hq9 := (rdl_ok hr).2
      by_cases hc : t.length ≤ c
      · rw [rdt_end hr hc, rdt_end hr hc]
      · by_cases h59 : t.getD c 0 = 59
        · rw [rdt_more hr hc h59, rdt_more hr hc h59, ih (c + 1) (by omega) (by omega)]
        · rw [rdt_no hr hc h59, rdt_no hr hc h59]
