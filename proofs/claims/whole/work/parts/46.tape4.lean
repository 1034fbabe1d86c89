/-! the tape's reader: a line -/
theorem up_up {M : Mem} {p j : Nat} {x y : Int32} : up (up M p j x) p j y = up M p j y := by
  refine Prod.ext ?_ rfl
  funext a b
  by_cases h : a = p ∧ b = j <;> simp [up, h]
noncomputable def rdl (t : List Int32) (cu : Nat) : Option (Int32 × Int32 × Int32 × Int32) × Nat :=
  let q := rdw t cu 15 0 0
  let c := cu + q.2
  if q.1 < 0 then (none, c) else
  @ite _ (dgF t c 1) (Classical.propDecidable _) (
  @ite _ (skF t (c + 1) 32) (Classical.propDecidable _) (
  @ite _ (dgF t (c + 2) 3) (Classical.propDecidable _) (
  @ite _ (skF t (c + 3) 32) (Classical.propDecidable _) (
  @ite _ (dgF t (c + 4) 3) (Classical.propDecidable _) (
  @ite _ (skF t (c + 5) 32) (Classical.propDecidable _) (
  @ite _ (skF t (c + 6) 45) (Classical.propDecidable _)
    (@ite _ (dgF t (c + 7) 9) (Classical.propDecidable _) (some (q.1, t.getD c 0 - 48, 10 * (t.getD (c + 2) 0 - 48) + (t.getD (c + 4) 0 - 48), -(t.getD (c + 7) 0 - 48)), c + 8) (none, c + 7))
    (@ite _ (dgF t (c + 6) 9) (Classical.propDecidable _) (some (q.1, t.getD c 0 - 48, 10 * (t.getD (c + 2) 0 - 48) + (t.getD (c + 4) 0 - 48), t.getD (c + 6) 0 - 48), c + 7) (none, c + 6)))
  (none, c + 5)) (none, c + 4)) (none, c + 3)) (none, c + 2)) (none, c + 1)) (none, c)
theorem dg_pos {t : List Int32} {cu : Nat} {x : Int32} (h : dgF t cu x) : ¬ t.getD cu 0 - 48 < 0 := Int32.not_lt.mpr h.2.1
theorem rd_y {t : List Int32} {cu : Nat} {x r : Int32} {M M' : Mem} (h : (r = t.getD cu 0 - 48 ∧ dgF t cu x ∧ M' = up M 76 2 (nI (cu + 1))) ∨ (r = -1 ∧ ¬ dgF t cu x ∧ M' = M)) (hr : ¬ r < 0) : r = t.getD cu 0 - 48 ∧ dgF t cu x ∧ M' = up M 76 2 (nI (cu + 1)) := by
  rcases h with h | h
  · exact h
  · rw [h.1] at hr
    exact absurd (by decide) hr
theorem rd_n {t : List Int32} {cu : Nat} {x r : Int32} {M M' : Mem} (h : (r = t.getD cu 0 - 48 ∧ dgF t cu x ∧ M' = up M 76 2 (nI (cu + 1))) ∨ (r = -1 ∧ ¬ dgF t cu x ∧ M' = M)) (hr : r < 0) : ¬ dgF t cu x ∧ M' = M := by
  rcases h with h | h
  · rw [h.1] at hr
    exact absurd hr (dg_pos h.2.1)
  · exact h.2
theorem sk_y {t : List Int32} {cu : Nat} {x r : Int32} {M M' : Mem} (h : (r = 1 ∧ skF t cu x ∧ M' = up M 76 2 (nI (cu + 1))) ∨ (r = 0 ∧ ¬ skF t cu x ∧ M' = M)) (hr : ¬ r = 0) : skF t cu x ∧ M' = up M 76 2 (nI (cu + 1)) := by
  rcases h with h | h
  · exact h.2
  · exact absurd h.1 hr
theorem sk_n {t : List Int32} {cu : Nat} {x r : Int32} {M M' : Mem} (h : (r = 1 ∧ skF t cu x ∧ M' = up M 76 2 (nI (cu + 1))) ∨ (r = 0 ∧ ¬ skF t cu x ∧ M' = M)) (hr : r = 0) : ¬ skF t cu x ∧ M' = M := by
  rcases h with h | h
  · rw [h.1] at hr
    exact absurd hr (by decide)
  · exact h.2
