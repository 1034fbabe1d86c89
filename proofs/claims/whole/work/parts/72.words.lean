/-! the tape's words: the class's padded row of words and the reference's words, letter by letter -/
def wlen (k : Nat) : Nat := slen.getD (k + 1) 0
def wch (k i : Nat) : Int32 := (sbyt.getD (k + 1) []).getD i 0
theorem w_len : ∀ k, k < 15 → 3 ≤ wlen k ∧ wlen k ≤ 6 := by decide +kernel
theorem w_tab : ∀ k, k < 15 → ∀ i, i < wlen k → (sbyt.getD 0 []).getD (k * 7 + i) 0 = wch k i ∧ wch k i ≠ 32 := by decide +kernel
theorem w_end : ∀ k, k < 15 → (sbyt.getD 0 []).getD (k * 7 + wlen k) 0 = 32 := by decide +kernel
theorem w_free0 : ∀ k, k < 15 → ∀ h, h < 15 → k ≠ h → (List.range 7).any (fun i => decide (i < wlen k) && decide (i < wlen h) && decide (wch k i ≠ wch h i)) = true := by decide +kernel
theorem w_free {k h : Nat} (hk : k < 15) (hh : h < 15) (hne : k ≠ h) : ∃ i, i < wlen k ∧ i < wlen h ∧ wch k i ≠ wch h i := by
  obtain ⟨i, -, hi⟩ := List.any_eq_true.mp (w_free0 k hk h hh hne)
  simp only [Bool.and_eq_true, decide_eq_true_eq] at hi
  exact ⟨i, hi.1.1, hi.1.2, hi.2⟩
/-- how many letters of a kind's word stand at a place -/
def gok (t : List Int32) (cu k : Nat) : Nat → Nat → Nat
  | 0, i => i
  | f + 1, i => if i < wlen k ∧ cu + i < t.length ∧ t.getD (cu + i) 0 = wch k i then gok t cu k f (i + 1) else i
theorem gok_b {t : List Int32} {cu k : Nat} : ∀ f i, i ≤ wlen k → i ≤ gok t cu k f i ∧ gok t cu k f i ≤ wlen k := by
  intro f
  induction f with
  | zero => intro i h; exact ⟨Nat.le_refl _, h⟩
  | succ f ih =>
    intro i h
    rw [gok]
    split
    · rename_i q
      have := ih (i + 1) q.1
      exact ⟨by omega, this.2⟩
    · exact ⟨Nat.le_refl _, h⟩
theorem gok_m {t : List Int32} {cu k : Nat} : ∀ f i m, i ≤ m → m < gok t cu k f i → cu + m < t.length ∧ t.getD (cu + m) 0 = wch k m := by
  intro f
  induction f with
  | zero => intro i m h1 h2; exact absurd h2 (by rw [gok]; omega)
  | succ f ih =>
    intro i m h1 h2
    rw [gok] at h2
    split at h2
    · rename_i q
      by_cases e : m = i
      · subst e; exact q.2
      · exact ih (i + 1) m (by omega) h2
    · omega
theorem alk_gok {t : List Int32} {cu k : Nat} (hk : k < 15) : ∀ f i, i ≤ wlen k → wlen k - i < f →
    alk t cu k f i = if gok t cu k f i = wlen k ∧ cu + wlen k < t.length ∧ t.getD (cu + wlen k) 0 = 32 then wlen k + 1 else gok t cu k f i := by
  intro f
  induction f with
  | zero => intro i _ h; omega
  | succ f ih =>
    intro i hi hf
    have hl := w_len k hk
    by_cases e : i = wlen k
    · subst e
      rw [alk, gok, if_neg (show ¬ (wlen k < wlen k ∧ cu + wlen k < t.length ∧ t.getD (cu + wlen k) 0 = wch k (wlen k)) from fun z => absurd z.1 (Nat.lt_irrefl _)), w_end k hk]
      by_cases q : cu + wlen k < t.length
      · rw [if_pos ⟨by omega, q⟩]
        by_cases q2 : t.getD (cu + wlen k) 0 = 32
        · rw [if_pos q2.symm, if_pos rfl, if_pos ⟨rfl, q, q2⟩]
        · rw [if_neg (fun z => q2 z.symm), if_neg (fun z => q2 z.2.2)]
      · rw [if_neg (fun z => q z.2), if_neg (fun z => q z.2.1)]
    · have hlt : i < wlen k := by omega
      obtain ⟨a1, a2⟩ := w_tab k hk i hlt
      rw [alk, a1]
      by_cases q : cu + i < t.length
      · rw [if_pos ⟨by omega, q⟩]
        by_cases q2 : t.getD (cu + i) 0 = wch k i
        · have hg : gok t cu k (f + 1) i = gok t cu k f (i + 1) := by rw [gok, if_pos ⟨hlt, q, q2⟩]
          rw [if_pos q2.symm, if_neg a2, hg]
          exact ih (i + 1) hlt (by omega)
        · have hg : gok t cu k (f + 1) i = i := by rw [gok, if_neg (fun z => q2 z.2.2)]
          rw [if_neg (fun z => q2 z.symm), hg, if_neg (fun z => e z.1)]
      · have hg : gok t cu k (f + 1) i = i := by rw [gok, if_neg (fun z => q z.2.1)]
        rw [if_neg (fun z => q z.2), hg, if_neg (fun z => e z.1)]
def gk (t : List Int32) (cu k : Nat) : Nat := gok t cu k 8 0
theorem gk_le {t : List Int32} {cu k : Nat} : gk t cu k ≤ wlen k := (gok_b 8 0 (Nat.zero_le _)).2
theorem gk_m {t : List Int32} {cu k m : Nat} (h : m < gk t cu k) : cu + m < t.length ∧ t.getD (cu + m) 0 = wch k m := gok_m 8 0 m (Nat.zero_le _) h
theorem gk_len {t : List Int32} {cu k : Nat} (h : cu ≤ t.length) : cu + gk t cu k ≤ t.length := by
  rcases Nat.eq_zero_or_pos (gk t cu k) with q | q
  · omega
  · have := (gk_m (t := t) (cu := cu) (k := k) (m := gk t cu k - 1) (by omega)).1
    omega
theorem alk_gk {t : List Int32} {cu k : Nat} (hk : k < 15) : alk t cu k 8 0 = if gk t cu k = wlen k ∧ cu + wlen k < t.length ∧ t.getD (cu + wlen k) 0 = 32 then wlen k + 1 else gk t cu k := alk_gok hk 8 0 (Nat.zero_le _) (by have := w_len k hk; omega)
/-- a word that stands there: no other one does, nor as far -/
theorem gk_other {t : List Int32} {cu k h : Nat} (hk : k < 15) (hh : h < 15) (hne : k ≠ h) (he : gk t cu k = wlen k) : gk t cu h < wlen k ∧ gk t cu h < wlen h := by
  obtain ⟨i, i1, i2, i3⟩ := w_free hk hh hne
  have hi : ¬ i < gk t cu h := fun z => i3 ((gk_m (by omega : i < gk t cu k)).2.symm.trans (gk_m z).2)
  exact ⟨by omega, by omega⟩
/-- no word and blank where the word isn't whole -/
theorem no_suc {t : List Int32} {cu k : Nat} (hk : k < 15) (h : ¬ (gk t cu k = wlen k ∧ cu + wlen k < t.length ∧ t.getD (cu + wlen k) 0 = 32)) : alk t cu k 8 0 = gk t cu k ∧ ¬ (0 < alk t cu k 8 0 ∧ t.getD (cu + alk t cu k 8 0 - 1) 0 = 32) := by
  have e : alk t cu k 8 0 = gk t cu k := by rw [alk_gk hk, if_neg h]
  refine ⟨e, ?_⟩
  rw [e]
  rintro ⟨q1, q2⟩
  have a := (gk_m (t := t) (cu := cu) (k := k) (m := gk t cu k - 1) (by omega)).2
  have b := (w_tab k hk (gk t cu k - 1) (by have := gk_le (t := t) (cu := cu) (k := k); omega)).2
  rw [show cu + gk t cu k - 1 = cu + (gk t cu k - 1) by omega, a] at q2
  exact b q2
theorem suc {t : List Int32} {cu k : Nat} (hk : k < 15) (h : gk t cu k = wlen k ∧ cu + wlen k < t.length ∧ t.getD (cu + wlen k) 0 = 32) : alk t cu k 8 0 = wlen k + 1 ∧ (0 < alk t cu k 8 0 ∧ t.getD (cu + alk t cu k 8 0 - 1) 0 = 32) := by
  have e : alk t cu k 8 0 = wlen k + 1 := by rw [alk_gk hk, if_pos h]
  rw [e]
  exact ⟨rfl, by omega, h.2.2⟩
/-- the reference's search for a word -/
def rwf (t : List Int32) (cu : Nat) : Nat → Nat → Nat → Option Nat × Nat
  | 0, _, far => (none, far)
  | f + 1, k, far => if gk t cu k = wlen k then (some k, wlen k) else rwf t cu f (k + 1) (max far (gk t cu k))
theorem rdw_rest {t : List Int32} {cu k : Nat} (hk : k < 15) (he : gk t cu k = wlen k) : ∀ f j, k < j → j + f = 15 → rdw t cu f j (wlen k) = (-1, wlen k) := by
  intro f
  induction f with
  | zero => intro j _ _; rfl
  | succ f ih =>
    intro j hj hf
    have ho := gk_other hk (show j < 15 by omega) (by omega) he
    obtain ⟨a1, a2⟩ := no_suc (t := t) (cu := cu) (k := j) (by omega) (fun z => by omega)
    rw [rdw, if_neg a2, a1, Nat.max_eq_left (by omega)]
    exact ih (j + 1) (by omega) (by omega)
theorem rdw_rwf {t : List Int32} {cu : Nat} : ∀ f k mx, k + f = 15 → (∀ h, h < 15 → gk t cu h = wlen h → mx ≤ wlen h) →
    ((rwf t cu f k mx).1 = none → rdw t cu f k mx = (-1, (rwf t cu f k mx).2)) ∧
    ∀ h, (rwf t cu f k mx).1 = some h → (rwf t cu f k mx).2 = wlen h ∧ h < 15 ∧ gk t cu h = wlen h ∧ rdw t cu f k mx = if cu + wlen h < t.length ∧ t.getD (cu + wlen h) 0 = 32 then (nI h, wlen h + 1) else (-1, wlen h) := by
  intro f
  induction f with
  | zero => intro k mx _ _; exact ⟨fun _ => rfl, fun h q => (by cases q)⟩
  | succ f ih =>
    intro k mx hk hb
    by_cases e : gk t cu k = wlen k
    · rw [rwf, if_pos e]
      refine ⟨fun q => (by cases q), fun h q => ?_⟩
      cases q
      refine ⟨rfl, by omega, e, ?_⟩
      by_cases q : cu + wlen k < t.length ∧ t.getD (cu + wlen k) 0 = 32
      · obtain ⟨a1, a2⟩ := suc (show k < 15 by omega) ⟨e, q⟩
        rw [if_pos q, rdw, if_pos a2, a1]
      · obtain ⟨a1, a2⟩ := no_suc (show k < 15 by omega) (fun z => q z.2)
        rw [if_neg q, rdw, if_neg a2, a1, e, Nat.max_eq_right (hb k (by omega) e)]
        exact rdw_rest (by omega) e f (k + 1) (by omega) (by omega)
    · obtain ⟨a1, a2⟩ := no_suc (t := t) (cu := cu) (show k < 15 by omega) (fun z => e z.1)
      rw [rwf, if_neg e, rdw, if_neg a2, a1]
      refine ih (k + 1) (max mx (gk t cu k)) (by omega) (fun h h1 h2 => ?_)
      have h3 := hb h h1 h2
      have h4 := gk_other h1 (show k < 15 by omega) (fun z => e (z ▸ h2)) h2
      omega
