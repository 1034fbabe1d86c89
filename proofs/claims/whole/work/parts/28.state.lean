/-! the end of a run is one; what an object is; what each call answers -/
theorem same_tr {n : Nat} {a b c : Gm} (h1 : same n a c) (h2 : same n b c) : same n a b := by
  obtain ⟨a1, a2, a3, a4, a5, a6, a7⟩ := h1
  obtain ⟨b1, b2, b3, b4, b5, b6, b7⟩ := h2
  refine ⟨by rw [a1, b1], by rw [a2, b2], by rw [a3, b3], by rw [a4, b4], fun i hi => ?_, fun d hd => by rw [a6 d hd, b6 d hd], fun d hd h3 => ?_⟩
  · rw [a5 i hi, b5 i (by rw [b4, ← a4]; exact hi)]
  · rw [a7 d hd h3, b7 d hd (by rw [b6 d hd, ← a6 d hd]; exact h3)]
theorem run_t {cd : Nat → Nat → Int32} {n t t' : Nat} {s : Gm × List Nat} {a b c a' b' c' : Int32} (h : Run cd n s t a b c) (h' : Run cd n s t' a' b' c') : ¬ t < t' := by
  intro hlt
  obtain ⟨g1, g2, g3, g4⟩ := h'.1 t hlt
  rcases h.2 with ⟨h1, -⟩ | ⟨-, h1, -⟩ | ⟨-, -, ⟨q, hq, hs, -⟩, -⟩ | ⟨-, -, -, h1, -⟩
  · rw [g1] at h1; cases h1
  · exact g2 h1
  · exact g3 q hq hs
  · omega
theorem run_one {cd : Nat → Nat → Int32} {n t t' : Nat} {s : Gm × List Nat} {a b c a' b' c' : Int32} (h : Run cd n s t a b c) (h' : Run cd n s t' a' b' c') : t = t' ∧ a = a' ∧ b = b' ∧ c = c' := by
  have e : t = t' := by
    have h1 := run_t h h'
    have h2 := run_t h' h
    omega
  subst e
  exact ⟨rfl, stops_one h.1 h.2 h'.2 (fun q r hq hr => (h.1 r hr).2.2.1 q hq) (fun q r _ _ h1 h2 => same_tr h1 h2)⟩
noncomputable def runR (cd : Nat → Nat → Int32) (n : Nat) (s : Gm × List Nat) : Nat × Int32 × Int32 × Int32 :=
  @dite _ (∃ q : Nat × Int32 × Int32 × Int32, Run cd n s q.1 q.2.1 q.2.2.1 q.2.2.2) (Classical.propDecidable _) (fun h => Classical.choose h) (fun _ => (0, 0, 0, 0))
theorem runR_eq {cd : Nat → Nat → Int32} {n t : Nat} {s : Gm × List Nat} {a b c : Int32} (h : Run cd n s t a b c) : runR cd n s = (t, a, b, c) := by
  have hx : ∃ q : Nat × Int32 × Int32 × Int32, Run cd n s q.1 q.2.1 q.2.2.1 q.2.2.2 := ⟨(t, a, b, c), h⟩
  unfold runR
  rw [dif_pos hx]
  obtain ⟨h1, h2, h3, h4⟩ := run_one (Classical.choose_spec hx) h
  exact Prod.ext h1 (Prod.ext h2 (Prod.ext h3 h4))
noncomputable def runG (cd : Nat → Nat → Int32) (n : Nat) (s : Gm × List Nat) : Gm × List Nat := runS cd n s (runR cd n s).1
/-- an object: cards' data, how many, the game, the table; the image; the tape; handles; how the latest run ended; the trace and what happened -/
abbrev St : Type := ((Nat → Nat → Int32) × Nat × Gm × List Nat) × Option (Nat × Gm × List Nat) × List Int32 × (Nat → Option Nat) × (Int32 × Int32 × Int32) × (List Int32 × List Int32)
def setG (σ : St) (g : Gm) : St := ((σ.1.1, σ.1.2.1, g, σ.1.2.2.2), σ.2)
def setGT (σ : St) (s : Gm × List Nat) : St := ((σ.1.1, σ.1.2.1, s.1, s.2), σ.2)
def isC (n : Nat) (c : Int32) : Prop := ¬ c < 0 ∧ ¬ nI n ≤ c
theorem isC_of {n : Nat} {c : Int32} (h : isC n c) (hn : n ≤ 24) : ∃ d, d < n ∧ c = nI d := by
  obtain ⟨j, hj, rfl⟩ := nI_of h.1
  refine ⟨j, ?_, rfl⟩
  rcases Nat.lt_or_ge j n with q | q
  · exact q
  · exact absurd (nI_le q hj) h.2
theorem hasF_is {n : Nat} {c : Int32} : hasF (nI n) c = 0 ↔ ¬ isC n c := by
  unfold hasF isC
  by_cases h1 : c < 0
  · simp [h1]
  · by_cases h2 : nI n ≤ c <;> simp [h1, h2]
/-- what the class holds of an object -/
def InvC (M : Mem) (σ : St) : Prop :=
  WFg σ.1.1 σ.1.2.1 σ.1.2.2.1 σ.1.2.2.2 ∧ CDm M σ.1.1 ∧ (∃ m, m ≤ psum σ.1.2.2.1 σ.1.2.1 ∧ RepG M 0 σ.1.2.1 σ.1.2.2.1 σ.1.2.2.2 m) ∧
  (match σ.2.1 with
    | none => M.1 83 3 = 0
    | some i => M.1 83 3 = 1 ∧ i.1 ≤ σ.1.2.1 ∧ WFg σ.1.1 i.1 i.2.1 i.2.2 ∧ ∃ m, m ≤ psum i.2.1 i.1 ∧ RepG M 1 i.1 i.2.1 i.2.2 m) ∧
  (σ.2.2.1.length ≤ 120 ∧ M.1 76 1 = nI σ.2.2.1.length ∧ ∀ i, i < σ.2.2.1.length → M.1 77 i = σ.2.2.1.getD i 0) ∧
  (∀ h, h < 8 → match σ.2.2.2.1 h with
    | none => M.1 82 h = -1 ∨ M.1 82 h = -2
    | some c => M.1 82 h = nI c ∧ c < σ.1.2.1) ∧
  (M.1 83 13 = σ.2.2.2.2.1.1 ∧ M.1 83 14 = σ.2.2.2.2.1.2.1 ∧ M.1 83 15 = σ.2.2.2.2.1.2.2) ∧
  LGd M 0 σ.2.2.2.2.2.1 σ.2.2.2.2.2.2 ∧ ∃ th ev, LGd M 1 th ev
