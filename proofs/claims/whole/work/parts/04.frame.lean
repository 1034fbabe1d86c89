/-! THE FRAME OF ALL PROOFS: a memory of places, and the judgement G over it -/
abbrev Mem : Type := (Nat → Nat → Int32) × (Nat → Nat → Int64)
/-- a layout: how many places; what lies at each (0 and a class, or 1 ints, 2 longs, 3 games, 4 rows of ints, and a length); where references lead -/
abbrev LY : Type := Nat × (Nat → Nat × Nat) × (Nat → Nat → Nat)
/-- addresses of the places, the classes' numbers, the arrays' classes -/
abbrev WD : Type := (Nat → Nat) × va_G × (Nat → ClassId)
def cv (ad : Nat → Nat) : Value → Value
  | .ref p => .ref (ad p)
  | v => v
theorem cv_cat (ad : Nat → Nat) (v : Value) : (cv ad v).category = v.category := by cases v <;> rfl
def fvl (w : WD) (y : LY) (M : Mem) (p ci j : Nat) : Value := if fk ci j = 1 then .ref (w.1 (y.2.2 p j)) else .int (M.1 p j)
def ent (w : WD) (y : LY) (M : Mem) (p : Nat) : va_E :=
  if (y.2.1 p).1 = 0 then .inr ((y.2.1 p).2, (List.range (nf (y.2.1 p).2)).map (fvl w y M p (y.2.1 p).2))
  else if (y.2.1 p).1 = 1 then .inl (w.2.2 0, (y.2.1 p).2, .inl (M.1 p))
  else if (y.2.1 p).1 = 2 then .inl (w.2.2 1, (y.2.1 p).2, .inr (.inl (M.2 p)))
  else if (y.2.1 p).1 = 3 then .inl (w.2.2 2, (y.2.1 p).2, .inr (.inr (.inr (.inr (fun j => some (w.1 (y.2.2 p j)))))))
  else .inl (w.2.2 3, (y.2.1 p).2, .inr (.inr (.inr (.inr (fun j => some (w.1 (y.2.2 p j)))))))
def wl (w : WD) (y : LY) (M : Mem) : va_W := (List.range y.1).map (fun p => (w.1 p, ent w y M p))
def tys (w : WD) : List (ClassId × FieldType) := [(w.2.2 0, .int), (w.2.2 1, .long), (w.2.2 2, .object "LayeredCards$Game"), (w.2.2 3, .array .int)]
def AW (w : WD) (y : LY) (sz : Nat) : Nat → Prop := fun q => (∃ p, p < y.1 ∧ q = w.1 p) ∨ sz ≤ q
def adi (w : WD) (y : LY) : Prop := ∀ i j : Nat, i < y.1 → j < y.1 → w.1 i = w.1 j → i = j
def up (M : Mem) (p j : Nat) (x : Int32) : Mem := (fun a b => if a = p ∧ b = j then x else M.1 a b, M.2)
def upl (M : Mem) (p j : Nat) (x : Int64) : Mem := (M.1, fun a b => if a = p ∧ b = j then x else M.2 a b)
theorem wl_at {w : WD} {y : LY} {M : Mem} {p : Nat} (h : p < y.1) : (wl w y M)[p]? = some (w.1 p, ent w y M p) := by simp [wl, h]
theorem wl_D {w : WD} {y : LY} {M : Mem} {A : Nat → Prop} (h : adi w y) (hA : ∀ p, p < y.1 → A (w.1 p)) : va_D A (wl w y M) := by
  have key : ∀ (k : Nat) (q : Nat × va_E), (wl w y M)[k]? = some q → k < y.1 ∧ q.1 = w.1 k := by
    intro k q hk
    have hlt : k < y.1 := by
      have := (List.getElem?_eq_some_iff.mp hk).1
      simpa [wl] using this
    rw [wl_at hlt] at hk
    cases hk
    exact ⟨hlt, rfl⟩
  refine ⟨fun i j p q hi hj e => ?_, fun k q hk => ?_⟩
  · obtain ⟨a1, a2⟩ := key i p hi
    obtain ⟨b1, b2⟩ := key j q hj
    exact h i j a1 b1 (by rw [← a2, ← b2, e])
  · obtain ⟨a1, a2⟩ := key k q hk
    rw [a2]
    exact hA k a1
theorem wl_set {w : WD} {y : LY} {M M' : Mem} {p : Nat} {e : va_E} (h : p < y.1) (he : e = ent w y M' p) (ho : ∀ q, q ≠ p → ent w y M q = ent w y M' q) : (wl w y M).set p (w.1 p, e) = wl w y M' := by
  apply List.ext_getElem?
  intro i
  rw [List.getElem?_set]
  by_cases hi : p = i
  · subst hi
    rw [if_pos rfl, if_pos (by simpa [wl] using h), wl_at h, he]
  · rw [if_neg hi]
    by_cases hl : i < y.1
    · rw [wl_at hl, wl_at hl, ho i (fun q => hi q.symm)]
    · rw [List.getElem?_eq_none (by simp [wl]; omega), List.getElem?_eq_none (by simp [wl]; omega)]
theorem ent_ne {w : WD} {y : LY} {M M' : Mem} {q : Nat} (h1 : M.1 q = M'.1 q) (h2 : M.2 q = M'.2 q) : ent w y M q = ent w y M' q := by
  have hf : fvl w y M q = fvl w y M' q := by
    funext ci j
    simp [fvl, h1]
  simp [ent, h1, h2, hf]
theorem up_ne {M : Mem} {p j q : Nat} {x : Int32} (h : q ≠ p) : (up M p j x).1 q = M.1 q := by
  funext b
  simp [up, h]
theorem upl_ne {M : Mem} {p j q : Nat} {x : Int64} (h : q ≠ p) : (upl M p j x).2 q = M.2 q := by
  funext b
  simp [upl, h]
/-- field put -/
theorem wl_put {w : WD} {y : LY} {M : Mem} {p ci j : Nat} {x : Int32} (h : p < y.1) (hs : y.2.1 p = (0, ci)) (hk : fk ci j ≠ 1) (hj : j < nf ci) :
    (wl w y M).set p (w.1 p, .inr (ci, ((List.range (nf ci)).map (fvl w y M p ci)).set j (.int x))) = wl w y (up M p j x) := by
  refine wl_set h ?_ (fun q hq => ent_ne (up_ne hq).symm rfl)
  simp only [ent, hs, if_pos]
  congr 2
  apply List.ext_getElem?
  intro i
  rw [List.getElem?_set]
  by_cases hi : j = i
  · subst hi
    simp [hj, fvl, hk, up]
  · rw [if_neg hi]
    by_cases hl : i < nf ci
    · simp [hl, fvl, up, Ne.symm hi]
    · simp [hl]
theorem wl_ast {w : WD} {y : LY} {M : Mem} {p n i : Nat} {x : Int32} (h : p < y.1) (hs : y.2.1 p = (1, n)) :
    (wl w y M).set p (w.1 p, .inl (w.2.2 0, n, .inl (upd (M.1 p) i x))) = wl w y (up M p i x) := by
  refine wl_set h ?_ (fun q hq => ent_ne (up_ne hq).symm rfl)
  simp only [ent, hs]
  simp
  funext b
  simp [upd, up]
theorem wl_last {w : WD} {y : LY} {M : Mem} {p n i : Nat} {x : Int64} (h : p < y.1) (hs : y.2.1 p = (2, n)) :
    (wl w y M).set p (w.1 p, .inl (w.2.2 1, n, .inr (.inl (vp_updL (M.2 p) i x)))) = wl w y (upl M p i x) := by
  refine wl_set h ?_ (fun q hq => ent_ne rfl (upl_ne hq).symm)
  simp only [ent, hs]
  simp
  funext b
  simp [vp_updL, upl]
/-- a row copied: n values of place p0 from 0 on into place p -/
def cpr (M : Mem) (p0 p n : Nat) : Mem := (fun a b => if a = p ∧ b < n then M.1 p0 b else M.1 a b, M.2)
theorem wl_cpr {w : WD} {y : LY} {M : Mem} {p0 p N n : Nat} (h : p < y.1) (hs : y.2.1 p = (1, N)) :
    (wl w y M).set p (w.1 p, .inl (w.2.2 0, N, .inl (va_cpy (M.1 p0) (M.1 p) 0 0 n))) = wl w y (cpr M p0 p n) := by
  refine wl_set h ?_ (fun q hq => ent_ne (by funext b; simp [cpr, hq]) rfl)
  simp only [ent, hs]
  simp
  funext b
  simp [va_cpy, cpr]
theorem ent_obj {w : WD} {y : LY} {M : Mem} {p ci : Nat} (hs : y.2.1 p = (0, ci)) : ent w y M p = .inr (ci, (List.range (nf ci)).map (fvl w y M p ci)) := by simp [ent, hs]
theorem ent_int {w : WD} {y : LY} {M : Mem} {p n : Nat} (hs : y.2.1 p = (1, n)) : ent w y M p = .inl (w.2.2 0, n, .inl (M.1 p)) := by simp [ent, hs]
theorem ent_long {w : WD} {y : LY} {M : Mem} {p n : Nat} (hs : y.2.1 p = (2, n)) : ent w y M p = .inl (w.2.2 1, n, .inr (.inl (M.2 p))) := by simp [ent, hs]
theorem ent_gam {w : WD} {y : LY} {M : Mem} {p n : Nat} (hs : y.2.1 p = (3, n)) : ent w y M p = .inl (w.2.2 2, n, .inr (.inr (.inr (.inr (fun j => some (w.1 (y.2.2 p j))))))) := by simp [ent, hs]
theorem ent_row {w : WD} {y : LY} {M : Mem} {p n : Nat} (hs : y.2.1 p = (4, n)) : ent w y M p = .inl (w.2.2 3, n, .inr (.inr (.inr (.inr (fun j => some (w.1 (y.2.2 p j))))))) := by simp [ent, hs]
/-- a shape that lies in the layout -/
def sh (y : LY) (p t n : Nat) : Prop := p < y.1 ∧ y.2.1 p = (t, n)
/-- the locals -/
def lk (ad : Nat → Nat) (nL : Nat) (ls : Array Slot) (L : List (Option Value)) : Prop := ls.size = nL ∧ lv_wf ls ∧ ∀ (i : Nat) (v : Value), L[i]? = some (some v) → ls[i]? = some (.val (cv ad v))
def lpairs (ad : Nat → Nat) (L : List (Option Value)) : List (Nat × Value) := L.zipIdx.filterMap (fun q => q.1.map (fun v => (q.2, cv ad v)))
theorem lpairs_mem {ad : Nat → Nat} {L : List (Option Value)} {i : Nat} {v : Value} : (i, v) ∈ lpairs ad L ↔ ∃ x, L[i]? = some (some x) ∧ cv ad x = v := by
  simp only [lpairs, List.mem_filterMap, Prod.exists, List.mem_zipIdx_iff_getElem?, Option.map_eq_some_iff, Prod.mk.injEq]
  constructor
  · rintro ⟨a, b, h1, x, rfl, rfl, h2⟩
    exact ⟨x, h1, h2⟩
  · rintro ⟨x, h1, h2⟩
    exact ⟨some x, i, h1, x, rfl, rfl, h2⟩
theorem lk_has {ad : Nat → Nat} {nL : Nat} {ls : Array Slot} {L : List (Option Value)} : lk ad nL ls L ↔ lv_has ls nL (lpairs ad L) := by
  constructor
  · rintro ⟨h1, h2, h3⟩
    refine ⟨h1, h2, fun q hq => ?_⟩
    obtain ⟨x, a1, a2⟩ := lpairs_mem.mp (show (q.1, q.2) ∈ _ from hq)
    rw [h3 q.1 x a1, a2]
  · rintro ⟨h1, h2, h3⟩
    exact ⟨h1, h2, fun i v h => h3 (i, cv ad v) (lpairs_mem.mpr ⟨v, h, rfl⟩)⟩
/-- no long stands just below place i -/
def okst (L : List (Option Value)) (i : Nat) : Bool := match i with
  | 0 => true
  | j + 1 => match L[j]? with
    | some (some v) => v.category == 1
    | _ => true
theorem lk_set {ad : Nat → Nat} {nL i : Nat} {ls' : Array Slot} {L : List (Option Value)} {v : Value} (ho : okst L i = true) (hi : i < L.length)
    (h : lv_has ls' nL ((i, cv ad v) :: (lpairs ad L).filter (fun q => !(q.1 == i) && !(q.1 + 1 == i && q.2.category == 2)))) : lk ad nL ls' (L.set i (some v)) := by
  refine ⟨h.1, h.2.1, fun j x hj => ?_⟩
  rw [List.getElem?_set] at hj
  by_cases e : i = j
  · subst e
    rw [if_pos rfl, if_pos hi] at hj
    cases hj
    exact h.2.2 (i, cv ad v) List.mem_cons_self
  · rw [if_neg e] at hj
    refine h.2.2 (j, cv ad x) (List.mem_cons_of_mem _ (List.mem_filter.mpr ⟨lpairs_mem.mpr ⟨x, hj, rfl⟩, ?_⟩))
    have e2 : ¬ j = i := fun q => e q.symm
    simp only [Bool.and_eq_true, Bool.not_eq_true', beq_eq_false_iff_ne, ne_eq, e2, not_false_eq_true, true_and, Bool.and_eq_false_iff]
    by_cases e3 : j + 1 = i
    · subst e3
      simp [okst, hj] at ho
      right
      simp [cv_cat, ho]
    · exact Or.inl e3
theorem lk_set2 {ad : Nat → Nat} {nL i : Nat} {ls' : Array Slot} {L : List (Option Value)} {v : Value} (ho : okst L i = true) (hi : i + 1 < L.length)
    (h : lv_has ls' nL ((i, cv ad v) :: (lpairs ad L).filter (fun q => !(q.1 == i) && (!(q.1 == i + 1) && !(q.1 + 1 == i && q.2.category == 2))))) : lk ad nL ls' ((L.set i (some v)).set (i + 1) none) := by
  refine ⟨h.1, h.2.1, fun j x hj => ?_⟩
  rw [List.getElem?_set, List.getElem?_set] at hj
  by_cases e0 : i + 1 = j
  · subst e0
    rw [if_pos rfl, if_pos (by simpa using hi)] at hj
    cases hj
  · rw [if_neg e0] at hj
    by_cases e : i = j
    · subst e
      rw [if_pos rfl, if_pos (by omega)] at hj
      cases hj
      exact h.2.2 (i, cv ad v) List.mem_cons_self
    · rw [if_neg e] at hj
      refine h.2.2 (j, cv ad x) (List.mem_cons_of_mem _ (List.mem_filter.mpr ⟨lpairs_mem.mpr ⟨x, hj, rfl⟩, ?_⟩))
      have e2 : ¬ j = i := fun q => e q.symm
      have e4 : ¬ j = i + 1 := fun q => e0 q.symm
      simp only [Bool.and_eq_true, Bool.not_eq_true', beq_eq_false_iff_ne, ne_eq, e2, e4, not_false_eq_true, true_and, Bool.and_eq_false_iff]
      by_cases e3 : j + 1 = i
      · subst e3
        simp [okst, hj] at ho
        right
        simp [cv_cat, ho]
      · exact Or.inl e3
