/-! the reference: its flat row, its frame, its small methods -/
def FG (f : Nat → Int32) (g : Gm) (tb : List Nat) : Prop :=
  (f 0 = g 0 0 ∧ f 1 = g 0 1) ∧ (f 2 = g 1 0 ∧ f 3 = g 1 1 ∧ f 4 = g 1 2 ∧ f 5 = g 1 3 ∧ f 6 = g 1 4) ∧ ((g 1 4).toNatClampNeg ≤ 64 ∧ ∀ i, i < (g 1 4).toNatClampNeg → f (7 + i) = g 2 i) ∧
  (∀ c, c < 24 → f (71 + c) = g 3 c) ∧ (∀ c, c ∈ tb → c < 24 ∧ f (95 + c) = g 4 c) ∧ ∀ v, v < 4 → f (119 + v) = g 5 v
theorem FG.of_eq {f f' : Nat → Int32} {g : Gm} {tb : List Nat} (h : FG f g tb) (e : ∀ j, j < 123 → f' j = f j) : FG f' g tb := by
  obtain ⟨⟨a1, a2⟩, ⟨b1, b2, b3, b4, b5⟩, ⟨p1, p2⟩, w, ag, bs⟩ := h
  refine ⟨⟨?_, ?_⟩, ⟨?_, ?_, ?_, ?_, ?_⟩, ⟨p1, fun i hi => ?_⟩, fun c hc => ?_, fun c hc => ⟨(ag c hc).1, ?_⟩, fun v hv => ?_⟩
  · rw [e 0 (by decide)]; exact a1
  · rw [e 1 (by decide)]; exact a2
  · rw [e 2 (by decide)]; exact b1
  · rw [e 3 (by decide)]; exact b2
  · rw [e 4 (by decide)]; exact b3
  · rw [e 5 (by decide)]; exact b4
  · rw [e 6 (by decide)]; exact b5
  · rw [e (7 + i) (by omega)]; exact p2 i hi
  · rw [e (71 + c) (by omega)]; exact w c hc
  · rw [e (95 + c) (by have := (ag c hc).1; omega)]; exact (ag c hc).2
  · rw [e (119 + v) (by omega)]; exact bs v hv
theorem FG.life {f : Nat → Int32} {g : Gm} {tb : List Nat} {p : Nat} {x : Int32} (h : FG f g tb) (hp : p < 2) : FG (upd f p x) (up2 g 0 p x) tb := by
  obtain ⟨⟨a1, a2⟩, ⟨b1, b2, b3, b4, b5⟩, ⟨p1, p2⟩, w, ag, bs⟩ := h
  have u : ∀ j, j ≠ p → upd f p x j = f j := fun j hj => pk_un hj
  refine ⟨⟨?_, ?_⟩, ⟨?_, ?_, ?_, ?_, ?_⟩, ⟨p1, fun i hi => ?_⟩, fun c hc => ?_, fun c hc => ⟨(ag c hc).1, ?_⟩, fun v hv => ?_⟩
  · by_cases e : (0 : Nat) = p
    · subst e; rw [pk_us, up2_e]
    · rw [u 0 e, up2_n e]; exact a1
  · by_cases e : (1 : Nat) = p
    · subst e; rw [pk_us, up2_e]
    · rw [u 1 e, up2_n e]; exact a2
  · rw [u 2 (by omega)]; exact b1
  · rw [u 3 (by omega)]; exact b2
  · rw [u 4 (by omega)]; exact b3
  · rw [u 5 (by omega)]; exact b4
  · rw [u 6 (by omega)]; exact b5
  · rw [u (7 + i) (by omega)]; exact p2 i hi
  · rw [u (71 + c) (by omega)]; exact w c hc
  · rw [u (95 + c) (by omega)]; exact (ag c hc).2
  · rw [u (119 + v) (by omega)]; exact bs v hv
theorem FG.where {f : Nat → Int32} {g : Gm} {tb : List Nat} {c : Nat} {x : Int32} (h : FG f g tb) (hc : c < 24) : FG (upd f (71 + c) x) (up2 g 3 c x) tb := by
  obtain ⟨⟨a1, a2⟩, ⟨b1, b2, b3, b4, b5⟩, ⟨p1, p2⟩, w, ag, bs⟩ := h
  have u : ∀ j, j ≠ 71 + c → upd f (71 + c) x j = f j := fun j hj => pk_un hj
  have p1' : (up2 g 3 c x 1 4).toNatClampNeg ≤ 64 := p1
  refine ⟨⟨?_, ?_⟩, ⟨?_, ?_, ?_, ?_, ?_⟩, ⟨p1', fun i hi => ?_⟩, fun d hd => ?_, fun d hd => ⟨(ag d hd).1, ?_⟩, fun v hv => ?_⟩
  · rw [u 0 (by omega)]; exact a1
  · rw [u 1 (by omega)]; exact a2
  · rw [u 2 (by omega)]; exact b1
  · rw [u 3 (by omega)]; exact b2
  · rw [u 4 (by omega)]; exact b3
  · rw [u 5 (by omega)]; exact b4
  · rw [u 6 (by omega)]; exact b5
  · rw [u (7 + i) (by omega)]; exact p2 i hi
  · by_cases e : d = c
    · subst e; rw [pk_us, up2_e]
    · rw [u (71 + d) (by omega), up2_n e]; exact w d hd
  · rw [u (95 + d) (by have := (ag d hd).1; omega)]; exact (ag d hd).2
  · rw [u (119 + v) (by omega)]; exact bs v hv
theorem FG.age {f : Nat → Int32} {g : Gm} {tb : List Nat} {c : Nat} {x : Int32} (h : FG f g tb) (hc : c < 24) (hn : c ∉ tb) : FG (upd f (95 + c) x) g tb := by
  obtain ⟨⟨a1, a2⟩, ⟨b1, b2, b3, b4, b5⟩, ⟨p1, p2⟩, w, ag, bs⟩ := h
  have u : ∀ j, j ≠ 95 + c → upd f (95 + c) x j = f j := fun j hj => pk_un hj
  refine ⟨⟨?_, ?_⟩, ⟨?_, ?_, ?_, ?_, ?_⟩, ⟨p1, fun i hi => ?_⟩, fun d hd => ?_, fun d hd => ⟨(ag d hd).1, ?_⟩, fun v hv => ?_⟩
  · rw [u 0 (by omega)]; exact a1
  · rw [u 1 (by omega)]; exact a2
  · rw [u 2 (by omega)]; exact b1
  · rw [u 3 (by omega)]; exact b2
  · rw [u 4 (by omega)]; exact b3
  · rw [u 5 (by omega)]; exact b4
  · rw [u 6 (by omega)]; exact b5
  · rw [u (7 + i) (by omega)]; exact p2 i hi
  · rw [u (71 + d) (by omega)]; exact w d hd
  · rw [u (95 + d) (fun q => hn (by rw [show c = d by omega]; exact hd))]; exact (ag d hd).2
  · rw [u (119 + v) (by omega)]; exact bs v hv
theorem FG.base {f : Nat → Int32} {g : Gm} {tb : List Nat} {c : Nat} {x : Int32} (h : FG f g tb) (hc : c < 4) : FG (upd f (119 + c) x) (up2 g 5 c x) tb := by
  obtain ⟨⟨a1, a2⟩, ⟨b1, b2, b3, b4, b5⟩, ⟨p1, p2⟩, w, ag, bs⟩ := h
  have u : ∀ j, j ≠ 119 + c → upd f (119 + c) x j = f j := fun j hj => pk_un hj
  have p1' : (up2 g 5 c x 1 4).toNatClampNeg ≤ 64 := p1
  refine ⟨⟨?_, ?_⟩, ⟨?_, ?_, ?_, ?_, ?_⟩, ⟨p1', fun i hi => ?_⟩, fun d hd => ?_, fun d hd => ⟨(ag d hd).1, ?_⟩, fun v hv => ?_⟩
  · rw [u 0 (by omega)]; exact a1
  · rw [u 1 (by omega)]; exact a2
  · rw [u 2 (by omega)]; exact b1
  · rw [u 3 (by omega)]; exact b2
  · rw [u 4 (by omega)]; exact b3
  · rw [u 5 (by omega)]; exact b4
  · rw [u 6 (by omega)]; exact b5
  · rw [u (7 + i) (by have : i < (g 1 4).toNatClampNeg := hi; omega)]; exact p2 i hi
  · rw [u (71 + d) (by omega)]; exact w d hd
  · rw [u (95 + d) (by have := (ag d hd).1; omega)]; exact (ag d hd).2
  · by_cases e : v = c
    · subst e; rw [pk_us, up2_e]
    · rw [u (119 + v) (by omega), up2_n e]; exact bs v hv
/-- the numbers behind the lives -/
def k1 (j : Nat) : Nat := j + 2
theorem FG.num {f : Nat → Int32} {g : Gm} {tb : List Nat} {c : Nat} {x : Int32} (h : FG f g tb) (hc : c < 4) : FG (upd f (c + 2) x) (up2 g 1 c x) tb := by
  obtain ⟨⟨a1, a2⟩, ⟨b1, b2, b3, b4, b5⟩, ⟨p1, p2⟩, w, ag, bs⟩ := h
  have u : ∀ j, j ≠ c + 2 → upd f (c + 2) x j = f j := fun j hj => pk_un hj
  have e4 : up2 g 1 c x 1 4 = g 1 4 := up2_n (by omega)
  refine ⟨⟨?_, ?_⟩, ⟨?_, ?_, ?_, ?_, ?_⟩, ⟨by rw [e4]; exact p1, fun i hi => ?_⟩, fun d hd => ?_, fun d hd => ⟨(ag d hd).1, ?_⟩, fun v hv => ?_⟩
  · rw [u 0 (by omega)]; exact a1
  · rw [u 1 (by omega)]; exact a2
  · by_cases e : (0 : Nat) = c
    · subst e; rw [pk_us, up2_e]
    · rw [u 2 (by omega), up2_n e]; exact b1
  · by_cases e : (1 : Nat) = c
    · subst e; rw [pk_us, up2_e]
    · rw [u 3 (by omega), up2_n e]; exact b2
  · by_cases e : (2 : Nat) = c
    · subst e; rw [pk_us, up2_e]
    · rw [u 4 (by omega), up2_n e]; exact b3
  · by_cases e : (3 : Nat) = c
    · subst e; rw [pk_us, up2_e]
    · rw [u 5 (by omega), up2_n e]; exact b4
  · rw [u 6 (by omega), e4]; exact b5
  · rw [u (7 + i) (by omega)]; exact p2 i (by rw [e4] at hi; exact hi)
  · rw [u (71 + d) (by omega)]; exact w d hd
  · rw [u (95 + d) (by omega)]; exact (ag d hd).2
  · rw [u (119 + v) (by omega)]; exact bs v hv
theorem FG.push {f : Nat → Int32} {g : Gm} {tb : List Nat} {h : Nat} {x : Int32} (r : FG f g tb) (hh : g 1 4 = nI h) (h64 : h < 64) : FG (upd (upd f (7 + h) x) 6 (nI (h + 1))) (psh g x) tb := by
  obtain ⟨⟨a1, a2⟩, ⟨b1, b2, b3, b4, b5⟩, ⟨p1, p2⟩, w, ag, bs⟩ := r
  have u : ∀ j, j ≠ 7 + h → j ≠ 6 → upd (upd f (7 + h) x) 6 (nI (h + 1)) j = f j := fun j h1 h2 => by rw [pk_un h2, pk_un h1]
  rw [psh_def, hh, if_pos (show nI h < (64 : Int32) from nI_lt (b := 64) h64 (by decide)), nI_clamp (by omega), ← nI_succ]
  have e4 : up2 (up2 g 2 h x) 1 4 (nI (h + 1)) 1 4 = nI (h + 1) := up2_e
  have en : ∀ j, j ≠ 4 → up2 (up2 g 2 h x) 1 4 (nI (h + 1)) 1 j = g 1 j := fun j hj => by rw [up2_n hj, up2_s (by decide)]
  have es : ∀ s, s ≠ 1 → s ≠ 2 → up2 (up2 g 2 h x) 1 4 (nI (h + 1)) s = g s := fun s h1 h2 => by rw [up2_s h1, up2_s h2]
  refine ⟨⟨?_, ?_⟩, ⟨?_, ?_, ?_, ?_, ?_⟩, ⟨by rw [e4, nI_clamp (by omega)]; omega, fun i hi => ?_⟩, fun d hd => ?_, fun d hd => ⟨(ag d hd).1, ?_⟩, fun v hv => ?_⟩
  · rw [u 0 (by omega) (by omega), es 0 (by decide) (by decide)]; exact a1
  · rw [u 1 (by omega) (by omega), es 0 (by decide) (by decide)]; exact a2
  · rw [u 2 (by omega) (by omega), en 0 (by decide)]; exact b1
  · rw [u 3 (by omega) (by omega), en 1 (by decide)]; exact b2
  · rw [u 4 (by omega) (by omega), en 2 (by decide)]; exact b3
  · rw [u 5 (by omega) (by omega), en 3 (by decide)]; exact b4
  · rw [pk_us, e4]
  · rw [e4, nI_clamp (by omega)] at hi
    rw [up2_s (by decide)]
    by_cases e : i = h
    · subst e; rw [pk_un (by omega), pk_us, up2_e]
    · rw [u (7 + i) (by omega) (by omega), up2_n e]; exact p2 i (by rw [hh, nI_clamp (by omega)]; omega)
  · rw [u (71 + d) (by omega) (by omega), es 3 (by decide) (by decide)]; exact w d hd
  · rw [u (95 + d) (by omega) (by omega), es 4 (by decide) (by decide)]; exact (ag d hd).2
  · rw [u (119 + v) (by omega) (by omega), es 5 (by decide) (by decide)]; exact bs v hv
theorem FG.pop {f : Nat → Int32} {g : Gm} {tb : List Nat} {h : Nat} (r : FG f g tb) (hh : g 1 4 = nI (h + 1)) (h64 : h < 64) : FG (upd f 6 (nI h)) (popd g) tb ∧ f (7 + h) = top g := by
  obtain ⟨⟨a1, a2⟩, ⟨b1, b2, b3, b4, b5⟩, ⟨p1, p2⟩, w, ag, bs⟩ := r
  have u : ∀ j, j ≠ 6 → upd f 6 (nI h) j = f j := fun j h1 => pk_un h1
  have e4 : popd g 1 4 = nI h := by rw [popd, up2_e, hh, nI_pred]
  have en : ∀ j, j ≠ 4 → popd g 1 j = g 1 j := fun j hj => up2_n hj
  have es : ∀ s, s ≠ 1 → popd g s = g s := fun s h1 => up2_s h1
  refine ⟨⟨⟨?_, ?_⟩, ⟨?_, ?_, ?_, ?_, ?_⟩, ⟨by rw [e4, nI_clamp (by omega)]; omega, fun i hi => ?_⟩, fun d hd => ?_, fun d hd => ⟨(ag d hd).1, ?_⟩, fun v hv => ?_⟩, ?_⟩
  · rw [u 0 (by omega), es 0 (by decide)]; exact a1
  · rw [u 1 (by omega), es 0 (by decide)]; exact a2
  · rw [u 2 (by omega), en 0 (by decide)]; exact b1
  · rw [u 3 (by omega), en 1 (by decide)]; exact b2
  · rw [u 4 (by omega), en 2 (by decide)]; exact b3
  · rw [u 5 (by omega), en 3 (by decide)]; exact b4
  · rw [pk_us, e4]
  · rw [e4, nI_clamp (by omega)] at hi
    rw [u (7 + i) (by omega), es 2 (by decide)]
    exact p2 i (by rw [hh, nI_clamp (by omega)]; omega)
  · rw [u (71 + d) (by omega), es 3 (by decide)]; exact w d hd
  · rw [u (95 + d) (by omega), es 4 (by decide)]; exact (ag d hd).2
  · rw [u (119 + v) (by omega), es 5 (by decide)]; exact bs v hv
  · rw [p2 h (by rw [hh, nI_clamp (by omega)]; omega), top, hh, nI_pred, nI_clamp (by omega)]
theorem FG.lay {f : Nat → Int32} {g : Gm} {tb : List Nat} {c : Nat} (r : FG f g tb) (hc : c < 24) (hn : c ∉ tb) : FG (upd (upd (upd f (71 + c) 3) 2 (g 1 0 + 1)) (95 + c) (g 1 0)) (up2 (up2 (up2 g 3 c 3) 4 c (g 1 0)) 1 0 (g 1 0 + 1)) (tb ++ [c]) := by
  have h1 : FG (upd (upd (upd f (71 + c) 3) 2 (g 1 0 + 1)) (95 + c) (g 1 0)) (up2 (up2 g 3 c 3) 1 0 (g 1 0 + 1)) tb := ((r.where hc).num (c := 0) (by decide)).age hc hn
  obtain ⟨⟨a1, a2⟩, ⟨b1, b2, b3, b4, b5⟩, ⟨p1, p2⟩, w, ag, bs⟩ := h1
  refine ⟨⟨a1, a2⟩, ⟨b1, b2, b3, b4, b5⟩, ⟨p1, p2⟩, w, fun d hd => ?_, bs⟩
  have ea : ∀ d, d ≠ c → up2 (up2 (up2 g 3 c 3) 4 c (g 1 0)) 1 0 (g 1 0 + 1) 4 d = up2 (up2 g 3 c 3) 1 0 (g 1 0 + 1) 4 d := fun d hd => by
    rw [up2_s (by decide), up2_n hd, up2_s (by decide), up2_s (by decide), up2_s (by decide)]
  rcases List.mem_append.mp hd with q | q
  · rw [ea d (fun z => hn (z ▸ q))]
    exact ag d q
  · rw [List.mem_singleton.mp q]
    exact ⟨hc, by rw [pk_us, up2_s (by decide), up2_e]⟩
theorem FG.sub {f : Nat → Int32} {g : Gm} {tb tb' : List Nat} (r : FG f g tb) (h : ∀ d, d ∈ tb' → d ∈ tb) : FG f g tb' := by
  obtain ⟨a, b, p, w, ag, bs⟩ := r
  exact ⟨a, b, p, w, fun d hd => ag d (h d hd), bs⟩
/-- what may have changed, place by place and number by number -/
def OfR (S : Nat → Nat → Prop) (M M' : Mem) : Prop := ∀ p j, ¬ S p j → M'.1 p j = M.1 p j
theorem OfR.refl {S : Nat → Nat → Prop} {M : Mem} : OfR S M M := fun _ _ _ => rfl
theorem OfR.trans {S : Nat → Nat → Prop} {M M1 M2 : Mem} (h1 : OfR S M M1) (h2 : OfR S M1 M2) : OfR S M M2 := fun p j h => (h2 p j h).trans (h1 p j h)
theorem OfR.mono {S T : Nat → Nat → Prop} {M M' : Mem} (h : OfR S M M') (hST : ∀ p j, S p j → T p j) : OfR T M M' := fun p j hp => h p j (fun q => hp (hST p j q))
theorem OfR.up {S : Nat → Nat → Prop} {M : Mem} {p j : Nat} {x : Int32} (hp : S p j) : OfR S M (up M p j x) := fun q i hq => by
  show (if q = p ∧ i = j then x else M.1 q i) = M.1 q i
  rw [if_neg (fun z => hq (by rw [z.1, z.2]; exact hp))]
theorem OfR.cd {S : Nat → Nat → Prop} {M M' : Mem} {cd : Nat → Nat → Int32} (h : CDm M cd) (ho : OfR S M M') (hS : ∀ p j, 1 ≤ p → p ≤ 5 → ¬ S p j) : CDm M' cd := by
  obtain ⟨h1, h2, h3, h4, h5⟩ := h
  have e : ∀ p, 1 ≤ p → p ≤ 5 → M'.1 p = M.1 p := fun p a b => funext (fun j => ho p j (hS p j a b))
  exact ⟨by rw [e 1 (by decide) (by decide)]; exact h1, by rw [e 2 (by decide) (by decide)]; exact h2, by rw [e 3 (by decide) (by decide)]; exact h3, by rw [e 4 (by decide) (by decide)]; exact h4, by rw [e 5 (by decide) (by decide)]; exact h5⟩
/-- the reference holds a game: the cards' data, how many, the game's row -/
def RS (M : Mem) (cd : Nat → Nat → Int32) (n : Nat) (g : Gm) (tb : List Nat) : Prop := WFg cd n g tb ∧ CDm M cd ∧ M.1 0 5 = nI n ∧ FG (M.1 6) g tb
theorem RS.of {S : Nat → Nat → Prop} {M M' : Mem} {cd : Nat → Nat → Int32} {n : Nat} {g : Gm} {tb : List Nat} (h : RS M cd n g tb) (ho : OfR S M M') (h1 : ∀ p j, 1 ≤ p → p ≤ 5 → ¬ S p j) (h2 : ¬ S 0 5) (h3 : ∀ j, ¬ S 6 j) : RS M' cd n g tb :=
  ⟨h.1, ho.cd h.2.1 h1, by rw [ho 0 5 h2]; exact h.2.2.1, h.2.2.2.of_eq (fun j _ => ho 6 j (h3 j))⟩
theorem RS.n24 {M : Mem} {cd : Nat → Nat → Int32} {n : Nat} {g : Gm} {tb : List Nat} (h : RS M cd n g tb) : n ≤ 24 := h.1.1.1
theorem RS.wh {M : Mem} {cd : Nat → Nat → Int32} {n c : Nat} {g : Gm} {tb : List Nat} (h : RS M cd n g tb) (hc : c < 24) : M.1 6 (71 + c) = g 3 c := h.2.2.2.2.2.2.1 c hc
theorem RS.ag {M : Mem} {cd : Nat → Nat → Int32} {n c : Nat} {g : Gm} {tb : List Nat} (h : RS M cd n g tb) (hc : c ∈ tb) : M.1 6 (95 + c) = g 4 c := (h.2.2.2.2.2.2.2.1 c hc).2
theorem RS.ba {M : Mem} {cd : Nat → Nat → Int32} {n v : Nat} {g : Gm} {tb : List Nat} (h : RS M cd n g tb) (hv : v < 4) : M.1 6 (119 + v) = g 5 v := h.2.2.2.2.2.2.2.2 v hv
theorem RS.many {M : Mem} {cd : Nat → Nat → Int32} {n : Nat} {g : Gm} {tb : List Nat} (h : RS M cd n g tb) : M.1 6 6 = g 1 4 := h.2.2.2.2.1.2.2.2.2
theorem RS.cdc {M : Mem} {cd : Nat → Nat → Int32} {n : Nat} {g : Gm} {tb : List Nat} (h : RS M cd n g tb) : M.1 1 = cd 0 ∧ M.1 2 = cd 1 ∧ M.1 3 = cd 2 ∧ M.1 4 = cd 3 ∧ M.1 5 = cd 4 := h.2.1
theorem ix_add {a c : Nat} {x : Int32} (hx : x = nI a) (h : a + c < 2 ^ 31) : (x + nI c).toNatClampNeg = a + c := by
  subst hx; rw [nI_add, nI_clamp h]
theorem vp_add {a c N : Nat} {x : Int32} (hx : x = nI a) (h : a + c < N) (hN : N < 2 ^ 31) : vp_in (x + nI c) N := by
  subst hx; rw [nI_add]; exact vp_in_nI h hN
theorem ix71 {c : Nat} (h : c < 24) : ((71 : Int32) + nI c).toNatClampNeg = 71 + c := ix_add rfl (by omega)
theorem vp71 {c : Nat} (h : c < 24) : vp_in ((71 : Int32) + nI c) 123 := vp_add (a := 71) rfl (by omega) (by decide)
theorem ix95 {c : Nat} (h : c < 24) : ((95 : Int32) + nI c).toNatClampNeg = 95 + c := ix_add rfl (by omega)
theorem vp95 {c : Nat} (h : c < 24) : vp_in ((95 : Int32) + nI c) 123 := vp_add (a := 95) rfl (by omega) (by decide)
theorem ix119 {c : Nat} (h : c < 4) : ((119 : Int32) + nI c).toNatClampNeg = 119 + c := ix_add rfl (by omega)
theorem vp119 {c : Nat} (h : c < 4) : vp_in ((119 : Int32) + nI c) 123 := vp_add (a := 119) rfl (by omega) (by decide)
theorem ix7 {c : Nat} (h : c < 64) : ((7 : Int32) + nI c).toNatClampNeg = 7 + c := ix_add rfl (by omega)
theorem vp7 {c : Nat} (h : c < 64) : vp_in ((7 : Int32) + nI c) 123 := vp_add (a := 7) rfl (by omega) (by decide)
theorem ix0 {c : Nat} (h : c < 24) : ((0 : Int32) + nI c).toNatClampNeg = c := (ix_add (a := 0) (c := c) (x := (0 : Int32)) rfl (by omega)).trans (Nat.zero_add c)
theorem vp0 {c : Nat} (h : c < 24) : vp_in ((0 : Int32) + nI c) 123 := vp_add (a := 0) rfl (by omega) (by decide)
theorem vp24 {c : Nat} (h : c < 24) : vp_in (nI c) 24 := vp_in_nI h (by decide)
def inF (v a b : Int32) : Int32 := if v < a then 0 else if b < v then 0 else 1
theorem in_has {n : Nat} {c : Int32} (hn : n ≤ 24) : inF c 0 (nI n - 1) = hasF (nI n) c := by
  unfold inF hasF
  by_cases h : c < 0
  · rw [if_pos h, if_pos h]
  · rw [if_neg h, if_neg h]
    obtain ⟨j, hj, rfl⟩ := nI_of h
    cases n with
    | zero =>
      rw [if_pos (show nI 0 - 1 < nI j from ?_), if_pos (nI_le (Nat.zero_le _) hj)]
      have h9 : (nI 0 - 1).toInt = -1 := by decide
      rw [Int32.lt_iff_toInt_lt, h9, nI_toInt hj]
      omega
    | succ m =>
      rw [nI_pred]
      by_cases q : m < j
      · rw [if_pos (nI_lt q hj), if_pos (nI_le q hj)]
      · rw [if_neg (nI_nlt (by omega) (by omega)), if_neg (nI_ge (by omega) (by omega))]
theorem in_y {v a b : Int32} (h : ¬ inF v a b = 0) : ¬ v < a ∧ ¬ b < v := by
  unfold inF at h
  by_cases h1 : v < a
  · rw [if_pos h1] at h; exact absurd rfl h
  · rw [if_neg h1] at h
    by_cases h2 : b < v
    · rw [if_pos h2] at h; exact absurd rfl h
    · exact ⟨h1, h2⟩
theorem in_n {v a b : Int32} (h : inF v a b = 0) : v < a ∨ b < v := by
  unfold inF at h
  by_cases h1 : v < a
  · exact Or.inl h1
  · rw [if_neg h1] at h
    by_cases h2 : b < v
    · exact Or.inr h2
    · rw [if_neg h2] at h; exact absurd h (by decide)
set_option maxRecDepth 20000 in
theorem c_M_in {v a b : Int32} {M : Mem} : Ct lyR y_M_in b_M_in 3 (some .boolean) 0 [.int v, .int a, .int b] M (Pi fun r M' => r = inF v a b ∧ M' = M) := by
  refine Ct.ofG mx_M_in [some (.int v), some (.int a), some (.int b)] rfl rfl (Nat.le_of_ble_eq_true rfl) (fun κ C hQ => ?_)
  refine u_iload_n (pc := 0) C d_M_in_0 rfl ?_
  refine u_iload_n (pc := 1) C d_M_in_1 rfl ?_
  refine u_icmp_lt (pc := 2) (tgt := 14) C d_M_in_2 rfl (fun c2 => ?_) (fun c2 => ?_)
  · refine u_iconst (pc := 14) (v := 0) C d_M_in_14 (by decide) ?_
    refine u_zret (pc := 15) C d_M_in_15 (by decide) (hQ _ _ ⟨_, rfl, ?_⟩)
    exact ⟨by simp [inF, *], rfl⟩
  · refine u_iload_n (pc := 5) C d_M_in_5 rfl ?_
    refine u_iload_n (pc := 6) C d_M_in_6 rfl ?_
    refine u_icmp_gt (pc := 7) (tgt := 14) C d_M_in_7 rfl (fun c7 => ?_) (fun c7 => ?_)
    · refine u_iconst (pc := 14) (v := 0) C d_M_in_14 (by decide) ?_
      refine u_zret (pc := 15) C d_M_in_15 (by decide) (hQ _ _ ⟨_, rfl, ?_⟩)
      exact ⟨by simp [inF, *], rfl⟩
    · refine u_iconst (pc := 10) (v := 1) C d_M_in_10 (by decide) ?_
      refine u_goto (pc := 11) (tgt := 15) C d_M_in_11 rfl ?_
      refine u_zret (pc := 15) C d_M_in_15 (by decide) (hQ _ _ ⟨_, rfl, ?_⟩)
      exact ⟨by simp [inF, *], rfl⟩
set_option maxRecDepth 20000 in
theorem c_M_held {v a b : Int32} {M : Mem} (h : a ≤ b) : Ct lyR y_M_held b_M_held 3 (some .int) 0 [.int v, .int a, .int b] M (Pi fun r M' => r = withinF v a b ∧ M' = M) := by
  refine Ct.ofG mx_M_held [some (.int v), some (.int a), some (.int b)] rfl rfl (Nat.le_of_ble_eq_true rfl) (fun κ C hQ => ?_)
  refine u_iload_n (pc := 0) C d_M_held_0 rfl ?_
  refine u_iload_n (pc := 1) C d_M_held_1 rfl ?_
  refine u_icmp_ge (pc := 2) (tgt := 9) C d_M_held_2 rfl (fun c2 => ?_) (fun c2 => ?_)
  · refine u_iload_n (pc := 9) C d_M_held_9 rfl ?_
    refine u_iload_n (pc := 10) C d_M_held_10 rfl ?_
    refine u_icmp_le (pc := 11) (tgt := 18) C d_M_held_11 rfl (fun c11 => ?_) (fun c11 => ?_)
    · refine u_iload_n (pc := 18) C d_M_held_18 rfl ?_
      refine u_iret (pc := 19) C d_M_held_19 (hQ _ _ ⟨_, rfl, ?_⟩)
      refine ⟨?_, rfl⟩
      rw [← held_within h, heldF]
      first
        | (rw [if_pos (Int32.not_le.mp c2)]; done)
        | (rw [if_neg (Int32.not_lt.mpr c2), if_neg (Int32.not_lt.mpr c11)]; done)
        | (rw [if_neg (Int32.not_lt.mpr c2), if_pos (Int32.not_le.mp c11)])
    · refine u_iload_n (pc := 14) C d_M_held_14 rfl ?_
      refine u_goto (pc := 15) (tgt := 19) C d_M_held_15 rfl ?_
      refine u_iret (pc := 19) C d_M_held_19 (hQ _ _ ⟨_, rfl, ?_⟩)
      refine ⟨?_, rfl⟩
      rw [← held_within h, heldF]
      first
        | (rw [if_pos (Int32.not_le.mp c2)]; done)
        | (rw [if_neg (Int32.not_lt.mpr c2), if_neg (Int32.not_lt.mpr c11)]; done)
        | (rw [if_neg (Int32.not_lt.mpr c2), if_pos (Int32.not_le.mp c11)])
  · refine u_iload_n (pc := 5) C d_M_held_5 rfl ?_
    refine u_goto (pc := 6) (tgt := 19) C d_M_held_6 rfl ?_
    refine u_iret (pc := 19) C d_M_held_19 (hQ _ _ ⟨_, rfl, ?_⟩)
    refine ⟨?_, rfl⟩
    rw [← held_within h, heldF]
    first
      | (rw [if_pos (Int32.not_le.mp c2)]; done)
      | (rw [if_neg (Int32.not_lt.mpr c2), if_neg (Int32.not_lt.mpr c11)]; done)
      | (rw [if_neg (Int32.not_lt.mpr c2), if_pos (Int32.not_le.mp c11)])
set_option maxRecDepth 20000 in
theorem c_M_isCard {c : Int32} {n : Nat} {M : Mem} (h5 : M.1 0 5 = nI n) (hn : n ≤ 24) : Ct lyR y_M_isCard b_M_isCard 2 (some .boolean) 1 [.ref 0, .int c] M (Pi fun r M' => r = hasF (nI n) c ∧ M' = M) := by
  refine Ct.ofG mx_M_isCard [some (.ref 0), some (.int c)] rfl rfl (Nat.le_of_ble_eq_true rfl) (fun κ C hQ => ?_)
  refine u_iload_n (pc := 0) C d_M_isCard_0 rfl ?_
  refine u_iconst (pc := 1) (v := 0) C d_M_isCard_1 (by decide) ?_
  refine u_aload_n (pc := 2) C d_M_isCard_2 rfl ?_
  refine u_geti (pc := 3) C d_M_isCard_3 fw_M_70 sR_0 rfl ?_
  refine u_iconst (pc := 6) (v := 1) C d_M_isCard_6 (by decide) ?_
  refine u_isub (pc := 7) C d_M_isCard_7 ?_
  refine u_callSi (pc := 8) C d_M_isCard_8 mx_M_in mw_M_73 (c_M_in) rfl rfl (Nat.le_of_ble_eq_true rfl) (fun r8 M8 q8 => ?_)
  obtain ⟨e8, q8⟩ := q8
  have q8 := q8.symm
  subst q8
  refine u_zret (pc := 11) C d_M_isCard_11 (by rw [e8]; unfold inF; split; exact Or.inl rfl; split; exact Or.inl rfl; exact Or.inr rfl) (hQ _ _ ⟨_, rfl, ?_⟩)
  exact ⟨by rw [e8, h5, in_has hn], rfl⟩
set_option maxRecDepth 20000 in
theorem c_M_isAt {c : Nat} {pl : Int32} {M : Mem} (hc : c < 24) : Ct lyR y_M_isAt b_M_isAt 3 (some .boolean) 0 [.ref 0, .int (nI c), .int pl] M (Pi fun r M' => r = (if M.1 6 (71 + c) = pl then 1 else 0) ∧ M' = M) := by
  refine Ct.ofG mx_M_isAt [some (.ref 0), some (.int (nI c)), some (.int pl)] rfl rfl (Nat.le_of_ble_eq_true rfl) (fun κ C hQ => ?_)
  refine u_aload_n (pc := 0) C d_M_isAt_0 rfl ?_
  refine u_getr (pc := 1) (r := 6) C d_M_isAt_1 fw_M_25 sR_0 rfl rfl ?_
  refine u_bipush (pc := 4) (v := 71) C d_M_isAt_4 (by decide) ?_
  refine u_iload_n (pc := 6) C d_M_isAt_6 rfl ?_
  refine u_iadd (pc := 7) C d_M_isAt_7 ?_
  refine u_iald (pc := 8) C d_M_isAt_8 sR_6 (vp71 hc) ?_
  refine u_iload_n (pc := 9) C d_M_isAt_9 rfl ?_
  refine u_icmp_ne (pc := 10) (tgt := 17) C d_M_isAt_10 rfl (fun c10 => ?_) (fun c10 => ?_)
  · refine u_iconst (pc := 17) (v := 0) C d_M_isAt_17 (by decide) ?_
    refine u_zret (pc := 18) C d_M_isAt_18 (by decide) (hQ _ _ ⟨_, rfl, ?_⟩)
    rw [ix71 hc] at c10
    first
      | exact ⟨by rw [if_neg c10], rfl⟩
      | exact ⟨by rw [if_pos c10], rfl⟩
  · refine u_iconst (pc := 13) (v := 1) C d_M_isAt_13 (by decide) ?_
    refine u_goto (pc := 14) (tgt := 18) C d_M_isAt_14 rfl ?_
    refine u_zret (pc := 18) C d_M_isAt_18 (by decide) (hQ _ _ ⟨_, rfl, ?_⟩)
    rw [ix71 hc] at c10
    first
      | exact ⟨by rw [if_neg c10], rfl⟩
      | exact ⟨by rw [if_pos c10], rfl⟩
set_option maxRecDepth 20000 in
theorem lp_copy {κ : KX} {p q : Nat} {M : Mem} (hp : sh lyR p 1 123) (hq : sh lyR q 1 123) (hpq : p ≠ q) (C : Cx κ lyR y_M_copy.cls b_M_copy 3 none 0) (hQ : ∀ v M', Pv (fun M' => (∀ t, t ≠ q → M'.1 t = M.1 t) ∧ ∀ j, j < 123 → M'.1 q j = M.1 p j) v M' → KQ κ v M') : ∀ (f i : Nat) (M1 : Mem), i ≤ 123 → 123 - i < f → (∀ t, t ≠ q → M1.1 t = M.1 t) → (∀ j, j < i → M1.1 q j = M.1 p j) → G κ lyR 2 [some (.ref p), some (.ref q), some (.int (nI i))] [] M1 := by
  intro f
  induction f with
  | zero => intro i M1 _ h; omega
  | succ f ih =>
    intro i M1 hi hf ho hj
    have hin : (123 : Int32) ≤ nI i ↔ 123 ≤ i := nI_leI (a := 123) (by omega) (by omega)
    refine u_iload_n (pc := 2) C d_M_copy_2 rfl ?_
    refine u_bipush (pc := 3) (v := 123) C d_M_copy_3 (by decide) ?_
    refine u_icmp_ge (pc := 5) (tgt := 20) C d_M_copy_5 rfl (fun c5 => ?_) (fun c5 => ?_)
    · refine u_vret (pc := 20) C d_M_copy_20 (hQ _ _ ⟨rfl, ?_⟩)
      have hi2 : i = 123 := by rw [hin] at c5; omega
      subst hi2
      exact ⟨ho, hj⟩
    · refine u_aload_n (pc := 8) C d_M_copy_8 rfl ?_
      refine u_iload_n (pc := 9) C d_M_copy_9 rfl ?_
      refine u_aload_n (pc := 10) C d_M_copy_10 rfl ?_
      refine u_iload_n (pc := 11) C d_M_copy_11 rfl ?_
      refine u_iald (pc := 12) C d_M_copy_12 hp (vp_in_nI (by rw [hin] at c5; omega) (by decide)) ?_
      refine u_iast (pc := 13) C d_M_copy_13 hq (vp_in_nI (by rw [hin] at c5; omega) (by decide)) ?_
      refine u_iinc (pc := 14) (v2 := 1) C d_M_copy_14 rfl rfl (by decide) (fun x14 e14 L9 hL9 => ?_)
      obtain rfl : L9 = [some (.ref p), some (.ref q), some (.int x14)] := hL9.symm
      refine u_goto (pc := 17) (tgt := 2) C d_M_copy_17 rfl ?_
      obtain rfl : x14 = nI (i + 1) := by rw [e14, nI_succ]
      have hlt : i < 123 := by rw [hin] at c5; omega
      refine ih (i + 1) _ (by omega) (by omega) (fun t ht => ?_) (fun j hj2 => ?_)
      · rw [up_ne ht, ho t ht]
      · rw [nI_clamp (by omega)]
        by_cases e : j = i
        · subst e
          show (if q = q ∧ j = j then _ else _) = _
          rw [if_pos ⟨rfl, rfl⟩, ho p hpq]
        · rw [up_j e]
          exact hj j (by omega)
set_option maxRecDepth 20000 in
theorem c_M_copy {p q : Nat} {M : Mem} (hp : sh lyR p 1 123) (hq : sh lyR q 1 123) (hpq : p ≠ q)  : Ct lyR y_M_copy b_M_copy 3 none 0 [.ref p, .ref q] M (Pv fun M' => (∀ t, t ≠ q → M'.1 t = M.1 t) ∧ ∀ j, j < 123 → M'.1 q j = M.1 p j) := by
  refine Ct.ofG mx_M_copy [some (.ref p), some (.ref q), none] rfl rfl (Nat.le_of_ble_eq_true rfl) (fun κ C hQ => ?_)
  refine u_iconst (pc := 0) (v := 0) C d_M_copy_0 (by decide) ?_
  refine u_istore_n (pc := 1) C d_M_copy_1 rfl (fun x1 e1 L9 hL9 => ?_)
  obtain rfl : L9 = [some (.ref p), some (.ref q), some (.int x1)] := hL9.symm
  subst e1
  exact lp_copy hp hq hpq C hQ 124 0 M (by omega) (by omega) (fun _ _ => rfl) (fun j hj => absurd hj (Nat.not_lt_zero j))
set_option maxRecDepth 20000 in
theorem c_M_isLost {M : Mem} : Ct lyR y_M_isLost b_M_isLost 1 (some .boolean) 0 [.ref 0] M (Pi fun r M' => r = (if M.1 6 0 ≤ 0 ∨ M.1 6 1 ≤ 0 then 1 else 0) ∧ M' = M) := by
  refine Ct.ofG mx_M_isLost [some (.ref 0)] rfl rfl (Nat.le_of_ble_eq_true rfl) (fun κ C hQ => ?_)
  refine u_aload_n (pc := 0) C d_M_isLost_0 rfl ?_
  refine u_getr (pc := 1) (r := 6) C d_M_isLost_1 fw_M_25 sR_0 rfl rfl ?_
  refine u_iconst (pc := 4) (v := 0) C d_M_isLost_4 (by decide) ?_
  refine u_iald (pc := 5) C d_M_isLost_5 sR_6 (vp_in_nI (n := 0) (by decide) (by decide)) ?_
  refine u_if_le (pc := 6) (tgt := 18) C d_M_isLost_6 rfl (fun c6 => ?_) (fun c6 => ?_)
  · refine u_iconst (pc := 18) (v := 1) C d_M_isLost_18 (by decide) ?_
    refine u_goto (pc := 19) (tgt := 23) C d_M_isLost_19 rfl ?_
    refine u_zret (pc := 23) C d_M_isLost_23 (by decide) (hQ _ _ ⟨_, rfl, ?_⟩)
    refine ⟨?_, rfl⟩
    exact (if_pos (Or.inl c6)).symm
  · refine u_aload_n (pc := 9) C d_M_isLost_9 rfl ?_
    refine u_getr (pc := 10) (r := 6) C d_M_isLost_10 fw_M_25 sR_0 rfl rfl ?_
    refine u_iconst (pc := 13) (v := 1) C d_M_isLost_13 (by decide) ?_
    refine u_iald (pc := 14) C d_M_isLost_14 sR_6 (vp_in_nI (n := 1) (by decide) (by decide)) ?_
    refine u_if_gt (pc := 15) (tgt := 22) C d_M_isLost_15 rfl (fun c15 => ?_) (fun c15 => ?_)
    · refine u_iconst (pc := 22) (v := 0) C d_M_isLost_22 (by decide) ?_
      refine u_zret (pc := 23) C d_M_isLost_23 (by decide) (hQ _ _ ⟨_, rfl, ?_⟩)
      refine ⟨?_, rfl⟩
      exact (if_neg (fun z => z.elim c6 (Int32.not_le.mpr c15))).symm
    · refine u_iconst (pc := 18) (v := 1) C d_M_isLost_18 (by decide) ?_
      refine u_goto (pc := 19) (tgt := 23) C d_M_isLost_19 rfl ?_
      refine u_zret (pc := 23) C d_M_isLost_23 (by decide) (hQ _ _ ⟨_, rfl, ?_⟩)
      refine ⟨?_, rfl⟩
      exact (if_pos (Or.inr (Int32.not_lt.mp c15))).symm
set_option maxRecDepth 20000 in
theorem c_M_worthOf {p : Nat} {M : Mem} (hp : p < 2) : Ct lyR y_M_worthOf b_M_worthOf 2 (some .int) 0 [.ref 0, .int (nI p)] M (Pi fun r M' => r = M.1 6 p - M.1 6 (1 - p) ∧ M' = M) := by
  refine Ct.ofG mx_M_worthOf [some (.ref 0), some (.int (nI p))] rfl rfl (Nat.le_of_ble_eq_true rfl) (fun κ C hQ => ?_)
  refine u_aload_n (pc := 0) C d_M_worthOf_0 rfl ?_
  refine u_getr (pc := 1) (r := 6) C d_M_worthOf_1 fw_M_25 sR_0 rfl rfl ?_
  refine u_iconst (pc := 4) (v := 0) C d_M_worthOf_4 (by decide) ?_
  refine u_iload_n (pc := 5) C d_M_worthOf_5 rfl ?_
  refine u_iadd (pc := 6) C d_M_worthOf_6 ?_
  refine u_iald (pc := 7) C d_M_worthOf_7 sR_6 (vp0 (by omega)) ?_
  refine u_aload_n (pc := 8) C d_M_worthOf_8 rfl ?_
  refine u_getr (pc := 9) (r := 6) C d_M_worthOf_9 fw_M_25 sR_0 rfl rfl ?_
  refine u_iconst (pc := 12) (v := 1) C d_M_worthOf_12 (by decide) ?_
  refine u_iload_n (pc := 13) C d_M_worthOf_13 rfl ?_
  refine u_isub (pc := 14) C d_M_worthOf_14 ?_
  refine u_iald (pc := 15) C d_M_worthOf_15 sR_6 (by rw [show (1 : Int32) = nI 1 from rfl, pk_sub (by omega)]; exact vp_in_nI (by omega) (by decide)) ?_
  refine u_isub (pc := 16) C d_M_worthOf_16 ?_
  refine u_iret (pc := 17) C d_M_worthOf_17 (hQ _ _ ⟨_, rfl, ?_⟩)
  refine ⟨?_, rfl⟩
  rw [ix0 (by omega), show (1 : Int32) = nI 1 from rfl, pk_sub (by omega), nI_clamp (by omega)]
set_option maxRecDepth 20000 in
theorem c_M_familyOf {k : Int32} {M : Mem} : Ct lyR y_M_familyOf b_M_familyOf 1 (some .int) 0 [.int k] M (Pi fun r M' => r = famF k ∧ M' = M) := by
  refine Ct.ofG mx_M_familyOf [some (.int k)] rfl rfl (Nat.le_of_ble_eq_true rfl) (fun κ C hQ => ?_)
  refine u_iload_n (pc := 0) C d_M_familyOf_0 rfl ?_
  refine u_iconst (pc := 1) (v := 4) C d_M_familyOf_1 (by decide) ?_
  refine u_icmp_gt (pc := 2) (tgt := 9) C d_M_familyOf_2 rfl (fun c2 => ?_) (fun c2 => ?_)
  · refine u_iload_n (pc := 9) C d_M_familyOf_9 rfl ?_
    refine u_bipush (pc := 10) (v := 8) C d_M_familyOf_10 (by decide) ?_
    refine u_icmp_gt (pc := 12) (tgt := 19) C d_M_familyOf_12 rfl (fun c12 => ?_) (fun c12 => ?_)
    · refine u_iload_n (pc := 19) C d_M_familyOf_19 rfl ?_
      refine u_bipush (pc := 20) (v := 13) C d_M_familyOf_20 (by decide) ?_
      refine u_icmp_gt (pc := 22) (tgt := 29) C d_M_familyOf_22 rfl (fun c22 => ?_) (fun c22 => ?_)
      · refine u_iconst (pc := 29) (v := 4) C d_M_familyOf_29 (by decide) ?_
        refine u_iret (pc := 30) C d_M_familyOf_30 (hQ _ _ ⟨_, rfl, ?_⟩)
        exact ⟨by simp [famF, *], rfl⟩
      · refine u_iconst (pc := 25) (v := 3) C d_M_familyOf_25 (by decide) ?_
        refine u_goto (pc := 26) (tgt := 30) C d_M_familyOf_26 rfl ?_
        refine u_iret (pc := 30) C d_M_familyOf_30 (hQ _ _ ⟨_, rfl, ?_⟩)
        exact ⟨by simp [famF, *], rfl⟩
    · refine u_iconst (pc := 15) (v := 2) C d_M_familyOf_15 (by decide) ?_
      refine u_goto (pc := 16) (tgt := 30) C d_M_familyOf_16 rfl ?_
      refine u_iret (pc := 30) C d_M_familyOf_30 (hQ _ _ ⟨_, rfl, ?_⟩)
      exact ⟨by simp [famF, *], rfl⟩
  · refine u_iconst (pc := 5) (v := 1) C d_M_familyOf_5 (by decide) ?_
    refine u_goto (pc := 6) (tgt := 30) C d_M_familyOf_6 rfl ?_
    refine u_iret (pc := 30) C d_M_familyOf_30 (hQ _ _ ⟨_, rfl, ?_⟩)
    exact ⟨by simp [famF, *], rfl⟩
