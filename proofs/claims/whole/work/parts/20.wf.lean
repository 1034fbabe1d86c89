/-! what holds of every game: the table by age, the pile's things, clocks, bounds; and that it stays -/
def tc (g : Gm) : Nat → Nat
  | 0 => 0
  | c + 1 => tc g c + if g 3 c = 3 ∨ g 3 c = 4 then 1 else 0
theorem tc_le {g : Gm} : ∀ n, tc g n ≤ n := by
  intro n
  induction n with
  | zero => exact Nat.le_refl _
  | succ n ih => rw [tc]; split <;> omega
theorem tc_eq {g h : Gm} {n : Nat} (e : ∀ c, c < n → g 3 c = h 3 c) : tc g n = tc h n := by
  induction n with
  | zero => rfl
  | succ n ih => rw [tc, tc, ih (fun c hc => e c (by omega)), e n (by omega)]
theorem tc_up {g : Gm} {c : Nat} {x : Int32} : ∀ n, c < n → tc (up2 g 3 c x) n + (if g 3 c = 3 ∨ g 3 c = 4 then 1 else 0) = tc g n + (if x = 3 ∨ x = 4 then 1 else 0) := by
  intro n
  induction n with
  | zero => intro h; omega
  | succ n ih =>
    intro h
    by_cases e : n = c
    · subst e
      rw [tc, tc, up2_e, tc_eq (g := up2 g 3 n x) (h := g) (fun d hd => up2_n (by omega))]
      omega
    · have := ih (by omega)
      rw [tc, tc, up2_n e]
      omega
def thV (n : Nat) (g : Gm) (x : Int32) : Prop := (∃ c, c < n ∧ x = nI c ∧ g 3 c = 2) ∨ ∃ t p a, t < 3 ∧ p < 2 ∧ a ≤ 99 ∧ x = nI (10000 + 1000 * t + 100 * p + a)
def WFg (cd : Nat → Nat → Int32) (n : Nat) (g : Gm) (tb : List Nat) : Prop :=
  (n ≤ 24 ∧ WFc cd n) ∧ (tb.Nodup ∧ (∀ c, c ∈ tb ↔ c < n ∧ g 3 c = 3) ∧ tb.Pairwise (fun a b => g 4 a < g 4 b)) ∧ (∀ c, c < n → ∃ p, p ≤ 4 ∧ g 3 c = nI p) ∧
  (∃ h, h ≤ 64 ∧ g 1 4 = nI h ∧ (∀ i, i < h → thV n g (g 2 i)) ∧ ∀ i j, i < h → j < h → g 2 i = g 2 j → g 2 i < 10000 → i = j) ∧
  (∃ cl, g 1 0 = nI cl ∧ cl ≤ tc g n ∧ ∀ c, c ∈ tb → ∃ a, a < cl ∧ g 4 c = nI a) ∧ (g 1 2 = 0 ∨ g 1 2 = 1) ∧ ∀ v, v < 4 → -99 ≤ (g 5 v).toInt ∧ (g 5 v).toInt ≤ 99
theorem nodup_len {n : Nat} : ∀ {l : List Nat}, l.Nodup → (∀ x, x ∈ l → x < n) → l.length ≤ n := by
  induction n with
  | zero =>
    intro l _ hb
    cases l with
    | nil => exact Nat.le_refl _
    | cons a l => exact absurd (hb a List.mem_cons_self) (by omega)
  | succ n ih =>
    intro l h hb
    have h1 := ih (l := l.erase n) (h.erase n) (fun x hx => by
      obtain ⟨a1, a2⟩ := (List.Nodup.mem_erase_iff h).mp hx
      have := hb x a2
      omega)
    by_cases hm : n ∈ l
    · rw [List.length_erase_of_mem hm] at h1
      have := List.length_pos_of_mem hm
      omega
    · rw [List.erase_of_not_mem hm] at h1
      omega
theorem WFg.tl {cd : Nat → Nat → Int32} {n : Nat} {g : Gm} {tb : List Nat} (h : WFg cd n g tb) : tb.length ≤ 24 ∧ (∀ d, d ∈ tb → d < n) ∧ ∀ d, d ∈ tb → d < 24 := by
  have h1 : ∀ d, d ∈ tb → d < n := fun d hd => ((h.2.1.2.1 d).mp hd).1
  have h2 := nodup_len h.2.1.1 h1
  have h3 := h.1.1
  exact ⟨by omega, h1, fun d hd => by have := h1 d hd; omega⟩
theorem thV.mono {n : Nat} {g g' : Gm} {x : Int32} (h : thV n g x) (he : ∀ c, c < n → x = nI c → g 3 c = 2 → g' 3 c = 2) : thV n g' x := by
  rcases h with ⟨c, h1, h2, h3⟩ | h
  · exact Or.inl ⟨c, h1, h2, he c h1 h2 h3⟩
  · exact Or.inr h
/-- a change that leaves cards and the pile as they are -/
theorem WFg.keep {cd : Nat → Nat → Int32} {n : Nat} {g g' : Gm} {tb : List Nat} (h : WFg cd n g tb) (e2 : g' 2 = g 2) (e3 : g' 3 = g 3) (e4 : g' 4 = g 4) (e5 : g' 5 = g 5) (e10 : g' 1 0 = g 1 0) (e12 : g' 1 2 = g 1 2) (e14 : g' 1 4 = g 1 4) : WFg cd n g' tb := by
  unfold WFg thV at h ⊢
  rw [e2, e3, e4, e5, e10, e12, e14, tc_eq (g := g') (h := g) (fun c _ => by rw [e3])]
  exact h
theorem WFg.chgL {cd : Nat → Nat → Int32} {n : Nat} {g : Gm} {tb : List Nat} (h : WFg cd n g tb) (p b : Int32) : WFg cd n (chg g p b) tb := by
  unfold chg
  exact h.keep (up2_s (by decide)) (up2_s (by decide)) (up2_s (by decide)) (up2_s (by decide)) (by rw [up2_s (by decide)]) (by rw [up2_s (by decide)]) (by rw [up2_s (by decide)])
theorem WFg.seed {cd : Nat → Nat → Int32} {n : Nat} {g : Gm} {tb : List Nat} (h : WFg cd n g tb) (s : Int32) : WFg cd n (up2 g 1 1 s) tb :=
  h.keep (up2_s (by decide)) (up2_s (by decide)) (up2_s (by decide)) (up2_s (by decide)) (up2_n (by decide)) (up2_n (by decide)) (up2_n (by decide))
/-- a card that isn't on the table, nor on the pile, goes elsewhere, not to the table -/
theorem WFg.place {cd : Nat → Nat → Int32} {n c p : Nat} {g : Gm} {tb : List Nat} (h : WFg cd n g tb) (hc : c < n) (h3 : g 3 c ≠ 3) (hp : p ≤ 4) (hp3 : p ≠ 3) (h4 : g 3 c = 4 → p = 4) (hpile : ∀ i, i < (g 1 4).toNatClampNeg → g 2 i ≠ nI c) : WFg cd n (up2 g 3 c (nI p)) tb := by
  obtain ⟨a1, ⟨a2, a3, a4⟩, a5, ⟨hh, b1, b2, b3, b4⟩, ⟨cl, d1, d2, d3⟩, a6, a7⟩ := h
  have hn3 : nI p ≠ 3 := fun q => hp3 ((nI_eq (a := p) (b := 3) (by omega) (by omega)).mp q)
  refine ⟨a1, ⟨a2, fun d => ?_, a4⟩, fun d hd => ?_, ⟨hh, b1, b2, fun i hi => ?_, b4⟩, ⟨cl, d1, ?_, d3⟩, a6, a7⟩
  · rw [a3]
    by_cases e : d = c
    · subst e
      rw [up2_e]
      exact ⟨fun q => absurd q.2 h3, fun q => absurd q.2 hn3⟩
    · rw [up2_n e]
  · by_cases e : d = c
    · subst e
      exact ⟨p, hp, up2_e⟩
    · rw [up2_n e]
      exact a5 d hd
  · refine (b3 i hi).mono (fun d _ hx hd2 => ?_)
    have hne : d ≠ c := fun q => hpile i (by rw [b2, nI_clamp (by omega)]; exact hi) (by rw [← q]; exact hx)
    rw [up2_n hne]
    exact hd2
  · have ht := tc_up (g := g) (x := nI p) n hc
    by_cases e4 : g 3 c = 4
    · have := h4 e4
      subst this
      rw [if_pos (show g 3 c = 3 ∨ g 3 c = 4 from Or.inr e4), if_pos (show nI 4 = 3 ∨ nI 4 = 4 from Or.inr rfl)] at ht
      omega
    · rw [if_neg (fun q => by rcases q with q | q; exact h3 q; exact e4 q)] at ht
      omega
theorem WFg.offpile {cd : Nat → Nat → Int32} {n c : Nat} {g : Gm} {tb : List Nat} (h : WFg cd n g tb) (hc : c < n) (h2 : g 3 c ≠ 2) : ∀ i, i < (g 1 4).toNatClampNeg → g 2 i ≠ nI c := by
  obtain ⟨⟨a1, -⟩, -, -, ⟨hh, b1, b2, b3, b4⟩, -⟩ := h
  intro i hi q
  rw [b2, nI_clamp (by omega)] at hi
  rcases b3 i hi with ⟨d, e1, e2, e3⟩ | ⟨t, p, a, e1, e2, e3, e4⟩
  · have : d = c := (nI_eq (by omega) (by omega)).mp (by rw [← e2, q])
    subst this
    exact h2 e3
  · have := (nI_eq (by omega) (by omega)).mp (e4.symm.trans q)
    omega
theorem WFg.pop {cd : Nat → Nat → Int32} {n h : Nat} {g : Gm} {tb : List Nat} (hw : WFg cd n g tb) (hh : g 1 4 = nI h) (h0 : 0 < h) (h64 : h ≤ 64) : WFg cd n (popd g) tb ∧ thV n g (top g) ∧ ∀ c, top g = nI c → c < n → ∀ i, i < ((popd g) 1 4).toNatClampNeg → (popd g) 2 i ≠ nI c := by
  obtain ⟨a1, ⟨a2, a3, a4⟩, a5, ⟨hx, b1, b2, b3, b4⟩, ⟨cl, d1, d2, d3⟩, a6, a7⟩ := hw
  have e : hx = h := (nI_eq (by omega) (by omega)).mp (by rw [← b2, hh])
  subst e
  have hp : (popd g) 1 4 = nI (hx - 1) := by rw [popd, up2_e, hh, nI_sub1 h0]
  have ht : top g = g 2 (hx - 1) := by rw [top, hh, nI_sub1 h0, nI_clamp (by omega)]
  have p2 : (popd g) 2 = g 2 := up2_s (by decide)
  have p3 : (popd g) 3 = g 3 := up2_s (by decide)
  refine ⟨⟨a1, ⟨a2, ?_, ?_⟩, ?_, ⟨hx - 1, by omega, hp, fun i hi => ?_, fun i j hi hj q r => ?_⟩, ⟨cl, ?_, ?_, ?_⟩, ?_, ?_⟩, ?_, fun c hc hcn i hi q => ?_⟩
  · rw [p3]; exact a3
  · rw [show (popd g) 4 = g 4 from up2_s (by decide)]; exact a4
  · rw [p3]; exact a5
  · rw [p2]
    exact (b3 i (by omega)).mono (fun d _ _ hd => by rw [p3]; exact hd)
  · rw [p2] at q r
    exact b4 i j (by omega) (by omega) q r
  · rw [popd, up2_n (by decide)]; exact d1
  · rw [tc_eq (g := popd g) (h := g) (fun c _ => by rw [p3])]; exact d2
  · rw [show (popd g) 4 = g 4 from up2_s (by decide)]; exact d3
  · rw [popd, up2_n (by decide)]; exact a6
  · rw [show (popd g) 5 = g 5 from up2_s (by decide)]; exact a7
  · rw [ht]; exact b3 (hx - 1) (by omega)
  · rw [hp, nI_clamp (by omega)] at hi
    rw [p2] at q
    have h1 := a1.1
    have hlt : g 2 i < 10000 := by rw [q]; exact nI_lt (b := 10000) (by omega) (by decide)
    have := b4 i (hx - 1) (by omega) (by omega) (by rw [q, ← ht, hc]) hlt
    omega
theorem WFg.push {cd : Nat → Nat → Int32} {n : Nat} {g : Gm} {tb : List Nat} {x : Int32} (hw : WFg cd n g tb) (hx : thV n g x) (hnew : x < 10000 → ∀ i, i < (g 1 4).toNatClampNeg → g 2 i ≠ x) : WFg cd n (psh g x) tb := by
  obtain ⟨a1, ⟨a2, a3, a4⟩, a5, ⟨h, b1, b2, b3, b4⟩, ⟨cl, d1, d2, d3⟩, a6, a7⟩ := id hw
  unfold psh
  split
  · rename_i hl
    have hl2 : h < 64 := (nI_ltI (b := 64) (by omega) (by omega)).mp (by rw [← b2]; exact hl)
    rw [b2, nI_clamp (by omega)] at hnew ⊢
    have p3 : (up2 (up2 g 2 h x) 1 4 (nI h + 1)) 3 = g 3 := by rw [up2_s (by decide), up2_s (by decide)]
    have p2 : ∀ i, (up2 (up2 g 2 h x) 1 4 (nI h + 1)) 2 i = if i = h then x else g 2 i := fun i => by
      rw [up2_s (by decide)]
      by_cases e : i = h
      · subst e; rw [up2_e, if_pos rfl]
      · rw [up2_n e, if_neg e]
    refine ⟨a1, ⟨a2, ?_, ?_⟩, ?_, ⟨h + 1, by omega, ?_, fun i hi => ?_, fun i j hi hj q r => ?_⟩, ⟨cl, ?_, ?_, ?_⟩, ?_, ?_⟩
    · rw [p3]; exact a3
    · rw [show (up2 (up2 g 2 h x) 1 4 (nI h + 1)) 4 = g 4 by rw [up2_s (by decide), up2_s (by decide)]]; exact a4
    · rw [p3]; exact a5
    · rw [up2_e, nI_succ]
    · rw [p2]
      by_cases e : i = h
      · rw [if_pos e]
        exact hx.mono (fun d _ _ hd => by rw [p3]; exact hd)
      · rw [if_neg e]
        exact (b3 i (by omega)).mono (fun d _ _ hd => by rw [p3]; exact hd)
    · rw [p2] at q r
      rw [p2] at q
      by_cases ei : i = h <;> by_cases ej : j = h
      · omega
      · rw [if_pos ei] at q r; rw [if_neg ej] at q
        exact absurd q.symm (hnew r j (by omega))
      · rw [if_neg ei] at q r; rw [if_pos ej] at q
        exact absurd q (hnew (by rw [← q]; exact r) i (by omega))
      · rw [if_neg ei] at q r; rw [if_neg ej] at q
        exact b4 i j (by omega) (by omega) q r
    · rw [up2_n (by decide), up2_s (by decide)]; exact d1
    · rw [tc_eq (g := up2 (up2 g 2 h x) 1 4 (nI h + 1)) (h := g) (fun c _ => by rw [p3])]; exact d2
    · rw [show (up2 (up2 g 2 h x) 1 4 (nI h + 1)) 4 = g 4 by rw [up2_s (by decide), up2_s (by decide)]]; exact d3
    · rw [up2_n (by decide), up2_s (by decide)]; exact a6
    · rw [show (up2 (up2 g 2 h x) 1 4 (nI h + 1)) 5 = g 5 by rw [up2_s (by decide), up2_s (by decide)]]; exact a7
  · exact hw
theorem WFg.lay {cd : Nat → Nat → Int32} {n c : Nat} {g : Gm} {tb : List Nat} (hw : WFg cd n g tb) (hc : c < n) (h2 : g 3 c = 2) (hpile : ∀ i, i < (g 1 4).toNatClampNeg → g 2 i ≠ nI c) : WFg cd n (up2 (up2 (up2 g 3 c 3) 4 c (g 1 0)) 1 0 (g 1 0 + 1)) (tb ++ [c]) := by
  obtain ⟨a1, ⟨a2, a3, a4⟩, a5, ⟨hh, b1, b2, b3, b4⟩, ⟨cl, d1, d2, d3⟩, a6, a7⟩ := id hw
  have hct : c ∉ tb := fun q => by
    have := ((a3 c).mp q).2
    rw [h2] at this
    exact absurd this (by decide)
  have q3 : (up2 (up2 (up2 g 3 c 3) 4 c (g 1 0)) 1 0 (g 1 0 + 1)) 3 = (up2 g 3 c 3) 3 := by rw [up2_s (by decide), up2_s (by decide)]
  have q4 : ∀ d, d ≠ c → (up2 (up2 (up2 g 3 c 3) 4 c (g 1 0)) 1 0 (g 1 0 + 1)) 4 d = g 4 d := fun d hd => by rw [up2_s (by decide), up2_n hd, up2_s (by decide)]
  have q4c : (up2 (up2 (up2 g 3 c 3) 4 c (g 1 0)) 1 0 (g 1 0 + 1)) 4 c = g 1 0 := by rw [up2_s (by decide), up2_e]
  have hne : ∀ d, d ∈ tb → d ≠ c := fun d hd q => hct (q ▸ hd)
  have htc := tc_up (g := g) (x := 3) n hc
  rw [h2, if_neg (by decide), if_pos (Or.inl rfl)] at htc
  have htl := tc_le (g := up2 g 3 c 3) n
  have hn := a1.1
  refine ⟨a1, ⟨?_, fun d => ?_, ?_⟩, fun d hd => ?_, ⟨hh, b1, ?_, fun i hi => ?_, ?_⟩, ⟨cl + 1, ?_, ?_, fun d hd => ?_⟩, ?_, ?_⟩
  · exact List.nodup_append.mpr ⟨a2, by simp, fun a ha b hb => by simp at hb; rw [hb]; exact hne a ha⟩
  · rw [q3, List.mem_append, List.mem_singleton, a3]
    by_cases e : d = c
    · subst e; rw [up2_e]; exact ⟨fun _ => ⟨hc, rfl⟩, fun _ => Or.inr rfl⟩
    · rw [up2_n e]
      exact ⟨fun q => by rcases q with q | q; exact q; exact absurd q e, fun q => Or.inl q⟩
  · refine List.pairwise_append.mpr ⟨?_, List.pairwise_singleton _ _, fun a ha b hb => ?_⟩
    · refine a4.imp_of_mem (fun {a b} ha hb h => ?_)
      rw [q4 a (hne a ha), q4 b (hne b hb)]
      exact h
    · rw [List.mem_singleton.mp hb, q4 a (hne a ha), q4c, d1]
      obtain ⟨x, hx, e⟩ := d3 a ha
      rw [e]
      exact nI_lt hx (by omega)
  · rw [q3]
    by_cases e : d = c
    · subst e; exact ⟨3, by decide, up2_e⟩
    · rw [up2_n e]; exact a5 d hd
  · rw [up2_n (by decide), up2_s (by decide), up2_s (by decide)]; exact b2
  · rw [show (up2 (up2 (up2 g 3 c 3) 4 c (g 1 0)) 1 0 (g 1 0 + 1)) 2 = g 2 by rw [up2_s (by decide), up2_s (by decide), up2_s (by decide)]]
    refine (b3 i hi).mono (fun d _ hx hd2 => ?_)
    have hd : d ≠ c := fun q => hpile i (by rw [b2, nI_clamp (by omega)]; exact hi) (by rw [← q]; exact hx)
    rw [q3, up2_n hd]
    exact hd2
  · rw [show (up2 (up2 (up2 g 3 c 3) 4 c (g 1 0)) 1 0 (g 1 0 + 1)) 2 = g 2 by rw [up2_s (by decide), up2_s (by decide), up2_s (by decide)]]
    exact b4
  · rw [up2_e, d1, nI_succ]
  · rw [tc_eq (g := up2 (up2 (up2 g 3 c 3) 4 c (g 1 0)) 1 0 (g 1 0 + 1)) (h := up2 g 3 c 3) (fun d _ => by rw [q3])]
    omega
  · rcases List.mem_append.mp hd with q | q
    · obtain ⟨x, hx, e⟩ := d3 d q
      exact ⟨x, by omega, by rw [q4 d (hne d q)]; exact e⟩
    · rw [List.mem_singleton.mp q]
      exact ⟨cl, by omega, by rw [q4c]; exact d1⟩
  · rw [up2_n (by decide), up2_s (by decide), up2_s (by decide)]; exact a6
  · rw [show (up2 (up2 (up2 g 3 c 3) 4 c (g 1 0)) 1 0 (g 1 0 + 1)) 5 = g 5 by rw [up2_s (by decide), up2_s (by decide), up2_s (by decide)]]; exact a7
theorem WFg.gone {cd : Nat → Nat → Int32} {n c : Nat} {g : Gm} {tb : List Nat} (hw : WFg cd n g tb) (hc : c ∈ tb) : WFg cd n (put4 g c) (tb.erase c) := by
  obtain ⟨a1, ⟨a2, a3, a4⟩, a5, ⟨hh, b1, b2, b3, b4⟩, ⟨cl, d1, d2, d3⟩, a6, a7⟩ := id hw
  obtain ⟨hcn, hc3⟩ := (a3 c).mp hc
  have hpile := hw.offpile hcn (by rw [hc3]; decide)
  have htc := tc_up (g := g) (x := 4) n hcn
  rw [if_pos (Or.inl hc3), if_pos (Or.inr rfl)] at htc
  unfold put4
  refine ⟨a1, ⟨a2.erase c, fun d => ?_, ?_⟩, fun d hd => ?_, ⟨hh, b1, b2, fun i hi => ?_, b4⟩, ⟨cl, d1, by omega, fun d hd => d3 d (List.mem_of_mem_erase hd)⟩, a6, a7⟩
  · rw [List.Nodup.mem_erase_iff a2, a3]
    by_cases e : d = c
    · subst e; rw [up2_e]; exact ⟨fun q => absurd rfl q.1, fun q => absurd q.2 (by decide)⟩
    · rw [up2_n e]; exact ⟨fun q => q.2, fun q => ⟨e, q⟩⟩
  · exact a4.sublist List.erase_sublist
  · by_cases e : d = c
    · subst e; exact ⟨4, by decide, up2_e⟩
    · rw [up2_n e]; exact a5 d hd
  · refine (b3 i hi).mono (fun d _ hx hd2 => ?_)
    have hd : d ≠ c := fun q => hpile i (by rw [b2, nI_clamp (by omega)]; exact hi) (by rw [← q]; exact hx)
    rw [up2_n hd]
    exact hd2
