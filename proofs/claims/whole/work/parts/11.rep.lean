/-! a game of the class holds a game of the model -/
def Off (S : Nat → Prop) (M M' : Mem) : Prop := ∀ p, ¬ S p → M'.1 p = M.1 p ∧ M'.2 p = M.2 p
def blk (k p : Nat) : Prop := gp k ≤ p ∧ p < gp k + 7
theorem Off.refl {S : Nat → Prop} {M : Mem} : Off S M M := fun _ _ => ⟨rfl, rfl⟩
theorem Off.trans {S : Nat → Prop} {M M1 M2 : Mem} (h1 : Off S M M1) (h2 : Off S M1 M2) : Off S M M2 := fun p h => ⟨(h2 p h).1.trans (h1 p h).1, (h2 p h).2.trans (h1 p h).2⟩
theorem Off.mono {S T : Nat → Prop} {M M' : Mem} (h : Off S M M') (hST : ∀ p, S p → T p) : Off T M M' := fun p hp => h p (fun q => hp (hST p q))
theorem Off.up {S : Nat → Prop} {M : Mem} {p j : Nat} {x : Int32} (hp : S p) : Off S M (up M p j x) := fun q hq => ⟨up_ne (fun e => hq (e ▸ hp)), rfl⟩
theorem putF_in {M : Mem} {p n c : Nat} {x : Int32} (h : c < n) (hn : n < 2 ^ 31) : putF M p n (nI c) x = up M p c x := by
  rw [putF, if_neg (nI_pos (by omega)), ofNat_nI, if_neg (nI_ge h hn), nI_clamp (by omega)]
theorem atF_in {f : Nat → Int32} {n c : Nat} (h : c < n) (hn : n < 2 ^ 31) : atF f n (nI c) = f c := by
  rw [atF, if_neg (nI_pos (by omega)), ofNat_nI, if_neg (nI_ge h hn), nI_clamp (by omega)]
theorem Off.put {S : Nat → Prop} {M : Mem} {p n : Nat} {i x : Int32} (hp : S p) : Off S M (putF M p n i x) := by
  unfold putF
  split
  · exact Off.refl
  · split
    · exact Off.refl
    · exact Off.up hp
def RepG (M : Mem) (k n : Nat) (g : Gm) (tb : List Nat) (m : Nat) : Prop :=
  (M.1 (gp k + 1) 0 = g 0 0 ∧ M.1 (gp k + 1) 1 = g 0 1) ∧ (∀ v, v < 4 → M.1 (gp k + 2) v = g 5 v) ∧ (∀ c, c < 24 → M.1 (gp k + 3) c = g 3 c) ∧
  (∀ c, c ∈ tb → M.1 (gp k + 4) c = g 4 c) ∧ (∀ i, i < tb.length → M.1 (gp k + 5) i = nI (tb.getD i 0)) ∧ (∀ i, i < (g 1 4).toNatClampNeg → M.1 (gp k + 6) i = g 2 i) ∧
  M.1 (gp k) 7 = nI n ∧ M.1 (gp k) 8 = nI tb.length ∧ M.1 (gp k) 9 = g 1 4 ∧ M.1 (gp k) 10 = g 1 0 ∧ M.1 (gp k) 11 = g 1 2 ∧ M.1 (gp k) 12 = g 1 3 ∧ M.1 (gp k) 13 = g 1 1 ∧ M.1 (gp k) 14 = nI m
theorem RepG.of_eq {M M' : Mem} {k n m : Nat} {g : Gm} {tb : List Nat} (h : RepG M k n g tb m) (he : ∀ p, gp k ≤ p → p < gp k + 7 → M'.1 p = M.1 p) : RepG M' k n g tb m := by
  unfold RepG at h ⊢
  rw [he (gp k) (by omega) (by omega), he (gp k + 1) (by omega) (by omega), he (gp k + 2) (by omega) (by omega), he (gp k + 3) (by omega) (by omega), he (gp k + 4) (by omega) (by omega), he (gp k + 5) (by omega) (by omega), he (gp k + 6) (by omega) (by omega)]
  exact h
theorem RepG.off {S : Nat → Prop} {M M' : Mem} {k n m : Nat} {g : Gm} {tb : List Nat} (h : RepG M k n g tb m) (ho : Off S M M') (hS : ∀ p, S p → ¬ blk k p) : RepG M' k n g tb m :=
  h.of_eq (fun p h1 h2 => (ho p (fun q => hS p q ⟨h1, h2⟩)).1)
theorem blk0 {k : Nat} : blk k (gp k) := ⟨by omega, by omega⟩
theorem blkj {k : Nat} (j : Nat) (h : j < 7) : blk k (gp k + j) := ⟨by omega, by omega⟩
theorem up2_e {g : Gm} {s j : Nat} {x : Int32} : up2 g s j x s j = x := by simp [up2]
theorem up2_s {g : Gm} {s t j : Nat} {x : Int32} (h : t ≠ s) : up2 g s j x t = g t := by funext b; simp [up2, h]
theorem up2_n {g : Gm} {s t j i : Nat} {x : Int32} (h : i ≠ j) : up2 g s j x t i = g t i := by simp [up2, h]
theorem mvF_off {M : Mem} {k : Nat} {c pl : Int32} : Off (blk k) M (mvF M k c pl) := (Off.put (blkj 3 (by decide))).trans (Off.up blk0)
theorem RepG.mv {M : Mem} {k n m c : Nat} {g : Gm} {tb : List Nat} {pl : Int32} (h : RepG M k n g tb m) (hc : c < 24) : RepG (mvF M k (nI c) pl) k n (up2 g 3 c pl) tb (m + 1) := by
  obtain ⟨r1, r3, r4, r5, r6, r7, r8, r9, r10, r11, r12, r13, r14, r15⟩ := h
  unfold mvF
  rw [putF_in hc (by decide)]
  refine ⟨by simpa [up, up2] using r1, by simpa [up, up2] using r3, fun d hd => ?_, by simpa [up, up2] using r5, by simpa [up, up2] using r6, by simpa [up, up2] using r7, by simp [up, r8], by simp [up, r9], by simp [up, up2, r10], by simp [up, up2, r11], by simp [up, up2, r12], by simp [up, up2, r13], by simp [up, up2, r14], by simp [up, r15, nI_succ]⟩
  by_cases e : d = c
  · subst e; simp [up, up2]
  · simp [up, up2, e, r4 d hd]
theorem pushF_off {M : Mem} {k : Nat} {x : Int32} : Off (blk k) M (pushF M k x) := by
  unfold pushF
  split
  · exact (Off.put (blkj 6 (by decide))).trans (Off.up blk0)
  · exact Off.refl
theorem RepG.push {M : Mem} {k n m h : Nat} {g : Gm} {tb : List Nat} {x : Int32} (r : RepG M k n g tb m) (hh : g 1 4 = nI h) (h64 : h ≤ 64) : RepG (pushF M k x) k n (psh g x) tb m := by
  obtain ⟨r1, r3, r4, r5, r6, r7, r8, r9, r10, r11, r12, r13, r14, r15⟩ := r
  unfold pushF psh
  rw [r10, hh]
  by_cases hl : h < 64
  · have q64 : nI h < (64 : Int32) := nI_lt (b := 64) hl (by decide)
    rw [if_pos q64, if_pos q64, putF_in hl (by decide), nI_clamp (by omega)]
    refine ⟨by simpa [up, up2] using r1, by simpa [up, up2] using r3, by simpa [up, up2] using r4, by simpa [up, up2] using r5, by simpa [up, up2] using r6, fun i hi => ?_, by simp [up, r8], by simp [up, r9], by simp [up, up2, r10, hh], by simp [up, up2, r11], by simp [up, up2, r12], by simp [up, up2, r13], by simp [up, up2, r14], by simp [up, r15]⟩
    rw [up2_e, ← nI_succ, nI_clamp (by omega)] at hi
    by_cases e : i = h
    · subst e; simp [up, up2]
    · rw [hh, nI_clamp (by omega)] at r7
      simp [up, up2, e, r7 i (by omega)]
  · have q64 : ¬ nI h < (64 : Int32) := nI_nlt (a := h) (b := 64) (by omega) (by omega)
    rw [if_neg q64, if_neg q64]
    exact ⟨r1, r3, r4, r5, r6, r7, r8, r9, r10, r11, r12, r13, r14, r15⟩
theorem popF_off {M : Mem} {k : Nat} : Off (blk k) M (popF M k) := by
  unfold popF
  split
  · exact Off.up blk0
  · exact Off.refl
theorem nI_sub1 {h : Nat} (h0 : 0 < h) : nI h - 1 = nI (h - 1) := by
  obtain ⟨j, rfl⟩ : ∃ j, h = j + 1 := ⟨h - 1, by omega⟩
  exact nI_pred j
theorem RepG.pop {M : Mem} {k n m h : Nat} {g : Gm} {tb : List Nat} (r : RepG M k n g tb m) (hh : g 1 4 = nI h) (h0 : 0 < h) (h64 : h ≤ 64) : popR M k = top g ∧ RepG (popF M k) k n (popd g) tb m := by
  obtain ⟨r1, r3, r4, r5, r6, r7, r8, r9, r10, r11, r12, r13, r14, r15⟩ := r
  have hp : (0 : Int32) < nI h := by rw [← nI_0]; exact nI_lt h0 (by omega)
  rw [hh, nI_clamp (by omega)] at r7
  unfold popR popF
  rw [r10, hh, if_pos hp, if_pos hp]
  refine ⟨?_, by simpa [up, popd, up2] using r1, by simpa [up, popd, up2] using r3, by simpa [up, popd, up2] using r4, by simpa [up, popd, up2] using r5, by simpa [up, popd, up2] using r6, fun i hi => ?_, by simp [up, r8], by simp [up, r9], by simp [up, popd, up2, hh], by simp [up, popd, up2, r11], by simp [up, popd, up2, r12], by simp [up, popd, up2, r13], by simp [up, popd, up2, r14], by simp [up, r15]⟩
  · rw [nI_sub1 h0, top, hh, nI_sub1 h0, nI_clamp (by omega)]
    rw [show (up M (gp k) 9 (nI (h - 1))).1 (gp k) 9 = nI (h - 1) by simp [up], atF_in (by omega) (by decide)]
    simp [up, r7 (h - 1) (by omega)]
  · rw [popd, up2_e, hh, nI_sub1 h0, nI_clamp (by omega)] at hi
    simp [up, popd, up2, r7 i (by omega)]
theorem chF_off {M : Mem} {k : Nat} {p b : Int32} : Off (blk k) M (chF M k p b) := Off.put (blkj 1 (by decide))
theorem pl01 {p : Int32} (h : p = 0 ∨ p = 1) : p = nI (pix p) ∧ pix p < 2 ∧ (1 - p = 0 ∨ 1 - p = 1) := by
  rcases h with rfl | rfl <;> decide
theorem RepG.life {M : Mem} {k n m : Nat} {g : Gm} {tb : List Nat} (r : RepG M k n g tb m) {p : Int32} (hp : p = 0 ∨ p = 1) : atF (M.1 (gp k + 1)) 2 p = g 0 (pix p) := by
  rcases hp with rfl | rfl
  · exact (atF_in (c := 0) (by decide) (by decide)).trans r.1.1
  · exact (atF_in (c := 1) (by decide) (by decide)).trans r.1.2
theorem RepG.ch {M : Mem} {k n m : Nat} {g : Gm} {tb : List Nat} (r : RepG M k n g tb m) {p b : Int32} (hp : p = 0 ∨ p = 1) : RepG (chF M k p b) k n (chg g p b) tb m := by
  have hl := r.life hp
  obtain ⟨r1, r3, r4, r5, r6, r7, r8, r9, r10, r11, r12, r13, r14, r15⟩ := r
  unfold chF chg
  rw [hl]
  generalize withinF (g 0 (pix p) + b) (-99) 99 = z
  have e : putF M (gp k + 1) 2 p z = up M (gp k + 1) (pix p) z := by
    rw [(pl01 hp).1, putF_in (pl01 hp).2.1 (by decide)]
    rcases hp with rfl | rfl <;> rfl
  rw [e]
  refine ⟨?_, by simpa [up, up2] using r3, by simpa [up, up2] using r4, by simpa [up, up2] using r5, by simpa [up, up2] using r6, by simpa [up, up2] using r7, by simp [up, r8], by simp [up, r9], by simp [up, up2, r10], by simp [up, up2, r11], by simp [up, up2, r12], by simp [up, up2, r13], by simp [up, up2, r14], by simp [up, r15]⟩
  simp [up, up2, r1]
theorem RepG.wo {M : Mem} {k n m : Nat} {g : Gm} {tb : List Nat} (r : RepG M k n g tb m) {p : Int32} (hp : p = 0 ∨ p = 1) : woF M k p = g 0 (pix p) - g 0 (pix (1 - p)) := by
  rw [woF, r.life hp, r.life (pl01 hp).2.2]
theorem RepG.lb {M : Mem} {k n m : Nat} {g : Gm} {tb : List Nat} (r : RepG M k n g tb m) : lbF M k = (if g 0 0 ≤ 0 then 1 else 0) + (if g 0 1 ≤ 0 then 2 else 0) := by
  have h0 := r.life (p := 0) (Or.inl rfl)
  have h1 := r.life (p := 1) (Or.inr rfl)
  rw [lbF, h0, h1, show pix 0 = 0 from rfl, show pix 1 = 1 from rfl]
  by_cases a : g 0 0 ≤ 0 <;> by_cases b : g 0 1 ≤ 0 <;> simp only [a, b, if_true, if_false, if_pos, if_neg, Int32.not_lt.mpr, Int32.not_le.mp, not_false_eq_true] <;> decide
theorem RepG.lostI {M : Mem} {k n m : Nat} {g : Gm} {tb : List Nat} (r : RepG M k n g tb m) : lbF M k = 0 ↔ lost g = false := by
  rw [r.lb]
  unfold lost
  by_cases a : g 0 0 ≤ 0 <;> by_cases b : g 0 1 ≤ 0 <;> simp [a, b]
theorem ldF_off {M : Mem} {k : Nat} {c : Int32} : Off (blk k) M (ldF M k c) :=
  ((((Off.put (blkj 5 (by decide))).trans (Off.up blk0)).trans (Off.put (blkj 4 (by decide)))).trans (Off.up blk0)).trans mvF_off
theorem getD_app {tb : List Nat} {c i : Nat} (h : i < tb.length) : (tb ++ [c]).getD i 0 = tb.getD i 0 := by
  simp [List.getD_eq_getElem?_getD, List.getElem?_append_left h]
theorem RepG.lay {M : Mem} {k n m c : Nat} {g : Gm} {tb : List Nat} (r : RepG M k n g tb m) (hc : c < 24) (ht : tb.length < 24) (hn : c ∉ tb) : RepG (ldF M k (nI c)) k n (up2 (up2 (up2 g 3 c 3) 4 c (g 1 0)) 1 0 (g 1 0 + 1)) (tb ++ [c]) (m + 1) := by
  obtain ⟨r1, r3, r4, r5, r6, r7, r8, r9, r10, r11, r12, r13, r14, r15⟩ := r
  have e : up2 (up2 (up2 g 3 c 3) 4 c (g 1 0)) 1 0 (g 1 0 + 1) = up2 (up2 (up2 g 4 c (g 1 0)) 1 0 (g 1 0 + 1)) 3 c 3 := by
    funext a b
    by_cases h1 : a = 3 <;> by_cases h2 : a = 4 <;> by_cases h3 : a = 1 <;> simp [up2, h1, h2, h3]
  rw [e]
  unfold ldF
  dsimp only
  refine RepG.mv ?_ hc
  rw [r9, putF_in ht (by decide), putF_in hc (by decide)]
  refine ⟨by simpa [up, up2] using r1, by simpa [up, up2] using r3, by simpa [up, up2] using r4, fun d hd => ?_, fun i hi => ?_, by simpa [up, up2] using r7, by simp [up, r8], by simp [up, r9, nI_succ], by simp [up, up2, r10], by simp [up, up2, r11], by simp [up, up2, r12], by simp [up, up2, r13], by simp [up, up2, r14], by simp [up, r15]⟩
  · by_cases e : d = c
    · subst e; simp [up, up2, r11]
    · have hd2 : d ∈ tb := by simpa [e] using hd
      simp [up, up2, e, r5 d hd2]
  · by_cases e : i = tb.length
    · subst e; simp [up]
    · have hi2 : i < tb.length := by simp at hi; omega
      rw [getD_app hi2]
      simp [up, e, r6 i hi2]
