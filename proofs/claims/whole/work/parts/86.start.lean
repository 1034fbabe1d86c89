/-! the two worlds' cells, out of what the constructors made -/
section EWP
variable {sa : Nat → Nat} {D : va_G} {cA : Nat → ClassId} {b : Nat} {H : Heap}
theorem wC_1 {p : Nat} (h : p < 84) : (wC sa D cA b).1 p = b + tC p := if_pos h
theorem wR_1 {p : Nat} (h : p < 224) : (wR sa D cA b).1 p = b + (84 + p) := if_pos h
theorem tC_lt : ∀ p, p < 84 → tC p < 84 := by decide +kernel
theorem tC_inj : ∀ p, p < 84 → ∀ q, q < 84 → tC p = tC q → p = q := by decide +kernel
theorem wC_adi : adi (wC sa D cA b) lyC := by
  intro i j hi hj h
  rw [wC_1 hi, wC_1 hj] at h
  exact tC_inj i hi j hj (by omega)
theorem wR_adi : adi (wR sa D cA b) lyR := by
  intro i j hi hj h
  rw [wR_1 hi, wR_1 hj] at h
  omega
set_option maxRecDepth 100000
theorem eC_48 (h : NP D b 308 (EW cA b) H) : va_at D cls0 (b + 28, ent (wC sa D cA b) lyC M0C 48) H := by
  have h1 := h.2 28 _ (nw_at (by decide))
  have h2 : H[b + 28]? = some (vp_cell (cA 2) (4, .inr (.inr (.inr (.inr (va_up (va_up (va_up (va_up (fun _ => none) 0 (some (b + 21))) 1 (some (b + 63))) 2 (some (b + 70))) 3 (some (b + 77)))))))) := h1
  show H[b + 28]? = some (vp_cell (cA 2) (4, .inr (.inr (.inr (.inr (fun j => some ((wC sa D cA b).1 (lyC.2.2 48 j))))))))
  rw [h2, vp_cell_q, vp_cell_q]
  refine congrArg some (arrV_congr (fun j hj => ?_))
  match j, hj with
  | 0, _ => rfl
  | 1, _ => rfl
  | 2, _ => rfl
  | 3, _ => rfl
  | j + 4, hj => exact absurd hj (by omega)
theorem wC_at (h : NP D b 308 (EW cA b) H) : ∀ p, p < 84 → va_at D cls0 (b + tC p, ent (wC sa D cA b) lyC M0C p) H := by
  intro p hp
  match p, hp with
  | 0, _ => rw [← eC_0]; exact h.2 1 _ (nw_at (by decide))
  | 1, _ => rw [← eC_1]; exact h.2 2 _ (nw_at (by decide))
  | 2, _ => rw [← eC_2]; exact h.2 3 _ (nw_at (by decide))
  | 3, _ => rw [← eC_3]; exact h.2 4 _ (nw_at (by decide))
  | 4, _ => rw [← eC_4]; exact h.2 5 _ (nw_at (by decide))
  | 5, _ => rw [← eC_5]; exact h.2 6 _ (nw_at (by decide))
  | 6, _ => rw [← eC_6]; exact h.2 7 _ (nw_at (by decide))
  | 7, _ => rw [← eC_7]; exact h.2 8 _ (nw_at (by decide))
  | 8, _ => rw [← eC_8]; exact h.2 9 _ (nw_at (by decide))
  | 9, _ => rw [← eC_9]; exact h.2 10 _ (nw_at (by decide))
  | 10, _ => rw [← eC_10]; exact h.2 11 _ (nw_at (by decide))
  | 11, _ => rw [← eC_11]; exact h.2 12 _ (nw_at (by decide))
  | 12, _ => rw [← eC_12]; exact h.2 13 _ (nw_at (by decide))
  | 13, _ => rw [← eC_13]; exact h.2 14 _ (nw_at (by decide))
  | 14, _ => rw [← eC_14]; exact h.2 15 _ (nw_at (by decide))
  | 15, _ => rw [← eC_15]; exact h.2 16 _ (nw_at (by decide))
  | 16, _ => rw [← eC_16]; exact h.2 17 _ (nw_at (by decide))
  | 17, _ => rw [← eC_17]; exact h.2 18 _ (nw_at (by decide))
  | 18, _ => rw [← eC_18]; exact h.2 19 _ (nw_at (by decide))
  | 19, _ => rw [← eC_19]; exact h.2 20 _ (nw_at (by decide))
  | 20, _ => rw [← eC_20]; exact h.2 21 _ (nw_at (by decide))
  | 21, _ => rw [← eC_21]; exact h.2 22 _ (nw_at (by decide))
  | 22, _ => rw [← eC_22]; exact h.2 23 _ (nw_at (by decide))
  | 23, _ => rw [← eC_23]; exact h.2 24 _ (nw_at (by decide))
  | 24, _ => rw [← eC_24]; exact h.2 25 _ (nw_at (by decide))
  | 25, _ => rw [← eC_25]; exact h.2 26 _ (nw_at (by decide))
  | 26, _ => rw [← eC_26]; exact h.2 27 _ (nw_at (by decide))
  | 27, _ => rw [← eC_27]; exact h.2 63 _ (nw_at (by decide))
  | 28, _ => rw [← eC_28]; exact h.2 64 _ (nw_at (by decide))
  | 29, _ => rw [← eC_29]; exact h.2 65 _ (nw_at (by decide))
  | 30, _ => rw [← eC_30]; exact h.2 66 _ (nw_at (by decide))
  | 31, _ => rw [← eC_31]; exact h.2 67 _ (nw_at (by decide))
  | 32, _ => rw [← eC_32]; exact h.2 68 _ (nw_at (by decide))
  | 33, _ => rw [← eC_33]; exact h.2 69 _ (nw_at (by decide))
  | 34, _ => rw [← eC_34]; exact h.2 70 _ (nw_at (by decide))
  | 35, _ => rw [← eC_35]; exact h.2 71 _ (nw_at (by decide))
  | 36, _ => rw [← eC_36]; exact h.2 72 _ (nw_at (by decide))
  | 37, _ => rw [← eC_37]; exact h.2 73 _ (nw_at (by decide))
  | 38, _ => rw [← eC_38]; exact h.2 74 _ (nw_at (by decide))
  | 39, _ => rw [← eC_39]; exact h.2 75 _ (nw_at (by decide))
  | 40, _ => rw [← eC_40]; exact h.2 76 _ (nw_at (by decide))
  | 41, _ => rw [← eC_41]; exact h.2 77 _ (nw_at (by decide))
  | 42, _ => rw [← eC_42]; exact h.2 78 _ (nw_at (by decide))
  | 43, _ => rw [← eC_43]; exact h.2 79 _ (nw_at (by decide))
  | 44, _ => rw [← eC_44]; exact h.2 80 _ (nw_at (by decide))
  | 45, _ => rw [← eC_45]; exact h.2 81 _ (nw_at (by decide))
  | 46, _ => rw [← eC_46]; exact h.2 82 _ (nw_at (by decide))
  | 47, _ => rw [← eC_47]; exact h.2 83 _ (nw_at (by decide))
  | 48, _ => exact eC_48 h
  | 49, _ => rw [← eC_49]; exact h.2 43 _ (nw_at (by decide))
  | 50, _ => rw [← eC_50]; exact h.2 44 _ (nw_at (by decide))
  | 51, _ => rw [← eC_51]; exact h.2 45 _ (nw_at (by decide))
  | 52, _ => rw [← eC_52]; exact h.2 46 _ (nw_at (by decide))
  | 53, _ => rw [← eC_53]; exact h.2 47 _ (nw_at (by decide))
  | 54, _ => rw [← eC_54]; exact h.2 36 _ (nw_at (by decide))
  | 55, _ => rw [← eC_55]; exact h.2 37 _ (nw_at (by decide))
  | 56, _ => rw [← eC_56]; exact h.2 38 _ (nw_at (by decide))
  | 57, _ => rw [← eC_57]; exact h.2 39 _ (nw_at (by decide))
  | 58, _ => rw [← eC_58]; exact h.2 40 _ (nw_at (by decide))
  | 59, _ => rw [← eC_59]; exact h.2 48 _ (nw_at (by decide))
  | 60, _ => rw [← eC_60]; exact h.2 49 _ (nw_at (by decide))
  | 61, _ => rw [← eC_61]; exact h.2 41 _ (nw_at (by decide))
  | 62, _ => rw [← eC_62]; exact h.2 42 _ (nw_at (by decide))
  | 63, _ => rw [← eC_63]; exact h.2 50 _ (nw_at (by decide))
  | 64, _ => rw [← eC_64]; exact h.2 51 _ (nw_at (by decide))
  | 65, _ => rw [← eC_65]; exact h.2 52 _ (nw_at (by decide))
  | 66, _ => rw [← eC_66]; exact h.2 53 _ (nw_at (by decide))
  | 67, _ => rw [← eC_67]; exact h.2 54 _ (nw_at (by decide))
  | 68, _ => rw [← eC_68]; exact h.2 55 _ (nw_at (by decide))
  | 69, _ => rw [← eC_69]; exact h.2 30 _ (nw_at (by decide))
  | 70, _ => rw [← eC_70]; exact h.2 31 _ (nw_at (by decide))
  | 71, _ => rw [← eC_71]; exact h.2 32 _ (nw_at (by decide))
  | 72, _ => rw [← eC_72]; exact h.2 33 _ (nw_at (by decide))
  | 73, _ => rw [← eC_73]; exact h.2 34 _ (nw_at (by decide))
  | 74, _ => rw [← eC_74]; exact h.2 35 _ (nw_at (by decide))
  | 75, _ => rw [← eC_75]; exact h.2 29 _ (nw_at (by decide))
  | 76, _ => rw [← eC_76]; exact h.2 56 _ (nw_at (by decide))
  | 77, _ => rw [← eC_77]; exact h.2 57 _ (nw_at (by decide))
  | 78, _ => rw [← eC_78]; exact h.2 58 _ (nw_at (by decide))
  | 79, _ => rw [← eC_79]; exact h.2 59 _ (nw_at (by decide))
  | 80, _ => rw [← eC_80]; exact h.2 60 _ (nw_at (by decide))
  | 81, _ => rw [← eC_81]; exact h.2 61 _ (nw_at (by decide))
  | 82, _ => rw [← eC_82]; exact h.2 62 _ (nw_at (by decide))
  | 83, _ => rw [← eC_83]; exact h.2 0 _ (nw_at (by decide))
  | p + 84, hp => exact absurd hp (by omega)
theorem wC_P (h : NP D b 308 (EW cA b) H) : va_P D cls0 (wl (wC sa D cA b) lyC M0C) H := by
  intro k q hq
  have hlt : k < 84 := by
    have := (List.getElem?_eq_some_iff.mp hq).1
    simpa [wl, lyC] using this
  rw [wl_at (show k < lyC.1 from hlt)] at hq
  cases hq
  have := wC_at (sa := sa) h k hlt
  rw [← wC_1 (sa := sa) (D := D) (cA := cA) (b := b) hlt] at this
  exact this
theorem EW_row {x : Nat} (h1 : 100 ≤ x) (h2 : x < 301) : EW cA b x = .inl (cA 0, 116, .inl (fun _ => 0)) := by
  unfold EW ce_M
  simp only [eu_ne (show x ≠ 84 by omega), eu_ne (show x ≠ 90 by omega), eu_ne (show x ≠ 301 by omega), eu_ne (show x ≠ 302 by omega), eu_ne (show x ≠ 303 by omega), eu_ne (show x ≠ 304 by omega), eu_ne (show x ≠ 305 by omega), eu_ne (show x ≠ 306 by omega), eu_ne (show x ≠ 307 by omega)]
  show (if x = 99 then _ else if 99 < x ∧ x < 99 + 1 + 201 then _ else _) = _
  rw [if_neg (by omega), if_pos ⟨by omega, by omega⟩]
theorem eR_7 (h : NP D b 308 (EW cA b) H) : va_at D cls0 (b + 91, ent (wR sa D cA b) lyR M0R 7) H := by
  have h2 : H[b + 91]? = some (vp_cell (cA 3) (6, .inr (.inr (.inr (.inr (fun j => some (b + (91 + 1 + j)))))))) := h.2 91 _ (nw_at (by decide))
  show H[b + 91]? = some (vp_cell (cA 3) (6, .inr (.inr (.inr (.inr (fun j => some ((wR sa D cA b).1 (8 + j))))))))
  rw [h2, vp_cell_q, vp_cell_q]
  refine congrArg some (arrV_congr (fun j hj => ?_))
  rw [wR_1 (by omega)]
  exact congrArg Value.ref (show b + (91 + 1 + j) = b + (84 + (8 + j)) by omega)
theorem eR_15 (h : NP D b 308 (EW cA b) H) : va_at D cls0 (b + 99, ent (wR sa D cA b) lyR M0R 15) H := by
  have h2 : H[b + 99]? = some (vp_cell (cA 3) (201, .inr (.inr (.inr (.inr (fun j => some (b + (99 + 1 + j)))))))) := h.2 99 _ (nw_at (by decide))
  show H[b + 99]? = some (vp_cell (cA 3) (201, .inr (.inr (.inr (.inr (fun j => some ((wR sa D cA b).1 (16 + j))))))))
  rw [h2, vp_cell_q, vp_cell_q]
  refine congrArg some (arrV_congr (fun j hj => ?_))
  rw [wR_1 (by omega)]
  exact congrArg Value.ref (show b + (99 + 1 + j) = b + (84 + (16 + j)) by omega)
theorem eR_row {p : Nat} (h1 : 16 ≤ p) (h2 : p < 217) : ent (wR sa D cA b) lyR M0R p = .inl (cA 0, 116, .inl (fun _ => 0)) := by
  have hs : lyR.2.1 p = (1, 116) := by
    show (if p < 16 then _ else if p < 217 then _ else _) = _
    rw [if_neg (by omega), if_pos h2]
  rw [ent_int hs]
  have hm : M0R.1 p = fun _ => 0 := by
    show (if p = 0 then fR0 else if p = 6 then fR6 else if p = 221 then fR221 else fun _ => 0) = _
    rw [if_neg (by omega), if_neg (by omega), if_neg (by omega)]
  rw [hm]
  rfl
theorem wR_at (h : NP D b 308 (EW cA b) H) (p : Nat) (hp : p < 224) : va_at D cls0 (b + (84 + p), ent (wR sa D cA b) lyR M0R p) H := by
  by_cases h1 : 16 ≤ p ∧ p < 217
  · rw [eR_row h1.1 h1.2, ← EW_row (cA := cA) (b := b) (x := 84 + p) (by omega) (by omega)]
    exact h.2 (84 + p) _ (nw_at (by omega))
  · rcases (show p = 0 ∨ p = 1 ∨ p = 2 ∨ p = 3 ∨ p = 4 ∨ p = 5 ∨ p = 6 ∨ p = 7 ∨ p = 8 ∨ p = 9 ∨ p = 10 ∨ p = 11 ∨ p = 12 ∨ p = 13 ∨ p = 14 ∨ p = 15 ∨ p = 217 ∨ p = 218 ∨ p = 219 ∨ p = 220 ∨ p = 221 ∨ p = 222 ∨ p = 223 by omega) with rfl | rfl | rfl | rfl | rfl | rfl | rfl | rfl | rfl | rfl | rfl | rfl | rfl | rfl | rfl | rfl | rfl | rfl | rfl | rfl | rfl | rfl | rfl
    · rw [← eR_0]; exact h.2 84 _ (nw_at (by decide))
    · rw [← eR_1]; exact h.2 85 _ (nw_at (by decide))
    · rw [← eR_2]; exact h.2 86 _ (nw_at (by decide))
    · rw [← eR_3]; exact h.2 87 _ (nw_at (by decide))
    · rw [← eR_4]; exact h.2 88 _ (nw_at (by decide))
    · rw [← eR_5]; exact h.2 89 _ (nw_at (by decide))
    · rw [← eR_6]; exact h.2 90 _ (nw_at (by decide))
    · exact eR_7 h
    · rw [← eR_8]; exact h.2 92 _ (nw_at (by decide))
    · rw [← eR_9]; exact h.2 93 _ (nw_at (by decide))
    · rw [← eR_10]; exact h.2 94 _ (nw_at (by decide))
    · rw [← eR_11]; exact h.2 95 _ (nw_at (by decide))
    · rw [← eR_12]; exact h.2 96 _ (nw_at (by decide))
    · rw [← eR_13]; exact h.2 97 _ (nw_at (by decide))
    · rw [← eR_14]; exact h.2 98 _ (nw_at (by decide))
    · exact eR_15 h
    · rw [← eR_217]; exact h.2 301 _ (nw_at (by decide))
    · rw [← eR_218]; exact h.2 302 _ (nw_at (by decide))
    · rw [← eR_219]; exact h.2 303 _ (nw_at (by decide))
    · rw [← eR_220]; exact h.2 304 _ (nw_at (by decide))
    · rw [← eR_221]; exact h.2 305 _ (nw_at (by decide))
    · rw [← eR_222]; exact h.2 306 _ (nw_at (by decide))
    · rw [← eR_223]; exact h.2 307 _ (nw_at (by decide))
theorem wR_P (h : NP D b 308 (EW cA b) H) : va_P D cls0 (wl (wR sa D cA b) lyR M0R) H := by
  intro k q hq
  have hlt : k < 224 := by
    have := (List.getElem?_eq_some_iff.mp hq).1
    simpa [wl, lyR] using this
  rw [wl_at (show k < lyR.1 from hlt)] at hq
  cases hq
  have := wR_at (sa := sa) h k hlt
  rw [← wR_1 (sa := sa) (D := D) (cA := cA) (b := b) hlt] at this
  exact this
end EWP
/-! the start: what both hold of one and the same object -/
def g0 : Gm := fun r c => if r = 0 then 20 else if r = 1 then (if c = 1 then 1 else 0) else if r = 5 then (upd (upd (upd (upd (fun _ => 0) 0 1) 1 2) 2 1) 3 7) c else 0
def σ0 : St := ((fun _ _ => 0, 0, g0, []), none, [], fun _ => none, (0, -2, -2), ([], []))
theorem g0_wf : WFg (fun _ _ => 0) 0 g0 [] := by
  refine ⟨⟨by omega, fun c hc => absurd hc (by omega)⟩, ⟨List.nodup_nil, fun c => ⟨fun h => by simp at h, fun h => absurd h.1 (by omega)⟩, List.Pairwise.nil⟩, fun c hc => absurd hc (by omega), ⟨0, by omega, rfl, fun i hi => absurd hi (by omega), fun i j hi => absurd hi (by omega)⟩, ⟨0, rfl, Nat.zero_le _, fun c hc => by simp at hc⟩, Or.inl rfl, ?_⟩
  intro v hv
  match v, hv with
  | 0, _ => exact by decide
  | 1, _ => exact by decide
  | 2, _ => exact by decide
  | 3, _ => exact by decide
  | v + 4, h => exact absurd h (by omega)
theorem InvC_0 : InvC M0C σ0 := by
  refine ⟨g0_wf, ⟨rfl, rfl, rfl, rfl, rfl⟩, ⟨0, Nat.zero_le _, ⟨rfl, rfl⟩, ?_, ?_, fun c hc => absurd hc List.not_mem_nil, fun i hi => absurd hi (by show ¬ i < 0; omega), fun i hi => absurd hi (by show ¬ i < 0; omega), rfl, rfl, rfl, rfl, rfl, rfl, rfl, rfl⟩, rfl, ⟨by decide, rfl, fun i hi => absurd hi (by show ¬ i < 0; omega)⟩, ?_, ⟨rfl, rfl, rfl⟩, ⟨rfl, fun i hi => absurd hi (by show ¬ i < 0; omega), rfl, fun i hi => absurd hi (by show ¬ i < 0; omega)⟩, ⟨[], [], rfl, fun i hi => absurd hi (by show ¬ i < 0; omega), rfl, fun i hi => absurd hi (by show ¬ i < 0; omega)⟩⟩
  · exact fun v _ => rfl
  · exact fun c _ => rfl
  · intro h hh
    right
    match h, hh with
    | 0, _ => rfl
    | 1, _ => rfl
    | 2, _ => rfl
    | 3, _ => rfl
    | 4, _ => rfl
    | 5, _ => rfl
    | 6, _ => rfl
    | 7, _ => rfl
    | h + 8, hh => exact absurd hh (by omega)
theorem fR6_0 : ∀ j, j < 123 → fR6 j = if j = 0 ∨ j = 1 then 20 else if j = 3 ∨ j = 119 ∨ j = 121 then 1 else if j = 120 then 2 else if j = 122 then 7 else 0 := by decide +kernel
theorem InvR_0 : InvR M0R σ0 := by
  have k6 : ∀ j, j < 123 → M0R.1 6 j = if j = 0 ∨ j = 1 then 20 else if j = 3 ∨ j = 119 ∨ j = 121 then 1 else if j = 120 then 2 else if j = 122 then 7 else 0 := fR6_0
  refine ⟨⟨g0_wf, ⟨rfl, rfl, rfl, rfl, rfl⟩, rfl, ⟨⟨rfl, rfl⟩, ⟨rfl, rfl, rfl, rfl, rfl⟩, ⟨by decide, fun i hi => absurd hi (by show ¬ i < 0; omega)⟩, ?_, fun c hc => absurd hc List.not_mem_nil, ?_⟩⟩, rfl, ⟨by decide, rfl, fun i hi => absurd hi (by show ¬ i < 0; omega), fun x hx => absurd hx List.not_mem_nil⟩, ?_, ⟨rfl, rfl, rfl⟩, ⟨⟨rfl, fun i hi => absurd hi (by show ¬ i < 0; omega)⟩, rfl, fun i hi => absurd hi (by show ¬ i < 0; omega)⟩, rfl⟩
  · intro c hc
    show M0R.1 6 (71 + c) = 0
    rw [k6 _ (by omega), if_neg (by omega), if_neg (by omega), if_neg (by omega), if_neg (by omega)]
  · intro v hv
    match v, hv with
    | 0, _ => exact by decide +kernel
    | 1, _ => exact by decide +kernel
    | 2, _ => exact by decide +kernel
    | 3, _ => exact by decide +kernel
    | v + 4, h => exact absurd h (by omega)
  · intro h hh
    match h, hh with
    | 0, _ => rfl
    | 1, _ => rfl
    | 2, _ => rfl
    | 3, _ => rfl
    | 4, _ => rfl
    | 5, _ => rfl
    | 6, _ => rfl
    | 7, _ => rfl
    | h + 8, hh => exact absurd hh (by omega)
