/-! CONSTRUCTORS, class by class -/
theorem NW.kp {D : va_G} {b k i j : Nat} {E : Nat → va_E} {x o : va_E} {H : Heap} {locs : List Loc} {s : State} (_ : NW D b k (eu E j x) H locs s) (he : E i = o) (h : i ≠ j) : eu E j x i = o := (eu_ne h).trans he
theorem NW.sf {D : va_G} {b k j : Nat} {E : Nat → va_E} {x o : va_E} {H : Heap} {locs : List Loc} {s : State} (_ : NW D b k (eu E j x) H locs s) (h : x = o) : eu E j x j = o := eu_self.trans h
theorem arrV_congr {cI : ClassId} {N : Nat} {f g : Nat → Value} (h : ∀ j, j < N → f j = g j) : arrV cI N f = arrV cI N g := by
  unfold arrV
  congr 1
  congr 1
  funext j
  exact h j.1 j.2
theorem mo_outer (c : ClassId) (N h0 : Nat) : ∀ i : Nat, Jvm.Free.Multi.outerC c N h0 i = arrV c N (fun j => va_rf (if j < i then some (h0 + 1 + j) else none))
  | 0 => by
    show ({ cls := c, slots := Array.replicate N .null, vm := .none } : Cell) = _
    rw [arrV_new]
    exact arrV_congr (fun j _ => by simp [va_rf])
  | i + 1 => by
    show (Jvm.Free.Multi.outerC c N h0 i).setSlot i (.ref (h0 + 1 + i)) = _
    rw [mo_outer c N h0 i, arrV_store]
    refine arrV_congr (fun j _ => ?_)
    by_cases e : j = i
    · subst e
      simp [updV, va_rf]
    · by_cases h : j < i
      · simp [updV, e, h, Nat.lt_succ_of_lt h]
      · simp [updV, e, h, show ¬ j < i + 1 by omega]
theorem NP.rows {D : va_G} {b k n : Nat} {E : Nat → va_E} {x y : va_E} {H H1 : Heap} (h : NP D b k E H) (z : H1.size = b + k + 1 + n) (oq : ∀ q : Nat, q < b + k → H1[q]? = H[q]?) (hx : va_at D cls0 (b + k, x) H1) (hy : ∀ j, j < n → va_at D cls0 (b + (k + 1 + j), y) H1) : NP D b (k + 1 + n) (eus E k n x y) H1 := by
  refine ⟨by omega, fun i q hi => ?_⟩
  obtain ⟨hlt, rfl⟩ := nw_in hi
  by_cases e : i = k
  · subst e
    show va_at D cls0 (b + i, if i = i then x else _) H1
    rw [if_pos rfl]
    exact hx
  · by_cases e2 : k < i
    · have h5 := hy (i - (k + 1)) (by omega)
      rw [show k + 1 + (i - (k + 1)) = i by omega] at h5
      show va_at D cls0 (b + i, if i = k then x else if k < i ∧ i < k + 1 + n then y else _) H1
      rw [if_neg e, if_pos ⟨e2, hlt⟩]
      exact h5
    · show va_at D cls0 (b + i, if i = k then x else if k < i ∧ i < k + 1 + n then y else E i) H1
      rw [if_neg e, if_neg (fun q => e2 q.1)]
      exact (h.2 i _ (nw_at (by omega))).kept (oq _ (by show b + i < b + k; omega))
section RM
variable {p : Program} {l : Launch} {e : Env} {R : Room} {s : State} {m : MethodId} {args : Array Value} {below : List Frame} {meth : Method} {c : Code} {H : Heap} {locs : List Loc} {cells slots : Nat} {Q : State → Prop}
variable {cc : ByteArray} {pc : Nat} {ls : Array Slot} {rest : List Value} {D : va_G} {cA : Nat → ClassId} {b k nL : Nat} {E : Nat → va_E} {own : String}
theorem a_multi (C : CA p s m args meth c own cc nL D cA) (hN : NW D b k E H locs s) {idx N K : Nat} {n v : Int32} (hd : decode cc pc = .ok (.multianewarray idx 2, 4)) (hw : Cond.classLink own idx ("[" ++ (FieldType.array .int).toString) ∈ tbl) (ha : Cond.arrayClass .int ∈ tbl) (hn : ¬ n < 0) (hv : ¬ v < 0) (hz : n.toNatClampNeg = N) (hz2 : v.toNatClampNeg = K) (hb1 : N * 4 ≤ 536870912) (hb2 : K * 4 ≤ 536870912) (hb3 : K ≤ 536870912) (hc : cells + (1 + N) ≤ R.cells) (hs : slots + (N + N * K) ≤ R.slots)
    (kk : ∀ H1, NW D b (k + 1 + N) (eus E k N (.inl (cA 3, N, .inr (.inr (.inr (.inr (fun j => some (b + (k + 1 + j)))))))) (.inl (cA 0, K, .inl (fun _ => 0)))) H1 locs s → W p l e R s m args below meth c H1 locs (cells + 1 + N) (slots + N + N * K) Q (F0 m (pc + 4) ls (.ref (b + k) :: rest))) : W p l e R s m args below meth c H locs cells slots Q (F0 m pc ls (.int v :: .int n :: rest)) := by
  obtain ⟨hx, hb, hml, hown, hts, hK, hlk⟩ := C
  subst hz
  subst hz2
  intro T hT Xs
  obtain ⟨vm₁, cI, comp, -, fA, fC, -, -, X', step⟩ := Xs.multianewarray2F hx hown (hts _ hw) (show (Cond.arrayOver (.array .int)).before args s = true from hK.2.2.2) (hts _ ha) (g := F0 m pc ls (.int v :: .int n :: rest)) rfl (by rw [hb]; exact hd) rfl hn hv hb1 hb2 hb3 rfl rfl hc hs
  have e0 : cI = cA 3 := Option.some.inj (fA.symm.trans (hK.1.2 3 _ rfl).2)
  have e1 : comp = cA 0 := Option.some.inj (fC.symm.trans (hK.1.2 0 _ rfl).2)
  subst e0
  subst e1
  generalize hF : Jvm.Free.Multi.fill (T.setVm vm₁) (cA 3) (cA 0) n.toNatClampNeg v.toNatClampNeg (defaultValue .int) n.toNatClampNeg = F at X' step
  have hTh : (T.setVm vm₁).heap = H := hT
  obtain ⟨f1, f2, -, -⟩ := Jvm.Free.Multi.fill_facts (T.setVm vm₁) (cA 3) (cA 0) n.toNatClampNeg v.toNatClampNeg (defaultValue .int) n.toNatClampNeg
  rw [hF, hTh] at f1 f2
  have hz := hN.1.1
  have hold : ∀ x : Nat, x < b + k → F.heap[x]? = H[x]? := fun x hx => by
    have := Jvm.Free.Multi.fill_old (T.setVm vm₁) (cA 3) (cA 0) n.toNatClampNeg v.toNatClampNeg (defaultValue .int) (a := x) (by rw [hTh, hz]; exact hx) n.toNatClampNeg
    rw [hF, hTh] at this
    exact this
  have hrow : ∀ j : Nat, j < n.toNatClampNeg → F.heap[b + (k + 1 + j)]? = some (vp_cell (cA 0) (v.toNatClampNeg, .inl (fun _ => 0))) := fun j hj => by
    have := Jvm.Free.Multi.fill_inner (T.setVm vm₁) (cA 3) (cA 0) n.toNatClampNeg v.toNatClampNeg (defaultValue .int) n.toNatClampNeg j hj
    rw [hF, hTh, hz] at this
    rw [show b + (k + 1 + j) = b + k + 1 + j by omega, this]
    show some (({ cls := cA 0, slots := Array.replicate v.toNatClampNeg (defaultValue .int), vm := .none } : Cell)) = _
    rw [arrV_new]
    rfl
  have hout : F.heap[b + k]? = some (vp_cell (cA 3) (n.toNatClampNeg, .inr (.inr (.inr (.inr (fun j => some (b + (k + 1 + j)))))))) := by
    rw [← hz, f2, vp_cell_q, mo_outer]
    refine congrArg some (arrV_congr (fun j hj => ?_))
    rw [if_pos hj, hz, show b + k + 1 + j = b + (k + 1 + j) by omega]
  have hNW : NW D b (k + 1 + n.toNatClampNeg) (eus E k n.toNatClampNeg (.inl (cA 3, n.toNatClampNeg, .inr (.inr (.inr (.inr (fun j => some (b + (k + 1 + j)))))))) (.inl (cA 0, v.toNatClampNeg, .inl (fun _ => 0)))) F.heap locs s := by
    refine ⟨hN.1.rows (by omega) hold hout hrow, by have := hN.2.1; omega, fun q h2 h3 => ?_, hN.2.2.2⟩
    rw [hold q (Nat.lt_of_lt_of_le (Nat.not_le.mp h3) (Nat.le_add_right _ _))]
    exact hN.2.2.1 q h2 h3
  obtain ⟨t, a1, b1⟩ := kk F.heap hNW F rfl X'
  refine ⟨t, step t ?_, b1⟩
  rw [show (Value.ref T.heap.size) = .ref (b + k) by rw [hT, hz]]
  exact a1
end RM
theorem w_obj : Cond.instanceMethod Lib.objectInit ∈ tbl := tbl_in (List.mem_of_getElem? (i := 122) (by decide +kernel)) rfl
theorem w_objc : Cond.code Lib.objectInit ⟨#[0xb1]⟩ 1 none ∈ tbl := tbl_in (List.mem_of_getElem? (i := 123) (by decide +kernel)) rfl
theorem w_aI : Cond.arrayClass .int ∈ tbl := tbl_in (List.mem_of_getElem? (i := 166) (by decide +kernel)) rfl
theorem w_aJ : Cond.arrayClass .long ∈ tbl := tbl_in (List.mem_of_getElem? (i := 274) (by decide +kernel)) rfl
def bl_K : List Value := [.null, .null, .null, .null, .null]
theorem bl_K_ok : ∀ j, j < 5 → defaultValue (ft_K j) = vp_V bl_K j := by
  intro j hj
  match j, hj with
  | 0, _ => rfl
  | 1, _ => rfl
  | 2, _ => rfl
  | 3, _ => rfl
  | 4, _ => rfl
  | k + 5, h => exact absurd h (by omega)
theorem mi_K : MI y_K_init b_K_init 1 0 := ⟨tbl_in (List.mem_of_getElem? (i := 128) (by decide +kernel)) rfl, tbl_in (List.mem_of_getElem? (i := 101) (by decide +kernel)) rfl, by decide +kernel, ⟨by decide +kernel, by decide +kernel, by decide +kernel⟩, rfl, tbl_in (List.mem_of_getElem? (i := 127) (by decide +kernel)) rfl⟩
theorem pf_K_9 : PF R_K 9 0 0 (.array .int) true := ⟨F_K, 5, rfl, by decide, tbl_in (List.mem_of_getElem? (i := 130) (by decide +kernel)) rfl, by decide +kernel, rfl, rfl⟩
theorem pf_K_15 : PF R_K 15 0 1 (.array .int) true := ⟨F_K, 5, rfl, by decide, tbl_in (List.mem_of_getElem? (i := 135) (by decide +kernel)) rfl, by decide +kernel, rfl, rfl⟩
theorem pf_K_18 : PF R_K 18 0 2 (.array .int) true := ⟨F_K, 5, rfl, by decide, tbl_in (List.mem_of_getElem? (i := 140) (by decide +kernel)) rfl, by decide +kernel, rfl, rfl⟩
theorem pf_K_21 : PF R_K 21 0 3 (.array .int) true := ⟨F_K, 5, rfl, by decide, tbl_in (List.mem_of_getElem? (i := 145) (by decide +kernel)) rfl, by decide +kernel, rfl, rfl⟩
theorem pf_K_24 : PF R_K 24 0 4 (.array .int) true := ⟨F_K, 5, rfl, by decide, tbl_in (List.mem_of_getElem? (i := 150) (by decide +kernel)) rfl, by decide +kernel, rfl, rfl⟩
def bl_E : List Value := [.null, .int 0, .int 0, .int 0, .null, .int 0, .int 0]
theorem bl_E_ok : ∀ j, j < 7 → defaultValue (ft_E j) = vp_V bl_E j := by
  intro j hj
  match j, hj with
  | 0, _ => rfl
  | 1, _ => rfl
  | 2, _ => rfl
  | 3, _ => rfl
  | 4, _ => rfl
  | 5, _ => rfl
  | 6, _ => rfl
  | k + 7, h => exact absurd h (by omega)
theorem mi_E : MI y_E_init b_E_init 2 1 := ⟨tbl_in (List.mem_of_getElem? (i := 311) (by decide +kernel)) rfl, tbl_in (List.mem_of_getElem? (i := 106) (by decide +kernel)) rfl, by decide +kernel, ⟨by decide +kernel, by decide +kernel, by decide +kernel⟩, rfl, tbl_in (List.mem_of_getElem? (i := 310) (by decide +kernel)) rfl⟩
theorem pf_E_9 : PF R_E 9 1 4 (.array .int) true := ⟨F_E, 7, rfl, by decide, tbl_in (List.mem_of_getElem? (i := 320) (by decide +kernel)) rfl, by decide +kernel, rfl, rfl⟩
theorem pf_E_15 : PF R_E 15 1 0 (.object "LayeredCards$Cards") true := ⟨F_E, 7, rfl, by decide, tbl_in (List.mem_of_getElem? (i := 313) (by decide +kernel)) rfl, by decide +kernel, rfl, rfl⟩
def bl_G : List Value := [.null, .null, .null, .null, .null, .null, .null, .int 0, .int 0, .int 0, .int 0, .int 0, .int 0, .int 0, .int 0]
theorem bl_G_ok : ∀ j, j < 15 → defaultValue (ft_G j) = vp_V bl_G j := by
  intro j hj
  match j, hj with
  | 0, _ => rfl
  | 1, _ => rfl
  | 2, _ => rfl
  | 3, _ => rfl
  | 4, _ => rfl
  | 5, _ => rfl
  | 6, _ => rfl
  | 7, _ => rfl
  | 8, _ => rfl
  | 9, _ => rfl
  | 10, _ => rfl
  | 11, _ => rfl
  | 12, _ => rfl
  | 13, _ => rfl
  | 14, _ => rfl
  | k + 15, h => exact absurd h (by omega)
theorem mi_G : MI y_G_init b_G_init 2 1 := ⟨tbl_in (List.mem_of_getElem? (i := 171) (by decide +kernel)) rfl, tbl_in (List.mem_of_getElem? (i := 102) (by decide +kernel)) rfl, by decide +kernel, ⟨by decide +kernel, by decide +kernel, by decide +kernel⟩, rfl, tbl_in (List.mem_of_getElem? (i := 170) (by decide +kernel)) rfl⟩
theorem pf_G_9 : PF R_G 9 2 1 (.array .int) true := ⟨F_G, 15, rfl, by decide, tbl_in (List.mem_of_getElem? (i := 174) (by decide +kernel)) rfl, by decide +kernel, rfl, rfl⟩
theorem pf_G_15 : PF R_G 15 2 2 (.array .int) true := ⟨F_G, 15, rfl, by decide, tbl_in (List.mem_of_getElem? (i := 177) (by decide +kernel)) rfl, by decide +kernel, rfl, rfl⟩
theorem pf_G_18 : PF R_G 18 2 3 (.array .int) true := ⟨F_G, 15, rfl, by decide, tbl_in (List.mem_of_getElem? (i := 180) (by decide +kernel)) rfl, by decide +kernel, rfl, rfl⟩
theorem pf_G_21 : PF R_G 21 2 4 (.array .int) true := ⟨F_G, 15, rfl, by decide, tbl_in (List.mem_of_getElem? (i := 182) (by decide +kernel)) rfl, by decide +kernel, rfl, rfl⟩
theorem pf_G_24 : PF R_G 24 2 5 (.array .int) true := ⟨F_G, 15, rfl, by decide, tbl_in (List.mem_of_getElem? (i := 184) (by decide +kernel)) rfl, by decide +kernel, rfl, rfl⟩
theorem pf_G_27 : PF R_G 27 2 6 (.array .int) true := ⟨F_G, 15, rfl, by decide, tbl_in (List.mem_of_getElem? (i := 188) (by decide +kernel)) rfl, by decide +kernel, rfl, rfl⟩
theorem pf_G_30 : PF R_G 30 2 13 .int false := ⟨F_G, 15, rfl, by decide, tbl_in (List.mem_of_getElem? (i := 210) (by decide +kernel)) rfl, by decide +kernel, rfl, rfl⟩
theorem pf_G_34 : PF R_G 34 2 0 (.object "LayeredCards$Cards") true := ⟨F_G, 15, rfl, by decide, tbl_in (List.mem_of_getElem? (i := 173) (by decide +kernel)) rfl, by decide +kernel, rfl, rfl⟩
def bl_Y : List Value := [.null, .null, .null, .int 0, .null, .null, .int 0]
theorem bl_Y_ok : ∀ j, j < 7 → defaultValue (ft_Y j) = vp_V bl_Y j := by
  intro j hj
  match j, hj with
  | 0, _ => rfl
  | 1, _ => rfl
  | 2, _ => rfl
  | 3, _ => rfl
  | 4, _ => rfl
  | 5, _ => rfl
  | 6, _ => rfl
  | k + 7, h => exact absurd h (by omega)
theorem mi_Y : MI y_Y_init b_Y_init 2 1 := ⟨tbl_in (List.mem_of_getElem? (i := 279) (by decide +kernel)) rfl, tbl_in (List.mem_of_getElem? (i := 105) (by decide +kernel)) rfl, by decide +kernel, ⟨by decide +kernel, by decide +kernel, by decide +kernel⟩, rfl, tbl_in (List.mem_of_getElem? (i := 278) (by decide +kernel)) rfl⟩
theorem pf_Y_9 : PF R_Y 9 3 1 (.array .int) true := ⟨F_Y, 7, rfl, by decide, tbl_in (List.mem_of_getElem? (i := 282) (by decide +kernel)) rfl, by decide +kernel, rfl, rfl⟩
theorem pf_Y_15 : PF R_Y 15 3 2 (.array .int) true := ⟨F_Y, 7, rfl, by decide, tbl_in (List.mem_of_getElem? (i := 285) (by decide +kernel)) rfl, by decide +kernel, rfl, rfl⟩
theorem pf_Y_18 : PF R_Y 18 3 4 (.array .int) true := ⟨F_Y, 7, rfl, by decide, tbl_in (List.mem_of_getElem? (i := 289) (by decide +kernel)) rfl, by decide +kernel, rfl, rfl⟩
theorem pf_Y_21 : PF R_Y 21 3 5 (.array .int) true := ⟨F_Y, 7, rfl, by decide, tbl_in (List.mem_of_getElem? (i := 290) (by decide +kernel)) rfl, by decide +kernel, rfl, rfl⟩
theorem pf_Y_24 : PF R_Y 24 3 0 (.object "LayeredCards$Cards") true := ⟨F_Y, 7, rfl, by decide, tbl_in (List.mem_of_getElem? (i := 281) (by decide +kernel)) rfl, by decide +kernel, rfl, rfl⟩
def bl_O : List Value := [.null, .null, .int 0, .int 0]
theorem bl_O_ok : ∀ j, j < 4 → defaultValue (ft_O j) = vp_V bl_O j := by
  intro j hj
  match j, hj with
  | 0, _ => rfl
  | 1, _ => rfl
  | 2, _ => rfl
  | 3, _ => rfl
  | k + 4, h => exact absurd h (by omega)
theorem mi_O : MI y_O_init b_O_init 1 0 := ⟨tbl_in (List.mem_of_getElem? (i := 377) (by decide +kernel)) rfl, tbl_in (List.mem_of_getElem? (i := 107) (by decide +kernel)) rfl, by decide +kernel, ⟨by decide +kernel, by decide +kernel, by decide +kernel⟩, rfl, tbl_in (List.mem_of_getElem? (i := 376) (by decide +kernel)) rfl⟩
theorem pf_O_9 : PF R_O 9 4 0 (.array .int) true := ⟨F_O, 4, rfl, by decide, tbl_in (List.mem_of_getElem? (i := 379) (by decide +kernel)) rfl, by decide +kernel, rfl, rfl⟩
theorem pf_O_15 : PF R_O 15 4 1 (.array .int) true := ⟨F_O, 4, rfl, by decide, tbl_in (List.mem_of_getElem? (i := 381) (by decide +kernel)) rfl, by decide +kernel, rfl, rfl⟩
def bl_P : List Value := [.null, .null, .null, .null, .null]
theorem bl_P_ok : ∀ j, j < 5 → defaultValue (ft_P j) = vp_V bl_P j := by
  intro j hj
  match j, hj with
  | 0, _ => rfl
  | 1, _ => rfl
  | 2, _ => rfl
  | 3, _ => rfl
  | 4, _ => rfl
  | k + 5, h => exact absurd h (by omega)
theorem mi_P : MI y_P_init b_P_init 1 0 := ⟨tbl_in (List.mem_of_getElem? (i := 256) (by decide +kernel)) rfl, tbl_in (List.mem_of_getElem? (i := 104) (by decide +kernel)) rfl, by decide +kernel, ⟨by decide +kernel, by decide +kernel, by decide +kernel⟩, rfl, tbl_in (List.mem_of_getElem? (i := 255) (by decide +kernel)) rfl⟩
theorem pf_P_9 : PF R_P 9 5 0 (.array .int) true := ⟨F_P, 5, rfl, by decide, tbl_in (List.mem_of_getElem? (i := 258) (by decide +kernel)) rfl, by decide +kernel, rfl, rfl⟩
theorem pf_P_15 : PF R_P 15 5 1 (.array .int) true := ⟨F_P, 5, rfl, by decide, tbl_in (List.mem_of_getElem? (i := 259) (by decide +kernel)) rfl, by decide +kernel, rfl, rfl⟩
theorem pf_P_18 : PF R_P 18 5 2 (.array .int) true := ⟨F_P, 5, rfl, by decide, tbl_in (List.mem_of_getElem? (i := 260) (by decide +kernel)) rfl, by decide +kernel, rfl, rfl⟩
theorem pf_P_21 : PF R_P 21 5 3 (.array .int) true := ⟨F_P, 5, rfl, by decide, tbl_in (List.mem_of_getElem? (i := 261) (by decide +kernel)) rfl, by decide +kernel, rfl, rfl⟩
theorem pf_P_24 : PF R_P 24 5 4 (.array .long) true := ⟨F_P, 5, rfl, by decide, tbl_in (List.mem_of_getElem? (i := 262) (by decide +kernel)) rfl, by decide +kernel, rfl, rfl⟩
def bl_R : List Value := [.null, .null, .null, .null, .int 0, .int 0, .int 0, .int 0]
theorem bl_R_ok : ∀ j, j < 8 → defaultValue (ft_R j) = vp_V bl_R j := by
  intro j hj
  match j, hj with
  | 0, _ => rfl
  | 1, _ => rfl
  | 2, _ => rfl
  | 3, _ => rfl
  | 4, _ => rfl
  | 5, _ => rfl
  | 6, _ => rfl
  | 7, _ => rfl
  | k + 8, h => exact absurd h (by omega)
theorem mi_R : MI y_R_init b_R_init 2 1 := ⟨tbl_in (List.mem_of_getElem? (i := 250) (by decide +kernel)) rfl, tbl_in (List.mem_of_getElem? (i := 103) (by decide +kernel)) rfl, by decide +kernel, ⟨by decide +kernel, by decide +kernel, by decide +kernel⟩, rfl, tbl_in (List.mem_of_getElem? (i := 249) (by decide +kernel)) rfl⟩
theorem pf_R_12 : PF R_R 12 6 3 (.object "LayeredCards$Past") true := ⟨F_R, 8, rfl, by decide, tbl_in (List.mem_of_getElem? (i := 343) (by decide +kernel)) rfl, by decide +kernel, rfl, rfl⟩
theorem pf_R_18 : PF R_R 18 6 0 (.object "LayeredCards$Cards") true := ⟨F_R, 8, rfl, by decide, tbl_in (List.mem_of_getElem? (i := 340) (by decide +kernel)) rfl, by decide +kernel, rfl, rfl⟩
theorem pf_R_27 : PF R_R 27 6 1 (.object "LayeredCards$Layering") true := ⟨F_R, 8, rfl, by decide, tbl_in (List.mem_of_getElem? (i := 341) (by decide +kernel)) rfl, by decide +kernel, rfl, rfl⟩
theorem pf_R_34 : PF R_R 34 6 2 (.object "LayeredCards$Event") true := ⟨F_R, 8, rfl, by decide, tbl_in (List.mem_of_getElem? (i := 342) (by decide +kernel)) rfl, by decide +kernel, rfl, rfl⟩
def bl_T : List Value := [.null, .int 0, .int 0, .null, .null, .null, .null, .int 0]
theorem bl_T_ok : ∀ j, j < 8 → defaultValue (ft_T j) = vp_V bl_T j := by
  intro j hj
  match j, hj with
  | 0, _ => rfl
  | 1, _ => rfl
  | 2, _ => rfl
  | 3, _ => rfl
  | 4, _ => rfl
  | 5, _ => rfl
  | 6, _ => rfl
  | 7, _ => rfl
  | k + 8, h => exact absurd h (by omega)
theorem mi_T : MI y_T_init b_T_init 1 0 := ⟨tbl_in (List.mem_of_getElem? (i := 400) (by decide +kernel)) rfl, tbl_in (List.mem_of_getElem? (i := 108) (by decide +kernel)) rfl, by decide +kernel, ⟨by decide +kernel, by decide +kernel, by decide +kernel⟩, rfl, tbl_in (List.mem_of_getElem? (i := 399) (by decide +kernel)) rfl⟩
theorem pf_T_9 : PF R_T 9 7 0 (.array .int) true := ⟨F_T, 8, rfl, by decide, tbl_in (List.mem_of_getElem? (i := 402) (by decide +kernel)) rfl, by decide +kernel, rfl, rfl⟩
theorem pf_T_15 : PF R_T 15 7 3 (.array .int) true := ⟨F_T, 8, rfl, by decide, tbl_in (List.mem_of_getElem? (i := 406) (by decide +kernel)) rfl, by decide +kernel, rfl, rfl⟩
theorem pf_T_18 : PF R_T 18 7 4 (.array .int) true := ⟨F_T, 8, rfl, by decide, tbl_in (List.mem_of_getElem? (i := 408) (by decide +kernel)) rfl, by decide +kernel, rfl, rfl⟩
theorem pf_T_21 : PF R_T 21 7 5 (.array .int) true := ⟨F_T, 8, rfl, by decide, tbl_in (List.mem_of_getElem? (i := 410) (by decide +kernel)) rfl, by decide +kernel, rfl, rfl⟩
theorem pf_T_24 : PF R_T 24 7 6 (.array .int) true := ⟨F_T, 8, rfl, by decide, tbl_in (List.mem_of_getElem? (i := 412) (by decide +kernel)) rfl, by decide +kernel, rfl, rfl⟩
def bl_L : List Value := [.null, .null, .null, .int 0, .null, .null, .null, .null, .null, .null, .null, .null, .null, .int 0, .int 0, .int 0]
theorem bl_L_ok : ∀ j, j < 16 → defaultValue (ft_L j) = vp_V bl_L j := by
  intro j hj
  match j, hj with
  | 0, _ => rfl
  | 1, _ => rfl
  | 2, _ => rfl
  | 3, _ => rfl
  | 4, _ => rfl
  | 5, _ => rfl
  | 6, _ => rfl
  | 7, _ => rfl
  | 8, _ => rfl
  | 9, _ => rfl
  | 10, _ => rfl
  | 11, _ => rfl
  | 12, _ => rfl
  | 13, _ => rfl
  | 14, _ => rfl
  | 15, _ => rfl
  | k + 16, h => exact absurd h (by omega)
theorem mi_L : MI y_L_init b_L_init 2 0 := ⟨tbl_in (List.mem_of_getElem? (i := 120) (by decide +kernel)) rfl, tbl_in (List.mem_of_getElem? (i := 100) (by decide +kernel)) rfl, by decide +kernel, ⟨by decide +kernel, by decide +kernel, by decide +kernel⟩, rfl, tbl_in (List.mem_of_getElem? (i := 119) (by decide +kernel)) rfl⟩
theorem pf_L_10 : PF R_L 10 8 0 (.object "LayeredCards$Cards") true := ⟨F_L, 16, rfl, by decide, tbl_in (List.mem_of_getElem? (i := 433) (by decide +kernel)) rfl, by decide +kernel, rfl, rfl⟩
theorem pf_L_21 : PF R_L 21 8 1 (.object "LayeredCards$Game") true := ⟨F_L, 16, rfl, by decide, tbl_in (List.mem_of_getElem? (i := 434) (by decide +kernel)) rfl, by decide +kernel, rfl, rfl⟩
theorem pf_L_25 : PF R_L 25 8 2 (.object "LayeredCards$Game") true := ⟨F_L, 16, rfl, by decide, tbl_in (List.mem_of_getElem? (i := 435) (by decide +kernel)) rfl, by decide +kernel, rfl, rfl⟩
theorem pf_L_28 : PF R_L 28 8 3 .boolean false := ⟨F_L, 16, rfl, by decide, tbl_in (List.mem_of_getElem? (i := 436) (by decide +kernel)) rfl, by decide +kernel, rfl, rfl⟩
theorem pf_L_32 : PF R_L 32 8 4 (.object "LayeredCards$Game") true := ⟨F_L, 16, rfl, by decide, tbl_in (List.mem_of_getElem? (i := 437) (by decide +kernel)) rfl, by decide +kernel, rfl, rfl⟩
theorem pf_L_35 : PF R_L 35 8 5 (.array (.object "LayeredCards$Game")) true := ⟨F_L, 16, rfl, by decide, tbl_in (List.mem_of_getElem? (i := 438) (by decide +kernel)) rfl, by decide +kernel, rfl, rfl⟩
theorem pf_L_42 : PF R_L 42 8 6 (.object "LayeredCards$Rules") true := ⟨F_L, 16, rfl, by decide, tbl_in (List.mem_of_getElem? (i := 439) (by decide +kernel)) rfl, by decide +kernel, rfl, rfl⟩
theorem pf_L_49 : PF R_L 49 8 7 (.object "LayeredCards$Layering") true := ⟨F_L, 16, rfl, by decide, tbl_in (List.mem_of_getElem? (i := 440) (by decide +kernel)) rfl, by decide +kernel, rfl, rfl⟩
theorem pf_L_56 : PF R_L 56 8 8 (.object "LayeredCards$Event") true := ⟨F_L, 16, rfl, by decide, tbl_in (List.mem_of_getElem? (i := 441) (by decide +kernel)) rfl, by decide +kernel, rfl, rfl⟩
theorem pf_L_63 : PF R_L 63 8 9 (.object "LayeredCards$Log") true := ⟨F_L, 16, rfl, by decide, tbl_in (List.mem_of_getElem? (i := 442) (by decide +kernel)) rfl, by decide +kernel, rfl, rfl⟩
theorem pf_L_67 : PF R_L 67 8 10 (.object "LayeredCards$Log") true := ⟨F_L, 16, rfl, by decide, tbl_in (List.mem_of_getElem? (i := 443) (by decide +kernel)) rfl, by decide +kernel, rfl, rfl⟩
theorem pf_L_73 : PF R_L 73 8 11 (.object "LayeredCards$Tape") true := ⟨F_L, 16, rfl, by decide, tbl_in (List.mem_of_getElem? (i := 444) (by decide +kernel)) rfl, by decide +kernel, rfl, rfl⟩
theorem pf_L_77 : PF R_L 77 8 12 (.array .int) true := ⟨F_L, 16, rfl, by decide, tbl_in (List.mem_of_getElem? (i := 445) (by decide +kernel)) rfl, by decide +kernel, rfl, rfl⟩
theorem pf_L_81 : PF R_L 81 8 13 .int false := ⟨F_L, 16, rfl, by decide, tbl_in (List.mem_of_getElem? (i := 446) (by decide +kernel)) rfl, by decide +kernel, rfl, rfl⟩
theorem pf_L_85 : PF R_L 85 8 14 .int false := ⟨F_L, 16, rfl, by decide, tbl_in (List.mem_of_getElem? (i := 447) (by decide +kernel)) rfl, by decide +kernel, rfl, rfl⟩
theorem pf_L_88 : PF R_L 88 8 15 .int false := ⟨F_L, 16, rfl, by decide, tbl_in (List.mem_of_getElem? (i := 448) (by decide +kernel)) rfl, by decide +kernel, rfl, rfl⟩
def bl_M : List Value := [.null, .null, .null, .null, .null, .int 0, .null, .null, .null, .int 0, .null, .null, .null, .int 0, .null, .int 0, .int 0, .int 0, .int 0, .null, .int 0, .null, .int 0, .int 0, .int 0, .int 0, .int 0, .int 0, .null, .int 0, .null, .int 0, .int 0, .int 0, .int 0]
theorem bl_M_ok : ∀ j, j < 35 → defaultValue (ft_M j) = vp_V bl_M j := by
  intro j hj
  match j, hj with
  | 0, _ => rfl
  | 1, _ => rfl
  | 2, _ => rfl
  | 3, _ => rfl
  | 4, _ => rfl
  | 5, _ => rfl
  | 6, _ => rfl
  | 7, _ => rfl
  | 8, _ => rfl
  | 9, _ => rfl
  | 10, _ => rfl
  | 11, _ => rfl
  | 12, _ => rfl
  | 13, _ => rfl
  | 14, _ => rfl
  | 15, _ => rfl
  | 16, _ => rfl
  | 17, _ => rfl
  | 18, _ => rfl
  | 19, _ => rfl
  | 20, _ => rfl
  | 21, _ => rfl
  | 22, _ => rfl
  | 23, _ => rfl
  | 24, _ => rfl
  | 25, _ => rfl
  | 26, _ => rfl
  | 27, _ => rfl
  | 28, _ => rfl
  | 29, _ => rfl
  | 30, _ => rfl
  | 31, _ => rfl
  | 32, _ => rfl
  | 33, _ => rfl
  | 34, _ => rfl
  | k + 35, h => exact absurd h (by omega)
theorem mi_M : MI y_M_init b_M_init 2 0 := ⟨tbl_in (List.mem_of_getElem? (i := 984) (by decide +kernel)) rfl, tbl_in (List.mem_of_getElem? (i := 109) (by decide +kernel)) rfl, by decide +kernel, ⟨by decide +kernel, by decide +kernel, by decide +kernel⟩, rfl, tbl_in (List.mem_of_getElem? (i := 983) (by decide +kernel)) rfl⟩
theorem pf_M_9 : PF R_M 9 9 0 (.array .int) true := ⟨F_M, 35, rfl, by decide, tbl_in (List.mem_of_getElem? (i := 988) (by decide +kernel)) rfl, by decide +kernel, rfl, rfl⟩
theorem pf_M_13 : PF R_M 13 9 1 (.array .int) true := ⟨F_M, 35, rfl, by decide, tbl_in (List.mem_of_getElem? (i := 989) (by decide +kernel)) rfl, by decide +kernel, rfl, rfl⟩
theorem pf_M_16 : PF R_M 16 9 2 (.array .int) true := ⟨F_M, 35, rfl, by decide, tbl_in (List.mem_of_getElem? (i := 990) (by decide +kernel)) rfl, by decide +kernel, rfl, rfl⟩
theorem pf_M_19 : PF R_M 19 9 3 (.array .int) true := ⟨F_M, 35, rfl, by decide, tbl_in (List.mem_of_getElem? (i := 991) (by decide +kernel)) rfl, by decide +kernel, rfl, rfl⟩
theorem pf_M_22 : PF R_M 22 9 4 (.array .int) true := ⟨F_M, 35, rfl, by decide, tbl_in (List.mem_of_getElem? (i := 992) (by decide +kernel)) rfl, by decide +kernel, rfl, rfl⟩
theorem pf_M_25 : PF R_M 25 9 6 (.array .int) true := ⟨F_M, 35, rfl, by decide, tbl_in (List.mem_of_getElem? (i := 994) (by decide +kernel)) rfl, by decide +kernel, rfl, rfl⟩
theorem pf_M_30 : PF R_M 30 9 7 (.array (.array .int)) true := ⟨F_M, 35, rfl, by decide, tbl_in (List.mem_of_getElem? (i := 995) (by decide +kernel)) rfl, by decide +kernel, rfl, rfl⟩
theorem pf_M_33 : PF R_M 33 9 8 (.array .int) true := ⟨F_M, 35, rfl, by decide, tbl_in (List.mem_of_getElem? (i := 996) (by decide +kernel)) rfl, by decide +kernel, rfl, rfl⟩
theorem pf_M_36 : PF R_M 36 9 9 .int false := ⟨F_M, 35, rfl, by decide, tbl_in (List.mem_of_getElem? (i := 997) (by decide +kernel)) rfl, by decide +kernel, rfl, rfl⟩
theorem pf_M_40 : PF R_M 40 9 10 (.array (.array .int)) true := ⟨F_M, 35, rfl, by decide, tbl_in (List.mem_of_getElem? (i := 998) (by decide +kernel)) rfl, by decide +kernel, rfl, rfl⟩
theorem pf_M_43 : PF R_M 43 9 11 (.array .int) true := ⟨F_M, 35, rfl, by decide, tbl_in (List.mem_of_getElem? (i := 999) (by decide +kernel)) rfl, by decide +kernel, rfl, rfl⟩
theorem pf_M_46 : PF R_M 46 9 12 (.array .int) true := ⟨F_M, 35, rfl, by decide, tbl_in (List.mem_of_getElem? (i := 1000) (by decide +kernel)) rfl, by decide +kernel, rfl, rfl⟩
theorem pf_M_49 : PF R_M 49 9 14 (.array .int) true := ⟨F_M, 35, rfl, by decide, tbl_in (List.mem_of_getElem? (i := 1002) (by decide +kernel)) rfl, by decide +kernel, rfl, rfl⟩
theorem pf_M_52 : PF R_M 52 9 19 (.array .int) true := ⟨F_M, 35, rfl, by decide, tbl_in (List.mem_of_getElem? (i := 1007) (by decide +kernel)) rfl, by decide +kernel, rfl, rfl⟩
theorem pf_M_55 : PF R_M 55 9 21 (.array .int) true := ⟨F_M, 35, rfl, by decide, tbl_in (List.mem_of_getElem? (i := 1009) (by decide +kernel)) rfl, by decide +kernel, rfl, rfl⟩
theorem pf_M_58 : PF R_M 58 9 26 .int false := ⟨F_M, 35, rfl, by decide, tbl_in (List.mem_of_getElem? (i := 1014) (by decide +kernel)) rfl, by decide +kernel, rfl, rfl⟩
theorem pf_M_61 : PF R_M 61 9 27 .int false := ⟨F_M, 35, rfl, by decide, tbl_in (List.mem_of_getElem? (i := 1015) (by decide +kernel)) rfl, by decide +kernel, rfl, rfl⟩
theorem pf_M_64 : PF R_M 64 9 28 (.array .int) true := ⟨F_M, 35, rfl, by decide, tbl_in (List.mem_of_getElem? (i := 1016) (by decide +kernel)) rfl, by decide +kernel, rfl, rfl⟩
theorem pf_M_67 : PF R_M 67 9 30 (.array .int) true := ⟨F_M, 35, rfl, by decide, tbl_in (List.mem_of_getElem? (i := 1018) (by decide +kernel)) rfl, by decide +kernel, rfl, rfl⟩
def ce_K (cA : Nat → ClassId) (b k i : Nat) (E : Nat → va_E) : Nat → va_E := eu (eu (eu (eu (eu (eu (eu (eu (eu (eu (E) (k) (.inl (cA 0, 24, .inl (fun _ => 0)))) i (.inr (0, [.ref (b + k), .null, .null, .null, .null]))) (k + 1) (.inl (cA 0, 24, .inl (fun _ => 0)))) i (.inr (0, [.ref (b + k), .ref (b + (k + 1)), .null, .null, .null]))) (k + 2) (.inl (cA 0, 24, .inl (fun _ => 0)))) i (.inr (0, [.ref (b + k), .ref (b + (k + 1)), .ref (b + (k + 2)), .null, .null]))) (k + 3) (.inl (cA 0, 24, .inl (fun _ => 0)))) i (.inr (0, [.ref (b + k), .ref (b + (k + 1)), .ref (b + (k + 2)), .ref (b + (k + 3)), .null]))) (k + 4) (.inl (cA 0, 24, .inl (fun _ => 0)))) i (.inr (0, [.ref (b + k), .ref (b + (k + 1)), .ref (b + (k + 2)), .ref (b + (k + 3)), .ref (b + (k + 4))]))
set_option maxHeartbeats 4000000 in
set_option maxRecDepth 100000 in
theorem cn_K {D : va_G} {cA : Nat → ClassId} {b k i : Nat} {E : Nat → va_E} (hi : i < k) (he : E i = .inr (0, bl_K)) : Cn y_K_init b_K_init 1 1 5 120 [.ref (b + i)] D cA b k E (k + 5) (ce_K cA b k i E) := by
  refine Cn.of mi_K (vs := [(0, .ref (b + i))]) (fun ls h => h) rfl (Nat.le_of_ble_eq_true rfl) ?_
  intro p l e s m below meth c9 ls C hin hr hN hl
  refine lv_aload_n C.1 C.2.1 d_K_init_0 rfl (lv_at hl 0 rfl) ?_
  refine a_obj C d_K_init_1 (tbl_in (List.mem_of_getElem? (i := 129) (by decide +kernel)) rfl) w_obj w_objc hl.1 rfl (by decide) ?_
  refine lv_aload_n C.1 C.2.1 d_K_init_4 rfl (lv_at hl 0 rfl) ?_
  refine lv_bipush (v := 24) C.1 C.2.1 d_K_init_5 (by decide) ?_
  refine a_newI C hN d_K_init_7 w_aI (by decide) rfl (Nat.le_of_ble_eq_true rfl) (Nat.le_of_ble_eq_true rfl) (Nat.le_of_ble_eq_true rfl) (fun H hN => ?_)
  have hq := NW.sf hN rfl
  have he := NW.kp hN he (by omega)
  refine a_put C hin hN d_K_init_9 pf_K_9 (by omega) he rfl rfl (Nat.le_of_ble_eq_true rfl) (fun H locs hN => ?_)
  have he := NW.sf (o := .inr (0, [.ref (b + k), .null, .null, .null, .null])) hN rfl
  refine lv_aload_n C.1 C.2.1 d_K_init_12 rfl (lv_at hl 0 rfl) ?_
  refine lv_bipush (v := 24) C.1 C.2.1 d_K_init_13 (by decide) ?_
  refine a_newI C hN d_K_init_15 w_aI (by decide) rfl (Nat.le_of_ble_eq_true rfl) (Nat.le_of_ble_eq_true rfl) (Nat.le_of_ble_eq_true rfl) (fun H hN => ?_)
  have hq := NW.sf hN rfl
  have he := NW.kp hN he (by omega)
  refine a_put C hin hN d_K_init_17 pf_K_15 (by omega) he rfl rfl (Nat.le_of_ble_eq_true rfl) (fun H locs hN => ?_)
  have he := NW.sf (o := .inr (0, [.ref (b + k), .ref (b + (k + 1)), .null, .null, .null])) hN rfl
  refine lv_aload_n C.1 C.2.1 d_K_init_20 rfl (lv_at hl 0 rfl) ?_
  refine lv_bipush (v := 24) C.1 C.2.1 d_K_init_21 (by decide) ?_
  refine a_newI C hN d_K_init_23 w_aI (by decide) rfl (Nat.le_of_ble_eq_true rfl) (Nat.le_of_ble_eq_true rfl) (Nat.le_of_ble_eq_true rfl) (fun H hN => ?_)
  have hq := NW.sf hN rfl
  have he := NW.kp hN he (by omega)
  refine a_put C hin hN d_K_init_25 pf_K_18 (by omega) he rfl rfl (Nat.le_of_ble_eq_true rfl) (fun H locs hN => ?_)
  have he := NW.sf (o := .inr (0, [.ref (b + k), .ref (b + (k + 1)), .ref (b + (k + 2)), .null, .null])) hN rfl
  refine lv_aload_n C.1 C.2.1 d_K_init_28 rfl (lv_at hl 0 rfl) ?_
  refine lv_bipush (v := 24) C.1 C.2.1 d_K_init_29 (by decide) ?_
  refine a_newI C hN d_K_init_31 w_aI (by decide) rfl (Nat.le_of_ble_eq_true rfl) (Nat.le_of_ble_eq_true rfl) (Nat.le_of_ble_eq_true rfl) (fun H hN => ?_)
  have hq := NW.sf hN rfl
  have he := NW.kp hN he (by omega)
  refine a_put C hin hN d_K_init_33 pf_K_21 (by omega) he rfl rfl (Nat.le_of_ble_eq_true rfl) (fun H locs hN => ?_)
  have he := NW.sf (o := .inr (0, [.ref (b + k), .ref (b + (k + 1)), .ref (b + (k + 2)), .ref (b + (k + 3)), .null])) hN rfl
  refine lv_aload_n C.1 C.2.1 d_K_init_36 rfl (lv_at hl 0 rfl) ?_
  refine lv_bipush (v := 24) C.1 C.2.1 d_K_init_37 (by decide) ?_
  refine a_newI C hN d_K_init_39 w_aI (by decide) rfl (Nat.le_of_ble_eq_true rfl) (Nat.le_of_ble_eq_true rfl) (Nat.le_of_ble_eq_true rfl) (fun H hN => ?_)
  have hq := NW.sf hN rfl
  have he := NW.kp hN he (by omega)
  refine a_put C hin hN d_K_init_41 pf_K_24 (by omega) he rfl rfl (Nat.le_of_ble_eq_true rfl) (fun H locs hN => ?_)
  have he := NW.sf (o := .inr (0, [.ref (b + k), .ref (b + (k + 1)), .ref (b + (k + 2)), .ref (b + (k + 3)), .ref (b + (k + 4))])) hN rfl
  exact a_ret C hN hr d_K_init_44 rfl rfl
theorem ce_K_ne {cA : Nat → ClassId} {b k i j : Nat} {E : Nat → va_E} {x : va_E} (h : j < k) (h2 : j ≠ i) (he : E j = x) : ce_K cA b k i E j = x := by
  unfold ce_K
  simp only [eu_ne h2, eu_ne (show j ≠ k by omega), eu_ne (show j ≠ k + 1 by omega), eu_ne (show j ≠ k + 2 by omega), eu_ne (show j ≠ k + 3 by omega), eu_ne (show j ≠ k + 4 by omega), he]
def ce_G (cA : Nat → ClassId) (b k i : Nat) (c : Nat) (E : Nat → va_E) : Nat → va_E := eu (eu (eu (eu (eu (eu (eu (eu (eu (eu (eu (eu (eu (eu (eu (eu (eu (eu (eu (eu (E) (k) (.inl (cA 0, 2, .inl (fun _ => 0)))) (k) (.inl (cA 0, 2, .inl (upd (fun _ => 0) 0 20)))) (k) (.inl (cA 0, 2, .inl (upd (upd (fun _ => 0) 0 20) 1 20)))) i (.inr (2, [.null, .ref (b + k), .null, .null, .null, .null, .null, .int 0, .int 0, .int 0, .int 0, .int 0, .int 0, .int 0, .int 0]))) (k + 1) (.inl (cA 0, 4, .inl (fun _ => 0)))) (k + 1) (.inl (cA 0, 4, .inl (upd (fun _ => 0) 0 1)))) (k + 1) (.inl (cA 0, 4, .inl (upd (upd (fun _ => 0) 0 1) 1 2)))) (k + 1) (.inl (cA 0, 4, .inl (upd (upd (upd (fun _ => 0) 0 1) 1 2) 2 1)))) (k + 1) (.inl (cA 0, 4, .inl (upd (upd (upd (upd (fun _ => 0) 0 1) 1 2) 2 1) 3 7)))) i (.inr (2, [.null, .ref (b + k), .ref (b + (k + 1)), .null, .null, .null, .null, .int 0, .int 0, .int 0, .int 0, .int 0, .int 0, .int 0, .int 0]))) (k + 2) (.inl (cA 0, 24, .inl (fun _ => 0)))) i (.inr (2, [.null, .ref (b + k), .ref (b + (k + 1)), .ref (b + (k + 2)), .null, .null, .null, .int 0, .int 0, .int 0, .int 0, .int 0, .int 0, .int 0, .int 0]))) (k + 3) (.inl (cA 0, 24, .inl (fun _ => 0)))) i (.inr (2, [.null, .ref (b + k), .ref (b + (k + 1)), .ref (b + (k + 2)), .ref (b + (k + 3)), .null, .null, .int 0, .int 0, .int 0, .int 0, .int 0, .int 0, .int 0, .int 0]))) (k + 4) (.inl (cA 0, 24, .inl (fun _ => 0)))) i (.inr (2, [.null, .ref (b + k), .ref (b + (k + 1)), .ref (b + (k + 2)), .ref (b + (k + 3)), .ref (b + (k + 4)), .null, .int 0, .int 0, .int 0, .int 0, .int 0, .int 0, .int 0, .int 0]))) (k + 5) (.inl (cA 0, 64, .inl (fun _ => 0)))) i (.inr (2, [.null, .ref (b + k), .ref (b + (k + 1)), .ref (b + (k + 2)), .ref (b + (k + 3)), .ref (b + (k + 4)), .ref (b + (k + 5)), .int 0, .int 0, .int 0, .int 0, .int 0, .int 0, .int 0, .int 0]))) i (.inr (2, [.null, .ref (b + k), .ref (b + (k + 1)), .ref (b + (k + 2)), .ref (b + (k + 3)), .ref (b + (k + 4)), .ref (b + (k + 5)), .int 0, .int 0, .int 0, .int 0, .int 0, .int 0, .int 1, .int 0]))) i (.inr (2, [.ref (b + c), .ref (b + k), .ref (b + (k + 1)), .ref (b + (k + 2)), .ref (b + (k + 3)), .ref (b + (k + 4)), .ref (b + (k + 5)), .int 0, .int 0, .int 0, .int 0, .int 0, .int 0, .int 1, .int 0]))
set_option maxHeartbeats 4000000 in
set_option maxRecDepth 100000 in
theorem cn_G {D : va_G} {cA : Nat → ClassId} {b k i c : Nat} {E : Nat → va_E} (hi : i < k) (he : E i = .inr (2, bl_G)) : Cn y_G_init b_G_init 2 1 6 142 [.ref (b + i), .ref (b + c)] D cA b k E (k + 6) (ce_G cA b k i c E) := by
  refine Cn.of mi_G (vs := [(0, .ref (b + i)), (1, .ref (b + c))]) (fun ls h => h) rfl (Nat.le_of_ble_eq_true rfl) ?_
  intro p l e s m below meth c9 ls C hin hr hN hl
  refine lv_aload_n C.1 C.2.1 d_G_init_0 rfl (lv_at hl 0 rfl) ?_
  refine a_obj C d_G_init_1 (tbl_in (List.mem_of_getElem? (i := 172) (by decide +kernel)) rfl) w_obj w_objc hl.1 rfl (by decide) ?_
  refine lv_aload_n C.1 C.2.1 d_G_init_4 rfl (lv_at hl 0 rfl) ?_
  refine lv_iconst (v := 2) C.1 C.2.1 d_G_init_5 (by decide) ?_
  refine a_newI C hN d_G_init_6 w_aI (by decide) rfl (Nat.le_of_ble_eq_true rfl) (Nat.le_of_ble_eq_true rfl) (Nat.le_of_ble_eq_true rfl) (fun H hN => ?_)
  have hq := NW.sf hN rfl
  have he := NW.kp hN he (by omega)
  refine lv_dup C.1 C.2.1 d_G_init_8 rfl ?_
  refine lv_iconst (v := 0) C.1 C.2.1 d_G_init_9 (by decide) ?_
  refine lv_bipush (v := 20) C.1 C.2.1 d_G_init_10 (by decide) ?_
  refine a_iast C hN (i := k) (n := 2) (f := fun _ => 0) d_G_init_12 (by omega) hq (by unfold vp_in; decide) (fun H locs hN => ?_)
  have hq := NW.sf (o := .inl (cA 0, 2, .inl (upd (fun _ => 0) 0 20))) hN rfl
  have he := NW.kp hN he (by omega)
  refine lv_dup C.1 C.2.1 d_G_init_13 rfl ?_
  refine lv_iconst (v := 1) C.1 C.2.1 d_G_init_14 (by decide) ?_
  refine lv_bipush (v := 20) C.1 C.2.1 d_G_init_15 (by decide) ?_
  refine a_iast C hN (i := k) (n := 2) (f := upd (fun _ => 0) 0 20) d_G_init_17 (by omega) hq (by unfold vp_in; decide) (fun H locs hN => ?_)
  have hq := NW.sf (o := .inl (cA 0, 2, .inl (upd (upd (fun _ => 0) 0 20) 1 20))) hN rfl
  have he := NW.kp hN he (by omega)
  refine a_put C hin hN d_G_init_18 pf_G_9 (by omega) he rfl rfl (Nat.le_of_ble_eq_true rfl) (fun H locs hN => ?_)
  have he := NW.sf (o := .inr (2, [.null, .ref (b + k), .null, .null, .null, .null, .null, .int 0, .int 0, .int 0, .int 0, .int 0, .int 0, .int 0, .int 0])) hN rfl
  refine lv_aload_n C.1 C.2.1 d_G_init_21 rfl (lv_at hl 0 rfl) ?_
  refine lv_iconst (v := 4) C.1 C.2.1 d_G_init_22 (by decide) ?_
  refine a_newI C hN d_G_init_23 w_aI (by decide) rfl (Nat.le_of_ble_eq_true rfl) (Nat.le_of_ble_eq_true rfl) (Nat.le_of_ble_eq_true rfl) (fun H hN => ?_)
  have hq := NW.sf hN rfl
  have he := NW.kp hN he (by omega)
  refine lv_dup C.1 C.2.1 d_G_init_25 rfl ?_
  refine lv_iconst (v := 0) C.1 C.2.1 d_G_init_26 (by decide) ?_
  refine lv_iconst (v := 1) C.1 C.2.1 d_G_init_27 (by decide) ?_
  refine a_iast C hN (i := k + 1) (n := 4) (f := fun _ => 0) d_G_init_28 (by omega) hq (by unfold vp_in; decide) (fun H locs hN => ?_)
  have hq := NW.sf (o := .inl (cA 0, 4, .inl (upd (fun _ => 0) 0 1))) hN rfl
  have he := NW.kp hN he (by omega)
  refine lv_dup C.1 C.2.1 d_G_init_29 rfl ?_
  refine lv_iconst (v := 1) C.1 C.2.1 d_G_init_30 (by decide) ?_
  refine lv_iconst (v := 2) C.1 C.2.1 d_G_init_31 (by decide) ?_
  refine a_iast C hN (i := k + 1) (n := 4) (f := upd (fun _ => 0) 0 1) d_G_init_32 (by omega) hq (by unfold vp_in; decide) (fun H locs hN => ?_)
  have hq := NW.sf (o := .inl (cA 0, 4, .inl (upd (upd (fun _ => 0) 0 1) 1 2))) hN rfl
  have he := NW.kp hN he (by omega)
  refine lv_dup C.1 C.2.1 d_G_init_33 rfl ?_
  refine lv_iconst (v := 2) C.1 C.2.1 d_G_init_34 (by decide) ?_
  refine lv_iconst (v := 1) C.1 C.2.1 d_G_init_35 (by decide) ?_
  refine a_iast C hN (i := k + 1) (n := 4) (f := upd (upd (fun _ => 0) 0 1) 1 2) d_G_init_36 (by omega) hq (by unfold vp_in; decide) (fun H locs hN => ?_)
  have hq := NW.sf (o := .inl (cA 0, 4, .inl (upd (upd (upd (fun _ => 0) 0 1) 1 2) 2 1))) hN rfl
  have he := NW.kp hN he (by omega)
  refine lv_dup C.1 C.2.1 d_G_init_37 rfl ?_
  refine lv_iconst (v := 3) C.1 C.2.1 d_G_init_38 (by decide) ?_
  refine lv_bipush (v := 7) C.1 C.2.1 d_G_init_39 (by decide) ?_
  refine a_iast C hN (i := k + 1) (n := 4) (f := upd (upd (upd (fun _ => 0) 0 1) 1 2) 2 1) d_G_init_41 (by omega) hq (by unfold vp_in; decide) (fun H locs hN => ?_)
  have hq := NW.sf (o := .inl (cA 0, 4, .inl (upd (upd (upd (upd (fun _ => 0) 0 1) 1 2) 2 1) 3 7))) hN rfl
  have he := NW.kp hN he (by omega)
  refine a_put C hin hN d_G_init_42 pf_G_15 (by omega) he rfl rfl (Nat.le_of_ble_eq_true rfl) (fun H locs hN => ?_)
  have he := NW.sf (o := .inr (2, [.null, .ref (b + k), .ref (b + (k + 1)), .null, .null, .null, .null, .int 0, .int 0, .int 0, .int 0, .int 0, .int 0, .int 0, .int 0])) hN rfl
  refine lv_aload_n C.1 C.2.1 d_G_init_45 rfl (lv_at hl 0 rfl) ?_
  refine lv_bipush (v := 24) C.1 C.2.1 d_G_init_46 (by decide) ?_
  refine a_newI C hN d_G_init_48 w_aI (by decide) rfl (Nat.le_of_ble_eq_true rfl) (Nat.le_of_ble_eq_true rfl) (Nat.le_of_ble_eq_true rfl) (fun H hN => ?_)
  have hq := NW.sf hN rfl
  have he := NW.kp hN he (by omega)
  refine a_put C hin hN d_G_init_50 pf_G_18 (by omega) he rfl rfl (Nat.le_of_ble_eq_true rfl) (fun H locs hN => ?_)
  have he := NW.sf (o := .inr (2, [.null, .ref (b + k), .ref (b + (k + 1)), .ref (b + (k + 2)), .null, .null, .null, .int 0, .int 0, .int 0, .int 0, .int 0, .int 0, .int 0, .int 0])) hN rfl
  refine lv_aload_n C.1 C.2.1 d_G_init_53 rfl (lv_at hl 0 rfl) ?_
  refine lv_bipush (v := 24) C.1 C.2.1 d_G_init_54 (by decide) ?_
  refine a_newI C hN d_G_init_56 w_aI (by decide) rfl (Nat.le_of_ble_eq_true rfl) (Nat.le_of_ble_eq_true rfl) (Nat.le_of_ble_eq_true rfl) (fun H hN => ?_)
  have hq := NW.sf hN rfl
  have he := NW.kp hN he (by omega)
  refine a_put C hin hN d_G_init_58 pf_G_21 (by omega) he rfl rfl (Nat.le_of_ble_eq_true rfl) (fun H locs hN => ?_)
  have he := NW.sf (o := .inr (2, [.null, .ref (b + k), .ref (b + (k + 1)), .ref (b + (k + 2)), .ref (b + (k + 3)), .null, .null, .int 0, .int 0, .int 0, .int 0, .int 0, .int 0, .int 0, .int 0])) hN rfl
  refine lv_aload_n C.1 C.2.1 d_G_init_61 rfl (lv_at hl 0 rfl) ?_
  refine lv_bipush (v := 24) C.1 C.2.1 d_G_init_62 (by decide) ?_
  refine a_newI C hN d_G_init_64 w_aI (by decide) rfl (Nat.le_of_ble_eq_true rfl) (Nat.le_of_ble_eq_true rfl) (Nat.le_of_ble_eq_true rfl) (fun H hN => ?_)
  have hq := NW.sf hN rfl
  have he := NW.kp hN he (by omega)
  refine a_put C hin hN d_G_init_66 pf_G_24 (by omega) he rfl rfl (Nat.le_of_ble_eq_true rfl) (fun H locs hN => ?_)
  have he := NW.sf (o := .inr (2, [.null, .ref (b + k), .ref (b + (k + 1)), .ref (b + (k + 2)), .ref (b + (k + 3)), .ref (b + (k + 4)), .null, .int 0, .int 0, .int 0, .int 0, .int 0, .int 0, .int 0, .int 0])) hN rfl
  refine lv_aload_n C.1 C.2.1 d_G_init_69 rfl (lv_at hl 0 rfl) ?_
  refine lv_bipush (v := 64) C.1 C.2.1 d_G_init_70 (by decide) ?_
  refine a_newI C hN d_G_init_72 w_aI (by decide) rfl (Nat.le_of_ble_eq_true rfl) (Nat.le_of_ble_eq_true rfl) (Nat.le_of_ble_eq_true rfl) (fun H hN => ?_)
  have hq := NW.sf hN rfl
  have he := NW.kp hN he (by omega)
  refine a_put C hin hN d_G_init_74 pf_G_27 (by omega) he rfl rfl (Nat.le_of_ble_eq_true rfl) (fun H locs hN => ?_)
  have he := NW.sf (o := .inr (2, [.null, .ref (b + k), .ref (b + (k + 1)), .ref (b + (k + 2)), .ref (b + (k + 3)), .ref (b + (k + 4)), .ref (b + (k + 5)), .int 0, .int 0, .int 0, .int 0, .int 0, .int 0, .int 0, .int 0])) hN rfl
  refine lv_aload_n C.1 C.2.1 d_G_init_77 rfl (lv_at hl 0 rfl) ?_
  refine lv_iconst (v := 1) C.1 C.2.1 d_G_init_78 (by decide) ?_
  refine a_put C hin hN d_G_init_79 pf_G_30 (by omega) he rfl rfl (Nat.le_of_ble_eq_true rfl) (fun H locs hN => ?_)
  have he := NW.sf (o := .inr (2, [.null, .ref (b + k), .ref (b + (k + 1)), .ref (b + (k + 2)), .ref (b + (k + 3)), .ref (b + (k + 4)), .ref (b + (k + 5)), .int 0, .int 0, .int 0, .int 0, .int 0, .int 0, .int 1, .int 0])) hN rfl
  refine lv_aload_n C.1 C.2.1 d_G_init_82 rfl (lv_at hl 0 rfl) ?_
  refine lv_aload_n C.1 C.2.1 d_G_init_83 rfl (lv_at hl 1 rfl) ?_
  refine a_put C hin hN d_G_init_84 pf_G_34 (by omega) he rfl rfl (Nat.le_of_ble_eq_true rfl) (fun H locs hN => ?_)
  have he := NW.sf (o := .inr (2, [.ref (b + c), .ref (b + k), .ref (b + (k + 1)), .ref (b + (k + 2)), .ref (b + (k + 3)), .ref (b + (k + 4)), .ref (b + (k + 5)), .int 0, .int 0, .int 0, .int 0, .int 0, .int 0, .int 1, .int 0])) hN rfl
  exact a_ret C hN hr d_G_init_87 rfl rfl
theorem ce_G_ne {cA : Nat → ClassId} {b k i c j : Nat} {E : Nat → va_E} {x : va_E} (h : j < k) (h2 : j ≠ i) (he : E j = x) : ce_G cA b k i c E j = x := by
  unfold ce_G
  simp only [eu_ne h2, eu_ne (show j ≠ k by omega), eu_ne (show j ≠ k + 1 by omega), eu_ne (show j ≠ k + 2 by omega), eu_ne (show j ≠ k + 3 by omega), eu_ne (show j ≠ k + 4 by omega), eu_ne (show j ≠ k + 5 by omega), he]
def ce_Y (cA : Nat → ClassId) (b k i : Nat) (c : Nat) (E : Nat → va_E) : Nat → va_E := eu (eu (eu (eu (eu (eu (eu (eu (eu (E) (k) (.inl (cA 0, 4, .inl (fun _ => 0)))) i (.inr (3, [.null, .ref (b + k), .null, .int 0, .null, .null, .int 0]))) (k + 1) (.inl (cA 0, 24, .inl (fun _ => 0)))) i (.inr (3, [.null, .ref (b + k), .ref (b + (k + 1)), .int 0, .null, .null, .int 0]))) (k + 2) (.inl (cA 0, 24, .inl (fun _ => 0)))) i (.inr (3, [.null, .ref (b + k), .ref (b + (k + 1)), .int 0, .ref (b + (k + 2)), .null, .int 0]))) (k + 3) (.inl (cA 0, 4, .inl (fun _ => 0)))) i (.inr (3, [.null, .ref (b + k), .ref (b + (k + 1)), .int 0, .ref (b + (k + 2)), .ref (b + (k + 3)), .int 0]))) i (.inr (3, [.ref (b + c), .ref (b + k), .ref (b + (k + 1)), .int 0, .ref (b + (k + 2)), .ref (b + (k + 3)), .int 0]))
set_option maxHeartbeats 4000000 in
set_option maxRecDepth 100000 in
theorem cn_Y {D : va_G} {cA : Nat → ClassId} {b k i c : Nat} {E : Nat → va_E} (hi : i < k) (he : E i = .inr (3, bl_Y)) : Cn y_Y_init b_Y_init 2 1 4 56 [.ref (b + i), .ref (b + c)] D cA b k E (k + 4) (ce_Y cA b k i c E) := by
  refine Cn.of mi_Y (vs := [(0, .ref (b + i)), (1, .ref (b + c))]) (fun ls h => h) rfl (Nat.le_of_ble_eq_true rfl) ?_
  intro p l e s m below meth c9 ls C hin hr hN hl
  refine lv_aload_n C.1 C.2.1 d_Y_init_0 rfl (lv_at hl 0 rfl) ?_
  refine a_obj C d_Y_init_1 (tbl_in (List.mem_of_getElem? (i := 280) (by decide +kernel)) rfl) w_obj w_objc hl.1 rfl (by decide) ?_
  refine lv_aload_n C.1 C.2.1 d_Y_init_4 rfl (lv_at hl 0 rfl) ?_
  refine lv_iconst (v := 4) C.1 C.2.1 d_Y_init_5 (by decide) ?_
  refine a_newI C hN d_Y_init_6 w_aI (by decide) rfl (Nat.le_of_ble_eq_true rfl) (Nat.le_of_ble_eq_true rfl) (Nat.le_of_ble_eq_true rfl) (fun H hN => ?_)
  have hq := NW.sf hN rfl
  have he := NW.kp hN he (by omega)
  refine a_put C hin hN d_Y_init_8 pf_Y_9 (by omega) he rfl rfl (Nat.le_of_ble_eq_true rfl) (fun H locs hN => ?_)
  have he := NW.sf (o := .inr (3, [.null, .ref (b + k), .null, .int 0, .null, .null, .int 0])) hN rfl
  refine lv_aload_n C.1 C.2.1 d_Y_init_11 rfl (lv_at hl 0 rfl) ?_
  refine lv_bipush (v := 24) C.1 C.2.1 d_Y_init_12 (by decide) ?_
  refine a_newI C hN d_Y_init_14 w_aI (by decide) rfl (Nat.le_of_ble_eq_true rfl) (Nat.le_of_ble_eq_true rfl) (Nat.le_of_ble_eq_true rfl) (fun H hN => ?_)
  have hq := NW.sf hN rfl
  have he := NW.kp hN he (by omega)
  refine a_put C hin hN d_Y_init_16 pf_Y_15 (by omega) he rfl rfl (Nat.le_of_ble_eq_true rfl) (fun H locs hN => ?_)
  have he := NW.sf (o := .inr (3, [.null, .ref (b + k), .ref (b + (k + 1)), .int 0, .null, .null, .int 0])) hN rfl
  refine lv_aload_n C.1 C.2.1 d_Y_init_19 rfl (lv_at hl 0 rfl) ?_
  refine lv_bipush (v := 24) C.1 C.2.1 d_Y_init_20 (by decide) ?_
  refine a_newI C hN d_Y_init_22 w_aI (by decide) rfl (Nat.le_of_ble_eq_true rfl) (Nat.le_of_ble_eq_true rfl) (Nat.le_of_ble_eq_true rfl) (fun H hN => ?_)
  have hq := NW.sf hN rfl
  have he := NW.kp hN he (by omega)
  refine a_put C hin hN d_Y_init_24 pf_Y_18 (by omega) he rfl rfl (Nat.le_of_ble_eq_true rfl) (fun H locs hN => ?_)
  have he := NW.sf (o := .inr (3, [.null, .ref (b + k), .ref (b + (k + 1)), .int 0, .ref (b + (k + 2)), .null, .int 0])) hN rfl
  refine lv_aload_n C.1 C.2.1 d_Y_init_27 rfl (lv_at hl 0 rfl) ?_
  refine lv_iconst (v := 4) C.1 C.2.1 d_Y_init_28 (by decide) ?_
  refine a_newI C hN d_Y_init_29 w_aI (by decide) rfl (Nat.le_of_ble_eq_true rfl) (Nat.le_of_ble_eq_true rfl) (Nat.le_of_ble_eq_true rfl) (fun H hN => ?_)
  have hq := NW.sf hN rfl
  have he := NW.kp hN he (by omega)
  refine a_put C hin hN d_Y_init_31 pf_Y_21 (by omega) he rfl rfl (Nat.le_of_ble_eq_true rfl) (fun H locs hN => ?_)
  have he := NW.sf (o := .inr (3, [.null, .ref (b + k), .ref (b + (k + 1)), .int 0, .ref (b + (k + 2)), .ref (b + (k + 3)), .int 0])) hN rfl
  refine lv_aload_n C.1 C.2.1 d_Y_init_34 rfl (lv_at hl 0 rfl) ?_
  refine lv_aload_n C.1 C.2.1 d_Y_init_35 rfl (lv_at hl 1 rfl) ?_
  refine a_put C hin hN d_Y_init_36 pf_Y_24 (by omega) he rfl rfl (Nat.le_of_ble_eq_true rfl) (fun H locs hN => ?_)
  have he := NW.sf (o := .inr (3, [.ref (b + c), .ref (b + k), .ref (b + (k + 1)), .int 0, .ref (b + (k + 2)), .ref (b + (k + 3)), .int 0])) hN rfl
  exact a_ret C hN hr d_Y_init_39 rfl rfl
theorem ce_Y_ne {cA : Nat → ClassId} {b k i c j : Nat} {E : Nat → va_E} {x : va_E} (h : j < k) (h2 : j ≠ i) (he : E j = x) : ce_Y cA b k i c E j = x := by
  unfold ce_Y
  simp only [eu_ne h2, eu_ne (show j ≠ k by omega), eu_ne (show j ≠ k + 1 by omega), eu_ne (show j ≠ k + 2 by omega), eu_ne (show j ≠ k + 3 by omega), he]
def ce_E (cA : Nat → ClassId) (b k i : Nat) (c : Nat) (E : Nat → va_E) : Nat → va_E := eu (eu (eu (E) (k) (.inl (cA 0, 24, .inl (fun _ => 0)))) i (.inr (1, [.null, .int 0, .int 0, .int 0, .ref (b + k), .int 0, .int 0]))) i (.inr (1, [.ref (b + c), .int 0, .int 0, .int 0, .ref (b + k), .int 0, .int 0]))
set_option maxHeartbeats 4000000 in
set_option maxRecDepth 100000 in
theorem cn_E {D : va_G} {cA : Nat → ClassId} {b k i c : Nat} {E : Nat → va_E} (hi : i < k) (he : E i = .inr (1, bl_E)) : Cn y_E_init b_E_init 2 1 1 24 [.ref (b + i), .ref (b + c)] D cA b k E (k + 1) (ce_E cA b k i c E) := by
  refine Cn.of mi_E (vs := [(0, .ref (b + i)), (1, .ref (b + c))]) (fun ls h => h) rfl (Nat.le_of_ble_eq_true rfl) ?_
  intro p l e s m below meth c9 ls C hin hr hN hl
  refine lv_aload_n C.1 C.2.1 d_E_init_0 rfl (lv_at hl 0 rfl) ?_
  refine a_obj C d_E_init_1 (tbl_in (List.mem_of_getElem? (i := 312) (by decide +kernel)) rfl) w_obj w_objc hl.1 rfl (by decide) ?_
  refine lv_aload_n C.1 C.2.1 d_E_init_4 rfl (lv_at hl 0 rfl) ?_
  refine lv_bipush (v := 24) C.1 C.2.1 d_E_init_5 (by decide) ?_
  refine a_newI C hN d_E_init_7 w_aI (by decide) rfl (Nat.le_of_ble_eq_true rfl) (Nat.le_of_ble_eq_true rfl) (Nat.le_of_ble_eq_true rfl) (fun H hN => ?_)
  have hq := NW.sf hN rfl
  have he := NW.kp hN he (by omega)
  refine a_put C hin hN d_E_init_9 pf_E_9 (by omega) he rfl rfl (Nat.le_of_ble_eq_true rfl) (fun H locs hN => ?_)
  have he := NW.sf (o := .inr (1, [.null, .int 0, .int 0, .int 0, .ref (b + k), .int 0, .int 0])) hN rfl
  refine lv_aload_n C.1 C.2.1 d_E_init_12 rfl (lv_at hl 0 rfl) ?_
  refine lv_aload_n C.1 C.2.1 d_E_init_13 rfl (lv_at hl 1 rfl) ?_
  refine a_put C hin hN d_E_init_14 pf_E_15 (by omega) he rfl rfl (Nat.le_of_ble_eq_true rfl) (fun H locs hN => ?_)
  have he := NW.sf (o := .inr (1, [.ref (b + c), .int 0, .int 0, .int 0, .ref (b + k), .int 0, .int 0])) hN rfl
  exact a_ret C hN hr d_E_init_17 rfl rfl
theorem ce_E_ne {cA : Nat → ClassId} {b k i c j : Nat} {E : Nat → va_E} {x : va_E} (h : j < k) (h2 : j ≠ i) (he : E j = x) : ce_E cA b k i c E j = x := by
  unfold ce_E
  simp only [eu_ne h2, eu_ne (show j ≠ k by omega), he]
def ce_O (cA : Nat → ClassId) (b k i : Nat) (E : Nat → va_E) : Nat → va_E := eu (eu (eu (eu (E) (k) (.inl (cA 0, 40, .inl (fun _ => 0)))) i (.inr (4, [.ref (b + k), .null, .int 0, .int 0]))) (k + 1) (.inl (cA 0, 40, .inl (fun _ => 0)))) i (.inr (4, [.ref (b + k), .ref (b + (k + 1)), .int 0, .int 0]))
set_option maxHeartbeats 4000000 in
set_option maxRecDepth 100000 in
theorem cn_O {D : va_G} {cA : Nat → ClassId} {b k i : Nat} {E : Nat → va_E} (hi : i < k) (he : E i = .inr (4, bl_O)) : Cn y_O_init b_O_init 1 1 2 80 [.ref (b + i)] D cA b k E (k + 2) (ce_O cA b k i E) := by
  refine Cn.of mi_O (vs := [(0, .ref (b + i))]) (fun ls h => h) rfl (Nat.le_of_ble_eq_true rfl) ?_
  intro p l e s m below meth c9 ls C hin hr hN hl
  refine lv_aload_n C.1 C.2.1 d_O_init_0 rfl (lv_at hl 0 rfl) ?_
  refine a_obj C d_O_init_1 (tbl_in (List.mem_of_getElem? (i := 378) (by decide +kernel)) rfl) w_obj w_objc hl.1 rfl (by decide) ?_
  refine lv_aload_n C.1 C.2.1 d_O_init_4 rfl (lv_at hl 0 rfl) ?_
  refine lv_bipush (v := 40) C.1 C.2.1 d_O_init_5 (by decide) ?_
  refine a_newI C hN d_O_init_7 w_aI (by decide) rfl (Nat.le_of_ble_eq_true rfl) (Nat.le_of_ble_eq_true rfl) (Nat.le_of_ble_eq_true rfl) (fun H hN => ?_)
  have hq := NW.sf hN rfl
  have he := NW.kp hN he (by omega)
  refine a_put C hin hN d_O_init_9 pf_O_9 (by omega) he rfl rfl (Nat.le_of_ble_eq_true rfl) (fun H locs hN => ?_)
  have he := NW.sf (o := .inr (4, [.ref (b + k), .null, .int 0, .int 0])) hN rfl
  refine lv_aload_n C.1 C.2.1 d_O_init_12 rfl (lv_at hl 0 rfl) ?_
  refine lv_bipush (v := 40) C.1 C.2.1 d_O_init_13 (by decide) ?_
  refine a_newI C hN d_O_init_15 w_aI (by decide) rfl (Nat.le_of_ble_eq_true rfl) (Nat.le_of_ble_eq_true rfl) (Nat.le_of_ble_eq_true rfl) (fun H hN => ?_)
  have hq := NW.sf hN rfl
  have he := NW.kp hN he (by omega)
  refine a_put C hin hN d_O_init_17 pf_O_15 (by omega) he rfl rfl (Nat.le_of_ble_eq_true rfl) (fun H locs hN => ?_)
  have he := NW.sf (o := .inr (4, [.ref (b + k), .ref (b + (k + 1)), .int 0, .int 0])) hN rfl
  exact a_ret C hN hr d_O_init_20 rfl rfl
theorem ce_O_ne {cA : Nat → ClassId} {b k i j : Nat} {E : Nat → va_E} {x : va_E} (h : j < k) (h2 : j ≠ i) (he : E j = x) : ce_O cA b k i E j = x := by
  unfold ce_O
  simp only [eu_ne h2, eu_ne (show j ≠ k by omega), eu_ne (show j ≠ k + 1 by omega), he]
def ce_P (cA : Nat → ClassId) (b k i : Nat) (E : Nat → va_E) : Nat → va_E := eu (eu (eu (eu (eu (eu (eu (eu (eu (eu (E) (k) (.inl (cA 0, 201, .inl (fun _ => 0)))) i (.inr (5, [.ref (b + k), .null, .null, .null, .null]))) (k + 1) (.inl (cA 0, 201, .inl (fun _ => 0)))) i (.inr (5, [.ref (b + k), .ref (b + (k + 1)), .null, .null, .null]))) (k + 2) (.inl (cA 0, 201, .inl (fun _ => 0)))) i (.inr (5, [.ref (b + k), .ref (b + (k + 1)), .ref (b + (k + 2)), .null, .null]))) (k + 3) (.inl (cA 0, 201, .inl (fun _ => 0)))) i (.inr (5, [.ref (b + k), .ref (b + (k + 1)), .ref (b + (k + 2)), .ref (b + (k + 3)), .null]))) (k + 4) (.inl (cA 1, 3216, .inr (.inl (fun _ => 0))))) i (.inr (5, [.ref (b + k), .ref (b + (k + 1)), .ref (b + (k + 2)), .ref (b + (k + 3)), .ref (b + (k + 4))]))
set_option maxHeartbeats 4000000 in
set_option maxRecDepth 100000 in
theorem cn_P {D : va_G} {cA : Nat → ClassId} {b k i : Nat} {E : Nat → va_E} (hi : i < k) (he : E i = .inr (5, bl_P)) : Cn y_P_init b_P_init 1 1 5 4020 [.ref (b + i)] D cA b k E (k + 5) (ce_P cA b k i E) := by
  refine Cn.of mi_P (vs := [(0, .ref (b + i))]) (fun ls h => h) rfl (Nat.le_of_ble_eq_true rfl) ?_
  intro p l e s m below meth c9 ls C hin hr hN hl
  refine lv_aload_n C.1 C.2.1 d_P_init_0 rfl (lv_at hl 0 rfl) ?_
  refine a_obj C d_P_init_1 (tbl_in (List.mem_of_getElem? (i := 257) (by decide +kernel)) rfl) w_obj w_objc hl.1 rfl (by decide) ?_
  refine lv_aload_n C.1 C.2.1 d_P_init_4 rfl (lv_at hl 0 rfl) ?_
  refine lv_sipush (v := 201) C.1 C.2.1 d_P_init_5 (by decide) ?_
  refine a_newI C hN d_P_init_8 w_aI (by decide) rfl (Nat.le_of_ble_eq_true rfl) (Nat.le_of_ble_eq_true rfl) (Nat.le_of_ble_eq_true rfl) (fun H hN => ?_)
  have hq := NW.sf hN rfl
  have he := NW.kp hN he (by omega)
  refine a_put C hin hN d_P_init_10 pf_P_9 (by omega) he rfl rfl (Nat.le_of_ble_eq_true rfl) (fun H locs hN => ?_)
  have he := NW.sf (o := .inr (5, [.ref (b + k), .null, .null, .null, .null])) hN rfl
  refine lv_aload_n C.1 C.2.1 d_P_init_13 rfl (lv_at hl 0 rfl) ?_
  refine lv_sipush (v := 201) C.1 C.2.1 d_P_init_14 (by decide) ?_
  refine a_newI C hN d_P_init_17 w_aI (by decide) rfl (Nat.le_of_ble_eq_true rfl) (Nat.le_of_ble_eq_true rfl) (Nat.le_of_ble_eq_true rfl) (fun H hN => ?_)
  have hq := NW.sf hN rfl
  have he := NW.kp hN he (by omega)
  refine a_put C hin hN d_P_init_19 pf_P_15 (by omega) he rfl rfl (Nat.le_of_ble_eq_true rfl) (fun H locs hN => ?_)
  have he := NW.sf (o := .inr (5, [.ref (b + k), .ref (b + (k + 1)), .null, .null, .null])) hN rfl
  refine lv_aload_n C.1 C.2.1 d_P_init_22 rfl (lv_at hl 0 rfl) ?_
  refine lv_sipush (v := 201) C.1 C.2.1 d_P_init_23 (by decide) ?_
  refine a_newI C hN d_P_init_26 w_aI (by decide) rfl (Nat.le_of_ble_eq_true rfl) (Nat.le_of_ble_eq_true rfl) (Nat.le_of_ble_eq_true rfl) (fun H hN => ?_)
  have hq := NW.sf hN rfl
  have he := NW.kp hN he (by omega)
  refine a_put C hin hN d_P_init_28 pf_P_18 (by omega) he rfl rfl (Nat.le_of_ble_eq_true rfl) (fun H locs hN => ?_)
  have he := NW.sf (o := .inr (5, [.ref (b + k), .ref (b + (k + 1)), .ref (b + (k + 2)), .null, .null])) hN rfl
  refine lv_aload_n C.1 C.2.1 d_P_init_31 rfl (lv_at hl 0 rfl) ?_
  refine lv_sipush (v := 201) C.1 C.2.1 d_P_init_32 (by decide) ?_
  refine a_newI C hN d_P_init_35 w_aI (by decide) rfl (Nat.le_of_ble_eq_true rfl) (Nat.le_of_ble_eq_true rfl) (Nat.le_of_ble_eq_true rfl) (fun H hN => ?_)
  have hq := NW.sf hN rfl
  have he := NW.kp hN he (by omega)
  refine a_put C hin hN d_P_init_37 pf_P_21 (by omega) he rfl rfl (Nat.le_of_ble_eq_true rfl) (fun H locs hN => ?_)
  have he := NW.sf (o := .inr (5, [.ref (b + k), .ref (b + (k + 1)), .ref (b + (k + 2)), .ref (b + (k + 3)), .null])) hN rfl
  refine lv_aload_n C.1 C.2.1 d_P_init_40 rfl (lv_at hl 0 rfl) ?_
  refine lv_sipush (v := 3216) C.1 C.2.1 d_P_init_41 (by decide) ?_
  refine a_newJ C hN d_P_init_44 w_aJ (by decide) rfl (Nat.le_of_ble_eq_true rfl) (Nat.le_of_ble_eq_true rfl) (Nat.le_of_ble_eq_true rfl) (fun H hN => ?_)
  have hq := NW.sf hN rfl
  have he := NW.kp hN he (by omega)
  refine a_put C hin hN d_P_init_46 pf_P_24 (by omega) he rfl rfl (Nat.le_of_ble_eq_true rfl) (fun H locs hN => ?_)
  have he := NW.sf (o := .inr (5, [.ref (b + k), .ref (b + (k + 1)), .ref (b + (k + 2)), .ref (b + (k + 3)), .ref (b + (k + 4))])) hN rfl
  exact a_ret C hN hr d_P_init_49 rfl rfl
theorem ce_P_ne {cA : Nat → ClassId} {b k i j : Nat} {E : Nat → va_E} {x : va_E} (h : j < k) (h2 : j ≠ i) (he : E j = x) : ce_P cA b k i E j = x := by
  unfold ce_P
  simp only [eu_ne h2, eu_ne (show j ≠ k by omega), eu_ne (show j ≠ k + 1 by omega), eu_ne (show j ≠ k + 2 by omega), eu_ne (show j ≠ k + 3 by omega), eu_ne (show j ≠ k + 4 by omega), he]
def ce_T (cA : Nat → ClassId) (b k i : Nat) (E : Nat → va_E) : Nat → va_E := eu (eu (eu (eu (eu (eu (eu (eu (eu (eu (E) (k) (.inl (cA 0, 120, .inl (fun _ => 0)))) i (.inr (7, [.ref (b + k), .int 0, .int 0, .null, .null, .null, .null, .int 0]))) (k + 1) (.inl (cA 0, 10, .inl (fun _ => 0)))) i (.inr (7, [.ref (b + k), .int 0, .int 0, .ref (b + (k + 1)), .null, .null, .null, .int 0]))) (k + 2) (.inl (cA 0, 10, .inl (fun _ => 0)))) i (.inr (7, [.ref (b + k), .int 0, .int 0, .ref (b + (k + 1)), .ref (b + (k + 2)), .null, .null, .int 0]))) (k + 3) (.inl (cA 0, 10, .inl (fun _ => 0)))) i (.inr (7, [.ref (b + k), .int 0, .int 0, .ref (b + (k + 1)), .ref (b + (k + 2)), .ref (b + (k + 3)), .null, .int 0]))) (k + 4) (.inl (cA 0, 10, .inl (fun _ => 0)))) i (.inr (7, [.ref (b + k), .int 0, .int 0, .ref (b + (k + 1)), .ref (b + (k + 2)), .ref (b + (k + 3)), .ref (b + (k + 4)), .int 0]))
set_option maxHeartbeats 4000000 in
set_option maxRecDepth 100000 in
theorem cn_T {D : va_G} {cA : Nat → ClassId} {b k i : Nat} {E : Nat → va_E} (hi : i < k) (he : E i = .inr (7, bl_T)) : Cn y_T_init b_T_init 1 1 5 160 [.ref (b + i)] D cA b k E (k + 5) (ce_T cA b k i E) := by
  refine Cn.of mi_T (vs := [(0, .ref (b + i))]) (fun ls h => h) rfl (Nat.le_of_ble_eq_true rfl) ?_
  intro p l e s m below meth c9 ls C hin hr hN hl
  refine lv_aload_n C.1 C.2.1 d_T_init_0 rfl (lv_at hl 0 rfl) ?_
  refine a_obj C d_T_init_1 (tbl_in (List.mem_of_getElem? (i := 401) (by decide +kernel)) rfl) w_obj w_objc hl.1 rfl (by decide) ?_
  refine lv_aload_n C.1 C.2.1 d_T_init_4 rfl (lv_at hl 0 rfl) ?_
  refine lv_bipush (v := 120) C.1 C.2.1 d_T_init_5 (by decide) ?_
  refine a_newI C hN d_T_init_7 w_aI (by decide) rfl (Nat.le_of_ble_eq_true rfl) (Nat.le_of_ble_eq_true rfl) (Nat.le_of_ble_eq_true rfl) (fun H hN => ?_)
  have hq := NW.sf hN rfl
  have he := NW.kp hN he (by omega)
  refine a_put C hin hN d_T_init_9 pf_T_9 (by omega) he rfl rfl (Nat.le_of_ble_eq_true rfl) (fun H locs hN => ?_)
  have he := NW.sf (o := .inr (7, [.ref (b + k), .int 0, .int 0, .null, .null, .null, .null, .int 0])) hN rfl
  refine lv_aload_n C.1 C.2.1 d_T_init_12 rfl (lv_at hl 0 rfl) ?_
  refine lv_bipush (v := 10) C.1 C.2.1 d_T_init_13 (by decide) ?_
  refine a_newI C hN d_T_init_15 w_aI (by decide) rfl (Nat.le_of_ble_eq_true rfl) (Nat.le_of_ble_eq_true rfl) (Nat.le_of_ble_eq_true rfl) (fun H hN => ?_)
  have hq := NW.sf hN rfl
  have he := NW.kp hN he (by omega)
  refine a_put C hin hN d_T_init_17 pf_T_15 (by omega) he rfl rfl (Nat.le_of_ble_eq_true rfl) (fun H locs hN => ?_)
  have he := NW.sf (o := .inr (7, [.ref (b + k), .int 0, .int 0, .ref (b + (k + 1)), .null, .null, .null, .int 0])) hN rfl
  refine lv_aload_n C.1 C.2.1 d_T_init_20 rfl (lv_at hl 0 rfl) ?_
  refine lv_bipush (v := 10) C.1 C.2.1 d_T_init_21 (by decide) ?_
  refine a_newI C hN d_T_init_23 w_aI (by decide) rfl (Nat.le_of_ble_eq_true rfl) (Nat.le_of_ble_eq_true rfl) (Nat.le_of_ble_eq_true rfl) (fun H hN => ?_)
  have hq := NW.sf hN rfl
  have he := NW.kp hN he (by omega)
  refine a_put C hin hN d_T_init_25 pf_T_18 (by omega) he rfl rfl (Nat.le_of_ble_eq_true rfl) (fun H locs hN => ?_)
  have he := NW.sf (o := .inr (7, [.ref (b + k), .int 0, .int 0, .ref (b + (k + 1)), .ref (b + (k + 2)), .null, .null, .int 0])) hN rfl
  refine lv_aload_n C.1 C.2.1 d_T_init_28 rfl (lv_at hl 0 rfl) ?_
  refine lv_bipush (v := 10) C.1 C.2.1 d_T_init_29 (by decide) ?_
  refine a_newI C hN d_T_init_31 w_aI (by decide) rfl (Nat.le_of_ble_eq_true rfl) (Nat.le_of_ble_eq_true rfl) (Nat.le_of_ble_eq_true rfl) (fun H hN => ?_)
  have hq := NW.sf hN rfl
  have he := NW.kp hN he (by omega)
  refine a_put C hin hN d_T_init_33 pf_T_21 (by omega) he rfl rfl (Nat.le_of_ble_eq_true rfl) (fun H locs hN => ?_)
  have he := NW.sf (o := .inr (7, [.ref (b + k), .int 0, .int 0, .ref (b + (k + 1)), .ref (b + (k + 2)), .ref (b + (k + 3)), .null, .int 0])) hN rfl
  refine lv_aload_n C.1 C.2.1 d_T_init_36 rfl (lv_at hl 0 rfl) ?_
  refine lv_bipush (v := 10) C.1 C.2.1 d_T_init_37 (by decide) ?_
  refine a_newI C hN d_T_init_39 w_aI (by decide) rfl (Nat.le_of_ble_eq_true rfl) (Nat.le_of_ble_eq_true rfl) (Nat.le_of_ble_eq_true rfl) (fun H hN => ?_)
  have hq := NW.sf hN rfl
  have he := NW.kp hN he (by omega)
  refine a_put C hin hN d_T_init_41 pf_T_24 (by omega) he rfl rfl (Nat.le_of_ble_eq_true rfl) (fun H locs hN => ?_)
  have he := NW.sf (o := .inr (7, [.ref (b + k), .int 0, .int 0, .ref (b + (k + 1)), .ref (b + (k + 2)), .ref (b + (k + 3)), .ref (b + (k + 4)), .int 0])) hN rfl
  exact a_ret C hN hr d_T_init_44 rfl rfl
theorem ce_T_ne {cA : Nat → ClassId} {b k i j : Nat} {E : Nat → va_E} {x : va_E} (h : j < k) (h2 : j ≠ i) (he : E j = x) : ce_T cA b k i E j = x := by
  unfold ce_T
  simp only [eu_ne h2, eu_ne (show j ≠ k by omega), eu_ne (show j ≠ k + 1 by omega), eu_ne (show j ≠ k + 2 by omega), eu_ne (show j ≠ k + 3 by omega), eu_ne (show j ≠ k + 4 by omega), he]
def ce_R (cA : Nat → ClassId) (b k i : Nat) (c : Nat) (E : Nat → va_E) : Nat → va_E := eu (ce_E cA b (k + 12) (k + 11) c (eu (eu (ce_Y cA b (k + 7) (k + 6) c (eu (eu (eu (ce_P cA b (k + 1) (k) (eu (E) (k) (.inr (5, bl_P)))) i (.inr (6, [.null, .null, .null, .ref (b + k), .int 0, .int 0, .int 0, .int 0]))) i (.inr (6, [.ref (b + c), .null, .null, .ref (b + k), .int 0, .int 0, .int 0, .int 0]))) (k + 6) (.inr (3, bl_Y)))) i (.inr (6, [.ref (b + c), .ref (b + (k + 6)), .null, .ref (b + k), .int 0, .int 0, .int 0, .int 0]))) (k + 11) (.inr (1, bl_E)))) i (.inr (6, [.ref (b + c), .ref (b + (k + 6)), .ref (b + (k + 11)), .ref (b + k), .int 0, .int 0, .int 0, .int 0]))
set_option maxHeartbeats 4000000 in
set_option maxRecDepth 100000 in
theorem cn_R {D : va_G} {cA : Nat → ClassId} {b k i c : Nat} {E : Nat → va_E} (hi : i < k) (he : E i = .inr (6, bl_R)) : Cn y_R_init b_R_init 2 2 13 4119 [.ref (b + i), .ref (b + c)] D cA b k E (k + 13) (ce_R cA b k i c E) := by
  refine Cn.of mi_R (vs := [(0, .ref (b + i)), (1, .ref (b + c))]) (fun ls h => h) rfl (Nat.le_of_ble_eq_true rfl) ?_
  intro p l e s m below meth c9 ls C hin hr hN hl
  refine lv_aload_n C.1 C.2.1 d_R_init_0 rfl (lv_at hl 0 rfl) ?_
  refine a_obj C d_R_init_1 (tbl_in (List.mem_of_getElem? (i := 251) (by decide +kernel)) rfl) w_obj w_objc hl.1 rfl (by decide) ?_
  refine lv_aload_n C.1 C.2.1 d_R_init_4 rfl (lv_at hl 0 rfl) ?_
  refine a_new C hN (ci := 5) (q := (R_P, F_P, 5)) (fs := bl_P) d_R_init_5 rfl (tbl_in (List.mem_of_getElem? (i := 252) (by decide +kernel)) rfl) (tbl_in (List.mem_of_getElem? (i := 253) (by decide +kernel)) rfl) (tbl_in (List.mem_of_getElem? (i := 104) (by decide +kernel)) rfl) ft_P ft_P_ok bl_P_ok (Nat.le_of_ble_eq_true rfl) (Nat.le_of_ble_eq_true rfl) (fun H hN => ?_)
  have hq := NW.sf hN rfl
  have he := NW.kp hN he (by omega)
  refine lv_dup C.1 C.2.1 d_R_init_8 rfl ?_
  refine a_init C hN (host := "LayeredCards") (As := []) d_R_init_9 (nst_in (List.mem_of_getElem? (i := 254) (by decide +kernel)) rfl) mi_P (cn_P (k := k + 1) (i := k) (by omega) hq) rfl rfl hl.1 (Nat.le_of_ble_eq_true rfl) rfl (by decide) (by decide) ⟨Nat.le_of_ble_eq_true rfl, Nat.le_of_ble_eq_true rfl⟩ (fun H locs hN => ?_)
  have he := (ce_P_ne (cA := cA) (b := b) (k := k + 1) (i := k) (by omega) (by omega) he)
  refine a_put C hin hN d_R_init_12 pf_R_12 (by omega) he rfl rfl (Nat.le_of_ble_eq_true rfl) (fun H locs hN => ?_)
  have he := NW.sf (o := .inr (6, [.null, .null, .null, .ref (b + k), .int 0, .int 0, .int 0, .int 0])) hN rfl
  refine lv_aload_n C.1 C.2.1 d_R_init_15 rfl (lv_at hl 0 rfl) ?_
  refine lv_aload_n C.1 C.2.1 d_R_init_16 rfl (lv_at hl 1 rfl) ?_
  refine a_put C hin hN d_R_init_17 pf_R_18 (by omega) he rfl rfl (Nat.le_of_ble_eq_true rfl) (fun H locs hN => ?_)
  have he := NW.sf (o := .inr (6, [.ref (b + c), .null, .null, .ref (b + k), .int 0, .int 0, .int 0, .int 0])) hN rfl
  refine lv_aload_n C.1 C.2.1 d_R_init_20 rfl (lv_at hl 0 rfl) ?_
  refine a_new C hN (ci := 3) (q := (R_Y, F_Y, 7)) (fs := bl_Y) d_R_init_21 rfl (tbl_in (List.mem_of_getElem? (i := 275) (by decide +kernel)) rfl) (tbl_in (List.mem_of_getElem? (i := 276) (by decide +kernel)) rfl) (tbl_in (List.mem_of_getElem? (i := 105) (by decide +kernel)) rfl) ft_Y ft_Y_ok bl_Y_ok (Nat.le_of_ble_eq_true rfl) (Nat.le_of_ble_eq_true rfl) (fun H hN => ?_)
  have hq := NW.sf hN rfl
  have he := NW.kp hN he (by omega)
  refine lv_dup C.1 C.2.1 d_R_init_24 rfl ?_
  refine lv_aload_n C.1 C.2.1 d_R_init_25 rfl (lv_at hl 1 rfl) ?_
  refine a_init C hN (host := "LayeredCards") (As := [.ref (b + c)]) d_R_init_26 (nst_in (List.mem_of_getElem? (i := 277) (by decide +kernel)) rfl) mi_Y (cn_Y (k := k + 7) (i := k + 6) (c := c) (by omega) hq) rfl rfl hl.1 (Nat.le_of_ble_eq_true rfl) rfl (by decide) (by decide) ⟨Nat.le_of_ble_eq_true rfl, Nat.le_of_ble_eq_true rfl⟩ (fun H locs hN => ?_)
  have he := (ce_Y_ne (cA := cA) (b := b) (k := k + 7) (i := k + 6) (c := c) (by omega) (by omega) he)
  refine a_put C hin hN d_R_init_29 pf_R_27 (by omega) he rfl rfl (Nat.le_of_ble_eq_true rfl) (fun H locs hN => ?_)
  have he := NW.sf (o := .inr (6, [.ref (b + c), .ref (b + (k + 6)), .null, .ref (b + k), .int 0, .int 0, .int 0, .int 0])) hN rfl
  refine lv_aload_n C.1 C.2.1 d_R_init_32 rfl (lv_at hl 0 rfl) ?_
  refine a_new C hN (ci := 1) (q := (R_E, F_E, 7)) (fs := bl_E) d_R_init_33 rfl (tbl_in (List.mem_of_getElem? (i := 307) (by decide +kernel)) rfl) (tbl_in (List.mem_of_getElem? (i := 308) (by decide +kernel)) rfl) (tbl_in (List.mem_of_getElem? (i := 106) (by decide +kernel)) rfl) ft_E ft_E_ok bl_E_ok (Nat.le_of_ble_eq_true rfl) (Nat.le_of_ble_eq_true rfl) (fun H hN => ?_)
  have hq := NW.sf hN rfl
  have he := NW.kp hN he (by omega)
  refine lv_dup C.1 C.2.1 d_R_init_36 rfl ?_
  refine lv_aload_n C.1 C.2.1 d_R_init_37 rfl (lv_at hl 1 rfl) ?_
  refine a_init C hN (host := "LayeredCards") (As := [.ref (b + c)]) d_R_init_38 (nst_in (List.mem_of_getElem? (i := 309) (by decide +kernel)) rfl) mi_E (cn_E (k := k + 12) (i := k + 11) (c := c) (by omega) hq) rfl rfl hl.1 (Nat.le_of_ble_eq_true rfl) rfl (by decide) (by decide) ⟨Nat.le_of_ble_eq_true rfl, Nat.le_of_ble_eq_true rfl⟩ (fun H locs hN => ?_)
  have he := (ce_E_ne (cA := cA) (b := b) (k := k + 12) (i := k + 11) (c := c) (by omega) (by omega) he)
  refine a_put C hin hN d_R_init_41 pf_R_34 (by omega) he rfl rfl (Nat.le_of_ble_eq_true rfl) (fun H locs hN => ?_)
  have he := NW.sf (o := .inr (6, [.ref (b + c), .ref (b + (k + 6)), .ref (b + (k + 11)), .ref (b + k), .int 0, .int 0, .int 0, .int 0])) hN rfl
  exact a_ret C hN hr d_R_init_44 rfl rfl
theorem w_M_28 : Cond.classLink R_M 28 ("[" ++ (FieldType.array .int).toString) ∈ tbl := tbl_in (List.mem_of_getElem? (i := 986) (by decide +kernel)) rfl
def gmf (b i k : Nat) : List Value := [.ref (b + 1), .ref (b + k), .ref (b + (k + 1)), .ref (b + (k + 2)), .ref (b + (k + 3)), .ref (b + (k + 4)), .ref (b + (k + 5)), .int 0, .int 0, .int 0, .int 0, .int 0, .int 0, .int 1, .int 0]
