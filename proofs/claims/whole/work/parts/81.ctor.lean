/-! CONSTRUCTORS: cells are made one after the other, so the k-th new cell lies at b + k -/
def eu (E : Nat → va_E) (i : Nat) (x : va_E) : Nat → va_E := fun j => if j = i then x else E j
theorem eu_self {E : Nat → va_E} {i : Nat} {x : va_E} : eu E i x i = x := if_pos rfl
theorem eu_ne {E : Nat → va_E} {i j : Nat} {x : va_E} (h : j ≠ i) : eu E i x j = E j := if_neg h
def nw (b k : Nat) (E : Nat → va_E) : va_W := (List.range k).map (fun i => (b + i, E i))
theorem nw_at {b k i : Nat} {E : Nat → va_E} (h : i < k) : (nw b k E)[i]? = some (b + i, E i) := by simp [nw, h]
theorem nw_in {b k i : Nat} {E : Nat → va_E} {q : Nat × va_E} (h : (nw b k E)[i]? = some q) : i < k ∧ q = (b + i, E i) := by
  have hlt : i < k := by
    have := (List.getElem?_eq_some_iff.mp h).1
    simpa [nw] using this
  rw [nw_at hlt] at h
  exact ⟨hlt, (Option.some.inj h).symm⟩
theorem nw_set {b k i : Nat} {E : Nat → va_E} {x : va_E} (h : i < k) : (nw b k E).set i (b + i, x) = nw b k (eu E i x) := by
  apply List.ext_getElem?
  intro j
  rw [List.getElem?_set]
  by_cases hi : i = j
  · subst hi
    rw [if_pos rfl, if_pos (by simpa [nw] using h), nw_at h, eu_self]
  · rw [if_neg hi]
    by_cases hl : j < k
    · rw [nw_at hl, nw_at hl, eu_ne (fun q => hi q.symm)]
    · rw [List.getElem?_eq_none (by simp [nw]; omega), List.getElem?_eq_none (by simp [nw]; omega)]
theorem nw_D {b k : Nat} {E : Nat → va_E} : va_D (fun q => b ≤ q) (nw b k E) := by
  refine ⟨fun i j p q hi hj h => ?_, fun i q hi => ?_⟩
  · obtain ⟨-, rfl⟩ := nw_in hi
    obtain ⟨-, rfl⟩ := nw_in hj
    have h : b + i = b + j := h
    omega
  · obtain ⟨-, rfl⟩ := nw_in hi
    exact Nat.le_add_right _ _
/-- the cells from b on are k, and what they are -/
def NP (D : va_G) (b k : Nat) (E : Nat → va_E) (H : Heap) : Prop := H.size = b + k ∧ va_P D cls0 (nw b k E) H
theorem NP.put {D : va_G} {b k i : Nat} {E : Nat → va_E} {x : va_E} {H H1 : Heap} (h : NP D b k E H) (hi : i < k) (z : H1.size = H.size) (oq : ∀ q : Nat, q ≠ b + i → H1[q]? = H[q]?) (hx : va_at D cls0 (b + i, x) H1) : NP D b k (eu E i x) H1 := by
  refine ⟨z.trans h.1, ?_⟩
  rw [← nw_set hi]
  exact h.2.set nw_D (nw_at hi) hx oq
theorem NP.push {D : va_G} {b k : Nat} {E : Nat → va_E} {x : va_E} {H H1 : Heap} (h : NP D b k E H) (z : H1.size = b + k + 1) (oq : ∀ q : Nat, q < b + k → H1[q]? = H[q]?) (hx : va_at D cls0 (b + k, x) H1) : NP D b (k + 1) (eu E k x) H1 := by
  refine ⟨by omega, fun i q hi => ?_⟩
  obtain ⟨hlt, rfl⟩ := nw_in hi
  by_cases e : i = k
  · subst e
    rw [eu_self]
    exact hx
  · rw [eu_ne e]
    exact (h.2 i _ (nw_at (by omega))).kept (oq _ (by show b + i < b + k; omega))
/-- the outer array at k, n rows behind it -/
def eus (E : Nat → va_E) (k n : Nat) (o x : va_E) : Nat → va_E := fun j => if j = k then o else if k < j ∧ j < k + 1 + n then x else E j
def tyq (cA : Nat → ClassId) : List (ClassId × FieldType) := [(cA 0, .int), (cA 1, .long), (cA 2, .object "LayeredCards$Game"), (cA 3, .array .int)]
/-- the class of arrays of rows of ints stands ready -/
def AOI (U : State) : Prop := (Cond.arrayOver (.array .int)).before #[] U = true
theorem AOI.moved {u U : State} (hvm : u.vm.Alike U.vm) (h : AOI u) : AOI U := by
  obtain ⟨comp, c, k, h1, h2, h3, h4, h5⟩ := arrayOverA_spec h
  obtain ⟨k', hk', he⟩ := hvm.2.2 _ _ h3
  have hb9 : U.vm.bare = u.vm.bare := by first | exact hvm.bare_eq | exact hvm.bare_eq.symm
  have h8 := va_idx_bare U.vm comp
  rw [hb9, va_idx_bare] at h8
  have hi := h8.symm.trans h2
  have hkind : k'.kind = .array comp (.array .int) := by rw [he]; exact h4
  have f1 : U.vm.findClass (FieldType.array .int).toString = some comp := by rw [hvm.findClass]; exact h1
  have f2 : U.vm.findClass ("[" ++ (FieldType.array .int).toString) = some c := by rw [hvm.findClass]; exact h5
  unfold AOI Cond.before Cond.holds
  simp only [Cond.value]
  rw [f1, Option.bind_some]
  refine (congrArg (fun o : Option Nat => (o.bind (fun c => (U.vm.classes[c]?).map fun (k : Class) => match k.kind with | .array _ ty => decide (ty = FieldType.array .int) && decide (U.vm.findClass ("[" ++ (FieldType.array .int).toString) = some c) | _ => false) == some true)) hi).trans ?_
  simp [hk', hkind, f2]
/-- what the tables say, in a state -/
def KA (D : va_G) (cA : Nat → ClassId) (U : State) : Prop := va_K D cls0 (tyq cA) U ∧ NX U ∧ va_AO "LayeredCards$Game" U ∧ AOI U
theorem KA.warm {D : va_G} {cA : Nat → ClassId} {s U : State} (hW : s.WarmedH U.vm) (h : KA D cA s) : KA D cA U := ⟨va_K.moved hW.alike h.1, h.2.1.warm hW, va_AO.moved hW.alike h.2.2.1, AOI.moved hW.alike h.2.2.2⟩
def rmA (d mc ms : Nat) : Room := { frames := d, cells := mc, slots := ms, locals := d * 60 }
/-- a constructor's contract at one start: k cells before, k2 behind it -/
def Cn (y : MethodName) (cc : ByteArray) (nL d mc ms : Nat) (As : List Value) (D : va_G) (cA : Nat → ClassId) (b k : Nat) (E : Nat → va_E) (k2 : Nat) (E2 : Nat → va_E) : Prop :=
  ∀ l : Launch, Met l y (Cond.code y cc nL none :: tbl) (rmA d mc ms) (va_Pc As (fun U => NP D b k E U.heap ∧ KA D cA U)) (fun _ st oc t => oc = .returned none ∧ NP D b k2 E2 t.heap ∧ va_F (fun q => b ≤ q) st t) mc ms (fun q => b ≤ q)
theorem Cn_blind {D : va_G} {cA : Nat → ClassId} {b k : Nat} {E : Nat → va_E} {av : List Value} : FrameBlind (va_Pc av (fun U => NP D b k E U.heap ∧ KA D cA U)) := by
  rintro a U g mk ⟨q0, q1, qK, qN, qA, qI⟩
  exact ⟨q0, q1, va_K.moved (u := U) (U := U.calling g mk a) (Vm.Alike.refl U.vm) qK, NX.same (s := U) rfl qN, va_AO.moved (u := U) (Vm.Alike.refl U.vm) qA, AOI.moved (u := U) (Vm.Alike.refl U.vm) qI⟩
/-- the words of a constructor that is called -/
def MI (y : MethodName) (cc : ByteArray) (nL n : Nat) : Prop :=
  Cond.code y cc nL none ∈ tbl ∧ Cond.initialized y.cls ∈ tbl ∧ plainName y.cls = true ∧ (y.cls ≠ "java/lang/invoke/MethodHandle" ∧ y.cls ≠ "java/lang/invoke/VarHandle" ∧ (parseMethodDescriptor y.desc).map (fun d => d.parameters.length) = some n) ∧ y.name = "<init>" ∧ Cond.instanceMethod y ∈ tbl
/-- a field's word in its own class's constructor -/
def PF (own : String) (idx ci j : Nat) (ty : FieldType) (fin : Bool) : Prop := ∃ (T : u_T) (N : Nat), cls0[ci]? = some (own, T, N) ∧ j < N ∧ Cond.fieldLink own idx own (T j).2.1 (T j).2.2.1 ∈ tbl ∧ parseFieldDescriptor (T j).2.2.1 = some ty ∧ (T j).2.2.2 = fin ∧ (T j).1 = own
abbrev AX : Type := Program × Env × Room × State × MethodId × Array Value × Method × Code × va_G × (Nat → ClassId)
section RA
variable {p : Program} {l : Launch} {e : Env} {R : Room} {s : State} {m : MethodId} {args : Array Value} {below : List Frame} {meth : Method} {c : Code} {H : Heap} {locs : List Loc} {cells slots : Nat} {Q : State → Prop}
variable {cc : ByteArray} {pc : Nat} {ls : Array Slot} {rest : List Value} {D : va_G} {cA : Nat → ClassId} {b k nL : Nat} {E : Nat → va_E} {own : String}
def CA (p : Program) (s : State) (m : MethodId) (args : Array Value) (meth : Method) (c : Code) (own : String) (cc : ByteArray) (nL : Nat) (D : va_G) (cA : Nat → ClassId) : Prop :=
  p.tables.exec = Jvm.exec ∧ c.code = cc ∧ c.maxLocals = nL ∧ s.vm.findClass own = some m.cls ∧ (∀ x ∈ tbl, x.before args s = true) ∧ KA D cA s ∧ meth.locks = false
def NW (D : va_G) (b k : Nat) (E : Nat → va_E) (H : Heap) (locs : List Loc) (s : State) : Prop := NP D b k E H ∧ va_S (fun q => b ≤ q) s.heap H locs
theorem NW.b_le (h : NW D b k E H locs s) : s.heap.size ≤ H.size := h.2.1
theorem NW.push {H1 : Heap} {x : va_E} (h : NW D b k E H locs s) (z : H1.size = b + k + 1) (oq : ∀ q : Nat, q < b + k → H1[q]? = H[q]?) (hx : va_at D cls0 (b + k, x) H1) : NW D b (k + 1) (eu E k x) H1 locs s := by
  have h1 := h.1.1
  refine ⟨h.1.push z oq hx, by have := h.2.1; omega, fun q h2 h3 => ?_, h.2.2.2⟩
  have hq : q < b + k := Nat.lt_of_lt_of_le (Nat.not_le.mp h3) (Nat.le_add_right _ _)
  rw [oq q hq]
  exact h.2.2.1 q h2 h3
theorem a_newI (C : CA p s m args meth c own cc nL D cA) (hN : NW D b k E H locs s) {n : Int32} {N : Nat} (hd : decode cc pc = .ok (.newarray .int, 2)) (ha : Cond.arrayClass .int ∈ tbl) (hn : ¬ n < 0) (hz : n.toNatClampNeg = N) (hb9 : N * 4 ≤ 536870912) (hc : cells + 1 ≤ R.cells) (hs : slots + N ≤ R.slots)
    (kk : ∀ H1, NW D b (k + 1) (eu E k (.inl (cA 0, N, .inl (fun _ => 0)))) H1 locs s → W p l e R s m args below meth c H1 locs (cells + 1) (slots + N) Q (F0 m (pc + 2) ls (.ref (b + k) :: rest))) : W p l e R s m args below meth c H locs cells slots Q (F0 m pc ls (.int n :: rest)) := by
  obtain ⟨hx, hb, hml, hown, hts, hK, hlk⟩ := C
  refine va_newaK (atype := .int) hx hb (hts _ ha) rfl hd rfl hn hz hb9 hc hs hN.1.1 fun H1 cI e1 z1 o1 hAr hNm => ?_
  have hcI : cI = cA 0 := Option.some.inj (hNm.symm.trans (hK.1.2 0 _ rfl).2)
  subst hcI
  exact kk H1 (hN.push z1 o1 e1)
theorem a_newJ (C : CA p s m args meth c own cc nL D cA) (hN : NW D b k E H locs s) {n : Int32} {N : Nat} (hd : decode cc pc = .ok (.newarray .long, 2)) (ha : Cond.arrayClass .long ∈ tbl) (hn : ¬ n < 0) (hz : n.toNatClampNeg = N) (hb9 : N * 8 ≤ 536870912) (hc : cells + 1 ≤ R.cells) (hs : slots + N ≤ R.slots)
    (kk : ∀ H1, NW D b (k + 1) (eu E k (.inl (cA 1, N, .inr (.inl (fun _ => 0))))) H1 locs s → W p l e R s m args below meth c H1 locs (cells + 1) (slots + N) Q (F0 m (pc + 2) ls (.ref (b + k) :: rest))) : W p l e R s m args below meth c H locs cells slots Q (F0 m pc ls (.int n :: rest)) := by
  obtain ⟨hx, hb, hml, hown, hts, hK, hlk⟩ := C
  refine va_newaK (atype := .long) hx hb (hts _ ha) rfl hd rfl hn hz hb9 hc hs hN.1.1 fun H1 cI e1 z1 o1 hAr hNm => ?_
  have hcI : cI = cA 1 := Option.some.inj (hNm.symm.trans (hK.1.2 1 _ rfl).2)
  subst hcI
  exact kk H1 (hN.push z1 o1 e1)
theorem a_new (C : CA p s m args meth c own cc nL D cA) (hN : NW D b k E H locs s) {idx ci : Nat} {q : vw_C} {fs : List Value} (hd : decode cc pc = .ok (.new idx, 3)) (hq : cls0[ci]? = some q) (hl : Cond.classLink own idx q.1 ∈ tbl) (hi : Cond.instantiable q.1 q.2.2 ∈ tbl) (hu : Cond.initialized q.1 ∈ tbl) (ty : Nat → FieldType) (hty : ∀ k, k < q.2.2 → parseFieldDescriptor (q.2.1 k).2.2.1 = some (ty k)) (hfs : ∀ j, j < q.2.2 → defaultValue (ty j) = vp_V fs j) (hc : cells + 1 ≤ R.cells) (hs : slots + q.2.2 ≤ R.slots)
    (kk : ∀ H1, NW D b (k + 1) (eu E k (.inr (ci, fs))) H1 locs s → W p l e R s m args below meth c H1 locs (cells + 1) (slots + q.2.2) Q (F0 m (pc + 3) ls (.ref (b + k) :: rest))) : W p l e R s m args below meth c H locs cells slots Q (F0 m pc ls rest) := by
  obtain ⟨hx, hb, hml, hown, hts, hK, hlk⟩ := C
  have hKn := hK.1.1 ci _ hq
  obtain ⟨-, hin, -⟩ := cw_all hq hq
  refine W.newcK hx hb hown (hts _ hl) (hts _ hi) (hts _ hu) rfl hd hc hs hKn.2.1 hN.1.1 fun H1 kC hkC e1 z1 o1 => ?_
  exact kk H1 (hN.push z1 o1 ⟨_, hq, (u_born ty hts hin hKn hkC e1 hty).to hfs⟩)
theorem a_put (C : CA p s m args meth c own cc nL D cA) (hin2 : meth.name = "<init>") (hN : NW D b k E H locs s) {idx ci i j : Nat} {ty : FieldType} {fin : Bool} {fs : List Value} {v : Value} (hd : decode cc pc = .ok (.putfield idx, 3)) (hp : PF own idx ci j ty fin) (hi : i < k) (he : E i = .inr (ci, fs)) (hn : narrow ty v = v) (hfit : fits ty v = true) (hl : j < fs.length)
    (kk : ∀ H1 locs1, NW D b k (eu E i (.inr (ci, fs.set j v))) H1 locs1 s → W p l e R s m args below meth c H1 locs1 cells slots Q (F0 m (pc + 3) ls rest)) : W p l e R s m args below meth c H locs cells slots Q (F0 m pc ls (v :: .ref (b + i) :: rest)) := by
  obtain ⟨hx, hb, hml, hown, hts, hK, hlk⟩ := C
  obtain ⟨T, N, hq, hjN, hlink, hd0, hfin, hdecl⟩ := hp
  obtain ⟨hN1, hin, hnm, ty0, hty, -, -⟩ := cw_all hq hq
  have hP := hN.1.2
  have hap := va_apart (own := own) hts hin ty0 hty hnm hK.1 hq
  have he2 : (nw b k E)[i]? = some (b + i, .inr (ci, fs)) := by rw [nw_at hi, he]
  obtain ⟨r, h1, cell, q1, q2, q3, q4⟩ := hP i _ he2
  have hr9 : r = (own, T, N) := Option.some.inj (h1.symm.trans hq)
  subst hr9
  obtain ⟨hSl, hfc, kC, hkC, hkind⟩ := hK.1.1 ci _ hq
  obtain ⟨cf, kf, fi, f, hi9, hsl⟩ := hSl j hjN
  have hlay := hts _ (hin _ (u_in_lay hjN))
  unfold u_lay at hlay
  have hst := (u_facts hfc hkC (u_lays hts hin hjN) hi9).1
  have hi8 := hi9
  rw [show ((own, T, N) : vw_C).2.1 = T from rfl, hdecl] at hi8
  cases fin with
  | false =>
    rw [if_neg (by rw [hfin]; decide)] at hlay
    have h6 := u_store hfc hkC hkind hlay hi9 hd0 hn hfit
    refine W.putK hx hb (f := f) ⟨hown, hts _ hlink, ⟨_, _, _, hi8⟩, hst⟩ (by rw [q2]; exact h6) q1 q3 (by rw [hsl]; exact k2_hasslot (q4 j hjN)) rfl rfl hd fun H' e1 e2 e3 => ?_
    rw [hsl] at e1 ⊢
    exact kk H' _ ⟨hN.1.put hi e2 e3 ⟨_, hq, t_OB.to (V := updV (vp_V fs) j v) ⟨_, e1, q2, q3, t_set q4 hap hjN v⟩ (fun j' _ => vp_updV_set hl v j')⟩, hN.2.put e2 e3 (Nat.le_add_right _ _)⟩
  | true =>
    rw [if_pos hfin] at hlay
    have hcf : m.cls = cf := by
      obtain ⟨_, _, c', _, _, _, -, -, hf', -, -, -, hown2, -⟩ := Cond.laysFinal_spec hlay
      have e1 : c' = cf := by have := hi9.symm.trans hf'; simp at this; exact this.1.symm
      rw [hdecl] at hown2
      rw [← e1]; exact Option.some.inj (hown.symm.trans hown2)
    have h6 := u_fits hfc hkC hkind (Or.inr hlay) hi9 hd0 hn hfit
    refine W.putFinK hx hb hown (hts _ hlink) hi8 hst hcf hin2 (by rw [q2]; exact h6) q1 q3 (by rw [hsl]; exact k2_hasslot (q4 j hjN)) rfl rfl hd fun H' e1 e2 e3 => ?_
    rw [hsl] at e1 ⊢
    exact kk H' _ ⟨hN.1.put hi e2 e3 ⟨_, hq, t_OB.to (V := updV (vp_V fs) j v) ⟨_, e1, q2, q3, t_set q4 hap hjN v⟩ (fun j' _ => vp_updV_set hl v j')⟩, hN.2.put e2 e3 (Nat.le_add_right _ _)⟩
theorem a_get (C : CA p s m args meth c own cc nL D cA) (hN : NW D b k E H locs s) {idx ci i j : Nat} {ty : FieldType} {fin : Bool} {fs : List Value} {v : Value} (hd : decode cc pc = .ok (.getfield idx, 3)) (hp : PF own idx ci j ty fin) (hi : i < k) (he : E i = .inr (ci, fs)) (hv : fs[j]? = some v)
    (kk : W p l e R s m args below meth c H locs cells slots Q (F0 m (pc + 3) ls (v :: rest))) : W p l e R s m args below meth c H locs cells slots Q (F0 m pc ls (.ref (b + i) :: rest)) := by
  obtain ⟨hx, hb, hml, hown, hts, hK, hlk⟩ := C
  obtain ⟨T, N, hq, hjN, hlink, hd0, hfin, hdecl⟩ := hp
  obtain ⟨hN1, hin, -⟩ := cw_all hq hq
  have he2 : (nw b k E)[i]? = some (b + i, .inr (ci, fs)) := by rw [nw_at hi, he]
  exact va_get (ci := ci) hx hb hts hin hown hK.1 hN.1.2 i he2 hq j hjN (hts _ hlink) (fun _ h => by rw [← hdecl]; exact h) hv hd kk
theorem a_iast (C : CA p s m args meth c own cc nL D cA) (hN : NW D b k E H locs s) {i n : Nat} {f : Nat → Int32} {j x : Int32} (hd : decode cc pc = .ok (.iastore, 1)) (hi : i < k) (he : E i = .inl (cA 0, n, .inl f)) (hin : vp_in j n)
    (kk : ∀ H1 locs1, NW D b k (eu E i (.inl (cA 0, n, .inl (upd f j.toNatClampNeg x)))) H1 locs1 s → W p l e R s m args below meth c H1 locs1 cells slots Q (F0 m (pc + 1) ls rest)) : W p l e R s m args below meth c H locs cells slots Q (F0 m pc ls (.int x :: .int j :: .ref (b + i) :: rest)) := by
  obtain ⟨hx, hb, hml, hown, hts, hK, hlk⟩ := C
  have he2 : (nw b k E)[i]? = some (b + i, .inl (cA 0, n, .inl f)) := by rw [nw_at hi, he]
  refine W.iast hx hb (hN.1.2 i _ he2) ((hK.1.2 0 _ rfl).1 n (fun j => .int (f j))) (fun q => by cases q) (by show ¬ (j < 0 ∨ (arrV _ _ _).slots.size ≤ _); rw [arrV_size]; exact hin) rfl rfl hd fun H1 e1 z oq => ?_
  refine kk H1 _ ⟨hN.1.put hi z oq ?_, hN.2.put z oq (Nat.le_add_right _ _)⟩
  show H1[b + i]? = some (vp_cell _ _)
  rw [e1, vp_cell_i, vp_cell_i, arrV_store]
  congr 2
  funext q
  by_cases hq : q = j.toNatClampNeg
  · subst hq
    simp [updV, upd]
  · simp [updV, upd, hq]
theorem a_anew (C : CA p s m args meth c own cc nL D cA) (hN : NW D b k E H locs s) {idx : Nat} {n : Int32} {N : Nat} (hd : decode cc pc = .ok (.anewarray idx, 3)) (hw : Cond.classLink own idx "LayeredCards$Game" ∈ tbl) (hn : ¬ n < 0) (hz : n.toNatClampNeg = N) (hb9 : N * 4 ≤ 536870912) (hc : cells + 1 ≤ R.cells) (hs : slots + N ≤ R.slots)
    (kk : ∀ H1, NW D b (k + 1) (eu E k (.inl (cA 2, N, .inr (.inr (.inr (.inr (fun _ => none))))))) H1 locs s → W p l e R s m args below meth c H1 locs (cells + 1) (slots + N) Q (F0 m (pc + 3) ls (.ref (b + k) :: rest))) : W p l e R s m args below meth c H locs cells slots Q (F0 m pc ls (.int n :: rest)) := by
  obtain ⟨hx, hb, hml, hown, hts, hK, hlk⟩ := C
  subst hz
  refine W.anew hx hb hown (hts _ hw) (va_AO.use hK.2.2.1) rfl hd rfl hn hb9 hc hs fun cI kA comp f1 f2 f3 f4 => ?_
  obtain ⟨kA', comp', g1, g2, g3, g4⟩ := (hK.1.2 2 _ rfl).2
  have hcI : cI = cA 2 := Option.some.inj (f1.symm.trans g4)
  subst hcI
  have hz := hN.1.1
  rw [hz]
  refine kk _ (hN.push (by rw [Array.size_push, hz]) (fun q hq => by rw [Array.getElem?_push, if_neg (by rw [hz]; exact Nat.ne_of_lt hq)]) ?_)
  show _ = some (vp_cell _ _)
  rw [← hz, Array.getElem?_push_size, vp_cell_q, ← arrV_new]
  rfl
theorem a_aast (C : CA p s m args meth c own cc nL D cA) (hN : NW D b k E H locs s) {i i2 n : Nat} {f : Nat → Option Nat} {fs : List Value} {j : Int32} (hd : decode cc pc = .ok (.aastore, 1)) (hi : i < k) (he : E i = .inl (cA 2, n, .inr (.inr (.inr (.inr f))))) (hi2 : i2 < k) (he2 : E i2 = .inr (2, fs)) (hin : vp_in j n)
    (kk : ∀ H1 locs1, NW D b k (eu E i (.inl (cA 2, n, .inr (.inr (.inr (.inr (va_up f j.toNatClampNeg (some (b + i2))))))))) H1 locs1 s → W p l e R s m args below meth c H1 locs1 cells slots Q (F0 m (pc + 1) ls rest)) : W p l e R s m args below meth c H locs cells slots Q (F0 m pc ls (.ref (b + i2) :: .int j :: .ref (b + i) :: rest)) := by
  obtain ⟨hx, hb, hml, hown, hts, hK, hlk⟩ := C
  have ha : (nw b k E)[i]? = some (b + i, .inl (cA 2, n, .inr (.inr (.inr (.inr f))))) := by rw [nw_at hi, he]
  have hv : (nw b k E)[i2]? = some (b + i2, .inr (2, fs)) := by rw [nw_at hi2, he2]
  have hlt : j.toNatClampNeg < n := Nat.not_le.mp fun q => hin (Or.inr q)
  have h0 : ¬ j < 0 := fun q => hin (Or.inl q)
  have hc : cls0[2]? = some (R_G, F_G, 15) := rfl
  obtain ⟨r', hr', cellV, g1, g2, g3, -⟩ := hN.1.2 i2 _ hv
  have hcls := (hK.1.1 2 _ hc).2
  obtain ⟨kA, comp, k1, k2, k3, -⟩ := (hK.1.2 2 _ rfl).2
  have hcomp : comp = D.1 2 := Option.some.inj (k3.symm.trans hcls.1)
  subst hcomp
  obtain ⟨kC, hkC, -⟩ := hcls.2
  refine W.aast hx hb (hN.1.2 i _ ha) (fun q h => by cases h) (fun h => by cases h) k1 k2 rfl hkC ⟨h0, by show _ < (arrV _ _ _).slots.size; rw [arrV_size]; exact hlt⟩ g1 (fun q h => by rw [g3] at h; cases h) (by rw [g2]; exact hkC) (by rw [g2]; exact va_assign hcls) rfl rfl hd fun H1 e1 z oq => ?_
  refine kk H1 _ ⟨hN.1.put hi z oq ?_, hN.2.put z oq (Nat.le_add_right _ _)⟩
  show H1[b + i]? = some (vp_cell _ _)
  rw [e1, vp_cell_q, vp_cell_q, arrV_store]
  congr 2
  funext q
  by_cases hq : q = j.toNatClampNeg
  · subst hq
    simp [updV, va_up, va_rf]
  · simp [updV, va_up, hq]
theorem a_alen (C : CA p s m args meth c own cc nL D cA) (hN : NW D b k E H locs s) {i n t : Nat} {v : Int32} {a : (Nat → Int32) ⊕ (Nat → Int64) ⊕ (Nat → UInt32) ⊕ (Nat → UInt64) ⊕ (Nat → Option Nat)} {ty : FieldType} (hd : decode cc pc = .ok (.arraylength, 1)) (hi : i < k) (he : E i = .inl (cA t, n, a)) (ht : (tyq cA)[t]? = some (cA t, ty)) (hv : Int32.ofNat n = v)
    (kk : W p l e R s m args below meth c H locs cells slots Q (F0 m (pc + 1) ls (.int v :: rest))) : W p l e R s m args below meth c H locs cells slots Q (F0 m pc ls (.ref (b + i) :: rest)) := by
  obtain ⟨hx, hb, hml, hown, hts, hK, hlk⟩ := C
  have ha : (nw b k E)[i]? = some (b + i, .inl (cA t, n, a)) := by rw [nw_at hi, he]
  exact va_alen hx hb hK.1 hN.1.2 i t ha ht hv hd kk
theorem a_obj (C : CA p s m args meth c own cc nL D cA) {a idx : Nat} (hd : decode cc pc = .ok (.invokespecial idx, 3)) (hw : Cond.methodLink own idx Lib.objectInit ∈ tbl) (hw2 : Cond.instanceMethod Lib.objectInit ∈ tbl) (hw3 : Cond.code Lib.objectInit ⟨#[0xb1]⟩ 1 none ∈ tbl) (hls : ls.size = nL) {d mc ms : Nat} (hR : R = rmA d mc ms) (hd1 : 0 < d)
    (kk : W p l e R s m args below meth c H locs cells slots Q (F0 m (pc + 3) ls [])) : W p l e R s m args below meth c H locs cells slots Q (F0 m pc ls [.ref a]) := by
  obtain ⟨hx, hb, hml, hown, hts, hK, hlk⟩ := C
  subst hR
  refine W.objInit hx hb hown (hts _ hw) (hts _ hw2) (hts _ hw3) rfl (by rw [hml]; exact hls) rfl hd hd1 ?_ kk
  show 0 + 0 + 12 ≤ d * 60
  omega
/-- a nest mate's constructor -/
theorem a_init (C : CA p s m args meth c own cc nL D cA) (hN : NW D b k E H locs s) {idx i d2 mc ms n k2 nL2 : Nat} {y : MethodName} {cc2 : ByteArray} {As stk : List Value} {E2 : Nat → va_E} {host : String} (hd : decode cc pc = .ok (.invokespecial idx, 3)) (hw : Cond.methodLinkNest own idx y host ∈ nst) (mi : MI y cc2 nL2 n) (h : Cn y cc2 nL2 d2 mc ms (.ref i :: As) D cA b k E k2 E2) (hn : As.length = n) (hst : As.reverse ++ .ref i :: rest = stk) (hls : ls.size = nL) (hroom : (rest.map fun v => v.category).sum ≤ 8) {d mc9 ms9 : Nat} (hR : R = rmA d mc9 ms9) (hd1 : d2 < d) (hnL : nL2 ≤ 40) (hf : cells + mc ≤ mc9 ∧ slots + ms ≤ ms9)
    (kk : ∀ H1 locs1, NW D b k2 E2 H1 locs1 s → W p l e R s m args below meth c H1 locs1 (cells + mc) (slots + ms) Q (F0 m (pc + 3) ls rest)) : W p l e R s m args below meth c H locs cells slots Q (F0 m pc ls stk) := by
  subst hst
  obtain ⟨hx, hb, hml, hown, hts, hK, hlk⟩ := C
  obtain ⟨mx1, mx2, mx3, mx4, mx5, mx6⟩ := mi
  subst hR
  have hR2 : (rmA d2 mc ms).frames + 1 ≤ (rmA d mc9 ms9).frames ∧ 8 + (nL2 + 11) + (rmA d2 mc ms).locals ≤ (rmA d mc9 ms9).locals := by
    refine ⟨hd1, ?_⟩
    show 8 + (nL2 + 11) + d2 * 60 ≤ d * 60
    omega
  have hpre : PreS s H (va_Pc (.ref i :: As) (fun U => NP D b k E U.heap ∧ KA D cA U)) (.ref i :: As) := ⟨Cn_blind, fun U hU hW => ⟨rfl, by rw [hU]; exact hN.1, hK.warm hW⟩⟩
  have hr := va_runIN (nL := nL) (l := l) (below := below) (meth := meth) (locs := locs) (cells := cells) (slots := slots) (e := e) (R := rmA d mc9 ms9) (H := H) (g := F0 m pc ls (As.reverse ++ .ref i :: rest)) ⟨hx, hb, hml, hown, hts⟩ (h l) ⟨va_cnB n hts (gi_tbl (a := Cond.tt) mx1) rfl rfl rfl (hK.2.1 _ hw) (hts _ mx2) mx4 hR2, mx5, hts _ mx6⟩ hpre rfl hn hls rfl (lv_room hroom) hd hf
  intro T hT X
  obtain ⟨v, st₀, t, T', L, h0, X', hL, e1, e2, ⟨hv, hp, hF⟩, st⟩ := hr T hT X
  cases hv
  obtain ⟨hz, hk⟩ := hF
  rw [h0] at hz hk
  obtain ⟨t2, a1, b1⟩ := kk T'.heap (locs ++ L) ⟨by rw [e1]; exact hp, Nat.le_trans hN.2.1 (by rw [e1]; exact hz), fun q h1 h2 => by rw [e1, hk q (Nat.lt_of_lt_of_le h1 hN.2.1) h2]; exact hN.2.2.1 q h1 h2, fun q hq => by
      rcases List.mem_append.mp hq with h | h
      · exact hN.2.2.2 q h
      · exact hL q h⟩ T' rfl X'
  exact ⟨t2, st t2 a1, b1⟩
theorem a_ret (C : CA p s m args meth c own cc nL D cA) (hN : NW D b k E H locs s) (hr : meth.sig.returnType = none) (hd : decode cc pc = .ok (.return_, 1)) {k2 : Nat} {E2 : Nat → va_E} (hk : k = k2) (hE : E = E2) : W p l e R s m args below meth c H locs cells slots (MQ below (fun _ st oc t => oc = .returned none ∧ NP D b k2 E2 t.heap ∧ va_F (fun q => b ≤ q) st t) args s cells slots (fun q => b ≤ q)) (F0 m pc ls []) := by
  subst hk
  subst hE
  obtain ⟨hx, hb, hml, hown, hts, hK, hlk⟩ := C
  exact W.vret hx hb hr (fun t ht hW => ⟨rfl, by rw [ht]; exact hN.1, hN.2.F ht⟩) hN.2.2.2 hd hlk
end RA
/-- a constructor's contract out of a walk -/
theorem Cn.of {y : MethodName} {cc : ByteArray} {nL d mc ms n : Nat} {As : List Value} {D : va_G} {cA : Nat → ClassId} {b k k2 : Nat} {E E2 : Nat → va_E} (mi : MI y cc nL n) {vs : List (Nat × Value)} (hle : ∀ ls : Array Slot, lv_has ls nL (lpairs id (As.map some ++ List.replicate (nL - As.length) none)) → lv_has ls nL vs) (hc : As.all (fun v => v.category == 1) = true) (hn : As.length ≤ nL)
    (body : ∀ (p : Program) (l : Launch) (e : Env) (s : State) (m : MethodId) (below : List Frame) (meth : Method) (c : Code) (ls : Array Slot), CA p s m As.toArray meth c y.cls cc nL D cA → meth.name = "<init>" → meth.sig.returnType = none → NW D b k E s.heap [] s → lv_has ls nL vs →
      W p l e (rmA d mc ms) s m As.toArray below meth c s.heap [] 0 0 (MQ below (fun _ st oc t => oc = .returned none ∧ NP D b k2 E2 t.heap ∧ va_F (fun q => b ≤ q) st t) As.toArray s mc ms (fun q => b ≤ q)) (F0 m 0 ls [])) : Cn y cc nL d mc ms As D cA b k E k2 E2 := by
  intro l
  refine Met.ofW (cc := cc) (maxL := nL) (ret := none) mi.2.2.1 rfl ?_
  intro p e s m args below meth c s₁ B hml hv
  obtain ⟨rfl, hP, hK⟩ := hv
  have hts := atoms_spec (ws := Cond.code y cc nL none :: tbl) B.pre
  have hown : s.vm.findClass y.cls = some m.cls := findClass_of_methodNamed B.named
  have hin : meth.name = "<init>" := by
    rw [← mi.2.2.2.2.1]
    exact (name_of_methodNamed B.named B.method).1
  have hl := lk_entry (ad := id) hc hn
  have hAs : As.map (cv id) = As := by
    have h9 : ∀ v : Value, cv id v = v := fun v => by cases v <;> rfl
    rw [show cv id = id from funext h9, List.map_id]
  rw [hAs] at hl
  rw [lg_entry_eq]
  exact body p l e s m below meth c _ ⟨B.exec, B.bytes, hml, hown, fun q hq => hts q (List.mem_cons_of_mem _ hq), hK, B.notSynchronized⟩ hin B.returns ⟨hP, va_S.rf⟩ (hle _ (lk_has.mp hl))
