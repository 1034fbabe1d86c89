/-! THE JUDGEMENT G, its context, its rows -/
abbrev KX : Type := Program × Launch × Env × Room × State × MethodId × Array Value × List Frame × Method × Code × WD × (Option Value → Mem → Prop)
def KQ (κ : KX) : Option Value → Mem → Prop := κ.2.2.2.2.2.2.2.2.2.2.2
/-- the String constants: whose pool, which entry, what text -/
def sks : List (String × Nat × String) := [(R_T, 70, "add    times  set    like   more   twice  away   less   turn   strike heal   fetch  stop   clear  echo   "), (R_M, 84, "add"), (R_M, 85, "times"), (R_M, 87, "set"), (R_M, 89, "like"), (R_M, 91, "more"), (R_M, 93, "twice"), (R_M, 95, "away"), (R_M, 97, "less"), (R_M, 99, "turn"), (R_M, 101, "strike"), (R_M, 103, "heal"), (R_M, 105, "fetch"), (R_M, 107, "stop"), (R_M, 109, "clear"), (R_M, 111, "echo")]
def slen : List Nat := [105, 3, 5, 3, 4, 4, 5, 4, 4, 4, 6, 4, 5, 4, 5, 4]
def sbyt : List (List Int32) := [[97, 100, 100, 32, 32, 32, 32, 116, 105, 109, 101, 115, 32, 32, 115, 101, 116, 32, 32, 32, 32, 108, 105, 107, 101, 32, 32, 32, 109, 111, 114, 101, 32, 32, 32, 116, 119, 105, 99, 101, 32, 32, 97, 119, 97, 121, 32, 32, 32, 108, 101, 115, 115, 32, 32, 32, 116, 117, 114, 110, 32, 32, 32, 115, 116, 114, 105, 107, 101, 32, 104, 101, 97, 108, 32, 32, 32, 102, 101, 116, 99, 104, 32, 32, 115, 116, 111, 112, 32, 32, 32, 99, 108, 101, 97, 114, 32, 32, 101, 99, 104, 111, 32, 32, 32], [97, 100, 100], [116, 105, 109, 101, 115], [115, 101, 116], [108, 105, 107, 101], [109, 111, 114, 101], [116, 119, 105, 99, 101], [97, 119, 97, 121], [108, 101, 115, 115], [116, 117, 114, 110], [115, 116, 114, 105, 107, 101], [104, 101, 97, 108], [102, 101, 116, 99, 104], [115, 116, 111, 112], [99, 108, 101, 97, 114], [101, 99, 104, 111]]
def zsf (v : Value) (A : Nat → Prop) (s : State) (H : Heap) : Prop := va_Z "jdk/internal/util/Preconditions" "SIOOBE_FORMATTER" "Ljava/util/function/BiFunction;" v A s H
/-- String's statics: texts are compact; who tells of an index out of bounds (at place 3000, or null) -/
def ZX (w : WD) (A : Nat → Prop) (s : State) (H : Heap) : Prop := va_Z "java/lang/String" "COMPACT_STRINGS" "Z" (.int 1) A s H ∧ (zsf .null A s H ∨ zsf (.ref (w.1 3000)) A s H)
def SX (w : WD) (A : Nat → Prop) (s : State) (H : Heap) : Prop :=
  (∀ (i : Nat) (q : String × Nat × String), sks[i]? = some q → vk_R q.1 q.2.1 q.2.2 (w.1 (1000 + i)) s) ∧ vk_S 16 slen sbyt (fun i => w.1 (1000 + i)) (fun i => w.1 (2000 + i)) A s H ∧ ZX w A s H
theorem SX.warm {w : WD} {A : Nat → Prop} {s U : State} {H : Heap} (hW : s.WarmedH U.vm) (h : SX w A s H) : SX w A U H := ⟨fun i q hq => (h.1 i q hq).warm hW, h.2.1.moved hW.alike, va_Z.moved hW.alike h.2.2.1, h.2.2.2.imp (fun q => va_Z.moved hW.alike q) (fun q => va_Z.moved hW.alike q)⟩
theorem SX.kept {w : WD} {A : Nat → Prop} {s : State} {H H1 : Heap} (hq : ∀ a : Nat, a < H.size → ¬ A a → H1[a]? = H[a]?) (h : SX w A s H) : SX w A s H1 := ⟨h.1, h.2.1.kept hq, va_Z.kept h.2.2.1 hq, h.2.2.2.imp (fun q => va_Z.kept q hq) (fun q => va_Z.kept q hq)⟩
theorem SX.narrow {w : WD} {A B : Nat → Prop} {s : State} {H : Heap} (hAB : ∀ q, B q → A q) (h : SX w A s H) : SX w B s H := ⟨h.1, h.2.1.narrow hAB, va_Z.narrow h.2.2.1 hAB, h.2.2.2.imp (fun q => va_Z.narrow q hAB) (fun q => va_Z.narrow q hAB)⟩
def NX (s : State) : Prop := ∀ x ∈ nst, va_Nw x s
theorem NX.warm {s U : State} (hW : s.WarmedH U.vm) (h : NX s) : NX U := by
  intro x hx
  have h1 := h x hx
  have h2 := (List.mem_filter.mp hx).2
  cases x with
  | fieldLinkNest a i b n d h => exact va_Nw.warmF hW h1
  | methodLinkNest a i x h => exact va_Nw.warmM hW h1
  | _ => exact absurd h2 (by simp [isNest])
theorem NX.same {s U : State} (hW : s.vm = U.vm) (h : NX s) : NX U := by
  intro x hx
  have h1 := h x hx
  have h2 := (List.mem_filter.mp hx).2
  cases x with
  | fieldLinkNest a i b n d h => exact va_Nw.same rfl hW h1
  | methodLinkNest a i x h => exact va_Nw.same rfl hW h1
  | _ => exact absurd h2 (by simp [isNest])
/-- the room of a method that calls d deep -/
def rmd (d : Nat) : Room := { frames := d, cells := 0, slots := 0, locals := d * 60 }
/-- a method's end: its answer and the new memory -/
def QC (w : WD) (y : LY) (PQ : Option Value → Mem → Prop) : Array Value → State → Outcome → State → Prop := fun _ st oc t =>
  (∃ (v : Option Value) (M : Mem), oc = .returned (v.map (cv w.1)) ∧ PQ v M ∧ va_P w.2.1 cls0 (wl w y M) t.heap) ∧ va_F (AW w y st.heap.size) st t
/-- what holds of the world at a method's start -/
def BX (w : WD) (y : LY) (M : Mem) (U : State) : Prop :=
  va_P w.2.1 cls0 (wl w y M) U.heap ∧ va_K w.2.1 cls0 (tys w) U ∧ adi w y ∧ NX U ∧ SX w (AW w y U.heap.size) U U.heap
/-- a method's contract at one start -/
def Ct (y : LY) (x : MethodName) (cc : ByteArray) (nL : Nat) (ret : Option FieldType) (d : Nat) (As : List Value) (M : Mem) (PQ : Option Value → Mem → Prop) : Prop :=
  ∀ (l : Launch) (w : WD) (sz : Nat), Met l x (Cond.code x cc nL ret :: tbl) (rmd d) (va_Pc (As.map (cv w.1)) (fun U => U.heap.size = sz ∧ BX w y M U)) (QC w y PQ) 0 0 (AW w y sz)
def G (κ : KX) (y : LY) (pc : Nat) (L : List (Option Value)) (st : List Value) (M : Mem) : Prop :=
  match κ with
  | (p, l, e, R, s, m, args, below, meth, c, w, PQ) => ∀ (H : Heap) (locs : List Loc) (ls : Array Slot), va_P w.2.1 cls0 (wl w y M) H → va_S (AW w y s.heap.size) s.heap H locs → lk w.1 c.maxLocals ls L →
    W p l e R s m args below meth c H locs 0 0 (MQ below (QC w y PQ) args s 0 0 (AW w y s.heap.size)) (F0 m pc ls (st.map (cv w.1)))
def Cx (κ : KX) (y : LY) (own : String) (cc : ByteArray) (nL : Nat) (ret : Option FieldType) (d : Nat) : Prop :=
  match κ with
  | (p, l, e, R, s, m, args, below, meth, c, w, PQ) => p.tables.exec = Jvm.exec ∧ c.code = cc ∧ c.maxLocals = nL ∧ s.vm.findClass own = some m.cls ∧ (∀ x ∈ tbl, x.before args s = true) ∧ va_K w.2.1 cls0 (tys w) s ∧ adi w y ∧ meth.locks = false ∧ meth.sig.returnType = ret ∧ R = rmd d ∧ NX s ∧ SX w (AW w y s.heap.size) s s.heap
theorem lk_entry {ad : Nat → Nat} {As : List Value} {nL : Nat} (hc : As.all (fun v => v.category == 1) = true) (hn : As.length ≤ nL) :
    lk ad nL ((lg_sl (As.map (cv ad)) ++ List.replicate (nL - (lg_sl (As.map (cv ad))).length) Slot.unset).toArray) (As.map some ++ List.replicate (nL - As.length) none) := by
  have h1 : ∀ v ∈ As.map (cv ad), v.category = 1 := by
    intro v hv
    obtain ⟨x, hx, rfl⟩ := List.mem_map.mp hv
    rw [cv_cat]
    exact eq_of_beq (List.all_eq_true.mp hc x hx)
  have h2 : ∀ (vs : List Value), (∀ v ∈ vs, v.category = 1) → (lg_sl vs).length = vs.length := by
    intro vs
    induction vs with
    | nil => intro _; rfl
    | cons a l ih =>
      intro h
      have ha := h a List.mem_cons_self
      have hl := ih (fun v hv => h v (List.mem_cons_of_mem _ hv))
      unfold lg_sl at hl ⊢
      rw [List.flatMap_cons, List.length_append, hl, ha]
      simp; omega
  have h3 := lv_entry (As.map (cv ad)) (n := nL) (by rw [h2 _ h1]; simpa using hn)
  refine ⟨h3.1, h3.2.1, fun i v h => ?_⟩
  have h4 : ∀ (vs : List Value) (k : Nat), (∀ v ∈ vs, v.category = 1) → ∀ (i : Nat) (v : Value), vs[i]? = some v → (k + i, v) ∈ lv_args k vs := by
    intro vs
    induction vs with
    | nil => intro k _ i v h; simp at h
    | cons a l ih =>
      intro k h i v hi
      have ha := h a List.mem_cons_self
      cases i with
      | zero =>
        simp at hi
        subst hi
        simp [lv_args]
      | succ i =>
        simp at hi
        have := ih (k + 1) (fun v hv => h v (List.mem_cons_of_mem _ hv)) i v hi
        rw [lv_args, ha]
        refine List.mem_cons_of_mem _ ?_
        rw [if_neg (by omega), show k + (i + 1) = k + 1 + i by omega]
        exact this
  have h5 : As[i]? = some v := by
    by_cases hi : i < As.length
    · rw [List.getElem?_append_left (by simpa using hi), List.getElem?_map] at h
      cases hx : As[i]? with
      | none => rw [hx] at h; cases h
      | some z => rw [hx] at h; cases h; rfl
    · rw [List.getElem?_append_right (by simp; omega), List.getElem?_replicate] at h
      split at h <;> cases h
  have h6 := h4 (As.map (cv ad)) 0 h1 i (cv ad v) (by rw [List.getElem?_map, h5]; rfl)
  rw [Nat.zero_add] at h6
  exact h3.2.2 _ h6
theorem BX_blind {w : WD} {y : LY} {M : Mem} {sz : Nat} {av : List Value} : FrameBlind (va_Pc av (fun U => U.heap.size = sz ∧ BX w y M U)) := by
  rintro a U g mk ⟨q0, q1, qP, qK, qA, qN, qS⟩
  refine ⟨q0, q1, qP, va_K.moved (u := U) (U := U.calling g mk a) (Vm.Alike.refl U.vm) qK, qA, NX.same (s := U) rfl qN, fun i q hq => vk_R.same (u := U) rfl (qS.1 i q hq), vk_S.moved (u := U) (Vm.Alike.refl U.vm) qS.2.1, va_Z.moved (u := U) (Vm.Alike.refl U.vm) qS.2.2.1, qS.2.2.2.imp (fun q => va_Z.moved (u := U) (Vm.Alike.refl U.vm) q) (fun q => va_Z.moved (u := U) (Vm.Alike.refl U.vm) q)⟩
/-- a contract out of a walk -/
theorem Ct.ofG {y : LY} {x : MethodName} {cc : ByteArray} {nL : Nat} {ret : Option FieldType} {d n : Nat} {st : Bool} {As : List Value} {M : Mem} {PQ : Option Value → Mem → Prop} (mx : MX x cc nL ret n st) (L0 : List (Option Value)) (hL : As.map some ++ List.replicate (nL - As.length) none = L0) (hc : As.all (fun v => v.category == 1) = true) (hn : As.length ≤ nL)
    (body : ∀ κ : KX, Cx κ y x.cls cc nL ret d → (∀ v M', PQ v M' → KQ κ v M') → G κ y 0 L0 [] M) : Ct y x cc nL ret d As M PQ := by
  intro l w sz
  refine Met.ofW (cc := cc) (maxL := nL) (ret := ret) mx.2.2.1 rfl ?_
  intro p e s m args below meth c s₁ B hml hv
  obtain ⟨rfl, hsz, hP, hK, hA, hN, hS⟩ := hv
  subst hsz
  have hts := atoms_spec (ws := Cond.code x cc nL ret :: tbl) B.pre
  have hown : s.vm.findClass x.cls = some m.cls := findClass_of_methodNamed B.named
  have hg := body (p, l, e, rmd d, s, m, (As.map (cv w.1)).toArray, below, meth, c, w, PQ) ⟨B.exec, B.bytes, hml, hown, fun q hq => hts q (List.mem_cons_of_mem _ hq), hK, hA, B.notSynchronized, B.returns, rfl, hN, hS⟩ (fun _ _ h => h)
  have hl := lk_entry (ad := w.1) hc hn
  rw [lg_entry_eq]
  refine hg s.heap [] _ hP va_S.rf ?_
  rw [hml, ← hL]
  exact hl
/-- one class's tables -/
def CW (ci : Nat) (q : vw_C) : Prop := cls0[ci]? = some q → q.2.2 = nf ci ∧ (∀ x ∈ u_ws q.1 q.2.1 q.2.2, x ∈ tbl) ∧ (∀ a, a < q.2.2 → ∀ b, b < q.2.2 → a ≠ b → (q.2.1 a).2.1 ≠ (q.2.1 b).2.1) ∧ ∃ ty : Nat → FieldType, (∀ k, k < q.2.2 → parseFieldDescriptor (q.2.1 k).2.2.1 = some (ty k)) ∧
  (∀ k, k < q.2.2 → fk ci k = 0 → ty k = .int ∧ (q.2.1 k).2.2.2 = false) ∧ (∀ k, k < q.2.2 → fk ci k = 2 → ty k = .boolean ∧ (q.2.1 k).2.2.2 = false)
theorem cw_K : CW 0 (R_K, F_K, 5) := fun _ => ⟨rfl, i_K, n_K, ft_K, ft_K_ok, by decide +kernel, by decide +kernel⟩
theorem cw_E : CW 1 (R_E, F_E, 7) := fun _ => ⟨rfl, i_E, n_E, ft_E, ft_E_ok, by decide +kernel, by decide +kernel⟩
theorem cw_G : CW 2 (R_G, F_G, 15) := fun _ => ⟨rfl, i_G, n_G, ft_G, ft_G_ok, by decide +kernel, by decide +kernel⟩
theorem cw_Y : CW 3 (R_Y, F_Y, 7) := fun _ => ⟨rfl, i_Y, n_Y, ft_Y, ft_Y_ok, by decide +kernel, by decide +kernel⟩
theorem cw_O : CW 4 (R_O, F_O, 4) := fun _ => ⟨rfl, i_O, n_O, ft_O, ft_O_ok, by decide +kernel, by decide +kernel⟩
theorem cw_P : CW 5 (R_P, F_P, 5) := fun _ => ⟨rfl, i_P, n_P, ft_P, ft_P_ok, by decide +kernel, by decide +kernel⟩
theorem cw_R : CW 6 (R_R, F_R, 8) := fun _ => ⟨rfl, i_R, n_R, ft_R, ft_R_ok, by decide +kernel, by decide +kernel⟩
theorem cw_T : CW 7 (R_T, F_T, 8) := fun _ => ⟨rfl, i_T, n_T, ft_T, ft_T_ok, by decide +kernel, by decide +kernel⟩
theorem cw_L : CW 8 (R_L, F_L, 16) := fun _ => ⟨rfl, i_L, n_L, ft_L, ft_L_ok, by decide +kernel, by decide +kernel⟩
theorem cw_M : CW 9 (R_M, F_M, 35) := fun _ => ⟨rfl, i_M, n_M, ft_M, ft_M_ok, by decide +kernel, by decide +kernel⟩
theorem cw_all {ci : Nat} {q : vw_C} (h : cls0[ci]? = some q) : CW ci q := by
  match ci, h with
  | 0, h => cases h; exact cw_K
  | 1, h => cases h; exact cw_E
  | 2, h => cases h; exact cw_G
  | 3, h => cases h; exact cw_Y
  | 4, h => cases h; exact cw_O
  | 5, h => cases h; exact cw_P
  | 6, h => cases h; exact cw_R
  | 7, h => cases h; exact cw_T
  | 8, h => cases h; exact cw_L
  | 9, h => cases h; exact cw_M
  | k + 10, h => simp [cls0] at h
section RG
variable {κ : KX} {y : LY} {own : String} {cc : ByteArray} {nL d pc : Nat} {ret : Option FieldType} {L L' : List (Option Value)} {st : List Value} {M : Mem}
theorem u_iconst (C : Cx κ y own cc nL ret d) {n : Int} {v : Int32} (hd : decode cc pc = .ok (.iconst n, 1)) (hv : Int32.ofInt n = v) (kk : G κ y (pc + 1) L (.int v :: st) M) : G κ y pc L (st) M := by
  obtain ⟨p, l, e, R, s, m, args, below, meth, c, w, PQ⟩ := κ
  obtain ⟨hx, hb, hml, hown, hts, hK, hA, hlk, hr, hR, hN, hX⟩ := C
  subst hml
  intro H locs ls hP hS hl
  exact lv_iconst hx hb hd hv (kk H locs ls hP hS hl)
theorem u_bipush (C : Cx κ y own cc nL ret d) {n : Int} {v : Int32} (hd : decode cc pc = .ok (.bipush n, 2)) (hv : (Int8.ofInt n).toInt32 = v) (kk : G κ y (pc + 2) L (.int v :: st) M) : G κ y pc L (st) M := by
  obtain ⟨p, l, e, R, s, m, args, below, meth, c, w, PQ⟩ := κ
  obtain ⟨hx, hb, hml, hown, hts, hK, hA, hlk, hr, hR, hN, hX⟩ := C
  subst hml
  intro H locs ls hP hS hl
  exact lv_bipush hx hb hd hv (kk H locs ls hP hS hl)
theorem u_sipush (C : Cx κ y own cc nL ret d) {n : Int} {v : Int32} (hd : decode cc pc = .ok (.sipush n, 3)) (hv : (Int16.ofInt n).toInt32 = v) (kk : G κ y (pc + 3) L (.int v :: st) M) : G κ y pc L (st) M := by
  obtain ⟨p, l, e, R, s, m, args, below, meth, c, w, PQ⟩ := κ
  obtain ⟨hx, hb, hml, hown, hts, hK, hA, hlk, hr, hR, hN, hX⟩ := C
  subst hml
  intro H locs ls hP hS hl
  exact lv_sipush hx hb hd hv (kk H locs ls hP hS hl)
theorem u_lconst (C : Cx κ y own cc nL ret d) {n : Fin 2} {v : Int64} (hd : decode cc pc = .ok (.lconst n, 1)) (hv : Int64.ofNat (n : Nat) = v) (kk : G κ y (pc + 1) L (.long v :: st) M) : G κ y pc L (st) M := by
  obtain ⟨p, l, e, R, s, m, args, below, meth, c, w, PQ⟩ := κ
  obtain ⟨hx, hb, hml, hown, hts, hK, hA, hlk, hr, hR, hN, hX⟩ := C
  subst hml
  intro H locs ls hP hS hl
  exact lv_lconst hx hb hd hv (kk H locs ls hP hS hl)
theorem u_ldc (C : Cx κ y own cc nL ret d) {index : Nat} {v : Int32} (hw : Cond.constant own index v ∈ tbl) (hd : decode cc pc = .ok (.ldc index, 2)) (kk : G κ y (pc + 2) L (.int v :: st) M) : G κ y pc L (st) M := by
  obtain ⟨p, l, e, R, s, m, args, below, meth, c, w, PQ⟩ := κ
  obtain ⟨hx, hb, hml, hown, hts, hK, hA, hlk, hr, hR, hN, hX⟩ := C
  subst hml
  intro H locs ls hP hS hl
  exact lv_ldc hx hb hown (hts _ hw) hd (kk H locs ls hP hS hl)
theorem u_ldcw (C : Cx κ y own cc nL ret d) {index : Nat} {v : Int32} (hw : Cond.constant own index v ∈ tbl) (hd : decode cc pc = .ok (.ldc_w index, 3)) (kk : G κ y (pc + 3) L (.int v :: st) M) : G κ y pc L (st) M := by
  obtain ⟨p, l, e, R, s, m, args, below, meth, c, w, PQ⟩ := κ
  obtain ⟨hx, hb, hml, hown, hts, hK, hA, hlk, hr, hR, hN, hX⟩ := C
  subst hml
  intro H locs ls hP hS hl
  exact lv_ldcw hx hb hown (hts _ hw) hd (kk H locs ls hP hS hl)
theorem u_ldcS (C : Cx κ y own cc nL ret d) {index i : Nat} {tx : String} (hw : sks[i]? = some (own, index, tx)) (hd : decode cc pc = .ok (.ldc index, 2)) (kk : G κ y (pc + 2) L (.ref (1000 + i) :: st) M) : G κ y pc L (st) M := by
  obtain ⟨p, l, e, R, s, m, args, below, meth, c, w, PQ⟩ := κ
  obtain ⟨hx, hb, hml, hown, hts, hK, hA, hlk, hr, hR, hN, hX⟩ := C
  subst hml
  intro H locs ls hP hS hl
  exact va_ldcS hx hb hown (hX.1 i _ hw) hd (kk H locs ls hP hS hl)
theorem u_iload_n (C : Cx κ y own cc nL ret d) {k : Fin 4} {x : Int32} (hd : decode cc pc = .ok (.iload_n k, 1)) (hi : L[(k : Nat)]? = some (some (.int x))) (kk : G κ y (pc + 1) L (.int x :: st) M) : G κ y pc L (st) M := by
  obtain ⟨p, l, e, R, s, m, args, below, meth, c, w, PQ⟩ := κ
  obtain ⟨hx, hb, hml, hown, hts, hK, hA, hlk, hr, hR, hN, hX⟩ := C
  subst hml
  intro H locs ls hP hS hl
  exact lv_iload_n hx hb hd rfl (hl.2.2 _ _ hi) (kk H locs ls hP hS hl)
theorem u_iload (C : Cx κ y own cc nL ret d) {i : Nat} {x : Int32} (hd : decode cc pc = .ok (.iload i, 2)) (hi : L[i]? = some (some (.int x))) (kk : G κ y (pc + 2) L (.int x :: st) M) : G κ y pc L (st) M := by
  obtain ⟨p, l, e, R, s, m, args, below, meth, c, w, PQ⟩ := κ
  obtain ⟨hx, hb, hml, hown, hts, hK, hA, hlk, hr, hR, hN, hX⟩ := C
  subst hml
  intro H locs ls hP hS hl
  exact lv_iload hx hb hd (hl.2.2 _ _ hi) (kk H locs ls hP hS hl)
theorem u_aload_n (C : Cx κ y own cc nL ret d) {k : Fin 4} {x : Nat} (hd : decode cc pc = .ok (.aload_n k, 1)) (hi : L[(k : Nat)]? = some (some (.ref x))) (kk : G κ y (pc + 1) L (.ref x :: st) M) : G κ y pc L (st) M := by
  obtain ⟨p, l, e, R, s, m, args, below, meth, c, w, PQ⟩ := κ
  obtain ⟨hx, hb, hml, hown, hts, hK, hA, hlk, hr, hR, hN, hX⟩ := C
  subst hml
  intro H locs ls hP hS hl
  exact lv_aload_n hx hb hd rfl (hl.2.2 _ _ hi) (kk H locs ls hP hS hl)
theorem u_aload (C : Cx κ y own cc nL ret d) {i : Nat} {x : Nat} (hd : decode cc pc = .ok (.aload i, 2)) (hi : L[i]? = some (some (.ref x))) (kk : G κ y (pc + 2) L (.ref x :: st) M) : G κ y pc L (st) M := by
  obtain ⟨p, l, e, R, s, m, args, below, meth, c, w, PQ⟩ := κ
  obtain ⟨hx, hb, hml, hown, hts, hK, hA, hlk, hr, hR, hN, hX⟩ := C
  subst hml
  intro H locs ls hP hS hl
  exact lv_aload hx hb hd (hl.2.2 _ _ hi) (kk H locs ls hP hS hl)
theorem u_lload_n (C : Cx κ y own cc nL ret d) {k : Fin 4} {x : Int64} (hd : decode cc pc = .ok (.lload_n k, 1)) (hi : L[(k : Nat)]? = some (some (.long x))) (kk : G κ y (pc + 1) L (.long x :: st) M) : G κ y pc L (st) M := by
  obtain ⟨p, l, e, R, s, m, args, below, meth, c, w, PQ⟩ := κ
  obtain ⟨hx, hb, hml, hown, hts, hK, hA, hlk, hr, hR, hN, hX⟩ := C
  subst hml
  intro H locs ls hP hS hl
  exact lv_lload_n hx hb hd rfl (hl.2.2 _ _ hi) (kk H locs ls hP hS hl)
theorem u_lload (C : Cx κ y own cc nL ret d) {i : Nat} {x : Int64} (hd : decode cc pc = .ok (.lload i, 2)) (hi : L[i]? = some (some (.long x))) (kk : G κ y (pc + 2) L (.long x :: st) M) : G κ y pc L (st) M := by
  obtain ⟨p, l, e, R, s, m, args, below, meth, c, w, PQ⟩ := κ
  obtain ⟨hx, hb, hml, hown, hts, hK, hA, hlk, hr, hR, hN, hX⟩ := C
  subst hml
  intro H locs ls hP hS hl
  exact lv_lload hx hb hd (hl.2.2 _ _ hi) (kk H locs ls hP hS hl)
theorem u_istore_n (C : Cx κ y own cc nL ret d) {k : Fin 4} {x : Int32} (hd : decode cc pc = .ok (.istore_n k, 1)) (ho : (decide ((k : Nat) < L.length) && decide ((k : Nat) < nL) && okst L k) = true) (kk : ∀ z : Int32, z = x → ∀ L', L.set (k : Nat) (some (.int z)) = L' → G κ y (pc + 1) L' st M) : G κ y pc L (.int x :: st) M := by
  obtain ⟨p, l, e, R, s, m, args, below, meth, c, w, PQ⟩ := κ
  obtain ⟨hx, hb, hml, hown, hts, hK, hA, hlk, hr, hR, hN, hX⟩ := C
  subst hml
  intro H locs ls hP hS hl
  simp only [Bool.and_eq_true, decide_eq_true_eq] at ho
  exact lv_istore_n hx hb hd rfl (lk_has.mp hl) ho.1.2 rfl (fun ls' hl' => kk x rfl _ rfl H locs ls' hP hS (lk_set ho.2 ho.1.1 hl'))
theorem u_istore (C : Cx κ y own cc nL ret d) {k : Nat} {x : Int32} (hd : decode cc pc = .ok (.istore k, 2)) (ho : (decide ((k : Nat) < L.length) && decide ((k : Nat) < nL) && okst L k) = true) (kk : ∀ z : Int32, z = x → ∀ L', L.set (k : Nat) (some (.int z)) = L' → G κ y (pc + 2) L' st M) : G κ y pc L (.int x :: st) M := by
  obtain ⟨p, l, e, R, s, m, args, below, meth, c, w, PQ⟩ := κ
  obtain ⟨hx, hb, hml, hown, hts, hK, hA, hlk, hr, hR, hN, hX⟩ := C
  subst hml
  intro H locs ls hP hS hl
  simp only [Bool.and_eq_true, decide_eq_true_eq] at ho
  exact lv_istore hx hb hd (lk_has.mp hl) ho.1.2 rfl (fun ls' hl' => kk x rfl _ rfl H locs ls' hP hS (lk_set ho.2 ho.1.1 hl'))
theorem u_astore_n (C : Cx κ y own cc nL ret d) {k : Fin 4} {x : Nat} (hd : decode cc pc = .ok (.astore_n k, 1)) (ho : (decide ((k : Nat) < L.length) && decide ((k : Nat) < nL) && okst L k) = true) (kk : ∀ L', L.set (k : Nat) (some (.ref x)) = L' → G κ y (pc + 1) L' st M) : G κ y pc L (.ref x :: st) M := by
  obtain ⟨p, l, e, R, s, m, args, below, meth, c, w, PQ⟩ := κ
  obtain ⟨hx, hb, hml, hown, hts, hK, hA, hlk, hr, hR, hN, hX⟩ := C
  subst hml
  intro H locs ls hP hS hl
  simp only [Bool.and_eq_true, decide_eq_true_eq] at ho
  exact lv_astore_n hx hb hd rfl (lk_has.mp hl) ho.1.2 rfl (fun ls' hl' => kk _ rfl H locs ls' hP hS (lk_set ho.2 ho.1.1 hl'))
theorem u_astore (C : Cx κ y own cc nL ret d) {k : Nat} {x : Nat} (hd : decode cc pc = .ok (.astore k, 2)) (ho : (decide ((k : Nat) < L.length) && decide ((k : Nat) < nL) && okst L k) = true) (kk : ∀ L', L.set (k : Nat) (some (.ref x)) = L' → G κ y (pc + 2) L' st M) : G κ y pc L (.ref x :: st) M := by
  obtain ⟨p, l, e, R, s, m, args, below, meth, c, w, PQ⟩ := κ
  obtain ⟨hx, hb, hml, hown, hts, hK, hA, hlk, hr, hR, hN, hX⟩ := C
  subst hml
  intro H locs ls hP hS hl
  simp only [Bool.and_eq_true, decide_eq_true_eq] at ho
  exact lv_astore hx hb hd (lk_has.mp hl) ho.1.2 rfl (fun ls' hl' => kk _ rfl H locs ls' hP hS (lk_set ho.2 ho.1.1 hl'))
theorem u_lstore (C : Cx κ y own cc nL ret d) {k : Nat} {x : Int64} (hd : decode cc pc = .ok (.lstore k, 2)) (ho : (decide ((k : Nat) + 1 < L.length) && decide ((k : Nat) + 1 < nL) && okst L k) = true) (kk : ∀ z : Int64, z = x → ∀ L', ((L.set k (some (.long z))).set (k + 1) none) = L' → G κ y (pc + 2) L' st M) : G κ y pc L (.long x :: st) M := by
  obtain ⟨p, l, e, R, s, m, args, below, meth, c, w, PQ⟩ := κ
  obtain ⟨hx, hb, hml, hown, hts, hK, hA, hlk, hr, hR, hN, hX⟩ := C
  subst hml
  intro H locs ls hP hS hl
  simp only [Bool.and_eq_true, decide_eq_true_eq] at ho
  exact lv_lstore hx hb hd (lk_has.mp hl) ho.1.2 rfl (fun ls' hl' => kk x rfl _ rfl H locs ls' hP hS (lk_set2 ho.2 ho.1.1 hl'))
theorem u_iinc (C : Cx κ y own cc nL ret d) {i : Nat} {n : Int} {x v2 : Int32} (hd : decode cc pc = .ok (.iinc i n, 3)) (hi : L[i]? = some (some (.int x))) (ho : (decide (i < L.length) && decide (i < nL) && okst L i) = true) (hv2 : Int32.ofInt n = v2) (kk : ∀ z : Int32, z = x + v2 → ∀ L', L.set i (some (.int z)) = L' → G κ y (pc + 3) L' st M) : G κ y pc L (st) M := by
  obtain ⟨p, l, e, R, s, m, args, below, meth, c, w, PQ⟩ := κ
  obtain ⟨hx, hb, hml, hown, hts, hK, hA, hlk, hr, hR, hN, hX⟩ := C
  subst hml
  intro H locs ls hP hS hl
  subst hv2
  simp only [Bool.and_eq_true, decide_eq_true_eq] at ho
  obtain ⟨k, hk⟩ := List.getElem?_of_mem (lpairs_mem.mpr ⟨_, hi, rfl⟩ : (i, cv w.1 (.int x)) ∈ lpairs w.1 L)
  exact lv_iinc hx hb hd (lk_has.mp hl) hk rfl ho.1.2 rfl (fun ls' hl' => kk _ rfl _ rfl H locs ls' hP hS (lk_set ho.2 ho.1.1 hl'))
theorem u_iadd (C : Cx κ y own cc nL ret d) {x z : Int32} (hd : decode cc pc = .ok (.iadd, 1)) (kk : G κ y (pc + 1) L (.int (x + z) :: st) M) : G κ y pc L (.int z :: .int x :: st) M := by
  obtain ⟨p, l, e, R, s, m, args, below, meth, c, w, PQ⟩ := κ
  obtain ⟨hx, hb, hml, hown, hts, hK, hA, hlk, hr, hR, hN, hX⟩ := C
  subst hml
  intro H locs ls hP hS hl
  exact lv_iadd hx hb hd (kk H locs ls hP hS hl)
theorem u_isub (C : Cx κ y own cc nL ret d) {x z : Int32} (hd : decode cc pc = .ok (.isub, 1)) (kk : G κ y (pc + 1) L (.int (x - z) :: st) M) : G κ y pc L (.int z :: .int x :: st) M := by
  obtain ⟨p, l, e, R, s, m, args, below, meth, c, w, PQ⟩ := κ
  obtain ⟨hx, hb, hml, hown, hts, hK, hA, hlk, hr, hR, hN, hX⟩ := C
  subst hml
  intro H locs ls hP hS hl
  exact lv_isub hx hb hd (kk H locs ls hP hS hl)
theorem u_imul (C : Cx κ y own cc nL ret d) {x z : Int32} (hd : decode cc pc = .ok (.imul, 1)) (kk : G κ y (pc + 1) L (.int (x * z) :: st) M) : G κ y pc L (.int z :: .int x :: st) M := by
  obtain ⟨p, l, e, R, s, m, args, below, meth, c, w, PQ⟩ := κ
  obtain ⟨hx, hb, hml, hown, hts, hK, hA, hlk, hr, hR, hN, hX⟩ := C
  subst hml
  intro H locs ls hP hS hl
  exact lv_imul hx hb hd (kk H locs ls hP hS hl)
theorem u_iand (C : Cx κ y own cc nL ret d) {x z : Int32} (hd : decode cc pc = .ok (.iand, 1)) (kk : G κ y (pc + 1) L (.int (x &&& z) :: st) M) : G κ y pc L (.int z :: .int x :: st) M := by
  obtain ⟨p, l, e, R, s, m, args, below, meth, c, w, PQ⟩ := κ
  obtain ⟨hx, hb, hml, hown, hts, hK, hA, hlk, hr, hR, hN, hX⟩ := C
  subst hml
  intro H locs ls hP hS hl
  exact lv_iand hx hb hd (kk H locs ls hP hS hl)
theorem u_ior (C : Cx κ y own cc nL ret d) {x z : Int32} (hd : decode cc pc = .ok (.ior, 1)) (kk : G κ y (pc + 1) L (.int (x ||| z) :: st) M) : G κ y pc L (.int z :: .int x :: st) M := by
  obtain ⟨p, l, e, R, s, m, args, below, meth, c, w, PQ⟩ := κ
  obtain ⟨hx, hb, hml, hown, hts, hK, hA, hlk, hr, hR, hN, hX⟩ := C
  subst hml
  intro H locs ls hP hS hl
  exact lv_ior hx hb hd (kk H locs ls hP hS hl)
theorem u_ixor (C : Cx κ y own cc nL ret d) {x z : Int32} (hd : decode cc pc = .ok (.ixor, 1)) (kk : G κ y (pc + 1) L (.int (x ^^^ z) :: st) M) : G κ y pc L (.int z :: .int x :: st) M := by
  obtain ⟨p, l, e, R, s, m, args, below, meth, c, w, PQ⟩ := κ
  obtain ⟨hx, hb, hml, hown, hts, hK, hA, hlk, hr, hR, hN, hX⟩ := C
  subst hml
  intro H locs ls hP hS hl
  exact lv_ixor hx hb hd (kk H locs ls hP hS hl)
theorem u_ishl (C : Cx κ y own cc nL ret d) {x z : Int32} (hd : decode cc pc = .ok (.ishl, 1)) (kk : G κ y (pc + 1) L (.int (x <<< (z &&& 31)) :: st) M) : G κ y pc L (.int z :: .int x :: st) M := by
  obtain ⟨p, l, e, R, s, m, args, below, meth, c, w, PQ⟩ := κ
  obtain ⟨hx, hb, hml, hown, hts, hK, hA, hlk, hr, hR, hN, hX⟩ := C
  subst hml
  intro H locs ls hP hS hl
  exact lv_ishl hx hb hd (kk H locs ls hP hS hl)
theorem u_ishr (C : Cx κ y own cc nL ret d) {x z : Int32} (hd : decode cc pc = .ok (.ishr, 1)) (kk : G κ y (pc + 1) L (.int (x >>> (z &&& 31)) :: st) M) : G κ y pc L (.int z :: .int x :: st) M := by
  obtain ⟨p, l, e, R, s, m, args, below, meth, c, w, PQ⟩ := κ
  obtain ⟨hx, hb, hml, hown, hts, hK, hA, hlk, hr, hR, hN, hX⟩ := C
  subst hml
  intro H locs ls hP hS hl
  exact lv_ishr hx hb hd (kk H locs ls hP hS hl)
theorem u_idiv (C : Cx κ y own cc nL ret d) {x z : Int32} (hd : decode cc pc = .ok (.idiv, 1)) (hne : ¬ z = 0) (kk : G κ y (pc + 1) L (.int (x / z) :: st) M) : G κ y pc L (.int z :: .int x :: st) M := by
  obtain ⟨p, l, e, R, s, m, args, below, meth, c, w, PQ⟩ := κ
  obtain ⟨hx, hb, hml, hown, hts, hK, hA, hlk, hr, hR, hN, hX⟩ := C
  subst hml
  intro H locs ls hP hS hl
  exact lv_idiv hx hb hd hne (kk H locs ls hP hS hl)
theorem u_irem (C : Cx κ y own cc nL ret d) {x z : Int32} (hd : decode cc pc = .ok (.irem, 1)) (hne : ¬ z = 0) (kk : G κ y (pc + 1) L (.int (x - x / z * z) :: st) M) : G κ y pc L (.int z :: .int x :: st) M := by
  obtain ⟨p, l, e, R, s, m, args, below, meth, c, w, PQ⟩ := κ
  obtain ⟨hx, hb, hml, hown, hts, hK, hA, hlk, hr, hR, hN, hX⟩ := C
  subst hml
  intro H locs ls hP hS hl
  exact lv_irem hx hb hd hne (kk H locs ls hP hS hl)
theorem u_ineg (C : Cx κ y own cc nL ret d) {x : Int32} (hd : decode cc pc = .ok (.ineg, 1)) (kk : G κ y (pc + 1) L (.int (-x) :: st) M) : G κ y pc L (.int x :: st) M := by
  obtain ⟨p, l, e, R, s, m, args, below, meth, c, w, PQ⟩ := κ
  obtain ⟨hx, hb, hml, hown, hts, hK, hA, hlk, hr, hR, hN, hX⟩ := C
  subst hml
  intro H locs ls hP hS hl
  exact lv_ineg hx hb hd (kk H locs ls hP hS hl)
theorem u_lor (C : Cx κ y own cc nL ret d) {x z : Int64} (hd : decode cc pc = .ok (.lor, 1)) (kk : G κ y (pc + 1) L (.long (x ||| z) :: st) M) : G κ y pc L (.long z :: .long x :: st) M := by
  obtain ⟨p, l, e, R, s, m, args, below, meth, c, w, PQ⟩ := κ
  obtain ⟨hx, hb, hml, hown, hts, hK, hA, hlk, hr, hR, hN, hX⟩ := C
  subst hml
  intro H locs ls hP hS hl
  exact lv_lor hx hb hd (kk H locs ls hP hS hl)
theorem u_i2l (C : Cx κ y own cc nL ret d) {x : Int32} (hd : decode cc pc = .ok (.i2l, 1)) (kk : G κ y (pc + 1) L (.long x.toInt64 :: st) M) : G κ y pc L (.int x :: st) M := by
  obtain ⟨p, l, e, R, s, m, args, below, meth, c, w, PQ⟩ := κ
  obtain ⟨hx, hb, hml, hown, hts, hK, hA, hlk, hr, hR, hN, hX⟩ := C
  subst hml
  intro H locs ls hP hS hl
  exact lv_i2l hx hb hd rfl (kk H locs ls hP hS hl)
theorem u_iushr (C : Cx κ y own cc nL ret d) {x z : Int32} (hd : decode cc pc = .ok (.iushr, 1)) (kk : G κ y (pc + 1) L (.int ((x.toUInt32 >>> (z.toUInt32 &&& Int32.toUInt32 31)).toInt32) :: st) M) : G κ y pc L (.int z :: .int x :: st) M := by
  obtain ⟨p, l, e, R, s, m, args, below, meth, c, w, PQ⟩ := κ
  obtain ⟨hx, hb, hml, hown, hts, hK, hA, hlk, hr, hR, hN, hX⟩ := C
  subst hml
  intro H locs ls hP hS hl
  exact lv_iushr hx hb hd rfl (kk H locs ls hP hS hl)
theorem u_lshl (C : Cx κ y own cc nL ret d) {x : Int64} {z : Int32} (hd : decode cc pc = .ok (.lshl, 1)) (kk : G κ y (pc + 1) L (.long (x <<< (z.toInt64 &&& 63)) :: st) M) : G κ y pc L (.int z :: .long x :: st) M := by
  obtain ⟨p, l, e, R, s, m, args, below, meth, c, w, PQ⟩ := κ
  obtain ⟨hx, hb, hml, hown, hts, hK, hA, hlk, hr, hR, hN, hX⟩ := C
  subst hml
  intro H locs ls hP hS hl
  exact lv_lshl hx hb hd rfl (kk H locs ls hP hS hl)
theorem u_lcmp (C : Cx κ y own cc nL ret d) {x z : Int64} (hd : decode cc pc = .ok (.lcmp, 1)) (kk : G κ y (pc + 1) L (.int (lg_cmp x z) :: st) M) : G κ y pc L (.long z :: .long x :: st) M := by
  obtain ⟨p, l, e, R, s, m, args, below, meth, c, w, PQ⟩ := κ
  obtain ⟨hx, hb, hml, hown, hts, hK, hA, hlk, hr, hR, hN, hX⟩ := C
  subst hml
  intro H locs ls hP hS hl
  exact W.lcmp hx hb hd (kk H locs ls hP hS hl)
theorem u_dup (C : Cx κ y own cc nL ret d) {va : Value} (hd : decode cc pc = .ok (.dup, 1)) (ha : va.category = 1) (kk : G κ y (pc + 1) L (va :: va :: st) M) : G κ y pc L (va :: st) M := by
  obtain ⟨p, l, e, R, s, m, args, below, meth, c, w, PQ⟩ := κ
  obtain ⟨hx, hb, hml, hown, hts, hK, hA, hlk, hr, hR, hN, hX⟩ := C
  subst hml
  intro H locs ls hP hS hl
  exact lv_dup hx hb hd (by rw [cv_cat]; exact ha) (kk H locs ls hP hS hl)
theorem u_pop (C : Cx κ y own cc nL ret d) {va : Value} (hd : decode cc pc = .ok (.pop, 1)) (ha : va.category = 1) (kk : G κ y (pc + 1) L st M) : G κ y pc L (va :: st) M := by
  obtain ⟨p, l, e, R, s, m, args, below, meth, c, w, PQ⟩ := κ
  obtain ⟨hx, hb, hml, hown, hts, hK, hA, hlk, hr, hR, hN, hX⟩ := C
  subst hml
  intro H locs ls hP hS hl
  exact lv_pop hx hb hd (by rw [cv_cat]; exact ha) (kk H locs ls hP hS hl)
theorem u_dup_x1 (C : Cx κ y own cc nL ret d) {va vb : Value} (hd : decode cc pc = .ok (.dup_x1, 1)) (ha : va.category = 1) (hbb : vb.category = 1) (kk : G κ y (pc + 1) L (va :: vb :: va :: st) M) : G κ y pc L (va :: vb :: st) M := by
  obtain ⟨p, l, e, R, s, m, args, below, meth, c, w, PQ⟩ := κ
  obtain ⟨hx, hb, hml, hown, hts, hK, hA, hlk, hr, hR, hN, hX⟩ := C
  subst hml
  intro H locs ls hP hS hl
  exact lv_dup_x1 hx hb hd (by rw [cv_cat]; exact ha) (by rw [cv_cat]; exact hbb) (kk H locs ls hP hS hl)
theorem u_dup_x2 (C : Cx κ y own cc nL ret d) {va vb vc : Value} (hd : decode cc pc = .ok (.dup_x2, 1)) (ha : va.category = 1) (hbb : vb.category = 1) (hc : vc.category = 1) (kk : G κ y (pc + 1) L (va :: vb :: vc :: va :: st) M) : G κ y pc L (va :: vb :: vc :: st) M := by
  obtain ⟨p, l, e, R, s, m, args, below, meth, c, w, PQ⟩ := κ
  obtain ⟨hx, hb, hml, hown, hts, hK, hA, hlk, hr, hR, hN, hX⟩ := C
  subst hml
  intro H locs ls hP hS hl
  exact lv_dup_x2 hx hb hd (by rw [cv_cat]; exact ha) (by rw [cv_cat]; exact hbb) (by rw [cv_cat]; exact hc) (kk H locs ls hP hS hl)
theorem u_dup2 (C : Cx κ y own cc nL ret d) {va vb : Value} (hd : decode cc pc = .ok (.dup2, 1)) (ha : va.category = 1) (hbb : vb.category = 1) (kk : G κ y (pc + 1) L (va :: vb :: va :: vb :: st) M) : G κ y pc L (va :: vb :: st) M := by
  obtain ⟨p, l, e, R, s, m, args, below, meth, c, w, PQ⟩ := κ
  obtain ⟨hx, hb, hml, hown, hts, hK, hA, hlk, hr, hR, hN, hX⟩ := C
  subst hml
  intro H locs ls hP hS hl
  exact lv_dup2_11 hx hb hd (by rw [cv_cat]; exact ha) (by rw [cv_cat]; exact hbb) (kk H locs ls hP hS hl)
theorem u_if_eq (C : Cx κ y own cc nL ret d) {x : Int32} {off : Int} {tgt : Nat} (hd : decode cc pc = .ok (.ifCond .eq off, 3)) (ht : (pc : Int) + off = (tgt : Int)) (kt : x = 0 → G κ y tgt L st M) (kf : ¬ x = 0 → G κ y (pc + 3) L st M) : G κ y pc L (.int x :: st) M := by
  obtain ⟨p, l, e, R, s, m, args, below, meth, c, w, PQ⟩ := κ
  obtain ⟨hx, hb, hml, hown, hts, hK, hA, hlk, hr, hR, hN, hX⟩ := C
  subst hml
  intro H locs ls hP hS hl
  exact lv_if_eq hx hb hd ht (fun q => kt q H locs ls hP hS hl) (fun q => kf q H locs ls hP hS hl)
theorem u_icmp_eq (C : Cx κ y own cc nL ret d) {x z : Int32} {off : Int} {tgt : Nat} (hd : decode cc pc = .ok (.if_icmp .eq off, 3)) (ht : (pc : Int) + off = (tgt : Int)) (kt : x = z → G κ y tgt L st M) (kf : ¬ x = z → G κ y (pc + 3) L st M) : G κ y pc L (.int z :: .int x :: st) M := by
  obtain ⟨p, l, e, R, s, m, args, below, meth, c, w, PQ⟩ := κ
  obtain ⟨hx, hb, hml, hown, hts, hK, hA, hlk, hr, hR, hN, hX⟩ := C
  subst hml
  intro H locs ls hP hS hl
  exact lv_icmp_eq hx hb hd ht (fun q => kt q H locs ls hP hS hl) (fun q => kf q H locs ls hP hS hl)
theorem u_if_ne (C : Cx κ y own cc nL ret d) {x : Int32} {off : Int} {tgt : Nat} (hd : decode cc pc = .ok (.ifCond .ne off, 3)) (ht : (pc : Int) + off = (tgt : Int)) (kt : ¬ x = 0 → G κ y tgt L st M) (kf : x = 0 → G κ y (pc + 3) L st M) : G κ y pc L (.int x :: st) M := by
  obtain ⟨p, l, e, R, s, m, args, below, meth, c, w, PQ⟩ := κ
  obtain ⟨hx, hb, hml, hown, hts, hK, hA, hlk, hr, hR, hN, hX⟩ := C
  subst hml
  intro H locs ls hP hS hl
  exact lv_if_ne hx hb hd ht (fun q => kt q H locs ls hP hS hl) (fun q => kf q H locs ls hP hS hl)
theorem u_icmp_ne (C : Cx κ y own cc nL ret d) {x z : Int32} {off : Int} {tgt : Nat} (hd : decode cc pc = .ok (.if_icmp .ne off, 3)) (ht : (pc : Int) + off = (tgt : Int)) (kt : ¬ x = z → G κ y tgt L st M) (kf : x = z → G κ y (pc + 3) L st M) : G κ y pc L (.int z :: .int x :: st) M := by
  obtain ⟨p, l, e, R, s, m, args, below, meth, c, w, PQ⟩ := κ
  obtain ⟨hx, hb, hml, hown, hts, hK, hA, hlk, hr, hR, hN, hX⟩ := C
  subst hml
  intro H locs ls hP hS hl
  exact lv_icmp_ne hx hb hd ht (fun q => kt q H locs ls hP hS hl) (fun q => kf q H locs ls hP hS hl)
theorem u_if_lt (C : Cx κ y own cc nL ret d) {x : Int32} {off : Int} {tgt : Nat} (hd : decode cc pc = .ok (.ifCond .lt off, 3)) (ht : (pc : Int) + off = (tgt : Int)) (kt : x < 0 → G κ y tgt L st M) (kf : ¬ x < 0 → G κ y (pc + 3) L st M) : G κ y pc L (.int x :: st) M := by
  obtain ⟨p, l, e, R, s, m, args, below, meth, c, w, PQ⟩ := κ
  obtain ⟨hx, hb, hml, hown, hts, hK, hA, hlk, hr, hR, hN, hX⟩ := C
  subst hml
  intro H locs ls hP hS hl
  exact lv_if_lt hx hb hd ht (fun q => kt q H locs ls hP hS hl) (fun q => kf q H locs ls hP hS hl)
theorem u_icmp_lt (C : Cx κ y own cc nL ret d) {x z : Int32} {off : Int} {tgt : Nat} (hd : decode cc pc = .ok (.if_icmp .lt off, 3)) (ht : (pc : Int) + off = (tgt : Int)) (kt : x < z → G κ y tgt L st M) (kf : ¬ x < z → G κ y (pc + 3) L st M) : G κ y pc L (.int z :: .int x :: st) M := by
  obtain ⟨p, l, e, R, s, m, args, below, meth, c, w, PQ⟩ := κ
  obtain ⟨hx, hb, hml, hown, hts, hK, hA, hlk, hr, hR, hN, hX⟩ := C
  subst hml
  intro H locs ls hP hS hl
  exact lv_icmp_lt hx hb hd ht (fun q => kt q H locs ls hP hS hl) (fun q => kf q H locs ls hP hS hl)
theorem u_if_ge (C : Cx κ y own cc nL ret d) {x : Int32} {off : Int} {tgt : Nat} (hd : decode cc pc = .ok (.ifCond .ge off, 3)) (ht : (pc : Int) + off = (tgt : Int)) (kt : 0 ≤ x → G κ y tgt L st M) (kf : ¬ 0 ≤ x → G κ y (pc + 3) L st M) : G κ y pc L (.int x :: st) M := by
  obtain ⟨p, l, e, R, s, m, args, below, meth, c, w, PQ⟩ := κ
  obtain ⟨hx, hb, hml, hown, hts, hK, hA, hlk, hr, hR, hN, hX⟩ := C
  subst hml
  intro H locs ls hP hS hl
  exact lv_if_ge hx hb hd ht (fun q => kt q H locs ls hP hS hl) (fun q => kf q H locs ls hP hS hl)
theorem u_icmp_ge (C : Cx κ y own cc nL ret d) {x z : Int32} {off : Int} {tgt : Nat} (hd : decode cc pc = .ok (.if_icmp .ge off, 3)) (ht : (pc : Int) + off = (tgt : Int)) (kt : z ≤ x → G κ y tgt L st M) (kf : ¬ z ≤ x → G κ y (pc + 3) L st M) : G κ y pc L (.int z :: .int x :: st) M := by
  obtain ⟨p, l, e, R, s, m, args, below, meth, c, w, PQ⟩ := κ
  obtain ⟨hx, hb, hml, hown, hts, hK, hA, hlk, hr, hR, hN, hX⟩ := C
  subst hml
  intro H locs ls hP hS hl
  exact lv_icmp_ge hx hb hd ht (fun q => kt q H locs ls hP hS hl) (fun q => kf q H locs ls hP hS hl)
theorem u_if_gt (C : Cx κ y own cc nL ret d) {x : Int32} {off : Int} {tgt : Nat} (hd : decode cc pc = .ok (.ifCond .gt off, 3)) (ht : (pc : Int) + off = (tgt : Int)) (kt : 0 < x → G κ y tgt L st M) (kf : ¬ 0 < x → G κ y (pc + 3) L st M) : G κ y pc L (.int x :: st) M := by
  obtain ⟨p, l, e, R, s, m, args, below, meth, c, w, PQ⟩ := κ
  obtain ⟨hx, hb, hml, hown, hts, hK, hA, hlk, hr, hR, hN, hX⟩ := C
  subst hml
  intro H locs ls hP hS hl
  exact lv_if_gt hx hb hd ht (fun q => kt q H locs ls hP hS hl) (fun q => kf q H locs ls hP hS hl)
theorem u_icmp_gt (C : Cx κ y own cc nL ret d) {x z : Int32} {off : Int} {tgt : Nat} (hd : decode cc pc = .ok (.if_icmp .gt off, 3)) (ht : (pc : Int) + off = (tgt : Int)) (kt : z < x → G κ y tgt L st M) (kf : ¬ z < x → G κ y (pc + 3) L st M) : G κ y pc L (.int z :: .int x :: st) M := by
  obtain ⟨p, l, e, R, s, m, args, below, meth, c, w, PQ⟩ := κ
  obtain ⟨hx, hb, hml, hown, hts, hK, hA, hlk, hr, hR, hN, hX⟩ := C
  subst hml
  intro H locs ls hP hS hl
  exact lv_icmp_gt hx hb hd ht (fun q => kt q H locs ls hP hS hl) (fun q => kf q H locs ls hP hS hl)
theorem u_if_le (C : Cx κ y own cc nL ret d) {x : Int32} {off : Int} {tgt : Nat} (hd : decode cc pc = .ok (.ifCond .le off, 3)) (ht : (pc : Int) + off = (tgt : Int)) (kt : x ≤ 0 → G κ y tgt L st M) (kf : ¬ x ≤ 0 → G κ y (pc + 3) L st M) : G κ y pc L (.int x :: st) M := by
  obtain ⟨p, l, e, R, s, m, args, below, meth, c, w, PQ⟩ := κ
  obtain ⟨hx, hb, hml, hown, hts, hK, hA, hlk, hr, hR, hN, hX⟩ := C
  subst hml
  intro H locs ls hP hS hl
  exact lv_if_le hx hb hd ht (fun q => kt q H locs ls hP hS hl) (fun q => kf q H locs ls hP hS hl)
theorem u_icmp_le (C : Cx κ y own cc nL ret d) {x z : Int32} {off : Int} {tgt : Nat} (hd : decode cc pc = .ok (.if_icmp .le off, 3)) (ht : (pc : Int) + off = (tgt : Int)) (kt : x ≤ z → G κ y tgt L st M) (kf : ¬ x ≤ z → G κ y (pc + 3) L st M) : G κ y pc L (.int z :: .int x :: st) M := by
  obtain ⟨p, l, e, R, s, m, args, below, meth, c, w, PQ⟩ := κ
  obtain ⟨hx, hb, hml, hown, hts, hK, hA, hlk, hr, hR, hN, hX⟩ := C
  subst hml
  intro H locs ls hP hS hl
  exact lv_icmp_le hx hb hd ht (fun q => kt q H locs ls hP hS hl) (fun q => kf q H locs ls hP hS hl)
theorem u_goto (C : Cx κ y own cc nL ret d) {off : Int} {tgt : Nat} (hd : decode cc pc = .ok (.goto off, 3)) (ht : (pc : Int) + off = (tgt : Int)) (kk : G κ y tgt L st M) : G κ y pc L (st) M := by
  obtain ⟨p, l, e, R, s, m, args, below, meth, c, w, PQ⟩ := κ
  obtain ⟨hx, hb, hml, hown, hts, hK, hA, hlk, hr, hR, hN, hX⟩ := C
  subst hml
  intro H locs ls hP hS hl
  exact lv_goto hx hb hd ht (kk H locs ls hP hS hl)
theorem u_tsOut (C : Cx κ y own cc nL ret d) {dflt lo hi : Int} {offs : Array Int} {len : Nat} {x : Int32} {tgt : Nat} (hd : decode cc pc = .ok (.tableswitch dflt lo hi offs, len)) (h : x.toInt < lo ∨ hi < x.toInt) (ht : (pc : Int) + dflt = (tgt : Int)) (kk : G κ y tgt L st M) : G κ y pc L (.int x :: st) M := by
  obtain ⟨p, l, e, R, s, m, args, below, meth, c, w, PQ⟩ := κ
  obtain ⟨hx, hb, hml, hown, hts, hK, hA, hlk, hr, hR, hN, hX⟩ := C
  subst hml
  intro H locs ls hP hS hl
  exact lv_tableOut hx hb hd h ht (kk H locs ls hP hS hl)
theorem u_tsIn (C : Cx κ y own cc nL ret d) {dflt lo hi : Int} {offs : Array Int} {len : Nat} {x : Int32} {off : Int} {tgt : Nat} (hd : decode cc pc = .ok (.tableswitch dflt lo hi offs, len)) (h1 : ¬ x.toInt < lo) (h2 : ¬ hi < x.toInt) (ho : offs[(x.toInt - lo).toNat]? = some off) (ht : (pc : Int) + off = (tgt : Int)) (kk : G κ y tgt L st M) : G κ y pc L (.int x :: st) M := by
  obtain ⟨p, l, e, R, s, m, args, below, meth, c, w, PQ⟩ := κ
  obtain ⟨hx, hb, hml, hown, hts, hK, hA, hlk, hr, hR, hN, hX⟩ := C
  subst hml
  intro H locs ls hP hS hl
  exact lv_tableIn hx hb hd h1 h2 ho ht (kk H locs ls hP hS hl)
theorem u_null (C : Cx κ y own cc nL ret d) (hd : decode cc pc = .ok (.aconst_null, 1)) (kk : G κ y (pc + 1) L (.null :: st) M) : G κ y pc L (st) M := by
  obtain ⟨p, l, e, R, s, m, args, below, meth, c, w, PQ⟩ := κ
  obtain ⟨hx, hb, hml, hown, hts, hK, hA, hlk, hr, hR, hN, hX⟩ := C
  subst hml
  intro H locs ls hP hS hl
  exact lv_null hx hb hd (kk H locs ls hP hS hl)
theorem u_nonnull (C : Cx κ y own cc nL ret d) {x : Nat} {off : Int} {tgt : Nat} (hd : decode cc pc = .ok (.ifnonnull off, 3)) (ht : (pc : Int) + off = (tgt : Int)) (kk : G κ y tgt L st M) : G κ y pc L (.ref x :: st) M := by
  obtain ⟨p, l, e, R, s, m, args, below, meth, c, w, PQ⟩ := κ
  obtain ⟨hx, hb, hml, hown, hts, hK, hA, hlk, hr, hR, hN, hX⟩ := C
  subst hml
  intro H locs ls hP hS hl
  exact lv_ifnonnull hx hb hd ht (kk H locs ls hP hS hl)
theorem u_nonnullN (C : Cx κ y own cc nL ret d) {off : Int} (hd : decode cc pc = .ok (.ifnonnull off, 3)) (kk : G κ y (pc + 3) L st M) : G κ y pc L (.null :: st) M := by
  obtain ⟨p, l, e, R, s, m, args, below, meth, c, w, PQ⟩ := κ
  obtain ⟨hx, hb, hml, hown, hts, hK, hA, hlk, hr, hR, hN, hX⟩ := C
  subst hml
  intro H locs ls hP hS hl
  exact lv_ifnonnullN hx hb hd (kk H locs ls hP hS hl)
theorem u_astore_nN (C : Cx κ y own cc nL ret d) {k : Fin 4} (hd : decode cc pc = .ok (.astore_n k, 1)) (ho : (decide ((k : Nat) < L.length) && decide ((k : Nat) < nL) && okst L k) = true) (kk : ∀ L', L.set (k : Nat) (some .null) = L' → G κ y (pc + 1) L' st M) : G κ y pc L (.null :: st) M := by
  obtain ⟨p, l, e, R, s, m, args, below, meth, c, w, PQ⟩ := κ
  obtain ⟨hx, hb, hml, hown, hts, hK, hA, hlk, hr, hR, hN, hX⟩ := C
  subst hml
  intro H locs ls hP hS hl
  simp only [Bool.and_eq_true, decide_eq_true_eq] at ho
  exact lv_astore_nN hx hb hd rfl (lk_has.mp hl) ho.1.2 rfl (fun ls' hl' => kk _ rfl H locs ls' hP hS (lk_set ho.2 ho.1.1 hl'))
theorem u_astoreN (C : Cx κ y own cc nL ret d) {k : Nat} (hd : decode cc pc = .ok (.astore k, 2)) (ho : (decide ((k : Nat) < L.length) && decide ((k : Nat) < nL) && okst L k) = true) (kk : ∀ L', L.set (k : Nat) (some .null) = L' → G κ y (pc + 2) L' st M) : G κ y pc L (.null :: st) M := by
  obtain ⟨p, l, e, R, s, m, args, below, meth, c, w, PQ⟩ := κ
  obtain ⟨hx, hb, hml, hown, hts, hK, hA, hlk, hr, hR, hN, hX⟩ := C
  subst hml
  intro H locs ls hP hS hl
  simp only [Bool.and_eq_true, decide_eq_true_eq] at ho
  exact lv_astoreN hx hb hd (lk_has.mp hl) ho.1.2 rfl (fun ls' hl' => kk _ rfl H locs ls' hP hS (lk_set ho.2 ho.1.1 hl'))
theorem u_aloadN (C : Cx κ y own cc nL ret d) {i : Nat} (hd : decode cc pc = .ok (.aload i, 2)) (hi : L[i]? = some (some .null)) (kk : G κ y (pc + 2) L (.null :: st) M) : G κ y pc L (st) M := by
  obtain ⟨p, l, e, R, s, m, args, below, meth, c, w, PQ⟩ := κ
  obtain ⟨hx, hb, hml, hown, hts, hK, hA, hlk, hr, hR, hN, hX⟩ := C
  subst hml
  intro H locs ls hP hS hl
  exact lv_aloadN hx hb hd (hl.2.2 _ _ hi) (kk H locs ls hP hS hl)
end RG
