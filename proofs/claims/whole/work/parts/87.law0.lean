/-! THE CLAIM OUT OF ONE WALK OF THE LAW'S BODY. Your part is whole_start (and what it stands on); all else here is the same for every law, but numbers. -/
def R_law : String := "LayeredCardsLaw"
def lw_P (b : Addr) (xs : List Int32) (args : Array Value) (s : State) : Prop := args = #[.ref b] ∧ s.IntsAt b xs ∧ xs.length ≤ 2560 ∧ (Jvm.Cond.and given_1 narrow_1).before args s = true
def lw_Q (_ : Array Value) (s : State) (o : Outcome) (t : State) : Prop := o = .returned (some (.int 1)) ∧ Framed s o t [] 600000 7302250
def lw_Z (below : List Frame) (a : Array Value) (s : State) : State → Prop := fun t => ∃ o, t.status = .running ∧ Ended t below o ∧ lw_Q a s o t
/-- the law's own end, with 1 on the stack, nothing written that was there before, its room as the claim has it -/
theorem lw_ret {p : Program} {l : Launch} {e : Env} {s : State} {m : MethodId} {below : List Frame} {meth : Method} {c : Code} {b : Nat} (hx : p.tables.exec = Jvm.exec) (hb : c.code = code) (hr : meth.sig.returnType = ret) (hlocks : meth.locks = false) {pc : Nat} {H : Heap} {ls : Array Slot} (hdg : decode code pc = .ok (.ireturn, 1)) : W p l e room_1 s m #[Value.ref b] below meth c H [] 600000 7302250 (lw_Z below #[Value.ref b] s) (F0 m pc ls [.int 1]) := by
  intro T hT X
  obtain ⟨fs, hret, hrun, hended, hW, hframe⟩ := X.leave (v := some (.int 1)) (hlocks := hlocks) (fun h => by rw [hr] at h; cases h)
  have hmeth' : T.vm.method? m = some meth := X.method'
  refine ⟨T.setFrames fs, ?_, .returned (some (.int 1)), hrun, hended, rfl, ⟨_, rfl⟩, hW, hframe⟩
  jvm_step X.here [X.here.top, hx, hb, hdg, hmeth', hr, ret, narrow_b1]
  (try refine ⟨rfl, ?_⟩); (try refine ⟨rfl, ?_⟩)
  first | (intro acts; rw [hret _ acts rfl rfl rfl]) | rw [hret _ _ rfl rfl rfl]
  exact Steps.refl _
/-- what holds at the law's entry: the machine, the code, the tables' words (any of lw_tbl by 'hts w (by decide +kernel)'), the script of L ints xs at the cell b, what the Statement gives of the start (any of its parts by flat_of_before) -/
def lw_At (p : Program) (s : State) (m : MethodId) (meth : Method) (c : Code) (b L : Nat) (xs : Nat → Int32) : Prop :=
  p.tables.exec = Jvm.exec ∧ c.code = code ∧ meth.sig.returnType = ret ∧ c.maxLocals = 4 ∧ s.vm.findClass R_law = some m.cls ∧ (∀ w ∈ lw_tbl, w.before #[Value.ref b] s = true) ∧ va_X b L xs s s.heap ∧ b < s.heap.size ∧ meth.locks = false ∧ (Jvm.Cond.and given_1 narrow_1).before #[Value.ref b] s = true
/-! what the Statement says of texts and statics, at the start -/
def fln : List Cond := flatC (Jvm.Cond.and given_1 narrow_1)
def tmS (i : Nat) : Term := Term.string (sks.getD i ("", 0, "")).1 (sks.getD i ("", 0, "")).2.1
def ofs : List Nat := [9, 118, 126, 137, 147, 159, 172, 187, 202, 218, 235, 255, 274, 295, 316, 339]
theorem q_ex : ∀ i, i < 16 → fln[ofs.getD i 0]? = some (Cond.exactly (tmS i) "java/lang/String") := by decide +kernel
theorem q_co : ∀ i, i < 16 → fln[ofs.getD i 0 + 1]? = some (Cond.eq (.field (tmS i) "java/lang/String" "coder" "B") (.int 0)) := by decide +kernel
theorem q_ar : ∀ i, i < 16 → fln[ofs.getD i 0 + 2]? = some (Cond.arrayOf (.field (tmS i) "java/lang/String" "value" "[B") .byte) := by decide +kernel
theorem q_le : ∀ i, i < 16 → fln[ofs.getD i 0 + 3]? = some (Cond.eq (.length (.field (tmS i) "java/lang/String" "value" "[B")) (.int (Int32.ofNat (slen.getD i 0)))) := by decide +kernel
theorem q_el : ∀ i, i < 16 → ∀ j, j < slen.getD i 0 → fln[ofs.getD i 0 + 4 + j]? = some (Cond.eq (.elem (.field (tmS i) "java/lang/String" "value" "[B") (.int (Int32.ofNat j))) (.int ((sbyt.getD i []).getD j 0))) := by decide +kernel
theorem q_ne : ∀ i, i < 16 → ∀ j, j < i → fln[ofs.getD i 0 + 4 + slen.getD i 0 + j]? = some (Cond.not (Cond.eq (tmS j) (tmS i))) := by decide +kernel
theorem q_sr : ∀ i, i < 16 → ∃ w, w ∈ lw_tbl ∧ w = Cond.stringRef (sks.getD i ("", 0, "")).1 (sks.getD i ("", 0, "")).2.1 (sks.getD i ("", 0, "")).2.2 := by
  intro i hi
  match i, hi with
  | 0, _ => exact ⟨_, (List.mem_of_getElem? (i := 537) (by decide +kernel)), rfl⟩
  | 1, _ => exact ⟨_, (List.mem_of_getElem? (i := 1128) (by decide +kernel)), rfl⟩
  | 2, _ => exact ⟨_, (List.mem_of_getElem? (i := 1129) (by decide +kernel)), rfl⟩
  | 3, _ => exact ⟨_, (List.mem_of_getElem? (i := 1130) (by decide +kernel)), rfl⟩
  | 4, _ => exact ⟨_, (List.mem_of_getElem? (i := 1131) (by decide +kernel)), rfl⟩
  | 5, _ => exact ⟨_, (List.mem_of_getElem? (i := 1132) (by decide +kernel)), rfl⟩
  | 6, _ => exact ⟨_, (List.mem_of_getElem? (i := 1133) (by decide +kernel)), rfl⟩
  | 7, _ => exact ⟨_, (List.mem_of_getElem? (i := 1134) (by decide +kernel)), rfl⟩
  | 8, _ => exact ⟨_, (List.mem_of_getElem? (i := 1135) (by decide +kernel)), rfl⟩
  | 9, _ => exact ⟨_, (List.mem_of_getElem? (i := 1136) (by decide +kernel)), rfl⟩
  | 10, _ => exact ⟨_, (List.mem_of_getElem? (i := 1137) (by decide +kernel)), rfl⟩
  | 11, _ => exact ⟨_, (List.mem_of_getElem? (i := 1138) (by decide +kernel)), rfl⟩
  | 12, _ => exact ⟨_, (List.mem_of_getElem? (i := 1139) (by decide +kernel)), rfl⟩
  | 13, _ => exact ⟨_, (List.mem_of_getElem? (i := 1140) (by decide +kernel)), rfl⟩
  | 14, _ => exact ⟨_, (List.mem_of_getElem? (i := 1141) (by decide +kernel)), rfl⟩
  | 15, _ => exact ⟨_, (List.mem_of_getElem? (i := 1142) (by decide +kernel)), rfl⟩
  | i + 16, h => exact absurd h (by omega)
/-- the texts and statics at the law's start: addresses for them from 1000 on -/
theorem sx_0 {s : State} {b : Nat} (hts : ∀ w ∈ lw_tbl, w.before #[Value.ref b] s = true) (hgv : (Jvm.Cond.and given_1 narrow_1).before #[Value.ref b] s = true) : ∃ sa : Nat → Nat, ∀ w : WD, (∀ p, 1000 ≤ p → w.1 p = sa p) → ∀ A : Nat → Prop, (∀ a : Nat, a < s.heap.size → ¬ A a) → SX w A s s.heap := by
  have hs : ∀ c ∈ fln, c.before #[Value.ref b] s = true := flat_of_before _ hgv
  obtain ⟨adK, adV, h1, h2⟩ := vk_Sof (args := #[Value.ref b]) (s := s) (N := 16) (tm := tmS) (len := slen) (byt := sbyt) (A := fun q => s.heap.size ≤ q) (by decide +kernel) (fun i hi => hs _ (List.mem_of_getElem? (q_ex i hi))) (fun i hi => hs _ (List.mem_of_getElem? (q_co i hi))) (fun i hi => hs _ (List.mem_of_getElem? (q_ar i hi))) (fun i hi => hs _ (List.mem_of_getElem? (q_le i hi))) (fun i hi j hj => hs _ (List.mem_of_getElem? (q_el i hi j hj)))
    (fun i j hi hj hij => by
      rcases Nat.lt_or_gt_of_ne hij with h | h
      · exact Or.inl (hs _ (List.mem_of_getElem? (q_ne j hj i h)))
      · exact Or.inr (hs _ (List.mem_of_getElem? (q_ne i hi j h)))) (fun a ha h => by omega)
  have hz1 : va_Z "java/lang/String" "COMPACT_STRINGS" "Z" (.int 1) (fun q => s.heap.size ≤ q) s s.heap := va_Zof (args := #[Value.ref b]) (hts _ (List.mem_of_getElem? (i := 547) (by decide +kernel))) (hts _ (List.mem_of_getElem? (i := 110) (by decide +kernel))) (va_eqt (hs _ (List.mem_of_getElem? (i := 4) (by decide +kernel)))) (fun a ha h => by omega)
  have hz2 : va_Zq "jdk/internal/util/Preconditions" "SIOOBE_FORMATTER" "Ljava/util/function/BiFunction;" (fun q => s.heap.size ≤ q) s s.heap := va_Zqof (args := #[Value.ref b]) (hts _ (List.mem_of_getElem? (i := 563) (by decide +kernel))) (hts _ (List.mem_of_getElem? (i := 112) (by decide +kernel))) (hs _ (List.mem_of_getElem? (i := 5) (by decide +kernel))) (fun a ha h => by omega)
  have key : ∃ z : Nat, zsf .null (fun q => s.heap.size ≤ q) s s.heap ∨ zsf (.ref z) (fun q => s.heap.size ≤ q) s s.heap := by
    rcases hz2 with h | ⟨t, h⟩
    · exact ⟨0, Or.inl h⟩
    · exact ⟨t, Or.inr h⟩
  obtain ⟨z, hz⟩ := key
  refine ⟨fun p => if p < 2000 then adK (p - 1000) else if p < 3000 then adV (p - 2000) else z, fun w hw A hA => ?_⟩
  have hAB : ∀ q, A q → s.heap.size ≤ q := fun q hq => Nat.not_lt.mp (fun h => hA q h hq)
  have eK : ∀ i, i < 16 → w.1 (1000 + i) = adK i := fun i hi => by
    rw [hw _ (by omega)]
    show (if 1000 + i < 2000 then adK (1000 + i - 1000) else _) = _
    rw [if_pos (by omega), show 1000 + i - 1000 = i by omega]
  have eV : ∀ i, i < 16 → w.1 (2000 + i) = adV i := fun i hi => by
    rw [hw _ (by omega)]
    show (if 2000 + i < 2000 then _ else if 2000 + i < 3000 then adV (2000 + i - 2000) else z) = _
    rw [if_neg (by omega), if_pos (by omega), show 2000 + i - 2000 = i by omega]
  have eZ : w.1 3000 = z := hw _ (by omega)
  refine ⟨fun i q hq => ?_, ?_, va_Z.narrow hz1 hAB, ?_⟩
  · have hi : i < 16 := (List.getElem?_eq_some_iff.mp hq).1
    have e : sks.getD i ("", 0, "") = q := by rw [List.getD_eq_getElem?_getD, hq]; rfl
    obtain ⟨x, hx1, hx2⟩ := q_sr i hi
    have h5 := h2 i hi
    subst e
    rw [eK i hi]
    exact vk_R.of (A := #[Value.ref b]) (hx2 ▸ hts _ hx1) h5
  · have h6 := h1.narrow (B := A) hAB
    refine ⟨fun i hi => ?_, fun i j hi hj e => ?_⟩
    · show va_O "java/lang/String" (w.1 (1000 + i)) A s s.heap ∧ va_OF "java/lang/String" "coder" "B" (.int 0) (w.1 (1000 + i)) A s s.heap ∧ va_OF "java/lang/String" "value" "[B" (.ref (w.1 (2000 + i))) (w.1 (1000 + i)) A s s.heap ∧ va_T .byte (w.1 (2000 + i)) (slen.getD i 0) (fun j => .int ((sbyt.getD i []).getD j 0)) A s s.heap
      rw [eK i hi, eV i hi]
      exact h6.1 i hi
    · refine h6.2 i j hi hj ?_
      rw [← eK i hi, ← eK j hj]
      exact e
  · exact hz.imp (fun h => va_Z.narrow h hAB) (fun h => by rw [eZ]; exact va_Z.narrow h hAB)

