/-! the rows of String: its fields, its bytes, its statics; the answers of a char, a byte -/
section RT
variable {κ : KX} {y : LY} {own : String} {cc : ByteArray} {nL d pc : Nat} {ret : Option FieldType} {L L' : List (Option Value)} {st : List Value} {M : Mem}
theorem u_gval (C : Cx κ y own cc nL ret d) {idx i : Nat} (hd : decode cc pc = .ok (.getfield idx, 3)) (hw : Cond.fieldLink own idx "java/lang/String" "value" "[B" ∈ tbl) (hi : i < 16) (kk : G κ y (pc + 3) L (.ref (2000 + i) :: st) M) : G κ y pc L (.ref (1000 + i) :: st) M := by
  obtain ⟨p_, l, e, R, s, m, args, below, meth, c, w, PQ⟩ := κ
  obtain ⟨hx, hb, hml, hown, hts, hK, hA, hlk, hr, hR, hN, hX⟩ := C
  intro H locs ls hP hS hl
  exact vk_getf hx hb (hX.2.1.1 i hi).2.2.1 hS hown (hts _ hw) (fun _ h => h) hd (kk H locs ls hP hS hl)
theorem u_gcod (C : Cx κ y own cc nL ret d) {idx i : Nat} (hd : decode cc pc = .ok (.getfield idx, 3)) (hw : Cond.fieldLink own idx "java/lang/String" "coder" "B" ∈ tbl) (hi : i < 16) (kk : G κ y (pc + 3) L (.int 0 :: st) M) : G κ y pc L (.ref (1000 + i) :: st) M := by
  obtain ⟨p_, l, e, R, s, m, args, below, meth, c, w, PQ⟩ := κ
  obtain ⟨hx, hb, hml, hown, hts, hK, hA, hlk, hr, hR, hN, hX⟩ := C
  intro H locs ls hP hS hl
  exact vk_getf hx hb (hX.2.1.1 i hi).2.1 hS hown (hts _ hw) (fun _ h => h) hd (kk H locs ls hP hS hl)
theorem u_slen (C : Cx κ y own cc nL ret d) {i : Nat} (hd : decode cc pc = .ok (.arraylength, 1)) (hi : i < 16) (kk : G κ y (pc + 1) L (.int (nI (slen.getD i 0)) :: st) M) : G κ y pc L (.ref (2000 + i) :: st) M := by
  obtain ⟨p_, l, e, R, s, m, args, below, meth, c, w, PQ⟩ := κ
  obtain ⟨hx, hb, hml, hown, hts, hK, hA, hlk, hr, hR, hN, hX⟩ := C
  intro H locs ls hP hS hl
  exact va_tlen hx hb (hX.2.1.1 i hi).2.2.2 hS rfl hd (kk H locs ls hP hS hl)
theorem u_sbal (C : Cx κ y own cc nL ret d) {i : Nat} {j : Int32} (hd : decode cc pc = .ok (.baload, 1)) (hi : i < 16) (hj : vp_in j (slen.getD i 0)) (kk : G κ y (pc + 1) L (.int ((sbyt.getD i []).getD j.toNatClampNeg 0) :: st) M) : G κ y pc L (.int j :: .ref (2000 + i) :: st) M := by
  obtain ⟨p_, l, e, R, s, m, args, below, meth, c, w, PQ⟩ := κ
  obtain ⟨hx, hb, hml, hown, hts, hK, hA, hlk, hr, hR, hN, hX⟩ := C
  intro H locs ls hP hS hl
  exact va_tb hx hb (hX.2.1.1 i hi).2.2.2 hS hj rfl hd (kk H locs ls hP hS hl)
theorem u_gcom (C : Cx κ y own cc nL ret d) {idx : Nat} (hd : decode cc pc = .ok (.getstatic idx, 3)) (hw : Cond.fieldLink own idx "java/lang/String" "COMPACT_STRINGS" "Z" ∈ tbl) (kk : G κ y (pc + 3) L (.int 1 :: st) M) : G κ y pc L st M := by
  obtain ⟨p_, l, e, R, s, m, args, below, meth, c, w, PQ⟩ := κ
  obtain ⟨hx, hb, hml, hown, hts, hK, hA, hlk, hr, hR, hN, hX⟩ := C
  intro H locs ls hP hS hl
  exact va_gets hx hb hX.2.2.1 hS hown (hts _ hw) (fun _ h => h) hd (kk H locs ls hP hS hl)
theorem u_gsio (C : Cx κ y own cc nL ret d) {idx : Nat} (hd : decode cc pc = .ok (.getstatic idx, 3)) (hw : Cond.fieldLink own idx "jdk/internal/util/Preconditions" "SIOOBE_FORMATTER" "Ljava/util/function/BiFunction;" ∈ tbl) (kk : ∀ v, (v = .null ∨ v = .ref 3000) → G κ y (pc + 3) L (v :: st) M) : G κ y pc L st M := by
  obtain ⟨p_, l, e, R, s, m, args, below, meth, c, w, PQ⟩ := κ
  obtain ⟨hx, hb, hml, hown, hts, hK, hA, hlk, hr, hR, hN, hX⟩ := C
  intro H locs ls hP hS hl
  rcases hX.2.2.2 with q | q
  · exact va_gets hx hb q hS hown (hts _ hw) (fun _ h => h) hd (kk .null (Or.inl rfl) H locs ls hP hS hl)
  · exact va_gets hx hb q hS hown (hts _ hw) (fun _ h => h) hd (kk (.ref 3000) (Or.inr rfl) H locs ls hP hS hl)
/-- a call on a String -/
theorem u_callT (C : Cx κ y own cc nL ret d) {idx i n : Nat} {x : MethodName} {cc2 : ByteArray} {nL2 d2 : Nat} {ret2 : Option FieldType} {As stk : List Value} {P : Int32 → Mem → Prop} (hd : decode cc pc = .ok (.invokevirtual idx, 3)) (mx : MX x cc2 nL2 ret2 n false) (mw : MW own idx x) (hi : i < 16) (hxc : x.cls = "java/lang/String") (h : Ct y x cc2 nL2 ret2 d2 (.ref (1000 + i) :: As) M (Pi P)) (hn : (decide (As.length = n) && decide (d2 < d) && decide (nL2 ≤ 40)) = true) (hst : As.reverse ++ .ref (1000 + i) :: st = stk) (hroom : (st.map fun v => v.category).sum ≤ 8) (kk : ∀ (r : Int32) (M' : Mem), P r M' → G κ y (pc + 3) L (.int r :: st) M') : G κ y pc L stk M := by
  subst hst
  obtain ⟨p_, l, e, R, s, m, args, below, meth, c, w, PQ⟩ := κ
  obtain ⟨hx, hb, hml, hown, hts, hK, hA, hlk, hr, hR, hN, hX⟩ := C
  simp only [Bool.and_eq_true, decide_eq_true_eq] at hn
  obtain ⟨⟨hn1, hn2⟩, hn3⟩ := hn
  obtain ⟨mx1, mx2, mx3, mx4, mx5⟩ := mx
  rw [if_neg (by decide)] at mx5
  subst hR
  intro H locs ls hP hS hl
  have hR2 : (rmd d2).frames + 1 ≤ (rmd d).frames ∧ 8 + (nL2 + 11) + (rmd d2).locals ≤ (rmd d).locals := by
    refine ⟨hn2, ?_⟩
    show 8 + (nL2 + 11) + d2 * 60 ≤ d * 60
    omega
  have hrecv : ∃ cell : Cell, H[w.1 (1000 + i)]? = some cell ∧ cell.vm.isStatics = false ∧ s.vm.findClass x.cls = some cell.cls := by
    rw [hxc]
    exact vk_recv (i := i) (adK := fun i => w.1 (1000 + i)) hX.2.1 hi hS
  have hpre : PreV s H x.cls (w.1 (1000 + i)) (va_Pc ((Value.ref (1000 + i) :: As).map (cv w.1)) (fun U => U.heap.size = H.size ∧ BX w y M U)) (As.map (cv w.1)) := ⟨BX_blind, hrecv, fun U hU hW => ⟨rfl, by rw [hU], BX_of hU hW hP hK hA hN hX hS⟩⟩
  have hstk : (F0 m pc ls ((As.reverse ++ .ref (1000 + i) :: st).map (cv w.1))).stack = (As.map (cv w.1)).reverse ++ .ref (w.1 (1000 + i)) :: st.map (cv w.1) := by simp [cv]
  have hlen : (As.map (cv w.1)).length = n := by simpa using hn1
  have hrm : 2 * (F0 m pc ls ((As.reverse ++ .ref (1000 + i) :: st).map (cv w.1))).monitorRoom + ((st.map (cv w.1)).map fun v => v.category).sum ≤ 8 := lv_room (by rw [st_sum]; exact hroom)
  have k2 : ∀ v M', Pi P v M' → G (p_, l, e, rmd d, s, m, args, below, meth, c, w, PQ) y (pc + 3) L (v.toList ++ st) M' := fun v M' q => by
    obtain ⟨r, rfl, q⟩ := q
    exact kk r M' q
  rcases mw with hw | ⟨host, hw⟩
  · have cb : CallB (rmd d) s args own idx x cc2 nL2 ret2 (Cond.code x cc2 nL2 ret2 :: tbl) (rmd d2) 0 0 n := callB_of n hts (gi_tbl (a := Cond.tt) mx1) rfl rfl rfl (hts _ mx2) (hts _ hw) mx4 hR2
    exact u_call_after (va_runV (nL := nL) ⟨hx, hb, hml, hown, hts⟩ (h l w H.size) ⟨cb, hts _ mx5.1, hts _ mx5.2⟩ hpre rfl hlen (by rw [← hml]; exact hl.1) hstk hrm hd ⟨Nat.le_refl _, Nat.le_refl _⟩) hS hl k2
  · exact u_call_after (va_runVN (nL := nL) ⟨hx, hb, hml, hown, hts⟩ (h l w H.size) ⟨va_cnB n hts (gi_tbl (a := Cond.tt) mx1) rfl rfl rfl (hN _ hw) (hts _ mx2) mx4 hR2, hts _ mx5.1, hts _ mx5.2⟩ hpre rfl hlen (by rw [← hml]; exact hl.1) hstk hrm hd ⟨Nat.le_refl _, Nat.le_refl _⟩) hS hl k2
end RT
