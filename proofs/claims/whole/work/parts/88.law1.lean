/-! the classes at the start; a call out of the law; the constructors out of it -/
theorem in_all {ci : Nat} {q : vw_C} (h : cls0[ci]? = some q) : Cond.instantiable q.1 q.2.2 ∈ tbl := by
  match ci, h with
  | 0, h => cases h; exact tbl_in (List.mem_of_getElem? (i := 125) (by decide +kernel)) rfl
  | 1, h => cases h; exact tbl_in (List.mem_of_getElem? (i := 308) (by decide +kernel)) rfl
  | 2, h => cases h; exact tbl_in (List.mem_of_getElem? (i := 168) (by decide +kernel)) rfl
  | 3, h => cases h; exact tbl_in (List.mem_of_getElem? (i := 276) (by decide +kernel)) rfl
  | 4, h => cases h; exact tbl_in (List.mem_of_getElem? (i := 374) (by decide +kernel)) rfl
  | 5, h => cases h; exact tbl_in (List.mem_of_getElem? (i := 253) (by decide +kernel)) rfl
  | 6, h => cases h; exact tbl_in (List.mem_of_getElem? (i := 247) (by decide +kernel)) rfl
  | 7, h => cases h; exact tbl_in (List.mem_of_getElem? (i := 397) (by decide +kernel)) rfl
  | 8, h => cases h; exact tbl_in (List.mem_of_getElem? (i := 117) (by decide +kernel)) rfl
  | 9, h => cases h; exact tbl_in (List.mem_of_getElem? (i := 981) (by decide +kernel)) rfl
  | k + 10, h => simp [cls0] at h
theorem ka_0 {s : State} {args : Array Value} (hts : ∀ w ∈ lw_tbl, w.before args s = true) : ∃ (D : va_G) (cA : Nat → ClassId), KA D cA s := by
  have htb : ∀ w ∈ tbl, w.before args s = true := fun w hw => hts w (List.mem_filter.mp hw).1
  have h0 : ∀ ci : Nat, ∃ q : ClassId × (Nat → Nat), ∀ r, cls0[ci]? = some r → u_Kn s r.1 r.2.1 r.2.2 q.1 q.2 := by
    intro ci
    cases hr : cls0[ci]? with
    | none => exact ⟨(0, fun _ => 0), fun r h => by cases h⟩
    | some r =>
      obtain ⟨hN1, hin, -⟩ := cw_all hr hr
      obtain ⟨cC, iS, h⟩ := u_known htb hin (htb _ (in_all hr))
      exact ⟨(cC, iS), fun r' h' => by cases h'; exact h⟩
  obtain ⟨f, hf⟩ := Classical.axiomOfChoice h0
  obtain ⟨c0, k0, m0, a1, a2, a3⟩ := Cond.arrayClass_spec (htb _ w_aI)
  obtain ⟨c1, k1, m1, b1, b2, b3⟩ := Cond.arrayClass_spec (htb _ w_aJ)
  have hG : (Cond.arrayOver (.object "LayeredCards$Game")).before args s = true := hts _ (List.mem_of_getElem? (i := 245) (by decide +kernel))
  have hI : (Cond.arrayOver (.array .int)).before args s = true := hts _ (List.mem_of_getElem? (i := 987) (by decide +kernel))
  obtain ⟨m2, c2, k2, d1, d2, d3, d4, d5⟩ := Cond.arrayOver_spec hG
  obtain ⟨m3, c3, k3, e1, e2, e3, e4, e5⟩ := arrayOverA_spec hI
  refine ⟨(fun i => (f i).1, fun i => (f i).2), fun j => if j = 0 then c0 else if j = 1 then c1 else if j = 2 then c2 else c3, ⟨fun c q hq => hf c q hq, ?_⟩, ?_, va_AO.of hG, hI⟩
  · intro k q hq
    match k, hq with
    | 0, hq => cases hq; exact ⟨fun N z => ⟨(fun q hq => by cases hq), k0, a2, m0, a3⟩, a1⟩
    | 1, hq => cases hq; exact ⟨fun N z => ⟨(fun q hq => by cases hq), k1, b2, m1, b3⟩, b1⟩
    | 2, hq => cases hq; exact ⟨fun N z => ⟨(fun q hq => by cases hq), k2, d3, m2, d4⟩, ⟨k2, m2, d3, d4, d1, d5⟩⟩
    | 3, hq => cases hq; exact ⟨fun N z => ⟨(fun q hq => by cases hq), k3, e3, m3, e4⟩, e5⟩
    | k + 4, hq => simp [tyq] at hq
  · intro x hx
    have h1 := hts x (List.mem_filter.mp hx).1
    have h2 := (List.mem_filter.mp hx).2
    cases x with
    | fieldLinkNest a i b n d h => exact va_Nw.of rfl h1
    | methodLinkNest a i x h => exact va_Nw.of rfl h1
    | _ => exact absurd h2 (by simp [isNest])
section LWC
variable {p : Program} {l : Launch} {e : Env} {R : Room} {s : State} {m : MethodId} {args : Array Value} {below : List Frame} {meth : Method} {c : Code} {H : Heap} {locs : List Loc} {cells slots : Nat} {Q : State → Prop}
variable {cc : ByteArray} {pc : Nat} {ls : Array Slot} {rest : List Value} {D : va_G} {cA : Nat → ClassId} {b k nL : Nat} {E : Nat → va_E} {own : String}
/-- a constructor, by the law -/
theorem a_initL (C : CA p s m args meth c own cc nL D cA) (hN : NW D b k E H locs s) {idx i d2 mc ms n k2 nL2 : Nat} {y : MethodName} {cc2 : ByteArray} {As stk : List Value} {E2 : Nat → va_E} (hd : decode cc pc = .ok (.invokespecial idx, 3)) (hw : Cond.methodLink own idx y ∈ tbl) (mi : MI y cc2 nL2 n) (h : Cn y cc2 nL2 d2 mc ms (.ref i :: As) D cA b k E k2 E2) (hn : As.length = n) (hst : As.reverse ++ .ref i :: rest = stk) (hls : ls.size = nL) (hroom : (rest.map fun v => v.category).sum ≤ 8) (hR2 : d2 + 1 ≤ R.frames ∧ 8 + (nL2 + 11) + d2 * 60 ≤ R.locals) (hf : cells + mc ≤ R.cells ∧ slots + ms ≤ R.slots)
    (kk : ∀ H1 locs1, NW D b k2 E2 H1 locs1 s → W p l e R s m args below meth c H1 locs1 (cells + mc) (slots + ms) Q (F0 m (pc + 3) ls rest)) : W p l e R s m args below meth c H locs cells slots Q (F0 m pc ls stk) := by
  subst hst
  obtain ⟨hx, hb, hml, hown, hts, hK, hlk⟩ := C
  obtain ⟨mx1, mx2, mx3, mx4, mx5, mx6⟩ := mi
  have hpre : PreS s H (va_Pc (.ref i :: As) (fun U => NP D b k E U.heap ∧ KA D cA U)) (.ref i :: As) := ⟨Cn_blind, fun U hU hW => ⟨rfl, by rw [hU]; exact hN.1, hK.warm hW⟩⟩
  have cb : CallB R s args own idx y cc2 nL2 none (Cond.code y cc2 nL2 none :: tbl) (rmA d2 mc ms) mc ms n := callB_of n hts (gi_tbl (a := Cond.tt) mx1) rfl rfl rfl (hts _ mx2) (hts _ hw) mx4 hR2
  have hr := va_runI (nL := nL) (l := l) (below := below) (meth := meth) (locs := locs) (cells := cells) (slots := slots) (e := e) (R := R) (H := H) (g := F0 m pc ls (As.reverse ++ .ref i :: rest)) ⟨hx, hb, hml, hown, hts⟩ (h l) ⟨cb, mx5, hts _ mx6⟩ hpre rfl hn hls rfl (lv_room hroom) hd hf
  intro T hT X
  obtain ⟨v, st₀, t, T', L, h0, X', hL, e1, e2, ⟨hv, hp, hF⟩, st⟩ := hr T hT X
  cases hv
  obtain ⟨hz, hk⟩ := hF
  rw [h0] at hz hk
  obtain ⟨t2, a1, b1⟩ := kk T'.heap (locs ++ L) ⟨by rw [e1]; exact hp, Nat.le_trans hN.2.1 (by rw [e1]; exact hz), fun q h1 h2 => by rw [e1, hk q (Nat.lt_of_lt_of_le h1 hN.2.1) h2]; exact hN.2.2.1 q h1 h2, fun q hq => by
      rcases List.mem_append.mp hq with h | h
      · exact hN.2.2.2 q h
      · exact hL q h⟩ T' rfl X'
  exact ⟨t2, st t2 a1, b1⟩
/-- a call of one of the two systems: the other stays -/
theorem lw_call (C : CA p s m args meth c own cc nL D cA) {ad ad2 : Nat → Nat} {y y2 : LY} {M M2 : Mem} (hadi : adi (ad, D, cA) y) (hge : ∀ q, q < y.1 → s.heap.size ≤ ad q) (hdis : ∀ q r, q < y.1 → r < y2.1 → ad2 r ≠ ad q) (hX : SX (ad, D, cA) (AW (ad, D, cA) y s.heap.size) s s.heap)
    (hP : va_P D cls0 (wl (ad, D, cA) y M) H) (hP2 : va_P D cls0 (wl (ad2, D, cA) y2 M2) H) (hS : va_S (fun q => s.heap.size ≤ q) s.heap H locs) {idx p0 ci a nL2 d2 n : Nat} {x : MethodName} {cc2 : ByteArray} {As stk : List Value} {PQ : Int32 → Mem → Prop} (hd : decode cc pc = .ok (.invokevirtual idx, 3)) (mx : MX x cc2 nL2 (some .int) n false) (hw : Cond.methodLink own idx x ∈ tbl) (hs : sh y p0 0 ci) (hci : (cls0[ci]?).map (fun q => q.1) = some x.cls) (h : Ct y x cc2 nL2 (some .int) d2 (.ref p0 :: As) M (Pi PQ)) (ha : ad p0 = a) (hAs : As.map (cv ad) = As) (hn : As.length = n) (hst : As.reverse ++ .ref a :: rest = stk) (hls : ls.size = nL) (hroom : (rest.map fun v => v.category).sum ≤ 8) (hR2 : d2 + 1 ≤ R.frames ∧ 8 + (nL2 + 11) + d2 * 60 ≤ R.locals) (hf : cells ≤ R.cells ∧ slots ≤ R.slots)
    (kk : ∀ (r : Int32) (M1 : Mem) (H1 : Heap) (locs1 : List Loc), PQ r M1 → va_P D cls0 (wl (ad, D, cA) y M1) H1 → va_P D cls0 (wl (ad2, D, cA) y2 M2) H1 → va_S (fun q => s.heap.size ≤ q) s.heap H1 locs1 → W p l e R s m args below meth c H1 locs1 cells slots Q (F0 m (pc + 3) ls (.int r :: rest))) : W p l e R s m args below meth c H locs cells slots Q (F0 m pc ls stk) := by
  subst ha
  subst hst
  obtain ⟨hx, hb, hml, hown, hts, hK, hlk⟩ := C
  obtain ⟨mx1, mx2, mx3, mx4, mx5⟩ := mx
  rw [if_neg (by decide)] at mx5
  have hSA : va_S (AW (ad, D, cA) y s.heap.size) s.heap H locs := ⟨hS.1, fun q h1 _ => hS.2.1 q h1 (by omega), fun q hq => Or.inr (hS.2.2 q hq)⟩
  obtain ⟨q, hq, hq2⟩ := Option.map_eq_some_iff.mp hci
  have hrecv : ∃ cell : Cell, H[ad p0]? = some cell ∧ cell.vm.isStatics = false ∧ s.vm.findClass x.cls = some cell.cls := by
    rw [← hq2]
    exact va_recv hK.1 hP hq (q0 := p0) (by rw [wl_at hs.1, ent_obj hs.2])
  have hpre : PreV s H x.cls (ad p0) (va_Pc ((Value.ref p0 :: As).map (cv ad)) (fun U => U.heap.size = H.size ∧ BX (ad, D, cA) y M U)) As := by
    refine ⟨BX_blind, hrecv, fun U hU hW => ⟨?_, by rw [hU], BX_of hU hW hP hK.1 hadi hK.2.1 hX hSA⟩⟩
    rw [List.map_cons, hAs]
    rfl
  have hstk : (F0 m pc ls (As.reverse ++ .ref (ad p0) :: rest)).stack = As.reverse ++ .ref (ad p0) :: rest := rfl
  have cb : CallB R s args own idx x cc2 nL2 (some .int) (Cond.code x cc2 nL2 (some .int) :: tbl) (rmd d2) 0 0 n := callB_of n hts (gi_tbl (a := Cond.tt) mx1) rfl rfl rfl (hts _ mx2) (hts _ hw) mx4 hR2
  have hr := va_runV (nL := nL) (l := l) (below := below) (meth := meth) (locs := locs) (cells := cells) (slots := slots) (e := e) (R := R) (H := H) (g := F0 m pc ls (As.reverse ++ .ref (ad p0) :: rest)) ⟨hx, hb, hml, hown, hts⟩ (h l (ad, D, cA) H.size) ⟨cb, hts _ mx5.1, hts _ mx5.2⟩ hpre rfl hn hls hstk (lv_room hroom) hd hf
  intro T hT X
  obtain ⟨v, st₀, t, T', L, h0, X', hL, e1, e2, ⟨⟨v', M1, hv, ⟨r, hr1, hPQ⟩, hP1⟩, hz, hk⟩, st⟩ := hr T hT X
  subst hr1
  cases hv
  rw [h0] at hz hk
  have hold : ∀ q : Nat, q < H.size → ¬ AW (ad, D, cA) y H.size q → T'.heap[q]? = H[q]? := fun q h1 h2 => by rw [e1]; exact hk q h1 h2
  obtain ⟨t2, a1, b1⟩ := kk r M1 T'.heap (locs ++ L) hPQ (by rw [e1]; exact hP1) (hP2.kept (fun k9 x9 hx9 => by
      have hl9 := (hP2 k9 x9 hx9).lt
      refine hold x9.1 hl9 (fun h5 => ?_)
      have hlt : k9 < y2.1 := by
        have := (List.getElem?_eq_some_iff.mp hx9).1
        simpa [wl] using this
      rw [wl_at hlt] at hx9
      cases hx9
      rcases h5 with ⟨q5, h6, h7⟩ | h6
      · exact hdis q5 k9 h6 hlt h7
      · have hl9 : ad2 k9 < H.size := hl9
        have h6 : H.size ≤ ad2 k9 := h6
        omega)) ⟨Nat.le_trans hS.1 (by rw [e1]; exact hz), fun q h1 h2 => by
      rw [hold q (Nat.lt_of_lt_of_le h1 hS.1) (fun h5 => by
        rcases h5 with ⟨q5, h6, h7⟩ | h6
        · exact h2 (by rw [h7]; exact hge q5 h6)
        · have := hS.1; omega)]
      exact hS.2.1 q h1 h2, fun q hq => by
      rcases List.mem_append.mp hq with h5 | h5
      · exact hS.2.2 q h5
      · rcases hL q h5 with ⟨q5, h6, h7⟩ | h6
        · show s.heap.size ≤ q.base
          rw [h7]
          exact hge q5 h6
        · exact Nat.le_trans hS.1 h6⟩ T' rfl X'
  exact ⟨t2, st t2 a1, b1⟩
end LWC
