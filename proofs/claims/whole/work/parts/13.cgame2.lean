/-! more of the class's games: draws, cards taken off, copies, cards added -/
theorem u_drop {κ : KX} {y : LY} {pc : Nat} {L L' : List (Option Value)} {st : List Value} {M : Mem} (i : Nat) (hL : L.set i none = L') (kk : G κ y pc L' st M) : G κ y pc L st M := by
  subst hL
  obtain ⟨p, l, e, R, s, m, args, below, meth, c, w, PQ⟩ := κ
  intro H locs ls hP hS hl
  refine kk H locs ls hP hS ⟨hl.1, hl.2.1, fun j v hj => hl.2.2 j v ?_⟩
  rw [List.getElem?_set] at hj
  split at hj
  · split at hj <;> cases hj
  · exact hj
theorem cpr_ne {M : Mem} {p0 p n q : Nat} (h : q ≠ p) : (cpr M p0 p n).1 q = M.1 q := by
  funext b
  simp [cpr, h]
theorem cpr_in {M : Mem} {p0 p n b : Nat} (h : b < n) : (cpr M p0 p n).1 p b = M.1 p0 b := by simp [cpr, h]
theorem cpr_off {S : Nat → Prop} {M : Mem} {p0 p n : Nat} (h : S p) : Off S M (cpr M p0 p n) := fun q hq => ⟨cpr_ne (fun e => hq (e ▸ h)), rfl⟩
/-- how far the cards have moved -/
def psum (g : Gm) : Nat → Nat
  | 0 => 0
  | c + 1 => psum g c + (g 3 c).toNatClampNeg
theorem psum_up {g : Gm} {c : Nat} {x : Int32} : ∀ n, c < n → psum (up2 g 3 c x) n + (g 3 c).toNatClampNeg = psum g n + x.toNatClampNeg := by
  have h0 : ∀ n, n ≤ c → psum (up2 g 3 c x) n = psum g n := by
    intro n
    induction n with
    | zero => intro _; rfl
    | succ n ih =>
      intro h
      rw [psum, psum, ih (by omega), up2_n (by omega)]
  intro n
  induction n with
  | zero => intro h; omega
  | succ n ih =>
    intro h
    by_cases e : n = c
    · subst e
      rw [psum, psum, h0 n (Nat.le_refl _), up2_e]
      omega
    · have := ih (by omega)
      rw [psum, psum, up2_n e]
      omega
theorem psum_eq {g h : Gm} {n : Nat} (e : ∀ c, c < n → g 3 c = h 3 c) : psum g n = psum h n := by
  induction n with
  | zero => rfl
  | succ n ih => rw [psum, psum, ih (fun c hc => e c (by omega)), e n (by omega)]
/-- no card moved, and SEED stayed; or some moved, and m counts them -/
def mvd (n : Nat) (g : Gm) (m : Nat) (g' : Gm) (m' : Nat) : Prop :=
  (m' = m ∧ (∀ c, c < n → g' 3 c = g 3 c) ∧ g' 1 1 = g 1 1 ∧ ∀ c, c < n → g' 4 c = g 4 c) ∨ (m < m' ∧ m' + psum g n ≤ m + psum g' n)
theorem mvd.refl {n m : Nat} {g : Gm} : mvd n g m g m := Or.inl ⟨rfl, fun _ _ => rfl, rfl, fun _ _ => rfl⟩
theorem mvd.trans {n m m1 m2 : Nat} {g g1 g2 : Gm} (h1 : mvd n g m g1 m1) (h2 : mvd n g1 m1 g2 m2) : mvd n g m g2 m2 := by
  rcases h1 with ⟨a1, a2, a3, a4⟩ | ⟨a1, a2⟩ <;> rcases h2 with ⟨b1, b2, b3, b4⟩ | ⟨b1, b2⟩
  · exact Or.inl ⟨by omega, fun c hc => (b2 c hc).trans (a2 c hc), b3.trans a3, fun c hc => (b4 c hc).trans (a4 c hc)⟩
  · have := psum_eq a2
    exact Or.inr ⟨by omega, by omega⟩
  · have := psum_eq b2
    exact Or.inr ⟨by omega, by omega⟩
  · exact Or.inr ⟨by omega, by omega⟩
theorem mvd.same {n m : Nat} {g g' : Gm} (h3 : g' 3 = g 3) (h1 : g' 1 1 = g 1 1) (h4 : g' 4 = g 4) : mvd n g m g' m := Or.inl ⟨rfl, fun _ _ => by rw [h3], h1, fun _ _ => by rw [h4]⟩
theorem mvd.mv {n m c : Nat} {g g' : Gm} {x : Int32} (hc : c < n) (h3 : g' 3 = (up2 g 3 c x) 3) (hx : (g 3 c).toNatClampNeg < x.toNatClampNeg) : mvd n g m g' (m + 1) := by
  have h := psum_up (g := g) (x := x) n hc
  have e : psum g' n = psum (up2 g 3 c x) n := psum_eq (fun d _ => by rw [h3])
  exact Or.inr ⟨by omega, by omega⟩
theorem atP_congr {cd : Nat → Nat → Int32} {n : Nat} {g h : Gm} {p pl : Int32} (e : ∀ c, c < n → g 3 c = h 3 c) : atP cd n g p pl = atP cd n h p pl := by
  unfold atP
  apply List.filter_congr
  intro c hc
  rw [e c (List.mem_range.mp hc)]
theorem drawn_lt {n : Nat} (h0 : 0 < n) (hn : n < 2 ^ 31) (s : Int32) : ∃ j, j < n ∧ drawnF (nI n) s = nI j := by
  have e : ((s.toUInt32 >>> (Int32.toUInt32 16 &&& Int32.toUInt32 31)).toInt32) = nI (s.toUInt32 >>> (Int32.toUInt32 16 &&& Int32.toUInt32 31)).toNat := by
    apply Int32.toBitVec_inj.mp
    show (s.toUInt32 >>> (Int32.toUInt32 16 &&& Int32.toUInt32 31)).toBitVec = BitVec.ofNat 32 _
    generalize s.toUInt32 >>> (Int32.toUInt32 16 &&& Int32.toUInt32 31) = u
    show u.toBitVec = BitVec.ofNat 32 u.toBitVec.toNat
    simp
  have hl : (s.toUInt32 >>> (Int32.toUInt32 16 &&& Int32.toUInt32 31)).toNat < 65536 := by
    rw [UInt32.toNat_shiftRight]
    have h1 : (Int32.toUInt32 16 &&& Int32.toUInt32 31).toNat % 32 = 16 := by decide
    rw [h1, Nat.shiftRight_eq_div_pow]
    have := s.toUInt32.toNat_lt
    omega
  refine ⟨(s.toUInt32 >>> (Int32.toUInt32 16 &&& Int32.toUInt32 31)).toNat % n, Nat.mod_lt _ h0, ?_⟩
  rw [drawnF, if_neg (nI_nle h0 hn), e, remF, pk_rem (by omega) h0 hn]
def ncc (c d : Nat) : Bool := decide (d ≠ c)
/-- the table while a card is taken off -/
def TI (k : Nat) (tb : List Nat) (c : Nat) (M M1 : Mem) (i : Nat) : Prop :=
  (∀ q, q ≠ gp k + 5 → M1.1 q = M.1 q) ∧ M1.2 = M.2 ∧ (∀ j, j < ((tb.take i).filter (ncc c)).length → M1.1 (gp k + 5) j = nI (((tb.take i).filter (ncc c)).getD j 0)) ∧ (∀ j, i ≤ j → j < tb.length → M1.1 (gp k + 5) j = nI (tb.getD j 0))
theorem TI.step {k c i : Nat} {tb : List Nat} {M M1 : Mem} (h : TI k tb c M M1 i) (hi : i < tb.length) (hc : tb.getD i 0 = c) : TI k tb c M M1 (i + 1) ∧ ((tb.take (i + 1)).filter (ncc c)).length = ((tb.take i).filter (ncc c)).length := by
  have e : (tb.take (i + 1)).filter (ncc c) = (tb.take i).filter (ncc c) := by
    rw [List.take_succ_eq_append_getElem hi, List.filter_append]
    have h9 : tb[i] = c := by rw [← hc, List.getD_eq_getElem?_getD, List.getElem?_eq_getElem hi]; rfl
    rw [h9, List.filter_cons_of_neg (by simp [ncc]), List.filter_nil, List.append_nil]
  exact ⟨⟨h.1, h.2.1, by rw [e]; exact h.2.2.1, fun j hj => h.2.2.2 j (by omega)⟩, by rw [e]⟩
theorem TI.keep {k c i : Nat} {tb : List Nat} {M M1 : Mem} (h : TI k tb c M M1 i) (hi : i < tb.length) (hc : tb.getD i 0 ≠ c) :
    TI k tb c M (up M1 (gp k + 5) ((tb.take i).filter (ncc c)).length (nI (tb.getD i 0))) (i + 1) ∧ ((tb.take (i + 1)).filter (ncc c)).length = ((tb.take i).filter (ncc c)).length + 1 := by
  have h9 : tb[i] = tb.getD i 0 := by rw [List.getD_eq_getElem?_getD, List.getElem?_eq_getElem hi]; rfl
  have e : (tb.take (i + 1)).filter (ncc c) = (tb.take i).filter (ncc c) ++ [tb.getD i 0] := by
    rw [List.take_succ_eq_append_getElem hi, List.filter_append, h9, List.filter_cons_of_pos (by simpa [ncc] using hc), List.filter_nil]
  have hle : ((tb.take i).filter (ncc c)).length ≤ i := Nat.le_trans (List.length_filter_le _ _) (by simp; omega)
  refine ⟨⟨fun q hq => by rw [up_ne hq]; exact h.1 q hq, h.2.1, fun j hj => ?_, fun j hj hj2 => ?_⟩, by rw [e, List.length_append]; rfl⟩
  · rw [e] at hj ⊢
    by_cases ej : j = ((tb.take i).filter (ncc c)).length
    · subst ej
      simp [up]
    · have hj2 : j < ((tb.take i).filter (ncc c)).length := by rw [List.length_append] at hj; simp only [List.length_singleton] at hj; omega
      rw [getD_app hj2]
      exact (if_neg (fun q => ej q.2)).trans (h.2.2.1 j hj2)
  · have ej : j ≠ ((tb.take i).filter (ncc c)).length := by omega
    exact (if_neg (fun q => ej q.2)).trans (h.2.2.2 j (by omega) hj2)
set_option maxRecDepth 20000 in
theorem lp_takeOff {κ : KX} {k n m : Nat} {g : Gm} {tb : List Nat} {M : Mem} (hk : k < 6) {c : Nat} (C : Cx κ lyC y_G_takeOff.cls b_G_takeOff 5 none 2) (hR : RepG M k n g tb m) (ht : tb.length ≤ 24) (hnd : tb.Nodup) (hb : ∀ d, d ∈ tb → d < 24) (hc : c < 24) (hQ : ∀ v M', Pv (fun M' => RepG M' k n (put4 g c) (tb.erase c) (m + 1) ∧ Off (blk k) M M') v M' → KQ κ v M')  : ∀ (f i : Nat) (M1 : Mem) (x2 : Int32), i ≤ tb.length → tb.length - i < f → TI k tb c M M1 i → x2 = nI ((tb.take i).filter (ncc c)).length → G κ lyC 4 [some (.ref (gp k)), some (.int (nI c)), some (.int x2), some (.int (nI i)), none] [] M1 := by
  intro f
  induction f with
  | zero => intro i _ _ _ h; omega
  | succ f ih =>
    intro i M1 x2 hi hf hT e2
    have r9 := hR.2.2.2.2.2.2.2.1
    have hin : nI tb.length ≤ nI i ↔ tb.length ≤ i := nI_leI (by omega) (by omega)
    have hM8 : M1.1 (gp k) = M.1 (gp k) := hT.1 _ (by omega)
    have hfl : ((tb.take i).filter (ncc c)).length ≤ i := Nat.le_trans (List.length_filter_le _ _) (by simp; omega)
    refine u_iload_n (pc := 4) C d_G_takeOff_4 rfl ?_
    refine u_aload_n (pc := 5) C d_G_takeOff_5 rfl ?_
    refine u_geti (pc := 6) C d_G_takeOff_6 fw_G_45 (shG0 hk) rfl ?_
    refine u_icmp_ge (pc := 9) (tgt := 47) C d_G_takeOff_9 rfl (fun c9 => ?_) (fun c9 => ?_)
    · refine u_aload_n (pc := 47) C d_G_takeOff_47 rfl ?_
      refine u_iload_n (pc := 48) C d_G_takeOff_48 rfl ?_
      refine u_put (pc := 49) C d_G_takeOff_49 fw_G_45 (shG0 hk) rfl (Or.inl rfl) ?_
      refine u_aload_n (pc := 52) C d_G_takeOff_52 rfl ?_
      refine u_iload_n (pc := 53) C d_G_takeOff_53 rfl ?_
      refine u_iconst (pc := 54) (v := 4) C d_G_takeOff_54 (by decide) ?_
      refine u_callVv (pc := 55) C d_G_takeOff_55 mx_G_moveTo mw_G_77 (shG0 hk) rfl (c_G_moveTo hk) rfl rfl (Nat.le_of_ble_eq_true rfl) (fun M55 q55 => ?_)
      have q55 := q55.symm
      subst q55
      refine u_vret (pc := 58) C d_G_takeOff_58 (hQ _ _ ⟨rfl, ?_⟩)
      have hi2 : i = tb.length := by rw [hM8, r9, hin] at c9; omega
      subst hi2
      have hE : (tb.take tb.length).filter (ncc c) = tb.erase c := by
        rw [List.take_length, hnd.erase_eq_filter]
        apply List.filter_congr
        intro d _
        by_cases q : d = c <;> simp [q, ncc]
      obtain ⟨r1, r3, r4, r5, r6, r7, r8, -, r10, r11, r12, r13, r14, r15⟩ := hR
      obtain ⟨t1, t2, t3, t4⟩ := hT
      rw [hE] at t3 e2
      refine ⟨?_, ?_⟩
      · refine RepG.mv (g := g) (tb := tb.erase c) ?_ hc
        refine ⟨by simpa [up, t1] using r1, by simpa [up, t1] using r3, by simpa [up, t1] using r4, fun d hd => ?_, fun j hj => ?_, by simpa [up, t1] using r7, by simpa [up, t1] using r8, by simp [up, e2], by simpa [up, t1] using r10, by simpa [up, t1] using r11, by simpa [up, t1] using r12, by simpa [up, t1] using r13, by simpa [up, t1] using r14, by simpa [up, t1] using r15⟩
        · simpa [up, t1] using r5 d (List.mem_of_mem_erase hd)
        · simpa [up] using t3 j hj
      · refine Off.trans (M1 := M1) (fun q hq => ⟨t1 q (fun z => hq (z ▸ blkj 5 (by decide))), by rw [t2]⟩) ((Off.up blk0).trans mvF_off)
    · refine u_aload_n (pc := 12) C d_G_takeOff_12 rfl ?_
      refine u_getr (pc := 13) (r := (gp k + 5)) C d_G_takeOff_13 fw_G_24 (shG0 hk) rfl (rf_G_5 hk) ?_
      refine u_iload_n (pc := 16) C d_G_takeOff_16 rfl ?_
      refine u_callSi (pc := 17) C d_G_takeOff_17 mx_L_at mw_G_81 (c_L_at (shG5 hk)) rfl rfl (Nat.le_of_ble_eq_true rfl) (fun r17 M17 q17 => ?_)
      obtain ⟨e17, q17⟩ := q17
      have q17 := q17.symm
      subst q17
      refine u_istore (pc := 20) C d_G_takeOff_20 rfl (fun x20 e20 L9 hL9 => ?_)
      obtain rfl : L9 = [some (.ref (gp k)), some (.int (nI c)), some (.int x2), some (.int (nI i)), some (.int x20)] := hL9.symm
      refine u_iload (pc := 22) C d_G_takeOff_22 rfl ?_
      refine u_iload_n (pc := 24) C d_G_takeOff_24 rfl ?_
      refine u_icmp_eq (pc := 25) (tgt := 41) C d_G_takeOff_25 rfl (fun c25 => ?_) (fun c25 => ?_)
      · refine u_iinc (pc := 41) (v2 := 1) C d_G_takeOff_41 rfl rfl (by decide) (fun x41 e41 L9 hL9 => ?_)
        obtain rfl : L9 = [some (.ref (gp k)), some (.int (nI c)), some (.int x2), some (.int x41), some (.int x20)] := hL9.symm
        refine u_goto (pc := 44) (tgt := 4) C d_G_takeOff_44 rfl ?_
        have hlt : i < tb.length := by rw [hM8, r9, hin] at c9; omega
        rw [atF_in (by omega) (by decide), hT.2.2.2 i (Nat.le_refl _) hlt] at e17
        subst e20
        obtain rfl : x41 = nI (i + 1) := by rw [e41, nI_succ]
        refine u_drop 4 rfl ?_
        have hcc : tb.getD i 0 = c := by
          have hb : tb.getD i 0 < 2 ^ 31 := by
            have := hb (tb.getD i 0) (by rw [List.getD_eq_getElem?_getD, List.getElem?_eq_getElem hlt]; exact List.getElem_mem hlt)
            omega
          exact (nI_eq hb (by omega)).mp (by rw [← e17]; exact c25)
        obtain ⟨g1, g2⟩ := hT.step hlt hcc
        exact ih (i + 1) _ _ (by omega) (by omega) g1 (by rw [e2, g2])
      · refine u_aload_n (pc := 28) C d_G_takeOff_28 rfl ?_
        refine u_getr (pc := 29) (r := (gp k + 5)) C d_G_takeOff_29 fw_G_24 (shG0 hk) rfl (rf_G_5 hk) ?_
        refine u_iload_n (pc := 32) C d_G_takeOff_32 rfl ?_
        refine u_iload (pc := 33) C d_G_takeOff_33 rfl ?_
        refine u_callSv (pc := 35) C d_G_takeOff_35 mx_L_put mw_G_69 (c_L_put (shG5 hk)) rfl rfl (Nat.le_of_ble_eq_true rfl) (fun M35 q35 => ?_)
        have q35 := q35.symm
        subst q35
        refine u_iinc (pc := 38) (v2 := 1) C d_G_takeOff_38 rfl rfl (by decide) (fun x38 e38 L9 hL9 => ?_)
        obtain rfl : L9 = [some (.ref (gp k)), some (.int (nI c)), some (.int x38), some (.int (nI i)), some (.int x20)] := hL9.symm
        refine u_iinc (pc := 41) (v2 := 1) C d_G_takeOff_41 rfl rfl (by decide) (fun x41 e41 L9 hL9 => ?_)
        obtain rfl : L9 = [some (.ref (gp k)), some (.int (nI c)), some (.int x38), some (.int x41), some (.int x20)] := hL9.symm
        refine u_goto (pc := 44) (tgt := 4) C d_G_takeOff_44 rfl ?_
        have hlt : i < tb.length := by rw [hM8, r9, hin] at c9; omega
        rw [atF_in (by omega) (by decide), hT.2.2.2 i (Nat.le_refl _) hlt] at e17
        subst e20
        obtain rfl : x41 = nI (i + 1) := by rw [e41, nI_succ]
        refine u_drop 4 rfl ?_
        obtain ⟨g1, g2⟩ := hT.keep hlt (fun q => c25 (by rw [e17, q]))
        rw [e2, e17, putF_in (by omega) (by decide)]
        exact ih (i + 1) _ _ (by omega) (by omega) g1 (by rw [e38, e2, g2, nI_succ])
set_option maxRecDepth 20000 in
theorem c_G_takeOff {k n m : Nat} {g : Gm} {tb : List Nat} {M : Mem} (hk : k < 6) {c : Nat} (hR : RepG M k n g tb m) (ht : tb.length ≤ 24) (hnd : tb.Nodup) (hb : ∀ d, d ∈ tb → d < 24) (hc : c < 24) : Ct lyC y_G_takeOff b_G_takeOff 5 none 2 [.ref (gp k), .int (nI c)] M (Pv fun M' => RepG M' k n (put4 g c) (tb.erase c) (m + 1) ∧ Off (blk k) M M') := by
  refine Ct.ofG mx_G_takeOff [some (.ref (gp k)), some (.int (nI c)), none, none, none] rfl rfl (Nat.le_of_ble_eq_true rfl) (fun κ C hQ => ?_)
  refine u_iconst (pc := 0) (v := 0) C d_G_takeOff_0 (by decide) ?_
  refine u_istore_n (pc := 1) C d_G_takeOff_1 rfl (fun x1 e1 L9 hL9 => ?_)
  obtain rfl : L9 = [some (.ref (gp k)), some (.int (nI c)), some (.int x1), none, none] := hL9.symm
  refine u_iconst (pc := 2) (v := 0) C d_G_takeOff_2 (by decide) ?_
  refine u_istore_n (pc := 3) C d_G_takeOff_3 rfl (fun x3 e3 L9 hL9 => ?_)
  obtain rfl : L9 = [some (.ref (gp k)), some (.int (nI c)), some (.int x1), some (.int x3), none] := hL9.symm
  subst e1
  obtain rfl : x3 = nI 0 := e3
  exact lp_takeOff hk C hR ht hnd hb hc hQ (tb.length + 1) 0 M 0 (by omega) (by omega) ⟨fun _ _ => rfl, rfl, fun j hj => by simp at hj, fun j _ hj => hR.2.2.2.2.1 j hj⟩ rfl
