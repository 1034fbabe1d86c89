/-! the reference: lines, deck -/
noncomputable def RT (t : List Int32) (cu : Nat) : List QD × Option Nat := rdt t 10 cu
theorem RT_bad {t : List Int32} {cu c : Nat} (h : rdl t cu = (none, c)) : RT t cu = ([], some c) := rdt_bad h
theorem RT_end {t : List Int32} {cu c : Nat} {q : QD} (h : rdl t cu = (some q, c)) (hc : t.length ≤ c) : RT t cu = ([q], none) := rdt_end h hc
theorem RT_more {t : List Int32} {cu c : Nat} {q : QD} (h120 : t.length ≤ 120) (h : rdl t cu = (some q, c)) (hc : ¬ t.length ≤ c) (h59 : t.getD c 0 = 59) : RT t cu = (q :: (RT t (c + 1)).1, (RT t (c + 1)).2) := by
  unfold RT
  rw [rdt_more (f := 9) h hc h59]
  have hq := (rdl_ok h).2
  rw [rdt_fuel h120 9 (c + 1) (by omega) (by omega)]
theorem RT_no {t : List Int32} {cu c : Nat} {q : QD} (h : rdl t cu = (some q, c)) (hc : ¬ t.length ≤ c) (h59 : ¬ t.getD c 0 = 59) : RT t cu = ([q], some c) := rdt_no h hc h59
/-- where the reading stands behind a line -/
def LSt (t : List Int32) (R : List QD × Option Nat) (L : List QD) (s : Nat × Option Nat) : Prop :=
  (∀ x, s.2 = some x → R.2 = some x) ∧ (s.2 = none → (t.length ≤ s.1 → R = (L, none)) ∧ (¬ t.length ≤ s.1 → t.getD s.1 0 = 59 → R = (L ++ (RT t (s.1 + 1)).1, (RT t (s.1 + 1)).2)) ∧ (¬ t.length ≤ s.1 → ¬ t.getD s.1 0 = 59 → R = (L, some s.1)))
theorem LSt.line {t : List Int32} {cu : Nat} {R : List QD × Option Nat} {L : List QD} (h120 : t.length ≤ 120) (hb : byt t) (hR : R = (L ++ (RT t cu).1, (RT t cu).2)) :
    (∃ x, (za t cu).2.2 = some x ∧ R.2 = some x) ∨ ∃ q c, rdl t cu = (some q, c) ∧ (za t cu).2 = (c, none) ∧ LSt t R (L ++ [q]) (c, none) := by
  obtain ⟨l1, l2⟩ := lin_rdl (cu := cu) hb
  rcases hr : rdl t cu with ⟨o, c⟩
  cases o with
  | none =>
    refine Or.inl ⟨c, l1 c hr, ?_⟩
    rw [hR, RT_bad hr]
  | some q =>
    refine Or.inr ⟨q, c, rfl, (l2 q c hr).1, fun x hx => (by cases hx), fun _ => ⟨fun hc => ?_, fun hc h59 => ?_, fun hc h59 => ?_⟩⟩
    · rw [hR, RT_end hr hc]
    · rw [hR, RT_more h120 hr hc h59, List.append_assoc]; rfl
    · rw [hR, RT_no hr hc h59]
theorem TSt.sf0 {M M' : Mem} {t : List Int32} {s : Nat × Option Nat} (h : TSt M t s) (ho : OfR adR M M') : TSt M' t s := by
  obtain ⟨⟨⟨a1, a2, a3⟩, a4, a5⟩, a6, a7⟩ := h
  have k0 : ∀ j, j ≠ 5 → M'.1 0 j = M.1 0 j := fun j hj => ho 0 j (fun z => by unfold adR at z; omega)
  exact ⟨⟨⟨a1, by rw [k0 20 (by decide)]; exact a2, fun i hi => by rw [ho 220 i (fun z => by unfold adR at z; omega)]; exact a3 i hi⟩, by rw [k0 33 (by decide)]; exact a4, a5⟩, by rw [k0 34 (by decide)]; exact a6, a7⟩
theorem InvR.sf {M M' : Mem} {σ : St} (h : InvR M σ) (ho : OfR sfR M M') : InvR M' σ := by
  obtain ⟨h1, h2, ⟨h3, h4, h5, h6⟩, h7, h8, h9, h10⟩ := h
  have k0 : ∀ j, j ≠ 33 → j ≠ 34 → M'.1 0 j = M.1 0 j := fun j a b => ho 0 j (fun z => by unfold sfR at z; omega)
  have kp : ∀ p, p ≠ 0 → ∀ j, M'.1 p j = M.1 p j := fun p hp j => ho p j (fun z => hp z.1)
  have kf : ∀ p, p ≠ 0 → M'.1 p = M.1 p := fun p hp => funext (fun j => kp p hp j)
  refine ⟨h1.of ho (fun p j _ _ z => by unfold sfR at z; omega) (fun z => by unfold sfR at z; omega) (fun j z => by unfold sfR at z; omega), ?_, ⟨h3, by rw [k0 20 (by decide) (by decide)]; exact h4, fun i hi => by rw [kp 220 (by decide)]; exact h5 i hi, h6⟩, fun q hq => ?_, ?_, h9.of ho (fun z => by unfold sfR at z; omega) (fun z => by unfold sfR at z; omega) (fun i z => by unfold sfR at z; omega) (fun i z => by unfold sfR at z; omega), by rw [k0 32 (by decide) (by decide)]; exact h10⟩
  · rw [k0 9 (by decide) (by decide), kf 14 (by decide)]; exact h2
  · rw [kf 221 (by decide)]; exact h7 q hq
  · rw [k0 25 (by decide) (by decide), k0 26 (by decide) (by decide), k0 27 (by decide) (by decide)]; exact h8
theorem qok_vw {q : QD} (hq : qok q) {v w : Int32} (hv : ∃ x, x < 4 ∧ v = nI x) (hw : ∃ x, x < 4 ∧ w = nI x) (e : q.2.2.1 = 10 * v + w) : q.2.2.1 / 10 = v ∧ remF q.2.2.1 10 = w := by
  obtain ⟨a, ha, rfl⟩ := hv
  obtain ⟨b, hb, rfl⟩ := hw
  have e2 : q.2.2.1 = nI (10 * a + b) := by rw [e, show (10 : Int32) = nI 10 from rfl, pk_mul, nI_add]
  rw [e2]
  refine ⟨?_, ?_⟩
  · rw [show (10 : Int32) = nI 10 from rfl, pk_div (by omega) (by decide) (by decide)]
    exact congrArg nI (by omega)
  · unfold remF
    rw [show (10 : Int32) = nI 10 from rfl, pk_rem (by omega) (by decide) (by decide)]
    exact congrArg nI (by omega)
/-- a line that has become a card -/
theorem InvR.ln {M M' : Mem} {σ : St} {cu c : Nat} {q : QD} {t : List Int32} (hI : InvR M σ) (hb : byt t) (hn : σ.1.2.1 < 24) (hr : rdl t cu = (some q, c)) (ho : OfR sfaR M M')
    (hcd : CDm M' (cdU σ.1.1 σ.1.2.1 (zw t cu).1 (zp t cu).1 (zv t cu).1 (zx t cu).1 (if zl t cu = true then -((za t cu).1 - 48) else (za t cu).1 - 48))) (h5 : M'.1 0 5 = nI (σ.1.2.1 + 1)) (h6 : M'.1 6 = upd (upd (M.1 6) (71 + σ.1.2.1) 0) (95 + σ.1.2.1) 0) : InvR M' (stC σ q) := by
  obtain ⟨l0, l1, l2, l3, ⟨l4, l5⟩, l6⟩ := (lin_rdl (cu := cu) hb).2 q c hr
  have hqo := (rdl_ok hr).1
  obtain ⟨v1, v2⟩ := qok_vw hqo l4 l5 l3
  rw [l1, l2, ← v1, ← v2, ← l6] at hcd
  have o1 : OfR sfR M (up (up M 0 33 (M'.1 0 33)) 0 34 (M'.1 0 34)) := (sf_up (Or.inl rfl)).trans (sf_up (Or.inr rfl))
  have hI1 := hI.sf o1
  have o2 : OfR (fun p j => (1 ≤ p ∧ p ≤ 5) ∨ p = 6 ∨ (p = 0 ∧ j = 5)) (up (up M 0 33 (M'.1 0 33)) 0 34 (M'.1 0 34)) M' := by
    intro p j hp
    by_cases e1 : p = 0 ∧ j = 34
    · rw [e1.1, e1.2, up_row, pk_us]
    · rw [up_o e1]
      by_cases e2 : p = 0 ∧ j = 33
      · rw [e2.1, e2.2, up_row, pk_us]
      · rw [up_o e2]
        exact ho p j (fun z => by unfold sfaR sfR adR at z; omega)
  have hnt : σ.1.2.1 ∉ σ.1.2.2.2 := fun z => by have := (hI.1.tbm.mp z).1; omega
  refine hI1.add o2 hn (qok_wf hI.1.1.1.2 hqo) h5 ?_ hcd
  rw [h6]
  exact hI.1.2.2.2.add hn hnt
set_option maxRecDepth 20000 in
theorem lp_linesF {κ : KX} {t : List Int32} {R : List QD × Option Nat} {M0 M : Mem} {x : Nat} (hf : M.1 0 34 = nI x) (hx : x ≤ t.length) (hR : R.2 = some x) (h120 : t.length ≤ 120) (ho : OfR sfR M0 M) (C : Cx κ lyR y_M_lines.cls b_M_lines 3 (some .int) 7) (hQ : ∀ v M', Pi (fun r M' => ((R.2 = none ∧ r = nI R.1.length ∧ M'.1 0 34 = -1) ∨ ∃ x, x ≤ t.length ∧ R.2 = some x ∧ M'.1 0 34 = nI x) ∧ OfR sfR M0 M') v M' → KQ κ v M') : ∀ y : Int32, G κ lyR 17 [some (.ref 0), some (.int 0), some (.int y)] [] M := by
  intro y
  refine u_aload_n (pc := 17) C d_M_lines_17 rfl ?_
  refine u_geti (pc := 18) C d_M_lines_18 fw_M_116 sR_0 rfl ?_
  refine u_if_ge (pc := 21) (tgt := 62) C d_M_lines_21 rfl (fun c21 => ?_) (fun c21 => ?_)
  · refine u_iload_n (pc := 62) C d_M_lines_62 rfl ?_
    refine u_iret (pc := 63) C d_M_lines_63 (hQ _ _ ⟨_, rfl, ?_⟩)
    exact ⟨Or.inr ⟨x, hx, hR, hf⟩, ho⟩
  · exact absurd (show (0 : Int32) ≤ M.1 0 34 by rw [hf]; exact nI_pos' (n := x) (by omega)) c21
set_option maxRecDepth 20000 in
theorem lp_lines0 {κ : KX} {t : List Int32} {R : List QD × Option Nat} {M0 : Mem} (hb : byt t) (C : Cx κ lyR y_M_lines.cls b_M_lines 3 (some .int) 7) (hQ : ∀ v M', Pi (fun r M' => ((R.2 = none ∧ r = nI R.1.length ∧ M'.1 0 34 = -1) ∨ ∃ x, x ≤ t.length ∧ R.2 = some x ∧ M'.1 0 34 = nI x) ∧ OfR sfR M0 M') v M' → KQ κ v M') : ∀ (f : Nat) (s : Nat × Option Nat) (L : List QD) (M : Mem), (if s.2 = none then t.length + 2 - s.1 else 0) < f → L.length ≤ s.1 → TSt M t s → OfR sfR M0 M → LSt t R L s → G κ lyR 17 [some (.ref 0), some (.int 0), some (.int (nI L.length))] [] M := by
  intro f
  induction f with
  | zero => intro s L M h; omega
  | succ f ih =>
    intro s L M hf hll hS hI hst
    have h120 := hS.1.1.1
    have hsp : M.1 0 33 = nI s.1 := hS.1.2.1
    have hft : M.1 0 34 = ftM s.2 := hS.2.1
    have hle : nI t.length ≤ nI s.1 ↔ t.length ≤ s.1 := nI_leI (by omega) (by have := hS.1.2.2; omega)
    refine u_aload_n (pc := 17) C d_M_lines_17 rfl ?_
    refine u_geti (pc := 18) C d_M_lines_18 fw_M_116 sR_0 rfl ?_
    refine u_if_ge (pc := 21) (tgt := 62) C d_M_lines_21 rfl (fun c21 => ?_) (fun c21 => ?_)
    · refine u_iload_n (pc := 62) C d_M_lines_62 rfl ?_
      refine u_iret (pc := 63) C d_M_lines_63 (hQ _ _ ⟨_, rfl, ?_⟩)
      rw [hft] at c21
      obtain ⟨x, hx⟩ := ft_some (Int32.not_lt.mpr c21)
      exact ⟨Or.inr ⟨x, hS.2.2 x hx, hst.1 x hx, by rw [hft, hx]; rfl⟩, hI⟩
    · rw [hft] at c21
      have hno := ft_none h120 hS.2.2 (Int32.not_le.mp c21)
      rw [if_pos hno] at hf
      obtain ⟨st1, st2, st3⟩ := hst.2 hno
      refine u_aload_n (pc := 24) C d_M_lines_24 rfl ?_
      refine u_geti (pc := 25) C d_M_lines_25 fw_M_113 sR_0 rfl ?_
      refine u_aload_n (pc := 28) C d_M_lines_28 rfl ?_
      refine u_geti (pc := 29) C d_M_lines_29 fw_M_81 sR_0 rfl ?_
      refine u_icmp_ge (pc := 32) (tgt := 62) C d_M_lines_32 rfl (fun c32 => ?_) (fun c32 => ?_)
      · refine u_iload_n (pc := 62) C d_M_lines_62 rfl ?_
        refine u_iret (pc := 63) C d_M_lines_63 (hQ _ _ ⟨_, rfl, ?_⟩)
        rw [hsp, hS.1.1.2.1, hle] at c32
        have hRe := st1 c32
        exact ⟨Or.inl ⟨by rw [hRe], by rw [hRe], by rw [hft, hno]; rfl⟩, hI⟩
      · rw [hsp, hS.1.1.2.1, hle] at c32
        refine u_aload_n (pc := 35) C d_M_lines_35 rfl ?_
        refine u_bipush (pc := 36) (v := 59) C d_M_lines_36 (by decide) ?_
        refine u_bipush (pc := 38) (v := 59) C d_M_lines_38 (by decide) ?_
        refine u_callVi (pc := 40) C d_M_lines_40 mx_M_must mw_M_141 sR_0 rfl (c_M_must hS) rfl rfl (Nat.le_of_ble_eq_true rfl) (fun r40 M40 q40 => ?_)
        obtain ⟨e40, hS4, o4⟩ := q40
        refine u_pop (pc := 43) C d_M_lines_43 rfl ?_
        have o44 := hI.trans o4
        have hft4 : M40.1 0 34 = ftM (mst t 59 59 s).2.2 := hS4.2.1
        refine u_aload_n (pc := 44) C d_M_lines_44 rfl ?_
        refine u_geti (pc := 45) C d_M_lines_45 fw_M_116 sR_0 rfl ?_
        refine u_if_ge (pc := 48) (tgt := 17) C d_M_lines_48 rfl (fun c48 => ?_) (fun c48 => ?_)
        · rw [hft4] at c48
          have hn59 : ¬ t.getD s.1 0 = 59 := fun q => by
            rw [mst_y hno (sk_ses.mp ⟨by omega, q⟩)] at c48
            exact absurd c48 (show ¬ (0 : Int32) ≤ -1 by decide)
          have hms := mst_n (t := t) (a := 59) (b := 59) hno (fun z => hn59 (sk_ses.mpr z).2)
          rw [hms] at hS4
          refine ih (s.1, some s.1) L M40 (by rw [if_neg (by simp)]; omega) hll hS4 o44 ⟨fun x hx => ?_, fun hx => by cases hx⟩
          rw [st3 c32 hn59]
          exact hx
        · rw [hft4] at c48
          have h59 : t.getD s.1 0 = 59 := by
            rcases Classical.em (t.getD s.1 0 = 59) with q | q
            · exact q
            · rw [mst_n hno (fun z => q (sk_ses.mpr z).2)] at c48
              exact absurd (nI_pos' (n := s.1) (by omega)) c48
          have hms := mst_y (t := t) (a := 59) (b := 59) hno (sk_ses.mp ⟨by omega, h59⟩)
          rw [hms] at hS4
          have hS5 : TSt M40 t (s.1 + 1, none) := hS4
          have hRm := st2 c32 h59
          have hcase := LSt.line (cu := s.1 + 1) h120 hb hRm
          refine u_aload_n (pc := 51) C d_M_lines_51 rfl ?_
          refine u_iload_n (pc := 52) C d_M_lines_52 rfl ?_
          refine u_callVv (pc := 53) C d_M_lines_53 mx_M_line mw_M_152 sR_0 rfl (c_M_line0 hS5) rfl rfl (Nat.le_of_ble_eq_true rfl) (fun M53 q53 => ?_)
          obtain ⟨hS6, o6⟩ := q53
          refine u_iinc (pc := 56) (v2 := 1) C d_M_lines_56 rfl rfl (by decide) (fun x56 e56 L9 hL9 => ?_)
          obtain rfl : L9 = [some (.ref 0), some (.int 0), some (.int x56)] := hL9.symm
          refine u_goto (pc := 59) (tgt := 17) C d_M_lines_59 rfl ?_
          obtain rfl : x56 = nI (L.length + 1) := by rw [e56, nI_succ]
          rcases hcase with ⟨x, hz, hx⟩ | ⟨q, c, hr, hz, hst9⟩
          · exact lp_linesF (x := x) (by rw [hS6.2.1, hz]; rfl) (hS6.2.2 x hz) hx h120 (o44.trans o6) C hQ _
          · have hco := (rdl_ok hr).2
            rw [hz] at hS6
            have hlq : nI (L.length + 1) = nI (L ++ [q]).length := by simp
            rw [hlq]
            exact ih (c, none) (L ++ [q]) M53 (by rw [if_pos rfl]; simp only []; omega) (by simp; omega) hS6 (o44.trans o6) hst9
set_option maxRecDepth 20000 in
theorem lp_lines1 {κ : KX} {t : List Int32} {R : List QD × Option Nat} (hb : byt t) {σ : St} (hroom : σ.1.2.1 + R.1.length ≤ 24) (hgood : R.2 = none) (C : Cx κ lyR y_M_lines.cls b_M_lines 3 (some .int) 7) (hQ : ∀ v M', Pi (fun r M' => InvR M' (R.1.foldl stC σ)) v M' → KQ κ v M') : ∀ (f : Nat) (s : Nat × Option Nat) (L : List QD) (M : Mem), (if s.2 = none then t.length + 2 - s.1 else 0) < f → L.length ≤ s.1 → TSt M t s → InvR M (L.foldl stC σ) → LSt t R L s → G κ lyR 17 [some (.ref 0), some (.int 1), some (.int (nI L.length))] [] M := by
  intro f
  induction f with
  | zero => intro s L M h; omega
  | succ f ih =>
    intro s L M hf hll hS hI hst
    have h120 := hS.1.1.1
    have hsp : M.1 0 33 = nI s.1 := hS.1.2.1
    have hft : M.1 0 34 = ftM s.2 := hS.2.1
    have hle : nI t.length ≤ nI s.1 ↔ t.length ≤ s.1 := nI_leI (by omega) (by have := hS.1.2.2; omega)
    refine u_aload_n (pc := 17) C d_M_lines_17 rfl ?_
    refine u_geti (pc := 18) C d_M_lines_18 fw_M_116 sR_0 rfl ?_
    refine u_if_ge (pc := 21) (tgt := 62) C d_M_lines_21 rfl (fun c21 => ?_) (fun c21 => ?_)
    · refine u_iload_n (pc := 62) C d_M_lines_62 rfl ?_
      refine u_iret (pc := 63) C d_M_lines_63 (hQ _ _ ⟨_, rfl, ?_⟩)
      rw [hft] at c21
      obtain ⟨x, hx⟩ := ft_some (Int32.not_lt.mpr c21)
      have h9 := hst.1 x hx
      rw [hgood] at h9
      cases h9
    · rw [hft] at c21
      have hno := ft_none h120 hS.2.2 (Int32.not_le.mp c21)
      rw [if_pos hno] at hf
      obtain ⟨st1, st2, st3⟩ := hst.2 hno
      refine u_aload_n (pc := 24) C d_M_lines_24 rfl ?_
      refine u_geti (pc := 25) C d_M_lines_25 fw_M_113 sR_0 rfl ?_
      refine u_aload_n (pc := 28) C d_M_lines_28 rfl ?_
      refine u_geti (pc := 29) C d_M_lines_29 fw_M_81 sR_0 rfl ?_
      refine u_icmp_ge (pc := 32) (tgt := 62) C d_M_lines_32 rfl (fun c32 => ?_) (fun c32 => ?_)
      · refine u_iload_n (pc := 62) C d_M_lines_62 rfl ?_
        refine u_iret (pc := 63) C d_M_lines_63 (hQ _ _ ⟨_, rfl, ?_⟩)
        rw [hsp, hS.1.1.2.1, hle] at c32
        have hRe := st1 c32
        rw [hRe]
        exact hI
      · rw [hsp, hS.1.1.2.1, hle] at c32
        refine u_aload_n (pc := 35) C d_M_lines_35 rfl ?_
        refine u_bipush (pc := 36) (v := 59) C d_M_lines_36 (by decide) ?_
        refine u_bipush (pc := 38) (v := 59) C d_M_lines_38 (by decide) ?_
        refine u_callVi (pc := 40) C d_M_lines_40 mx_M_must mw_M_141 sR_0 rfl (c_M_must hS) rfl rfl (Nat.le_of_ble_eq_true rfl) (fun r40 M40 q40 => ?_)
        obtain ⟨e40, hS4, o4⟩ := q40
        refine u_pop (pc := 43) C d_M_lines_43 rfl ?_
        have hI4 := hI.sf o4
        have hft4 : M40.1 0 34 = ftM (mst t 59 59 s).2.2 := hS4.2.1
        refine u_aload_n (pc := 44) C d_M_lines_44 rfl ?_
        refine u_geti (pc := 45) C d_M_lines_45 fw_M_116 sR_0 rfl ?_
        refine u_if_ge (pc := 48) (tgt := 17) C d_M_lines_48 rfl (fun c48 => ?_) (fun c48 => ?_)
        · rw [hft4] at c48
          have hn59 : ¬ t.getD s.1 0 = 59 := fun q => by
            rw [mst_y hno (sk_ses.mp ⟨by omega, q⟩)] at c48
            exact absurd c48 (show ¬ (0 : Int32) ≤ -1 by decide)
          have hms := mst_n (t := t) (a := 59) (b := 59) hno (fun z => hn59 (sk_ses.mpr z).2)
          rw [hms] at hS4
          refine ih (s.1, some s.1) L M40 (by rw [if_neg (by simp)]; omega) hll hS4 hI4 ⟨fun x hx => ?_, fun hx => by cases hx⟩
          rw [st3 c32 hn59]
          exact hx
        · rw [hft4] at c48
          have h59 : t.getD s.1 0 = 59 := by
            rcases Classical.em (t.getD s.1 0 = 59) with q | q
            · exact q
            · rw [mst_n hno (fun z => q (sk_ses.mpr z).2)] at c48
              exact absurd (nI_pos' (n := s.1) (by omega)) c48
          have hms := mst_y (t := t) (a := 59) (b := 59) hno (sk_ses.mp ⟨by omega, h59⟩)
          rw [hms] at hS4
          have hS5 : TSt M40 t (s.1 + 1, none) := hS4
          have hRm := st2 c32 h59
          have hcase := LSt.line (cu := s.1 + 1) h120 hb hRm
          have hlen9 : L.length + (RT t (s.1 + 1)).1.length = R.1.length := by rw [hRm, List.length_append]
          obtain ⟨q, c, hr, hz, hst9⟩ := hcase.resolve_left (fun ⟨x, _, hx⟩ => by rw [hgood] at hx; cases hx)
          have hRpos : 1 ≤ (RT t (s.1 + 1)).1.length := by
            by_cases hc : t.length ≤ c
            · rw [RT_end hr hc]; simp
            · by_cases h5 : t.getD c 0 = 59
              · rw [RT_more h120 hr hc h5]; simp
              · rw [RT_no hr hc h5]; simp
          have hstn := stc_n (σ := σ) L
          have hn24 : (L.foldl stC σ).1.2.1 < 24 := by omega
          refine u_aload_n (pc := 51) C d_M_lines_51 rfl ?_
          refine u_iload_n (pc := 52) C d_M_lines_52 rfl ?_
          refine u_callVv (pc := 53) C d_M_lines_53 mx_M_line mw_M_152 sR_0 rfl (c_M_line1 hS5 hI4.1.2.1 hI4.1.2.2.1 hn24) rfl rfl (Nat.le_of_ble_eq_true rfl) (fun M53 q53 => ?_)
          obtain ⟨hS6, hcd6, h56, h66, o6⟩ := q53
          refine u_iinc (pc := 56) (v2 := 1) C d_M_lines_56 rfl rfl (by decide) (fun x56 e56 L9 hL9 => ?_)
          obtain rfl : L9 = [some (.ref 0), some (.int 1), some (.int x56)] := hL9.symm
          refine u_goto (pc := 59) (tgt := 17) C d_M_lines_59 rfl ?_
          obtain rfl : x56 = nI (L.length + 1) := by rw [e56, nI_succ]
          have hco := (rdl_ok hr).2
          rw [hz] at hS6
          have hlq : nI (L.length + 1) = nI (L ++ [q]).length := by simp
          rw [hlq]
          refine ih (c, none) (L ++ [q]) M53 (by rw [if_pos rfl]; simp only []; omega) (by simp; omega) hS6 ?_ hst9
          rw [List.foldl_append]
          exact hI4.ln hb hn24 hr o6 hcd6 h56 h66
set_option maxRecDepth 20000 in
theorem c_M_lines0 {t : List Int32} {M : Mem} (hb : byt t) (hT : t.length ≤ 120 ∧ M.1 0 20 = nI t.length ∧ ∀ i, i < t.length → M.1 220 i = t.getD i 0) : Ct lyR y_M_lines b_M_lines 3 (some .int) 7 [.ref 0, .int 0] M (Pi fun r M' => (((RT t 0).2 = none ∧ r = nI (RT t 0).1.length ∧ M'.1 0 34 = -1) ∨ ∃ x, x ≤ t.length ∧ (RT t 0).2 = some x ∧ M'.1 0 34 = nI x) ∧ OfR sfR M M') := by
  refine Ct.ofG mx_M_lines [some (.ref 0), some (.int 0), none] rfl rfl (Nat.le_of_ble_eq_true rfl) (fun κ C hQ => ?_)
  refine u_aload_n (pc := 0) C d_M_lines_0 rfl ?_
  refine u_iconst (pc := 1) (v := 0) C d_M_lines_1 (by decide) ?_
  refine u_put (pc := 2) C d_M_lines_2 fw_M_113 sR_0 rfl (Or.inl rfl) ?_
  refine u_aload_n (pc := 5) C d_M_lines_5 rfl ?_
  refine u_iconst (pc := 6) (v := (-1)) C d_M_lines_6 (by decide) ?_
  refine u_put (pc := 7) C d_M_lines_7 fw_M_116 sR_0 rfl (Or.inl rfl) ?_
  refine u_iconst (pc := 10) (v := 1) C d_M_lines_10 (by decide) ?_
  refine u_istore_n (pc := 11) C d_M_lines_11 rfl (fun x11 e11 L9 hL9 => ?_)
  obtain rfl : L9 = [some (.ref 0), some (.int 0), some (.int x11)] := hL9.symm
  refine u_gmem (fun M5 e5 => ?_)
  have o5 : OfR sfR M M5 := by rw [e5]; exact (sf_up (Or.inl rfl)).trans (sf_up (Or.inr rfl))
  have hS5 : TSt M5 t (0, none) := by
    rw [e5]
    exact ⟨⟨⟨hT.1, by rw [up_j (by decide), up_j (by decide)]; exact hT.2.1, fun i hi => by rw [up_ne (by decide), up_ne (by decide)]; exact hT.2.2 i hi⟩, by rw [up_j (by decide), up_row, pk_us]; rfl, Nat.zero_le _⟩, by rw [up_row, pk_us]; rfl, fun x hx => (by cases hx)⟩
  clear e5
  refine u_aload_n (pc := 12) C d_M_lines_12 rfl ?_
  refine u_iload_n (pc := 13) C d_M_lines_13 rfl ?_
  refine u_callVv (pc := 14) C d_M_lines_14 mx_M_line mw_M_152 sR_0 rfl (c_M_line0 hS5) rfl rfl (Nat.le_of_ble_eq_true rfl) (fun M14 q14 => ?_)
  obtain ⟨hS6, o6⟩ := q14
  subst e11
  rcases LSt.line (R := RT t 0) (L := []) (cu := 0) hT.1 hb rfl with ⟨x, hz, hx⟩ | ⟨q, c, hr, hz, hst9⟩
  · exact lp_linesF (x := x) (by rw [hS6.2.1, hz]; rfl) (hS6.2.2 x hz) hx hT.1 (o5.trans o6) C hQ _
  · have hco := (rdl_ok hr).2
    rw [hz] at hS6
    exact lp_lines0 hb C hQ _ (c, none) [q] M14 (Nat.lt_succ_self _) (by simp; omega) hS6 (o5.trans o6) hst9
set_option maxRecDepth 20000 in
theorem c_M_lines1 {M : Mem} {σ : St} (hI : InvR M σ) (hroom : σ.1.2.1 + (RT σ.2.2.1 0).1.length ≤ 24) (hgood : (RT σ.2.2.1 0).2 = none) : Ct lyR y_M_lines b_M_lines 3 (some .int) 7 [.ref 0, .int 1] M (Pi fun r M' => InvR M' ((RT σ.2.2.1 0).1.foldl stC σ)) := by
  have hT := hI.2.2.1
  have hb : byt σ.2.2.1 := hT.2.2.2
  refine Ct.ofG mx_M_lines [some (.ref 0), some (.int 1), none] rfl rfl (Nat.le_of_ble_eq_true rfl) (fun κ C hQ => ?_)
  refine u_aload_n (pc := 0) C d_M_lines_0 rfl ?_
  refine u_iconst (pc := 1) (v := 0) C d_M_lines_1 (by decide) ?_
  refine u_put (pc := 2) C d_M_lines_2 fw_M_113 sR_0 rfl (Or.inl rfl) ?_
  refine u_aload_n (pc := 5) C d_M_lines_5 rfl ?_
  refine u_iconst (pc := 6) (v := (-1)) C d_M_lines_6 (by decide) ?_
  refine u_put (pc := 7) C d_M_lines_7 fw_M_116 sR_0 rfl (Or.inl rfl) ?_
  refine u_iconst (pc := 10) (v := 1) C d_M_lines_10 (by decide) ?_
  refine u_istore_n (pc := 11) C d_M_lines_11 rfl (fun x11 e11 L9 hL9 => ?_)
  obtain rfl : L9 = [some (.ref 0), some (.int 1), some (.int x11)] := hL9.symm
  refine u_gmem (fun M5 e5 => ?_)
  have o5 : OfR sfR M M5 := by rw [e5]; exact (sf_up (Or.inl rfl)).trans (sf_up (Or.inr rfl))
  have hS5 : TSt M5 σ.2.2.1 (0, none) := by
    rw [e5]
    exact ⟨⟨⟨hT.1, by rw [up_j (by decide), up_j (by decide)]; exact hT.2.1, fun i hi => by rw [up_ne (by decide), up_ne (by decide)]; exact hT.2.2.1 i hi⟩, by rw [up_j (by decide), up_row, pk_us]; rfl, Nat.zero_le _⟩, by rw [up_row, pk_us]; rfl, fun x hx => (by cases hx)⟩
  clear e5
  have hI5 := hI.sf o5
  obtain ⟨q, c, hr, hz, hst9⟩ := (LSt.line (R := RT σ.2.2.1 0) (L := []) (cu := 0) hT.1 hb rfl).resolve_left (fun ⟨x, _, hx⟩ => by rw [hgood] at hx; cases hx)
  have hRpos : 1 ≤ (RT σ.2.2.1 0).1.length := by
    by_cases hc : σ.2.2.1.length ≤ c
    · rw [RT_end hr hc]; simp
    · by_cases h5 : σ.2.2.1.getD c 0 = 59
      · rw [RT_more hT.1 hr hc h5]; simp
      · rw [RT_no hr hc h5]; simp
  have hn24 : σ.1.2.1 < 24 := by omega
  refine u_aload_n (pc := 12) C d_M_lines_12 rfl ?_
  refine u_iload_n (pc := 13) C d_M_lines_13 rfl ?_
  refine u_callVv (pc := 14) C d_M_lines_14 mx_M_line mw_M_152 sR_0 rfl (c_M_line1 hS5 hI5.1.2.1 hI5.1.2.2.1 hn24) rfl rfl (Nat.le_of_ble_eq_true rfl) (fun M14 q14 => ?_)
  obtain ⟨hS6, hcd6, h56, h66, o6⟩ := q14
  subst e11
  have hco := (rdl_ok hr).2
  rw [hz] at hS6
  exact lp_lines1 hb (σ := σ) hroom hgood C hQ _ (c, none) [q] M14 (Nat.lt_succ_self _) (by simp; omega) hS6 (hI5.ln hb hn24 hr o6 hcd6 h56 h66) hst9
