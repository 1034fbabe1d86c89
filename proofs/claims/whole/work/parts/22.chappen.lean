/-! events happen -/
def evok (e : Int32 × Int32 × Int32) : Prop := (∃ t, t < 3 ∧ e.1 = nI t) ∧ (e.2.1 = 0 ∨ e.2.1 = 1) ∧ ∃ a, a ≤ 99 ∧ e.2.2 = nI a
theorem within_ok (x : Int32) : ∃ a, a ≤ 99 ∧ withinF x 0 99 = nI a := by
  unfold withinF
  by_cases h1 : (0 : Int32) ≤ x
  · by_cases h2 : x ≤ 99
    · rw [if_pos h1, if_pos h2]
      exact nI_of2 (M := 99) rfl (Int32.not_lt.mpr h1) h2
    · rw [if_pos h1, if_neg h2]
      exact ⟨99, by decide, rfl⟩
  · rw [if_neg h1]
    exact ⟨0, by decide, rfl⟩
theorem rem3 {w : Nat} (h : w < 4) : ∃ t, t < 3 ∧ remF (nI w) 3 = nI t := by
  refine ⟨w % 3, Nat.mod_lt _ (by decide), ?_⟩
  exact pk_rem (a := w) (d := 3) (by omega) (by decide) (by decide)
theorem useR_ok {cd : Nat → Nat → Int32} {n c : Nat} {e : Int32 × Int32 × Int32} (hW : WFc cd n) (hc : c < n) (he : evok e) : evok (useR cd e c) := by
  obtain ⟨⟨t, ht, e1⟩, hp, a, ha, e2⟩ := he
  obtain ⟨-, -, -, ⟨w, hw, hcw⟩, -⟩ := hW c hc
  refine ⟨?_, ?_, within_ok _⟩
  · unfold useR
    by_cases q : cd 0 c = 8
    · dsimp only
      rw [if_pos q, hcw]
      exact rem3 hw
    · dsimp only
      rw [if_neg q]
      exact ⟨t, ht, e1⟩
  · unfold useR
    by_cases q : cd 0 c = 6
    · dsimp only
      rw [if_pos q]
      exact (pl01 hp).2.2
    · dsimp only
      rw [if_neg q]
      exact hp
theorem repl_ok {cd : Nat → Nat → Int32} {n : Nat} (hW : WFc cd n) : ∀ (k : Nat) (un : List Nat) (e : Int32 × Int32 × Int32), (∀ d, d ∈ un → d < n) → evok e → evok (repl cd k un e).1 := by
  intro k
  induction k with
  | zero => intro un e _ h; exact h
  | succ k ih =>
    intro un e hu h
    rw [repl]
    cases hf : un.find? (fitR cd e.1 e.2.1) with
    | none => exact h
    | some c =>
      have hm := List.mem_of_find?_eq_some hf
      exact ih (un.erase c) _ (fun d hd => hu d (List.mem_of_mem_erase hd)) (useR_ok hW (hu c hm) h)
theorem rpt_succ {α : Type} {f : α → α} : ∀ (k : Nat) (x : α), rpt f (k + 1) x = f (rpt f k x) := by
  intro k
  induction k with
  | zero => intro x; rfl
  | succ k ih => intro x; exact ih (f x)
theorem draw1_hb {cd : Nat → Nat → Int32} {n : Nat} {p : Int32} {g : Gm} (h : HB g) : HB (draw1 cd n p g) := by
  obtain ⟨hh, b1, b2⟩ := h
  refine ⟨hh, b1, ?_⟩
  unfold draw1 chg
  split
  · rw [up2_s (by decide)]; exact b2
  · rw [up2_s (by decide), up2_n (by decide)]; exact b2
theorem draw1_4 {cd : Nat → Nat → Int32} {n : Nat} {p : Int32} {g : Gm} : (draw1 cd n p g) 4 = g 4 := by
  unfold draw1 chg
  split
  · rw [up2_s (by decide)]
  · rw [up2_s (by decide), up2_s (by decide)]
theorem WFg.draw {cd : Nat → Nat → Int32} {n : Nat} {p : Int32} {g : Gm} {tb : List Nat} (h : WFg cd n g tb) : WFg cd n (draw1 cd n p g) tb := by
  unfold draw1
  split
  · exact h.chgL _ _
  · rename_i h0
    have hn := h.1.1
    have hl := atP_len (cd := cd) (n := n) (g := g) (p := p) (pl := 0)
    obtain ⟨j, hj, ej⟩ := drawn_lt (n := (atP cd n g p 0).length) (by omega) (by omega) (seedF (g 1 1))
    rw [ej, nI_clamp (by omega)]
    have hm := atP_mem.mp (getD_mem hj)
    have hs := h.seed (seedF (g 1 1))
    have h3 : (up2 g 1 1 (seedF (g 1 1))) 3 ((atP cd n g p 0).getD j 0) = 0 := by rw [up2_s (by decide)]; exact hm.2.1
    exact hs.place (p := 1) hm.1 (by rw [h3]; decide) (by decide) (by decide) (by rw [h3]; intro q; exact absurd q (by decide)) (hs.offpile hm.1 (by rw [h3]; decide))
theorem WFg.rptd {cd : Nat → Nat → Int32} {n : Nat} {p : Int32} {tb : List Nat} : ∀ (k : Nat) {g : Gm}, WFg cd n g tb → WFg cd n (rpt (draw1 cd n p) k g) tb := by
  intro k
  induction k with
  | zero => intro g h; exact h
  | succ k ih => intro g h; exact ih h.draw
/-- the shadow of a card is a thing of the pile -/
theorem shdw_ok {cd : Nat → Nat → Int32} {n c : Nat} {g : Gm} (hW : WFc cd n) (hc : c < n) : thV n g (shdw cd c) ∧ ¬ shdw cd c < 10000 := by
  obtain ⟨-, hp, -, ⟨w, hw, hcw⟩, ha⟩ := hW c hc
  obtain ⟨t, ht, e1⟩ := rem3 hw
  have hp2 : ∃ p, p < 2 ∧ (if cd 4 c &&& 1 = 1 then cd 1 c else 1 - cd 1 c) = nI p := by
    have := (pl01 hp).2.2
    split
    · rcases hp with q | q
      · exact ⟨0, by decide, q⟩
      · exact ⟨1, by decide, q⟩
    · rcases this with q | q
      · exact ⟨0, by decide, q⟩
      · exact ⟨1, by decide, q⟩
  have ha2 : ∃ a, a ≤ 99 ∧ (if cd 4 c < 0 then 0 else cd 4 c) = nI a := by
    split
    · exact ⟨0, by decide, rfl⟩
    · rename_i h
      exact nI_of2 (M := 99) rfl h (Int32.le_iff_toInt_le.mpr (by rw [show (99 : Int32).toInt = 99 from rfl]; omega))
  obtain ⟨p, hp3, e2⟩ := hp2
  obtain ⟨a, ha3, e3⟩ := ha2
  have e : shdw cd c = nI (10000 + 1000 * t + 100 * p + a) := by
    unfold shdw codeF
    rw [hcw, e1, e2, e3]
    rw [show (10000 : Int32) = nI 10000 from rfl, show (1000 : Int32) = nI 1000 from rfl, show (100 : Int32) = nI 100 from rfl, pk_mul, pk_mul, nI_add, nI_add, nI_add]
    congr 1
    omega
  refine ⟨Or.inr ⟨t, p, a, ht, hp3, ha3, e⟩, ?_⟩
  rw [e]
  exact nI_nlt (a := 10000 + 1000 * t + 100 * p + a) (b := 10000) (by omega) (by omega)
theorem WFg.echoW {cd : Nat → Nat → Int32} {n : Nat} {tb : List Nat} : ∀ (l : List Nat) {g : Gm}, (∀ d, d ∈ l → d < n) → WFg cd n g tb → WFg cd n (l.foldl (fun g c => psh g (shdw cd c)) g) tb := by
  intro l
  induction l with
  | nil => intro g _ h; exact h
  | cons a l ih =>
    intro g hl h
    obtain ⟨h1, h2⟩ := shdw_ok (g := g) h.1.2 (hl a List.mem_cons_self)
    exact ih (fun d hd => hl d (List.mem_cons_of_mem _ hd)) (h.push h1 (fun q => absurd q h2))
theorem happ_def {cd : Nat → Nat → Int32} {n : Nat} {g : Gm} {tb : List Nat} {e : Int32 × Int32 × Int32} : happ cd n tb e g = if 1 ≤ e.2.2 then echo cd tb e.1 (if e.1 = 1 then chg g e.2.1 (-e.2.2) else if e.1 = 2 then chg g e.2.1 e.2.2 else rpt (draw1 cd n e.2.1) e.2.2.toNatClampNeg g) else (if e.1 = 1 then chg g e.2.1 (-e.2.2) else if e.1 = 2 then chg g e.2.1 e.2.2 else rpt (draw1 cd n e.2.1) e.2.2.toNatClampNeg g) := rfl
theorem WFg.happ {cd : Nat → Nat → Int32} {n : Nat} {g : Gm} {tb : List Nat} {e : Int32 × Int32 × Int32} (h : WFg cd n g tb) : WFg cd n (happ cd n tb e g) tb := by
  have hbn := h.tl.2.1
  have h1 : WFg cd n (if e.1 = 1 then chg g e.2.1 (-e.2.2) else if e.1 = 2 then chg g e.2.1 e.2.2 else rpt (draw1 cd n e.2.1) e.2.2.toNatClampNeg g) tb := by
    split
    · exact h.chgL _ _
    · split
      · exact h.chgL _ _
      · exact h.rptd _
  rw [happ_def]
  split
  · exact WFg.echoW _ (fun d hd => hbn d (List.mem_filter.mp hd).1) h1
  · exact h1
def HpS (k b p : Nat) : Prop := blk k p ∨ lblk b p ∨ eblk 1 p
theorem e_l {b c p : Nat} (h : eblk c p) (hc : c < 2) : ¬ lblk b p := fun q => by
  have h1 := q.1
  unfold op at h1
  rcases h with h | h <;> (unfold ep at h; omega)
theorem g_l {k b p : Nat} (hk : k < 6) (h : blk k p) : ¬ lblk b p := fun q => l_g hk q h
theorem g_e {k b p : Nat} (hk : k < 6) (h : blk k p) : ¬ eblk b p := fun q => e_g hk q h
theorem l_e {b c p : Nat} (h : lblk b p) (hc : c < 2) : ¬ eblk c p := fun q => e_l q hc h
set_option maxRecDepth 20000 in
theorem lp_h114 {κ : KX} {k n m b : Nat} {g : Gm} {tb : List Nat} {cd : Nat → Nat → Int32} {th ev : List Int32} {M : Mem} (hk : k < 6) (hb : b < 2) {e : Int32 × Int32 × Int32} {M1 : Mem} {g1 : Gm} {m1 : Nat} (hg1 : (if e.1 = 1 then chg g e.2.1 (-e.2.2) else if e.1 = 2 then chg g e.2.1 e.2.2 else rpt (draw1 cd n e.2.1) e.2.2.toNatClampNeg g) = g1) (hW1 : WFg cd n g1 tb) (hcd1 : CDm M1 cd) (hR1 : RepG M1 k n g1 tb m1) (hL1 : LGd M1 b th ev) (ho : Off (HpS k b) M M1) (hm : mvd n g m g1 m1) (ht : M1.1 (ep 1) 1 = e.1) (hp3 : M1.1 (ep 1) 3 = e.2.2) (C : Cx κ lyC y_R_happen.cls b_R_happen 4 none 3) (hQ : ∀ v M', Pv (fun M' => ∃ m', RepG M' k n (happ cd n tb e g) tb m' ∧ LGd M' b th ev ∧ Off (HpS k b) M M' ∧ mvd n g m (happ cd n tb e g) m') v M' → KQ κ v M') : G κ lyC 114 [some (.ref 75), some (.ref (gp k)), some (.ref (op b)), none] [] M1 := by
  refine u_aload_n (pc := 114) C d_R_happen_114 rfl ?_
  refine u_getr (pc := 115) (r := (ep 1)) C d_R_happen_115 fw_R_34 sC_75 rfl rfl ?_
  refine u_geti (pc := 118) C d_R_happen_118 fw_R_162 (shE0 (by decide)) rfl ?_
  refine u_iconst (pc := 121) (v := 1) C d_R_happen_121 (by decide) ?_
  refine u_icmp_lt (pc := 122) (tgt := 130) C d_R_happen_122 rfl (fun c122 => ?_) (fun c122 => ?_)
  · refine u_vret (pc := 130) C d_R_happen_130 (hQ _ _ ⟨rfl, ?_⟩)
    rw [hp3] at c122
    rw [happ_def, hg1]
    rw [if_neg (Int32.not_le.mpr c122)]
    exact ⟨m1, hR1, hL1, ho, hm⟩
  · refine u_aload_n (pc := 125) C d_R_happen_125 rfl ?_
    refine u_aload_n (pc := 126) C d_R_happen_126 rfl ?_
    refine u_callVv (pc := 127) C d_R_happen_127 mx_R_castShadows mw_R_171 sC_75 rfl (c_R_castShadows hk hW1 hcd1 hR1 ht) rfl rfl (Nat.le_of_ble_eq_true rfl) (fun M127 q127 => ?_)
    obtain ⟨g9, o9⟩ := q127
    refine u_vret (pc := 130) C d_R_happen_130 (hQ _ _ ⟨rfl, ?_⟩)
    rw [hp3] at c122
    rw [happ_def, hg1]
    rw [if_pos (Int32.not_lt.mp c122)]
    have hfp := fold_psh (f := shdw cd) (tb.filter (fun c => decide (cd 0 c = 14) && decide (cd 2 c = e.1))) g1 hW1.hb
    refine ⟨m1, g9, hL1.off o9 (fun p q => g_l hk q), ho.trans (o9.mono (fun p q => Or.inl q)), hm.trans (mvd.same (hfp.2.1 3 (by decide) (by decide)) (hfp.2.2 1 (by decide)) (hfp.2.1 4 (by decide) (by decide)))⟩
set_option maxRecDepth 20000 in
theorem lp_h86 {κ : KX} {k n m b : Nat} {g : Gm} {tb : List Nat} {cd : Nat → Nat → Int32} {th ev : List Int32} {M : Mem} (hk : k < 6) (hb : b < 2) {e : Int32 × Int32 × Int32} {a : Nat} (ha : a ≤ 99) (hea : e.2.2 = nI a) (hep : e.2.1 = 0 ∨ e.2.1 = 1) (hW : WFg cd n g tb) (hn1 : ¬ e.1 = 1) (hn2 : ¬ e.1 = 2) (C : Cx κ lyC y_R_happen.cls b_R_happen 4 none 3) (hQ : ∀ v M', Pv (fun M' => ∃ m', RepG M' k n (happ cd n tb e g) tb m' ∧ LGd M' b th ev ∧ Off (HpS k b) M M' ∧ mvd n g m (happ cd n tb e g) m') v M' → KQ κ v M') : ∀ (f i : Nat) (M1 : Mem) (g1 : Gm) (m1 : Nat), i ≤ a → a - i < f → rpt (draw1 cd n e.2.1) i g = g1 → CDm M1 cd → RepG M1 k n g1 tb m1 → LGd M1 b th ev → Off (HpS k b) M M1 → mvd n g m g1 m1 → M1.1 (ep 1) 1 = e.1 → M1.1 (ep 1) 2 = e.2.1 → M1.1 (ep 1) 3 = e.2.2 → G κ lyC 86 [some (.ref 75), some (.ref (gp k)), some (.ref (op b)), some (.int (nI i))] [] M1 := by
  intro f
  induction f with
  | zero => intro i _ _ _ _ h; omega
  | succ f ih =>
    intro i M1 g1 m1 hi hf hg1 hcd1 hR1 hL1 ho hm ht hp2 hp3
    have hin : nI a ≤ nI i ↔ a ≤ i := nI_leI (by omega) (by omega)
    have hn := hW.1.1
    refine u_iload_n (pc := 86) C d_R_happen_86 rfl ?_
    refine u_aload_n (pc := 87) C d_R_happen_87 rfl ?_
    refine u_getr (pc := 88) (r := (ep 1)) C d_R_happen_88 fw_R_34 sC_75 rfl rfl ?_
    refine u_geti (pc := 91) C d_R_happen_91 fw_R_162 (shE0 (by decide)) rfl ?_
    refine u_icmp_ge (pc := 94) (tgt := 114) C d_R_happen_94 rfl (fun c94 => ?_) (fun c94 => ?_)
    · have hi2 : i = a := by rw [hp3, hea, hin] at c94; omega
      subst hi2
      refine u_drop 3 rfl ?_
      exact lp_h114 hk hb (by rw [if_neg hn1, if_neg hn2, hea, nI_clamp (by omega)]; exact hg1) (hg1 ▸ hW.rptd _) hcd1 hR1 hL1 ho hm ht hp3 C hQ
    · refine u_aload_n (pc := 97) C d_R_happen_97 rfl ?_
      refine u_aload_n (pc := 98) C d_R_happen_98 rfl ?_
      refine u_getr (pc := 99) (r := (ep 1)) C d_R_happen_99 fw_R_34 sC_75 rfl rfl ?_
      refine u_geti (pc := 102) C d_R_happen_102 fw_R_159 (shE0 (by decide)) rfl ?_
      refine u_callVv (pc := 105) C d_R_happen_105 mx_G_drawOne mw_R_168 (shG0 hk) rfl (c_G_drawOne hk hR1 hcd1 hn (by rw [hp2]; exact hep)) rfl rfl (Nat.le_of_ble_eq_true rfl) (fun M105 q105 => ?_)
      obtain ⟨m9, g9, o9, v9⟩ := q105
      refine u_iinc (pc := 108) (v2 := 1) C d_R_happen_108 rfl rfl (by decide) (fun x108 e108 L9 hL9 => ?_)
      obtain rfl : L9 = [some (.ref 75), some (.ref (gp k)), some (.ref (op b)), some (.int x108)] := hL9.symm
      refine u_goto (pc := 111) (tgt := 86) C d_R_happen_111 rfl ?_
      obtain rfl : x108 = nI (i + 1) := by rw [e108, nI_succ]
      rw [hp2] at g9 v9
      have hlt : i < a := by rw [hp3, hea, hin] at c94; omega
      have k1 : ∀ j, j < 2 → M105.1 (ep 1 + j) = M1.1 (ep 1 + j) := fun j hj => (o9 _ (fun q => g_e (b := 1) hk q (by rcases (show j = 0 ∨ j = 1 by omega) with rfl | rfl; exact Or.inl rfl; exact Or.inr rfl))).1
      have k0 : M105.1 (ep 1) = M1.1 (ep 1) := k1 0 (by decide)
      exact ih (i + 1) M105 _ m9 (by omega) (by omega) (by rw [rpt_succ, hg1]) (hcd1.off o9 (fun p h1 h2 => blk_cd h1 h2)) g9 (hL1.off o9 (fun p q => g_l hk q)) (ho.trans (o9.mono (fun p q => Or.inl q))) (hm.trans v9) (by rw [k0]; exact ht) (by rw [k0]; exact hp2) (by rw [k0]; exact hp3)
set_option maxRecDepth 20000 in
theorem c_R_happen {k n m b : Nat} {g : Gm} {tb : List Nat} {cd : Nat → Nat → Int32} {th ev : List Int32} {M : Mem} {e : Int32 × Int32 × Int32} (hk : k < 6) (hb : b < 2) (hW : WFg cd n g tb) (hcd : CDm M cd) (hR : RepG M k n g tb m) (hL : LGd M b th ev) (hE : EV M 1 e []) (he : evok e) : Ct lyC y_R_happen b_R_happen 4 none 3 [.ref 75, .ref (gp k), .ref (op b)] M (Pv fun M' => ∃ m', RepG M' k n (happ cd n tb (repl cd tb.length tb e).1 g) tb m' ∧ LGd M' b th (ev ++ [codeF (repl cd tb.length tb e).1.1 (repl cd tb.length tb e).1.2.1 (repl cd tb.length tb e).1.2.2]) ∧ Off (HpS k b) M M' ∧ mvd n g m (happ cd n tb (repl cd tb.length tb e).1 g) m') := by
  obtain ⟨htl, hbn, hb24⟩ := hW.tl
  have hn := hW.1.1
  refine Ct.ofG mx_R_happen [some (.ref 75), some (.ref (gp k)), some (.ref (op b)), none] rfl rfl (Nat.le_of_ble_eq_true rfl) (fun κ C hQ => ?_)
  refine u_aload_n (pc := 0) C d_R_happen_0 rfl ?_
  refine u_getr (pc := 1) (r := (ep 1)) C d_R_happen_1 fw_R_34 sC_75 rfl rfl ?_
  refine u_aload_n (pc := 4) C d_R_happen_4 rfl ?_
  refine u_callVv (pc := 5) C d_R_happen_5 mx_E_replaceBy mw_R_147 (shE0 (by decide)) rfl (c_E_replaceBy (b := 1) (by decide) hk hR hcd hW.1.2 htl hn hbn hW.2.1.1 hE) rfl rfl (Nat.le_of_ble_eq_true rfl) (fun M5 q5 => ?_)
  obtain ⟨hE5, o5⟩ := q5
  have hR5 : RepG M5 k n g tb m := hR.off o5 (fun p q => e_g hk q)
  have hcd5 : CDm M5 cd := hcd.off o5 (fun p h1 h2 => e_cd h1 h2)
  have hL5 : LGd M5 b th ev := hL.off o5 (fun p q => e_l q (by decide))
  have he5 := repl_ok hW.1.2 tb.length tb e hbn he
  generalize hg5 : (repl cd tb.length tb e).1 = e5 at *
  generalize (repl cd tb.length tb e).2 = us5 at *
  refine u_aload_n (pc := 8) C d_R_happen_8 rfl ?_
  refine u_aload_n (pc := 9) C d_R_happen_9 rfl ?_
  refine u_getr (pc := 10) (r := (ep 1)) C d_R_happen_10 fw_R_34 sC_75 rfl rfl ?_
  refine u_callVi (pc := 13) C d_R_happen_13 mx_E_told mw_R_150 (shE0 (by decide)) rfl (c_E_told (b := 1) (by decide)) rfl rfl (Nat.le_of_ble_eq_true rfl) (fun r13 M13 q13 => ?_)
  obtain ⟨e13, q13⟩ := q13
  have q13 := q13.symm
  subst q13
  refine u_callVv (pc := 16) C d_R_happen_16 mx_O_addEvent mw_R_153 (shO0 hb) rfl (c_O_addEvent hb hL5) rfl rfl (Nat.le_of_ble_eq_true rfl) (fun M16 q16 => ?_)
  obtain ⟨hL16, o16⟩ := q16
  rw [hE5.1, hE5.2.1, hE5.2.2.1] at e13
  rw [e13] at hL16
  have k16 : M16.1 (ep 1) = M5.1 (ep 1) := (o16 _ (fun q => e_l (b := b) (c := 1) (Or.inl rfl) (by decide) q)).1
  have t1 : M16.1 (ep 1) 1 = e5.1 := by rw [k16]; exact hE5.1
  have t2 : M16.1 (ep 1) 2 = e5.2.1 := by rw [k16]; exact hE5.2.1
  have t3 : M16.1 (ep 1) 3 = e5.2.2 := by rw [k16]; exact hE5.2.2.1
  have hR16 : RepG M16 k n g tb m := hR5.off o16 (fun p q => l_g hk q)
  have hcd16 : CDm M16 cd := hcd5.off o16 (fun p h1 h2 => l_cd h1 h2)
  have ho16 : Off (HpS k b) M M16 := (o5.mono (fun p q => Or.inr (Or.inr q))).trans (o16.mono (fun p q => Or.inr (Or.inl q)))
  obtain ⟨⟨t, ht3, et⟩, hep, a, ha, hea⟩ := he5
  refine u_aload_n (pc := 19) C d_R_happen_19 rfl ?_
  refine u_getr (pc := 20) (r := (ep 1)) C d_R_happen_20 fw_R_34 sC_75 rfl rfl ?_
  refine u_geti (pc := 23) C d_R_happen_23 fw_R_156 (shE0 (by decide)) rfl ?_
  refine u_iconst (pc := 26) (v := 1) C d_R_happen_26 (by decide) ?_
  refine u_icmp_ne (pc := 27) (tgt := 52) C d_R_happen_27 rfl (fun c27 => ?_) (fun c27 => ?_)
  · refine u_aload_n (pc := 52) C d_R_happen_52 rfl ?_
    refine u_getr (pc := 53) (r := (ep 1)) C d_R_happen_53 fw_R_34 sC_75 rfl rfl ?_
    refine u_geti (pc := 56) C d_R_happen_56 fw_R_156 (shE0 (by decide)) rfl ?_
    refine u_iconst (pc := 59) (v := 2) C d_R_happen_59 (by decide) ?_
    refine u_icmp_ne (pc := 60) (tgt := 84) C d_R_happen_60 rfl (fun c60 => ?_) (fun c60 => ?_)
    · refine u_iconst (pc := 84) (v := 0) C d_R_happen_84 (by decide) ?_
      refine u_istore_n (pc := 85) C d_R_happen_85 rfl (fun x85 e85 L9 hL9 => ?_)
      obtain rfl : L9 = [some (.ref 75), some (.ref (gp k)), some (.ref (op b)), some (.int x85)] := hL9.symm
      rw [t1] at c27 c60
      obtain rfl : x85 = nI 0 := e85
      exact lp_h86 hk hb ha hea hep hW c27 c60 C hQ (a + 1) 0 M16 g m (by omega) (by omega) rfl hcd16 hR16 hL16 ho16 mvd.refl t1 t2 t3
    · refine u_aload_n (pc := 63) C d_R_happen_63 rfl ?_
      refine u_aload_n (pc := 64) C d_R_happen_64 rfl ?_
      refine u_getr (pc := 65) (r := (ep 1)) C d_R_happen_65 fw_R_34 sC_75 rfl rfl ?_
      refine u_geti (pc := 68) C d_R_happen_68 fw_R_159 (shE0 (by decide)) rfl ?_
      refine u_aload_n (pc := 71) C d_R_happen_71 rfl ?_
      refine u_getr (pc := 72) (r := (ep 1)) C d_R_happen_72 fw_R_34 sC_75 rfl rfl ?_
      refine u_geti (pc := 75) C d_R_happen_75 fw_R_162 (shE0 (by decide)) rfl ?_
      refine u_callVv (pc := 78) C d_R_happen_78 mx_G_changeLife mw_R_165 (shG0 hk) rfl (c_G_changeLife hk) rfl rfl (Nat.le_of_ble_eq_true rfl) (fun M78 q78 => ?_)
      have q78 := q78.symm
      subst q78
      refine u_goto (pc := 81) (tgt := 114) C d_R_happen_81 rfl ?_
      rw [t1] at c27 c60
      rw [t2, t3]
      have oc : Off (blk k) M16 (chF M16 k e5.2.1 e5.2.2) := chF_off
      have kc : (chF M16 k e5.2.1 e5.2.2).1 (ep 1) = M16.1 (ep 1) := (oc _ (fun q => g_e (b := 1) hk q (Or.inl rfl))).1
      exact lp_h114 hk hb (e := e5) (by rw [if_neg c27, if_pos c60]) (hW.chgL _ _) (hcd16.off oc (fun p h1 h2 => blk_cd h1 h2)) (hR16.ch hep) (hL16.off oc (fun p q => g_l hk q)) (ho16.trans (oc.mono (fun p q => Or.inl q))) (mvd.same (by unfold chg; exact up2_s (by decide)) (by unfold chg; rw [up2_s (by decide)]) (by unfold chg; exact up2_s (by decide))) (by rw [kc]; exact t1) (by rw [kc]; exact t3) C hQ
  · refine u_aload_n (pc := 30) C d_R_happen_30 rfl ?_
    refine u_aload_n (pc := 31) C d_R_happen_31 rfl ?_
    refine u_getr (pc := 32) (r := (ep 1)) C d_R_happen_32 fw_R_34 sC_75 rfl rfl ?_
    refine u_geti (pc := 35) C d_R_happen_35 fw_R_159 (shE0 (by decide)) rfl ?_
    refine u_aload_n (pc := 38) C d_R_happen_38 rfl ?_
    refine u_getr (pc := 39) (r := (ep 1)) C d_R_happen_39 fw_R_34 sC_75 rfl rfl ?_
    refine u_geti (pc := 42) C d_R_happen_42 fw_R_162 (shE0 (by decide)) rfl ?_
    refine u_ineg (pc := 45) C d_R_happen_45 ?_
    refine u_callVv (pc := 46) C d_R_happen_46 mx_G_changeLife mw_R_165 (shG0 hk) rfl (c_G_changeLife hk) rfl rfl (Nat.le_of_ble_eq_true rfl) (fun M46 q46 => ?_)
    have q46 := q46.symm
    subst q46
    refine u_goto (pc := 49) (tgt := 114) C d_R_happen_49 rfl ?_
    rw [t1] at c27
    rw [t2, t3]
    have oc : Off (blk k) M16 (chF M16 k e5.2.1 (-e5.2.2)) := chF_off
    have kc : (chF M16 k e5.2.1 (-e5.2.2)).1 (ep 1) = M16.1 (ep 1) := (oc _ (fun q => g_e (b := 1) hk q (Or.inl rfl))).1
    exact lp_h114 hk hb (e := e5) (by rw [if_pos c27]) (hW.chgL _ _) (hcd16.off oc (fun p h1 h2 => blk_cd h1 h2)) (hR16.ch hep) (hL16.off oc (fun p q => g_l hk q)) (ho16.trans (oc.mono (fun p q => Or.inl q))) (mvd.same (by unfold chg; exact up2_s (by decide)) (by unfold chg; rw [up2_s (by decide)]) (by unfold chg; exact up2_s (by decide))) (by rw [kc]; exact t1) (by rw [kc]; exact t3) C hQ
