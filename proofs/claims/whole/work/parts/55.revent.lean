/-! the reference: an event happens -/
def LGr (M : Mem) (th ev : List Int32) : Prop := (M.1 0 29 = nI (min th.length 40) ∧ ∀ i, i < min th.length 40 → M.1 222 i = th.getD i 0) ∧ (M.1 0 31 = nI (min ev.length 40) ∧ ∀ i, i < min ev.length 40 → M.1 223 i = ev.getD i 0)
theorem LGr.of {S : Nat → Nat → Prop} {M M' : Mem} {th ev : List Int32} (h : LGr M th ev) (ho : OfR S M M') (h1 : ¬ S 0 29) (h2 : ¬ S 0 31) (h3 : ∀ i, ¬ S 222 i) (h4 : ∀ i, ¬ S 223 i) : LGr M' th ev :=
  ⟨⟨by rw [ho 0 29 h1]; exact h.1.1, fun i hi => by rw [ho 222 i (h3 i)]; exact h.1.2 i hi⟩, ⟨by rw [ho 0 31 h2]; exact h.2.1, fun i hi => by rw [ho 223 i (h4 i)]; exact h.2.2 i hi⟩⟩
theorem LGr.ev0 {M : Mem} {th ev : List Int32} {x : Int32} (h : LGr M th ev) (hl : 40 ≤ ev.length) : LGr M th (ev ++ [x]) := by
  obtain ⟨h1, h2, h3⟩ := h
  refine ⟨h1, by rw [h2, List.length_append]; congr 1; simp; omega, fun i hi => ?_⟩
  have hi2 : i < ev.length := by rw [List.length_append] at hi; simp at hi; omega
  rw [getDI_app hi2]
  exact h3 i (by omega)
theorem LGr.ev1 {M : Mem} {th ev : List Int32} {x : Int32} (h : LGr M th ev) (hl : ev.length < 40) : LGr (up (up M 0 31 (nI (ev.length + 1))) 223 ev.length x) th (ev ++ [x]) := by
  obtain ⟨⟨a1, a2⟩, h2, h3⟩ := h
  have hm : min (ev ++ [x]).length 40 = ev.length + 1 := by rw [List.length_append]; simp; omega
  refine ⟨⟨?_, fun i hi => ?_⟩, ?_, fun i hi => ?_⟩
  · rw [up_ne (by decide), up_j (by decide)]; exact a1
  · rw [up_ne (by decide), up_ne (by decide)]; exact a2 i hi
  · rw [hm, up_ne (by decide), up_row, pk_us]
  · rw [hm] at hi
    rw [up_row]
    by_cases e : i = ev.length
    · subst e; rw [pk_us, getDI_last]
    · rw [pk_un e, up_ne (by decide), getDI_app (by omega)]
      exact h3 i (by omega)
theorem LGr.th0 {M : Mem} {th ev : List Int32} {x : Int32} (h : LGr M th ev) (hl : 40 ≤ th.length) : LGr M (th ++ [x]) ev := by
  obtain ⟨⟨h2, h3⟩, h1⟩ := h
  refine ⟨⟨by rw [h2, List.length_append]; congr 1; simp; omega, fun i hi => ?_⟩, h1⟩
  have hi2 : i < th.length := by rw [List.length_append] at hi; simp at hi; omega
  rw [getDI_app hi2]
  exact h3 i (by omega)
theorem LGr.th1 {M : Mem} {th ev : List Int32} {x : Int32} (h : LGr M th ev) (hl : th.length < 40) : LGr (up (up M 0 29 (nI (th.length + 1))) 222 th.length x) (th ++ [x]) ev := by
  obtain ⟨⟨h2, h3⟩, a1, a2⟩ := h
  have hm : min (th ++ [x]).length 40 = th.length + 1 := by rw [List.length_append]; simp; omega
  refine ⟨⟨?_, fun i hi => ?_⟩, ?_, fun i hi => ?_⟩
  · rw [hm, up_ne (by decide), up_row, pk_us]
  · rw [hm] at hi
    rw [up_row]
    by_cases e : i = th.length
    · subst e; rw [pk_us, getDI_last]
    · rw [pk_un e, up_ne (by decide), getDI_app (by omega)]
      exact h3 i (by omega)
  · rw [up_ne (by decide), up_j (by decide)]; exact a1
  · rw [up_ne (by decide), up_ne (by decide)]; exact a2 i hi
def evR (p j : Nat) : Prop := p = 6 ∨ p = 219 ∨ p = 223 ∨ (p = 0 ∧ ((15 ≤ j ∧ j ≤ 18) ∨ j = 31))
theorem rep_ev {p j : Nat} (h : repR p j) : evR p j := by
  rcases h with h | h
  · exact Or.inr (Or.inr (Or.inr ⟨h.1, Or.inl ⟨h.2.1, h.2.2⟩⟩))
  · exact Or.inr (Or.inl h)
theorem g_ev {p j : Nat} (h : gR p j) : evR p j := Or.inl h
theorem pos1 {a : Nat} (h : a ≤ 99) : (0 : Int32) < nI a ↔ (1 : Int32) ≤ nI a := by
  rw [Int32.lt_iff_toInt_lt, Int32.le_iff_toInt_le, nI_toInt (by omega)]
  have h0 : (0 : Int32).toInt = 0 := by decide
  have h1 : (1 : Int32).toInt = 1 := by decide
  omega
set_option maxRecDepth 20000 in
theorem lp_ev172 {κ : KX} {cd : Nat → Nat → Int32} {n a : Nat} {g1 : Gm} {tb : List Nat} {M : Mem} {t x1 x2 x3 : Int32} (hS : RS M cd n g1 tb) (ht : M.1 0 16 = t) (ha : M.1 0 18 = nI a) (ha9 : a ≤ 99) (C : Cx κ lyR y_M_event.cls b_M_event 5 none 5) (hQ : ∀ v M', Pv (fun M' => RS M' cd n (if 1 ≤ nI a then echo cd tb t g1 else g1) tb ∧ OfR gR M M') v M' → KQ κ v M') : G κ lyR 172 [some (.ref 0), some (.int x1), some (.int x2), some (.int x3), none] [] M := by
  refine u_aload_n (pc := 172) C d_M_event_172 rfl ?_
  refine u_geti (pc := 173) C d_M_event_173 fw_M_217 sR_0 rfl ?_
  refine u_if_le (pc := 176) (tgt := 183) C d_M_event_176 rfl (fun c176 => ?_) (fun c176 => ?_)
  · refine u_vret (pc := 183) C d_M_event_183 (hQ _ _ ⟨rfl, ?_⟩)
    rw [ha] at c176
    have h9 : ¬ (1 : Int32) ≤ nI a := fun z => absurd ((pos1 ha9).mpr z) (Int32.not_lt.mpr c176)
    rw [if_neg h9]
    exact ⟨hS, OfR.refl⟩
  · refine u_aload_n (pc := 179) C d_M_event_179 rfl ?_
    refine u_callVv (pc := 180) C d_M_event_180 mx_M_echoes mw_M_244 sR_0 rfl (c_M_echoes hS ht) rfl rfl (Nat.le_of_ble_eq_true rfl) (fun M180 q180 => ?_)
    refine u_vret (pc := 183) C d_M_event_183 (hQ _ _ ⟨rfl, ?_⟩)
    rw [ha] at c176
    have h9 := (pos1 ha9).mp (Int32.not_le.mp c176)
    rw [if_pos h9]
    exact q180
theorem evt_d {cd : Nat → Nat → Int32} {n : Nat} {g : Gm} {tb : List Nat} {e : Int32 × Int32 × Int32} {a : Nat} {g1 : Gm} (he : e.2.2 = nI a) (hg : g1 = (if e.1 = 1 then chg g e.2.1 (-e.2.2) else if e.1 = 2 then chg g e.2.1 e.2.2 else rpt (draw1 cd n e.2.1) e.2.2.toNatClampNeg g)) :
    (if 1 ≤ nI a then echo cd tb e.1 g1 else g1) = happ cd n tb e g := by
  rw [happ_def, he, hg, he]
set_option maxRecDepth 20000 in
theorem lp_evD {κ : KX} {cd : Nat → Nat → Int32} {n a : Nat} {g : Gm} {tb : List Nat} {M : Mem} {x1 x2 x3 : Int32} {e : Int32 × Int32 × Int32} {us : List Nat} (hS0 : RS M cd n g tb) (hE0 : EVr M e us) (hea : e.2.2 = nI a) (ha9 : a ≤ 99) (hp : e.2.1 = 0 ∨ e.2.1 = 1) (h1 : ¬ e.1 = 1) (h2 : ¬ e.1 = 2) (C : Cx κ lyR y_M_event.cls b_M_event 5 none 5) (hQ : ∀ v M', Pv (fun M' => RS M' cd n (happ cd n tb e g) tb ∧ OfR gR M M') v M' → KQ κ v M') : ∀ (f i : Nat) (M1 : Mem), i ≤ a → a - i < f → RS M1 cd n (rpt (draw1 cd n e.2.1) i g) tb → OfR gR M M1 → G κ lyR 153 [some (.ref 0), some (.int x1), some (.int x2), some (.int x3), some (.int (nI i))] [] M1 := by
  intro f
  induction f with
  | zero => intro i M1 _ h; omega
  | succ f ih =>
    intro i M1 hi hf hS ho
    have v18 : M1.1 0 18 = nI a := by rw [ho 0 18 (by unfold gR; decide), ← hea]; exact hE0.2.2.1
    have v17 : M1.1 0 17 = e.2.1 := by rw [ho 0 17 (by unfold gR; decide)]; exact hE0.2.1
    have v16 : M1.1 0 16 = e.1 := by rw [ho 0 16 (by unfold gR; decide)]; exact hE0.1
    have hin : nI a ≤ nI i ↔ a ≤ i := nI_leI (by omega) (by omega)
    refine u_iload (pc := 153) C d_M_event_153 rfl ?_
    refine u_aload_n (pc := 155) C d_M_event_155 rfl ?_
    refine u_geti (pc := 156) C d_M_event_156 fw_M_217 sR_0 rfl ?_
    refine u_icmp_ge (pc := 159) (tgt := 172) C d_M_event_159 rfl (fun c159 => ?_) (fun c159 => ?_)
    · have hge : i = a := by rw [v18, hin] at c159; omega
      subst hge
      refine u_drop 4 rfl ?_
      refine lp_ev172 (t := e.1) hS v16 v18 ha9 C (fun v M9 q => hQ v M9 ?_)
      obtain ⟨rfl, q1, q2⟩ := q
      refine ⟨rfl, ?_, ho.trans q2⟩
      rw [evt_d (e := e) (g := g) hea (by rw [if_neg h1, if_neg h2, hea, nI_clamp (by omega)])] at q1
      exact q1
    · refine u_aload_n (pc := 162) C d_M_event_162 rfl ?_
      refine u_callVv (pc := 163) C d_M_event_163 mx_M_drawOne mw_M_241 sR_0 rfl (c_M_drawOne hS v17 hp) rfl rfl (Nat.le_of_ble_eq_true rfl) (fun M163 q163 => ?_)
      obtain ⟨hS2, o2⟩ := q163
      refine u_iinc (pc := 166) (v2 := 1) C d_M_event_166 rfl rfl (by decide) (fun x166 e166 L9 hL9 => ?_)
      obtain rfl : L9 = [some (.ref 0), some (.int x1), some (.int x2), some (.int x3), some (.int x166)] := hL9.symm
      refine u_goto (pc := 169) (tgt := 153) C d_M_event_169 rfl ?_
      obtain rfl : x166 = nI (i + 1) := by rw [e166, nI_succ]
      have hlt : i < a := by rw [v18, hin] at c159; omega
      exact ih (i + 1) _ (by omega) (by omega) (by rw [rpt_succ]; exact hS2) (ho.trans o2)
set_option maxRecDepth 20000 in
theorem lp_ev60 {κ : KX} {cd : Nat → Nat → Int32} {n a : Nat} {g : Gm} {tb : List Nat} {M : Mem} {x1 x2 x3 : Int32} {e : Int32 × Int32 × Int32} {us : List Nat} (hS : RS M cd n g tb) (hE : EVr M e us) (hea : e.2.2 = nI a) (ha9 : a ≤ 99) (hp : e.2.1 = 0 ∨ e.2.1 = 1) (C : Cx κ lyR y_M_event.cls b_M_event 5 none 5) (hQ : ∀ v M', Pv (fun M' => RS M' cd n (happ cd n tb e g) tb ∧ OfR gR M M') v M' → KQ κ v M') : G κ lyR 60 [some (.ref 0), some (.int x1), some (.int x2), some (.int x3), none] [] M := by
  obtain ⟨hp9, hp2, hp3⟩ := pl01 hp
  obtain ⟨v16, v17, v18, hU⟩ := id hE
  have hli : M.1 6 (pix e.2.1) = g 0 (pix e.2.1) := by
    have h1 := hS.2.2.2.1
    rcases hp with q | q
    · rw [q]; exact h1.1
    · rw [q]; exact h1.2
  have hix : ((0 : Int32) + e.2.1).toNatClampNeg = pix e.2.1 := by
    have h9 := ix0 (c := pix e.2.1) (by omega)
    rw [← hp9] at h9
    exact h9
  have hvp : vp_in ((0 : Int32) + e.2.1) 123 := by
    have h9 := vp0 (c := pix e.2.1) (by omega)
    rw [← hp9] at h9
    exact h9
  refine u_aload_n (pc := 60) C d_M_event_60 rfl ?_
  refine u_geti (pc := 61) C d_M_event_61 fw_M_202 sR_0 rfl ?_
  refine u_iconst (pc := 64) (v := 1) C d_M_event_64 (by decide) ?_
  refine u_icmp_ne (pc := 65) (tgt := 105) C d_M_event_65 rfl (fun c65 => ?_) (fun c65 => ?_)
  · refine u_aload_n (pc := 105) C d_M_event_105 rfl ?_
    refine u_geti (pc := 106) C d_M_event_106 fw_M_202 sR_0 rfl ?_
    refine u_iconst (pc := 109) (v := 2) C d_M_event_109 (by decide) ?_
    refine u_icmp_ne (pc := 110) (tgt := 150) C d_M_event_110 rfl (fun c110 => ?_) (fun c110 => ?_)
    · refine u_iconst (pc := 150) (v := 0) C d_M_event_150 (by decide) ?_
      refine u_istore (pc := 151) C d_M_event_151 rfl (fun x151 e151 L9 hL9 => ?_)
      obtain rfl : L9 = [some (.ref 0), some (.int x1), some (.int x2), some (.int x3), some (.int x151)] := hL9.symm
      rw [v16] at c65
      rw [v16] at c110
      subst e151
      exact lp_evD hS hE hea ha9 hp c65 c110 C hQ (a + 1) 0 M (by omega) (by omega) hS OfR.refl
    · refine u_aload_n (pc := 113) C d_M_event_113 rfl ?_
      refine u_getr (pc := 114) (r := 6) C d_M_event_114 fw_M_25 sR_0 rfl rfl ?_
      refine u_iconst (pc := 117) (v := 0) C d_M_event_117 (by decide) ?_
      refine u_aload_n (pc := 118) C d_M_event_118 rfl ?_
      refine u_geti (pc := 119) C d_M_event_119 fw_M_205 sR_0 rfl ?_
      refine u_iadd (pc := 122) C d_M_event_122 ?_
      refine u_aload_n (pc := 123) C d_M_event_123 rfl ?_
      refine u_getr (pc := 124) (r := 6) C d_M_event_124 fw_M_25 sR_0 rfl rfl ?_
      refine u_iconst (pc := 127) (v := 0) C d_M_event_127 (by decide) ?_
      refine u_aload_n (pc := 128) C d_M_event_128 rfl ?_
      refine u_geti (pc := 129) C d_M_event_129 fw_M_205 sR_0 rfl ?_
      refine u_iadd (pc := 132) C d_M_event_132 ?_
      refine u_iald (pc := 133) C d_M_event_133 sR_6 (by rw [v17]; exact hvp) ?_
      refine u_aload_n (pc := 134) C d_M_event_134 rfl ?_
      refine u_geti (pc := 135) C d_M_event_135 fw_M_217 sR_0 rfl ?_
      refine u_iadd (pc := 138) C d_M_event_138 ?_
      refine u_bipush (pc := 139) (v := (-99)) C d_M_event_139 (by decide) ?_
      refine u_bipush (pc := 141) (v := 99) C d_M_event_141 (by decide) ?_
      refine u_callSi (pc := 143) C d_M_event_143 mx_M_held mw_M_186 (c_M_held (by decide)) rfl rfl (Nat.le_of_ble_eq_true rfl) (fun r143 M143 q143 => ?_)
      obtain ⟨e143, q143⟩ := q143
      have q143 := q143.symm
      subst q143
      refine u_iast (pc := 146) C d_M_event_146 sR_6 (by rw [v17]; exact hvp) ?_
      refine u_goto (pc := 147) (tgt := 172) C d_M_event_147 rfl ?_
      rw [v16] at c65
      rw [v16] at c110
      rw [v17, hix, hli, v18] at e143
      rw [v17, hix, e143]
      have hS2 : RS (up M 6 (pix e.2.1) (withinF (g 0 (pix e.2.1) + e.2.2) (-99) 99)) cd n (chg g e.2.1 (e.2.2)) tb := hS.row ofg (hS.1.chgL _ _) (by rw [up_r6]; exact hS.2.2.2.life hp2)
      refine lp_ev172 (t := e.1) hS2 (by rw [up_ne (by decide)]; exact v16) (by rw [up_ne (by decide), v18]; exact hea) ha9 C (fun v M9 q => hQ v M9 ?_)
      obtain ⟨rfl, q1, q2⟩ := q
      refine ⟨rfl, ?_, ofg.trans q2⟩
      rw [evt_d (e := e) (g := g) (g1 := chg g e.2.1 (e.2.2)) hea (by rw [if_neg c65, if_pos c110])] at q1
      exact q1
  · refine u_aload_n (pc := 68) C d_M_event_68 rfl ?_
    refine u_getr (pc := 69) (r := 6) C d_M_event_69 fw_M_25 sR_0 rfl rfl ?_
    refine u_iconst (pc := 72) (v := 0) C d_M_event_72 (by decide) ?_
    refine u_aload_n (pc := 73) C d_M_event_73 rfl ?_
    refine u_geti (pc := 74) C d_M_event_74 fw_M_205 sR_0 rfl ?_
    refine u_iadd (pc := 77) C d_M_event_77 ?_
    refine u_aload_n (pc := 78) C d_M_event_78 rfl ?_
    refine u_getr (pc := 79) (r := 6) C d_M_event_79 fw_M_25 sR_0 rfl rfl ?_
    refine u_iconst (pc := 82) (v := 0) C d_M_event_82 (by decide) ?_
    refine u_aload_n (pc := 83) C d_M_event_83 rfl ?_
    refine u_geti (pc := 84) C d_M_event_84 fw_M_205 sR_0 rfl ?_
    refine u_iadd (pc := 87) C d_M_event_87 ?_
    refine u_iald (pc := 88) C d_M_event_88 sR_6 (by rw [v17]; exact hvp) ?_
    refine u_aload_n (pc := 89) C d_M_event_89 rfl ?_
    refine u_geti (pc := 90) C d_M_event_90 fw_M_217 sR_0 rfl ?_
    refine u_isub (pc := 93) C d_M_event_93 ?_
    refine u_bipush (pc := 94) (v := (-99)) C d_M_event_94 (by decide) ?_
    refine u_bipush (pc := 96) (v := 99) C d_M_event_96 (by decide) ?_
    refine u_callSi (pc := 98) C d_M_event_98 mx_M_held mw_M_186 (c_M_held (by decide)) rfl rfl (Nat.le_of_ble_eq_true rfl) (fun r98 M98 q98 => ?_)
    obtain ⟨e98, q98⟩ := q98
    have q98 := q98.symm
    subst q98
    refine u_iast (pc := 101) C d_M_event_101 sR_6 (by rw [v17]; exact hvp) ?_
    refine u_goto (pc := 102) (tgt := 172) C d_M_event_102 rfl ?_
    rw [v16] at c65
    rw [v17, hix, hli, v18, Int32.sub_eq_add_neg] at e98
    rw [v17, hix, e98]
    have hS2 : RS (up M 6 (pix e.2.1) (withinF (g 0 (pix e.2.1) + -e.2.2) (-99) 99)) cd n (chg g e.2.1 (-e.2.2)) tb := hS.row ofg (hS.1.chgL _ _) (by rw [up_r6]; exact hS.2.2.2.life hp2)
    refine lp_ev172 (t := e.1) hS2 (by rw [up_ne (by decide)]; exact v16) (by rw [up_ne (by decide), v18]; exact hea) ha9 C (fun v M9 q => hQ v M9 ?_)
    obtain ⟨rfl, q1, q2⟩ := q
    refine ⟨rfl, ?_, ofg.trans q2⟩
    rw [evt_d (e := e) (g := g) (g1 := chg g e.2.1 (-e.2.2)) hea (by rw [if_pos c65])] at q1
    exact q1
set_option maxRecDepth 20000 in
theorem c_M_event {cd : Nat → Nat → Int32} {n : Nat} {g : Gm} {tb : List Nat} {M : Mem} {t p a tr : Int32} {th ev : List Int32} (hS : RS M cd n g tb) (he0 : evok (t, p, withinF a 0 99)) (htr : M.1 0 32 = tr) (hL : LGr M th ev) (h01 : tr = 0 ∨ tr = 1) : Ct lyR y_M_event b_M_event 5 none 5 [.ref 0, .int t, .int p, .int a] M (Pv fun M' => RS M' cd n (evt cd n tb t p a g) tb ∧ LGr M' th (if tr = 1 then ev ++ [evc cd tb t p a] else ev) ∧ OfR evR M M') := by
  refine Ct.ofG mx_M_event [some (.ref 0), some (.int t), some (.int p), some (.int a), none] rfl rfl (Nat.le_of_ble_eq_true rfl) (fun κ C hQ => ?_)
  refine u_aload_n (pc := 0) C d_M_event_0 rfl ?_
  refine u_iload_n (pc := 1) C d_M_event_1 rfl ?_
  refine u_iload_n (pc := 2) C d_M_event_2 rfl ?_
  refine u_iload_n (pc := 3) C d_M_event_3 rfl ?_
  refine u_callVv (pc := 4) C d_M_event_4 mx_M_replaced mw_M_230 sR_0 rfl (c_M_replaced hS he0) rfl rfl (Nat.le_of_ble_eq_true rfl) (fun M4 q4 => ?_)
  obtain ⟨hE, o4⟩ := q4
  have hS4 := hS.rep o4
  have hok : evok (rep cd tb t p a).1 := repl_ok hS.1.1.2 _ _ _ hS.1.tl.2.1 he0
  obtain ⟨ah, hah, hea⟩ := hok.2.2
  have hL4 : LGr M4 th ev := hL.of o4 (fun q => by rcases q with q | q <;> omega) (fun q => by rcases q with q | q <;> omega) (fun i q => by rcases q with q | q <;> omega) (fun i q => by rcases q with q | q <;> omega)
  have ht4 : M4.1 0 32 = tr := by rw [o4 0 32 (fun q => by rcases q with q | q <;> omega)]; exact htr
  obtain ⟨v16, v17, v18, hU⟩ := id hE
  have hcode : (1000 : Int32) * M4.1 0 16 + 100 * M4.1 0 17 + M4.1 0 18 = evc cd tb t p a := by rw [v16, v17, v18]; rfl
  have hmin : min ev.length 40 ≤ 40 := Nat.min_le_right _ _
  have hl31 := hL4.2.1
  refine u_aload_n (pc := 7) C d_M_event_7 rfl ?_
  refine u_geti (pc := 8) C d_M_event_8 fw_M_234 sR_0 rfl ?_
  refine u_if_eq (pc := 11) (tgt := 60) C d_M_event_11 rfl (fun c11 => ?_) (fun c11 => ?_)
  · rw [ht4] at c11
    refine lp_ev60 hS4 hE hea hah hok.2.1 C (fun v M9 q => hQ v M9 ?_)
    obtain ⟨rfl, q1, q2⟩ := q
    have hg9 : ∀ p j, gR p j → evR p j := fun p j => g_ev
    refine ⟨rfl, q1, ?_, (o4.mono (fun p j => rep_ev)).trans ((q2.mono hg9))⟩
    have q3 : ∀ {th ev}, LGr M4 th ev → LGr M9 th ev := fun h => h.of q2 (by unfold gR; decide) (by unfold gR; decide) (fun i => by unfold gR; decide) (fun i => by unfold gR; decide)
    refine q3 ?_
    rw [if_neg (by rw [c11]; decide)]
    exact hL4
  · refine u_aload_n (pc := 14) C d_M_event_14 rfl ?_
    refine u_geti (pc := 15) C d_M_event_15 fw_M_238 sR_0 rfl ?_
    refine u_bipush (pc := 18) (v := 40) C d_M_event_18 (by decide) ?_
    refine u_icmp_ge (pc := 20) (tgt := 60) C d_M_event_20 rfl (fun c20 => ?_) (fun c20 => ?_)
    · rw [ht4] at c11
      have c20 := hl31 ▸ c20
      have h40 := (nI_leI (a := 40) (b := min ev.length 40) (by omega) (by omega)).mp c20
      refine lp_ev60 hS4 hE hea hah hok.2.1 C (fun v M9 q => hQ v M9 ?_)
      obtain ⟨rfl, q1, q2⟩ := q
      have hg9 : ∀ p j, gR p j → evR p j := fun p j => g_ev
      refine ⟨rfl, q1, ?_, (o4.mono (fun p j => rep_ev)).trans ((q2.mono hg9))⟩
      have q3 : ∀ {th ev}, LGr M4 th ev → LGr M9 th ev := fun h => h.of q2 (by unfold gR; decide) (by unfold gR; decide) (fun i => by unfold gR; decide) (fun i => by unfold gR; decide)
      refine q3 ?_
      rw [if_pos (h01.resolve_left c11)]
      exact hL4.ev0 (by omega)
    · refine u_aload_n (pc := 23) C d_M_event_23 rfl ?_
      refine u_getr (pc := 24) (r := 223) C d_M_event_24 fw_M_67 sR_0 rfl rfl ?_
      refine u_aload_n (pc := 27) C d_M_event_27 rfl ?_
      refine u_dup (pc := 28) C d_M_event_28 rfl ?_
      refine u_geti (pc := 29) C d_M_event_29 fw_M_238 sR_0 rfl ?_
      refine u_dup_x1 (pc := 32) C d_M_event_32 rfl rfl ?_
      refine u_iconst (pc := 33) (v := 1) C d_M_event_33 (by decide) ?_
      refine u_iadd (pc := 34) C d_M_event_34 ?_
      refine u_put (pc := 35) C d_M_event_35 fw_M_238 sR_0 rfl (Or.inl rfl) ?_
      refine u_sipush (pc := 38) (v := 1000) C d_M_event_38 (by decide) ?_
      refine u_aload_n (pc := 41) C d_M_event_41 rfl ?_
      refine u_geti (pc := 42) C d_M_event_42 fw_M_202 sR_0 rfl ?_
      refine u_imul (pc := 45) C d_M_event_45 ?_
      refine u_bipush (pc := 46) (v := 100) C d_M_event_46 (by decide) ?_
      refine u_aload_n (pc := 48) C d_M_event_48 rfl ?_
      refine u_geti (pc := 49) C d_M_event_49 fw_M_205 sR_0 rfl ?_
      refine u_imul (pc := 52) C d_M_event_52 ?_
      refine u_iadd (pc := 53) C d_M_event_53 ?_
      refine u_aload_n (pc := 54) C d_M_event_54 rfl ?_
      refine u_geti (pc := 55) C d_M_event_55 fw_M_217 sR_0 rfl ?_
      refine u_iadd (pc := 58) C d_M_event_58 ?_
      refine u_iast (pc := 59) C d_M_event_59 sR_223 (by rw [hl31]; exact vp_in_nI (by rw [hl31] at c20; have := not_leI (a := 40) (b := min ev.length 40) (by omega) (by omega) c20; omega) (by decide)) ?_
      rw [ht4] at c11
      have c20 := hl31 ▸ c20
      have h40 := not_leI (a := 40) (b := min ev.length 40) (by omega) (by omega) c20
      have hme : min ev.length 40 = ev.length := by omega
      rw [hl31, hme, nI_clamp (by omega), ← nI_succ]
      refine u_gmem (fun M6 e6 => ?_)
      have hcode6 : (1000 : Int32) * (up M4 0 31 (nI (ev.length + 1))).1 0 16 + 100 * (up M4 0 31 (nI (ev.length + 1))).1 0 17 + (up M4 0 31 (nI (ev.length + 1))).1 0 18 = evc cd tb t p a := by
        rw [up_j (by decide), up_j (by decide), up_j (by decide)]; exact hcode
      rw [hcode6] at e6
      have o6 : OfR (fun p j => p = 223 ∨ (p = 0 ∧ j = 31)) M4 M6 := by
        rw [e6]
        exact (OfR.up (Or.inr ⟨rfl, rfl⟩)).trans (OfR.up (Or.inl rfl))
      have hL6 : LGr M6 th (ev ++ [evc cd tb t p a]) := by rw [e6]; exact hL4.ev1 (by omega)
      have hS6 : RS M6 cd n g tb := hS4.of o6 (fun p j _ _ q => by rcases q with q | q <;> omega) (fun q => by rcases q with q | q <;> omega) (fun j q => by rcases q with q | q <;> omega)
      have hE6 : EVr M6 (rep cd tb t p a).1 (rep cd tb t p a).2 := ⟨by rw [o6 0 16 (fun q => by rcases q with q | q <;> omega)]; exact v16, by rw [o6 0 17 (fun q => by rcases q with q | q <;> omega)]; exact v17, by rw [o6 0 18 (fun q => by rcases q with q | q <;> omega)]; exact v18, hU.of o6 (fun q => by rcases q with q | q <;> omega) (fun i q => by rcases q with q | q <;> omega)⟩
      clear e6
      refine lp_ev60 hS6 hE6 hea hah hok.2.1 C (fun v M9 q => hQ v M9 ?_)
      obtain ⟨rfl, q1, q2⟩ := q
      have hg9 : ∀ p j, gR p j → evR p j := fun p j => g_ev
      refine ⟨rfl, q1, ?_, (o4.mono (fun p j => rep_ev)).trans ((o6.mono (fun p j q => by rcases q with q | q; exact Or.inr (Or.inr (Or.inl q)); exact Or.inr (Or.inr (Or.inr ⟨q.1, Or.inr q.2⟩)))).trans (q2.mono hg9))⟩
      have q3 : ∀ {th ev}, LGr M6 th ev → LGr M9 th ev := fun h => h.of q2 (by unfold gR; decide) (by unfold gR; decide) (fun i => by unfold gR; decide) (fun i => by unfold gR; decide)
      refine q3 ?_
      rw [if_pos (h01.resolve_left c11)]
      exact hL6
