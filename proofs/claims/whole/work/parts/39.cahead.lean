/-! the class's outcome of turns ahead -/
def mvr (j : Nat) (g : Gm) : Int32 := if j % 2 = 0 then g 1 2 else 1 - g 1 2
def cntO (cd : Nat → Nat → Int32) (n : Nat) (g : Gm) (p : Int32) : Nat := if g 1 4 < 64 then 1 + min 3 (atP cd n g p 1).length else 1
def bo (f : Nat → Int32) (mx : Bool) : Nat → Int32
  | 0 => 0
  | i + 1 => if i = 0 then f 0 else if mx = true then (if bo f mx i < f i then f i else bo f mx i) else (if f i < bo f mx i then f i else bo f mx i)
def chc (cd : Nat → Nat → Int32) (n j : Nat) (s : Gm × List Nat) (i : Nat) : Gm × List Nat := if i = 0 then s else (plG s.1 ((atP cd n s.1 (mvr j s.1) 1).getD (i - 1) 0), s.2)
noncomputable def otc (cd : Nat → Nat → Int32) (n : Nat) : Nat → Nat → Gm × List Nat → Int32
  | 0, _, s => wor s.1 (s.1 1 2)
  | l + 1, j, s => bo (fun i => otc cd n l (j + 1) (runG cd n (chc cd n j s i))) (decide (j % 2 = 0)) (cntO cd n s.1 (mvr j s.1))
theorem th_ix {j k : Nat} (h : k = 2 + j) (hk : k < 6) : lyC.2.2 48 (nI j).toNatClampNeg = gp k := by
  subst h
  rw [nI_clamp (by omega)]
  exact (by decide +kernel : ∀ j, j < 4 → lyC.2.2 48 j = gp (2 + j)) j (by omega)
def otS (j p : Nat) : Prop := scrS p ∧ 27 + 7 * j ≤ p
theorem ot_blk {j k p : Nat} (h : k = 3 + j) (hk : k < 6) (q : blk k p) : otS j p := by
  refine ⟨blk_scr (by omega) hk q, ?_⟩
  have := q.1
  unfold gp at this
  omega
theorem ot_run {j k p : Nat} (h : k = 3 + j) (hk : k < 6) (q : RunS k 1 p) : otS j p := by
  refine ⟨run_scr (by omega) hk q, ?_⟩
  rcases q with (q | q | q | q) | q | q
  · have := q.1
    unfold gp at this
    omega
  · have := lblk_p q
    omega
  · have h1 := q.1
    unfold yp at h1
    omega
  · rcases q with q | q <;> (unfold ep at q; omega)
  · have h1 := q.1
    omega
  · omega
theorem ot_ot {j p : Nat} (q : otS (j + 1) p) : otS j p := ⟨q.1, by have := q.2; omega⟩
theorem ot_g {j k p : Nat} (h : k = 2 + j) (q : otS j p) : ¬ blk k p := fun z => by
  have h1 := z.2
  have h2 := q.2
  unfold gp at h1
  omega
theorem ot_g2 {j k p : Nat} (h : k = 3 + j) (hk : k < 6) (q : otS (j + 1) p) : ¬ blk k p := ot_g (by omega) q
theorem ot_cd {j p : Nat} (h1 : 1 ≤ p) (h2 : p ≤ 5) : ¬ otS j p := fun q => by
  have := q.2
  omega
theorem wor_of {M : Mem} {k n m : Nat} {g : Gm} {tb : List Nat} {cd : Nat → Nat → Int32} (r : RepG M k n g tb m) (hW : WFg cd n g tb) : woF M k (M.1 (gp k) 11) = wor g (g 1 2) := by
  have r12 : M.1 (gp k) 11 = g 1 2 := r.2.2.2.2.2.2.2.2.2.2.1
  rw [r12, r.wo hW.2.2.2.2.2.1]
  rfl
theorem chc_wf {cd : Nat → Nat → Int32} {n j i : Nat} {s : Gm × List Nat} (hW : WFg cd n s.1 s.2) (hi : i < (atP cd n s.1 (mvr j s.1) 1).length) : WFg cd n (plG s.1 ((atP cd n s.1 (mvr j s.1) 1).getD i 0)) s.2 := by
  obtain ⟨d1, d2, d3⟩ := atP_mem.mp (getD_mem (l := atP cd n s.1 (mvr j s.1) 1) hi)
  exact hW.play d1 d2
theorem cntO_le {cd : Nat → Nat → Int32} {n : Nat} {g : Gm} {p : Int32} : cntO cd n g p ≤ 4 := by
  unfold cntO
  split <;> omega
theorem nthR_ge {l : List Nat} {j : Nat} (h : l.length ≤ j) : nthR l j = -2 := by
  rw [nthR, List.getElem?_eq_none h]
theorem bo_one {f : Nat → Int32} {mx : Bool} : bo f mx 1 = f 0 := rfl
theorem bo_up {f : Nat → Int32} {mx : Bool} {i : Nat} (h : 0 < i) : bo f mx (i + 1) = if mx = true then (if bo f mx i < f i then f i else bo f mx i) else (if f i < bo f mx i then f i else bo f mx i) := by
  rw [bo, if_neg (by omega)]
set_option maxRecDepth 20000 in
theorem c_L_outcome0 {n j k m : Nat} {s : Gm × List Nat} {cd : Nat → Nat → Int32} {M : Mem} (hk : k < 6) (hkj : k = 2 + j) (hcd : CDm M cd) (hR : RepG M k n s.1 s.2 m) (hm : m ≤ psum s.1 n) (hW : WFg cd n s.1 s.2) (hL : ∃ th ev, LGd M 1 th ev) (hl : j + 0 ≤ 3) : Ct lyC y_L_outcome b_L_outcome 13 (some .int) 2 [.ref 48, .ref 75, .ref (op 1), .int (nI j), .int 0] M (Pi fun r M' => r = otc cd n 0 j s ∧ Off (otS j) M M' ∧ ∃ th ev, LGd M' 1 th ev) := by
  refine Ct.ofG mx_L_outcome [some (.ref 48), some (.ref 75), some (.ref (op 1)), some (.int (nI j)), some (.int 0), none, none, none, none, none, none, none, none] rfl rfl (Nat.le_of_ble_eq_true rfl) (fun κ C hQ => ?_)
  refine u_iload_n (pc := 0) C d_L_outcome_0 rfl ?_
  refine u_if_lt (pc := 1) (tgt := 16) C d_L_outcome_1 rfl (fun c1 => ?_) (fun c1 => ?_)
  · exact absurd c1 (nI_pos (by omega))
  · refine u_iload_n (pc := 4) C d_L_outcome_4 rfl ?_
    refine u_aload_n (pc := 5) C d_L_outcome_5 rfl ?_
    refine u_alen (pc := 6) C d_L_outcome_6 sC_48 rfl rfl ?_
    refine u_icmp_ge (pc := 7) (tgt := 16) C d_L_outcome_7 rfl (fun c7 => ?_) (fun c7 => ?_)
    · rw [ofNat_nI] at c7; exact absurd c7 (nI_ge (by omega) (by decide))
    · refine u_aload_n (pc := 10) C d_L_outcome_10 rfl ?_
      refine u_iload_n (pc := 11) C d_L_outcome_11 rfl ?_
      refine u_aaldG (pc := 12) (r := (gp k)) C d_L_outcome_12 sC_48 (vp_in_nI (by omega) (by decide)) (th_ix hkj hk) ?_
      refine u_goto (pc := 13) (tgt := 17) C d_L_outcome_13 rfl ?_
      refine u_astore (pc := 17) C d_L_outcome_17 rfl (fun L9 hL9 => ?_)
      obtain rfl : L9 = [some (.ref 48), some (.ref 75), some (.ref (op 1)), some (.int (nI j)), some (.int 0), some (.ref (gp k)), none, none, none, none, none, none, none] := hL9.symm
      refine u_aload (pc := 19) C d_L_outcome_19 rfl ?_
      refine u_nonnull (pc := 21) (tgt := 27) C d_L_outcome_21 rfl ?_
      refine u_iload (pc := 27) C d_L_outcome_27 rfl ?_
      refine u_if_le (pc := 29) (tgt := 48) C d_L_outcome_29 rfl (fun c29 => ?_) (fun c29 => ?_)
      · refine u_null (pc := 48) C d_L_outcome_48 ?_
        refine u_astoreN (pc := 49) C d_L_outcome_49 rfl (fun L9 hL9 => ?_)
        obtain rfl : L9 = [some (.ref 48), some (.ref 75), some (.ref (op 1)), some (.int (nI j)), some (.int 0), some (.ref (gp k)), some .null, none, none, none, none, none, none] := hL9.symm
        refine u_aloadN (pc := 51) C d_L_outcome_51 rfl ?_
        refine u_nonnullN (pc := 53) C d_L_outcome_53 ?_
        refine u_aload (pc := 56) C d_L_outcome_56 rfl ?_
        refine u_aload (pc := 58) C d_L_outcome_58 rfl ?_
        refine u_geti (pc := 60) C d_L_outcome_60 fw_L_249 (shG0 hk) rfl ?_
        refine u_callVi (pc := 63) C d_L_outcome_63 mx_G_worthTo mw_L_258 (shG0 hk) rfl (c_G_worthTo hk) rfl rfl (Nat.le_of_ble_eq_true rfl) (fun r63 M63 q63 => ?_)
        obtain ⟨e63, q63⟩ := q63
        have q63 := q63.symm
        subst q63
        refine u_iret (pc := 66) C d_L_outcome_66 (hQ _ _ ⟨_, rfl, ?_⟩)
        exact ⟨by rw [e63, wor_of hR hW]; rfl, Off.refl, hL⟩
      · exact absurd (by decide) c29
set_option maxRecDepth 20000 in
theorem lp_otB1 {κ : KX} {k2 : Nat} {x7 : Int32} {n j k m : Nat} {s : Gm × List Nat} {cd : Nat → Nat → Int32} {M0 : Mem} (hk : k < 6) (hkj : k = 2 + j) (hcd : CDm M0 cd) (hR : RepG M0 k n s.1 s.2 m) (hm : m ≤ psum s.1 n) (hW : WFg cd n s.1 s.2) (hl : j + 1 ≤ 3) (hk2 : k2 < 6) (hkj2 : k2 = 3 + j) (hx7 : x7 = if j % 2 = 0 then 1 else 0) (C : Cx κ lyC y_L_outcome.cls b_L_outcome 13 (some .int) 7) (hQ : ∀ v M', Pi (fun r M' => r = otc cd n 1 j s ∧ Off (otS j) M0 M' ∧ ∃ th ev, LGd M' 1 th ev) v M' → KQ κ v M')  : ∀ (f i : Nat) (x9 : Int32) (M : Mem), 5 - i < f → 0 < i → i ≤ cntO cd n s.1 (mvr j s.1) → Off (otS j) M0 M → (∃ th ev, LGd M 1 th ev) → x9 = bo (fun i => otc cd n 0 (j + 1) (runG cd n (chc cd n j s i))) (decide (j % 2 = 0)) i → G κ lyC 108 [some (.ref 48), some (.ref 75), some (.ref (op 1)), some (.int (nI j)), some (.int 1), some (.ref (gp k)), some (.ref (gp k2)), some (.int x7), some (.int (mvr j s.1)), some (.int x9), some (.int (nI i)), none, none] [] M := by
  intro f
  induction f with
  | zero => intro i x9 M h; omega
  | succ f ih =>
    intro i x9 M hf hi0 hic ho hL hx9
    have hR1 := hR.off ho (fun p q => ot_g hkj q)
    have hcd1 := hcd.off ho (fun p h1 h2 => ot_cd h1 h2)
    obtain ⟨th1, ev1, hL1⟩ := hL
    obtain ⟨h, h64, hh⟩ := hW.hb
    obtain ⟨htl, hbn, hb24⟩ := hW.tl
    have hn := hW.1.1
    have hh64 : (s.1 1 4).toNatClampNeg ≤ 64 := by rw [hh, nI_clamp (by omega)]; exact h64
    have r10 : M.1 (gp k) 9 = s.1 1 4 := hR1.2.2.2.2.2.2.2.2.1
    have hc4 := cntO_le (cd := cd) (n := n) (g := s.1) (p := mvr j s.1)
    have hi3 : 3 < nI i ↔ 3 < i := nI_ltI (a := 3) (by omega) (by omega)
    have hin : ¬ nI i = 0 := fun q => by
      have := (nI_eq (a := i) (b := 0) (by omega) (by omega)).mp q
      omega
    have hip : ¬ nI i ≤ 0 := fun q => by
      have := (nI_leI (a := i) (b := 0) (by omega) (by omega)).mp q
      omega
    refine u_iload (pc := 108) C d_L_outcome_108 rfl ?_
    refine u_iconst (pc := 110) (v := 3) C d_L_outcome_110 (by decide) ?_
    refine u_icmp_gt (pc := 111) (tgt := 239) C d_L_outcome_111 rfl (fun c111 => ?_) (fun c111 => ?_)
    · refine u_iload (pc := 239) C d_L_outcome_239 rfl ?_
      refine u_iret (pc := 241) C d_L_outcome_241 (hQ _ _ ⟨_, rfl, ?_⟩)
      have hi4 : i = cntO cd n s.1 (mvr j s.1) := by
        rw [hi3] at c111
        omega
      refine ⟨?_, ho, th1, ev1, hL1⟩
      rw [hx9, hi4]
      rfl
    · refine u_iload (pc := 114) C d_L_outcome_114 rfl ?_
      refine u_if_ne (pc := 116) (tgt := 124) C d_L_outcome_116 rfl (fun c116 => ?_) (fun c116 => ?_)
      · refine u_aload (pc := 124) C d_L_outcome_124 rfl ?_
        refine u_iload (pc := 126) C d_L_outcome_126 rfl ?_
        refine u_iconst (pc := 128) (v := 1) C d_L_outcome_128 (by decide) ?_
        refine u_iload (pc := 129) C d_L_outcome_129 rfl ?_
        refine u_iconst (pc := 131) (v := 1) C d_L_outcome_131 (by decide) ?_
        refine u_isub (pc := 132) C d_L_outcome_132 ?_
        rw [nI_sub1 hi0]
        refine u_callVi (pc := 133) C d_L_outcome_133 mx_G_nthIn mw_L_265 (shG0 hk) rfl (c_G_nthIn hk hR1 hcd1 hn (by omega)) rfl rfl (Nat.le_of_ble_eq_true rfl) (fun r133 M133 q133 => ?_)
        obtain ⟨e133, q133⟩ := q133
        have q133 := q133.symm
        subst q133
        refine u_istore (pc := 136) C d_L_outcome_136 rfl (fun x136 e136 L9 hL9 => ?_)
        obtain rfl : L9 = [some (.ref 48), some (.ref 75), some (.ref (op 1)), some (.int (nI j)), some (.int 1), some (.ref (gp k)), some (.ref (gp k2)), some (.int x7), some (.int (mvr j s.1)), some (.int x9), some (.int (nI i)), some (.int x136), none] := hL9.symm
        refine u_iload (pc := 138) C d_L_outcome_138 rfl ?_
        refine u_if_le (pc := 140) (tgt := 161) C d_L_outcome_140 rfl (fun c140 => ?_) (fun c140 => ?_)
        · exact absurd c140 hip
        · refine u_iload (pc := 143) C d_L_outcome_143 rfl ?_
          refine u_if_lt (pc := 145) (tgt := 239) C d_L_outcome_145 rfl (fun c145 => ?_) (fun c145 => ?_)
          · refine u_iload (pc := 239) C d_L_outcome_239 rfl ?_
            refine u_iret (pc := 241) C d_L_outcome_241 (hQ _ _ ⟨_, rfl, ?_⟩)
            have hlen : (atP cd n s.1 (mvr j s.1) 1).length ≤ i - 1 := by
              rcases Nat.lt_or_ge (i - 1) (atP cd n s.1 (mvr j s.1) 1).length with z | z
              · obtain ⟨d1, d2, d3⟩ := atP_mem.mp (getD_mem (l := atP cd n s.1 (mvr j s.1) 1) z)
                rw [e136, e133, nthR_lt z] at c145
                exact absurd c145 (nI_pos (by omega))
              · exact z
            have hi4 : i = cntO cd n s.1 (mvr j s.1) := by
              unfold cntO at hic ⊢
              split
              · rename_i q
                rw [if_pos q] at hic
                omega
              · rename_i q
                rw [if_neg q] at hic
                omega
            refine ⟨?_, ho, th1, ev1, hL1⟩
            rw [hx9, hi4]
            rfl
          · refine u_aload (pc := 148) C d_L_outcome_148 rfl ?_
            refine u_geti (pc := 150) C d_L_outcome_150 fw_L_211 (shG0 hk) rfl ?_
            refine u_bipush (pc := 153) (v := 64) C d_L_outcome_153 (by decide) ?_
            refine u_icmp_lt (pc := 155) (tgt := 161) C d_L_outcome_155 rfl (fun c155 => ?_) (fun c155 => ?_)
            · have c155 : M.1 (gp k) 9 < 64 := c155
              rw [r10] at c155
              have hlen : i - 1 < (atP cd n s.1 (mvr j s.1) 1).length := by
                rcases Nat.lt_or_ge (i - 1) (atP cd n s.1 (mvr j s.1) 1).length with z | z
                · exact z
                · rw [e136, e133, nthR_ge z] at c145
                  exact absurd (by decide) c145
              have e9 : x136 = nI ((atP cd n s.1 (mvr j s.1) 1).getD (i - 1) 0) := by rw [e136, e133, nthR_lt hlen]
              clear e136
              subst e9
              obtain ⟨d1, d2, d3⟩ := atP_mem.mp (getD_mem (l := atP cd n s.1 (mvr j s.1) 1) hlen)
              have hchc : chc cd n j s i = (plG s.1 ((atP cd n s.1 (mvr j s.1) 1).getD (i - 1) 0), s.2) := by rw [chc, if_neg (by omega)]
              have hW2 : WFg cd n (plG s.1 ((atP cd n s.1 (mvr j s.1) 1).getD (i - 1) 0)) s.2 := hW.play d1 d2
              have hm2 : m + 1 ≤ psum (plG s.1 ((atP cd n s.1 (mvr j s.1) 1).getD (i - 1) 0)) n := (mvd.play d1 d2).le hm
              have hi9 : i ≤ 3 := by
                have q := c111
                rw [hi3] at q
                omega
              have hcnt : i + 1 ≤ cntO cd n s.1 (mvr j s.1) := by
                unfold cntO at hic ⊢
                rw [if_pos c155] at hic ⊢
                omega
              refine u_aload (pc := 161) C d_L_outcome_161 rfl ?_
              refine u_aload (pc := 163) C d_L_outcome_163 rfl ?_
              refine u_callVv (pc := 165) C d_L_outcome_165 mx_G_copyFrom mw_L_252 (shG0 hk2) rfl (c_G_copyFrom (k := k2) (k2 := k) hk2 hk (by omega) hR1 htl hb24 hh64) rfl rfl (Nat.le_of_ble_eq_true rfl) (fun M165 q165 => ?_)
              obtain ⟨tR, tO⟩ := q165
              have tL := hL1.off tO (fun p q => g_l hk2 q)
              have tcd := hcd1.off tO (fun p h1 h2 => blk_cd h1 h2)
              have tH := ho.trans (tO.mono (fun p q => ot_blk hkj2 hk2 q))
              refine u_iload (pc := 168) C d_L_outcome_168 rfl ?_
              refine u_if_le (pc := 170) (tgt := 180) C d_L_outcome_170 rfl (fun c170 => ?_) (fun c170 => ?_)
              · exact absurd c170 hip
              · refine u_aload (pc := 173) C d_L_outcome_173 rfl ?_
                refine u_iload (pc := 175) C d_L_outcome_175 rfl ?_
                refine u_callVv (pc := 177) C d_L_outcome_177 mx_G_playCard mw_L_214 (shG0 hk2) rfl (c_G_playCard hk2) rfl rfl (Nat.le_of_ble_eq_true rfl) (fun M177 q177 => ?_)
                have q177 := q177.symm
                subst q177
                have tR2 := tR.pl hh h64 (show (atP cd n s.1 (mvr j s.1) 1).getD (i - 1) 0 < 24 by omega) c155
                have tO2 : Off (blk k2) M165 (plF M165 k2 (nI ((atP cd n s.1 (mvr j s.1) 1).getD (i - 1) 0))) := plF_off
                have tL2 := tL.off tO2 (fun p q => g_l hk2 q)
                have tcd2 := tcd.off tO2 (fun p h1 h2 => blk_cd h1 h2)
                have tH2 := tH.trans (tO2.mono (fun p q => ot_blk hkj2 hk2 q))
                refine u_aload_n (pc := 180) C d_L_outcome_180 rfl ?_
                refine u_aload (pc := 181) C d_L_outcome_181 rfl ?_
                refine u_aload_n (pc := 183) C d_L_outcome_183 rfl ?_
                refine u_callVv (pc := 184) C d_L_outcome_184 mx_R_runPile mw_L_227 sC_75 rfl (c_R_runPile (k := k2) (b := 1) hk2 (by decide) hW2 tcd2 tR2 hm2 tL2) rfl rfl (Nat.le_of_ble_eq_true rfl) (fun M184 q184 => ?_)
                obtain ⟨t, m2, t200, kRun, k7, kR, kM, kW, kL, kO⟩ := q184
                have kx := runR_eq kRun
                have kcd := tcd2.off kO (fun p h1 h2 q => ot_cd (j := j) h1 h2 (ot_run hkj2 hk2 q))
                have kH := tH2.trans (kO.mono (fun p q => ot_run hkj2 hk2 q))
                refine u_aload_n (pc := 187) C d_L_outcome_187 rfl ?_
                refine u_aload_n (pc := 188) C d_L_outcome_188 rfl ?_
                refine u_aload_n (pc := 189) C d_L_outcome_189 rfl ?_
                refine u_iload_n (pc := 190) C d_L_outcome_190 rfl ?_
                refine u_iconst (pc := 191) (v := 1) C d_L_outcome_191 (by decide) ?_
                refine u_iadd (pc := 192) C d_L_outcome_192 ?_
                refine u_iload (pc := 193) C d_L_outcome_193 rfl ?_
                refine u_iconst (pc := 195) (v := 1) C d_L_outcome_195 (by decide) ?_
                refine u_isub (pc := 196) C d_L_outcome_196 ?_
                rw [← nI_succ, show (1 : Int32) - 1 = 0 from rfl]
                refine u_callSi (pc := 197) C d_L_outcome_197 mx_L_outcome mw_L_261 (c_L_outcome0 hk2 (by omega) kcd kR kM kW ⟨_, _, kL⟩ (by omega)) rfl rfl (Nat.le_of_ble_eq_true rfl) (fun r197 M197 q197 => ?_)
                obtain ⟨e197, oO, oL⟩ := q197
                have oH := kH.trans (oO.mono (fun p q => ot_ot q))
                refine u_istore (pc := 200) C d_L_outcome_200 rfl (fun x200 e200 L9 hL9 => ?_)
                obtain rfl : L9 = [some (.ref 48), some (.ref 75), some (.ref (op 1)), some (.int (nI j)), some (.int 1), some (.ref (gp k)), some (.ref (gp k2)), some (.int x7), some (.int (mvr j s.1)), some (.int x9), some (.int (nI i)), some (.int (nI ((atP cd n s.1 (mvr j s.1) 1).getD (i - 1) 0))), some (.int x200)] := hL9.symm
                have eF : x200 = otc cd n 0 (j + 1) (runG cd n (chc cd n j s i)) := by
                  rw [e200, e197]
                  rw [hchc, runG, kx]
                refine u_iload (pc := 202) C d_L_outcome_202 rfl ?_
                refine u_if_eq (pc := 204) (tgt := 229) C d_L_outcome_204 rfl (fun c204 => ?_) (fun c204 => ?_)
                · exact absurd c204 hin
                · refine u_iload (pc := 207) C d_L_outcome_207 rfl ?_
                  refine u_if_eq (pc := 209) (tgt := 222) C d_L_outcome_209 rfl (fun c209 => ?_) (fun c209 => ?_)
                  · refine u_iload (pc := 222) C d_L_outcome_222 rfl ?_
                    refine u_iload (pc := 224) C d_L_outcome_224 rfl ?_
                    refine u_icmp_ge (pc := 226) (tgt := 233) C d_L_outcome_226 rfl (fun c226 => ?_) (fun c226 => ?_)
                    · refine u_iinc (pc := 233) (v2 := 1) C d_L_outcome_233 rfl rfl (by decide) (fun x233 e233 L9 hL9 => ?_)
                      obtain rfl : L9 = [some (.ref 48), some (.ref 75), some (.ref (op 1)), some (.int (nI j)), some (.int 1), some (.ref (gp k)), some (.ref (gp k2)), some (.int x7), some (.int (mvr j s.1)), some (.int x9), some (.int x233), some (.int (nI ((atP cd n s.1 (mvr j s.1) 1).getD (i - 1) 0))), some (.int x200)] := hL9.symm
                      refine u_goto (pc := 236) (tgt := 108) C d_L_outcome_236 rfl ?_
                      obtain rfl : x233 = nI (i + 1) := by rw [e233, nI_succ]
                      refine u_drop 11 rfl ?_
                      refine u_drop 12 rfl ?_
                      refine ih (i + 1) _ _ (by omega) (by omega) hcnt oH oL ?_
                      rw [bo_up hi0, ← hx9, ← eF]
                      have hj : ¬ j % 2 = 0 := fun z => by
                        rw [hx7, if_pos z] at c209
                        exact absurd c209 (by decide)
                      rw [if_neg (by simpa using hj)]
                      rw [if_neg (Int32.not_lt.mpr c226)]
                    · refine u_iload (pc := 229) C d_L_outcome_229 rfl ?_
                      refine u_istore (pc := 231) C d_L_outcome_231 rfl (fun x231 e231 L9 hL9 => ?_)
                      obtain rfl : L9 = [some (.ref 48), some (.ref 75), some (.ref (op 1)), some (.int (nI j)), some (.int 1), some (.ref (gp k)), some (.ref (gp k2)), some (.int x7), some (.int (mvr j s.1)), some (.int x231), some (.int (nI i)), some (.int (nI ((atP cd n s.1 (mvr j s.1) 1).getD (i - 1) 0))), some (.int x200)] := hL9.symm
                      refine u_iinc (pc := 233) (v2 := 1) C d_L_outcome_233 rfl rfl (by decide) (fun x233 e233 L9 hL9 => ?_)
                      obtain rfl : L9 = [some (.ref 48), some (.ref 75), some (.ref (op 1)), some (.int (nI j)), some (.int 1), some (.ref (gp k)), some (.ref (gp k2)), some (.int x7), some (.int (mvr j s.1)), some (.int x231), some (.int x233), some (.int (nI ((atP cd n s.1 (mvr j s.1) 1).getD (i - 1) 0))), some (.int x200)] := hL9.symm
                      refine u_goto (pc := 236) (tgt := 108) C d_L_outcome_236 rfl ?_
                      obtain rfl : x233 = nI (i + 1) := by rw [e233, nI_succ]
                      refine u_drop 11 rfl ?_
                      refine u_drop 12 rfl ?_
                      refine ih (i + 1) _ _ (by omega) (by omega) hcnt oH oL ?_
                      rw [bo_up hi0, ← hx9, ← eF]
                      have hj : ¬ j % 2 = 0 := fun z => by
                        rw [hx7, if_pos z] at c209
                        exact absurd c209 (by decide)
                      rw [if_neg (by simpa using hj)]
                      rw [if_pos (Int32.not_le.mp c226), e231]
                  · refine u_iload (pc := 212) C d_L_outcome_212 rfl ?_
                    refine u_iload (pc := 214) C d_L_outcome_214 rfl ?_
                    refine u_icmp_le (pc := 216) (tgt := 233) C d_L_outcome_216 rfl (fun c216 => ?_) (fun c216 => ?_)
                    · refine u_iinc (pc := 233) (v2 := 1) C d_L_outcome_233 rfl rfl (by decide) (fun x233 e233 L9 hL9 => ?_)
                      obtain rfl : L9 = [some (.ref 48), some (.ref 75), some (.ref (op 1)), some (.int (nI j)), some (.int 1), some (.ref (gp k)), some (.ref (gp k2)), some (.int x7), some (.int (mvr j s.1)), some (.int x9), some (.int x233), some (.int (nI ((atP cd n s.1 (mvr j s.1) 1).getD (i - 1) 0))), some (.int x200)] := hL9.symm
                      refine u_goto (pc := 236) (tgt := 108) C d_L_outcome_236 rfl ?_
                      obtain rfl : x233 = nI (i + 1) := by rw [e233, nI_succ]
                      refine u_drop 11 rfl ?_
                      refine u_drop 12 rfl ?_
                      refine ih (i + 1) _ _ (by omega) (by omega) hcnt oH oL ?_
                      rw [bo_up hi0, ← hx9, ← eF]
                      have hj : j % 2 = 0 := by
                        rcases Classical.em (j % 2 = 0) with z | z
                        · exact z
                        · rw [hx7, if_neg z] at c209
                          exact absurd rfl c209
                      rw [if_pos (by simpa using hj)]
                      rw [if_neg (Int32.not_lt.mpr c216)]
                    · refine u_goto (pc := 219) (tgt := 229) C d_L_outcome_219 rfl ?_
                      refine u_iload (pc := 229) C d_L_outcome_229 rfl ?_
                      refine u_istore (pc := 231) C d_L_outcome_231 rfl (fun x231 e231 L9 hL9 => ?_)
                      obtain rfl : L9 = [some (.ref 48), some (.ref 75), some (.ref (op 1)), some (.int (nI j)), some (.int 1), some (.ref (gp k)), some (.ref (gp k2)), some (.int x7), some (.int (mvr j s.1)), some (.int x231), some (.int (nI i)), some (.int (nI ((atP cd n s.1 (mvr j s.1) 1).getD (i - 1) 0))), some (.int x200)] := hL9.symm
                      refine u_iinc (pc := 233) (v2 := 1) C d_L_outcome_233 rfl rfl (by decide) (fun x233 e233 L9 hL9 => ?_)
                      obtain rfl : L9 = [some (.ref 48), some (.ref 75), some (.ref (op 1)), some (.int (nI j)), some (.int 1), some (.ref (gp k)), some (.ref (gp k2)), some (.int x7), some (.int (mvr j s.1)), some (.int x231), some (.int x233), some (.int (nI ((atP cd n s.1 (mvr j s.1) 1).getD (i - 1) 0))), some (.int x200)] := hL9.symm
                      refine u_goto (pc := 236) (tgt := 108) C d_L_outcome_236 rfl ?_
                      obtain rfl : x233 = nI (i + 1) := by rw [e233, nI_succ]
                      refine u_drop 11 rfl ?_
                      refine u_drop 12 rfl ?_
                      refine ih (i + 1) _ _ (by omega) (by omega) hcnt oH oL ?_
                      rw [bo_up hi0, ← hx9, ← eF]
                      have hj : j % 2 = 0 := by
                        rcases Classical.em (j % 2 = 0) with z | z
                        · exact z
                        · rw [hx7, if_neg z] at c209
                          exact absurd rfl c209
                      rw [if_pos (by simpa using hj)]
                      rw [if_pos (Int32.not_le.mp c216), e231]
            · refine u_goto (pc := 158) (tgt := 239) C d_L_outcome_158 rfl ?_
              refine u_iload (pc := 239) C d_L_outcome_239 rfl ?_
              refine u_iret (pc := 241) C d_L_outcome_241 (hQ _ _ ⟨_, rfl, ?_⟩)
              have c155 : ¬ M.1 (gp k) 9 < 64 := c155
              rw [r10] at c155
              have hi4 : i = cntO cd n s.1 (mvr j s.1) := by
                unfold cntO at hic ⊢
                rw [if_neg c155] at hic ⊢
                omega
              refine ⟨?_, ho, th1, ev1, hL1⟩
              rw [hx9, hi4]
              rfl
      · exact absurd c116 hin
set_option maxRecDepth 20000 in
theorem lp_otA1 {κ : KX} {k2 : Nat} {x7 : Int32} {n j k m : Nat} {s : Gm × List Nat} {cd : Nat → Nat → Int32} {M0 : Mem} (hk : k < 6) (hkj : k = 2 + j) (hcd : CDm M0 cd) (hR : RepG M0 k n s.1 s.2 m) (hm : m ≤ psum s.1 n) (hW : WFg cd n s.1 s.2) (hl : j + 1 ≤ 3) (hk2 : k2 < 6) (hkj2 : k2 = 3 + j) (hx7 : x7 = if j % 2 = 0 then 1 else 0) {x9 : Int32} (hm0 : m ≤ psum s.1 n) (C : Cx κ lyC y_L_outcome.cls b_L_outcome 13 (some .int) 7) (hQ : ∀ v M', Pi (fun r M' => r = otc cd n 1 j s ∧ Off (otS j) M0 M' ∧ ∃ th ev, LGd M' 1 th ev) v M' → KQ κ v M')  : ∀ (M : Mem), Off (otS j) M0 M → (∃ th ev, LGd M 1 th ev) → G κ lyC 108 [some (.ref 48), some (.ref 75), some (.ref (op 1)), some (.int (nI j)), some (.int 1), some (.ref (gp k)), some (.ref (gp k2)), some (.int x7), some (.int (mvr j s.1)), some (.int x9), some (.int 0), none, none] [] M := by
  intro M ho hL
  have hR1 := hR.off ho (fun p q => ot_g hkj q)
  have hcd1 := hcd.off ho (fun p h1 h2 => ot_cd h1 h2)
  obtain ⟨th1, ev1, hL1⟩ := hL
  obtain ⟨h, h64, hh⟩ := hW.hb
  obtain ⟨htl, hbn, hb24⟩ := hW.tl
  have hn := hW.1.1
  have hh64 : (s.1 1 4).toNatClampNeg ≤ 64 := by rw [hh, nI_clamp (by omega)]; exact h64
  have r10 : M.1 (gp k) 9 = s.1 1 4 := hR1.2.2.2.2.2.2.2.2.1
  refine u_iload (pc := 108) C d_L_outcome_108 rfl ?_
  refine u_iconst (pc := 110) (v := 3) C d_L_outcome_110 (by decide) ?_
  refine u_icmp_gt (pc := 111) (tgt := 239) C d_L_outcome_111 rfl (fun c111 => ?_) (fun c111 => ?_)
  · exact absurd c111 (by decide)
  · refine u_iload (pc := 114) C d_L_outcome_114 rfl ?_
    refine u_if_ne (pc := 116) (tgt := 124) C d_L_outcome_116 rfl (fun c116 => ?_) (fun c116 => ?_)
    · exact absurd rfl c116
    · refine u_bipush (pc := 119) (v := (-2)) C d_L_outcome_119 (by decide) ?_
      refine u_goto (pc := 121) (tgt := 136) C d_L_outcome_121 rfl ?_
      refine u_istore (pc := 136) C d_L_outcome_136 rfl (fun x136 e136 L9 hL9 => ?_)
      obtain rfl : L9 = [some (.ref 48), some (.ref 75), some (.ref (op 1)), some (.int (nI j)), some (.int 1), some (.ref (gp k)), some (.ref (gp k2)), some (.int x7), some (.int (mvr j s.1)), some (.int x9), some (.int 0), some (.int x136), none] := hL9.symm
      refine u_iload (pc := 138) C d_L_outcome_138 rfl ?_
      refine u_if_le (pc := 140) (tgt := 161) C d_L_outcome_140 rfl (fun c140 => ?_) (fun c140 => ?_)
      · refine u_aload (pc := 161) C d_L_outcome_161 rfl ?_
        refine u_aload (pc := 163) C d_L_outcome_163 rfl ?_
        refine u_callVv (pc := 165) C d_L_outcome_165 mx_G_copyFrom mw_L_252 (shG0 hk2) rfl (c_G_copyFrom (k := k2) (k2 := k) hk2 hk (by omega) hR1 htl hb24 hh64) rfl rfl (Nat.le_of_ble_eq_true rfl) (fun M165 q165 => ?_)
        obtain ⟨tR, tO⟩ := q165
        have tL := hL1.off tO (fun p q => g_l hk2 q)
        have tcd := hcd1.off tO (fun p h1 h2 => blk_cd h1 h2)
        have tH := ho.trans (tO.mono (fun p q => ot_blk hkj2 hk2 q))
        refine u_iload (pc := 168) C d_L_outcome_168 rfl ?_
        refine u_if_le (pc := 170) (tgt := 180) C d_L_outcome_170 rfl (fun c170 => ?_) (fun c170 => ?_)
        · refine u_aload_n (pc := 180) C d_L_outcome_180 rfl ?_
          refine u_aload (pc := 181) C d_L_outcome_181 rfl ?_
          refine u_aload_n (pc := 183) C d_L_outcome_183 rfl ?_
          refine u_callVv (pc := 184) C d_L_outcome_184 mx_R_runPile mw_L_227 sC_75 rfl (c_R_runPile (k := k2) (b := 1) hk2 (by decide) hW tcd tR hm tL) rfl rfl (Nat.le_of_ble_eq_true rfl) (fun M184 q184 => ?_)
          obtain ⟨t, m2, t200, kRun, k7, kR, kM, kW, kL, kO⟩ := q184
          have kx := runR_eq kRun
          have kcd := tcd.off kO (fun p h1 h2 q => ot_cd (j := j) h1 h2 (ot_run hkj2 hk2 q))
          have kH := tH.trans (kO.mono (fun p q => ot_run hkj2 hk2 q))
          refine u_aload_n (pc := 187) C d_L_outcome_187 rfl ?_
          refine u_aload_n (pc := 188) C d_L_outcome_188 rfl ?_
          refine u_aload_n (pc := 189) C d_L_outcome_189 rfl ?_
          refine u_iload_n (pc := 190) C d_L_outcome_190 rfl ?_
          refine u_iconst (pc := 191) (v := 1) C d_L_outcome_191 (by decide) ?_
          refine u_iadd (pc := 192) C d_L_outcome_192 ?_
          refine u_iload (pc := 193) C d_L_outcome_193 rfl ?_
          refine u_iconst (pc := 195) (v := 1) C d_L_outcome_195 (by decide) ?_
          refine u_isub (pc := 196) C d_L_outcome_196 ?_
          rw [← nI_succ, show (1 : Int32) - 1 = 0 from rfl]
          refine u_callSi (pc := 197) C d_L_outcome_197 mx_L_outcome mw_L_261 (c_L_outcome0 hk2 (by omega) kcd kR kM kW ⟨_, _, kL⟩ (by omega)) rfl rfl (Nat.le_of_ble_eq_true rfl) (fun r197 M197 q197 => ?_)
          obtain ⟨e197, oO, oL⟩ := q197
          have oH := kH.trans (oO.mono (fun p q => ot_ot q))
          refine u_istore (pc := 200) C d_L_outcome_200 rfl (fun x200 e200 L9 hL9 => ?_)
          obtain rfl : L9 = [some (.ref 48), some (.ref 75), some (.ref (op 1)), some (.int (nI j)), some (.int 1), some (.ref (gp k)), some (.ref (gp k2)), some (.int x7), some (.int (mvr j s.1)), some (.int x9), some (.int 0), some (.int x136), some (.int x200)] := hL9.symm
          refine u_iload (pc := 202) C d_L_outcome_202 rfl ?_
          refine u_if_eq (pc := 204) (tgt := 229) C d_L_outcome_204 rfl (fun c204 => ?_) (fun c204 => ?_)
          · refine u_iload (pc := 229) C d_L_outcome_229 rfl ?_
            refine u_istore (pc := 231) C d_L_outcome_231 rfl (fun x231 e231 L9 hL9 => ?_)
            obtain rfl : L9 = [some (.ref 48), some (.ref 75), some (.ref (op 1)), some (.int (nI j)), some (.int 1), some (.ref (gp k)), some (.ref (gp k2)), some (.int x7), some (.int (mvr j s.1)), some (.int x231), some (.int 0), some (.int x136), some (.int x200)] := hL9.symm
            refine u_iinc (pc := 233) (v2 := 1) C d_L_outcome_233 rfl rfl (by decide) (fun x233 e233 L9 hL9 => ?_)
            obtain rfl : L9 = [some (.ref 48), some (.ref 75), some (.ref (op 1)), some (.int (nI j)), some (.int 1), some (.ref (gp k)), some (.ref (gp k2)), some (.int x7), some (.int (mvr j s.1)), some (.int x231), some (.int x233), some (.int x136), some (.int x200)] := hL9.symm
            refine u_goto (pc := 236) (tgt := 108) C d_L_outcome_236 rfl ?_
            obtain rfl : x233 = nI 1 := by rw [e233]; rfl
            refine u_drop 11 rfl ?_
            refine u_drop 12 rfl ?_
            refine lp_otB1 hk hkj hcd hR hm hW hl hk2 hkj2 hx7 C hQ 5 1 _ _ (by omega) (by omega) (by unfold cntO; split <;> omega) oH oL ?_
            rw [bo_one, e231, e200, e197]
            show _ = otc cd n 0 (j + 1) (runG cd n (chc cd n j s 0))
            rw [chc, if_pos rfl, runG, kx]
          · exact absurd rfl c204
        · exact absurd (by decide) c170
      · exact absurd (by decide) c140
set_option maxRecDepth 20000 in
theorem lp_ot801 {κ : KX} {k2 : Nat} {x7 : Int32} {n j k m : Nat} {s : Gm × List Nat} {cd : Nat → Nat → Int32} {M0 : Mem} (hk : k < 6) (hkj : k = 2 + j) (hcd : CDm M0 cd) (hR : RepG M0 k n s.1 s.2 m) (hm : m ≤ psum s.1 n) (hW : WFg cd n s.1 s.2) (hl : j + 1 ≤ 3) (hk2 : k2 < 6) (hkj2 : k2 = 3 + j) (hx7 : x7 = if j % 2 = 0 then 1 else 0) (C : Cx κ lyC y_L_outcome.cls b_L_outcome 13 (some .int) 7) (hQ : ∀ v M', Pi (fun r M' => r = otc cd n 1 j s ∧ Off (otS j) M0 M' ∧ ∃ th ev, LGd M' 1 th ev) v M' → KQ κ v M')  : (∃ th ev, LGd M0 1 th ev) → G κ lyC 80 [some (.ref 48), some (.ref 75), some (.ref (op 1)), some (.int (nI j)), some (.int 1), some (.ref (gp k)), some (.ref (gp k2)), some (.int x7), none, none, none, none, none] [] M0 := by
  intro hL
  have r12 : M0.1 (gp k) 11 = s.1 1 2 := hR.2.2.2.2.2.2.2.2.2.2.1
  refine u_iload (pc := 80) C d_L_outcome_80 rfl ?_
  refine u_if_eq (pc := 82) (tgt := 93) C d_L_outcome_82 rfl (fun c82 => ?_) (fun c82 => ?_)
  · refine u_iconst (pc := 93) (v := 1) C d_L_outcome_93 (by decide) ?_
    refine u_aload (pc := 94) C d_L_outcome_94 rfl ?_
    refine u_geti (pc := 96) C d_L_outcome_96 fw_L_249 (shG0 hk) rfl ?_
    refine u_isub (pc := 99) C d_L_outcome_99 ?_
    refine u_istore (pc := 100) C d_L_outcome_100 rfl (fun x100 e100 L9 hL9 => ?_)
    obtain rfl : L9 = [some (.ref 48), some (.ref 75), some (.ref (op 1)), some (.int (nI j)), some (.int 1), some (.ref (gp k)), some (.ref (gp k2)), some (.int x7), some (.int x100), none, none, none, none] := hL9.symm
    refine u_iconst (pc := 102) (v := 0) C d_L_outcome_102 (by decide) ?_
    refine u_istore (pc := 103) C d_L_outcome_103 rfl (fun x103 e103 L9 hL9 => ?_)
    obtain rfl : L9 = [some (.ref 48), some (.ref 75), some (.ref (op 1)), some (.int (nI j)), some (.int 1), some (.ref (gp k)), some (.ref (gp k2)), some (.int x7), some (.int x100), some (.int x103), none, none, none] := hL9.symm
    refine u_iconst (pc := 105) (v := 0) C d_L_outcome_105 (by decide) ?_
    refine u_istore (pc := 106) C d_L_outcome_106 rfl (fun x106 e106 L9 hL9 => ?_)
    obtain rfl : L9 = [some (.ref 48), some (.ref 75), some (.ref (op 1)), some (.int (nI j)), some (.int 1), some (.ref (gp k)), some (.ref (gp k2)), some (.int x7), some (.int x100), some (.int x103), some (.int x106), none, none] := hL9.symm
    subst e106
    have hmv : x100 = mvr j s.1 := by
      rw [e100, r12, mvr, if_neg (fun z => by rw [hx7, if_pos z] at c82; exact absurd c82 (by decide))]
    subst hmv
    exact lp_otA1 hk hkj hcd hR hm hW hl hk2 hkj2 hx7 hm C hQ M0 Off.refl hL
  · refine u_aload (pc := 85) C d_L_outcome_85 rfl ?_
    refine u_geti (pc := 87) C d_L_outcome_87 fw_L_249 (shG0 hk) rfl ?_
    refine u_goto (pc := 90) (tgt := 100) C d_L_outcome_90 rfl ?_
    refine u_istore (pc := 100) C d_L_outcome_100 rfl (fun x100 e100 L9 hL9 => ?_)
    obtain rfl : L9 = [some (.ref 48), some (.ref 75), some (.ref (op 1)), some (.int (nI j)), some (.int 1), some (.ref (gp k)), some (.ref (gp k2)), some (.int x7), some (.int x100), none, none, none, none] := hL9.symm
    refine u_iconst (pc := 102) (v := 0) C d_L_outcome_102 (by decide) ?_
    refine u_istore (pc := 103) C d_L_outcome_103 rfl (fun x103 e103 L9 hL9 => ?_)
    obtain rfl : L9 = [some (.ref 48), some (.ref 75), some (.ref (op 1)), some (.int (nI j)), some (.int 1), some (.ref (gp k)), some (.ref (gp k2)), some (.int x7), some (.int x100), some (.int x103), none, none, none] := hL9.symm
    refine u_iconst (pc := 105) (v := 0) C d_L_outcome_105 (by decide) ?_
    refine u_istore (pc := 106) C d_L_outcome_106 rfl (fun x106 e106 L9 hL9 => ?_)
    obtain rfl : L9 = [some (.ref 48), some (.ref 75), some (.ref (op 1)), some (.int (nI j)), some (.int 1), some (.ref (gp k)), some (.ref (gp k2)), some (.int x7), some (.int x100), some (.int x103), some (.int x106), none, none] := hL9.symm
    subst e106
    have hmv : x100 = mvr j s.1 := by
      rw [e100, r12, mvr, if_pos (Classical.byContradiction (fun z => c82 (by rw [hx7, if_neg z])))]
    subst hmv
    exact lp_otA1 hk hkj hcd hR hm hW hl hk2 hkj2 hx7 hm C hQ M0 Off.refl hL
set_option maxRecDepth 20000 in
theorem c_L_outcome1 {n j k m : Nat} {s : Gm × List Nat} {cd : Nat → Nat → Int32} {M : Mem} (hk : k < 6) (hkj : k = 2 + j) (hcd : CDm M cd) (hR : RepG M k n s.1 s.2 m) (hm : m ≤ psum s.1 n) (hW : WFg cd n s.1 s.2) (hL : ∃ th ev, LGd M 1 th ev) (hl : j + 1 ≤ 3) : Ct lyC y_L_outcome b_L_outcome 13 (some .int) 7 [.ref 48, .ref 75, .ref (op 1), .int (nI j), .int 1] M (Pi fun r M' => r = otc cd n 1 j s ∧ Off (otS j) M M' ∧ ∃ th ev, LGd M' 1 th ev) := by
  obtain ⟨k2, hkj2⟩ : ∃ k2, k2 = 3 + j := ⟨_, rfl⟩
  have hk2 : k2 < 6 := by omega
  refine Ct.ofG mx_L_outcome [some (.ref 48), some (.ref 75), some (.ref (op 1)), some (.int (nI j)), some (.int 1), none, none, none, none, none, none, none, none] rfl rfl (Nat.le_of_ble_eq_true rfl) (fun κ C hQ => ?_)
  refine u_iload_n (pc := 0) C d_L_outcome_0 rfl ?_
  refine u_if_lt (pc := 1) (tgt := 16) C d_L_outcome_1 rfl (fun c1 => ?_) (fun c1 => ?_)
  · exact absurd c1 (nI_pos (by omega))
  · refine u_iload_n (pc := 4) C d_L_outcome_4 rfl ?_
    refine u_aload_n (pc := 5) C d_L_outcome_5 rfl ?_
    refine u_alen (pc := 6) C d_L_outcome_6 sC_48 rfl rfl ?_
    refine u_icmp_ge (pc := 7) (tgt := 16) C d_L_outcome_7 rfl (fun c7 => ?_) (fun c7 => ?_)
    · rw [ofNat_nI] at c7; exact absurd c7 (nI_ge (by omega) (by decide))
    · refine u_aload_n (pc := 10) C d_L_outcome_10 rfl ?_
      refine u_iload_n (pc := 11) C d_L_outcome_11 rfl ?_
      refine u_aaldG (pc := 12) (r := (gp k)) C d_L_outcome_12 sC_48 (vp_in_nI (by omega) (by decide)) (th_ix hkj hk) ?_
      refine u_goto (pc := 13) (tgt := 17) C d_L_outcome_13 rfl ?_
      refine u_astore (pc := 17) C d_L_outcome_17 rfl (fun L9 hL9 => ?_)
      obtain rfl : L9 = [some (.ref 48), some (.ref 75), some (.ref (op 1)), some (.int (nI j)), some (.int 1), some (.ref (gp k)), none, none, none, none, none, none, none] := hL9.symm
      refine u_aload (pc := 19) C d_L_outcome_19 rfl ?_
      refine u_nonnull (pc := 21) (tgt := 27) C d_L_outcome_21 rfl ?_
      refine u_iload (pc := 27) C d_L_outcome_27 rfl ?_
      refine u_if_le (pc := 29) (tgt := 48) C d_L_outcome_29 rfl (fun c29 => ?_) (fun c29 => ?_)
      · exact absurd c29 (by decide)
      · refine u_iload_n (pc := 32) C d_L_outcome_32 rfl ?_
        refine u_iconst (pc := 33) (v := 1) C d_L_outcome_33 (by decide) ?_
        refine u_iadd (pc := 34) C d_L_outcome_34 ?_
        refine u_aload_n (pc := 35) C d_L_outcome_35 rfl ?_
        refine u_alen (pc := 36) C d_L_outcome_36 sC_48 rfl rfl ?_
        refine u_icmp_ge (pc := 37) (tgt := 48) C d_L_outcome_37 rfl (fun c37 => ?_) (fun c37 => ?_)
        · rw [← nI_succ, ofNat_nI] at c37; exact absurd c37 (nI_ge (by omega) (by decide))
        · refine u_aload_n (pc := 40) C d_L_outcome_40 rfl ?_
          refine u_iload_n (pc := 41) C d_L_outcome_41 rfl ?_
          refine u_iconst (pc := 42) (v := 1) C d_L_outcome_42 (by decide) ?_
          refine u_iadd (pc := 43) C d_L_outcome_43 ?_
          rw [← nI_succ]
          refine u_aaldG (pc := 44) (r := (gp k2)) C d_L_outcome_44 sC_48 (vp_in_nI (by omega) (by decide)) (th_ix (by omega) hk2) ?_
          refine u_goto (pc := 45) (tgt := 49) C d_L_outcome_45 rfl ?_
          refine u_astore (pc := 49) C d_L_outcome_49 rfl (fun L9 hL9 => ?_)
          obtain rfl : L9 = [some (.ref 48), some (.ref 75), some (.ref (op 1)), some (.int (nI j)), some (.int 1), some (.ref (gp k)), some (.ref (gp k2)), none, none, none, none, none, none] := hL9.symm
          refine u_aload (pc := 51) C d_L_outcome_51 rfl ?_
          refine u_nonnull (pc := 53) (tgt := 67) C d_L_outcome_53 rfl ?_
          refine u_iload_n (pc := 67) C d_L_outcome_67 rfl ?_
          refine u_iconst (pc := 68) (v := 2) C d_L_outcome_68 (by decide) ?_
          refine u_irem (pc := 69) C d_L_outcome_69 (by decide) ?_
          refine u_if_ne (pc := 70) (tgt := 77) C d_L_outcome_70 rfl (fun c70 => ?_) (fun c70 => ?_)
          · refine u_iconst (pc := 77) (v := 0) C d_L_outcome_77 (by decide) ?_
            refine u_istore (pc := 78) C d_L_outcome_78 rfl (fun x78 e78 L9 hL9 => ?_)
            obtain rfl : L9 = [some (.ref 48), some (.ref 75), some (.ref (op 1)), some (.int (nI j)), some (.int 1), some (.ref (gp k)), some (.ref (gp k2)), some (.int x78), none, none, none, none, none] := hL9.symm
            have hj9 : j ≤ 3 := by omega
            have hx7 : x78 = if j % 2 = 0 then 1 else 0 := by
              rw [e78]
              rcases (show j = 0 ∨ j = 1 ∨ j = 2 ∨ j = 3 by omega) with rfl | rfl | rfl | rfl <;> first | rfl | exact absurd (by decide) c70 | exact absurd c70 (by decide)
            exact lp_ot801 hk hkj hcd hR hm hW hl hk2 hkj2 hx7 C hQ hL
          · refine u_iconst (pc := 73) (v := 1) C d_L_outcome_73 (by decide) ?_
            refine u_goto (pc := 74) (tgt := 78) C d_L_outcome_74 rfl ?_
            refine u_istore (pc := 78) C d_L_outcome_78 rfl (fun x78 e78 L9 hL9 => ?_)
            obtain rfl : L9 = [some (.ref 48), some (.ref 75), some (.ref (op 1)), some (.int (nI j)), some (.int 1), some (.ref (gp k)), some (.ref (gp k2)), some (.int x78), none, none, none, none, none] := hL9.symm
            have hj9 : j ≤ 3 := by omega
            have hx7 : x78 = if j % 2 = 0 then 1 else 0 := by
              rw [e78]
              rcases (show j = 0 ∨ j = 1 ∨ j = 2 ∨ j = 3 by omega) with rfl | rfl | rfl | rfl <;> first | rfl | exact absurd (by decide) c70 | exact absurd c70 (by decide)
            exact lp_ot801 hk hkj hcd hR hm hW hl hk2 hkj2 hx7 C hQ hL
set_option maxRecDepth 20000 in
theorem lp_otB2 {κ : KX} {k2 : Nat} {x7 : Int32} {n j k m : Nat} {s : Gm × List Nat} {cd : Nat → Nat → Int32} {M0 : Mem} (hk : k < 6) (hkj : k = 2 + j) (hcd : CDm M0 cd) (hR : RepG M0 k n s.1 s.2 m) (hm : m ≤ psum s.1 n) (hW : WFg cd n s.1 s.2) (hl : j + 2 ≤ 3) (hk2 : k2 < 6) (hkj2 : k2 = 3 + j) (hx7 : x7 = if j % 2 = 0 then 1 else 0) (C : Cx κ lyC y_L_outcome.cls b_L_outcome 13 (some .int) 8) (hQ : ∀ v M', Pi (fun r M' => r = otc cd n 2 j s ∧ Off (otS j) M0 M' ∧ ∃ th ev, LGd M' 1 th ev) v M' → KQ κ v M')  : ∀ (f i : Nat) (x9 : Int32) (M : Mem), 5 - i < f → 0 < i → i ≤ cntO cd n s.1 (mvr j s.1) → Off (otS j) M0 M → (∃ th ev, LGd M 1 th ev) → x9 = bo (fun i => otc cd n 1 (j + 1) (runG cd n (chc cd n j s i))) (decide (j % 2 = 0)) i → G κ lyC 108 [some (.ref 48), some (.ref 75), some (.ref (op 1)), some (.int (nI j)), some (.int 2), some (.ref (gp k)), some (.ref (gp k2)), some (.int x7), some (.int (mvr j s.1)), some (.int x9), some (.int (nI i)), none, none] [] M := by
  intro f
  induction f with
  | zero => intro i x9 M h; omega
  | succ f ih =>
    intro i x9 M hf hi0 hic ho hL hx9
    have hR1 := hR.off ho (fun p q => ot_g hkj q)
    have hcd1 := hcd.off ho (fun p h1 h2 => ot_cd h1 h2)
    obtain ⟨th1, ev1, hL1⟩ := hL
    obtain ⟨h, h64, hh⟩ := hW.hb
    obtain ⟨htl, hbn, hb24⟩ := hW.tl
    have hn := hW.1.1
    have hh64 : (s.1 1 4).toNatClampNeg ≤ 64 := by rw [hh, nI_clamp (by omega)]; exact h64
    have r10 : M.1 (gp k) 9 = s.1 1 4 := hR1.2.2.2.2.2.2.2.2.1
    have hc4 := cntO_le (cd := cd) (n := n) (g := s.1) (p := mvr j s.1)
    have hi3 : 3 < nI i ↔ 3 < i := nI_ltI (a := 3) (by omega) (by omega)
    have hin : ¬ nI i = 0 := fun q => by
      have := (nI_eq (a := i) (b := 0) (by omega) (by omega)).mp q
      omega
    have hip : ¬ nI i ≤ 0 := fun q => by
      have := (nI_leI (a := i) (b := 0) (by omega) (by omega)).mp q
      omega
    refine u_iload (pc := 108) C d_L_outcome_108 rfl ?_
    refine u_iconst (pc := 110) (v := 3) C d_L_outcome_110 (by decide) ?_
    refine u_icmp_gt (pc := 111) (tgt := 239) C d_L_outcome_111 rfl (fun c111 => ?_) (fun c111 => ?_)
    · refine u_iload (pc := 239) C d_L_outcome_239 rfl ?_
      refine u_iret (pc := 241) C d_L_outcome_241 (hQ _ _ ⟨_, rfl, ?_⟩)
      have hi4 : i = cntO cd n s.1 (mvr j s.1) := by
        rw [hi3] at c111
        omega
      refine ⟨?_, ho, th1, ev1, hL1⟩
      rw [hx9, hi4]
      rfl
    · refine u_iload (pc := 114) C d_L_outcome_114 rfl ?_
      refine u_if_ne (pc := 116) (tgt := 124) C d_L_outcome_116 rfl (fun c116 => ?_) (fun c116 => ?_)
      · refine u_aload (pc := 124) C d_L_outcome_124 rfl ?_
        refine u_iload (pc := 126) C d_L_outcome_126 rfl ?_
        refine u_iconst (pc := 128) (v := 1) C d_L_outcome_128 (by decide) ?_
        refine u_iload (pc := 129) C d_L_outcome_129 rfl ?_
        refine u_iconst (pc := 131) (v := 1) C d_L_outcome_131 (by decide) ?_
        refine u_isub (pc := 132) C d_L_outcome_132 ?_
        rw [nI_sub1 hi0]
        refine u_callVi (pc := 133) C d_L_outcome_133 mx_G_nthIn mw_L_265 (shG0 hk) rfl (c_G_nthIn hk hR1 hcd1 hn (by omega)) rfl rfl (Nat.le_of_ble_eq_true rfl) (fun r133 M133 q133 => ?_)
        obtain ⟨e133, q133⟩ := q133
        have q133 := q133.symm
        subst q133
        refine u_istore (pc := 136) C d_L_outcome_136 rfl (fun x136 e136 L9 hL9 => ?_)
        obtain rfl : L9 = [some (.ref 48), some (.ref 75), some (.ref (op 1)), some (.int (nI j)), some (.int 2), some (.ref (gp k)), some (.ref (gp k2)), some (.int x7), some (.int (mvr j s.1)), some (.int x9), some (.int (nI i)), some (.int x136), none] := hL9.symm
        refine u_iload (pc := 138) C d_L_outcome_138 rfl ?_
        refine u_if_le (pc := 140) (tgt := 161) C d_L_outcome_140 rfl (fun c140 => ?_) (fun c140 => ?_)
        · exact absurd c140 hip
        · refine u_iload (pc := 143) C d_L_outcome_143 rfl ?_
          refine u_if_lt (pc := 145) (tgt := 239) C d_L_outcome_145 rfl (fun c145 => ?_) (fun c145 => ?_)
          · refine u_iload (pc := 239) C d_L_outcome_239 rfl ?_
            refine u_iret (pc := 241) C d_L_outcome_241 (hQ _ _ ⟨_, rfl, ?_⟩)
            have hlen : (atP cd n s.1 (mvr j s.1) 1).length ≤ i - 1 := by
              rcases Nat.lt_or_ge (i - 1) (atP cd n s.1 (mvr j s.1) 1).length with z | z
              · obtain ⟨d1, d2, d3⟩ := atP_mem.mp (getD_mem (l := atP cd n s.1 (mvr j s.1) 1) z)
                rw [e136, e133, nthR_lt z] at c145
                exact absurd c145 (nI_pos (by omega))
              · exact z
            have hi4 : i = cntO cd n s.1 (mvr j s.1) := by
              unfold cntO at hic ⊢
              split
              · rename_i q
                rw [if_pos q] at hic
                omega
              · rename_i q
                rw [if_neg q] at hic
                omega
            refine ⟨?_, ho, th1, ev1, hL1⟩
            rw [hx9, hi4]
            rfl
          · refine u_aload (pc := 148) C d_L_outcome_148 rfl ?_
            refine u_geti (pc := 150) C d_L_outcome_150 fw_L_211 (shG0 hk) rfl ?_
            refine u_bipush (pc := 153) (v := 64) C d_L_outcome_153 (by decide) ?_
            refine u_icmp_lt (pc := 155) (tgt := 161) C d_L_outcome_155 rfl (fun c155 => ?_) (fun c155 => ?_)
            · have c155 : M.1 (gp k) 9 < 64 := c155
              rw [r10] at c155
              have hlen : i - 1 < (atP cd n s.1 (mvr j s.1) 1).length := by
                rcases Nat.lt_or_ge (i - 1) (atP cd n s.1 (mvr j s.1) 1).length with z | z
                · exact z
                · rw [e136, e133, nthR_ge z] at c145
                  exact absurd (by decide) c145
              have e9 : x136 = nI ((atP cd n s.1 (mvr j s.1) 1).getD (i - 1) 0) := by rw [e136, e133, nthR_lt hlen]
              clear e136
              subst e9
              obtain ⟨d1, d2, d3⟩ := atP_mem.mp (getD_mem (l := atP cd n s.1 (mvr j s.1) 1) hlen)
              have hchc : chc cd n j s i = (plG s.1 ((atP cd n s.1 (mvr j s.1) 1).getD (i - 1) 0), s.2) := by rw [chc, if_neg (by omega)]
              have hW2 : WFg cd n (plG s.1 ((atP cd n s.1 (mvr j s.1) 1).getD (i - 1) 0)) s.2 := hW.play d1 d2
              have hm2 : m + 1 ≤ psum (plG s.1 ((atP cd n s.1 (mvr j s.1) 1).getD (i - 1) 0)) n := (mvd.play d1 d2).le hm
              have hi9 : i ≤ 3 := by
                have q := c111
                rw [hi3] at q
                omega
              have hcnt : i + 1 ≤ cntO cd n s.1 (mvr j s.1) := by
                unfold cntO at hic ⊢
                rw [if_pos c155] at hic ⊢
                omega
              refine u_aload (pc := 161) C d_L_outcome_161 rfl ?_
              refine u_aload (pc := 163) C d_L_outcome_163 rfl ?_
              refine u_callVv (pc := 165) C d_L_outcome_165 mx_G_copyFrom mw_L_252 (shG0 hk2) rfl (c_G_copyFrom (k := k2) (k2 := k) hk2 hk (by omega) hR1 htl hb24 hh64) rfl rfl (Nat.le_of_ble_eq_true rfl) (fun M165 q165 => ?_)
              obtain ⟨tR, tO⟩ := q165
              have tL := hL1.off tO (fun p q => g_l hk2 q)
              have tcd := hcd1.off tO (fun p h1 h2 => blk_cd h1 h2)
              have tH := ho.trans (tO.mono (fun p q => ot_blk hkj2 hk2 q))
              refine u_iload (pc := 168) C d_L_outcome_168 rfl ?_
              refine u_if_le (pc := 170) (tgt := 180) C d_L_outcome_170 rfl (fun c170 => ?_) (fun c170 => ?_)
              · exact absurd c170 hip
              · refine u_aload (pc := 173) C d_L_outcome_173 rfl ?_
                refine u_iload (pc := 175) C d_L_outcome_175 rfl ?_
                refine u_callVv (pc := 177) C d_L_outcome_177 mx_G_playCard mw_L_214 (shG0 hk2) rfl (c_G_playCard hk2) rfl rfl (Nat.le_of_ble_eq_true rfl) (fun M177 q177 => ?_)
                have q177 := q177.symm
                subst q177
                have tR2 := tR.pl hh h64 (show (atP cd n s.1 (mvr j s.1) 1).getD (i - 1) 0 < 24 by omega) c155
                have tO2 : Off (blk k2) M165 (plF M165 k2 (nI ((atP cd n s.1 (mvr j s.1) 1).getD (i - 1) 0))) := plF_off
                have tL2 := tL.off tO2 (fun p q => g_l hk2 q)
                have tcd2 := tcd.off tO2 (fun p h1 h2 => blk_cd h1 h2)
                have tH2 := tH.trans (tO2.mono (fun p q => ot_blk hkj2 hk2 q))
                refine u_aload_n (pc := 180) C d_L_outcome_180 rfl ?_
                refine u_aload (pc := 181) C d_L_outcome_181 rfl ?_
                refine u_aload_n (pc := 183) C d_L_outcome_183 rfl ?_
                refine u_callVv (pc := 184) C d_L_outcome_184 mx_R_runPile mw_L_227 sC_75 rfl (c_R_runPile (k := k2) (b := 1) hk2 (by decide) hW2 tcd2 tR2 hm2 tL2) rfl rfl (Nat.le_of_ble_eq_true rfl) (fun M184 q184 => ?_)
                obtain ⟨t, m2, t200, kRun, k7, kR, kM, kW, kL, kO⟩ := q184
                have kx := runR_eq kRun
                have kcd := tcd2.off kO (fun p h1 h2 q => ot_cd (j := j) h1 h2 (ot_run hkj2 hk2 q))
                have kH := tH2.trans (kO.mono (fun p q => ot_run hkj2 hk2 q))
                refine u_aload_n (pc := 187) C d_L_outcome_187 rfl ?_
                refine u_aload_n (pc := 188) C d_L_outcome_188 rfl ?_
                refine u_aload_n (pc := 189) C d_L_outcome_189 rfl ?_
                refine u_iload_n (pc := 190) C d_L_outcome_190 rfl ?_
                refine u_iconst (pc := 191) (v := 1) C d_L_outcome_191 (by decide) ?_
                refine u_iadd (pc := 192) C d_L_outcome_192 ?_
                refine u_iload (pc := 193) C d_L_outcome_193 rfl ?_
                refine u_iconst (pc := 195) (v := 1) C d_L_outcome_195 (by decide) ?_
                refine u_isub (pc := 196) C d_L_outcome_196 ?_
                rw [← nI_succ, show (2 : Int32) - 1 = 1 from rfl]
                refine u_callSi (pc := 197) C d_L_outcome_197 mx_L_outcome mw_L_261 (c_L_outcome1 hk2 (by omega) kcd kR kM kW ⟨_, _, kL⟩ (by omega)) rfl rfl (Nat.le_of_ble_eq_true rfl) (fun r197 M197 q197 => ?_)
                obtain ⟨e197, oO, oL⟩ := q197
                have oH := kH.trans (oO.mono (fun p q => ot_ot q))
                refine u_istore (pc := 200) C d_L_outcome_200 rfl (fun x200 e200 L9 hL9 => ?_)
                obtain rfl : L9 = [some (.ref 48), some (.ref 75), some (.ref (op 1)), some (.int (nI j)), some (.int 2), some (.ref (gp k)), some (.ref (gp k2)), some (.int x7), some (.int (mvr j s.1)), some (.int x9), some (.int (nI i)), some (.int (nI ((atP cd n s.1 (mvr j s.1) 1).getD (i - 1) 0))), some (.int x200)] := hL9.symm
                have eF : x200 = otc cd n 1 (j + 1) (runG cd n (chc cd n j s i)) := by
                  rw [e200, e197]
                  rw [hchc, runG, kx]
                refine u_iload (pc := 202) C d_L_outcome_202 rfl ?_
                refine u_if_eq (pc := 204) (tgt := 229) C d_L_outcome_204 rfl (fun c204 => ?_) (fun c204 => ?_)
                · exact absurd c204 hin
                · refine u_iload (pc := 207) C d_L_outcome_207 rfl ?_
                  refine u_if_eq (pc := 209) (tgt := 222) C d_L_outcome_209 rfl (fun c209 => ?_) (fun c209 => ?_)
                  · refine u_iload (pc := 222) C d_L_outcome_222 rfl ?_
                    refine u_iload (pc := 224) C d_L_outcome_224 rfl ?_
                    refine u_icmp_ge (pc := 226) (tgt := 233) C d_L_outcome_226 rfl (fun c226 => ?_) (fun c226 => ?_)
                    · refine u_iinc (pc := 233) (v2 := 1) C d_L_outcome_233 rfl rfl (by decide) (fun x233 e233 L9 hL9 => ?_)
                      obtain rfl : L9 = [some (.ref 48), some (.ref 75), some (.ref (op 1)), some (.int (nI j)), some (.int 2), some (.ref (gp k)), some (.ref (gp k2)), some (.int x7), some (.int (mvr j s.1)), some (.int x9), some (.int x233), some (.int (nI ((atP cd n s.1 (mvr j s.1) 1).getD (i - 1) 0))), some (.int x200)] := hL9.symm
                      refine u_goto (pc := 236) (tgt := 108) C d_L_outcome_236 rfl ?_
                      obtain rfl : x233 = nI (i + 1) := by rw [e233, nI_succ]
                      refine u_drop 11 rfl ?_
                      refine u_drop 12 rfl ?_
                      refine ih (i + 1) _ _ (by omega) (by omega) hcnt oH oL ?_
                      rw [bo_up hi0, ← hx9, ← eF]
                      have hj : ¬ j % 2 = 0 := fun z => by
                        rw [hx7, if_pos z] at c209
                        exact absurd c209 (by decide)
                      rw [if_neg (by simpa using hj)]
                      rw [if_neg (Int32.not_lt.mpr c226)]
                    · refine u_iload (pc := 229) C d_L_outcome_229 rfl ?_
                      refine u_istore (pc := 231) C d_L_outcome_231 rfl (fun x231 e231 L9 hL9 => ?_)
                      obtain rfl : L9 = [some (.ref 48), some (.ref 75), some (.ref (op 1)), some (.int (nI j)), some (.int 2), some (.ref (gp k)), some (.ref (gp k2)), some (.int x7), some (.int (mvr j s.1)), some (.int x231), some (.int (nI i)), some (.int (nI ((atP cd n s.1 (mvr j s.1) 1).getD (i - 1) 0))), some (.int x200)] := hL9.symm
                      refine u_iinc (pc := 233) (v2 := 1) C d_L_outcome_233 rfl rfl (by decide) (fun x233 e233 L9 hL9 => ?_)
                      obtain rfl : L9 = [some (.ref 48), some (.ref 75), some (.ref (op 1)), some (.int (nI j)), some (.int 2), some (.ref (gp k)), some (.ref (gp k2)), some (.int x7), some (.int (mvr j s.1)), some (.int x231), some (.int x233), some (.int (nI ((atP cd n s.1 (mvr j s.1) 1).getD (i - 1) 0))), some (.int x200)] := hL9.symm
                      refine u_goto (pc := 236) (tgt := 108) C d_L_outcome_236 rfl ?_
                      obtain rfl : x233 = nI (i + 1) := by rw [e233, nI_succ]
                      refine u_drop 11 rfl ?_
                      refine u_drop 12 rfl ?_
                      refine ih (i + 1) _ _ (by omega) (by omega) hcnt oH oL ?_
                      rw [bo_up hi0, ← hx9, ← eF]
                      have hj : ¬ j % 2 = 0 := fun z => by
                        rw [hx7, if_pos z] at c209
                        exact absurd c209 (by decide)
                      rw [if_neg (by simpa using hj)]
                      rw [if_pos (Int32.not_le.mp c226), e231]
                  · refine u_iload (pc := 212) C d_L_outcome_212 rfl ?_
                    refine u_iload (pc := 214) C d_L_outcome_214 rfl ?_
                    refine u_icmp_le (pc := 216) (tgt := 233) C d_L_outcome_216 rfl (fun c216 => ?_) (fun c216 => ?_)
                    · refine u_iinc (pc := 233) (v2 := 1) C d_L_outcome_233 rfl rfl (by decide) (fun x233 e233 L9 hL9 => ?_)
                      obtain rfl : L9 = [some (.ref 48), some (.ref 75), some (.ref (op 1)), some (.int (nI j)), some (.int 2), some (.ref (gp k)), some (.ref (gp k2)), some (.int x7), some (.int (mvr j s.1)), some (.int x9), some (.int x233), some (.int (nI ((atP cd n s.1 (mvr j s.1) 1).getD (i - 1) 0))), some (.int x200)] := hL9.symm
                      refine u_goto (pc := 236) (tgt := 108) C d_L_outcome_236 rfl ?_
                      obtain rfl : x233 = nI (i + 1) := by rw [e233, nI_succ]
                      refine u_drop 11 rfl ?_
                      refine u_drop 12 rfl ?_
                      refine ih (i + 1) _ _ (by omega) (by omega) hcnt oH oL ?_
                      rw [bo_up hi0, ← hx9, ← eF]
                      have hj : j % 2 = 0 := by
                        rcases Classical.em (j % 2 = 0) with z | z
                        · exact z
                        · rw [hx7, if_neg z] at c209
                          exact absurd rfl c209
                      rw [if_pos (by simpa using hj)]
                      rw [if_neg (Int32.not_lt.mpr c216)]
                    · refine u_goto (pc := 219) (tgt := 229) C d_L_outcome_219 rfl ?_
                      refine u_iload (pc := 229) C d_L_outcome_229 rfl ?_
                      refine u_istore (pc := 231) C d_L_outcome_231 rfl (fun x231 e231 L9 hL9 => ?_)
                      obtain rfl : L9 = [some (.ref 48), some (.ref 75), some (.ref (op 1)), some (.int (nI j)), some (.int 2), some (.ref (gp k)), some (.ref (gp k2)), some (.int x7), some (.int (mvr j s.1)), some (.int x231), some (.int (nI i)), some (.int (nI ((atP cd n s.1 (mvr j s.1) 1).getD (i - 1) 0))), some (.int x200)] := hL9.symm
                      refine u_iinc (pc := 233) (v2 := 1) C d_L_outcome_233 rfl rfl (by decide) (fun x233 e233 L9 hL9 => ?_)
                      obtain rfl : L9 = [some (.ref 48), some (.ref 75), some (.ref (op 1)), some (.int (nI j)), some (.int 2), some (.ref (gp k)), some (.ref (gp k2)), some (.int x7), some (.int (mvr j s.1)), some (.int x231), some (.int x233), some (.int (nI ((atP cd n s.1 (mvr j s.1) 1).getD (i - 1) 0))), some (.int x200)] := hL9.symm
                      refine u_goto (pc := 236) (tgt := 108) C d_L_outcome_236 rfl ?_
                      obtain rfl : x233 = nI (i + 1) := by rw [e233, nI_succ]
                      refine u_drop 11 rfl ?_
                      refine u_drop 12 rfl ?_
                      refine ih (i + 1) _ _ (by omega) (by omega) hcnt oH oL ?_
                      rw [bo_up hi0, ← hx9, ← eF]
                      have hj : j % 2 = 0 := by
                        rcases Classical.em (j % 2 = 0) with z | z
                        · exact z
                        · rw [hx7, if_neg z] at c209
                          exact absurd rfl c209
                      rw [if_pos (by simpa using hj)]
                      rw [if_pos (Int32.not_le.mp c216), e231]
            · refine u_goto (pc := 158) (tgt := 239) C d_L_outcome_158 rfl ?_
              refine u_iload (pc := 239) C d_L_outcome_239 rfl ?_
              refine u_iret (pc := 241) C d_L_outcome_241 (hQ _ _ ⟨_, rfl, ?_⟩)
              have c155 : ¬ M.1 (gp k) 9 < 64 := c155
              rw [r10] at c155
              have hi4 : i = cntO cd n s.1 (mvr j s.1) := by
                unfold cntO at hic ⊢
                rw [if_neg c155] at hic ⊢
                omega
              refine ⟨?_, ho, th1, ev1, hL1⟩
              rw [hx9, hi4]
              rfl
      · exact absurd c116 hin
set_option maxRecDepth 20000 in
theorem lp_otA2 {κ : KX} {k2 : Nat} {x7 : Int32} {n j k m : Nat} {s : Gm × List Nat} {cd : Nat → Nat → Int32} {M0 : Mem} (hk : k < 6) (hkj : k = 2 + j) (hcd : CDm M0 cd) (hR : RepG M0 k n s.1 s.2 m) (hm : m ≤ psum s.1 n) (hW : WFg cd n s.1 s.2) (hl : j + 2 ≤ 3) (hk2 : k2 < 6) (hkj2 : k2 = 3 + j) (hx7 : x7 = if j % 2 = 0 then 1 else 0) {x9 : Int32} (hm0 : m ≤ psum s.1 n) (C : Cx κ lyC y_L_outcome.cls b_L_outcome 13 (some .int) 8) (hQ : ∀ v M', Pi (fun r M' => r = otc cd n 2 j s ∧ Off (otS j) M0 M' ∧ ∃ th ev, LGd M' 1 th ev) v M' → KQ κ v M')  : ∀ (M : Mem), Off (otS j) M0 M → (∃ th ev, LGd M 1 th ev) → G κ lyC 108 [some (.ref 48), some (.ref 75), some (.ref (op 1)), some (.int (nI j)), some (.int 2), some (.ref (gp k)), some (.ref (gp k2)), some (.int x7), some (.int (mvr j s.1)), some (.int x9), some (.int 0), none, none] [] M := by
  intro M ho hL
  have hR1 := hR.off ho (fun p q => ot_g hkj q)
  have hcd1 := hcd.off ho (fun p h1 h2 => ot_cd h1 h2)
  obtain ⟨th1, ev1, hL1⟩ := hL
  obtain ⟨h, h64, hh⟩ := hW.hb
  obtain ⟨htl, hbn, hb24⟩ := hW.tl
  have hn := hW.1.1
  have hh64 : (s.1 1 4).toNatClampNeg ≤ 64 := by rw [hh, nI_clamp (by omega)]; exact h64
  have r10 : M.1 (gp k) 9 = s.1 1 4 := hR1.2.2.2.2.2.2.2.2.1
  refine u_iload (pc := 108) C d_L_outcome_108 rfl ?_
  refine u_iconst (pc := 110) (v := 3) C d_L_outcome_110 (by decide) ?_
  refine u_icmp_gt (pc := 111) (tgt := 239) C d_L_outcome_111 rfl (fun c111 => ?_) (fun c111 => ?_)
  · exact absurd c111 (by decide)
  · refine u_iload (pc := 114) C d_L_outcome_114 rfl ?_
    refine u_if_ne (pc := 116) (tgt := 124) C d_L_outcome_116 rfl (fun c116 => ?_) (fun c116 => ?_)
    · exact absurd rfl c116
    · refine u_bipush (pc := 119) (v := (-2)) C d_L_outcome_119 (by decide) ?_
      refine u_goto (pc := 121) (tgt := 136) C d_L_outcome_121 rfl ?_
      refine u_istore (pc := 136) C d_L_outcome_136 rfl (fun x136 e136 L9 hL9 => ?_)
      obtain rfl : L9 = [some (.ref 48), some (.ref 75), some (.ref (op 1)), some (.int (nI j)), some (.int 2), some (.ref (gp k)), some (.ref (gp k2)), some (.int x7), some (.int (mvr j s.1)), some (.int x9), some (.int 0), some (.int x136), none] := hL9.symm
      refine u_iload (pc := 138) C d_L_outcome_138 rfl ?_
      refine u_if_le (pc := 140) (tgt := 161) C d_L_outcome_140 rfl (fun c140 => ?_) (fun c140 => ?_)
      · refine u_aload (pc := 161) C d_L_outcome_161 rfl ?_
        refine u_aload (pc := 163) C d_L_outcome_163 rfl ?_
        refine u_callVv (pc := 165) C d_L_outcome_165 mx_G_copyFrom mw_L_252 (shG0 hk2) rfl (c_G_copyFrom (k := k2) (k2 := k) hk2 hk (by omega) hR1 htl hb24 hh64) rfl rfl (Nat.le_of_ble_eq_true rfl) (fun M165 q165 => ?_)
        obtain ⟨tR, tO⟩ := q165
        have tL := hL1.off tO (fun p q => g_l hk2 q)
        have tcd := hcd1.off tO (fun p h1 h2 => blk_cd h1 h2)
        have tH := ho.trans (tO.mono (fun p q => ot_blk hkj2 hk2 q))
        refine u_iload (pc := 168) C d_L_outcome_168 rfl ?_
        refine u_if_le (pc := 170) (tgt := 180) C d_L_outcome_170 rfl (fun c170 => ?_) (fun c170 => ?_)
        · refine u_aload_n (pc := 180) C d_L_outcome_180 rfl ?_
          refine u_aload (pc := 181) C d_L_outcome_181 rfl ?_
          refine u_aload_n (pc := 183) C d_L_outcome_183 rfl ?_
          refine u_callVv (pc := 184) C d_L_outcome_184 mx_R_runPile mw_L_227 sC_75 rfl (c_R_runPile (k := k2) (b := 1) hk2 (by decide) hW tcd tR hm tL) rfl rfl (Nat.le_of_ble_eq_true rfl) (fun M184 q184 => ?_)
          obtain ⟨t, m2, t200, kRun, k7, kR, kM, kW, kL, kO⟩ := q184
          have kx := runR_eq kRun
          have kcd := tcd.off kO (fun p h1 h2 q => ot_cd (j := j) h1 h2 (ot_run hkj2 hk2 q))
          have kH := tH.trans (kO.mono (fun p q => ot_run hkj2 hk2 q))
          refine u_aload_n (pc := 187) C d_L_outcome_187 rfl ?_
          refine u_aload_n (pc := 188) C d_L_outcome_188 rfl ?_
          refine u_aload_n (pc := 189) C d_L_outcome_189 rfl ?_
          refine u_iload_n (pc := 190) C d_L_outcome_190 rfl ?_
          refine u_iconst (pc := 191) (v := 1) C d_L_outcome_191 (by decide) ?_
          refine u_iadd (pc := 192) C d_L_outcome_192 ?_
          refine u_iload (pc := 193) C d_L_outcome_193 rfl ?_
          refine u_iconst (pc := 195) (v := 1) C d_L_outcome_195 (by decide) ?_
          refine u_isub (pc := 196) C d_L_outcome_196 ?_
          rw [← nI_succ, show (2 : Int32) - 1 = 1 from rfl]
          refine u_callSi (pc := 197) C d_L_outcome_197 mx_L_outcome mw_L_261 (c_L_outcome1 hk2 (by omega) kcd kR kM kW ⟨_, _, kL⟩ (by omega)) rfl rfl (Nat.le_of_ble_eq_true rfl) (fun r197 M197 q197 => ?_)
          obtain ⟨e197, oO, oL⟩ := q197
          have oH := kH.trans (oO.mono (fun p q => ot_ot q))
          refine u_istore (pc := 200) C d_L_outcome_200 rfl (fun x200 e200 L9 hL9 => ?_)
          obtain rfl : L9 = [some (.ref 48), some (.ref 75), some (.ref (op 1)), some (.int (nI j)), some (.int 2), some (.ref (gp k)), some (.ref (gp k2)), some (.int x7), some (.int (mvr j s.1)), some (.int x9), some (.int 0), some (.int x136), some (.int x200)] := hL9.symm
          refine u_iload (pc := 202) C d_L_outcome_202 rfl ?_
          refine u_if_eq (pc := 204) (tgt := 229) C d_L_outcome_204 rfl (fun c204 => ?_) (fun c204 => ?_)
          · refine u_iload (pc := 229) C d_L_outcome_229 rfl ?_
            refine u_istore (pc := 231) C d_L_outcome_231 rfl (fun x231 e231 L9 hL9 => ?_)
            obtain rfl : L9 = [some (.ref 48), some (.ref 75), some (.ref (op 1)), some (.int (nI j)), some (.int 2), some (.ref (gp k)), some (.ref (gp k2)), some (.int x7), some (.int (mvr j s.1)), some (.int x231), some (.int 0), some (.int x136), some (.int x200)] := hL9.symm
            refine u_iinc (pc := 233) (v2 := 1) C d_L_outcome_233 rfl rfl (by decide) (fun x233 e233 L9 hL9 => ?_)
            obtain rfl : L9 = [some (.ref 48), some (.ref 75), some (.ref (op 1)), some (.int (nI j)), some (.int 2), some (.ref (gp k)), some (.ref (gp k2)), some (.int x7), some (.int (mvr j s.1)), some (.int x231), some (.int x233), some (.int x136), some (.int x200)] := hL9.symm
            refine u_goto (pc := 236) (tgt := 108) C d_L_outcome_236 rfl ?_
            obtain rfl : x233 = nI 1 := by rw [e233]; rfl
            refine u_drop 11 rfl ?_
            refine u_drop 12 rfl ?_
            refine lp_otB2 hk hkj hcd hR hm hW hl hk2 hkj2 hx7 C hQ 5 1 _ _ (by omega) (by omega) (by unfold cntO; split <;> omega) oH oL ?_
            rw [bo_one, e231, e200, e197]
            show _ = otc cd n 1 (j + 1) (runG cd n (chc cd n j s 0))
            rw [chc, if_pos rfl, runG, kx]
          · exact absurd rfl c204
        · exact absurd (by decide) c170
      · exact absurd (by decide) c140
set_option maxRecDepth 20000 in
theorem lp_ot802 {κ : KX} {k2 : Nat} {x7 : Int32} {n j k m : Nat} {s : Gm × List Nat} {cd : Nat → Nat → Int32} {M0 : Mem} (hk : k < 6) (hkj : k = 2 + j) (hcd : CDm M0 cd) (hR : RepG M0 k n s.1 s.2 m) (hm : m ≤ psum s.1 n) (hW : WFg cd n s.1 s.2) (hl : j + 2 ≤ 3) (hk2 : k2 < 6) (hkj2 : k2 = 3 + j) (hx7 : x7 = if j % 2 = 0 then 1 else 0) (C : Cx κ lyC y_L_outcome.cls b_L_outcome 13 (some .int) 8) (hQ : ∀ v M', Pi (fun r M' => r = otc cd n 2 j s ∧ Off (otS j) M0 M' ∧ ∃ th ev, LGd M' 1 th ev) v M' → KQ κ v M')  : (∃ th ev, LGd M0 1 th ev) → G κ lyC 80 [some (.ref 48), some (.ref 75), some (.ref (op 1)), some (.int (nI j)), some (.int 2), some (.ref (gp k)), some (.ref (gp k2)), some (.int x7), none, none, none, none, none] [] M0 := by
  intro hL
  have r12 : M0.1 (gp k) 11 = s.1 1 2 := hR.2.2.2.2.2.2.2.2.2.2.1
  refine u_iload (pc := 80) C d_L_outcome_80 rfl ?_
  refine u_if_eq (pc := 82) (tgt := 93) C d_L_outcome_82 rfl (fun c82 => ?_) (fun c82 => ?_)
  · refine u_iconst (pc := 93) (v := 1) C d_L_outcome_93 (by decide) ?_
    refine u_aload (pc := 94) C d_L_outcome_94 rfl ?_
    refine u_geti (pc := 96) C d_L_outcome_96 fw_L_249 (shG0 hk) rfl ?_
    refine u_isub (pc := 99) C d_L_outcome_99 ?_
    refine u_istore (pc := 100) C d_L_outcome_100 rfl (fun x100 e100 L9 hL9 => ?_)
    obtain rfl : L9 = [some (.ref 48), some (.ref 75), some (.ref (op 1)), some (.int (nI j)), some (.int 2), some (.ref (gp k)), some (.ref (gp k2)), some (.int x7), some (.int x100), none, none, none, none] := hL9.symm
    refine u_iconst (pc := 102) (v := 0) C d_L_outcome_102 (by decide) ?_
    refine u_istore (pc := 103) C d_L_outcome_103 rfl (fun x103 e103 L9 hL9 => ?_)
    obtain rfl : L9 = [some (.ref 48), some (.ref 75), some (.ref (op 1)), some (.int (nI j)), some (.int 2), some (.ref (gp k)), some (.ref (gp k2)), some (.int x7), some (.int x100), some (.int x103), none, none, none] := hL9.symm
    refine u_iconst (pc := 105) (v := 0) C d_L_outcome_105 (by decide) ?_
    refine u_istore (pc := 106) C d_L_outcome_106 rfl (fun x106 e106 L9 hL9 => ?_)
    obtain rfl : L9 = [some (.ref 48), some (.ref 75), some (.ref (op 1)), some (.int (nI j)), some (.int 2), some (.ref (gp k)), some (.ref (gp k2)), some (.int x7), some (.int x100), some (.int x103), some (.int x106), none, none] := hL9.symm
    subst e106
    have hmv : x100 = mvr j s.1 := by
      rw [e100, r12, mvr, if_neg (fun z => by rw [hx7, if_pos z] at c82; exact absurd c82 (by decide))]
    subst hmv
    exact lp_otA2 hk hkj hcd hR hm hW hl hk2 hkj2 hx7 hm C hQ M0 Off.refl hL
  · refine u_aload (pc := 85) C d_L_outcome_85 rfl ?_
    refine u_geti (pc := 87) C d_L_outcome_87 fw_L_249 (shG0 hk) rfl ?_
    refine u_goto (pc := 90) (tgt := 100) C d_L_outcome_90 rfl ?_
    refine u_istore (pc := 100) C d_L_outcome_100 rfl (fun x100 e100 L9 hL9 => ?_)
    obtain rfl : L9 = [some (.ref 48), some (.ref 75), some (.ref (op 1)), some (.int (nI j)), some (.int 2), some (.ref (gp k)), some (.ref (gp k2)), some (.int x7), some (.int x100), none, none, none, none] := hL9.symm
    refine u_iconst (pc := 102) (v := 0) C d_L_outcome_102 (by decide) ?_
    refine u_istore (pc := 103) C d_L_outcome_103 rfl (fun x103 e103 L9 hL9 => ?_)
    obtain rfl : L9 = [some (.ref 48), some (.ref 75), some (.ref (op 1)), some (.int (nI j)), some (.int 2), some (.ref (gp k)), some (.ref (gp k2)), some (.int x7), some (.int x100), some (.int x103), none, none, none] := hL9.symm
    refine u_iconst (pc := 105) (v := 0) C d_L_outcome_105 (by decide) ?_
    refine u_istore (pc := 106) C d_L_outcome_106 rfl (fun x106 e106 L9 hL9 => ?_)
    obtain rfl : L9 = [some (.ref 48), some (.ref 75), some (.ref (op 1)), some (.int (nI j)), some (.int 2), some (.ref (gp k)), some (.ref (gp k2)), some (.int x7), some (.int x100), some (.int x103), some (.int x106), none, none] := hL9.symm
    subst e106
    have hmv : x100 = mvr j s.1 := by
      rw [e100, r12, mvr, if_pos (Classical.byContradiction (fun z => c82 (by rw [hx7, if_neg z])))]
    subst hmv
    exact lp_otA2 hk hkj hcd hR hm hW hl hk2 hkj2 hx7 hm C hQ M0 Off.refl hL
set_option maxRecDepth 20000 in
theorem c_L_outcome2 {n j k m : Nat} {s : Gm × List Nat} {cd : Nat → Nat → Int32} {M : Mem} (hk : k < 6) (hkj : k = 2 + j) (hcd : CDm M cd) (hR : RepG M k n s.1 s.2 m) (hm : m ≤ psum s.1 n) (hW : WFg cd n s.1 s.2) (hL : ∃ th ev, LGd M 1 th ev) (hl : j + 2 ≤ 3) : Ct lyC y_L_outcome b_L_outcome 13 (some .int) 8 [.ref 48, .ref 75, .ref (op 1), .int (nI j), .int 2] M (Pi fun r M' => r = otc cd n 2 j s ∧ Off (otS j) M M' ∧ ∃ th ev, LGd M' 1 th ev) := by
  obtain ⟨k2, hkj2⟩ : ∃ k2, k2 = 3 + j := ⟨_, rfl⟩
  have hk2 : k2 < 6 := by omega
  refine Ct.ofG mx_L_outcome [some (.ref 48), some (.ref 75), some (.ref (op 1)), some (.int (nI j)), some (.int 2), none, none, none, none, none, none, none, none] rfl rfl (Nat.le_of_ble_eq_true rfl) (fun κ C hQ => ?_)
  refine u_iload_n (pc := 0) C d_L_outcome_0 rfl ?_
  refine u_if_lt (pc := 1) (tgt := 16) C d_L_outcome_1 rfl (fun c1 => ?_) (fun c1 => ?_)
  · exact absurd c1 (nI_pos (by omega))
  · refine u_iload_n (pc := 4) C d_L_outcome_4 rfl ?_
    refine u_aload_n (pc := 5) C d_L_outcome_5 rfl ?_
    refine u_alen (pc := 6) C d_L_outcome_6 sC_48 rfl rfl ?_
    refine u_icmp_ge (pc := 7) (tgt := 16) C d_L_outcome_7 rfl (fun c7 => ?_) (fun c7 => ?_)
    · rw [ofNat_nI] at c7; exact absurd c7 (nI_ge (by omega) (by decide))
    · refine u_aload_n (pc := 10) C d_L_outcome_10 rfl ?_
      refine u_iload_n (pc := 11) C d_L_outcome_11 rfl ?_
      refine u_aaldG (pc := 12) (r := (gp k)) C d_L_outcome_12 sC_48 (vp_in_nI (by omega) (by decide)) (th_ix hkj hk) ?_
      refine u_goto (pc := 13) (tgt := 17) C d_L_outcome_13 rfl ?_
      refine u_astore (pc := 17) C d_L_outcome_17 rfl (fun L9 hL9 => ?_)
      obtain rfl : L9 = [some (.ref 48), some (.ref 75), some (.ref (op 1)), some (.int (nI j)), some (.int 2), some (.ref (gp k)), none, none, none, none, none, none, none] := hL9.symm
      refine u_aload (pc := 19) C d_L_outcome_19 rfl ?_
      refine u_nonnull (pc := 21) (tgt := 27) C d_L_outcome_21 rfl ?_
      refine u_iload (pc := 27) C d_L_outcome_27 rfl ?_
      refine u_if_le (pc := 29) (tgt := 48) C d_L_outcome_29 rfl (fun c29 => ?_) (fun c29 => ?_)
      · exact absurd c29 (by decide)
      · refine u_iload_n (pc := 32) C d_L_outcome_32 rfl ?_
        refine u_iconst (pc := 33) (v := 1) C d_L_outcome_33 (by decide) ?_
        refine u_iadd (pc := 34) C d_L_outcome_34 ?_
        refine u_aload_n (pc := 35) C d_L_outcome_35 rfl ?_
        refine u_alen (pc := 36) C d_L_outcome_36 sC_48 rfl rfl ?_
        refine u_icmp_ge (pc := 37) (tgt := 48) C d_L_outcome_37 rfl (fun c37 => ?_) (fun c37 => ?_)
        · rw [← nI_succ, ofNat_nI] at c37; exact absurd c37 (nI_ge (by omega) (by decide))
        · refine u_aload_n (pc := 40) C d_L_outcome_40 rfl ?_
          refine u_iload_n (pc := 41) C d_L_outcome_41 rfl ?_
          refine u_iconst (pc := 42) (v := 1) C d_L_outcome_42 (by decide) ?_
          refine u_iadd (pc := 43) C d_L_outcome_43 ?_
          rw [← nI_succ]
          refine u_aaldG (pc := 44) (r := (gp k2)) C d_L_outcome_44 sC_48 (vp_in_nI (by omega) (by decide)) (th_ix (by omega) hk2) ?_
          refine u_goto (pc := 45) (tgt := 49) C d_L_outcome_45 rfl ?_
          refine u_astore (pc := 49) C d_L_outcome_49 rfl (fun L9 hL9 => ?_)
          obtain rfl : L9 = [some (.ref 48), some (.ref 75), some (.ref (op 1)), some (.int (nI j)), some (.int 2), some (.ref (gp k)), some (.ref (gp k2)), none, none, none, none, none, none] := hL9.symm
          refine u_aload (pc := 51) C d_L_outcome_51 rfl ?_
          refine u_nonnull (pc := 53) (tgt := 67) C d_L_outcome_53 rfl ?_
          refine u_iload_n (pc := 67) C d_L_outcome_67 rfl ?_
          refine u_iconst (pc := 68) (v := 2) C d_L_outcome_68 (by decide) ?_
          refine u_irem (pc := 69) C d_L_outcome_69 (by decide) ?_
          refine u_if_ne (pc := 70) (tgt := 77) C d_L_outcome_70 rfl (fun c70 => ?_) (fun c70 => ?_)
          · refine u_iconst (pc := 77) (v := 0) C d_L_outcome_77 (by decide) ?_
            refine u_istore (pc := 78) C d_L_outcome_78 rfl (fun x78 e78 L9 hL9 => ?_)
            obtain rfl : L9 = [some (.ref 48), some (.ref 75), some (.ref (op 1)), some (.int (nI j)), some (.int 2), some (.ref (gp k)), some (.ref (gp k2)), some (.int x78), none, none, none, none, none] := hL9.symm
            have hj9 : j ≤ 3 := by omega
            have hx7 : x78 = if j % 2 = 0 then 1 else 0 := by
              rw [e78]
              rcases (show j = 0 ∨ j = 1 ∨ j = 2 ∨ j = 3 by omega) with rfl | rfl | rfl | rfl <;> first | rfl | exact absurd (by decide) c70 | exact absurd c70 (by decide)
            exact lp_ot802 hk hkj hcd hR hm hW hl hk2 hkj2 hx7 C hQ hL
          · refine u_iconst (pc := 73) (v := 1) C d_L_outcome_73 (by decide) ?_
            refine u_goto (pc := 74) (tgt := 78) C d_L_outcome_74 rfl ?_
            refine u_istore (pc := 78) C d_L_outcome_78 rfl (fun x78 e78 L9 hL9 => ?_)
            obtain rfl : L9 = [some (.ref 48), some (.ref 75), some (.ref (op 1)), some (.int (nI j)), some (.int 2), some (.ref (gp k)), some (.ref (gp k2)), some (.int x78), none, none, none, none, none] := hL9.symm
            have hj9 : j ≤ 3 := by omega
            have hx7 : x78 = if j % 2 = 0 then 1 else 0 := by
              rw [e78]
              rcases (show j = 0 ∨ j = 1 ∨ j = 2 ∨ j = 3 by omega) with rfl | rfl | rfl | rfl <;> first | rfl | exact absurd (by decide) c70 | exact absurd c70 (by decide)
            exact lp_ot802 hk hkj hcd hR hm hW hl hk2 hkj2 hx7 C hQ hL
set_option maxRecDepth 20000 in
theorem lp_otB3 {κ : KX} {k2 : Nat} {x7 : Int32} {n j k m : Nat} {s : Gm × List Nat} {cd : Nat → Nat → Int32} {M0 : Mem} (hk : k < 6) (hkj : k = 2 + j) (hcd : CDm M0 cd) (hR : RepG M0 k n s.1 s.2 m) (hm : m ≤ psum s.1 n) (hW : WFg cd n s.1 s.2) (hl : j + 3 ≤ 3) (hk2 : k2 < 6) (hkj2 : k2 = 3 + j) (hx7 : x7 = if j % 2 = 0 then 1 else 0) (C : Cx κ lyC y_L_outcome.cls b_L_outcome 13 (some .int) 9) (hQ : ∀ v M', Pi (fun r M' => r = otc cd n 3 j s ∧ Off (otS j) M0 M' ∧ ∃ th ev, LGd M' 1 th ev) v M' → KQ κ v M')  : ∀ (f i : Nat) (x9 : Int32) (M : Mem), 5 - i < f → 0 < i → i ≤ cntO cd n s.1 (mvr j s.1) → Off (otS j) M0 M → (∃ th ev, LGd M 1 th ev) → x9 = bo (fun i => otc cd n 2 (j + 1) (runG cd n (chc cd n j s i))) (decide (j % 2 = 0)) i → G κ lyC 108 [some (.ref 48), some (.ref 75), some (.ref (op 1)), some (.int (nI j)), some (.int 3), some (.ref (gp k)), some (.ref (gp k2)), some (.int x7), some (.int (mvr j s.1)), some (.int x9), some (.int (nI i)), none, none] [] M := by
  intro f
  induction f with
  | zero => intro i x9 M h; omega
  | succ f ih =>
    intro i x9 M hf hi0 hic ho hL hx9
    have hR1 := hR.off ho (fun p q => ot_g hkj q)
    have hcd1 := hcd.off ho (fun p h1 h2 => ot_cd h1 h2)
    obtain ⟨th1, ev1, hL1⟩ := hL
    obtain ⟨h, h64, hh⟩ := hW.hb
    obtain ⟨htl, hbn, hb24⟩ := hW.tl
    have hn := hW.1.1
    have hh64 : (s.1 1 4).toNatClampNeg ≤ 64 := by rw [hh, nI_clamp (by omega)]; exact h64
    have r10 : M.1 (gp k) 9 = s.1 1 4 := hR1.2.2.2.2.2.2.2.2.1
    have hc4 := cntO_le (cd := cd) (n := n) (g := s.1) (p := mvr j s.1)
    have hi3 : 3 < nI i ↔ 3 < i := nI_ltI (a := 3) (by omega) (by omega)
    have hin : ¬ nI i = 0 := fun q => by
      have := (nI_eq (a := i) (b := 0) (by omega) (by omega)).mp q
      omega
    have hip : ¬ nI i ≤ 0 := fun q => by
      have := (nI_leI (a := i) (b := 0) (by omega) (by omega)).mp q
      omega
    refine u_iload (pc := 108) C d_L_outcome_108 rfl ?_
    refine u_iconst (pc := 110) (v := 3) C d_L_outcome_110 (by decide) ?_
    refine u_icmp_gt (pc := 111) (tgt := 239) C d_L_outcome_111 rfl (fun c111 => ?_) (fun c111 => ?_)
    · refine u_iload (pc := 239) C d_L_outcome_239 rfl ?_
      refine u_iret (pc := 241) C d_L_outcome_241 (hQ _ _ ⟨_, rfl, ?_⟩)
      have hi4 : i = cntO cd n s.1 (mvr j s.1) := by
        rw [hi3] at c111
        omega
      refine ⟨?_, ho, th1, ev1, hL1⟩
      rw [hx9, hi4]
      rfl
    · refine u_iload (pc := 114) C d_L_outcome_114 rfl ?_
      refine u_if_ne (pc := 116) (tgt := 124) C d_L_outcome_116 rfl (fun c116 => ?_) (fun c116 => ?_)
      · refine u_aload (pc := 124) C d_L_outcome_124 rfl ?_
        refine u_iload (pc := 126) C d_L_outcome_126 rfl ?_
        refine u_iconst (pc := 128) (v := 1) C d_L_outcome_128 (by decide) ?_
        refine u_iload (pc := 129) C d_L_outcome_129 rfl ?_
        refine u_iconst (pc := 131) (v := 1) C d_L_outcome_131 (by decide) ?_
        refine u_isub (pc := 132) C d_L_outcome_132 ?_
        rw [nI_sub1 hi0]
        refine u_callVi (pc := 133) C d_L_outcome_133 mx_G_nthIn mw_L_265 (shG0 hk) rfl (c_G_nthIn hk hR1 hcd1 hn (by omega)) rfl rfl (Nat.le_of_ble_eq_true rfl) (fun r133 M133 q133 => ?_)
        obtain ⟨e133, q133⟩ := q133
        have q133 := q133.symm
        subst q133
        refine u_istore (pc := 136) C d_L_outcome_136 rfl (fun x136 e136 L9 hL9 => ?_)
        obtain rfl : L9 = [some (.ref 48), some (.ref 75), some (.ref (op 1)), some (.int (nI j)), some (.int 3), some (.ref (gp k)), some (.ref (gp k2)), some (.int x7), some (.int (mvr j s.1)), some (.int x9), some (.int (nI i)), some (.int x136), none] := hL9.symm
        refine u_iload (pc := 138) C d_L_outcome_138 rfl ?_
        refine u_if_le (pc := 140) (tgt := 161) C d_L_outcome_140 rfl (fun c140 => ?_) (fun c140 => ?_)
        · exact absurd c140 hip
        · refine u_iload (pc := 143) C d_L_outcome_143 rfl ?_
          refine u_if_lt (pc := 145) (tgt := 239) C d_L_outcome_145 rfl (fun c145 => ?_) (fun c145 => ?_)
          · refine u_iload (pc := 239) C d_L_outcome_239 rfl ?_
            refine u_iret (pc := 241) C d_L_outcome_241 (hQ _ _ ⟨_, rfl, ?_⟩)
            have hlen : (atP cd n s.1 (mvr j s.1) 1).length ≤ i - 1 := by
              rcases Nat.lt_or_ge (i - 1) (atP cd n s.1 (mvr j s.1) 1).length with z | z
              · obtain ⟨d1, d2, d3⟩ := atP_mem.mp (getD_mem (l := atP cd n s.1 (mvr j s.1) 1) z)
                rw [e136, e133, nthR_lt z] at c145
                exact absurd c145 (nI_pos (by omega))
              · exact z
            have hi4 : i = cntO cd n s.1 (mvr j s.1) := by
              unfold cntO at hic ⊢
              split
              · rename_i q
                rw [if_pos q] at hic
                omega
              · rename_i q
                rw [if_neg q] at hic
                omega
            refine ⟨?_, ho, th1, ev1, hL1⟩
            rw [hx9, hi4]
            rfl
          · refine u_aload (pc := 148) C d_L_outcome_148 rfl ?_
            refine u_geti (pc := 150) C d_L_outcome_150 fw_L_211 (shG0 hk) rfl ?_
            refine u_bipush (pc := 153) (v := 64) C d_L_outcome_153 (by decide) ?_
            refine u_icmp_lt (pc := 155) (tgt := 161) C d_L_outcome_155 rfl (fun c155 => ?_) (fun c155 => ?_)
            · have c155 : M.1 (gp k) 9 < 64 := c155
              rw [r10] at c155
              have hlen : i - 1 < (atP cd n s.1 (mvr j s.1) 1).length := by
                rcases Nat.lt_or_ge (i - 1) (atP cd n s.1 (mvr j s.1) 1).length with z | z
                · exact z
                · rw [e136, e133, nthR_ge z] at c145
                  exact absurd (by decide) c145
              have e9 : x136 = nI ((atP cd n s.1 (mvr j s.1) 1).getD (i - 1) 0) := by rw [e136, e133, nthR_lt hlen]
              clear e136
              subst e9
              obtain ⟨d1, d2, d3⟩ := atP_mem.mp (getD_mem (l := atP cd n s.1 (mvr j s.1) 1) hlen)
              have hchc : chc cd n j s i = (plG s.1 ((atP cd n s.1 (mvr j s.1) 1).getD (i - 1) 0), s.2) := by rw [chc, if_neg (by omega)]
              have hW2 : WFg cd n (plG s.1 ((atP cd n s.1 (mvr j s.1) 1).getD (i - 1) 0)) s.2 := hW.play d1 d2
              have hm2 : m + 1 ≤ psum (plG s.1 ((atP cd n s.1 (mvr j s.1) 1).getD (i - 1) 0)) n := (mvd.play d1 d2).le hm
              have hi9 : i ≤ 3 := by
                have q := c111
                rw [hi3] at q
                omega
              have hcnt : i + 1 ≤ cntO cd n s.1 (mvr j s.1) := by
                unfold cntO at hic ⊢
                rw [if_pos c155] at hic ⊢
                omega
              refine u_aload (pc := 161) C d_L_outcome_161 rfl ?_
              refine u_aload (pc := 163) C d_L_outcome_163 rfl ?_
              refine u_callVv (pc := 165) C d_L_outcome_165 mx_G_copyFrom mw_L_252 (shG0 hk2) rfl (c_G_copyFrom (k := k2) (k2 := k) hk2 hk (by omega) hR1 htl hb24 hh64) rfl rfl (Nat.le_of_ble_eq_true rfl) (fun M165 q165 => ?_)
              obtain ⟨tR, tO⟩ := q165
              have tL := hL1.off tO (fun p q => g_l hk2 q)
              have tcd := hcd1.off tO (fun p h1 h2 => blk_cd h1 h2)
              have tH := ho.trans (tO.mono (fun p q => ot_blk hkj2 hk2 q))
              refine u_iload (pc := 168) C d_L_outcome_168 rfl ?_
              refine u_if_le (pc := 170) (tgt := 180) C d_L_outcome_170 rfl (fun c170 => ?_) (fun c170 => ?_)
              · exact absurd c170 hip
              · refine u_aload (pc := 173) C d_L_outcome_173 rfl ?_
                refine u_iload (pc := 175) C d_L_outcome_175 rfl ?_
                refine u_callVv (pc := 177) C d_L_outcome_177 mx_G_playCard mw_L_214 (shG0 hk2) rfl (c_G_playCard hk2) rfl rfl (Nat.le_of_ble_eq_true rfl) (fun M177 q177 => ?_)
                have q177 := q177.symm
                subst q177
                have tR2 := tR.pl hh h64 (show (atP cd n s.1 (mvr j s.1) 1).getD (i - 1) 0 < 24 by omega) c155
                have tO2 : Off (blk k2) M165 (plF M165 k2 (nI ((atP cd n s.1 (mvr j s.1) 1).getD (i - 1) 0))) := plF_off
                have tL2 := tL.off tO2 (fun p q => g_l hk2 q)
                have tcd2 := tcd.off tO2 (fun p h1 h2 => blk_cd h1 h2)
                have tH2 := tH.trans (tO2.mono (fun p q => ot_blk hkj2 hk2 q))
                refine u_aload_n (pc := 180) C d_L_outcome_180 rfl ?_
                refine u_aload (pc := 181) C d_L_outcome_181 rfl ?_
                refine u_aload_n (pc := 183) C d_L_outcome_183 rfl ?_
                refine u_callVv (pc := 184) C d_L_outcome_184 mx_R_runPile mw_L_227 sC_75 rfl (c_R_runPile (k := k2) (b := 1) hk2 (by decide) hW2 tcd2 tR2 hm2 tL2) rfl rfl (Nat.le_of_ble_eq_true rfl) (fun M184 q184 => ?_)
                obtain ⟨t, m2, t200, kRun, k7, kR, kM, kW, kL, kO⟩ := q184
                have kx := runR_eq kRun
                have kcd := tcd2.off kO (fun p h1 h2 q => ot_cd (j := j) h1 h2 (ot_run hkj2 hk2 q))
                have kH := tH2.trans (kO.mono (fun p q => ot_run hkj2 hk2 q))
                refine u_aload_n (pc := 187) C d_L_outcome_187 rfl ?_
                refine u_aload_n (pc := 188) C d_L_outcome_188 rfl ?_
                refine u_aload_n (pc := 189) C d_L_outcome_189 rfl ?_
                refine u_iload_n (pc := 190) C d_L_outcome_190 rfl ?_
                refine u_iconst (pc := 191) (v := 1) C d_L_outcome_191 (by decide) ?_
                refine u_iadd (pc := 192) C d_L_outcome_192 ?_
                refine u_iload (pc := 193) C d_L_outcome_193 rfl ?_
                refine u_iconst (pc := 195) (v := 1) C d_L_outcome_195 (by decide) ?_
                refine u_isub (pc := 196) C d_L_outcome_196 ?_
                rw [← nI_succ, show (3 : Int32) - 1 = 2 from rfl]
                refine u_callSi (pc := 197) C d_L_outcome_197 mx_L_outcome mw_L_261 (c_L_outcome2 hk2 (by omega) kcd kR kM kW ⟨_, _, kL⟩ (by omega)) rfl rfl (Nat.le_of_ble_eq_true rfl) (fun r197 M197 q197 => ?_)
                obtain ⟨e197, oO, oL⟩ := q197
                have oH := kH.trans (oO.mono (fun p q => ot_ot q))
                refine u_istore (pc := 200) C d_L_outcome_200 rfl (fun x200 e200 L9 hL9 => ?_)
                obtain rfl : L9 = [some (.ref 48), some (.ref 75), some (.ref (op 1)), some (.int (nI j)), some (.int 3), some (.ref (gp k)), some (.ref (gp k2)), some (.int x7), some (.int (mvr j s.1)), some (.int x9), some (.int (nI i)), some (.int (nI ((atP cd n s.1 (mvr j s.1) 1).getD (i - 1) 0))), some (.int x200)] := hL9.symm
                have eF : x200 = otc cd n 2 (j + 1) (runG cd n (chc cd n j s i)) := by
                  rw [e200, e197]
                  rw [hchc, runG, kx]
                refine u_iload (pc := 202) C d_L_outcome_202 rfl ?_
                refine u_if_eq (pc := 204) (tgt := 229) C d_L_outcome_204 rfl (fun c204 => ?_) (fun c204 => ?_)
                · exact absurd c204 hin
                · refine u_iload (pc := 207) C d_L_outcome_207 rfl ?_
                  refine u_if_eq (pc := 209) (tgt := 222) C d_L_outcome_209 rfl (fun c209 => ?_) (fun c209 => ?_)
                  · refine u_iload (pc := 222) C d_L_outcome_222 rfl ?_
                    refine u_iload (pc := 224) C d_L_outcome_224 rfl ?_
                    refine u_icmp_ge (pc := 226) (tgt := 233) C d_L_outcome_226 rfl (fun c226 => ?_) (fun c226 => ?_)
                    · refine u_iinc (pc := 233) (v2 := 1) C d_L_outcome_233 rfl rfl (by decide) (fun x233 e233 L9 hL9 => ?_)
                      obtain rfl : L9 = [some (.ref 48), some (.ref 75), some (.ref (op 1)), some (.int (nI j)), some (.int 3), some (.ref (gp k)), some (.ref (gp k2)), some (.int x7), some (.int (mvr j s.1)), some (.int x9), some (.int x233), some (.int (nI ((atP cd n s.1 (mvr j s.1) 1).getD (i - 1) 0))), some (.int x200)] := hL9.symm
                      refine u_goto (pc := 236) (tgt := 108) C d_L_outcome_236 rfl ?_
                      obtain rfl : x233 = nI (i + 1) := by rw [e233, nI_succ]
                      refine u_drop 11 rfl ?_
                      refine u_drop 12 rfl ?_
                      refine ih (i + 1) _ _ (by omega) (by omega) hcnt oH oL ?_
                      rw [bo_up hi0, ← hx9, ← eF]
                      have hj : ¬ j % 2 = 0 := fun z => by
                        rw [hx7, if_pos z] at c209
                        exact absurd c209 (by decide)
                      rw [if_neg (by simpa using hj)]
                      rw [if_neg (Int32.not_lt.mpr c226)]
                    · refine u_iload (pc := 229) C d_L_outcome_229 rfl ?_
                      refine u_istore (pc := 231) C d_L_outcome_231 rfl (fun x231 e231 L9 hL9 => ?_)
                      obtain rfl : L9 = [some (.ref 48), some (.ref 75), some (.ref (op 1)), some (.int (nI j)), some (.int 3), some (.ref (gp k)), some (.ref (gp k2)), some (.int x7), some (.int (mvr j s.1)), some (.int x231), some (.int (nI i)), some (.int (nI ((atP cd n s.1 (mvr j s.1) 1).getD (i - 1) 0))), some (.int x200)] := hL9.symm
                      refine u_iinc (pc := 233) (v2 := 1) C d_L_outcome_233 rfl rfl (by decide) (fun x233 e233 L9 hL9 => ?_)
                      obtain rfl : L9 = [some (.ref 48), some (.ref 75), some (.ref (op 1)), some (.int (nI j)), some (.int 3), some (.ref (gp k)), some (.ref (gp k2)), some (.int x7), some (.int (mvr j s.1)), some (.int x231), some (.int x233), some (.int (nI ((atP cd n s.1 (mvr j s.1) 1).getD (i - 1) 0))), some (.int x200)] := hL9.symm
                      refine u_goto (pc := 236) (tgt := 108) C d_L_outcome_236 rfl ?_
                      obtain rfl : x233 = nI (i + 1) := by rw [e233, nI_succ]
                      refine u_drop 11 rfl ?_
                      refine u_drop 12 rfl ?_
                      refine ih (i + 1) _ _ (by omega) (by omega) hcnt oH oL ?_
                      rw [bo_up hi0, ← hx9, ← eF]
                      have hj : ¬ j % 2 = 0 := fun z => by
                        rw [hx7, if_pos z] at c209
                        exact absurd c209 (by decide)
                      rw [if_neg (by simpa using hj)]
                      rw [if_pos (Int32.not_le.mp c226), e231]
                  · refine u_iload (pc := 212) C d_L_outcome_212 rfl ?_
                    refine u_iload (pc := 214) C d_L_outcome_214 rfl ?_
                    refine u_icmp_le (pc := 216) (tgt := 233) C d_L_outcome_216 rfl (fun c216 => ?_) (fun c216 => ?_)
                    · refine u_iinc (pc := 233) (v2 := 1) C d_L_outcome_233 rfl rfl (by decide) (fun x233 e233 L9 hL9 => ?_)
                      obtain rfl : L9 = [some (.ref 48), some (.ref 75), some (.ref (op 1)), some (.int (nI j)), some (.int 3), some (.ref (gp k)), some (.ref (gp k2)), some (.int x7), some (.int (mvr j s.1)), some (.int x9), some (.int x233), some (.int (nI ((atP cd n s.1 (mvr j s.1) 1).getD (i - 1) 0))), some (.int x200)] := hL9.symm
                      refine u_goto (pc := 236) (tgt := 108) C d_L_outcome_236 rfl ?_
                      obtain rfl : x233 = nI (i + 1) := by rw [e233, nI_succ]
                      refine u_drop 11 rfl ?_
                      refine u_drop 12 rfl ?_
                      refine ih (i + 1) _ _ (by omega) (by omega) hcnt oH oL ?_
                      rw [bo_up hi0, ← hx9, ← eF]
                      have hj : j % 2 = 0 := by
                        rcases Classical.em (j % 2 = 0) with z | z
                        · exact z
                        · rw [hx7, if_neg z] at c209
                          exact absurd rfl c209
                      rw [if_pos (by simpa using hj)]
                      rw [if_neg (Int32.not_lt.mpr c216)]
                    · refine u_goto (pc := 219) (tgt := 229) C d_L_outcome_219 rfl ?_
                      refine u_iload (pc := 229) C d_L_outcome_229 rfl ?_
                      refine u_istore (pc := 231) C d_L_outcome_231 rfl (fun x231 e231 L9 hL9 => ?_)
                      obtain rfl : L9 = [some (.ref 48), some (.ref 75), some (.ref (op 1)), some (.int (nI j)), some (.int 3), some (.ref (gp k)), some (.ref (gp k2)), some (.int x7), some (.int (mvr j s.1)), some (.int x231), some (.int (nI i)), some (.int (nI ((atP cd n s.1 (mvr j s.1) 1).getD (i - 1) 0))), some (.int x200)] := hL9.symm
                      refine u_iinc (pc := 233) (v2 := 1) C d_L_outcome_233 rfl rfl (by decide) (fun x233 e233 L9 hL9 => ?_)
                      obtain rfl : L9 = [some (.ref 48), some (.ref 75), some (.ref (op 1)), some (.int (nI j)), some (.int 3), some (.ref (gp k)), some (.ref (gp k2)), some (.int x7), some (.int (mvr j s.1)), some (.int x231), some (.int x233), some (.int (nI ((atP cd n s.1 (mvr j s.1) 1).getD (i - 1) 0))), some (.int x200)] := hL9.symm
                      refine u_goto (pc := 236) (tgt := 108) C d_L_outcome_236 rfl ?_
                      obtain rfl : x233 = nI (i + 1) := by rw [e233, nI_succ]
                      refine u_drop 11 rfl ?_
                      refine u_drop 12 rfl ?_
                      refine ih (i + 1) _ _ (by omega) (by omega) hcnt oH oL ?_
                      rw [bo_up hi0, ← hx9, ← eF]
                      have hj : j % 2 = 0 := by
                        rcases Classical.em (j % 2 = 0) with z | z
                        · exact z
                        · rw [hx7, if_neg z] at c209
                          exact absurd rfl c209
                      rw [if_pos (by simpa using hj)]
                      rw [if_pos (Int32.not_le.mp c216), e231]
            · refine u_goto (pc := 158) (tgt := 239) C d_L_outcome_158 rfl ?_
              refine u_iload (pc := 239) C d_L_outcome_239 rfl ?_
              refine u_iret (pc := 241) C d_L_outcome_241 (hQ _ _ ⟨_, rfl, ?_⟩)
              have c155 : ¬ M.1 (gp k) 9 < 64 := c155
              rw [r10] at c155
              have hi4 : i = cntO cd n s.1 (mvr j s.1) := by
                unfold cntO at hic ⊢
                rw [if_neg c155] at hic ⊢
                omega
              refine ⟨?_, ho, th1, ev1, hL1⟩
              rw [hx9, hi4]
              rfl
      · exact absurd c116 hin
set_option maxRecDepth 20000 in
theorem lp_otA3 {κ : KX} {k2 : Nat} {x7 : Int32} {n j k m : Nat} {s : Gm × List Nat} {cd : Nat → Nat → Int32} {M0 : Mem} (hk : k < 6) (hkj : k = 2 + j) (hcd : CDm M0 cd) (hR : RepG M0 k n s.1 s.2 m) (hm : m ≤ psum s.1 n) (hW : WFg cd n s.1 s.2) (hl : j + 3 ≤ 3) (hk2 : k2 < 6) (hkj2 : k2 = 3 + j) (hx7 : x7 = if j % 2 = 0 then 1 else 0) {x9 : Int32} (hm0 : m ≤ psum s.1 n) (C : Cx κ lyC y_L_outcome.cls b_L_outcome 13 (some .int) 9) (hQ : ∀ v M', Pi (fun r M' => r = otc cd n 3 j s ∧ Off (otS j) M0 M' ∧ ∃ th ev, LGd M' 1 th ev) v M' → KQ κ v M')  : ∀ (M : Mem), Off (otS j) M0 M → (∃ th ev, LGd M 1 th ev) → G κ lyC 108 [some (.ref 48), some (.ref 75), some (.ref (op 1)), some (.int (nI j)), some (.int 3), some (.ref (gp k)), some (.ref (gp k2)), some (.int x7), some (.int (mvr j s.1)), some (.int x9), some (.int 0), none, none] [] M := by
  intro M ho hL
  have hR1 := hR.off ho (fun p q => ot_g hkj q)
  have hcd1 := hcd.off ho (fun p h1 h2 => ot_cd h1 h2)
  obtain ⟨th1, ev1, hL1⟩ := hL
  obtain ⟨h, h64, hh⟩ := hW.hb
  obtain ⟨htl, hbn, hb24⟩ := hW.tl
  have hn := hW.1.1
  have hh64 : (s.1 1 4).toNatClampNeg ≤ 64 := by rw [hh, nI_clamp (by omega)]; exact h64
  have r10 : M.1 (gp k) 9 = s.1 1 4 := hR1.2.2.2.2.2.2.2.2.1
  refine u_iload (pc := 108) C d_L_outcome_108 rfl ?_
  refine u_iconst (pc := 110) (v := 3) C d_L_outcome_110 (by decide) ?_
  refine u_icmp_gt (pc := 111) (tgt := 239) C d_L_outcome_111 rfl (fun c111 => ?_) (fun c111 => ?_)
  · exact absurd c111 (by decide)
  · refine u_iload (pc := 114) C d_L_outcome_114 rfl ?_
    refine u_if_ne (pc := 116) (tgt := 124) C d_L_outcome_116 rfl (fun c116 => ?_) (fun c116 => ?_)
    · exact absurd rfl c116
    · refine u_bipush (pc := 119) (v := (-2)) C d_L_outcome_119 (by decide) ?_
      refine u_goto (pc := 121) (tgt := 136) C d_L_outcome_121 rfl ?_
      refine u_istore (pc := 136) C d_L_outcome_136 rfl (fun x136 e136 L9 hL9 => ?_)
      obtain rfl : L9 = [some (.ref 48), some (.ref 75), some (.ref (op 1)), some (.int (nI j)), some (.int 3), some (.ref (gp k)), some (.ref (gp k2)), some (.int x7), some (.int (mvr j s.1)), some (.int x9), some (.int 0), some (.int x136), none] := hL9.symm
      refine u_iload (pc := 138) C d_L_outcome_138 rfl ?_
      refine u_if_le (pc := 140) (tgt := 161) C d_L_outcome_140 rfl (fun c140 => ?_) (fun c140 => ?_)
      · refine u_aload (pc := 161) C d_L_outcome_161 rfl ?_
        refine u_aload (pc := 163) C d_L_outcome_163 rfl ?_
        refine u_callVv (pc := 165) C d_L_outcome_165 mx_G_copyFrom mw_L_252 (shG0 hk2) rfl (c_G_copyFrom (k := k2) (k2 := k) hk2 hk (by omega) hR1 htl hb24 hh64) rfl rfl (Nat.le_of_ble_eq_true rfl) (fun M165 q165 => ?_)
        obtain ⟨tR, tO⟩ := q165
        have tL := hL1.off tO (fun p q => g_l hk2 q)
        have tcd := hcd1.off tO (fun p h1 h2 => blk_cd h1 h2)
        have tH := ho.trans (tO.mono (fun p q => ot_blk hkj2 hk2 q))
        refine u_iload (pc := 168) C d_L_outcome_168 rfl ?_
        refine u_if_le (pc := 170) (tgt := 180) C d_L_outcome_170 rfl (fun c170 => ?_) (fun c170 => ?_)
        · refine u_aload_n (pc := 180) C d_L_outcome_180 rfl ?_
          refine u_aload (pc := 181) C d_L_outcome_181 rfl ?_
          refine u_aload_n (pc := 183) C d_L_outcome_183 rfl ?_
          refine u_callVv (pc := 184) C d_L_outcome_184 mx_R_runPile mw_L_227 sC_75 rfl (c_R_runPile (k := k2) (b := 1) hk2 (by decide) hW tcd tR hm tL) rfl rfl (Nat.le_of_ble_eq_true rfl) (fun M184 q184 => ?_)
          obtain ⟨t, m2, t200, kRun, k7, kR, kM, kW, kL, kO⟩ := q184
          have kx := runR_eq kRun
          have kcd := tcd.off kO (fun p h1 h2 q => ot_cd (j := j) h1 h2 (ot_run hkj2 hk2 q))
          have kH := tH.trans (kO.mono (fun p q => ot_run hkj2 hk2 q))
          refine u_aload_n (pc := 187) C d_L_outcome_187 rfl ?_
          refine u_aload_n (pc := 188) C d_L_outcome_188 rfl ?_
          refine u_aload_n (pc := 189) C d_L_outcome_189 rfl ?_
          refine u_iload_n (pc := 190) C d_L_outcome_190 rfl ?_
          refine u_iconst (pc := 191) (v := 1) C d_L_outcome_191 (by decide) ?_
          refine u_iadd (pc := 192) C d_L_outcome_192 ?_
          refine u_iload (pc := 193) C d_L_outcome_193 rfl ?_
          refine u_iconst (pc := 195) (v := 1) C d_L_outcome_195 (by decide) ?_
          refine u_isub (pc := 196) C d_L_outcome_196 ?_
          rw [← nI_succ, show (3 : Int32) - 1 = 2 from rfl]
          refine u_callSi (pc := 197) C d_L_outcome_197 mx_L_outcome mw_L_261 (c_L_outcome2 hk2 (by omega) kcd kR kM kW ⟨_, _, kL⟩ (by omega)) rfl rfl (Nat.le_of_ble_eq_true rfl) (fun r197 M197 q197 => ?_)
          obtain ⟨e197, oO, oL⟩ := q197
          have oH := kH.trans (oO.mono (fun p q => ot_ot q))
          refine u_istore (pc := 200) C d_L_outcome_200 rfl (fun x200 e200 L9 hL9 => ?_)
          obtain rfl : L9 = [some (.ref 48), some (.ref 75), some (.ref (op 1)), some (.int (nI j)), some (.int 3), some (.ref (gp k)), some (.ref (gp k2)), some (.int x7), some (.int (mvr j s.1)), some (.int x9), some (.int 0), some (.int x136), some (.int x200)] := hL9.symm
          refine u_iload (pc := 202) C d_L_outcome_202 rfl ?_
          refine u_if_eq (pc := 204) (tgt := 229) C d_L_outcome_204 rfl (fun c204 => ?_) (fun c204 => ?_)
          · refine u_iload (pc := 229) C d_L_outcome_229 rfl ?_
            refine u_istore (pc := 231) C d_L_outcome_231 rfl (fun x231 e231 L9 hL9 => ?_)
            obtain rfl : L9 = [some (.ref 48), some (.ref 75), some (.ref (op 1)), some (.int (nI j)), some (.int 3), some (.ref (gp k)), some (.ref (gp k2)), some (.int x7), some (.int (mvr j s.1)), some (.int x231), some (.int 0), some (.int x136), some (.int x200)] := hL9.symm
            refine u_iinc (pc := 233) (v2 := 1) C d_L_outcome_233 rfl rfl (by decide) (fun x233 e233 L9 hL9 => ?_)
            obtain rfl : L9 = [some (.ref 48), some (.ref 75), some (.ref (op 1)), some (.int (nI j)), some (.int 3), some (.ref (gp k)), some (.ref (gp k2)), some (.int x7), some (.int (mvr j s.1)), some (.int x231), some (.int x233), some (.int x136), some (.int x200)] := hL9.symm
            refine u_goto (pc := 236) (tgt := 108) C d_L_outcome_236 rfl ?_
            obtain rfl : x233 = nI 1 := by rw [e233]; rfl
            refine u_drop 11 rfl ?_
            refine u_drop 12 rfl ?_
            refine lp_otB3 hk hkj hcd hR hm hW hl hk2 hkj2 hx7 C hQ 5 1 _ _ (by omega) (by omega) (by unfold cntO; split <;> omega) oH oL ?_
            rw [bo_one, e231, e200, e197]
            show _ = otc cd n 2 (j + 1) (runG cd n (chc cd n j s 0))
            rw [chc, if_pos rfl, runG, kx]
          · exact absurd rfl c204
        · exact absurd (by decide) c170
      · exact absurd (by decide) c140
set_option maxRecDepth 20000 in
theorem lp_ot803 {κ : KX} {k2 : Nat} {x7 : Int32} {n j k m : Nat} {s : Gm × List Nat} {cd : Nat → Nat → Int32} {M0 : Mem} (hk : k < 6) (hkj : k = 2 + j) (hcd : CDm M0 cd) (hR : RepG M0 k n s.1 s.2 m) (hm : m ≤ psum s.1 n) (hW : WFg cd n s.1 s.2) (hl : j + 3 ≤ 3) (hk2 : k2 < 6) (hkj2 : k2 = 3 + j) (hx7 : x7 = if j % 2 = 0 then 1 else 0) (C : Cx κ lyC y_L_outcome.cls b_L_outcome 13 (some .int) 9) (hQ : ∀ v M', Pi (fun r M' => r = otc cd n 3 j s ∧ Off (otS j) M0 M' ∧ ∃ th ev, LGd M' 1 th ev) v M' → KQ κ v M')  : (∃ th ev, LGd M0 1 th ev) → G κ lyC 80 [some (.ref 48), some (.ref 75), some (.ref (op 1)), some (.int (nI j)), some (.int 3), some (.ref (gp k)), some (.ref (gp k2)), some (.int x7), none, none, none, none, none] [] M0 := by
  intro hL
  have r12 : M0.1 (gp k) 11 = s.1 1 2 := hR.2.2.2.2.2.2.2.2.2.2.1
  refine u_iload (pc := 80) C d_L_outcome_80 rfl ?_
  refine u_if_eq (pc := 82) (tgt := 93) C d_L_outcome_82 rfl (fun c82 => ?_) (fun c82 => ?_)
  · refine u_iconst (pc := 93) (v := 1) C d_L_outcome_93 (by decide) ?_
    refine u_aload (pc := 94) C d_L_outcome_94 rfl ?_
    refine u_geti (pc := 96) C d_L_outcome_96 fw_L_249 (shG0 hk) rfl ?_
    refine u_isub (pc := 99) C d_L_outcome_99 ?_
    refine u_istore (pc := 100) C d_L_outcome_100 rfl (fun x100 e100 L9 hL9 => ?_)
    obtain rfl : L9 = [some (.ref 48), some (.ref 75), some (.ref (op 1)), some (.int (nI j)), some (.int 3), some (.ref (gp k)), some (.ref (gp k2)), some (.int x7), some (.int x100), none, none, none, none] := hL9.symm
    refine u_iconst (pc := 102) (v := 0) C d_L_outcome_102 (by decide) ?_
    refine u_istore (pc := 103) C d_L_outcome_103 rfl (fun x103 e103 L9 hL9 => ?_)
    obtain rfl : L9 = [some (.ref 48), some (.ref 75), some (.ref (op 1)), some (.int (nI j)), some (.int 3), some (.ref (gp k)), some (.ref (gp k2)), some (.int x7), some (.int x100), some (.int x103), none, none, none] := hL9.symm
    refine u_iconst (pc := 105) (v := 0) C d_L_outcome_105 (by decide) ?_
    refine u_istore (pc := 106) C d_L_outcome_106 rfl (fun x106 e106 L9 hL9 => ?_)
    obtain rfl : L9 = [some (.ref 48), some (.ref 75), some (.ref (op 1)), some (.int (nI j)), some (.int 3), some (.ref (gp k)), some (.ref (gp k2)), some (.int x7), some (.int x100), some (.int x103), some (.int x106), none, none] := hL9.symm
    subst e106
    have hmv : x100 = mvr j s.1 := by
      rw [e100, r12, mvr, if_neg (fun z => by rw [hx7, if_pos z] at c82; exact absurd c82 (by decide))]
    subst hmv
    exact lp_otA3 hk hkj hcd hR hm hW hl hk2 hkj2 hx7 hm C hQ M0 Off.refl hL
  · refine u_aload (pc := 85) C d_L_outcome_85 rfl ?_
    refine u_geti (pc := 87) C d_L_outcome_87 fw_L_249 (shG0 hk) rfl ?_
    refine u_goto (pc := 90) (tgt := 100) C d_L_outcome_90 rfl ?_
    refine u_istore (pc := 100) C d_L_outcome_100 rfl (fun x100 e100 L9 hL9 => ?_)
    obtain rfl : L9 = [some (.ref 48), some (.ref 75), some (.ref (op 1)), some (.int (nI j)), some (.int 3), some (.ref (gp k)), some (.ref (gp k2)), some (.int x7), some (.int x100), none, none, none, none] := hL9.symm
    refine u_iconst (pc := 102) (v := 0) C d_L_outcome_102 (by decide) ?_
    refine u_istore (pc := 103) C d_L_outcome_103 rfl (fun x103 e103 L9 hL9 => ?_)
    obtain rfl : L9 = [some (.ref 48), some (.ref 75), some (.ref (op 1)), some (.int (nI j)), some (.int 3), some (.ref (gp k)), some (.ref (gp k2)), some (.int x7), some (.int x100), some (.int x103), none, none, none] := hL9.symm
    refine u_iconst (pc := 105) (v := 0) C d_L_outcome_105 (by decide) ?_
    refine u_istore (pc := 106) C d_L_outcome_106 rfl (fun x106 e106 L9 hL9 => ?_)
    obtain rfl : L9 = [some (.ref 48), some (.ref 75), some (.ref (op 1)), some (.int (nI j)), some (.int 3), some (.ref (gp k)), some (.ref (gp k2)), some (.int x7), some (.int x100), some (.int x103), some (.int x106), none, none] := hL9.symm
    subst e106
    have hmv : x100 = mvr j s.1 := by
      rw [e100, r12, mvr, if_pos (Classical.byContradiction (fun z => c82 (by rw [hx7, if_neg z])))]
    subst hmv
    exact lp_otA3 hk hkj hcd hR hm hW hl hk2 hkj2 hx7 hm C hQ M0 Off.refl hL
set_option maxRecDepth 20000 in
theorem c_L_outcome3 {n j k m : Nat} {s : Gm × List Nat} {cd : Nat → Nat → Int32} {M : Mem} (hk : k < 6) (hkj : k = 2 + j) (hcd : CDm M cd) (hR : RepG M k n s.1 s.2 m) (hm : m ≤ psum s.1 n) (hW : WFg cd n s.1 s.2) (hL : ∃ th ev, LGd M 1 th ev) (hl : j + 3 ≤ 3) : Ct lyC y_L_outcome b_L_outcome 13 (some .int) 9 [.ref 48, .ref 75, .ref (op 1), .int (nI j), .int 3] M (Pi fun r M' => r = otc cd n 3 j s ∧ Off (otS j) M M' ∧ ∃ th ev, LGd M' 1 th ev) := by
  obtain ⟨k2, hkj2⟩ : ∃ k2, k2 = 3 + j := ⟨_, rfl⟩
  have hk2 : k2 < 6 := by omega
  refine Ct.ofG mx_L_outcome [some (.ref 48), some (.ref 75), some (.ref (op 1)), some (.int (nI j)), some (.int 3), none, none, none, none, none, none, none, none] rfl rfl (Nat.le_of_ble_eq_true rfl) (fun κ C hQ => ?_)
  refine u_iload_n (pc := 0) C d_L_outcome_0 rfl ?_
  refine u_if_lt (pc := 1) (tgt := 16) C d_L_outcome_1 rfl (fun c1 => ?_) (fun c1 => ?_)
  · exact absurd c1 (nI_pos (by omega))
  · refine u_iload_n (pc := 4) C d_L_outcome_4 rfl ?_
    refine u_aload_n (pc := 5) C d_L_outcome_5 rfl ?_
    refine u_alen (pc := 6) C d_L_outcome_6 sC_48 rfl rfl ?_
    refine u_icmp_ge (pc := 7) (tgt := 16) C d_L_outcome_7 rfl (fun c7 => ?_) (fun c7 => ?_)
    · rw [ofNat_nI] at c7; exact absurd c7 (nI_ge (by omega) (by decide))
    · refine u_aload_n (pc := 10) C d_L_outcome_10 rfl ?_
      refine u_iload_n (pc := 11) C d_L_outcome_11 rfl ?_
      refine u_aaldG (pc := 12) (r := (gp k)) C d_L_outcome_12 sC_48 (vp_in_nI (by omega) (by decide)) (th_ix hkj hk) ?_
      refine u_goto (pc := 13) (tgt := 17) C d_L_outcome_13 rfl ?_
      refine u_astore (pc := 17) C d_L_outcome_17 rfl (fun L9 hL9 => ?_)
      obtain rfl : L9 = [some (.ref 48), some (.ref 75), some (.ref (op 1)), some (.int (nI j)), some (.int 3), some (.ref (gp k)), none, none, none, none, none, none, none] := hL9.symm
      refine u_aload (pc := 19) C d_L_outcome_19 rfl ?_
      refine u_nonnull (pc := 21) (tgt := 27) C d_L_outcome_21 rfl ?_
      refine u_iload (pc := 27) C d_L_outcome_27 rfl ?_
      refine u_if_le (pc := 29) (tgt := 48) C d_L_outcome_29 rfl (fun c29 => ?_) (fun c29 => ?_)
      · exact absurd c29 (by decide)
      · refine u_iload_n (pc := 32) C d_L_outcome_32 rfl ?_
        refine u_iconst (pc := 33) (v := 1) C d_L_outcome_33 (by decide) ?_
        refine u_iadd (pc := 34) C d_L_outcome_34 ?_
        refine u_aload_n (pc := 35) C d_L_outcome_35 rfl ?_
        refine u_alen (pc := 36) C d_L_outcome_36 sC_48 rfl rfl ?_
        refine u_icmp_ge (pc := 37) (tgt := 48) C d_L_outcome_37 rfl (fun c37 => ?_) (fun c37 => ?_)
        · rw [← nI_succ, ofNat_nI] at c37; exact absurd c37 (nI_ge (by omega) (by decide))
        · refine u_aload_n (pc := 40) C d_L_outcome_40 rfl ?_
          refine u_iload_n (pc := 41) C d_L_outcome_41 rfl ?_
          refine u_iconst (pc := 42) (v := 1) C d_L_outcome_42 (by decide) ?_
          refine u_iadd (pc := 43) C d_L_outcome_43 ?_
          rw [← nI_succ]
          refine u_aaldG (pc := 44) (r := (gp k2)) C d_L_outcome_44 sC_48 (vp_in_nI (by omega) (by decide)) (th_ix (by omega) hk2) ?_
          refine u_goto (pc := 45) (tgt := 49) C d_L_outcome_45 rfl ?_
          refine u_astore (pc := 49) C d_L_outcome_49 rfl (fun L9 hL9 => ?_)
          obtain rfl : L9 = [some (.ref 48), some (.ref 75), some (.ref (op 1)), some (.int (nI j)), some (.int 3), some (.ref (gp k)), some (.ref (gp k2)), none, none, none, none, none, none] := hL9.symm
          refine u_aload (pc := 51) C d_L_outcome_51 rfl ?_
          refine u_nonnull (pc := 53) (tgt := 67) C d_L_outcome_53 rfl ?_
          refine u_iload_n (pc := 67) C d_L_outcome_67 rfl ?_
          refine u_iconst (pc := 68) (v := 2) C d_L_outcome_68 (by decide) ?_
          refine u_irem (pc := 69) C d_L_outcome_69 (by decide) ?_
          refine u_if_ne (pc := 70) (tgt := 77) C d_L_outcome_70 rfl (fun c70 => ?_) (fun c70 => ?_)
          · refine u_iconst (pc := 77) (v := 0) C d_L_outcome_77 (by decide) ?_
            refine u_istore (pc := 78) C d_L_outcome_78 rfl (fun x78 e78 L9 hL9 => ?_)
            obtain rfl : L9 = [some (.ref 48), some (.ref 75), some (.ref (op 1)), some (.int (nI j)), some (.int 3), some (.ref (gp k)), some (.ref (gp k2)), some (.int x78), none, none, none, none, none] := hL9.symm
            have hj9 : j ≤ 3 := by omega
            have hx7 : x78 = if j % 2 = 0 then 1 else 0 := by
              rw [e78]
              rcases (show j = 0 ∨ j = 1 ∨ j = 2 ∨ j = 3 by omega) with rfl | rfl | rfl | rfl <;> first | rfl | exact absurd (by decide) c70 | exact absurd c70 (by decide)
            exact lp_ot803 hk hkj hcd hR hm hW hl hk2 hkj2 hx7 C hQ hL
          · refine u_iconst (pc := 73) (v := 1) C d_L_outcome_73 (by decide) ?_
            refine u_goto (pc := 74) (tgt := 78) C d_L_outcome_74 rfl ?_
            refine u_istore (pc := 78) C d_L_outcome_78 rfl (fun x78 e78 L9 hL9 => ?_)
            obtain rfl : L9 = [some (.ref 48), some (.ref 75), some (.ref (op 1)), some (.int (nI j)), some (.int 3), some (.ref (gp k)), some (.ref (gp k2)), some (.int x78), none, none, none, none, none] := hL9.symm
            have hj9 : j ≤ 3 := by omega
            have hx7 : x78 = if j % 2 = 0 then 1 else 0 := by
              rw [e78]
              rcases (show j = 0 ∨ j = 1 ∨ j = 2 ∨ j = 3 by omega) with rfl | rfl | rfl | rfl <;> first | rfl | exact absurd (by decide) c70 | exact absurd c70 (by decide)
            exact lp_ot803 hk hkj hcd hR hm hW hl hk2 hkj2 hx7 C hQ hL
