/-! the class's calls: those that change nothing that lasts -/
def scrS (p : Nat) : Prop := (20 ≤ p ∧ p < 48) ∨ (49 ≤ p ∧ p < 63) ∨ (66 ≤ p ∧ p ≤ 75)
theorem InvC.scr {M M' : Mem} {σ : St} (h : InvC M σ) (ho : Off scrS M M') (hl : ∃ th ev, LGd M' 1 th ev) : InvC M' σ := by
  obtain ⟨h1, h2, ⟨m, hm, h3⟩, h4, h5, h6, h7, h8, h9⟩ := h
  have k : ∀ p, ¬ scrS p → M'.1 p = M.1 p := fun p hp => (ho p hp).1
  have k83 := k 83 (fun q => by rcases q with q | q | q <;> omega)
  have k76 := k 76 (fun q => by rcases q with q | q | q <;> omega)
  have k77 := k 77 (fun q => by rcases q with q | q | q <;> omega)
  have k82 := k 82 (fun q => by rcases q with q | q | q <;> omega)
  have b0 : ∀ p, scrS p → ¬ blk 0 p := fun p q z => by
    have z1 := z.1
    have z2 := z.2
    unfold gp at z1 z2
    rcases q with q | q | q <;> omega
  have b1 : ∀ p, scrS p → ¬ blk 1 p := fun p q z => by
    have z1 := z.1
    have z2 := z.2
    unfold gp at z1 z2
    rcases q with q | q | q <;> omega
  refine ⟨h1, h2.off ho (fun p q1 q2 z => by rcases z with q | q | q <;> omega), ⟨m, hm, h3.off ho b0⟩, ?_, ?_, ?_, ?_, h8.off ho (fun p q z => by
    have z1 := z.1
    have z2 := z.2
    unfold op at z1 z2
    rcases q with q | q | q <;> omega), hl⟩
  · rw [k83]
    cases hi : σ.2.1 with
    | none => rw [hi] at h4; exact h4
    | some i =>
      rw [hi] at h4
      obtain ⟨a1, a2, a3, m', a4, a5⟩ := h4
      exact ⟨a1, a2, a3, m', a4, a5.off ho b1⟩
  · rw [k76, k77]; exact h5
  · rw [k82]; exact h6
  · rw [k83]; exact h7
theorem InvC.R {M : Mem} {σ : St} (h : InvC M σ) : ∃ m, m ≤ psum σ.1.2.2.1 σ.1.2.1 ∧ RepG M 0 σ.1.2.1 σ.1.2.2.1 σ.1.2.2.2 m := h.2.2.1
def hasQ (n : Nat) (c : Int32) : Prop := hasF (nI n) c = 0
theorem has_ix {n : Nat} {c : Int32} (h : ¬ hasF (nI n) c = 0) (hn : n ≤ 24) : ∃ d, d < n ∧ c = nI d := by
  have : isC n c := by
    rcases Classical.em (isC n c) with q | q
    · exact q
    · exact absurd (hasF_is.mpr q) h
  exact isC_of this hn
def sp_of (c what : Int32) (σ : St) : Int32 := if hasF (nI σ.1.2.1) c = 0 then -1 else if what = 0 then σ.1.1 0 c.toNatClampNeg else if what = 1 then σ.1.1 1 c.toNatClampNeg else if what = 2 then σ.1.1 2 c.toNatClampNeg else if what = 3 then σ.1.1 3 c.toNatClampNeg else if what = 4 then σ.1.1 4 c.toNatClampNeg + 10 else if what = 5 then σ.1.2.2.1 3 c.toNatClampNeg else if what = 6 then (if σ.1.2.2.1 3 c.toNatClampNeg = 3 then σ.1.2.2.1 4 c.toNatClampNeg else -2) else -1
def sp_player (p what : Int32) (σ : St) : Int32 := if p = 0 ∨ p = 1 then (if what = 0 then σ.1.2.2.1 0 (pix p) else if what = 1 then nI (atP σ.1.1 σ.1.2.1 σ.1.2.2.1 p 0).length else if what = 2 then nI (atP σ.1.1 σ.1.2.1 σ.1.2.2.1 p 1).length else if what = 3 then nI (atP σ.1.1 σ.1.2.1 σ.1.2.2.1 p 3).length else if what = 4 then nI (atP σ.1.1 σ.1.2.1 σ.1.2.2.1 p 4).length else -2000000000) else -2000000000
def sp_value (v : Int32) (σ : St) : Int32 := if v < 0 then -2000000000 else if v < 4 then vals σ.1.1 σ.1.2.2.1 σ.1.2.2.2 v.toNatClampNeg else -2000000000
def sp_layer (i : Int32) (σ : St) : Int32 := if 0 ≤ i then (if i < nI (order σ.1.1 σ.1.2.2.2).length then nI ((order σ.1.1 σ.1.2.2.2).getD i.toNatClampNeg 0) else -2) else -1
def sp_lot (c : Int32) (σ : St) : Int32 := if hasF (nI σ.1.2.1) c = 0 then 0 else if σ.1.2.2.1 3 c.toNatClampNeg = 3 ∧ σ.1.1 0 c.toNatClampNeg ≤ 4 then 1 else 0
def sp_depends (a b : Int32) (σ : St) : Int32 := if a = b then -1 else if sp_lot a σ = 0 then -1 else if sp_lot b σ = 0 then -1 else if (σ.1.1 0 a.toNatClampNeg = 3 ∨ σ.1.1 0 a.toNatClampNeg = 4) ∧ σ.1.1 3 a.toNatClampNeg = σ.1.1 2 b.toNatClampNeg then 1 else 0
def sp_pile (i : Int32) (σ : St) : Int32 := if 0 ≤ i then (if i < σ.1.2.2.1 1 4 then σ.1.2.2.1 2 (σ.1.2.2.1 1 4 - 1 - i).toNatClampNeg else -2) else -1
def sp_ended (what : Int32) (σ : St) : Int32 := if what = 0 then σ.2.2.2.2.1.1 else if what = 1 then σ.2.2.2.2.1.2.1 else if what = 2 then σ.2.2.2.2.1.2.2 else -1
def sp_next (p : Int32) (σ : St) : Int32 := if p = 0 ∨ p = 1 then (if (atP σ.1.1 σ.1.2.1 σ.1.2.2.1 p 0).length = 0 then -2 else nthR (atP σ.1.1 σ.1.2.1 σ.1.2.2.1 p 0) (drawnF (nI (atP σ.1.1 σ.1.2.1 σ.1.2.2.1 p 0).length) (seedF (σ.1.2.2.1 1 1))).toNatClampNeg) else -1
set_option maxRecDepth 20000 in
theorem c_L_of {c what : Int32} {M : Mem} {σ : St} (hI : InvC M σ) : Ct lyC y_L_of b_L_of 3 (some .int) 1 [.ref 83, .int c, .int what] M (Pi fun r M' => r = sp_of c what σ ∧ M' = M) := by
  obtain ⟨m, hm, hR⟩ := hI.R
  have hW := hI.1
  have hcd := hI.2.1
  have hn := hW.1.1
  have r8 := hR.2.2.2.2.2.2.1
  refine Ct.ofG mx_L_of [some (.ref 83), some (.int c), some (.int what)] rfl rfl (Nat.le_of_ble_eq_true rfl) (fun κ C hQ => ?_)
  refine u_aload_n (pc := 0) C d_L_of_0 rfl ?_
  refine u_getr (pc := 1) (r := (gp 0)) C d_L_of_1 fw_L_21 sC_83 rfl rfl ?_
  refine u_iload_n (pc := 4) C d_L_of_4 rfl ?_
  refine u_callVi (pc := 5) C d_L_of_5 mx_G_has mw_L_137 (shG0 (by decide)) rfl (c_G_has (by decide)) rfl rfl (Nat.le_of_ble_eq_true rfl) (fun r5 M5 q5 => ?_)
  obtain ⟨e5, q5⟩ := q5
  have q5 := q5.symm
  subst q5
  refine u_if_ne (pc := 8) (tgt := 13) C d_L_of_8 rfl (fun c8 => ?_) (fun c8 => ?_)
  · refine u_iload_n (pc := 13) C d_L_of_13 rfl ?_
    refine u_top (fun t14 e14 => ?_)
    rcases sw_0_6 t14 with q14 | q14 | q14 | q14 | q14 | q14 | q14 | q14
    · refine u_tsIn (pc := 14) (tgt := 56) C d_L_of_14 (by rw [q14]; decide) (by rw [q14]; decide) (by rw [q14]; rfl) rfl ?_
      refine u_aload_n (pc := 56) C d_L_of_56 rfl ?_
      refine u_getr (pc := 57) (r := 0) C d_L_of_57 fw_L_10 sC_83 rfl rfl ?_
      refine u_getr (pc := 60) (r := 1) C d_L_of_60 fw_L_140 sC_0 rfl rfl ?_
      refine u_iload_n (pc := 63) C d_L_of_63 rfl ?_
      refine u_callSi (pc := 64) C d_L_of_64 mx_L_at mw_L_124 (c_L_at sC_1) rfl rfl (Nat.le_of_ble_eq_true rfl) (fun r64 M64 q64 => ?_)
      obtain ⟨e64, q64⟩ := q64
      have q64 := q64.symm
      subst q64
      refine u_iret (pc := 67) C d_L_of_67 (hQ _ _ ⟨_, rfl, ?_⟩)
      refine ⟨?_, rfl⟩
      subst e14
      rw [e5, r8] at c8
      obtain ⟨d, hd, rfl⟩ := has_ix c8 hn
      have hd24 : d < 24 := by omega
      rw [sp_of, if_neg c8, nI_clamp (by omega)]
      rw [e64, (at_cd hcd hd24).1, q14, if_pos rfl]
    · refine u_tsIn (pc := 14) (tgt := 68) C d_L_of_14 (by rw [q14]; decide) (by rw [q14]; decide) (by rw [q14]; rfl) rfl ?_
      refine u_aload_n (pc := 68) C d_L_of_68 rfl ?_
      refine u_getr (pc := 69) (r := 0) C d_L_of_69 fw_L_10 sC_83 rfl rfl ?_
      refine u_getr (pc := 72) (r := 2) C d_L_of_72 fw_L_141 sC_0 rfl rfl ?_
      refine u_iload_n (pc := 75) C d_L_of_75 rfl ?_
      refine u_callSi (pc := 76) C d_L_of_76 mx_L_at mw_L_124 (c_L_at sC_2) rfl rfl (Nat.le_of_ble_eq_true rfl) (fun r76 M76 q76 => ?_)
      obtain ⟨e76, q76⟩ := q76
      have q76 := q76.symm
      subst q76
      refine u_iret (pc := 79) C d_L_of_79 (hQ _ _ ⟨_, rfl, ?_⟩)
      refine ⟨?_, rfl⟩
      subst e14
      rw [e5, r8] at c8
      obtain ⟨d, hd, rfl⟩ := has_ix c8 hn
      have hd24 : d < 24 := by omega
      rw [sp_of, if_neg c8, nI_clamp (by omega)]
      rw [e76, (at_cd hcd hd24).2.1, q14, if_neg (by decide), if_pos rfl]
    · refine u_tsIn (pc := 14) (tgt := 80) C d_L_of_14 (by rw [q14]; decide) (by rw [q14]; decide) (by rw [q14]; rfl) rfl ?_
      refine u_aload_n (pc := 80) C d_L_of_80 rfl ?_
      refine u_getr (pc := 81) (r := 0) C d_L_of_81 fw_L_10 sC_83 rfl rfl ?_
      refine u_getr (pc := 84) (r := 3) C d_L_of_84 fw_L_142 sC_0 rfl rfl ?_
      refine u_iload_n (pc := 87) C d_L_of_87 rfl ?_
      refine u_callSi (pc := 88) C d_L_of_88 mx_L_at mw_L_124 (c_L_at sC_3) rfl rfl (Nat.le_of_ble_eq_true rfl) (fun r88 M88 q88 => ?_)
      obtain ⟨e88, q88⟩ := q88
      have q88 := q88.symm
      subst q88
      refine u_iret (pc := 91) C d_L_of_91 (hQ _ _ ⟨_, rfl, ?_⟩)
      refine ⟨?_, rfl⟩
      subst e14
      rw [e5, r8] at c8
      obtain ⟨d, hd, rfl⟩ := has_ix c8 hn
      have hd24 : d < 24 := by omega
      rw [sp_of, if_neg c8, nI_clamp (by omega)]
      rw [e88, (at_cd hcd hd24).2.2.1, q14, if_neg (by decide), if_neg (by decide), if_pos rfl]
    · refine u_tsIn (pc := 14) (tgt := 92) C d_L_of_14 (by rw [q14]; decide) (by rw [q14]; decide) (by rw [q14]; rfl) rfl ?_
      refine u_aload_n (pc := 92) C d_L_of_92 rfl ?_
      refine u_getr (pc := 93) (r := 0) C d_L_of_93 fw_L_10 sC_83 rfl rfl ?_
      refine u_getr (pc := 96) (r := 4) C d_L_of_96 fw_L_145 sC_0 rfl rfl ?_
      refine u_iload_n (pc := 99) C d_L_of_99 rfl ?_
      refine u_callSi (pc := 100) C d_L_of_100 mx_L_at mw_L_124 (c_L_at sC_4) rfl rfl (Nat.le_of_ble_eq_true rfl) (fun r100 M100 q100 => ?_)
      obtain ⟨e100, q100⟩ := q100
      have q100 := q100.symm
      subst q100
      refine u_iret (pc := 103) C d_L_of_103 (hQ _ _ ⟨_, rfl, ?_⟩)
      refine ⟨?_, rfl⟩
      subst e14
      rw [e5, r8] at c8
      obtain ⟨d, hd, rfl⟩ := has_ix c8 hn
      have hd24 : d < 24 := by omega
      rw [sp_of, if_neg c8, nI_clamp (by omega)]
      rw [e100, (at_cd hcd hd24).2.2.2.1, q14, if_neg (by decide), if_neg (by decide), if_neg (by decide), if_pos rfl]
    · refine u_tsIn (pc := 14) (tgt := 104) C d_L_of_14 (by rw [q14]; decide) (by rw [q14]; decide) (by rw [q14]; rfl) rfl ?_
      refine u_aload_n (pc := 104) C d_L_of_104 rfl ?_
      refine u_getr (pc := 105) (r := 0) C d_L_of_105 fw_L_10 sC_83 rfl rfl ?_
      refine u_getr (pc := 108) (r := 5) C d_L_of_108 fw_L_148 sC_0 rfl rfl ?_
      refine u_iload_n (pc := 111) C d_L_of_111 rfl ?_
      refine u_callSi (pc := 112) C d_L_of_112 mx_L_at mw_L_124 (c_L_at sC_5) rfl rfl (Nat.le_of_ble_eq_true rfl) (fun r112 M112 q112 => ?_)
      obtain ⟨e112, q112⟩ := q112
      have q112 := q112.symm
      subst q112
      refine u_bipush (pc := 115) (v := 10) C d_L_of_115 (by decide) ?_
      refine u_iadd (pc := 117) C d_L_of_117 ?_
      refine u_iret (pc := 118) C d_L_of_118 (hQ _ _ ⟨_, rfl, ?_⟩)
      refine ⟨?_, rfl⟩
      subst e14
      rw [e5, r8] at c8
      obtain ⟨d, hd, rfl⟩ := has_ix c8 hn
      have hd24 : d < 24 := by omega
      rw [sp_of, if_neg c8, nI_clamp (by omega)]
      rw [e112, (at_cd hcd hd24).2.2.2.2, q14, if_neg (by decide), if_neg (by decide), if_neg (by decide), if_neg (by decide), if_pos rfl]
    · refine u_tsIn (pc := 14) (tgt := 119) C d_L_of_14 (by rw [q14]; decide) (by rw [q14]; decide) (by rw [q14]; rfl) rfl ?_
      refine u_aload_n (pc := 119) C d_L_of_119 rfl ?_
      refine u_getr (pc := 120) (r := (gp 0)) C d_L_of_120 fw_L_21 sC_83 rfl rfl ?_
      refine u_getr (pc := 123) (r := (gp 0 + 3)) C d_L_of_123 fw_L_149 (shG0 (by decide)) rfl rfl ?_
      refine u_iload_n (pc := 126) C d_L_of_126 rfl ?_
      refine u_callSi (pc := 127) C d_L_of_127 mx_L_at mw_L_124 (c_L_at (shG3 (by decide))) rfl rfl (Nat.le_of_ble_eq_true rfl) (fun r127 M127 q127 => ?_)
      obtain ⟨e127, q127⟩ := q127
      have q127 := q127.symm
      subst q127
      refine u_iret (pc := 130) C d_L_of_130 (hQ _ _ ⟨_, rfl, ?_⟩)
      refine ⟨?_, rfl⟩
      subst e14
      rw [e5, r8] at c8
      obtain ⟨d, hd, rfl⟩ := has_ix c8 hn
      have hd24 : d < 24 := by omega
      rw [sp_of, if_neg c8, nI_clamp (by omega)]
      rw [e127, atF_in hd24 (by decide), hR.2.2.1 d hd24, q14, if_neg (by decide), if_neg (by decide), if_neg (by decide), if_neg (by decide), if_neg (by decide), if_pos rfl]
    · refine u_tsIn (pc := 14) (tgt := 131) C d_L_of_14 (by rw [q14]; decide) (by rw [q14]; decide) (by rw [q14]; rfl) rfl ?_
      refine u_aload_n (pc := 131) C d_L_of_131 rfl ?_
      refine u_getr (pc := 132) (r := (gp 0)) C d_L_of_132 fw_L_21 sC_83 rfl rfl ?_
      refine u_getr (pc := 135) (r := (gp 0 + 3)) C d_L_of_135 fw_L_149 (shG0 (by decide)) rfl rfl ?_
      refine u_iload_n (pc := 138) C d_L_of_138 rfl ?_
      refine u_callSi (pc := 139) C d_L_of_139 mx_L_at mw_L_124 (c_L_at (shG3 (by decide))) rfl rfl (Nat.le_of_ble_eq_true rfl) (fun r139 M139 q139 => ?_)
      obtain ⟨e139, q139⟩ := q139
      have q139 := q139.symm
      subst q139
      refine u_iconst (pc := 142) (v := 3) C d_L_of_142 (by decide) ?_
      refine u_icmp_ne (pc := 143) (tgt := 160) C d_L_of_143 rfl (fun c143 => ?_) (fun c143 => ?_)
      · refine u_bipush (pc := 160) (v := (-2)) C d_L_of_160 (by decide) ?_
        refine u_iret (pc := 162) C d_L_of_162 (hQ _ _ ⟨_, rfl, ?_⟩)
        refine ⟨?_, rfl⟩
        subst e14
        rw [e5, r8] at c8
        obtain ⟨d, hd, rfl⟩ := has_ix c8 hn
        have hd24 : d < 24 := by omega
        rw [sp_of, if_neg c8, nI_clamp (by omega)]
        rw [e139, atF_in hd24 (by decide), hR.2.2.1 d hd24] at c143
        rw [q14, if_neg (by decide), if_neg (by decide), if_neg (by decide), if_neg (by decide), if_neg (by decide), if_neg (by decide), if_pos rfl]
        rw [if_neg c143]
      · refine u_aload_n (pc := 146) C d_L_of_146 rfl ?_
        refine u_getr (pc := 147) (r := (gp 0)) C d_L_of_147 fw_L_21 sC_83 rfl rfl ?_
        refine u_getr (pc := 150) (r := (gp 0 + 4)) C d_L_of_150 fw_L_152 (shG0 (by decide)) rfl rfl ?_
        refine u_iload_n (pc := 153) C d_L_of_153 rfl ?_
        refine u_callSi (pc := 154) C d_L_of_154 mx_L_at mw_L_124 (c_L_at (shG4 (by decide))) rfl rfl (Nat.le_of_ble_eq_true rfl) (fun r154 M154 q154 => ?_)
        obtain ⟨e154, q154⟩ := q154
        have q154 := q154.symm
        subst q154
        refine u_goto (pc := 157) (tgt := 162) C d_L_of_157 rfl ?_
        refine u_iret (pc := 162) C d_L_of_162 (hQ _ _ ⟨_, rfl, ?_⟩)
        refine ⟨?_, rfl⟩
        subst e14
        rw [e5, r8] at c8
        obtain ⟨d, hd, rfl⟩ := has_ix c8 hn
        have hd24 : d < 24 := by omega
        rw [sp_of, if_neg c8, nI_clamp (by omega)]
        rw [e139, atF_in hd24 (by decide), hR.2.2.1 d hd24] at c143
        rw [q14, if_neg (by decide), if_neg (by decide), if_neg (by decide), if_neg (by decide), if_neg (by decide), if_neg (by decide), if_pos rfl]
        rw [if_pos c143, e154, atF_in hd24 (by decide), hR.2.2.2.1 d ((hW.2.1.2.1 d).mpr ⟨hd, c143⟩)]
    · refine u_tsOut (pc := 14) (tgt := 163) C d_L_of_14 q14 rfl ?_
      refine u_iconst (pc := 163) (v := (-1)) C d_L_of_163 (by decide) ?_
      refine u_iret (pc := 164) C d_L_of_164 (hQ _ _ ⟨_, rfl, ?_⟩)
      refine ⟨?_, rfl⟩
      subst e14
      rw [e5, r8] at c8
      have z : ∀ k : Int32, (0 ≤ k.toInt ∧ k.toInt ≤ 6) → ¬ t14 = k := fun k hk q => by rw [q] at q14; rcases q14 with q14 | q14 <;> omega
      rw [sp_of, if_neg c8, if_neg (z 0 (by decide)), if_neg (z 1 (by decide)), if_neg (z 2 (by decide)), if_neg (z 3 (by decide)), if_neg (z 4 (by decide)), if_neg (z 5 (by decide)), if_neg (z 6 (by decide))]
  · refine u_iconst (pc := 11) (v := (-1)) C d_L_of_11 (by decide) ?_
    refine u_iret (pc := 12) C d_L_of_12 (hQ _ _ ⟨_, rfl, ?_⟩)
    rw [e5, r8] at c8
    exact ⟨by rw [sp_of, if_pos c8], rfl⟩
set_option maxRecDepth 20000 in
theorem c_L_player {p what : Int32} {M : Mem} {σ : St} (hI : InvC M σ) : Ct lyC y_L_player b_L_player 3 (some .int) 2 [.ref 83, .int p, .int what] M (Pi fun r M' => r = sp_player p what σ ∧ M' = M) := by
  obtain ⟨m, hm, hR⟩ := hI.R
  have hW := hI.1
  have hcd := hI.2.1
  have hn := hW.1.1
  have r8 := hR.2.2.2.2.2.2.1
  refine Ct.ofG mx_L_player [some (.ref 83), some (.int p), some (.int what)] rfl rfl (Nat.le_of_ble_eq_true rfl) (fun κ C hQ => ?_)
  refine u_iload_n (pc := 0) C d_L_player_0 rfl ?_
  refine u_callSi (pc := 1) C d_L_player_1 mx_L_isPlayer mw_L_91 (c_L_isPlayer) rfl rfl (Nat.le_of_ble_eq_true rfl) (fun r1 M1 q1 => ?_)
  obtain ⟨e1, q1⟩ := q1
  have q1 := q1.symm
  subst q1
  refine u_if_ne (pc := 4) (tgt := 10) C d_L_player_4 rfl (fun c4 => ?_) (fun c4 => ?_)
  · have hp : p = 0 ∨ p = 1 := by
      rcases Classical.em (p = 0 ∨ p = 1) with q | q
      · exact q
      · exact absurd (e1.trans (if_neg q)) c4
    refine u_iload_n (pc := 10) C d_L_player_10 rfl ?_
    refine u_top (fun t11 e11 => ?_)
    rcases sw_0_4 t11 with q11 | q11 | q11 | q11 | q11 | q11
    · refine u_tsIn (pc := 11) (tgt := 44) C d_L_player_11 (by rw [q11]; decide) (by rw [q11]; decide) (by rw [q11]; rfl) rfl ?_
      refine u_aload_n (pc := 44) C d_L_player_44 rfl ?_
      refine u_getr (pc := 45) (r := (gp 0)) C d_L_player_45 fw_L_21 sC_83 rfl rfl ?_
      refine u_getr (pc := 48) (r := (gp 0 + 1)) C d_L_player_48 fw_L_167 (shG0 (by decide)) rfl rfl ?_
      refine u_iload_n (pc := 51) C d_L_player_51 rfl ?_
      refine u_callSi (pc := 52) C d_L_player_52 mx_L_at mw_L_124 (c_L_at (shG1 (by decide))) rfl rfl (Nat.le_of_ble_eq_true rfl) (fun r52 M52 q52 => ?_)
      obtain ⟨e52, q52⟩ := q52
      have q52 := q52.symm
      subst q52
      refine u_iret (pc := 55) C d_L_player_55 (hQ _ _ ⟨_, rfl, ?_⟩)
      subst e11
      exact ⟨by rw [sp_player, if_pos hp, q11, if_pos rfl, e52, hR.life hp], rfl⟩
    · refine u_tsIn (pc := 11) (tgt := 56) C d_L_player_11 (by rw [q11]; decide) (by rw [q11]; decide) (by rw [q11]; rfl) rfl ?_
      refine u_aload_n (pc := 56) C d_L_player_56 rfl ?_
      refine u_getr (pc := 57) (r := (gp 0)) C d_L_player_57 fw_L_21 sC_83 rfl rfl ?_
      refine u_iload_n (pc := 60) C d_L_player_60 rfl ?_
      refine u_iconst (pc := 61) (v := 0) C d_L_player_61 (by decide) ?_
      refine u_callVi (pc := 62) C d_L_player_62 mx_G_countIn mw_L_170 (shG0 (by decide)) rfl (c_G_countIn (k := 0) (by decide) hR hcd hn) rfl rfl (Nat.le_of_ble_eq_true rfl) (fun r62 M62 q62 => ?_)
      obtain ⟨e62, q62⟩ := q62
      have q62 := q62.symm
      subst q62
      refine u_iret (pc := 65) C d_L_player_65 (hQ _ _ ⟨_, rfl, ?_⟩)
      subst e11
      exact ⟨by rw [sp_player, if_pos hp, q11, if_neg (by decide), if_pos rfl, e62], rfl⟩
    · refine u_tsIn (pc := 11) (tgt := 66) C d_L_player_11 (by rw [q11]; decide) (by rw [q11]; decide) (by rw [q11]; rfl) rfl ?_
      refine u_aload_n (pc := 66) C d_L_player_66 rfl ?_
      refine u_getr (pc := 67) (r := (gp 0)) C d_L_player_67 fw_L_21 sC_83 rfl rfl ?_
      refine u_iload_n (pc := 70) C d_L_player_70 rfl ?_
      refine u_iconst (pc := 71) (v := 1) C d_L_player_71 (by decide) ?_
      refine u_callVi (pc := 72) C d_L_player_72 mx_G_countIn mw_L_170 (shG0 (by decide)) rfl (c_G_countIn (k := 0) (by decide) hR hcd hn) rfl rfl (Nat.le_of_ble_eq_true rfl) (fun r72 M72 q72 => ?_)
      obtain ⟨e72, q72⟩ := q72
      have q72 := q72.symm
      subst q72
      refine u_iret (pc := 75) C d_L_player_75 (hQ _ _ ⟨_, rfl, ?_⟩)
      subst e11
      exact ⟨by rw [sp_player, if_pos hp, q11, if_neg (by decide), if_neg (by decide), if_pos rfl, e72], rfl⟩
    · refine u_tsIn (pc := 11) (tgt := 76) C d_L_player_11 (by rw [q11]; decide) (by rw [q11]; decide) (by rw [q11]; rfl) rfl ?_
      refine u_aload_n (pc := 76) C d_L_player_76 rfl ?_
      refine u_getr (pc := 77) (r := (gp 0)) C d_L_player_77 fw_L_21 sC_83 rfl rfl ?_
      refine u_iload_n (pc := 80) C d_L_player_80 rfl ?_
      refine u_iconst (pc := 81) (v := 3) C d_L_player_81 (by decide) ?_
      refine u_callVi (pc := 82) C d_L_player_82 mx_G_countIn mw_L_170 (shG0 (by decide)) rfl (c_G_countIn (k := 0) (by decide) hR hcd hn) rfl rfl (Nat.le_of_ble_eq_true rfl) (fun r82 M82 q82 => ?_)
      obtain ⟨e82, q82⟩ := q82
      have q82 := q82.symm
      subst q82
      refine u_iret (pc := 85) C d_L_player_85 (hQ _ _ ⟨_, rfl, ?_⟩)
      subst e11
      exact ⟨by rw [sp_player, if_pos hp, q11, if_neg (by decide), if_neg (by decide), if_neg (by decide), if_pos rfl, e82], rfl⟩
    · refine u_tsIn (pc := 11) (tgt := 86) C d_L_player_11 (by rw [q11]; decide) (by rw [q11]; decide) (by rw [q11]; rfl) rfl ?_
      refine u_aload_n (pc := 86) C d_L_player_86 rfl ?_
      refine u_getr (pc := 87) (r := (gp 0)) C d_L_player_87 fw_L_21 sC_83 rfl rfl ?_
      refine u_iload_n (pc := 90) C d_L_player_90 rfl ?_
      refine u_iconst (pc := 91) (v := 4) C d_L_player_91 (by decide) ?_
      refine u_callVi (pc := 92) C d_L_player_92 mx_G_countIn mw_L_170 (shG0 (by decide)) rfl (c_G_countIn (k := 0) (by decide) hR hcd hn) rfl rfl (Nat.le_of_ble_eq_true rfl) (fun r92 M92 q92 => ?_)
      obtain ⟨e92, q92⟩ := q92
      have q92 := q92.symm
      subst q92
      refine u_iret (pc := 95) C d_L_player_95 (hQ _ _ ⟨_, rfl, ?_⟩)
      subst e11
      exact ⟨by rw [sp_player, if_pos hp, q11, if_neg (by decide), if_neg (by decide), if_neg (by decide), if_neg (by decide), if_pos rfl, e92], rfl⟩
    · refine u_tsOut (pc := 11) (tgt := 96) C d_L_player_11 q11 rfl ?_
      refine u_ldc (pc := 96) C (mc_L_159) d_L_player_96 ?_
      refine u_iret (pc := 98) C d_L_player_98 (hQ _ _ ⟨_, rfl, ?_⟩)
      subst e11
      have z : ∀ k : Int32, (0 ≤ k.toInt ∧ k.toInt ≤ 4) → ¬ t11 = k := fun k hk q => by rw [q] at q11; rcases q11 with q11 | q11 <;> omega
      exact ⟨by rw [sp_player, if_pos hp, if_neg (z 0 (by decide)), if_neg (z 1 (by decide)), if_neg (z 2 (by decide)), if_neg (z 3 (by decide)), if_neg (z 4 (by decide))], rfl⟩
  · refine u_ldc (pc := 7) C (mc_L_159) d_L_player_7 ?_
    refine u_iret (pc := 9) C d_L_player_9 (hQ _ _ ⟨_, rfl, ?_⟩)
    have hp : ¬ (p = 0 ∨ p = 1) := fun q => absurd ((e1.trans (if_pos q)).symm.trans c4) (by decide)
    exact ⟨by rw [sp_player, if_neg hp], rfl⟩
set_option maxRecDepth 20000 in
theorem c_L_value {v : Int32} {M : Mem} {σ : St} (hI : InvC M σ) : Ct lyC y_L_value b_L_value 2 (some .int) 4 [.ref 83, .int v] M (Pi fun r M' => r = sp_value v σ ∧ InvC M' σ) := by
  obtain ⟨m, hm, hR⟩ := hI.R
  have hW := hI.1
  have hcd := hI.2.1
  have hn := hW.1.1
  have r8 := hR.2.2.2.2.2.2.1
  obtain ⟨htl, hbn, hb24⟩ := hW.tl
  refine Ct.ofG mx_L_value [some (.ref 83), some (.int v)] rfl rfl (Nat.le_of_ble_eq_true rfl) (fun κ C hQ => ?_)
  refine u_iload_n (pc := 0) C d_L_value_0 rfl ?_
  refine u_if_lt (pc := 1) (tgt := 9) C d_L_value_1 rfl (fun c1 => ?_) (fun c1 => ?_)
  · refine u_ldc (pc := 9) C (mc_L_159) d_L_value_9 ?_
    refine u_iret (pc := 11) C d_L_value_11 (hQ _ _ ⟨_, rfl, ?_⟩)
    exact ⟨by rw [sp_value, if_pos c1], hI⟩
  · refine u_iload_n (pc := 4) C d_L_value_4 rfl ?_
    refine u_iconst (pc := 5) (v := 4) C d_L_value_5 (by decide) ?_
    refine u_icmp_lt (pc := 6) (tgt := 12) C d_L_value_6 rfl (fun c6 => ?_) (fun c6 => ?_)
    · refine u_aload_n (pc := 12) C d_L_value_12 rfl ?_
      refine u_getr (pc := 13) (r := (yp 0)) C d_L_value_13 fw_L_49 sC_83 rfl rfl ?_
      refine u_aload_n (pc := 16) C d_L_value_16 rfl ?_
      refine u_getr (pc := 17) (r := (gp 0)) C d_L_value_17 fw_L_21 sC_83 rfl rfl ?_
      refine u_callVv (pc := 20) C d_L_value_20 mx_Y_workOut mw_L_174 (shY0 (by decide)) rfl (c_Y_workOut (b := 0) (by decide) (k := 0) (by decide) hR hcd hW.1.2 htl hn hbn hW.2.1.1) rfl rfl (Nat.le_of_ble_eq_true rfl) (fun M20 q20 => ?_)
      obtain ⟨hV, oY⟩ := q20
      refine u_aload_n (pc := 23) C d_L_value_23 rfl ?_
      refine u_getr (pc := 24) (r := (yp 0)) C d_L_value_24 fw_L_49 sC_83 rfl rfl ?_
      refine u_getr (pc := 27) (r := (yp 0 + 1)) C d_L_value_27 fw_L_178 (shY0 (by decide)) rfl rfl ?_
      refine u_iload_n (pc := 30) C d_L_value_30 rfl ?_
      refine u_callSi (pc := 31) C d_L_value_31 mx_L_at mw_L_124 (c_L_at (shY1 (by decide))) rfl rfl (Nat.le_of_ble_eq_true rfl) (fun r31 M31 q31 => ?_)
      obtain ⟨e31, q31⟩ := q31
      have q31 := q31.symm
      subst q31
      refine u_iret (pc := 34) C d_L_value_34 (hQ _ _ ⟨_, rfl, ?_⟩)
      obtain ⟨j, hj, rfl⟩ := nI_of c1
      have hj4 : j < 4 := (nI_ltI (b := 4) hj (by decide)).mp c6
      exact ⟨by rw [sp_value, if_neg c1, if_pos c6, e31, atF_in hj4 (by decide), hV.2.2 j hj4, nI_clamp hj], hI.scr (oY.mono (fun p q => by have q1 := q.1; have q2 := q.2; unfold yp at q1 q2; exact Or.inr (Or.inl (by omega)))) (by obtain ⟨th, ev, hl⟩ := hI.2.2.2.2.2.2.2.2; exact ⟨th, ev, hl.off oY (fun p q => y_l q (by decide))⟩)⟩
    · refine u_ldc (pc := 9) C (mc_L_159) d_L_value_9 ?_
      refine u_iret (pc := 11) C d_L_value_11 (hQ _ _ ⟨_, rfl, ?_⟩)
      exact ⟨by rw [sp_value, if_neg c1, if_neg c6], hI⟩
set_option maxRecDepth 20000 in
theorem c_L_layer {i : Int32} {M : Mem} {σ : St} (hI : InvC M σ) : Ct lyC y_L_layer b_L_layer 2 (some .int) 4 [.ref 83, .int i] M (Pi fun r M' => r = sp_layer i σ ∧ InvC M' σ) := by
  obtain ⟨m, hm, hR⟩ := hI.R
  have hW := hI.1
  have hcd := hI.2.1
  have hn := hW.1.1
  have r8 := hR.2.2.2.2.2.2.1
  obtain ⟨htl, hbn, hb24⟩ := hW.tl
  refine Ct.ofG mx_L_layer [some (.ref 83), some (.int i)] rfl rfl (Nat.le_of_ble_eq_true rfl) (fun κ C hQ => ?_)
  refine u_iload_n (pc := 0) C d_L_layer_0 rfl ?_
  refine u_if_ge (pc := 1) (tgt := 6) C d_L_layer_1 rfl (fun c1 => ?_) (fun c1 => ?_)
  · refine u_aload_n (pc := 6) C d_L_layer_6 rfl ?_
    refine u_getr (pc := 7) (r := (yp 0)) C d_L_layer_7 fw_L_49 sC_83 rfl rfl ?_
    refine u_aload_n (pc := 10) C d_L_layer_10 rfl ?_
    refine u_getr (pc := 11) (r := (gp 0)) C d_L_layer_11 fw_L_21 sC_83 rfl rfl ?_
    refine u_callVv (pc := 14) C d_L_layer_14 mx_Y_workOut mw_L_174 (shY0 (by decide)) rfl (c_Y_workOut (b := 0) (by decide) (k := 0) (by decide) hR hcd hW.1.2 htl hn hbn hW.2.1.1) rfl rfl (Nat.le_of_ble_eq_true rfl) (fun M14 q14 => ?_)
    obtain ⟨hV, oY⟩ := q14
    refine u_iload_n (pc := 17) C d_L_layer_17 rfl ?_
    refine u_aload_n (pc := 18) C d_L_layer_18 rfl ?_
    refine u_getr (pc := 19) (r := (yp 0)) C d_L_layer_19 fw_L_49 sC_83 rfl rfl ?_
    refine u_geti (pc := 22) C d_L_layer_22 fw_L_181 (shY0 (by decide)) rfl ?_
    refine u_icmp_ge (pc := 25) (tgt := 42) C d_L_layer_25 rfl (fun c25 => ?_) (fun c25 => ?_)
    · refine u_bipush (pc := 42) (v := (-2)) C d_L_layer_42 (by decide) ?_
      refine u_iret (pc := 44) C d_L_layer_44 (hQ _ _ ⟨_, rfl, ?_⟩)
      rw [hV.1] at c25
      exact ⟨by rw [sp_layer, if_pos c1, if_neg (Int32.not_lt.mpr c25)], hI.scr (oY.mono (fun p q => by have q1 := q.1; have q2 := q.2; unfold yp at q1 q2; exact Or.inr (Or.inl (by omega)))) (by obtain ⟨th, ev, hl⟩ := hI.2.2.2.2.2.2.2.2; exact ⟨th, ev, hl.off oY (fun p q => y_l q (by decide))⟩)⟩
    · refine u_aload_n (pc := 28) C d_L_layer_28 rfl ?_
      refine u_getr (pc := 29) (r := (yp 0)) C d_L_layer_29 fw_L_49 sC_83 rfl rfl ?_
      refine u_getr (pc := 32) (r := (yp 0 + 2)) C d_L_layer_32 fw_L_184 (shY0 (by decide)) rfl rfl ?_
      refine u_iload_n (pc := 35) C d_L_layer_35 rfl ?_
      refine u_callSi (pc := 36) C d_L_layer_36 mx_L_at mw_L_124 (c_L_at (shY2 (by decide))) rfl rfl (Nat.le_of_ble_eq_true rfl) (fun r36 M36 q36 => ?_)
      obtain ⟨e36, q36⟩ := q36
      have q36 := q36.symm
      subst q36
      refine u_goto (pc := 39) (tgt := 44) C d_L_layer_39 rfl ?_
      refine u_iret (pc := 44) C d_L_layer_44 (hQ _ _ ⟨_, rfl, ?_⟩)
      rw [hV.1] at c25
      obtain ⟨j, hj, rfl⟩ := nI_of (Int32.not_lt.mpr c1)
      have ho24 : (order σ.1.1 σ.1.2.2.2).length ≤ 24 := by
        have h9 : ∀ (k : Nat) (op : List Nat), (ordr σ.1.1 k op).length ≤ k := by
          intro k
          induction k with
          | zero => intro op; exact Nat.le_refl _
          | succ k ih =>
            intro op
            rw [ordr]
            split
            · exact Nat.zero_le _
            · rw [List.length_cons]
              have := ih (op.erase ‹_›)
              omega
        have h8 := h9 (σ.1.2.2.2.filter (isL σ.1.1)).length (σ.1.2.2.2.filter (isL σ.1.1))
        have h7 : (σ.1.2.2.2.filter (isL σ.1.1)).length ≤ σ.1.2.2.2.length := List.length_filter_le _ _
        unfold order
        omega
      have hlt : nI j < nI (order σ.1.1 σ.1.2.2.2).length := Int32.not_le.mp c25
      have hj2 : j < (order σ.1.1 σ.1.2.2.2).length := (nI_ltI hj (by omega)).mp hlt
      exact ⟨by rw [sp_layer, if_pos c1, if_pos hlt, e36, atF_in (by omega) (by decide), hV.2.1 j hj2, nI_clamp hj], hI.scr (oY.mono (fun p q => by have q1 := q.1; have q2 := q.2; unfold yp at q1 q2; exact Or.inr (Or.inl (by omega)))) (by obtain ⟨th, ev, hl⟩ := hI.2.2.2.2.2.2.2.2; exact ⟨th, ev, hl.off oY (fun p q => y_l q (by decide))⟩)⟩
  · refine u_iconst (pc := 4) (v := (-1)) C d_L_layer_4 (by decide) ?_
    refine u_iret (pc := 5) C d_L_layer_5 (hQ _ _ ⟨_, rfl, ?_⟩)
    exact ⟨by rw [sp_layer, if_neg c1], hI⟩
set_option maxRecDepth 20000 in
theorem c_L_isLayerOnTable {c : Int32} {M : Mem} {σ : St} (hI : InvC M σ) : Ct lyC y_L_isLayerOnTable b_L_isLayerOnTable 2 (some .boolean) 1 [.ref 83, .int c] M (Pi fun r M' => r = sp_lot c σ ∧ M' = M) := by
  obtain ⟨m, hm, hR⟩ := hI.R
  have hW := hI.1
  have hcd := hI.2.1
  have hn := hW.1.1
  have r8 := hR.2.2.2.2.2.2.1
  refine Ct.ofG mx_L_isLayerOnTable [some (.ref 83), some (.int c)] rfl rfl (Nat.le_of_ble_eq_true rfl) (fun κ C hQ => ?_)
  refine u_aload_n (pc := 0) C d_L_isLayerOnTable_0 rfl ?_
  refine u_getr (pc := 1) (r := (gp 0)) C d_L_isLayerOnTable_1 fw_L_21 sC_83 rfl rfl ?_
  refine u_iload_n (pc := 4) C d_L_isLayerOnTable_4 rfl ?_
  refine u_callVi (pc := 5) C d_L_isLayerOnTable_5 mx_G_has mw_L_137 (shG0 (by decide)) rfl (c_G_has (by decide)) rfl rfl (Nat.le_of_ble_eq_true rfl) (fun r5 M5 q5 => ?_)
  obtain ⟨e5, q5⟩ := q5
  have q5 := q5.symm
  subst q5
  refine u_if_eq (pc := 8) (tgt := 48) C d_L_isLayerOnTable_8 rfl (fun c8 => ?_) (fun c8 => ?_)
  · refine u_iconst (pc := 48) (v := 0) C d_L_isLayerOnTable_48 (by decide) ?_
    refine u_zret (pc := 49) C d_L_isLayerOnTable_49 (by decide) (hQ _ _ ⟨_, rfl, ?_⟩)
    rw [e5, r8] at c8
    exact ⟨by rw [sp_lot, if_pos c8], rfl⟩
  · refine u_aload_n (pc := 11) C d_L_isLayerOnTable_11 rfl ?_
    refine u_getr (pc := 12) (r := (gp 0)) C d_L_isLayerOnTable_12 fw_L_21 sC_83 rfl rfl ?_
    refine u_getr (pc := 15) (r := (gp 0 + 3)) C d_L_isLayerOnTable_15 fw_L_149 (shG0 (by decide)) rfl rfl ?_
    refine u_iload_n (pc := 18) C d_L_isLayerOnTable_18 rfl ?_
    refine u_callSi (pc := 19) C d_L_isLayerOnTable_19 mx_L_at mw_L_124 (c_L_at (shG3 (by decide))) rfl rfl (Nat.le_of_ble_eq_true rfl) (fun r19 M19 q19 => ?_)
    obtain ⟨e19, q19⟩ := q19
    have q19 := q19.symm
    subst q19
    refine u_iconst (pc := 22) (v := 3) C d_L_isLayerOnTable_22 (by decide) ?_
    refine u_icmp_ne (pc := 23) (tgt := 48) C d_L_isLayerOnTable_23 rfl (fun c23 => ?_) (fun c23 => ?_)
    · refine u_iconst (pc := 48) (v := 0) C d_L_isLayerOnTable_48 (by decide) ?_
      refine u_zret (pc := 49) C d_L_isLayerOnTable_49 (by decide) (hQ _ _ ⟨_, rfl, ?_⟩)
      rw [e5, r8] at c8
      obtain ⟨d, hd, rfl⟩ := has_ix c8 hn
      have hd24 : d < 24 := by omega
      obtain ⟨⟨kk, hkk, hck⟩, -⟩ := hW.1.2 d hd
      rw [e19, atF_in hd24 (by decide), hR.2.2.1 d hd24] at c23
      refine ⟨?_, rfl⟩
      rw [sp_lot, if_neg c8, nI_clamp (by omega)]
      rw [if_neg (fun q => c23 q.1)]
    · refine u_aload_n (pc := 26) C d_L_isLayerOnTable_26 rfl ?_
      refine u_getr (pc := 27) (r := 0) C d_L_isLayerOnTable_27 fw_L_10 sC_83 rfl rfl ?_
      refine u_getr (pc := 30) (r := 1) C d_L_isLayerOnTable_30 fw_L_140 sC_0 rfl rfl ?_
      refine u_iload_n (pc := 33) C d_L_isLayerOnTable_33 rfl ?_
      refine u_callSi (pc := 34) C d_L_isLayerOnTable_34 mx_L_at mw_L_124 (c_L_at sC_1) rfl rfl (Nat.le_of_ble_eq_true rfl) (fun r34 M34 q34 => ?_)
      obtain ⟨e34, q34⟩ := q34
      have q34 := q34.symm
      subst q34
      refine u_callSi (pc := 37) C d_L_isLayerOnTable_37 mx_L_familyOf mw_L_193 (c_L_familyOf) rfl rfl (Nat.le_of_ble_eq_true rfl) (fun r37 M37 q37 => ?_)
      obtain ⟨e37, q37⟩ := q37
      have q37 := q37.symm
      subst q37
      refine u_iconst (pc := 40) (v := 1) C d_L_isLayerOnTable_40 (by decide) ?_
      refine u_icmp_ne (pc := 41) (tgt := 48) C d_L_isLayerOnTable_41 rfl (fun c41 => ?_) (fun c41 => ?_)
      · refine u_iconst (pc := 48) (v := 0) C d_L_isLayerOnTable_48 (by decide) ?_
        refine u_zret (pc := 49) C d_L_isLayerOnTable_49 (by decide) (hQ _ _ ⟨_, rfl, ?_⟩)
        rw [e5, r8] at c8
        obtain ⟨d, hd, rfl⟩ := has_ix c8 hn
        have hd24 : d < 24 := by omega
        obtain ⟨⟨kk, hkk, hck⟩, -⟩ := hW.1.2 d hd
        rw [e19, atF_in hd24 (by decide), hR.2.2.1 d hd24] at c23
        refine ⟨?_, rfl⟩
        rw [sp_lot, if_neg c8, nI_clamp (by omega)]
        rw [e37, e34, (at_cd hcd hd24).1, hck, fam1 hkk] at c41
        rw [hck]
        rw [if_neg (fun q => c41 q.2)]
      · refine u_iconst (pc := 44) (v := 1) C d_L_isLayerOnTable_44 (by decide) ?_
        refine u_goto (pc := 45) (tgt := 49) C d_L_isLayerOnTable_45 rfl ?_
        refine u_zret (pc := 49) C d_L_isLayerOnTable_49 (by decide) (hQ _ _ ⟨_, rfl, ?_⟩)
        rw [e5, r8] at c8
        obtain ⟨d, hd, rfl⟩ := has_ix c8 hn
        have hd24 : d < 24 := by omega
        obtain ⟨⟨kk, hkk, hck⟩, -⟩ := hW.1.2 d hd
        rw [e19, atF_in hd24 (by decide), hR.2.2.1 d hd24] at c23
        refine ⟨?_, rfl⟩
        rw [sp_lot, if_neg c8, nI_clamp (by omega)]
        rw [e37, e34, (at_cd hcd hd24).1, hck, fam1 hkk] at c41
        rw [hck]
        rw [if_pos ⟨c23, c41⟩]
set_option maxRecDepth 20000 in
theorem c_L_depends {a b : Int32} {M : Mem} {σ : St} (hI : InvC M σ) : Ct lyC y_L_depends b_L_depends 3 (some .int) 2 [.ref 83, .int a, .int b] M (Pi fun r M' => r = sp_depends a b σ ∧ M' = M) := by
  obtain ⟨m, hm, hR⟩ := hI.R
  have hW := hI.1
  have hcd := hI.2.1
  have hn := hW.1.1
  have r8 := hR.2.2.2.2.2.2.1
  refine Ct.ofG mx_L_depends [some (.ref 83), some (.int a), some (.int b)] rfl rfl (Nat.le_of_ble_eq_true rfl) (fun κ C hQ => ?_)
  refine u_iload_n (pc := 0) C d_L_depends_0 rfl ?_
  refine u_iload_n (pc := 1) C d_L_depends_1 rfl ?_
  refine u_icmp_eq (pc := 2) (tgt := 21) C d_L_depends_2 rfl (fun c2 => ?_) (fun c2 => ?_)
  · refine u_iconst (pc := 21) (v := (-1)) C d_L_depends_21 (by decide) ?_
    refine u_iret (pc := 22) C d_L_depends_22 (hQ _ _ ⟨_, rfl, ?_⟩)
    exact ⟨by rw [sp_depends, if_pos c2], rfl⟩
  · refine u_aload_n (pc := 5) C d_L_depends_5 rfl ?_
    refine u_iload_n (pc := 6) C d_L_depends_6 rfl ?_
    refine u_callVi (pc := 7) C d_L_depends_7 mx_L_isLayerOnTable mw_L_187 sC_83 rfl (c_L_isLayerOnTable hI) rfl rfl (Nat.le_of_ble_eq_true rfl) (fun r7 M7 q7 => ?_)
    obtain ⟨e7, q7⟩ := q7
    have q7 := q7.symm
    subst q7
    refine u_if_eq (pc := 10) (tgt := 21) C d_L_depends_10 rfl (fun c10 => ?_) (fun c10 => ?_)
    · refine u_iconst (pc := 21) (v := (-1)) C d_L_depends_21 (by decide) ?_
      refine u_iret (pc := 22) C d_L_depends_22 (hQ _ _ ⟨_, rfl, ?_⟩)
      exact ⟨by rw [sp_depends, if_neg c2, if_pos (e7 ▸ c10)], rfl⟩
    · refine u_aload_n (pc := 13) C d_L_depends_13 rfl ?_
      refine u_iload_n (pc := 14) C d_L_depends_14 rfl ?_
      refine u_callVi (pc := 15) C d_L_depends_15 mx_L_isLayerOnTable mw_L_187 sC_83 rfl (c_L_isLayerOnTable hI) rfl rfl (Nat.le_of_ble_eq_true rfl) (fun r15 M15 q15 => ?_)
      obtain ⟨e15, q15⟩ := q15
      have q15 := q15.symm
      subst q15
      refine u_if_ne (pc := 18) (tgt := 23) C d_L_depends_18 rfl (fun c18 => ?_) (fun c18 => ?_)
      · refine u_aload_n (pc := 23) C d_L_depends_23 rfl ?_
        refine u_getr (pc := 24) (r := 0) C d_L_depends_24 fw_L_10 sC_83 rfl rfl ?_
        refine u_getr (pc := 27) (r := 1) C d_L_depends_27 fw_L_140 sC_0 rfl rfl ?_
        refine u_iload_n (pc := 30) C d_L_depends_30 rfl ?_
        refine u_callSi (pc := 31) C d_L_depends_31 mx_L_at mw_L_124 (c_L_at sC_1) rfl rfl (Nat.le_of_ble_eq_true rfl) (fun r31 M31 q31 => ?_)
        obtain ⟨e31, q31⟩ := q31
        have q31 := q31.symm
        subst q31
        refine u_callSi (pc := 34) C d_L_depends_34 mx_L_looksAtOther mw_L_190 (c_L_looksAtOther) rfl rfl (Nat.le_of_ble_eq_true rfl) (fun r34 M34 q34 => ?_)
        obtain ⟨e34, q34⟩ := q34
        have q34 := q34.symm
        subst q34
        refine u_if_eq (pc := 37) (tgt := 69) C d_L_depends_37 rfl (fun c37 => ?_) (fun c37 => ?_)
        · refine u_iconst (pc := 69) (v := 0) C d_L_depends_69 (by decide) ?_
          refine u_iret (pc := 70) C d_L_depends_70 (hQ _ _ ⟨_, rfl, ?_⟩)
          have h1 : ¬ sp_lot a σ = 0 := e7 ▸ c10
          have h2 : ¬ sp_lot b σ = 0 := e15 ▸ c18
          have g1 : ¬ hasF (nI σ.1.2.1) a = 0 := fun q => h1 (by rw [sp_lot, if_pos q])
          have g2 : ¬ hasF (nI σ.1.2.1) b = 0 := fun q => h2 (by rw [sp_lot, if_pos q])
          obtain ⟨d, hd, rfl⟩ := has_ix g1 hn
          obtain ⟨e, he, rfl⟩ := has_ix g2 hn
          rw [e31, (at_cd hcd (by omega)).1] at e34
          refine ⟨?_, rfl⟩
          rw [sp_depends, if_neg c2, if_neg h1, if_neg h2, nI_clamp (by omega), nI_clamp (by omega)]
          rw [if_neg (fun q => absurd ((e34.trans (if_pos q.1)).symm.trans c37) (by decide))]
        · refine u_aload_n (pc := 40) C d_L_depends_40 rfl ?_
          refine u_getr (pc := 41) (r := 0) C d_L_depends_41 fw_L_10 sC_83 rfl rfl ?_
          refine u_getr (pc := 44) (r := 4) C d_L_depends_44 fw_L_145 sC_0 rfl rfl ?_
          refine u_iload_n (pc := 47) C d_L_depends_47 rfl ?_
          refine u_callSi (pc := 48) C d_L_depends_48 mx_L_at mw_L_124 (c_L_at sC_4) rfl rfl (Nat.le_of_ble_eq_true rfl) (fun r48 M48 q48 => ?_)
          obtain ⟨e48, q48⟩ := q48
          have q48 := q48.symm
          subst q48
          refine u_aload_n (pc := 51) C d_L_depends_51 rfl ?_
          refine u_getr (pc := 52) (r := 0) C d_L_depends_52 fw_L_10 sC_83 rfl rfl ?_
          refine u_getr (pc := 55) (r := 3) C d_L_depends_55 fw_L_142 sC_0 rfl rfl ?_
          refine u_iload_n (pc := 58) C d_L_depends_58 rfl ?_
          refine u_callSi (pc := 59) C d_L_depends_59 mx_L_at mw_L_124 (c_L_at sC_3) rfl rfl (Nat.le_of_ble_eq_true rfl) (fun r59 M59 q59 => ?_)
          obtain ⟨e59, q59⟩ := q59
          have q59 := q59.symm
          subst q59
          refine u_icmp_ne (pc := 62) (tgt := 69) C d_L_depends_62 rfl (fun c62 => ?_) (fun c62 => ?_)
          · refine u_iconst (pc := 69) (v := 0) C d_L_depends_69 (by decide) ?_
            refine u_iret (pc := 70) C d_L_depends_70 (hQ _ _ ⟨_, rfl, ?_⟩)
            have h1 : ¬ sp_lot a σ = 0 := e7 ▸ c10
            have h2 : ¬ sp_lot b σ = 0 := e15 ▸ c18
            have g1 : ¬ hasF (nI σ.1.2.1) a = 0 := fun q => h1 (by rw [sp_lot, if_pos q])
            have g2 : ¬ hasF (nI σ.1.2.1) b = 0 := fun q => h2 (by rw [sp_lot, if_pos q])
            obtain ⟨d, hd, rfl⟩ := has_ix g1 hn
            obtain ⟨e, he, rfl⟩ := has_ix g2 hn
            rw [e31, (at_cd hcd (by omega)).1] at e34
            refine ⟨?_, rfl⟩
            rw [sp_depends, if_neg c2, if_neg h1, if_neg h2, nI_clamp (by omega), nI_clamp (by omega)]
            have hk : σ.1.1 0 d = 3 ∨ σ.1.1 0 d = 4 := by
              rcases Classical.em (σ.1.1 0 d = 3 ∨ σ.1.1 0 d = 4) with q | q
              · exact q
              · exact absurd (e34.trans (if_neg q)) c37
            rw [e48, (at_cd hcd (by omega)).2.2.2.1, e59, (at_cd hcd (by omega)).2.2.1] at c62
            rw [if_neg (fun q => c62 q.2)]
          · refine u_iconst (pc := 65) (v := 1) C d_L_depends_65 (by decide) ?_
            refine u_goto (pc := 66) (tgt := 70) C d_L_depends_66 rfl ?_
            refine u_iret (pc := 70) C d_L_depends_70 (hQ _ _ ⟨_, rfl, ?_⟩)
            have h1 : ¬ sp_lot a σ = 0 := e7 ▸ c10
            have h2 : ¬ sp_lot b σ = 0 := e15 ▸ c18
            have g1 : ¬ hasF (nI σ.1.2.1) a = 0 := fun q => h1 (by rw [sp_lot, if_pos q])
            have g2 : ¬ hasF (nI σ.1.2.1) b = 0 := fun q => h2 (by rw [sp_lot, if_pos q])
            obtain ⟨d, hd, rfl⟩ := has_ix g1 hn
            obtain ⟨e, he, rfl⟩ := has_ix g2 hn
            rw [e31, (at_cd hcd (by omega)).1] at e34
            refine ⟨?_, rfl⟩
            rw [sp_depends, if_neg c2, if_neg h1, if_neg h2, nI_clamp (by omega), nI_clamp (by omega)]
            have hk : σ.1.1 0 d = 3 ∨ σ.1.1 0 d = 4 := by
              rcases Classical.em (σ.1.1 0 d = 3 ∨ σ.1.1 0 d = 4) with q | q
              · exact q
              · exact absurd (e34.trans (if_neg q)) c37
            rw [e48, (at_cd hcd (by omega)).2.2.2.1, e59, (at_cd hcd (by omega)).2.2.1] at c62
            rw [if_pos ⟨hk, c62⟩]
      · refine u_iconst (pc := 21) (v := (-1)) C d_L_depends_21 (by decide) ?_
        refine u_iret (pc := 22) C d_L_depends_22 (hQ _ _ ⟨_, rfl, ?_⟩)
        exact ⟨by rw [sp_depends, if_neg c2, if_neg (e7 ▸ c10), if_pos (e15 ▸ c18)], rfl⟩
set_option maxRecDepth 20000 in
theorem c_L_pile {i : Int32} {M : Mem} {σ : St} (hI : InvC M σ) : Ct lyC y_L_pile b_L_pile 2 (some .int) 1 [.ref 83, .int i] M (Pi fun r M' => r = sp_pile i σ ∧ M' = M) := by
  obtain ⟨m, hm, hR⟩ := hI.R
  have hW := hI.1
  have hcd := hI.2.1
  have hn := hW.1.1
  have r8 := hR.2.2.2.2.2.2.1
  have r10 := hR.2.2.2.2.2.2.2.2.1
  refine Ct.ofG mx_L_pile [some (.ref 83), some (.int i)] rfl rfl (Nat.le_of_ble_eq_true rfl) (fun κ C hQ => ?_)
  refine u_iload_n (pc := 0) C d_L_pile_0 rfl ?_
  refine u_if_ge (pc := 1) (tgt := 6) C d_L_pile_1 rfl (fun c1 => ?_) (fun c1 => ?_)
  · refine u_iload_n (pc := 6) C d_L_pile_6 rfl ?_
    refine u_aload_n (pc := 7) C d_L_pile_7 rfl ?_
    refine u_getr (pc := 8) (r := (gp 0)) C d_L_pile_8 fw_L_21 sC_83 rfl rfl ?_
    refine u_geti (pc := 11) C d_L_pile_11 fw_L_211 (shG0 (by decide)) rfl ?_
    refine u_icmp_ge (pc := 14) (tgt := 41) C d_L_pile_14 rfl (fun c14 => ?_) (fun c14 => ?_)
    · refine u_bipush (pc := 41) (v := (-2)) C d_L_pile_41 (by decide) ?_
      refine u_iret (pc := 43) C d_L_pile_43 (hQ _ _ ⟨_, rfl, ?_⟩)
      exact ⟨by rw [sp_pile, if_pos c1, if_neg (Int32.not_lt.mpr (by rw [← r10]; exact c14))], rfl⟩
    · refine u_aload_n (pc := 17) C d_L_pile_17 rfl ?_
      refine u_getr (pc := 18) (r := (gp 0)) C d_L_pile_18 fw_L_21 sC_83 rfl rfl ?_
      refine u_getr (pc := 21) (r := (gp 0 + 6)) C d_L_pile_21 fw_L_217 (shG0 (by decide)) rfl rfl ?_
      refine u_aload_n (pc := 24) C d_L_pile_24 rfl ?_
      refine u_getr (pc := 25) (r := (gp 0)) C d_L_pile_25 fw_L_21 sC_83 rfl rfl ?_
      refine u_geti (pc := 28) C d_L_pile_28 fw_L_211 (shG0 (by decide)) rfl ?_
      refine u_iconst (pc := 31) (v := 1) C d_L_pile_31 (by decide) ?_
      refine u_isub (pc := 32) C d_L_pile_32 ?_
      refine u_iload_n (pc := 33) C d_L_pile_33 rfl ?_
      refine u_isub (pc := 34) C d_L_pile_34 ?_
      refine u_callSi (pc := 35) C d_L_pile_35 mx_L_at mw_L_124 (c_L_at (shG6 (by decide))) rfl rfl (Nat.le_of_ble_eq_true rfl) (fun r35 M35 q35 => ?_)
      obtain ⟨e35, q35⟩ := q35
      have q35 := q35.symm
      subst q35
      refine u_goto (pc := 38) (tgt := 43) C d_L_pile_38 rfl ?_
      refine u_iret (pc := 43) C d_L_pile_43 (hQ _ _ ⟨_, rfl, ?_⟩)
      have c14 : ¬ M.1 (gp 0) 9 ≤ i := c14
      rw [r10] at c14
      obtain ⟨h, h64, hh⟩ := hW.hb
      obtain ⟨j, hj, rfl⟩ := nI_of (Int32.not_lt.mpr c1)
      have hlt := Int32.not_le.mp c14
      rw [hh] at hlt
      have hj2 : j < h := (nI_ltI hj (by omega)).mp hlt
      have e9 : nI h - 1 - nI j = nI (h - 1 - j) := by rw [nI_sub1 (by omega), pk_sub (by omega)]
      refine ⟨?_, rfl⟩
      have e35 : r35 = atF (M.1 (gp 0 + 6)) 64 (M.1 (gp 0) 9 - 1 - nI j) := e35
      rw [sp_pile, if_pos c1, if_pos (by rw [hh]; exact hlt), e35, r10, hh, e9, atF_in (by omega) (by decide), hR.2.2.2.2.2.1 _ (by rw [hh, nI_clamp (by omega)]; omega), nI_clamp (by omega)]
  · refine u_iconst (pc := 4) (v := (-1)) C d_L_pile_4 (by decide) ?_
    refine u_iret (pc := 5) C d_L_pile_5 (hQ _ _ ⟨_, rfl, ?_⟩)
    exact ⟨by rw [sp_pile, if_neg c1], rfl⟩
set_option maxRecDepth 20000 in
theorem c_L_ended {what : Int32} {M : Mem} {σ : St} (hI : InvC M σ) : Ct lyC y_L_ended b_L_ended 2 (some .int) 0 [.ref 83, .int what] M (Pi fun r M' => r = sp_ended what σ ∧ M' = M) := by
  have h7 := hI.2.2.2.2.2.2.1
  refine Ct.ofG mx_L_ended [some (.ref 83), some (.int what)] rfl rfl (Nat.le_of_ble_eq_true rfl) (fun κ C hQ => ?_)
  refine u_iload_n (pc := 0) C d_L_ended_0 rfl ?_
  refine u_top (fun t1 e1 => ?_)
  rcases sw_0_2 t1 with q1 | q1 | q1 | q1
  · refine u_tsIn (pc := 1) (tgt := 28) C d_L_ended_1 (by rw [q1]; decide) (by rw [q1]; decide) (by rw [q1]; rfl) rfl ?_
    refine u_aload_n (pc := 28) C d_L_ended_28 rfl ?_
    refine u_geti (pc := 29) C d_L_ended_29 fw_L_81 sC_83 rfl ?_
    refine u_iret (pc := 32) C d_L_ended_32 (hQ _ _ ⟨_, rfl, ?_⟩)
    subst e1
    exact ⟨by rw [sp_ended, q1, if_pos rfl, h7.1], rfl⟩
  · refine u_tsIn (pc := 1) (tgt := 33) C d_L_ended_1 (by rw [q1]; decide) (by rw [q1]; decide) (by rw [q1]; rfl) rfl ?_
    refine u_aload_n (pc := 33) C d_L_ended_33 rfl ?_
    refine u_geti (pc := 34) C d_L_ended_34 fw_L_85 sC_83 rfl ?_
    refine u_iret (pc := 37) C d_L_ended_37 (hQ _ _ ⟨_, rfl, ?_⟩)
    subst e1
    exact ⟨by rw [sp_ended, q1, if_neg (by decide), if_pos rfl, h7.2.1], rfl⟩
  · refine u_tsIn (pc := 1) (tgt := 38) C d_L_ended_1 (by rw [q1]; decide) (by rw [q1]; decide) (by rw [q1]; rfl) rfl ?_
    refine u_aload_n (pc := 38) C d_L_ended_38 rfl ?_
    refine u_geti (pc := 39) C d_L_ended_39 fw_L_88 sC_83 rfl ?_
    refine u_iret (pc := 42) C d_L_ended_42 (hQ _ _ ⟨_, rfl, ?_⟩)
    subst e1
    exact ⟨by rw [sp_ended, q1, if_neg (by decide), if_neg (by decide), if_pos rfl, h7.2.2], rfl⟩
  · refine u_tsOut (pc := 1) (tgt := 43) C d_L_ended_1 q1 rfl ?_
    refine u_iconst (pc := 43) (v := (-1)) C d_L_ended_43 (by decide) ?_
    refine u_iret (pc := 44) C d_L_ended_44 (hQ _ _ ⟨_, rfl, ?_⟩)
    subst e1
    have z : ∀ k : Int32, (0 ≤ k.toInt ∧ k.toInt ≤ 2) → ¬ t1 = k := fun k hk q => by rw [q] at q1; rcases q1 with q1 | q1 <;> omega
    exact ⟨by rw [sp_ended, if_neg (z 0 (by decide)), if_neg (z 1 (by decide)), if_neg (z 2 (by decide))], rfl⟩
