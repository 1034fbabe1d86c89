/-! the reference: the values as layered -/
def VLr (M : Mem) (ord : List Nat) (vs : Nat → Int32) : Prop := USr M 13 218 ord ∧ ∀ v, v < 4 → M.1 217 v = vs v ∧ -99 ≤ (vs v).toInt ∧ (vs v).toInt ≤ 99
def layR (p j : Nat) : Prop := (p = 0 ∧ j = 13) ∨ p = 217 ∨ p = 218
theorem RS.lay {M M' : Mem} {cd : Nat → Nat → Int32} {n : Nat} {g : Gm} {tb : List Nat} (h : RS M cd n g tb) (ho : OfR layR M M') : RS M' cd n g tb :=
  h.of ho (fun p j _ _ q => by rcases q with q | q | q <;> omega) (fun q => by rcases q with q | q | q <;> omega) (fun j q => by rcases q with q | q | q <;> omega)
theorem within_in {x : Int32} (h1 : -99 ≤ x.toInt) (h2 : x.toInt ≤ 99) : withinF x (-99) 99 = x := by
  have e1 : (-99 : Int32).toInt = -99 := by decide
  have e2 : (99 : Int32).toInt = 99 := by decide
  rw [withinF, if_pos (by rw [Int32.le_iff_toInt_le, e1]; exact h1), if_pos (by rw [Int32.le_iff_toInt_le, e2]; exact h2)]
theorem within_b (x : Int32) : -99 ≤ (withinF x (-99) 99).toInt ∧ (withinF x (-99) 99).toInt ≤ 99 := by
  have e1 : (-99 : Int32).toInt = -99 := by decide
  have e2 : (99 : Int32).toInt = 99 := by decide
  unfold withinF
  split
  · rename_i h
    rw [Int32.le_iff_toInt_le, e1] at h
    split
    · rename_i h2
      rw [Int32.le_iff_toInt_le, e2] at h2
      exact ⟨h, h2⟩
    · exact ⟨by decide, by decide⟩
  · exact ⟨by decide, by decide⟩
theorem layF_w {k a own other : Int32} (ha : -9 ≤ a.toInt ∧ a.toInt ≤ 9) (ho : -99 ≤ other.toInt ∧ other.toInt ≤ 99) :
    withinF (if k = 0 then own + a else if k = 1 then own * a else if k = 2 then a else if k = 3 then other else own + other) (-99) 99 = layF k a own other := by
  unfold layF
  by_cases h0 : k = 0
  · rw [if_pos h0, if_pos h0]
  · rw [if_neg h0, if_neg h0]
    by_cases h1 : k = 1
    · rw [if_pos h1, if_pos h1]
    · rw [if_neg h1, if_neg h1]
      by_cases h2 : k = 2
      · rw [if_pos h2, if_pos h2]; exact within_in (by omega) (by omega)
      · rw [if_neg h2, if_neg h2]
        by_cases h3 : k = 3
        · rw [if_pos h3, if_pos h3]; exact within_in ho.1 ho.2
        · rw [if_neg h3, if_neg h3]
set_option maxRecDepth 20000 in
theorem c_M_use {cd : Nat → Nat → Int32} {n : Nat} {g : Gm} {tb : List Nat} {M : Mem} (hS : RS M cd n g tb) {ord : List Nat} {vs : Nat → Int32} {c v w : Nat} (hV : VLr M ord vs) (hc : c < n) (hv : v < 4) (hw : w < 4) (hcv : cd 2 c = nI v) (hcw : cd 3 c = nI w) (hl : ord.length < 24) : Ct lyR y_M_use b_M_use 5 none 1 [.ref 0, .int (nI c)] M (Pv fun M' => VLr M' (ord ++ [c]) (uselay cd vs c) ∧ OfR layR M M') := by
  have n24 := hS.n24
  have hc24 : c < 24 := by omega
  have hcl : (nI c).toNatClampNeg = c := nI_clamp (by omega)
  have ha := (hS.1.1.2 c hc).2.2.2.2
  obtain ⟨hU, hvs⟩ := hV
  have hU2 := hU
  obtain ⟨u1, u2, u3, u4⟩ := hU
  obtain ⟨k1, k2, k3, k4, k5⟩ := hS.cdc
  have i3 : M.1 3 (nI c).toNatClampNeg = nI v := by rw [k3, hcl, hcv]
  have i4 : M.1 4 (nI c).toNatClampNeg = nI w := by rw [k4, hcl, hcw]
  have i1 : M.1 1 (nI c).toNatClampNeg = cd 0 c := by rw [k1, hcl]
  have i5 : M.1 5 (nI c).toNatClampNeg = cd 4 c := by rw [k5, hcl]
  have cv4 : (nI v).toNatClampNeg = v := nI_clamp (by omega)
  have cw4 : (nI w).toNatClampNeg = w := nI_clamp (by omega)
  refine Ct.ofG mx_M_use [some (.ref 0), some (.int (nI c)), none, none, none] rfl rfl (Nat.le_of_ble_eq_true rfl) (fun κ C hQ => ?_)
  refine u_aload_n (pc := 0) C d_M_use_0 rfl ?_
  refine u_getr (pc := 1) (r := 3) C d_M_use_1 fw_M_16 sR_0 rfl rfl ?_
  refine u_iload_n (pc := 4) C d_M_use_4 rfl ?_
  refine u_iald (pc := 5) C d_M_use_5 sR_3 (vp24 hc24) ?_
  refine u_istore_n (pc := 6) C d_M_use_6 rfl (fun x6 e6 L9 hL9 => ?_)
  obtain rfl : L9 = [some (.ref 0), some (.int (nI c)), some (.int x6), none, none] := hL9.symm
  rw [i3] at e6
  subst e6
  refine u_aload_n (pc := 7) C d_M_use_7 rfl ?_
  refine u_getr (pc := 8) (r := 217) C d_M_use_8 fw_M_43 sR_0 rfl rfl ?_
  refine u_aload_n (pc := 11) C d_M_use_11 rfl ?_
  refine u_getr (pc := 12) (r := 4) C d_M_use_12 fw_M_19 sR_0 rfl rfl ?_
  refine u_iload_n (pc := 15) C d_M_use_15 rfl ?_
  refine u_iald (pc := 16) C d_M_use_16 sR_4 (vp24 hc24) ?_
  refine u_iald (pc := 17) C d_M_use_17 sR_217 (by rw [i4]; exact vp_in_nI hw (by decide)) ?_
  refine u_istore_n (pc := 18) C d_M_use_18 rfl (fun x18 e18 L9 hL9 => ?_)
  obtain rfl : L9 = [some (.ref 0), some (.int (nI c)), some (.int (nI v)), some (.int x18), none] := hL9.symm
  rw [i4, cw4, (hvs w hw).1] at e18
  subst e18
  refine u_aload_n (pc := 19) C d_M_use_19 rfl ?_
  refine u_getr (pc := 20) (r := 1) C d_M_use_20 fw_M_9 sR_0 rfl rfl ?_
  refine u_iload_n (pc := 23) C d_M_use_23 rfl ?_
  refine u_iald (pc := 24) C d_M_use_24 sR_1 (vp24 hc24) ?_
  refine u_if_ne (pc := 25) (tgt := 44) C d_M_use_25 rfl (fun c25 => ?_) (fun c25 => ?_)
  · refine u_aload_n (pc := 44) C d_M_use_44 rfl ?_
    refine u_getr (pc := 45) (r := 1) C d_M_use_45 fw_M_9 sR_0 rfl rfl ?_
    refine u_iload_n (pc := 48) C d_M_use_48 rfl ?_
    refine u_iald (pc := 49) C d_M_use_49 sR_1 (vp24 hc24) ?_
    refine u_iconst (pc := 50) (v := 1) C d_M_use_50 (by decide) ?_
    refine u_icmp_ne (pc := 51) (tgt := 70) C d_M_use_51 rfl (fun c51 => ?_) (fun c51 => ?_)
    · refine u_aload_n (pc := 70) C d_M_use_70 rfl ?_
      refine u_getr (pc := 71) (r := 1) C d_M_use_71 fw_M_9 sR_0 rfl rfl ?_
      refine u_iload_n (pc := 74) C d_M_use_74 rfl ?_
      refine u_iald (pc := 75) C d_M_use_75 sR_1 (vp24 hc24) ?_
      refine u_iconst (pc := 76) (v := 2) C d_M_use_76 (by decide) ?_
      refine u_icmp_ne (pc := 77) (tgt := 89) C d_M_use_77 rfl (fun c77 => ?_) (fun c77 => ?_)
      · refine u_aload_n (pc := 89) C d_M_use_89 rfl ?_
        refine u_getr (pc := 90) (r := 1) C d_M_use_90 fw_M_9 sR_0 rfl rfl ?_
        refine u_iload_n (pc := 93) C d_M_use_93 rfl ?_
        refine u_iald (pc := 94) C d_M_use_94 sR_1 (vp24 hc24) ?_
        refine u_iconst (pc := 95) (v := 3) C d_M_use_95 (by decide) ?_
        refine u_icmp_ne (pc := 96) (tgt := 103) C d_M_use_96 rfl (fun c96 => ?_) (fun c96 => ?_)
        · refine u_aload_n (pc := 103) C d_M_use_103 rfl ?_
          refine u_getr (pc := 104) (r := 217) C d_M_use_104 fw_M_43 sR_0 rfl rfl ?_
          refine u_iload_n (pc := 107) C d_M_use_107 rfl ?_
          refine u_iald (pc := 108) C d_M_use_108 sR_217 (vp_in_nI hv (by decide)) ?_
          refine u_iload_n (pc := 109) C d_M_use_109 rfl ?_
          refine u_iadd (pc := 110) C d_M_use_110 ?_
          refine u_istore (pc := 111) C d_M_use_111 rfl (fun x111 e111 L9 hL9 => ?_)
          obtain rfl : L9 = [some (.ref 0), some (.int (nI c)), some (.int (nI v)), some (.int (vs w)), some (.int x111)] := hL9.symm
          refine u_aload_n (pc := 113) C d_M_use_113 rfl ?_
          refine u_getr (pc := 114) (r := 217) C d_M_use_114 fw_M_43 sR_0 rfl rfl ?_
          refine u_iload_n (pc := 117) C d_M_use_117 rfl ?_
          refine u_iload (pc := 118) C d_M_use_118 rfl ?_
          refine u_bipush (pc := 120) (v := (-99)) C d_M_use_120 (by decide) ?_
          refine u_bipush (pc := 122) (v := 99) C d_M_use_122 (by decide) ?_
          refine u_callSi (pc := 124) C d_M_use_124 mx_M_held mw_M_186 (c_M_held (by decide)) rfl rfl (Nat.le_of_ble_eq_true rfl) (fun r124 M124 q124 => ?_)
          obtain ⟨e124, q124⟩ := q124
          have q124 := q124.symm
          subst q124
          refine u_iast (pc := 127) C d_M_use_127 sR_217 (vp_in_nI hv (by decide)) ?_
          refine u_aload_n (pc := 128) C d_M_use_128 rfl ?_
          refine u_getr (pc := 129) (r := 218) C d_M_use_129 fw_M_46 sR_0 rfl rfl ?_
          refine u_aload_n (pc := 132) C d_M_use_132 rfl ?_
          refine u_dup (pc := 133) C d_M_use_133 rfl ?_
          refine u_geti (pc := 134) C d_M_use_134 fw_M_171 sR_0 rfl ?_
          refine u_dup_x1 (pc := 137) C d_M_use_137 rfl rfl ?_
          refine u_iconst (pc := 138) (v := 1) C d_M_use_138 (by decide) ?_
          refine u_iadd (pc := 139) C d_M_use_139 ?_
          refine u_put (pc := 140) C d_M_use_140 fw_M_171 sR_0 rfl (Or.inl rfl) ?_
          refine u_iload_n (pc := 143) C d_M_use_143 rfl ?_
          refine u_iast (pc := 144) C d_M_use_144 sR_218 (by rw [up_ne (by decide), u1]; exact vp_in_nI (by omega) (by decide)) ?_
          refine u_vret (pc := 145) C d_M_use_145 (hQ _ _ ⟨rfl, ?_⟩)
          simp only [i1] at *
          simp only [i5, cv4, (hvs v hv).1] at *
          have he : (if cd 0 c = 0 then vs v + cd 4 c else if cd 0 c = 1 then vs v * cd 4 c else if cd 0 c = 2 then cd 4 c else if cd 0 c = 3 then vs w else vs v + vs w) = x111 := by
            rw [e111]
            simp [*]
          rw [← he, layF_w ha (hvs w hw).2] at e124
          subst e124
          have q0 : up M 217 v (layF (cd 0 c) (cd 4 c) (vs v) (vs w)) = up M 217 v (layF (cd 0 c) (cd 4 c) (vs v) (vs w)) := rfl
          have hm : (up M 217 v (layF (cd 0 c) (cd 4 c) (vs v) (vs w))).1 0 13 = nI ord.length := by rw [up_ne (by decide), u1]
          rw [hm, ← nI_succ, nI_clamp (by omega)]
          have hU3 : USr (up M 217 v (layF (cd 0 c) (cd 4 c) (vs v) (vs w))) 13 218 ord := hU2.of (S := fun p _ => p = 217) (OfR.up rfl) (by decide) (fun i => by decide)
          refine ⟨⟨hU3.add (by decide) hl hc24, fun z hz => ?_⟩, ((OfR.up (Or.inr (Or.inl rfl))).trans (OfR.up (Or.inl ⟨rfl, rfl⟩))).trans (OfR.up (Or.inr (Or.inr rfl)))⟩
          rw [up_ne (by decide), up_ne (by decide)]
          have hx : uselay cd vs c = upd vs v (layF (cd 0 c) (cd 4 c) (vs v) (vs w)) := by
            unfold uselay
            rw [hcv, hcw, show pix (nI v) = v from nI_clamp (by omega), show pix (nI w) = w from nI_clamp (by omega)]
          rw [hx]
          by_cases e : z = v
          · subst e
            rw [pk_us, up_row, pk_us]
            refine ⟨rfl, ?_⟩
            rw [← layF_w ha (hvs w hw).2]
            exact within_b _
          · rw [pk_un e, up_row, pk_un e]
            exact hvs z hz
        · refine u_iload_n (pc := 99) C d_M_use_99 rfl ?_
          refine u_goto (pc := 100) (tgt := 111) C d_M_use_100 rfl ?_
          refine u_istore (pc := 111) C d_M_use_111 rfl (fun x111 e111 L9 hL9 => ?_)
          obtain rfl : L9 = [some (.ref 0), some (.int (nI c)), some (.int (nI v)), some (.int (vs w)), some (.int x111)] := hL9.symm
          refine u_aload_n (pc := 113) C d_M_use_113 rfl ?_
          refine u_getr (pc := 114) (r := 217) C d_M_use_114 fw_M_43 sR_0 rfl rfl ?_
          refine u_iload_n (pc := 117) C d_M_use_117 rfl ?_
          refine u_iload (pc := 118) C d_M_use_118 rfl ?_
          refine u_bipush (pc := 120) (v := (-99)) C d_M_use_120 (by decide) ?_
          refine u_bipush (pc := 122) (v := 99) C d_M_use_122 (by decide) ?_
          refine u_callSi (pc := 124) C d_M_use_124 mx_M_held mw_M_186 (c_M_held (by decide)) rfl rfl (Nat.le_of_ble_eq_true rfl) (fun r124 M124 q124 => ?_)
          obtain ⟨e124, q124⟩ := q124
          have q124 := q124.symm
          subst q124
          refine u_iast (pc := 127) C d_M_use_127 sR_217 (vp_in_nI hv (by decide)) ?_
          refine u_aload_n (pc := 128) C d_M_use_128 rfl ?_
          refine u_getr (pc := 129) (r := 218) C d_M_use_129 fw_M_46 sR_0 rfl rfl ?_
          refine u_aload_n (pc := 132) C d_M_use_132 rfl ?_
          refine u_dup (pc := 133) C d_M_use_133 rfl ?_
          refine u_geti (pc := 134) C d_M_use_134 fw_M_171 sR_0 rfl ?_
          refine u_dup_x1 (pc := 137) C d_M_use_137 rfl rfl ?_
          refine u_iconst (pc := 138) (v := 1) C d_M_use_138 (by decide) ?_
          refine u_iadd (pc := 139) C d_M_use_139 ?_
          refine u_put (pc := 140) C d_M_use_140 fw_M_171 sR_0 rfl (Or.inl rfl) ?_
          refine u_iload_n (pc := 143) C d_M_use_143 rfl ?_
          refine u_iast (pc := 144) C d_M_use_144 sR_218 (by rw [up_ne (by decide), u1]; exact vp_in_nI (by omega) (by decide)) ?_
          refine u_vret (pc := 145) C d_M_use_145 (hQ _ _ ⟨rfl, ?_⟩)
          simp only [i1] at *
          simp only [i5, cv4, (hvs v hv).1] at *
          have he : (if cd 0 c = 0 then vs v + cd 4 c else if cd 0 c = 1 then vs v * cd 4 c else if cd 0 c = 2 then cd 4 c else if cd 0 c = 3 then vs w else vs v + vs w) = x111 := by
            rw [e111]
            simp [*]
          rw [← he, layF_w ha (hvs w hw).2] at e124
          subst e124
          have q0 : up M 217 v (layF (cd 0 c) (cd 4 c) (vs v) (vs w)) = up M 217 v (layF (cd 0 c) (cd 4 c) (vs v) (vs w)) := rfl
          have hm : (up M 217 v (layF (cd 0 c) (cd 4 c) (vs v) (vs w))).1 0 13 = nI ord.length := by rw [up_ne (by decide), u1]
          rw [hm, ← nI_succ, nI_clamp (by omega)]
          have hU3 : USr (up M 217 v (layF (cd 0 c) (cd 4 c) (vs v) (vs w))) 13 218 ord := hU2.of (S := fun p _ => p = 217) (OfR.up rfl) (by decide) (fun i => by decide)
          refine ⟨⟨hU3.add (by decide) hl hc24, fun z hz => ?_⟩, ((OfR.up (Or.inr (Or.inl rfl))).trans (OfR.up (Or.inl ⟨rfl, rfl⟩))).trans (OfR.up (Or.inr (Or.inr rfl)))⟩
          rw [up_ne (by decide), up_ne (by decide)]
          have hx : uselay cd vs c = upd vs v (layF (cd 0 c) (cd 4 c) (vs v) (vs w)) := by
            unfold uselay
            rw [hcv, hcw, show pix (nI v) = v from nI_clamp (by omega), show pix (nI w) = w from nI_clamp (by omega)]
          rw [hx]
          by_cases e : z = v
          · subst e
            rw [pk_us, up_row, pk_us]
            refine ⟨rfl, ?_⟩
            rw [← layF_w ha (hvs w hw).2]
            exact within_b _
          · rw [pk_un e, up_row, pk_un e]
            exact hvs z hz
      · refine u_aload_n (pc := 80) C d_M_use_80 rfl ?_
        refine u_getr (pc := 81) (r := 5) C d_M_use_81 fw_M_22 sR_0 rfl rfl ?_
        refine u_iload_n (pc := 84) C d_M_use_84 rfl ?_
        refine u_iald (pc := 85) C d_M_use_85 sR_5 (vp24 hc24) ?_
        refine u_goto (pc := 86) (tgt := 111) C d_M_use_86 rfl ?_
        refine u_istore (pc := 111) C d_M_use_111 rfl (fun x111 e111 L9 hL9 => ?_)
        obtain rfl : L9 = [some (.ref 0), some (.int (nI c)), some (.int (nI v)), some (.int (vs w)), some (.int x111)] := hL9.symm
        refine u_aload_n (pc := 113) C d_M_use_113 rfl ?_
        refine u_getr (pc := 114) (r := 217) C d_M_use_114 fw_M_43 sR_0 rfl rfl ?_
        refine u_iload_n (pc := 117) C d_M_use_117 rfl ?_
        refine u_iload (pc := 118) C d_M_use_118 rfl ?_
        refine u_bipush (pc := 120) (v := (-99)) C d_M_use_120 (by decide) ?_
        refine u_bipush (pc := 122) (v := 99) C d_M_use_122 (by decide) ?_
        refine u_callSi (pc := 124) C d_M_use_124 mx_M_held mw_M_186 (c_M_held (by decide)) rfl rfl (Nat.le_of_ble_eq_true rfl) (fun r124 M124 q124 => ?_)
        obtain ⟨e124, q124⟩ := q124
        have q124 := q124.symm
        subst q124
        refine u_iast (pc := 127) C d_M_use_127 sR_217 (vp_in_nI hv (by decide)) ?_
        refine u_aload_n (pc := 128) C d_M_use_128 rfl ?_
        refine u_getr (pc := 129) (r := 218) C d_M_use_129 fw_M_46 sR_0 rfl rfl ?_
        refine u_aload_n (pc := 132) C d_M_use_132 rfl ?_
        refine u_dup (pc := 133) C d_M_use_133 rfl ?_
        refine u_geti (pc := 134) C d_M_use_134 fw_M_171 sR_0 rfl ?_
        refine u_dup_x1 (pc := 137) C d_M_use_137 rfl rfl ?_
        refine u_iconst (pc := 138) (v := 1) C d_M_use_138 (by decide) ?_
        refine u_iadd (pc := 139) C d_M_use_139 ?_
        refine u_put (pc := 140) C d_M_use_140 fw_M_171 sR_0 rfl (Or.inl rfl) ?_
        refine u_iload_n (pc := 143) C d_M_use_143 rfl ?_
        refine u_iast (pc := 144) C d_M_use_144 sR_218 (by rw [up_ne (by decide), u1]; exact vp_in_nI (by omega) (by decide)) ?_
        refine u_vret (pc := 145) C d_M_use_145 (hQ _ _ ⟨rfl, ?_⟩)
        simp only [i1] at *
        simp only [i5, cv4, (hvs v hv).1] at *
        have he : (if cd 0 c = 0 then vs v + cd 4 c else if cd 0 c = 1 then vs v * cd 4 c else if cd 0 c = 2 then cd 4 c else if cd 0 c = 3 then vs w else vs v + vs w) = x111 := by
          rw [e111]
          simp [*]
        rw [← he, layF_w ha (hvs w hw).2] at e124
        subst e124
        have q0 : up M 217 v (layF (cd 0 c) (cd 4 c) (vs v) (vs w)) = up M 217 v (layF (cd 0 c) (cd 4 c) (vs v) (vs w)) := rfl
        have hm : (up M 217 v (layF (cd 0 c) (cd 4 c) (vs v) (vs w))).1 0 13 = nI ord.length := by rw [up_ne (by decide), u1]
        rw [hm, ← nI_succ, nI_clamp (by omega)]
        have hU3 : USr (up M 217 v (layF (cd 0 c) (cd 4 c) (vs v) (vs w))) 13 218 ord := hU2.of (S := fun p _ => p = 217) (OfR.up rfl) (by decide) (fun i => by decide)
        refine ⟨⟨hU3.add (by decide) hl hc24, fun z hz => ?_⟩, ((OfR.up (Or.inr (Or.inl rfl))).trans (OfR.up (Or.inl ⟨rfl, rfl⟩))).trans (OfR.up (Or.inr (Or.inr rfl)))⟩
        rw [up_ne (by decide), up_ne (by decide)]
        have hx : uselay cd vs c = upd vs v (layF (cd 0 c) (cd 4 c) (vs v) (vs w)) := by
          unfold uselay
          rw [hcv, hcw, show pix (nI v) = v from nI_clamp (by omega), show pix (nI w) = w from nI_clamp (by omega)]
        rw [hx]
        by_cases e : z = v
        · subst e
          rw [pk_us, up_row, pk_us]
          refine ⟨rfl, ?_⟩
          rw [← layF_w ha (hvs w hw).2]
          exact within_b _
        · rw [pk_un e, up_row, pk_un e]
          exact hvs z hz
    · refine u_aload_n (pc := 54) C d_M_use_54 rfl ?_
      refine u_getr (pc := 55) (r := 217) C d_M_use_55 fw_M_43 sR_0 rfl rfl ?_
      refine u_iload_n (pc := 58) C d_M_use_58 rfl ?_
      refine u_iald (pc := 59) C d_M_use_59 sR_217 (vp_in_nI hv (by decide)) ?_
      refine u_aload_n (pc := 60) C d_M_use_60 rfl ?_
      refine u_getr (pc := 61) (r := 5) C d_M_use_61 fw_M_22 sR_0 rfl rfl ?_
      refine u_iload_n (pc := 64) C d_M_use_64 rfl ?_
      refine u_iald (pc := 65) C d_M_use_65 sR_5 (vp24 hc24) ?_
      refine u_imul (pc := 66) C d_M_use_66 ?_
      refine u_goto (pc := 67) (tgt := 111) C d_M_use_67 rfl ?_
      refine u_istore (pc := 111) C d_M_use_111 rfl (fun x111 e111 L9 hL9 => ?_)
      obtain rfl : L9 = [some (.ref 0), some (.int (nI c)), some (.int (nI v)), some (.int (vs w)), some (.int x111)] := hL9.symm
      refine u_aload_n (pc := 113) C d_M_use_113 rfl ?_
      refine u_getr (pc := 114) (r := 217) C d_M_use_114 fw_M_43 sR_0 rfl rfl ?_
      refine u_iload_n (pc := 117) C d_M_use_117 rfl ?_
      refine u_iload (pc := 118) C d_M_use_118 rfl ?_
      refine u_bipush (pc := 120) (v := (-99)) C d_M_use_120 (by decide) ?_
      refine u_bipush (pc := 122) (v := 99) C d_M_use_122 (by decide) ?_
      refine u_callSi (pc := 124) C d_M_use_124 mx_M_held mw_M_186 (c_M_held (by decide)) rfl rfl (Nat.le_of_ble_eq_true rfl) (fun r124 M124 q124 => ?_)
      obtain ⟨e124, q124⟩ := q124
      have q124 := q124.symm
      subst q124
      refine u_iast (pc := 127) C d_M_use_127 sR_217 (vp_in_nI hv (by decide)) ?_
      refine u_aload_n (pc := 128) C d_M_use_128 rfl ?_
      refine u_getr (pc := 129) (r := 218) C d_M_use_129 fw_M_46 sR_0 rfl rfl ?_
      refine u_aload_n (pc := 132) C d_M_use_132 rfl ?_
      refine u_dup (pc := 133) C d_M_use_133 rfl ?_
      refine u_geti (pc := 134) C d_M_use_134 fw_M_171 sR_0 rfl ?_
      refine u_dup_x1 (pc := 137) C d_M_use_137 rfl rfl ?_
      refine u_iconst (pc := 138) (v := 1) C d_M_use_138 (by decide) ?_
      refine u_iadd (pc := 139) C d_M_use_139 ?_
      refine u_put (pc := 140) C d_M_use_140 fw_M_171 sR_0 rfl (Or.inl rfl) ?_
      refine u_iload_n (pc := 143) C d_M_use_143 rfl ?_
      refine u_iast (pc := 144) C d_M_use_144 sR_218 (by rw [up_ne (by decide), u1]; exact vp_in_nI (by omega) (by decide)) ?_
      refine u_vret (pc := 145) C d_M_use_145 (hQ _ _ ⟨rfl, ?_⟩)
      simp only [i1] at *
      simp only [i5, cv4, (hvs v hv).1] at *
      have he : (if cd 0 c = 0 then vs v + cd 4 c else if cd 0 c = 1 then vs v * cd 4 c else if cd 0 c = 2 then cd 4 c else if cd 0 c = 3 then vs w else vs v + vs w) = x111 := by
        rw [e111]
        simp [*]
      rw [← he, layF_w ha (hvs w hw).2] at e124
      subst e124
      have q0 : up M 217 v (layF (cd 0 c) (cd 4 c) (vs v) (vs w)) = up M 217 v (layF (cd 0 c) (cd 4 c) (vs v) (vs w)) := rfl
      have hm : (up M 217 v (layF (cd 0 c) (cd 4 c) (vs v) (vs w))).1 0 13 = nI ord.length := by rw [up_ne (by decide), u1]
      rw [hm, ← nI_succ, nI_clamp (by omega)]
      have hU3 : USr (up M 217 v (layF (cd 0 c) (cd 4 c) (vs v) (vs w))) 13 218 ord := hU2.of (S := fun p _ => p = 217) (OfR.up rfl) (by decide) (fun i => by decide)
      refine ⟨⟨hU3.add (by decide) hl hc24, fun z hz => ?_⟩, ((OfR.up (Or.inr (Or.inl rfl))).trans (OfR.up (Or.inl ⟨rfl, rfl⟩))).trans (OfR.up (Or.inr (Or.inr rfl)))⟩
      rw [up_ne (by decide), up_ne (by decide)]
      have hx : uselay cd vs c = upd vs v (layF (cd 0 c) (cd 4 c) (vs v) (vs w)) := by
        unfold uselay
        rw [hcv, hcw, show pix (nI v) = v from nI_clamp (by omega), show pix (nI w) = w from nI_clamp (by omega)]
      rw [hx]
      by_cases e : z = v
      · subst e
        rw [pk_us, up_row, pk_us]
        refine ⟨rfl, ?_⟩
        rw [← layF_w ha (hvs w hw).2]
        exact within_b _
      · rw [pk_un e, up_row, pk_un e]
        exact hvs z hz
  · refine u_aload_n (pc := 28) C d_M_use_28 rfl ?_
    refine u_getr (pc := 29) (r := 217) C d_M_use_29 fw_M_43 sR_0 rfl rfl ?_
    refine u_iload_n (pc := 32) C d_M_use_32 rfl ?_
    refine u_iald (pc := 33) C d_M_use_33 sR_217 (vp_in_nI hv (by decide)) ?_
    refine u_aload_n (pc := 34) C d_M_use_34 rfl ?_
    refine u_getr (pc := 35) (r := 5) C d_M_use_35 fw_M_22 sR_0 rfl rfl ?_
    refine u_iload_n (pc := 38) C d_M_use_38 rfl ?_
    refine u_iald (pc := 39) C d_M_use_39 sR_5 (vp24 hc24) ?_
    refine u_iadd (pc := 40) C d_M_use_40 ?_
    refine u_goto (pc := 41) (tgt := 111) C d_M_use_41 rfl ?_
    refine u_istore (pc := 111) C d_M_use_111 rfl (fun x111 e111 L9 hL9 => ?_)
    obtain rfl : L9 = [some (.ref 0), some (.int (nI c)), some (.int (nI v)), some (.int (vs w)), some (.int x111)] := hL9.symm
    refine u_aload_n (pc := 113) C d_M_use_113 rfl ?_
    refine u_getr (pc := 114) (r := 217) C d_M_use_114 fw_M_43 sR_0 rfl rfl ?_
    refine u_iload_n (pc := 117) C d_M_use_117 rfl ?_
    refine u_iload (pc := 118) C d_M_use_118 rfl ?_
    refine u_bipush (pc := 120) (v := (-99)) C d_M_use_120 (by decide) ?_
    refine u_bipush (pc := 122) (v := 99) C d_M_use_122 (by decide) ?_
    refine u_callSi (pc := 124) C d_M_use_124 mx_M_held mw_M_186 (c_M_held (by decide)) rfl rfl (Nat.le_of_ble_eq_true rfl) (fun r124 M124 q124 => ?_)
    obtain ⟨e124, q124⟩ := q124
    have q124 := q124.symm
    subst q124
    refine u_iast (pc := 127) C d_M_use_127 sR_217 (vp_in_nI hv (by decide)) ?_
    refine u_aload_n (pc := 128) C d_M_use_128 rfl ?_
    refine u_getr (pc := 129) (r := 218) C d_M_use_129 fw_M_46 sR_0 rfl rfl ?_
    refine u_aload_n (pc := 132) C d_M_use_132 rfl ?_
    refine u_dup (pc := 133) C d_M_use_133 rfl ?_
    refine u_geti (pc := 134) C d_M_use_134 fw_M_171 sR_0 rfl ?_
    refine u_dup_x1 (pc := 137) C d_M_use_137 rfl rfl ?_
    refine u_iconst (pc := 138) (v := 1) C d_M_use_138 (by decide) ?_
    refine u_iadd (pc := 139) C d_M_use_139 ?_
    refine u_put (pc := 140) C d_M_use_140 fw_M_171 sR_0 rfl (Or.inl rfl) ?_
    refine u_iload_n (pc := 143) C d_M_use_143 rfl ?_
    refine u_iast (pc := 144) C d_M_use_144 sR_218 (by rw [up_ne (by decide), u1]; exact vp_in_nI (by omega) (by decide)) ?_
    refine u_vret (pc := 145) C d_M_use_145 (hQ _ _ ⟨rfl, ?_⟩)
    simp only [i1] at *
    simp only [i5, cv4, (hvs v hv).1] at *
    have he : (if cd 0 c = 0 then vs v + cd 4 c else if cd 0 c = 1 then vs v * cd 4 c else if cd 0 c = 2 then cd 4 c else if cd 0 c = 3 then vs w else vs v + vs w) = x111 := by
      rw [e111]
      simp [*]
    rw [← he, layF_w ha (hvs w hw).2] at e124
    subst e124
    have q0 : up M 217 v (layF (cd 0 c) (cd 4 c) (vs v) (vs w)) = up M 217 v (layF (cd 0 c) (cd 4 c) (vs v) (vs w)) := rfl
    have hm : (up M 217 v (layF (cd 0 c) (cd 4 c) (vs v) (vs w))).1 0 13 = nI ord.length := by rw [up_ne (by decide), u1]
    rw [hm, ← nI_succ, nI_clamp (by omega)]
    have hU3 : USr (up M 217 v (layF (cd 0 c) (cd 4 c) (vs v) (vs w))) 13 218 ord := hU2.of (S := fun p _ => p = 217) (OfR.up rfl) (by decide) (fun i => by decide)
    refine ⟨⟨hU3.add (by decide) hl hc24, fun z hz => ?_⟩, ((OfR.up (Or.inr (Or.inl rfl))).trans (OfR.up (Or.inl ⟨rfl, rfl⟩))).trans (OfR.up (Or.inr (Or.inr rfl)))⟩
    rw [up_ne (by decide), up_ne (by decide)]
    have hx : uselay cd vs c = upd vs v (layF (cd 0 c) (cd 4 c) (vs v) (vs w)) := by
      unfold uselay
      rw [hcv, hcw, show pix (nI v) = v from nI_clamp (by omega), show pix (nI w) = w from nI_clamp (by omega)]
    rw [hx]
    by_cases e : z = v
    · subst e
      rw [pk_us, up_row, pk_us]
      refine ⟨rfl, ?_⟩
      rw [← layF_w ha (hvs w hw).2]
      exact within_b _
    · rw [pk_un e, up_row, pk_un e]
      exact hvs z hz
theorem unu_nil {tb : List Nat} : unu tb [] = tb := by
  unfold unu
  simp
theorem layed_step {cd : Nat → Nat → Int32} {T ord : List Nat} {c : Nat} (hnd : T.Nodup) (h : nxt cd (unu T ord) = some c) :
    ordr cd (unu T ord).length (unu T ord) = c :: ordr cd (unu T (ord ++ [c])).length (unu T (ord ++ [c])) ∧ c ∈ unu T ord := by
  have hm : c ∈ unu T ord := by
    unfold nxt at h
    cases hf : (unu T ord).find? (fre cd (unu T ord)) with
    | some d => rw [hf] at h; cases h; exact List.mem_of_find?_eq_some hf
    | none =>
      rw [hf] at h
      cases hh : unu T ord with
      | nil => rw [hh] at h; cases h
      | cons a l => rw [hh] at h; cases h; exact List.mem_cons_self
  refine ⟨?_, hm⟩
  have hl := List.length_erase_of_mem hm
  have hp := List.length_pos_of_mem hm
  rw [← unu_erase hnd] at *
  rw [show (unu T ord).length = ((unu T ord).erase c).length + 1 by omega, ordr, h]
theorem ordr_len {cd : Nat → Nat → Int32} : ∀ (k : Nat) (op : List Nat), (ordr cd k op).length ≤ k := by
  intro k
  induction k with
  | zero => intro op; exact Nat.le_refl _
  | succ k ih =>
    intro op
    rw [ordr]
    split
    · exact Nat.zero_le _
    · rw [List.length_cons]
      have := ih (op.erase ‹_›)
      omega
set_option maxRecDepth 20000 in
theorem lp_layE {κ : KX} {M : Mem} (C : Cx κ lyR y_M_layered.cls b_M_layered 2 none 4) (hQ : ∀ v M', Pv (fun M' => M' = M) v M' → KQ κ v M') : ∀ (x1 : Int32), x1 < 0 → G κ lyR 35 [some (.ref 0), some (.int x1)] [] M := by
  intro x1 hx1
  refine u_iload_n (pc := 35) C d_M_layered_35 rfl ?_
  refine u_if_lt (pc := 36) (tgt := 71) C d_M_layered_36 rfl (fun c36 => ?_) (fun c36 => ?_)
  · refine u_vret (pc := 71) C d_M_layered_71 (hQ _ _ ⟨rfl, ?_⟩)
    rfl
  · exact absurd hx1 c36
set_option maxRecDepth 20000 in
theorem lp_layB {κ : KX} {cd : Nat → Nat → Int32} {n : Nat} {g : Gm} {tb : List Nat} {M : Mem} (hS : RS M cd n g tb)  (C : Cx κ lyR y_M_layered.cls b_M_layered 2 none 4) (hQ : ∀ v M', Pv (fun M' => VLr M' (order cd tb) (vals cd g tb) ∧ OfR layR M M') v M' → KQ κ v M') : ∀ (f : Nat) (ord : List Nat) (vs : Nat → Int32) (M1 : Mem) (x1 : Int32), (unu (tb.filter (isL cd)) ord).length < f → OfR layR M M1 → VLr M1 ord vs → ¬ x1 < 0 → ord ++ ordr cd (unu (tb.filter (isL cd)) ord).length (unu (tb.filter (isL cd)) ord) = order cd tb → (ordr cd (unu (tb.filter (isL cd)) ord).length (unu (tb.filter (isL cd)) ord)).foldl (uselay cd) vs = vals cd g tb → G κ lyR 35 [some (.ref 0), some (.int x1)] [] M1 := by
  intro f
  induction f with
  | zero => intro ord vs M1 x1 h; omega
  | succ f ih =>
    intro ord vs M1 x1 hf ho hV hx1 he1 he2
    have n24 := hS.n24
    have hS1 : RS M1 cd n g tb := hS.lay ho
    have hnd : (tb.filter (isL cd)).Nodup := hS.1.2.1.1.sublist List.filter_sublist
    refine u_iload_n (pc := 35) C d_M_layered_35 rfl ?_
    refine u_if_lt (pc := 36) (tgt := 71) C d_M_layered_36 rfl (fun c36 => ?_) (fun c36 => ?_)
    · exact absurd c36 hx1
    · refine u_aload_n (pc := 39) C d_M_layered_39 rfl ?_
      refine u_iconst (pc := 40) (v := 1) C d_M_layered_40 (by decide) ?_
      refine u_callVi (pc := 41) C d_M_layered_41 mx_M_nextLayer mw_M_189 sR_0 rfl (c_M_nextLayer hS1 hV.1) rfl rfl (Nat.le_of_ble_eq_true rfl) (fun r41 M41 q41 => ?_)
      obtain ⟨e41, q41⟩ := q41
      have q41 := q41.symm
      subst q41
      refine u_istore_n (pc := 44) C d_M_layered_44 rfl (fun x44 e44 L9 hL9 => ?_)
      obtain rfl : L9 = [some (.ref 0), some (.int x44)] := hL9.symm
      refine u_iload_n (pc := 45) C d_M_layered_45 rfl ?_
      refine u_if_ge (pc := 46) (tgt := 57) C d_M_layered_46 rfl (fun c46 => ?_) (fun c46 => ?_)
      · refine u_iload_n (pc := 57) C d_M_layered_57 rfl ?_
        refine u_istore_n (pc := 58) C d_M_layered_58 rfl (fun x58 e58 L9 hL9 => ?_)
        obtain rfl : L9 = [some (.ref 0), some (.int x58)] := hL9.symm
        refine u_iload_n (pc := 59) C d_M_layered_59 rfl ?_
        refine u_if_lt (pc := 60) (tgt := 35) C d_M_layered_60 rfl (fun c60 => ?_) (fun c60 => ?_)
        · rw [e58] at c60
          exact absurd c60 (Int32.not_lt.mpr c46)
        · have hnx : ∃ c, nxt cd (unu (tb.filter (isL cd)) ord) = some c ∧ x58 = nI c := by
            unfold nxt
            rw [e44, e41] at e58 c46
            obtain ⟨c, hc⟩ := oI_some (Int32.not_lt.mpr c46)
            rw [hc] at e58
            refine ⟨c, ?_, e58⟩
            have h0' : List.find? (fre cd (unu (tb.filter (isL cd)) ord)) (unu (tb.filter (isL cd)) ord) = some c := by
              rw [← hc]; congr 1
            rw [h0']; rfl
          obtain ⟨c, hnx, ex⟩ := hnx
          subst ex
          obtain ⟨hst, hm⟩ := layed_step hnd hnx
          have hcm := hS1.opm.mp hm
          have hcn := hcm.1
          obtain ⟨v, hv, hcv⟩ := (hS.1.1.2 c hcn).2.2.1
          obtain ⟨w, hw, hcw⟩ := (hS.1.1.2 c hcn).2.2.2.1
          have hlo : ord.length < 24 := by
            have h9 : (order cd tb).length ≤ 24 := by
              have h1 := ordr_len (cd := cd) (tb.filter (isL cd)).length (tb.filter (isL cd))
              have h2 : (tb.filter (isL cd)).length ≤ tb.length := List.length_filter_le _ _
              have h3 := hS.1.tl.1
              unfold order
              omega
            rw [← he1, hst, List.length_append, List.length_cons] at h9
            omega
          refine u_aload_n (pc := 63) C d_M_layered_63 rfl ?_
          refine u_iload_n (pc := 64) C d_M_layered_64 rfl ?_
          refine u_callVv (pc := 65) C d_M_layered_65 mx_M_use mw_M_192 sR_0 rfl (c_M_use hS1 hV hcn hv hw hcv hcw hlo) rfl rfl (Nat.le_of_ble_eq_true rfl) (fun M65 q65 => ?_)
          obtain ⟨hV2, o2⟩ := q65
          refine u_goto (pc := 68) (tgt := 35) C d_M_layered_68 rfl ?_
          refine ih (ord ++ [c]) (uselay cd vs c) _ _ ?_ (ho.trans o2) hV2 (nI_pos (by omega)) ?_ ?_
          · have h1 := List.length_erase_of_mem hm
            have h2 := List.length_pos_of_mem hm
            rw [unu_erase hnd] at h1
            omega
          · rw [← he1, hst, List.append_assoc]; rfl
          · rw [← he2, hst]; rfl
      · refine u_aload_n (pc := 49) C d_M_layered_49 rfl ?_
        refine u_iconst (pc := 50) (v := 0) C d_M_layered_50 (by decide) ?_
        refine u_callVi (pc := 51) C d_M_layered_51 mx_M_nextLayer mw_M_189 sR_0 rfl (c_M_nextLayer hS1 hV.1) rfl rfl (Nat.le_of_ble_eq_true rfl) (fun r51 M51 q51 => ?_)
        obtain ⟨e51, q51⟩ := q51
        have q51 := q51.symm
        subst q51
        refine u_goto (pc := 54) (tgt := 58) C d_M_layered_54 rfl ?_
        refine u_istore_n (pc := 58) C d_M_layered_58 rfl (fun x58 e58 L9 hL9 => ?_)
        obtain rfl : L9 = [some (.ref 0), some (.int x58)] := hL9.symm
        refine u_iload_n (pc := 59) C d_M_layered_59 rfl ?_
        refine u_if_lt (pc := 60) (tgt := 35) C d_M_layered_60 rfl (fun c60 => ?_) (fun c60 => ?_)
        · have h0 : unu (tb.filter (isL cd)) ord = [] := by
            rw [e58, e51] at c60
            have h1 := oI_none (fun c hc => by have := (hS1.opm.mp (List.mem_of_find?_eq_some hc)).1; omega) c60
            cases hh : unu (tb.filter (isL cd)) ord with
            | nil => rfl
            | cons a l => rw [hh] at h1; simp at h1
          refine lp_layE C (fun v M' q => hQ v M' ?_) _ c60
          obtain ⟨rfl, q⟩ := q
          have q := q.symm
          subst q
          refine ⟨rfl, ?_, ho⟩
          rw [h0] at he1 he2
          rw [← he1, ← he2]
          simpa [ordr] using hV
        · have hnx : ∃ c, nxt cd (unu (tb.filter (isL cd)) ord) = some c ∧ x58 = nI c := by
            unfold nxt
            rw [e58, e51]
            rw [e58, e51] at c60
            obtain ⟨c, hc⟩ := oI_some c60
            rw [e44, e41] at c46
            have h0 := oI_none (fun c hc => by have := (hS1.opm.mp (List.mem_of_find?_eq_some hc)).1; omega) (Int32.not_le.mp c46)
            rw [hc]
            refine ⟨c, ?_, rfl⟩
            have h0' : List.find? (fre cd (unu (tb.filter (isL cd)) ord)) (unu (tb.filter (isL cd)) ord) = none := by
              rw [← h0]; congr 1
            rw [h0']
            have hc' : (unu (tb.filter (isL cd)) ord).head? = some c := by
              rw [← hc]
              cases unu (tb.filter (isL cd)) ord with
              | nil => rfl
              | cons a l => simp
            rw [hc']; rfl
          obtain ⟨c, hnx, ex⟩ := hnx
          subst ex
          obtain ⟨hst, hm⟩ := layed_step hnd hnx
          have hcm := hS1.opm.mp hm
          have hcn := hcm.1
          obtain ⟨v, hv, hcv⟩ := (hS.1.1.2 c hcn).2.2.1
          obtain ⟨w, hw, hcw⟩ := (hS.1.1.2 c hcn).2.2.2.1
          have hlo : ord.length < 24 := by
            have h9 : (order cd tb).length ≤ 24 := by
              have h1 := ordr_len (cd := cd) (tb.filter (isL cd)).length (tb.filter (isL cd))
              have h2 : (tb.filter (isL cd)).length ≤ tb.length := List.length_filter_le _ _
              have h3 := hS.1.tl.1
              unfold order
              omega
            rw [← he1, hst, List.length_append, List.length_cons] at h9
            omega
          refine u_aload_n (pc := 63) C d_M_layered_63 rfl ?_
          refine u_iload_n (pc := 64) C d_M_layered_64 rfl ?_
          refine u_callVv (pc := 65) C d_M_layered_65 mx_M_use mw_M_192 sR_0 rfl (c_M_use hS1 hV hcn hv hw hcv hcw hlo) rfl rfl (Nat.le_of_ble_eq_true rfl) (fun M65 q65 => ?_)
          obtain ⟨hV2, o2⟩ := q65
          refine u_goto (pc := 68) (tgt := 35) C d_M_layered_68 rfl ?_
          refine ih (ord ++ [c]) (uselay cd vs c) _ _ ?_ (ho.trans o2) hV2 (nI_pos (by omega)) ?_ ?_
          · have h1 := List.length_erase_of_mem hm
            have h2 := List.length_pos_of_mem hm
            rw [unu_erase hnd] at h1
            omega
          · rw [← he1, hst, List.append_assoc]; rfl
          · rw [← he2, hst]; rfl
set_option maxRecDepth 20000 in
theorem lp_layA {κ : KX} {cd : Nat → Nat → Int32} {n : Nat} {g : Gm} {tb : List Nat} {M : Mem} (hS : RS M cd n g tb)  (C : Cx κ lyR y_M_layered.cls b_M_layered 2 none 4) (hQ : ∀ v M', Pv (fun M' => VLr M' (order cd tb) (vals cd g tb) ∧ OfR layR M M') v M' → KQ κ v M') : ∀ (f i : Nat) (M1 : Mem), i ≤ 4 → 4 - i < f → OfR layR M M1 → M1.1 0 13 = 0 → (∀ v, v < i → M1.1 217 v = g 5 v) → G κ lyR 7 [some (.ref 0), some (.int (nI i))] [] M1 := by
  intro f
  induction f with
  | zero => intro i M1 h; omega
  | succ f ih =>
    intro i M1 hi hf ho hU hv
    have hS1 : RS M1 cd n g tb := hS.lay ho
    have hin : (4 : Int32) ≤ nI i ↔ 4 ≤ i := nI_leI (a := 4) (by omega) (by omega)
    refine u_iload_n (pc := 7) C d_M_layered_7 rfl ?_
    refine u_iconst (pc := 8) (v := 4) C d_M_layered_8 (by decide) ?_
    refine u_icmp_ge (pc := 9) (tgt := 33) C d_M_layered_9 rfl (fun c9 => ?_) (fun c9 => ?_)
    · refine u_iconst (pc := 33) (v := 0) C d_M_layered_33 (by decide) ?_
      refine u_istore_n (pc := 34) C d_M_layered_34 rfl (fun x34 e34 L9 hL9 => ?_)
      obtain rfl : L9 = [some (.ref 0), some (.int x34)] := hL9.symm
      have hge : i = 4 := by rw [hin] at c9; omega
      subst hge
      subst e34
      refine lp_layB hS C hQ _ [] (fun v => g 5 v) M1 0 (Nat.lt_succ_self _) ho ⟨⟨hU, fun i hi => absurd hi (Nat.not_lt_zero i), Nat.zero_le _, fun d hd => absurd hd List.not_mem_nil⟩, fun v hv2 => ⟨hv v hv2, ?_⟩⟩ (by decide) ?_ ?_
      · exact hS.1.2.2.2.2.2.2 v hv2
      · rw [unu_nil]; rfl
      · rw [unu_nil]; rfl
    · refine u_aload_n (pc := 12) C d_M_layered_12 rfl ?_
      refine u_getr (pc := 13) (r := 217) C d_M_layered_13 fw_M_43 sR_0 rfl rfl ?_
      refine u_iload_n (pc := 16) C d_M_layered_16 rfl ?_
      refine u_aload_n (pc := 17) C d_M_layered_17 rfl ?_
      refine u_getr (pc := 18) (r := 6) C d_M_layered_18 fw_M_25 sR_0 rfl rfl ?_
      refine u_bipush (pc := 21) (v := 119) C d_M_layered_21 (by decide) ?_
      refine u_iload_n (pc := 23) C d_M_layered_23 rfl ?_
      refine u_iadd (pc := 24) C d_M_layered_24 ?_
      refine u_iald (pc := 25) C d_M_layered_25 sR_6 (vp119 (by rw [hin] at c9; omega)) ?_
      refine u_iast (pc := 26) C d_M_layered_26 sR_217 (vp_in_nI (by rw [hin] at c9; omega) (by decide)) ?_
      refine u_iinc (pc := 27) (v2 := 1) C d_M_layered_27 rfl rfl (by decide) (fun x27 e27 L9 hL9 => ?_)
      obtain rfl : L9 = [some (.ref 0), some (.int x27)] := hL9.symm
      refine u_goto (pc := 30) (tgt := 7) C d_M_layered_30 rfl ?_
      obtain rfl : x27 = nI (i + 1) := by rw [e27, nI_succ]
      have hlt : i < 4 := by rw [hin] at c9; omega
      refine ih (i + 1) _ (by omega) (by omega) (ho.trans (OfR.up (Or.inr (Or.inl rfl)))) (by rw [up_ne (by decide)]; exact hU) (fun v hv2 => ?_)
      rw [nI_clamp (by omega), ix119 hlt, hS1.ba hlt, up_row]
      by_cases e : v = i
      · subst e; rw [pk_us]
      · rw [pk_un e]; exact hv v (by omega)
set_option maxRecDepth 20000 in
theorem c_M_layered {cd : Nat → Nat → Int32} {n : Nat} {g : Gm} {tb : List Nat} {M : Mem} (hS : RS M cd n g tb)  : Ct lyR y_M_layered b_M_layered 2 none 4 [.ref 0] M (Pv fun M' => VLr M' (order cd tb) (vals cd g tb) ∧ OfR layR M M') := by
  refine Ct.ofG mx_M_layered [some (.ref 0), none] rfl rfl (Nat.le_of_ble_eq_true rfl) (fun κ C hQ => ?_)
  refine u_aload_n (pc := 0) C d_M_layered_0 rfl ?_
  refine u_iconst (pc := 1) (v := 0) C d_M_layered_1 (by decide) ?_
  refine u_put (pc := 2) C d_M_layered_2 fw_M_171 sR_0 rfl (Or.inl rfl) ?_
  refine u_iconst (pc := 5) (v := 0) C d_M_layered_5 (by decide) ?_
  refine u_istore_n (pc := 6) C d_M_layered_6 rfl (fun x6 e6 L9 hL9 => ?_)
  obtain rfl : L9 = [some (.ref 0), some (.int x6)] := hL9.symm
  subst e6
  refine lp_layA hS C hQ 5 0 _ (by omega) (by omega) (OfR.up (Or.inl ⟨rfl, rfl⟩)) ?_ (fun v hv => absurd hv (Nat.not_lt_zero v))
  rw [up_row, pk_us]
set_option maxRecDepth 20000 in
theorem c_M_valueNow {cd : Nat → Nat → Int32} {n : Nat} {g : Gm} {tb : List Nat} {M : Mem} (hS : RS M cd n g tb) {v : Nat} (hv : v < 4) : Ct lyR y_M_valueNow b_M_valueNow 2 (some .int) 5 [.ref 0, .int (nI v)] M (Pi fun r M' => r = vals cd g tb v ∧ VLr M' (order cd tb) (vals cd g tb) ∧ OfR layR M M') := by
  refine Ct.ofG mx_M_valueNow [some (.ref 0), some (.int (nI v))] rfl rfl (Nat.le_of_ble_eq_true rfl) (fun κ C hQ => ?_)
  refine u_aload_n (pc := 0) C d_M_valueNow_0 rfl ?_
  refine u_callVv (pc := 1) C d_M_valueNow_1 mx_M_layered mw_M_196 sR_0 rfl (c_M_layered hS) rfl rfl (Nat.le_of_ble_eq_true rfl) (fun M1 q1 => ?_)
  refine u_aload_n (pc := 4) C d_M_valueNow_4 rfl ?_
  refine u_getr (pc := 5) (r := 217) C d_M_valueNow_5 fw_M_43 sR_0 rfl rfl ?_
  refine u_iload_n (pc := 8) C d_M_valueNow_8 rfl ?_
  refine u_iald (pc := 9) C d_M_valueNow_9 sR_217 (vp_in_nI hv (by decide)) ?_
  refine u_iret (pc := 10) C d_M_valueNow_10 (hQ _ _ ⟨_, rfl, ?_⟩)
  obtain ⟨hV, ho⟩ := q1
  exact ⟨by rw [nI_clamp (by omega), (hV.2 v hv).1], hV, ho⟩
