/-! the past of a run: keeping, looking back -/
theorem pk4_or {a b : Nat} (ha : a < 65536 ^ 3) (hb : b < 65536) : lN a <<< ((16 : Int32).toInt64 &&& 63) ||| lN b = lN (a * 65536 + b) := by
  have h1 : 65536 ^ 3 = 281474976710656 := by decide
  have e1 : lN a <<< ((16 : Int32).toInt64 &&& 63) = lN (a * 2 ^ 16) := wb_shl a (k := 16) (by decide)
  rw [e1, wb_or (by omega) (by omega)]
  congr 1
  have := Nat.shiftLeft_add_eq_or_of_lt (i := 16) (show b < 2 ^ 16 by omega) a
  rw [Nat.shiftLeft_eq] at this
  omega
/-- while the pile is kept: i things are kept -/
def KI (g : Gm) (t i : Nat) (M M1 : Mem) : Prop := M1.1 = M.1 ∧ (∀ p, p ≠ 74 → M1.2 p = M.2 p) ∧ (∀ j, j < 16 * t ∨ 16 * t + 16 ≤ j → M1.2 74 j = M.2 74 j) ∧ (∀ q, q < i / 4 → M1.2 74 (16 * t + q) = lN (pk4 (thn g) q 4)) ∧ (i % 4 ≠ 0 → M1.2 74 (16 * t + i / 4) = lN (pk4 (thn g) (i / 4) (i % 4)))
theorem KI.step {g : Gm} {t i : Nat} {M M1 : Mem} (h : KI g t i M M1) (hi : i < 64) : KI g t (i + 1) M (upl M1 74 (16 * t + i / 4) (lN (pk4 (thn g) (i / 4) (i % 4) * 65536 + thn g i))) := by
  obtain ⟨h1, h2, h3, h4, h5⟩ := h
  have ev : pk4 (thn g) (i / 4) (i % 4) * 65536 + thn g i = pk4 (thn g) (i / 4) (i % 4 + 1) := by
    rw [pk4, show 4 * (i / 4) + i % 4 = i by omega]
  rw [ev]
  refine ⟨h1, fun p hp => by rw [upl_ne hp]; exact h2 p hp, fun j hj => ?_, fun q hq => ?_, fun hm => ?_⟩
  · rw [show (upl M1 74 (16 * t + i / 4) (lN (pk4 (thn g) (i / 4) (i % 4 + 1)))).2 74 j = M1.2 74 j from if_neg (fun q => by have := q.2; omega)]
    exact h3 j hj
  · by_cases e : q = i / 4
    · subst e
      rw [show (upl M1 74 (16 * t + i / 4) (lN (pk4 (thn g) (i / 4) (i % 4 + 1)))).2 74 (16 * t + i / 4) = _ from if_pos ⟨rfl, rfl⟩, show i % 4 + 1 = 4 by omega]
    · rw [show (upl M1 74 (16 * t + i / 4) (lN (pk4 (thn g) (i / 4) (i % 4 + 1)))).2 74 (16 * t + q) = M1.2 74 (16 * t + q) from if_neg (fun z => by have := z.2; omega)]
      exact h4 q (by omega)
  · rw [show (i + 1) / 4 = i / 4 by omega, show (i + 1) % 4 = i % 4 + 1 by omega]
    exact if_pos ⟨rfl, rfl⟩
def kp4 (M : Mem) (t : Nat) (g : Gm) (m : Nat) : Mem := up (up (up (up M 70 t (nI m)) 71 t (g 0 0)) 72 t (g 0 1)) 73 t (g 1 4)
theorem kp4_off {M : Mem} {t m : Nat} {g : Gm} : Off pstS M (kp4 M t g m) := (((Off.up ⟨by decide, by decide⟩).trans (Off.up ⟨by decide, by decide⟩)).trans (Off.up ⟨by decide, by decide⟩)).trans (Off.up ⟨by decide, by decide⟩)
set_option maxRecDepth 20000 in
theorem lp_kp {κ : KX} {k n m t h : Nat} {g : Gm} {tb : List Nat} {cd : Nat → Nat → Int32} {M : Mem} (hk : k < 6) (hW : WFg cd n g tb) (hR : RepG M k n g tb m) (ht : t ≤ 200) (hh : g 1 4 = nI h) (h64 : h ≤ 64) (C : Cx κ lyC y_P_keep.cls b_P_keep 7 none 1) (hQ : ∀ v M', Pv (fun M' => PAt M' t g m ∧ Off pstS M M' ∧ ∀ e g' m', e ≠ t → (g' 1 4).toNatClampNeg ≤ 64 → PAt M e g' m' → PAt M' e g' m') v M' → KQ κ v M') : ∀ (f i : Nat) (M1 : Mem), i ≤ h → h - i < f → KI g t i (kp4 M t g m) M1 → G κ lyC 58 [some (.ref 69), some (.int (nI t)), some (.ref (gp k)), some (.int (nI i)), none, none, none] [] M1 := by
  have hR4 : RepG (kp4 M t g m) k n g tb m := hR.off kp4_off (fun p q => pst_g hk q)
  have hT : (g 1 4).toNatClampNeg = h := by rw [hh, nI_clamp (by omega)]
  intro f
  induction f with
  | zero => intro i _ _ h; omega
  | succ f ih =>
    intro i M1 hi hf hK
    have hR1 : RepG M1 k n g tb m := hR4.of_eq (fun p _ _ => by rw [hK.1])
    have r10 := hR1.2.2.2.2.2.2.2.2.1
    have hin : nI h ≤ nI i ↔ h ≤ i := nI_leI (by omega) (by omega)
    refine u_iload_n (pc := 58) C d_P_keep_58 rfl ?_
    refine u_aload_n (pc := 59) C d_P_keep_59 rfl ?_
    refine u_geti (pc := 60) C d_P_keep_60 fw_P_44 (shG0 hk) rfl ?_
    refine u_icmp_ge (pc := 63) (tgt := 138) C d_P_keep_63 rfl (fun c63 => ?_) (fun c63 => ?_)
    · refine u_vret (pc := 138) C d_P_keep_138 (hQ _ _ ⟨rfl, ?_⟩)
      have hi2 : i = h := by rw [r10, hh, hin] at c63; omega
      subst hi2
      obtain ⟨k1, k2, k3, k4, k5⟩ := hK
      refine ⟨⟨?_, ?_, ?_, ?_, fun q hq => ?_⟩, ?_, fun e g' m' he hg' hp => ?_⟩
      · rw [k1]; simp [kp4, up]
      · rw [k1]; simp [kp4, up]
      · rw [k1]; simp [kp4, up]
      · rw [k1]; simp [kp4, up]
      · rw [hT] at hq
        unfold pln
        rw [hT]
        by_cases z : q < i / 4
        · rw [k4 q z, show min 4 (i - 4 * q) = 4 by omega]
        · have z2 : q = i / 4 := by omega
          subst z2
          rw [k5 (by omega), show min 4 (i - 4 * (i / 4)) = i % 4 by omega]
      · intro p hp
        have hp74 : p ≠ 74 := fun z => hp ⟨by omega, by omega⟩
        exact ⟨by rw [k1]; exact (kp4_off p hp).1, by rw [k2 p hp74]; exact (kp4_off p hp).2⟩
      · obtain ⟨p1, p2, p3, p4, p5⟩ := hp
        refine ⟨?_, ?_, ?_, ?_, fun q hq => ?_⟩
        · rw [k1]; simpa [kp4, up, he] using p1
        · rw [k1]; simpa [kp4, up, he] using p2
        · rw [k1]; simpa [kp4, up, he] using p3
        · rw [k1]; simpa [kp4, up, he] using p4
        · rw [k3 _ (by omega)]
          exact p5 q hq
    · refine u_iload_n (pc := 66) C d_P_keep_66 rfl ?_
      refine u_bipush (pc := 67) (v := 16) C d_P_keep_67 (by decide) ?_
      refine u_imul (pc := 69) C d_P_keep_69 ?_
      refine u_iload_n (pc := 70) C d_P_keep_70 rfl ?_
      refine u_iconst (pc := 71) (v := 4) C d_P_keep_71 (by decide) ?_
      refine u_idiv (pc := 72) C d_P_keep_72 (by decide) ?_
      refine u_iadd (pc := 73) C d_P_keep_73 ?_
      refine u_istore (pc := 74) C d_P_keep_74 rfl (fun x74 e74 L9 hL9 => ?_)
      obtain rfl : L9 = [some (.ref 69), some (.int (nI t)), some (.ref (gp k)), some (.int (nI i)), some (.int x74), none, none] := hL9.symm
      have hlt : i < h := by rw [r10, hh, hin] at c63; omega
      rw [show (16 : Int32) = nI 16 from rfl, show (4 : Int32) = nI 4 from rfl, pk_mul, pk_div (by omega) (by decide) (by decide), nI_add, Nat.mul_comm] at e74
      subst e74
      have e4 : nI i - nI i / 4 * 4 = nI (i % 4) := pk_rem (a := i) (d := 4) (by omega) (by decide) (by decide)
      have hvi : vp_in (nI (16 * t + i / 4)) 3216 := vp_in_nI (by omega) (by decide)
      refine u_iload (pc := 76) C d_P_keep_76 rfl ?_
      refine u_if_lt (pc := 78) (tgt := 132) C d_P_keep_78 rfl (fun c78 => ?_) (fun c78 => ?_)
      · exact absurd c78 (nI_pos (by omega))
      · refine u_iload (pc := 81) C d_P_keep_81 rfl ?_
        refine u_aload_n (pc := 83) C d_P_keep_83 rfl ?_
        refine u_getr (pc := 84) (r := 74) C d_P_keep_84 fw_P_24 sC_69 rfl rfl ?_
        refine u_alen (pc := 87) C d_P_keep_87 sC_74 rfl rfl ?_
        refine u_icmp_ge (pc := 88) (tgt := 132) C d_P_keep_88 rfl (fun c88 => ?_) (fun c88 => ?_)
        · exact absurd c88 (nI_ge (a := 16 * t + i / 4) (b := 3216) (by omega) (by omega))
        · refine u_iload_n (pc := 91) C d_P_keep_91 rfl ?_
          refine u_iconst (pc := 92) (v := 4) C d_P_keep_92 (by decide) ?_
          refine u_irem (pc := 93) C d_P_keep_93 (by decide) ?_
          refine u_if_ne (pc := 94) (tgt := 101) C d_P_keep_94 rfl (fun c94 => ?_) (fun c94 => ?_)
          · refine u_aload_n (pc := 101) C d_P_keep_101 rfl ?_
            refine u_getr (pc := 102) (r := 74) C d_P_keep_102 fw_P_24 sC_69 rfl rfl ?_
            refine u_iload (pc := 105) C d_P_keep_105 rfl ?_
            refine u_lald (pc := 107) C d_P_keep_107 sC_74 hvi ?_
            refine u_lstore (pc := 108) C d_P_keep_108 rfl (fun x108 e108 L9 hL9 => ?_)
            obtain rfl : L9 = [some (.ref 69), some (.int (nI t)), some (.ref (gp k)), some (.int (nI i)), some (.int (nI (16 * t + i / 4))), some (.long x108), none] := hL9.symm
            refine u_aload_n (pc := 110) C d_P_keep_110 rfl ?_
            refine u_getr (pc := 111) (r := 74) C d_P_keep_111 fw_P_24 sC_69 rfl rfl ?_
            refine u_iload (pc := 114) C d_P_keep_114 rfl ?_
            refine u_lload (pc := 116) C d_P_keep_116 rfl ?_
            refine u_bipush (pc := 118) (v := 16) C d_P_keep_118 (by decide) ?_
            refine u_lshl (pc := 120) C d_P_keep_120 ?_
            refine u_aload_n (pc := 121) C d_P_keep_121 rfl ?_
            refine u_getr (pc := 122) (r := (gp k + 6)) C d_P_keep_122 fw_P_47 (shG0 hk) rfl (rf_G_6 hk) ?_
            refine u_iload_n (pc := 125) C d_P_keep_125 rfl ?_
            refine u_callSi (pc := 126) C d_P_keep_126 mx_L_at mw_P_40 (c_L_at (shG6 hk)) rfl rfl (Nat.le_of_ble_eq_true rfl) (fun r126 M126 q126 => ?_)
            obtain ⟨e126, q126⟩ := q126
            have q126 := q126.symm
            subst q126
            refine u_i2l (pc := 129) C d_P_keep_129 ?_
            refine u_lor (pc := 130) C d_P_keep_130 ?_
            have e9 : r126 = nI (thn g i) := by rw [e126, atF_in (by omega) (by decide), hR1.2.2.2.2.2.1 i (by rw [hT]; exact hlt)]; exact (thg_eq hW (by rw [hT]; exact hlt)).1
            have hlt9 : pk4 (thn g) (i / 4) (i % 4) < 65536 ^ 3 := Nat.lt_of_lt_of_le (pk4_lt thn_lt _) (Nat.pow_le_pow_right (by decide) (by omega))
            have e10 : x108 = lN (pk4 (thn g) (i / 4) (i % 4)) := by
              rw [e108]
              rw [e4] at c94
              first
                | (rw [nI_clamp (by omega)]
                   exact hK.2.2.2.2 (fun z => c94 (by rw [z]; rfl)))
                | (rw [show i % 4 = 0 from (nI_eq (a := i % 4) (b := 0) (by omega) (by omega)).mp c94]
                   rfl)
            rw [e10, e9, nI_l (by have := thn_lt (g := g) i; omega), pk4_or hlt9 (thn_lt i)]
            refine u_last (pc := 131) C d_P_keep_131 sC_74 hvi ?_
            try rw [nI_clamp (by omega)]
            refine u_iinc (pc := 132) (v2 := 1) C d_P_keep_132 rfl rfl (by decide) (fun x132 e132 L9 hL9 => ?_)
            obtain rfl : L9 = [some (.ref 69), some (.int (nI t)), some (.ref (gp k)), some (.int x132), some (.int (nI (16 * t + i / 4))), some (.long (lN (pk4 (thn g) (i / 4) (i % 4)))), none] := hL9.symm
            refine u_goto (pc := 135) (tgt := 58) C d_P_keep_135 rfl ?_
            obtain rfl : x132 = nI (i + 1) := by rw [e132, nI_succ]
            refine u_drop 4 rfl ?_
            refine u_drop 5 rfl ?_
            exact ih (i + 1) _ (by omega) (by omega) (hK.step (by omega))
          · refine u_lconst (pc := 97) C d_P_keep_97 rfl ?_
            refine u_goto (pc := 98) (tgt := 108) C d_P_keep_98 rfl ?_
            refine u_lstore (pc := 108) C d_P_keep_108 rfl (fun x108 e108 L9 hL9 => ?_)
            obtain rfl : L9 = [some (.ref 69), some (.int (nI t)), some (.ref (gp k)), some (.int (nI i)), some (.int (nI (16 * t + i / 4))), some (.long x108), none] := hL9.symm
            refine u_aload_n (pc := 110) C d_P_keep_110 rfl ?_
            refine u_getr (pc := 111) (r := 74) C d_P_keep_111 fw_P_24 sC_69 rfl rfl ?_
            refine u_iload (pc := 114) C d_P_keep_114 rfl ?_
            refine u_lload (pc := 116) C d_P_keep_116 rfl ?_
            refine u_bipush (pc := 118) (v := 16) C d_P_keep_118 (by decide) ?_
            refine u_lshl (pc := 120) C d_P_keep_120 ?_
            refine u_aload_n (pc := 121) C d_P_keep_121 rfl ?_
            refine u_getr (pc := 122) (r := (gp k + 6)) C d_P_keep_122 fw_P_47 (shG0 hk) rfl (rf_G_6 hk) ?_
            refine u_iload_n (pc := 125) C d_P_keep_125 rfl ?_
            refine u_callSi (pc := 126) C d_P_keep_126 mx_L_at mw_P_40 (c_L_at (shG6 hk)) rfl rfl (Nat.le_of_ble_eq_true rfl) (fun r126 M126 q126 => ?_)
            obtain ⟨e126, q126⟩ := q126
            have q126 := q126.symm
            subst q126
            refine u_i2l (pc := 129) C d_P_keep_129 ?_
            refine u_lor (pc := 130) C d_P_keep_130 ?_
            have e9 : r126 = nI (thn g i) := by rw [e126, atF_in (by omega) (by decide), hR1.2.2.2.2.2.1 i (by rw [hT]; exact hlt)]; exact (thg_eq hW (by rw [hT]; exact hlt)).1
            have hlt9 : pk4 (thn g) (i / 4) (i % 4) < 65536 ^ 3 := Nat.lt_of_lt_of_le (pk4_lt thn_lt _) (Nat.pow_le_pow_right (by decide) (by omega))
            have e10 : x108 = lN (pk4 (thn g) (i / 4) (i % 4)) := by
              rw [e108]
              rw [e4] at c94
              first
                | (rw [nI_clamp (by omega)]
                   exact hK.2.2.2.2 (fun z => c94 (by rw [z]; rfl)))
                | (rw [show i % 4 = 0 from (nI_eq (a := i % 4) (b := 0) (by omega) (by omega)).mp c94]
                   rfl)
            rw [e10, e9, nI_l (by have := thn_lt (g := g) i; omega), pk4_or hlt9 (thn_lt i)]
            refine u_last (pc := 131) C d_P_keep_131 sC_74 hvi ?_
            try rw [nI_clamp (by omega)]
            refine u_iinc (pc := 132) (v2 := 1) C d_P_keep_132 rfl rfl (by decide) (fun x132 e132 L9 hL9 => ?_)
            obtain rfl : L9 = [some (.ref 69), some (.int (nI t)), some (.ref (gp k)), some (.int x132), some (.int (nI (16 * t + i / 4))), some (.long (lN (pk4 (thn g) (i / 4) (i % 4)))), none] := hL9.symm
            refine u_goto (pc := 135) (tgt := 58) C d_P_keep_135 rfl ?_
            obtain rfl : x132 = nI (i + 1) := by rw [e132, nI_succ]
            refine u_drop 4 rfl ?_
            refine u_drop 5 rfl ?_
            exact ih (i + 1) _ (by omega) (by omega) (hK.step (by omega))
set_option maxRecDepth 20000 in
theorem c_P_keep {k n m t h : Nat} {g : Gm} {tb : List Nat} {cd : Nat → Nat → Int32} {M : Mem} (hk : k < 6) (hW : WFg cd n g tb) (hR : RepG M k n g tb m) (ht : t ≤ 200) (hh : g 1 4 = nI h) (h64 : h ≤ 64) : Ct lyC y_P_keep b_P_keep 7 none 1 [.ref 69, .int (nI t), .ref (gp k)] M (Pv fun M' => PAt M' t g m ∧ Off pstS M M' ∧ ∀ e g' m', e ≠ t → (g' 1 4).toNatClampNeg ≤ 64 → PAt M e g' m' → PAt M' e g' m') := by
  refine Ct.ofG mx_P_keep [some (.ref 69), some (.int (nI t)), some (.ref (gp k)), none, none, none, none] rfl rfl (Nat.le_of_ble_eq_true rfl) (fun κ C hQ => ?_)
  refine u_aload_n (pc := 0) C d_P_keep_0 rfl ?_
  refine u_getr (pc := 1) (r := 70) C d_P_keep_1 fw_P_9 sC_69 rfl rfl ?_
  refine u_iload_n (pc := 4) C d_P_keep_4 rfl ?_
  refine u_aload_n (pc := 5) C d_P_keep_5 rfl ?_
  refine u_geti (pc := 6) C d_P_keep_6 fw_P_28 (shG0 hk) rfl ?_
  refine u_callSv (pc := 9) C d_P_keep_9 mx_L_put mw_P_33 (c_L_put sC_70) rfl rfl (Nat.le_of_ble_eq_true rfl) (fun M9 q9 => ?_)
  have q9 := q9.symm
  subst q9
  refine u_aload_n (pc := 12) C d_P_keep_12 rfl ?_
  refine u_getr (pc := 13) (r := 71) C d_P_keep_13 fw_P_15 sC_69 rfl rfl ?_
  refine u_iload_n (pc := 16) C d_P_keep_16 rfl ?_
  refine u_aload_n (pc := 17) C d_P_keep_17 rfl ?_
  refine u_getr (pc := 18) (r := (gp k + 1)) C d_P_keep_18 fw_P_37 (shG0 hk) rfl (rf_G_1 hk) ?_
  refine u_iconst (pc := 21) (v := 0) C d_P_keep_21 (by decide) ?_
  refine u_callSi (pc := 22) C d_P_keep_22 mx_L_at mw_P_40 (c_L_at (shG1 hk)) rfl rfl (Nat.le_of_ble_eq_true rfl) (fun r22 M22 q22 => ?_)
  obtain ⟨e22, q22⟩ := q22
  have q22 := q22.symm
  subst q22
  refine u_callSv (pc := 25) C d_P_keep_25 mx_L_put mw_P_33 (c_L_put sC_71) rfl rfl (Nat.le_of_ble_eq_true rfl) (fun M25 q25 => ?_)
  have q25 := q25.symm
  subst q25
  refine u_aload_n (pc := 28) C d_P_keep_28 rfl ?_
  refine u_getr (pc := 29) (r := 72) C d_P_keep_29 fw_P_18 sC_69 rfl rfl ?_
  refine u_iload_n (pc := 32) C d_P_keep_32 rfl ?_
  refine u_aload_n (pc := 33) C d_P_keep_33 rfl ?_
  refine u_getr (pc := 34) (r := (gp k + 1)) C d_P_keep_34 fw_P_37 (shG0 hk) rfl (rf_G_1 hk) ?_
  refine u_iconst (pc := 37) (v := 1) C d_P_keep_37 (by decide) ?_
  refine u_callSi (pc := 38) C d_P_keep_38 mx_L_at mw_P_40 (c_L_at (shG1 hk)) rfl rfl (Nat.le_of_ble_eq_true rfl) (fun r38 M38 q38 => ?_)
  obtain ⟨e38, q38⟩ := q38
  have q38 := q38.symm
  subst q38
  refine u_callSv (pc := 41) C d_P_keep_41 mx_L_put mw_P_33 (c_L_put sC_72) rfl rfl (Nat.le_of_ble_eq_true rfl) (fun M41 q41 => ?_)
  have q41 := q41.symm
  subst q41
  refine u_aload_n (pc := 44) C d_P_keep_44 rfl ?_
  refine u_getr (pc := 45) (r := 73) C d_P_keep_45 fw_P_21 sC_69 rfl rfl ?_
  refine u_iload_n (pc := 48) C d_P_keep_48 rfl ?_
  refine u_aload_n (pc := 49) C d_P_keep_49 rfl ?_
  refine u_geti (pc := 50) C d_P_keep_50 fw_P_44 (shG0 hk) rfl ?_
  refine u_callSv (pc := 53) C d_P_keep_53 mx_L_put mw_P_33 (c_L_put sC_73) rfl rfl (Nat.le_of_ble_eq_true rfl) (fun M53 q53 => ?_)
  have q53 := q53.symm
  subst q53
  refine u_iconst (pc := 56) (v := 0) C d_P_keep_56 (by decide) ?_
  refine u_istore_n (pc := 57) C d_P_keep_57 rfl (fun x57 e57 L9 hL9 => ?_)
  obtain rfl : L9 = [some (.ref 69), some (.int (nI t)), some (.ref (gp k)), some (.int x57), none, none, none] := hL9.symm
  obtain rfl : x57 = nI 0 := e57
  have r15 := hR.2.2.2.2.2.2.2.2.2.2.2.2.2
  refine u_mem (M2 := kp4 M t g m) ?_ (lp_kp hk hW hR ht hh h64 C hQ (h + 1) 0 _ (by omega) (by omega) ⟨rfl, fun _ _ => rfl, fun _ _ => rfl, fun q hq => by omega, fun z => absurd rfl z⟩)
  have hg : ∀ j, j < 7 → gp k + j ≠ 70 ∧ gp k + j ≠ 71 ∧ gp k + j ≠ 72 ∧ gp k + j ≠ 73 := fun j hj => by unfold gp; omega
  have g0 := hg 0 (by decide)
  have g1 := hg 1 (by decide)
  have w0 : r22 = g 0 0 := by
    rw [e22, r15, putF_in (by omega) (by decide), up_ne g1.1]
    exact hR.life (Or.inl rfl)
  rw [w0] at e38 ⊢
  rw [r15, putF_in (by omega) (by decide), putF_in (by omega) (by decide)] at e38 ⊢
  have w1 : r38 = g 0 1 := by
    rw [e38, up_ne g1.2.1, up_ne g1.1]
    exact hR.life (Or.inr rfl)
  rw [w1, putF_in (by omega) (by decide)]
  rw [show gp k + 0 = gp k from rfl] at g0
  rw [up_ne g0.2.2.1, up_ne g0.2.1, putF_in (by omega) (by decide), up_ne g0.1, hR.2.2.2.2.2.2.2.2.1]
  rfl
theorem psum_le {g : Gm} : ∀ n, (∀ c, c < n → ∃ p, p ≤ 4 ∧ g 3 c = nI p) → psum g n ≤ 4 * n := by
  intro n
  induction n with
  | zero => intro _; exact Nat.le_refl _
  | succ n ih =>
    intro h
    obtain ⟨p, hp, e⟩ := h n (by omega)
    have := ih (fun c hc => h c (by omega))
    rw [psum, e, nI_clamp (by omega)]
    omega
theorem WFg.ps {cd : Nat → Nat → Int32} {n : Nat} {g : Gm} {tb : List Nat} (h : WFg cd n g tb) : psum g n ≤ 96 := by
  have h1 := psum_le n h.2.2.1
  have h2 := h.1.1
  omega
theorem mvd.le {n m m' : Nat} {g g' : Gm} (h : mvd n g m g' m') (hm : m ≤ psum g n) : m' ≤ psum g' n := by
  rcases h with ⟨rfl, h2, -, -⟩ | ⟨-, h2⟩
  · rw [psum_eq h2]; exact hm
  · omega
theorem mvd.mono {n m m' : Nat} {g g' : Gm} (h : mvd n g m g' m') : m ≤ m' := by
  rcases h with ⟨rfl, -⟩ | ⟨h, -⟩ <;> omega
/-- if the counts of moves differ, something differs; if not, lives and piles decide -/
theorem mvd_ne {n m m' : Nat} {g g' : Gm} (h : mvd n g m g' m') (hm : m ≠ m') : ¬ same n g g' := by
  rintro ⟨-, -, -, -, -, h3, -⟩
  rcases h with ⟨e, -⟩ | ⟨h1, h2⟩
  · exact hm e.symm
  · have := psum_eq (g := g) (h := g') (n := n) h3
    omega
theorem older_eq {n c : Nat} {g g' : Gm} (h3 : ∀ d, d < n → g' 3 d = g 3 d) (h4 : ∀ d, d < n → g' 4 d = g 4 d) (hc : c < n) : older n g c = older n g' c := by
  unfold older
  congr 1
  apply List.filter_congr
  intro d hd
  have hd := List.mem_range.mp hd
  rw [h3 d hd, h4 d hd, h4 c hc]
theorem mvd_eq {n m : Nat} {g g' : Gm} (h : mvd n g m g' m) : same n g g' ↔ (g 0 0 = g' 0 0 ∧ g 0 1 = g' 0 1 ∧ g 1 4 = g' 1 4 ∧ ∀ i, i < (g 1 4).toNatClampNeg → g 2 i = g' 2 i) := by
  rcases h with ⟨-, h2, h3, h4⟩ | ⟨h1, -⟩
  · constructor
    · rintro ⟨a1, a2, a3, a4, a5, a6, a7⟩
      exact ⟨a1, a2, a4, a5⟩
    · rintro ⟨a1, a2, a4, a5⟩
      exact ⟨a1, a2, h3.symm, a4, a5, fun c hc => (h2 c hc).symm, fun c hc _ => older_eq h2 h4 hc⟩
  · omega
set_option maxRecDepth 20000 in
theorem lp_sa {κ : KX} {t n : Nat} {S : Nat → Gm × List Nat} {mm : Nat → Nat} {cd : Nat → Nat → Int32} {M : Mem} (ht : t ≤ 200) (hA : ∀ e, e ≤ t → PAt M e (S e).1 (mm e) ∧ WFg cd n (S e).1 (S e).2 ∧ mm e ≤ psum (S e).1 n) (hmv : ∀ e e', e ≤ e' → e' ≤ t → mvd n (S e).1 (mm e) (S e').1 (mm e')) (C : Cx κ lyC y_P_sameAs.cls b_P_sameAs 3 (some .int) 2) (hQ : ∀ v M', Pi (fun r M' => ((∃ q, q < t ∧ same n (S q).1 (S t).1 ∧ r = nI q) ∨ ((∀ q, q < t → ¬ same n (S q).1 (S t).1) ∧ r = -2)) ∧ M' = M) v M' → KQ κ v M') : ∀ (j : Nat) (x2 : Int32), j ≤ t → x2 = nI j - 1 → (∀ e, j ≤ e → e < t → ¬ same n (S e).1 (S t).1) → G κ lyC 4 [some (.ref 69), some (.int (nI t)), some (.int x2)] [] M := by
  intro j
  induction j with
  | zero =>
    intro x2 hj e2 hs
    refine u_iload_n (pc := 4) C d_P_sameAs_4 rfl ?_
    refine u_if_lt (pc := 5) (tgt := 101) C d_P_sameAs_5 rfl (fun c5 => ?_) (fun c5 => absurd (show x2 < 0 by rw [e2]; decide) c5)
    refine u_bipush (pc := 101) (v := (-2)) C d_P_sameAs_101 (by decide) ?_
    exact u_iret (pc := 103) C d_P_sameAs_103 (hQ _ _ ⟨_, rfl, Or.inr ⟨fun q hq => hs q (Nat.zero_le _) hq, rfl⟩, rfl⟩)
  | succ j ih =>
    intro x2 hj e2 hs
    obtain rfl : x2 = nI j := by rw [e2]; exact nI_pred j
    obtain ⟨pj, wj, bj⟩ := hA j (by omega)
    obtain ⟨pt, wt, bt9⟩ := hA t (Nat.le_refl t)
    have hv := hmv j t (by omega) (Nat.le_refl t)
    have sj := wj.ps
    have stt := wt.ps
    refine u_iload_n (pc := 4) C d_P_sameAs_4 rfl ?_
    refine u_if_lt (pc := 5) (tgt := 101) C d_P_sameAs_5 rfl (fun c5 => ?_) (fun c5 => ?_)
    · exact absurd c5 (nI_pos (by omega))
    · refine u_aload_n (pc := 8) C d_P_sameAs_8 rfl ?_
      refine u_getr (pc := 9) (r := 70) C d_P_sameAs_9 fw_P_9 sC_69 rfl rfl ?_
      refine u_iload_n (pc := 12) C d_P_sameAs_12 rfl ?_
      refine u_callSi (pc := 13) C d_P_sameAs_13 mx_L_at mw_P_40 (c_L_at sC_70) rfl rfl (Nat.le_of_ble_eq_true rfl) (fun r13 M13 q13 => ?_)
      obtain ⟨e13, q13⟩ := q13
      have q13 := q13.symm
      subst q13
      refine u_aload_n (pc := 16) C d_P_sameAs_16 rfl ?_
      refine u_getr (pc := 17) (r := 70) C d_P_sameAs_17 fw_P_9 sC_69 rfl rfl ?_
      refine u_iload_n (pc := 20) C d_P_sameAs_20 rfl ?_
      refine u_callSi (pc := 21) C d_P_sameAs_21 mx_L_at mw_P_40 (c_L_at sC_70) rfl rfl (Nat.le_of_ble_eq_true rfl) (fun r21 M21 q21 => ?_)
      obtain ⟨e21, q21⟩ := q21
      have q21 := q21.symm
      subst q21
      rw [atF_in (by omega) (by decide), pj.1] at e13
      rw [atF_in (by omega) (by decide), pt.1] at e21
      have hmm : r13 = r21 ↔ mm j = mm t := by rw [e13, e21]; exact nI_eq (by omega) (by omega)
      refine u_icmp_ne (pc := 24) (tgt := 101) C d_P_sameAs_24 rfl (fun c24 => ?_) (fun c24 => ?_)
      · refine u_bipush (pc := 101) (v := (-2)) C d_P_sameAs_101 (by decide) ?_
        refine u_iret (pc := 103) C d_P_sameAs_103 (hQ _ _ ⟨_, rfl, ?_⟩)
        rw [hmm] at c24
        refine ⟨Or.inr ⟨fun q hq => ?_, rfl⟩, rfl⟩
        by_cases z : j + 1 ≤ q
        · exact hs q z hq
        · have hv1 := (hmv q j (by omega) (by omega)).mono
          have hv2 := hv.mono
          exact mvd_ne (hmv q t (by omega) (Nat.le_refl t)) (by omega)
      · rw [hmm] at c24
        rw [← c24] at hv
        have hse := mvd_eq hv
        refine u_aload_n (pc := 27) C d_P_sameAs_27 rfl ?_
        refine u_getr (pc := 28) (r := 71) C d_P_sameAs_28 fw_P_15 sC_69 rfl rfl ?_
        refine u_iload_n (pc := 31) C d_P_sameAs_31 rfl ?_
        refine u_callSi (pc := 32) C d_P_sameAs_32 mx_L_at mw_P_40 (c_L_at sC_71) rfl rfl (Nat.le_of_ble_eq_true rfl) (fun r32 M32 q32 => ?_)
        obtain ⟨e32, q32⟩ := q32
        have q32 := q32.symm
        subst q32
        refine u_aload_n (pc := 35) C d_P_sameAs_35 rfl ?_
        refine u_getr (pc := 36) (r := 71) C d_P_sameAs_36 fw_P_15 sC_69 rfl rfl ?_
        refine u_iload_n (pc := 39) C d_P_sameAs_39 rfl ?_
        refine u_callSi (pc := 40) C d_P_sameAs_40 mx_L_at mw_P_40 (c_L_at sC_71) rfl rfl (Nat.le_of_ble_eq_true rfl) (fun r40 M40 q40 => ?_)
        obtain ⟨e40, q40⟩ := q40
        have q40 := q40.symm
        subst q40
        refine u_icmp_ne (pc := 43) (tgt := 95) C d_P_sameAs_43 rfl (fun c43 => ?_) (fun c43 => ?_)
        · refine u_iinc (pc := 95) (v2 := (-1)) C d_P_sameAs_95 rfl rfl (by decide) (fun x95 e95 L9 hL9 => ?_)
          obtain rfl : L9 = [some (.ref 69), some (.int (nI t)), some (.int x95)] := hL9.symm
          refine u_goto (pc := 98) (tgt := 4) C d_P_sameAs_98 rfl ?_
          refine ih x95 (by omega) (by rw [e95]; exact (Int32.sub_eq_add_neg (nI j) 1).symm) (fun e h1 h2 => ?_)
          by_cases q : e = j
          · subst q
            rw [hse]
            rintro ⟨z1, z2, z3, z4⟩
            rw [atF_in (by omega) (by decide), pj.2.1] at e32
            rw [atF_in (by omega) (by decide), pt.2.1] at e40
            exact c43 (by rw [e32, e40]; exact z1)
          · exact hs e (by omega) h2
        · refine u_aload_n (pc := 46) C d_P_sameAs_46 rfl ?_
          refine u_getr (pc := 47) (r := 72) C d_P_sameAs_47 fw_P_18 sC_69 rfl rfl ?_
          refine u_iload_n (pc := 50) C d_P_sameAs_50 rfl ?_
          refine u_callSi (pc := 51) C d_P_sameAs_51 mx_L_at mw_P_40 (c_L_at sC_72) rfl rfl (Nat.le_of_ble_eq_true rfl) (fun r51 M51 q51 => ?_)
          obtain ⟨e51, q51⟩ := q51
          have q51 := q51.symm
          subst q51
          refine u_aload_n (pc := 54) C d_P_sameAs_54 rfl ?_
          refine u_getr (pc := 55) (r := 72) C d_P_sameAs_55 fw_P_18 sC_69 rfl rfl ?_
          refine u_iload_n (pc := 58) C d_P_sameAs_58 rfl ?_
          refine u_callSi (pc := 59) C d_P_sameAs_59 mx_L_at mw_P_40 (c_L_at sC_72) rfl rfl (Nat.le_of_ble_eq_true rfl) (fun r59 M59 q59 => ?_)
          obtain ⟨e59, q59⟩ := q59
          have q59 := q59.symm
          subst q59
          refine u_icmp_ne (pc := 62) (tgt := 95) C d_P_sameAs_62 rfl (fun c62 => ?_) (fun c62 => ?_)
          · refine u_iinc (pc := 95) (v2 := (-1)) C d_P_sameAs_95 rfl rfl (by decide) (fun x95 e95 L9 hL9 => ?_)
            obtain rfl : L9 = [some (.ref 69), some (.int (nI t)), some (.int x95)] := hL9.symm
            refine u_goto (pc := 98) (tgt := 4) C d_P_sameAs_98 rfl ?_
            refine ih x95 (by omega) (by rw [e95]; exact (Int32.sub_eq_add_neg (nI j) 1).symm) (fun e h1 h2 => ?_)
            by_cases q : e = j
            · subst q
              rw [hse]
              rintro ⟨z1, z2, z3, z4⟩
              rw [atF_in (by omega) (by decide), pj.2.2.1] at e51
              rw [atF_in (by omega) (by decide), pt.2.2.1] at e59
              exact c62 (by rw [e51, e59]; exact z2)
            · exact hs e (by omega) h2
          · refine u_aload_n (pc := 65) C d_P_sameAs_65 rfl ?_
            refine u_getr (pc := 66) (r := 73) C d_P_sameAs_66 fw_P_21 sC_69 rfl rfl ?_
            refine u_iload_n (pc := 69) C d_P_sameAs_69 rfl ?_
            refine u_callSi (pc := 70) C d_P_sameAs_70 mx_L_at mw_P_40 (c_L_at sC_73) rfl rfl (Nat.le_of_ble_eq_true rfl) (fun r70 M70 q70 => ?_)
            obtain ⟨e70, q70⟩ := q70
            have q70 := q70.symm
            subst q70
            refine u_aload_n (pc := 73) C d_P_sameAs_73 rfl ?_
            refine u_getr (pc := 74) (r := 73) C d_P_sameAs_74 fw_P_21 sC_69 rfl rfl ?_
            refine u_iload_n (pc := 77) C d_P_sameAs_77 rfl ?_
            refine u_callSi (pc := 78) C d_P_sameAs_78 mx_L_at mw_P_40 (c_L_at sC_73) rfl rfl (Nat.le_of_ble_eq_true rfl) (fun r78 M78 q78 => ?_)
            obtain ⟨e78, q78⟩ := q78
            have q78 := q78.symm
            subst q78
            refine u_icmp_ne (pc := 81) (tgt := 95) C d_P_sameAs_81 rfl (fun c81 => ?_) (fun c81 => ?_)
            · refine u_iinc (pc := 95) (v2 := (-1)) C d_P_sameAs_95 rfl rfl (by decide) (fun x95 e95 L9 hL9 => ?_)
              obtain rfl : L9 = [some (.ref 69), some (.int (nI t)), some (.int x95)] := hL9.symm
              refine u_goto (pc := 98) (tgt := 4) C d_P_sameAs_98 rfl ?_
              refine ih x95 (by omega) (by rw [e95]; exact (Int32.sub_eq_add_neg (nI j) 1).symm) (fun e h1 h2 => ?_)
              by_cases q : e = j
              · subst q
                rw [hse]
                rintro ⟨z1, z2, z3, z4⟩
                rw [atF_in (by omega) (by decide), pj.2.2.2.1] at e70
                rw [atF_in (by omega) (by decide), pt.2.2.2.1] at e78
                exact c81 (by rw [e70, e78]; exact z3)
              · exact hs e (by omega) h2
            · refine u_aload_n (pc := 84) C d_P_sameAs_84 rfl ?_
              refine u_iload_n (pc := 85) C d_P_sameAs_85 rfl ?_
              refine u_iload_n (pc := 86) C d_P_sameAs_86 rfl ?_
              rw [atF_in (by omega) (by decide), pj.2.1] at e32
              rw [atF_in (by omega) (by decide), pt.2.1] at e40
              rw [atF_in (by omega) (by decide), pj.2.2.1] at e51
              rw [atF_in (by omega) (by decide), pt.2.2.1] at e59
              rw [atF_in (by omega) (by decide), pj.2.2.2.1] at e70
              rw [atF_in (by omega) (by decide), pt.2.2.2.1] at e78
              rw [e32, e40] at c43
              rw [e51, e59] at c62
              rw [e70, e78] at c81
              obtain ⟨h, h64, hh⟩ := wj.hb
              have hht : (S t).1 1 4 = nI h := by rw [← c81, hh]
              refine u_callVi (pc := 87) C d_P_sameAs_87 mx_P_samePiles mw_P_50 sC_69 rfl (c_P_samePiles (by omega) ht wj wt hh hht h64 pj pt) rfl rfl (Nat.le_of_ble_eq_true rfl) (fun r87 M87 q87 => ?_)
              obtain ⟨e87, q87⟩ := q87
              have q87 := q87.symm
              subst q87
              refine u_if_eq (pc := 90) (tgt := 95) C d_P_sameAs_90 rfl (fun c90 => ?_) (fun c90 => ?_)
              · refine u_iinc (pc := 95) (v2 := (-1)) C d_P_sameAs_95 rfl rfl (by decide) (fun x95 e95 L9 hL9 => ?_)
                obtain rfl : L9 = [some (.ref 69), some (.int (nI t)), some (.int x95)] := hL9.symm
                refine u_goto (pc := 98) (tgt := 4) C d_P_sameAs_98 rfl ?_
                refine ih x95 (by omega) (by rw [e95]; exact (Int32.sub_eq_add_neg (nI j) 1).symm) (fun e h1 h2 => ?_)
                by_cases q : e = j
                · subst q
                  rw [hse]
                  rintro ⟨z1, z2, z3, z4⟩
                  rw [hh, nI_clamp (by omega)] at z4
                  rcases e87 with ⟨q1, q2⟩ | ⟨q1, q2⟩
                  · rw [q1] at c90; exact absurd c90 (by decide)
                  · exact q2 z4
                · exact hs e (by omega) h2
              · refine u_iload_n (pc := 93) C d_P_sameAs_93 rfl ?_
                refine u_iret (pc := 94) C d_P_sameAs_94 (hQ _ _ ⟨_, rfl, ?_⟩)
                rcases e87 with ⟨q1, q2⟩ | ⟨q1, q2⟩
                · exact ⟨Or.inl ⟨j, by omega, hse.mpr ⟨c43, c62, c81, by rw [hh, nI_clamp (by omega)]; exact q2⟩, rfl⟩, rfl⟩
                · exact absurd q1 c90
set_option maxRecDepth 20000 in
theorem c_P_sameAs {t n : Nat} {S : Nat → Gm × List Nat} {mm : Nat → Nat} {cd : Nat → Nat → Int32} {M : Mem} (ht : t ≤ 200) (hA : ∀ e, e ≤ t → PAt M e (S e).1 (mm e) ∧ WFg cd n (S e).1 (S e).2 ∧ mm e ≤ psum (S e).1 n) (hmv : ∀ e e', e ≤ e' → e' ≤ t → mvd n (S e).1 (mm e) (S e').1 (mm e')) : Ct lyC y_P_sameAs b_P_sameAs 3 (some .int) 2 [.ref 69, .int (nI t)] M (Pi fun r M' => ((∃ q, q < t ∧ same n (S q).1 (S t).1 ∧ r = nI q) ∨ ((∀ q, q < t → ¬ same n (S q).1 (S t).1) ∧ r = -2)) ∧ M' = M) := by
  refine Ct.ofG mx_P_sameAs [some (.ref 69), some (.int (nI t)), none] rfl rfl (Nat.le_of_ble_eq_true rfl) (fun κ C hQ => ?_)
  refine u_iload_n (pc := 0) C d_P_sameAs_0 rfl ?_
  refine u_iconst (pc := 1) (v := 1) C d_P_sameAs_1 (by decide) ?_
  refine u_isub (pc := 2) C d_P_sameAs_2 ?_
  refine u_istore_n (pc := 3) C d_P_sameAs_3 rfl (fun x3 e3 L9 hL9 => ?_)
  obtain rfl : L9 = [some (.ref 69), some (.int (nI t)), some (.int x3)] := hL9.symm
  exact lp_sa ht hA hmv C hQ t x3 (Nat.le_refl t) e3 (fun e h1 h2 => by omega)
