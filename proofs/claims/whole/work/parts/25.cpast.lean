/-! how all was ahead of each time of a run -/
def pk4 (f : Nat → Nat) (q : Nat) : Nat → Nat
  | 0 => 0
  | c + 1 => pk4 f q c * 65536 + f (4 * q + c)
theorem pk4_lt {f : Nat → Nat} {q : Nat} (hf : ∀ i, f i < 65536) : ∀ c, pk4 f q c < 65536 ^ c := by
  intro c
  induction c with
  | zero => exact Nat.one_pos
  | succ c ih =>
    rw [pk4, Nat.pow_succ]
    have := hf (4 * q + c)
    omega
theorem pk4_inj {f h : Nat → Nat} {q : Nat} (hf : ∀ i, f i < 65536) (hh : ∀ i, h i < 65536) : ∀ c, pk4 f q c = pk4 h q c ↔ ∀ j, j < c → f (4 * q + j) = h (4 * q + j) := by
  intro c
  induction c with
  | zero => exact ⟨fun _ j hj => by omega, fun _ => rfl⟩
  | succ c ih =>
    have h1 := hf (4 * q + c)
    have h2 := hh (4 * q + c)
    rw [pk4, pk4]
    constructor
    · intro e j hj
      have e1 : pk4 f q c = pk4 h q c := by omega
      have e2 : f (4 * q + c) = h (4 * q + c) := by omega
      by_cases q9 : j = c
      · rw [q9, e2]
      · exact ih.mp e1 j (by omega)
    · intro e
      rw [ih.mpr (fun j hj => e j (by omega)), e c (by omega)]
def thn (g : Gm) (i : Nat) : Nat := (g 2 i).toNatClampNeg % 65536
theorem thn_lt {g : Gm} (i : Nat) : thn g i < 65536 := Nat.mod_lt _ (by decide)
def pln (g : Gm) (q : Nat) : Nat := pk4 (thn g) q (min 4 ((g 1 4).toNatClampNeg - 4 * q))
theorem pln_lt {g : Gm} (q : Nat) : pln g q < 2 ^ 64 := by
  have h := pk4_lt (f := thn g) (q := q) thn_lt (min 4 ((g 1 4).toNatClampNeg - 4 * q))
  have h2 : 65536 ^ (min 4 ((g 1 4).toNatClampNeg - 4 * q)) ≤ 65536 ^ 4 := Nat.pow_le_pow_right (by decide) (by omega)
  have h3 : 65536 ^ 4 = 2 ^ 64 := by decide
  unfold pln
  omega
def PAt (M : Mem) (e : Nat) (g : Gm) (m : Nat) : Prop := M.1 70 e = nI m ∧ M.1 71 e = g 0 0 ∧ M.1 72 e = g 0 1 ∧ M.1 73 e = g 1 4 ∧ ∀ q, 4 * q < (g 1 4).toNatClampNeg → M.2 74 (16 * e + q) = lN (pln g q)
def pstS (p : Nat) : Prop := 70 ≤ p ∧ p ≤ 74
theorem pst_g {k p : Nat} (hk : k < 6) (h : pstS p) : ¬ blk k p := fun q => by
  have h1 := h.1
  have h2 := q.2
  unfold gp at h2
  omega
theorem lN_inj {a b : Nat} (ha : a < 2 ^ 64) (hb : b < 2 ^ 64) : lN a = lN b ↔ a = b := by
  constructor
  · intro h
    have h1 : (lN a).toBitVec.toNat = (lN b).toBitVec.toNat := by rw [h]
    rw [wb_tn ha, wb_tn hb] at h1
    exact h1
  · intro h; rw [h]
theorem cmp0 {x z : Int64} : lg_cmp x z = 0 ↔ x = z := by
  unfold lg_cmp
  constructor
  · intro h
    split at h
    · exact absurd h (by decide)
    · split at h
      · assumption
      · exact absurd h (by decide)
  · intro h
    subst h
    simp
theorem thg_eq {cd : Nat → Nat → Int32} {n i : Nat} {g : Gm} {tb : List Nat} (hw : WFg cd n g tb) (hi : i < (g 1 4).toNatClampNeg) : g 2 i = nI (thn g i) ∧ thn g i = (g 2 i).toNatClampNeg := by
  obtain ⟨⟨a1, -⟩, -, -, ⟨h, b1, b2, b3, b4⟩, -⟩ := hw
  rw [b2, nI_clamp (by omega)] at hi
  unfold thn
  rcases b3 i hi with ⟨c, e1, e2, e3⟩ | ⟨t, p, a, e1, e2, e3, e4⟩
  · rw [e2, nI_clamp (by omega), Nat.mod_eq_of_lt (by omega)]
    exact ⟨rfl, rfl⟩
  · rw [e4, nI_clamp (by omega), Nat.mod_eq_of_lt (by omega)]
    exact ⟨rfl, rfl⟩
/-- the longs of two piles of one height -/
theorem pln_same {cd : Nat → Nat → Int32} {n h : Nat} {g g' : Gm} {tb tb' : List Nat} (hw : WFg cd n g tb) (hw' : WFg cd n g' tb') (hg : (g 1 4).toNatClampNeg = h) (hg' : (g' 1 4).toNatClampNeg = h) : (∀ q, 4 * q < h → pln g q = pln g' q) ↔ ∀ i, i < h → g 2 i = g' 2 i := by
  constructor
  · intro e i hi
    have e1 := e (i / 4) (by omega)
    unfold pln at e1
    rw [hg, hg', pk4_inj thn_lt thn_lt] at e1
    have e2 := e1 (i % 4) (by omega)
    rw [show 4 * (i / 4) + i % 4 = i by omega] at e2
    rw [(thg_eq hw (by omega)).1, (thg_eq hw' (by omega)).1, e2]
  · intro e q hq
    unfold pln
    rw [hg, hg', pk4_inj thn_lt thn_lt]
    intro j hj
    unfold thn
    rw [e (4 * q + j) (by omega)]
set_option maxRecDepth 20000 in
theorem lp_sp {κ : KX} {e t n h me mt : Nat} {ge gt : Gm} {tbe tbt : List Nat} {cd : Nat → Nat → Int32} {M : Mem} (he : e ≤ 200) (ht : t ≤ 200) (hwe : WFg cd n ge tbe) (hwt : WFg cd n gt tbt) (he4 : ge 1 4 = nI h) (ht4 : gt 1 4 = nI h) (h64 : h ≤ 64) (hpe : PAt M e ge me) (hpt : PAt M t gt mt) (C : Cx κ lyC y_P_samePiles.cls b_P_samePiles 7 (some .boolean) 1) (hQ : ∀ v M', Pi (fun r M' => ((r = 1 ∧ ∀ i, i < h → ge 2 i = gt 2 i) ∨ (r = 0 ∧ ¬ ∀ i, i < h → ge 2 i = gt 2 i)) ∧ M' = M) v M' → KQ κ v M') : ∀ (f i : Nat), i ≤ (h + 3) / 4 → (h + 3) / 4 - i < f → (∀ q, q < i → pln ge q = pln gt q) → G κ lyC 64 [some (.ref 69), some (.int (nI e)), some (.int (nI t)), some (.int (nI ((h + 3) / 4))), some (.int (nI (16 * e))), some (.int (nI (16 * t))), some (.int (nI i))] [] M := by
  have hc1 : (ge 1 4).toNatClampNeg = h := by rw [he4, nI_clamp (by omega)]
  have hc2 : (gt 1 4).toNatClampNeg = h := by rw [ht4, nI_clamp (by omega)]
  have hiff := pln_same hwe hwt hc1 hc2
  have hq16 : ∀ q, 4 * q < h → q < 16 := fun q hq => by omega
  intro f
  induction f with
  | zero => intro i _ h; omega
  | succ f ih =>
    intro i hi hf hs
    have hin : nI ((h + 3) / 4) ≤ nI i ↔ (h + 3) / 4 ≤ i := nI_leI (by omega) (by omega)
    refine u_iload (pc := 64) C d_P_samePiles_64 rfl ?_
    refine u_iload_n (pc := 66) C d_P_samePiles_66 rfl ?_
    refine u_icmp_ge (pc := 67) (tgt := 102) C d_P_samePiles_67 rfl (fun c67 => ?_) (fun c67 => ?_)
    · refine u_iconst (pc := 102) (v := 1) C d_P_samePiles_102 (by decide) ?_
      refine u_zret (pc := 103) C d_P_samePiles_103 (by decide) (hQ _ _ ⟨_, rfl, ?_⟩)
      exact ⟨Or.inl ⟨rfl, hiff.mp (fun q hq => hs q (by rw [hin] at c67; omega))⟩, rfl⟩
    · have hlt : i < (h + 3) / 4 := by rw [hin] at c67; omega
      have z1 : nI (16 * e) + nI i = nI (16 * e + i) := nI_add _ _
      have z2 : nI (16 * t) + nI i = nI (16 * t + i) := nI_add _ _
      refine u_aload_n (pc := 70) C d_P_samePiles_70 rfl ?_
      refine u_getr (pc := 71) (r := 74) C d_P_samePiles_71 fw_P_24 sC_69 rfl rfl ?_
      refine u_iload (pc := 74) C d_P_samePiles_74 rfl ?_
      refine u_iload (pc := 76) C d_P_samePiles_76 rfl ?_
      refine u_iadd (pc := 78) C d_P_samePiles_78 ?_
      refine u_lald (pc := 79) C d_P_samePiles_79 sC_74 (by rw [z1]; exact vp_in_nI (by omega) (by decide)) ?_
      refine u_aload_n (pc := 80) C d_P_samePiles_80 rfl ?_
      refine u_getr (pc := 81) (r := 74) C d_P_samePiles_81 fw_P_24 sC_69 rfl rfl ?_
      refine u_iload (pc := 84) C d_P_samePiles_84 rfl ?_
      refine u_iload (pc := 86) C d_P_samePiles_86 rfl ?_
      refine u_iadd (pc := 88) C d_P_samePiles_88 ?_
      refine u_lald (pc := 89) C d_P_samePiles_89 sC_74 (by rw [z2]; exact vp_in_nI (by omega) (by decide)) ?_
      refine u_lcmp (pc := 90) C d_P_samePiles_90 ?_
      refine u_if_eq (pc := 91) (tgt := 96) C d_P_samePiles_91 rfl (fun c91 => ?_) (fun c91 => ?_)
      · refine u_iinc (pc := 96) (v2 := 1) C d_P_samePiles_96 rfl rfl (by decide) (fun x96 e96 L9 hL9 => ?_)
        obtain rfl : L9 = [some (.ref 69), some (.int (nI e)), some (.int (nI t)), some (.int (nI ((h + 3) / 4))), some (.int (nI (16 * e))), some (.int (nI (16 * t))), some (.int x96)] := hL9.symm
        refine u_goto (pc := 99) (tgt := 64) C d_P_samePiles_99 rfl ?_
        rw [cmp0, z1, z2, nI_clamp (by omega), nI_clamp (by omega), hpe.2.2.2.2 i (by omega), hpt.2.2.2.2 i (by omega), lN_inj (pln_lt _) (pln_lt _)] at c91
        obtain rfl : x96 = nI (i + 1) := by rw [e96, nI_succ]
        exact ih (i + 1) (by omega) (by omega) (fun q hq => by
          by_cases q9 : q = i
          · rw [q9]; exact c91
          · exact hs q (by omega))
      · refine u_iconst (pc := 94) (v := 0) C d_P_samePiles_94 (by decide) ?_
        refine u_zret (pc := 95) C d_P_samePiles_95 (by decide) (hQ _ _ ⟨_, rfl, ?_⟩)
        rw [cmp0, z1, z2, nI_clamp (by omega), nI_clamp (by omega), hpe.2.2.2.2 i (by omega), hpt.2.2.2.2 i (by omega), lN_inj (pln_lt _) (pln_lt _)] at c91
        exact ⟨Or.inr ⟨rfl, fun q => c91 (hiff.mpr q i (by omega))⟩, rfl⟩
set_option maxRecDepth 20000 in
theorem c_P_samePiles {e t n h me mt : Nat} {ge gt : Gm} {tbe tbt : List Nat} {cd : Nat → Nat → Int32} {M : Mem} (he : e ≤ 200) (ht : t ≤ 200) (hwe : WFg cd n ge tbe) (hwt : WFg cd n gt tbt) (he4 : ge 1 4 = nI h) (ht4 : gt 1 4 = nI h) (h64 : h ≤ 64) (hpe : PAt M e ge me) (hpt : PAt M t gt mt) : Ct lyC y_P_samePiles b_P_samePiles 7 (some .boolean) 1 [.ref 69, .int (nI e), .int (nI t)] M (Pi fun r M' => ((r = 1 ∧ ∀ i, i < h → ge 2 i = gt 2 i) ∨ (r = 0 ∧ ¬ ∀ i, i < h → ge 2 i = gt 2 i)) ∧ M' = M) := by
  refine Ct.ofG mx_P_samePiles [some (.ref 69), some (.int (nI e)), some (.int (nI t)), none, none, none, none] rfl rfl (Nat.le_of_ble_eq_true rfl) (fun κ C hQ => ?_)
  refine u_aload_n (pc := 0) C d_P_samePiles_0 rfl ?_
  refine u_getr (pc := 1) (r := 73) C d_P_samePiles_1 fw_P_21 sC_69 rfl rfl ?_
  refine u_iload_n (pc := 4) C d_P_samePiles_4 rfl ?_
  refine u_callSi (pc := 5) C d_P_samePiles_5 mx_L_at mw_P_40 (c_L_at sC_73) rfl rfl (Nat.le_of_ble_eq_true rfl) (fun r5 M5 q5 => ?_)
  obtain ⟨e5, q5⟩ := q5
  have q5 := q5.symm
  subst q5
  refine u_iconst (pc := 8) (v := 3) C d_P_samePiles_8 (by decide) ?_
  refine u_iadd (pc := 9) C d_P_samePiles_9 ?_
  refine u_iconst (pc := 10) (v := 4) C d_P_samePiles_10 (by decide) ?_
  refine u_idiv (pc := 11) C d_P_samePiles_11 (by decide) ?_
  refine u_istore_n (pc := 12) C d_P_samePiles_12 rfl (fun x12 e12 L9 hL9 => ?_)
  obtain rfl : L9 = [some (.ref 69), some (.int (nI e)), some (.int (nI t)), some (.int x12), none, none, none] := hL9.symm
  have z3 : r5 = nI h := by rw [e5, atF_in (by omega) (by decide), hpe.2.2.2.1, he4]
  rw [z3, show (3 : Int32) = nI 3 from rfl, show (4 : Int32) = nI 4 from rfl, nI_add, pk_div (by omega) (by decide) (by decide)] at e12
  subst e12
  refine u_iload_n (pc := 13) C d_P_samePiles_13 rfl ?_
  refine u_bipush (pc := 14) (v := 16) C d_P_samePiles_14 (by decide) ?_
  refine u_imul (pc := 16) C d_P_samePiles_16 ?_
  refine u_istore (pc := 17) C d_P_samePiles_17 rfl (fun x17 e17 L9 hL9 => ?_)
  obtain rfl : L9 = [some (.ref 69), some (.int (nI e)), some (.int (nI t)), some (.int (nI ((h + 3) / 4))), some (.int x17), none, none] := hL9.symm
  refine u_iload_n (pc := 19) C d_P_samePiles_19 rfl ?_
  refine u_bipush (pc := 20) (v := 16) C d_P_samePiles_20 (by decide) ?_
  refine u_imul (pc := 22) C d_P_samePiles_22 ?_
  refine u_istore (pc := 23) C d_P_samePiles_23 rfl (fun x23 e23 L9 hL9 => ?_)
  obtain rfl : L9 = [some (.ref 69), some (.int (nI e)), some (.int (nI t)), some (.int (nI ((h + 3) / 4))), some (.int x17), some (.int x23), none] := hL9.symm
  rw [show (16 : Int32) = nI 16 from rfl, pk_mul, Nat.mul_comm] at e17 e23
  subst e17
  subst e23
  refine u_iload (pc := 25) C d_P_samePiles_25 rfl ?_
  refine u_if_lt (pc := 27) (tgt := 59) C d_P_samePiles_27 rfl (fun c27 => ?_) (fun c27 => ?_)
  · exact absurd c27 (nI_pos (by omega))
  · refine u_iload (pc := 30) C d_P_samePiles_30 rfl ?_
    refine u_if_lt (pc := 32) (tgt := 59) C d_P_samePiles_32 rfl (fun c32 => ?_) (fun c32 => ?_)
    · exact absurd c32 (nI_pos (by omega))
    · refine u_iload (pc := 35) C d_P_samePiles_35 rfl ?_
      refine u_iload_n (pc := 37) C d_P_samePiles_37 rfl ?_
      refine u_iadd (pc := 38) C d_P_samePiles_38 ?_
      refine u_aload_n (pc := 39) C d_P_samePiles_39 rfl ?_
      refine u_getr (pc := 40) (r := 74) C d_P_samePiles_40 fw_P_24 sC_69 rfl rfl ?_
      refine u_alen (pc := 43) C d_P_samePiles_43 sC_74 rfl rfl ?_
      refine u_icmp_gt (pc := 44) (tgt := 59) C d_P_samePiles_44 rfl (fun c44 => ?_) (fun c44 => ?_)
      · exact absurd c44 (by rw [nI_add]; exact nI_nlt (a := 3216) (b := 16 * e + (h + 3) / 4) (by omega) (by omega))
      · refine u_iload (pc := 47) C d_P_samePiles_47 rfl ?_
        refine u_iload_n (pc := 49) C d_P_samePiles_49 rfl ?_
        refine u_iadd (pc := 50) C d_P_samePiles_50 ?_
        refine u_aload_n (pc := 51) C d_P_samePiles_51 rfl ?_
        refine u_getr (pc := 52) (r := 74) C d_P_samePiles_52 fw_P_24 sC_69 rfl rfl ?_
        refine u_alen (pc := 55) C d_P_samePiles_55 sC_74 rfl rfl ?_
        refine u_icmp_le (pc := 56) (tgt := 61) C d_P_samePiles_56 rfl (fun c56 => ?_) (fun c56 => ?_)
        · refine u_iconst (pc := 61) (v := 0) C d_P_samePiles_61 (by decide) ?_
          refine u_istore (pc := 62) C d_P_samePiles_62 rfl (fun x62 e62 L9 hL9 => ?_)
          obtain rfl : L9 = [some (.ref 69), some (.int (nI e)), some (.int (nI t)), some (.int (nI ((h + 3) / 4))), some (.int (nI (16 * e))), some (.int (nI (16 * t))), some (.int x62)] := hL9.symm
          obtain rfl : x62 = nI 0 := e62
          exact lp_sp he ht hwe hwt he4 ht4 h64 hpe hpt C hQ ((h + 3) / 4 + 1) 0 (by omega) (by omega) (fun q hq => by omega)
        · exact absurd (by rw [nI_add]; exact nI_le (a := 16 * t + (h + 3) / 4) (b := 3216) (by omega) (by omega)) c56
