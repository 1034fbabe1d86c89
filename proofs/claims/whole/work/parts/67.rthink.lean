/-! the reference: in thought -/
theorem cp8 {M M' : Mem} {q : Nat} {cd : Nat → Nat → Int32} {n : Nat} {g : Gm} {tb : List Nat} {th ev : List Int32} (hS : RS M cd n g tb) (h0 : M.1 0 32 = 0) (hL : LGr M th ev) (c1 : ∀ t, t ≠ q → M'.1 t = M.1 t) (hq : 8 ≤ q ∧ q ≤ 13) : RS M' cd n g tb ∧ M'.1 0 32 = 0 ∧ LGr M' th ev ∧ OfR (fun p _ => p = q) M M' := by
  have ho : OfR (fun p _ => p = q) M M' := fun p j hp => by rw [c1 p hp]
  exact ⟨hS.of ho (fun p j _ _ z => by omega) (fun z => by omega) (fun j z => by omega), by rw [c1 0 (by omega)]; exact h0, hL.of ho (fun z => by omega) (fun z => by omega) (fun i z => by omega) (fun i z => by omega), ho⟩
/-- nothing that lasts has changed: the game's row, the logs -/
def TQ (M M' : Mem) (th ev : List Int32) : Prop := OfR thR M M' ∧ (∀ j, j < 123 → M'.1 6 j = M.1 6 j) ∧ LGr M' th ev
theorem cp_back {S : Nat → Nat → Prop} {M0 M1 M2 M3 : Mem} {q : Nat} {th ev : List Int32} (hq : 8 ≤ q ∧ q ≤ 13) (a1 : ∀ t, t ≠ q → M1.1 t = M0.1 t) (a2 : ∀ j, j < 123 → M1.1 q j = M0.1 6 j) (ho : OfR S M1 M2) (hs : ∀ p j, S p j → thR p j) (hsq : ∀ j, ¬ S q j) (b1 : ∀ t, t ≠ 6 → M3.1 t = M2.1 t) (b2 : ∀ j, j < 123 → M3.1 6 j = M2.1 q j) (hL : LGr M2 th ev) : TQ M0 M3 th ev := by
  refine ⟨fun p j hp => ?_, fun j hj => by rw [b2 j hj, ho q j (hsq j), a2 j hj], hL.g (fun p j hp => by rw [b1 p hp])⟩
  have p6 : p ≠ 6 := fun z => hp (Or.inl z)
  have pq : p ≠ q := fun z => hp (by unfold thR; omega)
  rw [b1 p p6, ho p j (fun z => hp (hs p j z)), a1 p pq]
theorem TQ.RSq {M M' : Mem} {cd : Nat → Nat → Int32} {n : Nat} {g : Gm} {tb : List Nat} {th ev : List Int32} (h : TQ M M' th ev) (hS : RS M cd n g tb) : RS M' cd n g tb :=
  ⟨hS.1, h.1.cd hS.2.1 (fun p j _ _ z => by unfold thR at z; omega), by rw [h.1 0 5 (fun z => by unfold thR at z; omega)]; exact hS.2.2.1, hS.2.2.2.of_eq h.2.1⟩
theorem TQ.inv {M M' : Mem} {σ : St} (h : InvR M σ) (q : TQ M M' σ.2.2.2.2.2.1 σ.2.2.2.2.2.2) : InvR M' σ := h.same q.1 q.2.1 q.2.2
theorem TQ.tr0 {M M' : Mem} {th ev : List Int32} (q : TQ M M' th ev) (h : M.1 0 32 = 0) : M'.1 0 32 = 0 := by rw [q.1 0 32 (fun z => by unfold thR at z; omega)]; exact h
theorem lv0 : vp_in (0 : Int32) 6 := vp_in_nI (n := 0) (by decide) (by decide)
theorem rn8 {q : Nat} (hq : 8 ≤ q ∧ q ≤ 13) (j : Nat) : ¬ rnR q j := fun z => by unfold rnR rvR at z; omega
theorem worD {M : Mem} {cd : Nat → Nat → Int32} {n : Nat} {g : Gm} {tb : List Nat} {p : Int32} (hS : RS M cd n g tb) (hp : p = 0 ∨ p = 1) : M.1 6 (pix p) - M.1 6 (1 - pix p) = wor g p := by
  obtain ⟨l1, l2⟩ := hS.2.2.2.1
  rcases hp with q | q
  · subst q
    show M.1 6 0 - M.1 6 1 = g 0 0 - g 0 1
    rw [l1, l2]
  · subst q
    show M.1 6 1 - M.1 6 0 = g 0 1 - g 0 0
    rw [l1, l2]
theorem c_worth2 {M : Mem} {cd : Nat → Nat → Int32} {n : Nat} {g : Gm} {tb : List Nat} {p : Int32} (hS : RS M cd n g tb) (hp : p = 0 ∨ p = 1) : Ct lyR y_M_worthOf b_M_worthOf 2 (some .int) 0 [.ref 0, .int p] M (Pi fun r M' => r = wor g p ∧ M' = M) := by
  obtain ⟨hp9, hp2, -⟩ := pl01 hp
  have h := c_M_worthOf (M := M) hp2
  rw [← hp9, worD hS hp] at h
  exact h
set_option maxRecDepth 20000 in
theorem c_M_worthN {cd : Nat → Nat → Int32} {n : Nat} {g : Gm} {tb : List Nat} {M : Mem} {p : Int32} {th ev : List Int32} (hS : RS M cd n g tb) (ht0 : M.1 0 32 = 0) (hL0 : LGr M th ev) (hp : p = 0 ∨ p = 1) : Ct lyR y_M_worthIf b_M_worthIf 4 (some .int) 9 [.ref 0, .int (-1), .int p] M (Pi fun r M' => r = wor (runG cd n (g, tb)).1 p ∧ TQ M M' th ev) := by
  refine Ct.ofG mx_M_worthIf [some (.ref 0), some (.int (-1)), some (.int p), none] rfl rfl (Nat.le_of_ble_eq_true rfl) (fun κ C hQ => ?_)
  refine u_aload_n (pc := 0) C d_M_worthIf_0 rfl ?_
  refine u_getr (pc := 1) (r := 6) C d_M_worthIf_1 fw_M_25 sR_0 rfl rfl ?_
  refine u_aload_n (pc := 4) C d_M_worthIf_4 rfl ?_
  refine u_getr (pc := 5) (r := 7) C d_M_worthIf_5 fw_M_30 sR_0 rfl rfl ?_
  refine u_iconst (pc := 8) (v := 0) C d_M_worthIf_8 (by decide) ?_
  refine u_aaldR (pc := 9) (r := 8) C d_M_worthIf_9 sR_7 lv0 rfl ?_
  refine u_callSv (pc := 10) C d_M_worthIf_10 mx_M_copy mw_M_300 (c_M_copy sR_6 sR_8 (by decide)) rfl rfl (Nat.le_of_ble_eq_true rfl) (fun M10 q10 => ?_)
  obtain ⟨cp1, cp2⟩ := q10
  obtain ⟨hS1, ht1, hL1, oc1⟩ := cp8 hS ht0 hL0 cp1 (by decide)
  refine u_iload_n (pc := 13) C d_M_worthIf_13 rfl ?_
  refine u_if_lt (pc := 14) (tgt := 22) C d_M_worthIf_14 rfl (fun c14 => ?_) (fun c14 => ?_)
  · refine u_aload_n (pc := 22) C d_M_worthIf_22 rfl ?_
    refine u_callVi (pc := 23) C d_M_worthIf_23 mx_M_runIt mw_M_288 sR_0 rfl (c_M_runIt (s := (g, tb)) (Or.inl rfl) hS1 ht1 hL1) rfl rfl (Nat.le_of_ble_eq_true rfl) (fun r23 M23 q23 => ?_)
    obtain ⟨e23, ⟨w1, w2, w3, hS2, hL2⟩, o2⟩ := q23
    rw [if_neg (by decide), if_neg (by decide)] at hL2
    refine u_pop (pc := 26) C d_M_worthIf_26 rfl ?_
    refine u_aload_n (pc := 27) C d_M_worthIf_27 rfl ?_
    refine u_iload_n (pc := 28) C d_M_worthIf_28 rfl ?_
    refine u_callVi (pc := 29) C d_M_worthIf_29 mx_M_worthOf mw_M_304 sR_0 rfl (c_worth2 hS2 hp) rfl rfl (Nat.le_of_ble_eq_true rfl) (fun r29 M29 q29 => ?_)
    obtain ⟨e29, q29⟩ := q29
    have q29 := q29.symm
    subst q29
    refine u_istore_n (pc := 32) C d_M_worthIf_32 rfl (fun x32 e32 L9 hL9 => ?_)
    obtain rfl : L9 = [some (.ref 0), some (.int (-1)), some (.int p), some (.int x32)] := hL9.symm
    refine u_aload_n (pc := 33) C d_M_worthIf_33 rfl ?_
    refine u_getr (pc := 34) (r := 7) C d_M_worthIf_34 fw_M_30 sR_0 rfl rfl ?_
    refine u_iconst (pc := 37) (v := 0) C d_M_worthIf_37 (by decide) ?_
    refine u_aaldR (pc := 38) (r := 8) C d_M_worthIf_38 sR_7 lv0 rfl ?_
    refine u_aload_n (pc := 39) C d_M_worthIf_39 rfl ?_
    refine u_getr (pc := 40) (r := 6) C d_M_worthIf_40 fw_M_25 sR_0 rfl rfl ?_
    refine u_callSv (pc := 43) C d_M_worthIf_43 mx_M_copy mw_M_300 (c_M_copy sR_8 sR_6 (by decide)) rfl rfl (Nat.le_of_ble_eq_true rfl) (fun M43 q43 => ?_)
    obtain ⟨cb1, cb2⟩ := q43
    refine u_iload_n (pc := 46) C d_M_worthIf_46 rfl ?_
    refine u_iret (pc := 47) C d_M_worthIf_47 (hQ _ _ ⟨_, rfl, ?_⟩)
    refine ⟨by rw [e32, e29]; rfl, ?_⟩
    exact cp_back (q := 8) (by decide) cp1 cp2 o2 (fun p j => rn_th) (rn8 (by decide)) cb1 cb2 hL2
  · exact absurd (by decide : (-1 : Int32) < 0) c14
set_option maxRecDepth 20000 in
theorem c_M_worthC {cd : Nat → Nat → Int32} {n : Nat} {g : Gm} {tb : List Nat} {M : Mem} {p : Int32} {c : Nat} {th ev : List Int32} (hS : RS M cd n g tb) (ht0 : M.1 0 32 = 0) (hL0 : LGr M th ev) (hp : p = 0 ∨ p = 1) (hc : c < n) (h1 : g 3 c = 1) : Ct lyR y_M_worthIf b_M_worthIf 4 (some .int) 9 [.ref 0, .int (nI c), .int p] M (Pi fun r M' => r = wor (runG cd n (plG g c, tb)).1 p ∧ TQ M M' th ev) := by
  have n24 := hS.n24
  refine Ct.ofG mx_M_worthIf [some (.ref 0), some (.int (nI c)), some (.int p), none] rfl rfl (Nat.le_of_ble_eq_true rfl) (fun κ C hQ => ?_)
  refine u_aload_n (pc := 0) C d_M_worthIf_0 rfl ?_
  refine u_getr (pc := 1) (r := 6) C d_M_worthIf_1 fw_M_25 sR_0 rfl rfl ?_
  refine u_aload_n (pc := 4) C d_M_worthIf_4 rfl ?_
  refine u_getr (pc := 5) (r := 7) C d_M_worthIf_5 fw_M_30 sR_0 rfl rfl ?_
  refine u_iconst (pc := 8) (v := 0) C d_M_worthIf_8 (by decide) ?_
  refine u_aaldR (pc := 9) (r := 8) C d_M_worthIf_9 sR_7 lv0 rfl ?_
  refine u_callSv (pc := 10) C d_M_worthIf_10 mx_M_copy mw_M_300 (c_M_copy sR_6 sR_8 (by decide)) rfl rfl (Nat.le_of_ble_eq_true rfl) (fun M10 q10 => ?_)
  obtain ⟨cp1, cp2⟩ := q10
  obtain ⟨hS1, ht1, hL1, oc1⟩ := cp8 hS ht0 hL0 cp1 (by decide)
  refine u_iload_n (pc := 13) C d_M_worthIf_13 rfl ?_
  refine u_if_lt (pc := 14) (tgt := 22) C d_M_worthIf_14 rfl (fun c14 => ?_) (fun c14 => ?_)
  · exact absurd c14 (nI_pos (by omega))
  · refine u_aload_n (pc := 17) C d_M_worthIf_17 rfl ?_
    refine u_iload_n (pc := 18) C d_M_worthIf_18 rfl ?_
    refine u_callVv (pc := 19) C d_M_worthIf_19 mx_M_playIt mw_M_247 sR_0 rfl (c_M_playIt hS1 hc h1) rfl rfl (Nat.le_of_ble_eq_true rfl) (fun M19 q19 => ?_)
    obtain ⟨hSp, op⟩ := q19
    have htp := OfR.tr ht1 op (by unfold gR; decide)
    have hLp := hL1.g op
    refine u_aload_n (pc := 22) C d_M_worthIf_22 rfl ?_
    refine u_callVi (pc := 23) C d_M_worthIf_23 mx_M_runIt mw_M_288 sR_0 rfl (c_M_runIt (s := (plG g c, tb)) (Or.inl rfl) hSp htp hLp) rfl rfl (Nat.le_of_ble_eq_true rfl) (fun r23 M23 q23 => ?_)
    obtain ⟨e23, ⟨w1, w2, w3, hS2, hL2⟩, o2⟩ := q23
    rw [if_neg (by decide), if_neg (by decide)] at hL2
    refine u_pop (pc := 26) C d_M_worthIf_26 rfl ?_
    refine u_aload_n (pc := 27) C d_M_worthIf_27 rfl ?_
    refine u_iload_n (pc := 28) C d_M_worthIf_28 rfl ?_
    refine u_callVi (pc := 29) C d_M_worthIf_29 mx_M_worthOf mw_M_304 sR_0 rfl (c_worth2 hS2 hp) rfl rfl (Nat.le_of_ble_eq_true rfl) (fun r29 M29 q29 => ?_)
    obtain ⟨e29, q29⟩ := q29
    have q29 := q29.symm
    subst q29
    refine u_istore_n (pc := 32) C d_M_worthIf_32 rfl (fun x32 e32 L9 hL9 => ?_)
    obtain rfl : L9 = [some (.ref 0), some (.int (nI c)), some (.int p), some (.int x32)] := hL9.symm
    refine u_aload_n (pc := 33) C d_M_worthIf_33 rfl ?_
    refine u_getr (pc := 34) (r := 7) C d_M_worthIf_34 fw_M_30 sR_0 rfl rfl ?_
    refine u_iconst (pc := 37) (v := 0) C d_M_worthIf_37 (by decide) ?_
    refine u_aaldR (pc := 38) (r := 8) C d_M_worthIf_38 sR_7 lv0 rfl ?_
    refine u_aload_n (pc := 39) C d_M_worthIf_39 rfl ?_
    refine u_getr (pc := 40) (r := 6) C d_M_worthIf_40 fw_M_25 sR_0 rfl rfl ?_
    refine u_callSv (pc := 43) C d_M_worthIf_43 mx_M_copy mw_M_300 (c_M_copy sR_8 sR_6 (by decide)) rfl rfl (Nat.le_of_ble_eq_true rfl) (fun M43 q43 => ?_)
    obtain ⟨cb1, cb2⟩ := q43
    refine u_iload_n (pc := 46) C d_M_worthIf_46 rfl ?_
    refine u_iret (pc := 47) C d_M_worthIf_47 (hQ _ _ ⟨_, rfl, ?_⟩)
    refine ⟨by rw [e32, e29]; rfl, ?_⟩
    exact cp_back (q := 8) (by decide) cp1 cp2 ((op.mono (fun p j => g_rv)).mono (fun p j => rv_rn) |>.trans o2) (fun p j => rn_th) (rn8 (by decide)) cb1 cb2 hL2
set_option maxRecDepth 20000 in
theorem c_M_dry {w : Int32} {M : Mem} {σ : St} (hI : InvR M σ) : Ct lyR y_M_dry b_M_dry 4 (some .int) 9 [.ref 0, .int w] M (Pi fun r M' => r = sp_dry w σ ∧ InvR M' σ) := by
  have hS := hI.1
  have n24 := hS.n24
  have h5 := hS.2.2.1
  obtain ⟨k1, k2, k3, k4, k5⟩ := hS.cdc
  have ht0 := hI.2.2.2.2.2.2
  have hL0 := hI.2.2.2.2.2.1
  refine Ct.ofG mx_M_dry [some (.ref 0), some (.int w), none, none] rfl rfl (Nat.le_of_ble_eq_true rfl) (fun κ C hQ => ?_)
  refine u_iload_n (pc := 0) C d_M_dry_0 rfl ?_
  refine u_iconst (pc := 1) (v := 0) C d_M_dry_1 (by decide) ?_
  refine u_iconst (pc := 2) (v := 3) C d_M_dry_2 (by decide) ?_
  refine u_callSi (pc := 3) C d_M_dry_3 mx_M_in mw_M_73 (c_M_in) rfl rfl (Nat.le_of_ble_eq_true rfl) (fun r3 M3 q3 => ?_)
  obtain ⟨e3, q3⟩ := q3
  have q3 := q3.symm
  subst q3
  refine u_if_ne (pc := 6) (tgt := 12) C d_M_dry_6 rfl (fun c6 => ?_) (fun c6 => ?_)
  · rw [e3] at c6
    obtain ⟨t, ht3, rfl⟩ := inN (n := 3) rfl (by decide) c6
    have w0 : ¬ nI t < 0 := nI_pos (by omega)
    have w3' : nI t ≤ (3 : Int32) := nI_le (b := 3) ht3 (by decide)
    refine u_aload_n (pc := 12) C d_M_dry_12 rfl ?_
    refine u_getr (pc := 13) (r := 6) C d_M_dry_13 fw_M_25 sR_0 rfl rfl ?_
    refine u_aload_n (pc := 16) C d_M_dry_16 rfl ?_
    refine u_getr (pc := 17) (r := 7) C d_M_dry_17 fw_M_30 sR_0 rfl rfl ?_
    refine u_iconst (pc := 20) (v := 0) C d_M_dry_20 (by decide) ?_
    refine u_aaldR (pc := 21) (r := 8) C d_M_dry_21 sR_7 lv0 rfl ?_
    refine u_callSv (pc := 22) C d_M_dry_22 mx_M_copy mw_M_300 (c_M_copy sR_6 sR_8 (by decide)) rfl rfl (Nat.le_of_ble_eq_true rfl) (fun M22 q22 => ?_)
    obtain ⟨cp1, cp2⟩ := q22
    obtain ⟨hS1, ht1, hL1, oc1⟩ := cp8 hS ht0 hL0 cp1 (by decide)
    refine u_aload_n (pc := 25) C d_M_dry_25 rfl ?_
    refine u_callVi (pc := 26) C d_M_dry_26 mx_M_runIt mw_M_288 sR_0 rfl (c_M_runIt (s := (σ.1.2.2.1, σ.1.2.2.2)) (Or.inl rfl) hS1 ht1 hL1) rfl rfl (Nat.le_of_ble_eq_true rfl) (fun r26 M26 q26 => ?_)
    obtain ⟨e26, ⟨w1, w2, w3, hS2, hL2⟩, o2⟩ := q26
    rw [if_neg (by decide), if_neg (by decide)] at hL2
    refine u_istore_n (pc := 29) C d_M_dry_29 rfl (fun x29 e29 L9 hL9 => ?_)
    obtain rfl : L9 = [some (.ref 0), some (.int (nI t)), some (.int x29), none] := hL9.symm
    refine u_iload_n (pc := 30) C d_M_dry_30 rfl ?_
    refine u_if_ne (pc := 31) (tgt := 41) C d_M_dry_31 rfl (fun c31 => ?_) (fun c31 => ?_)
    · refine u_iload_n (pc := 41) C d_M_dry_41 rfl ?_
      refine u_iconst (pc := 42) (v := 1) C d_M_dry_42 (by decide) ?_
      refine u_icmp_ne (pc := 43) (tgt := 50) C d_M_dry_43 rfl (fun c43 => ?_) (fun c43 => ?_)
      · have ht23 : t = 2 ∨ t = 3 := by
          rcases (show t = 0 ∨ t = 1 ∨ t = 2 ∨ t = 3 by omega) with z | z | z | z
          · exact absurd (by rw [z]; rfl) c31
          · exact absurd (by rw [z]; rfl) c43
          · exact Or.inl z
          · exact Or.inr z
        have hix : (0 : Int32) + nI t - 2 = nI (t - 2) := by
          rw [show (0 : Int32) = nI 0 from rfl, show (2 : Int32) = nI 2 from rfl, nI_add, pk_sub (by omega)]
          exact congrArg nI (by omega)
        refine u_aload_n (pc := 50) C d_M_dry_50 rfl ?_
        refine u_getr (pc := 51) (r := 6) C d_M_dry_51 fw_M_25 sR_0 rfl rfl ?_
        refine u_iconst (pc := 54) (v := 0) C d_M_dry_54 (by decide) ?_
        refine u_iload_n (pc := 55) C d_M_dry_55 rfl ?_
        refine u_iadd (pc := 56) C d_M_dry_56 ?_
        refine u_iconst (pc := 57) (v := 2) C d_M_dry_57 (by decide) ?_
        refine u_isub (pc := 58) C d_M_dry_58 ?_
        refine u_iald (pc := 59) C d_M_dry_59 sR_6 (by rw [hix]; exact vp_in_nI (by omega) (by decide)) ?_
        refine u_istore_n (pc := 60) C d_M_dry_60 rfl (fun x60 e60 L9 hL9 => ?_)
        obtain rfl : L9 = [some (.ref 0), some (.int (nI t)), some (.int x29), some (.int x60)] := hL9.symm
        refine u_aload_n (pc := 61) C d_M_dry_61 rfl ?_
        refine u_getr (pc := 62) (r := 7) C d_M_dry_62 fw_M_30 sR_0 rfl rfl ?_
        refine u_iconst (pc := 65) (v := 0) C d_M_dry_65 (by decide) ?_
        refine u_aaldR (pc := 66) (r := 8) C d_M_dry_66 sR_7 lv0 rfl ?_
        refine u_aload_n (pc := 67) C d_M_dry_67 rfl ?_
        refine u_getr (pc := 68) (r := 6) C d_M_dry_68 fw_M_25 sR_0 rfl rfl ?_
        refine u_callSv (pc := 71) C d_M_dry_71 mx_M_copy mw_M_300 (c_M_copy sR_8 sR_6 (by decide)) rfl rfl (Nat.le_of_ble_eq_true rfl) (fun M71 q71 => ?_)
        obtain ⟨cb1, cb2⟩ := q71
        refine u_iload_n (pc := 74) C d_M_dry_74 rfl ?_
        refine u_iret (pc := 75) C d_M_dry_75 (hQ _ _ ⟨_, rfl, ?_⟩)
        refine ⟨?_, TQ.inv hI (cp_back (q := 8) (by decide) cp1 cp2 o2 (fun p j => rn_th) (rn8 (by decide)) cb1 cb2 hL2)⟩
        rw [hix, nI_clamp (by omega)] at e60
        obtain ⟨l1, l2⟩ := hS2.2.2.2.1
        rcases ht23 with z | z
        · subst z
          rw [sp_dry, if_neg w0, if_pos w3', if_neg c31, if_neg c43, if_pos (show nI 2 = 2 from rfl), e60]
          exact l1
        · subst z
          rw [sp_dry, if_neg w0, if_pos w3', if_neg c31, if_neg c43, if_neg (show ¬ nI 3 = 2 by decide), e60]
          exact l2
      · refine u_iload_n (pc := 46) C d_M_dry_46 rfl ?_
        refine u_goto (pc := 47) (tgt := 60) C d_M_dry_47 rfl ?_
        refine u_istore_n (pc := 60) C d_M_dry_60 rfl (fun x60 e60 L9 hL9 => ?_)
        obtain rfl : L9 = [some (.ref 0), some (.int (nI t)), some (.int x29), some (.int x60)] := hL9.symm
        refine u_aload_n (pc := 61) C d_M_dry_61 rfl ?_
        refine u_getr (pc := 62) (r := 7) C d_M_dry_62 fw_M_30 sR_0 rfl rfl ?_
        refine u_iconst (pc := 65) (v := 0) C d_M_dry_65 (by decide) ?_
        refine u_aaldR (pc := 66) (r := 8) C d_M_dry_66 sR_7 lv0 rfl ?_
        refine u_aload_n (pc := 67) C d_M_dry_67 rfl ?_
        refine u_getr (pc := 68) (r := 6) C d_M_dry_68 fw_M_25 sR_0 rfl rfl ?_
        refine u_callSv (pc := 71) C d_M_dry_71 mx_M_copy mw_M_300 (c_M_copy sR_8 sR_6 (by decide)) rfl rfl (Nat.le_of_ble_eq_true rfl) (fun M71 q71 => ?_)
        obtain ⟨cb1, cb2⟩ := q71
        refine u_iload_n (pc := 74) C d_M_dry_74 rfl ?_
        refine u_iret (pc := 75) C d_M_dry_75 (hQ _ _ ⟨_, rfl, ?_⟩)
        refine ⟨?_, TQ.inv hI (cp_back (q := 8) (by decide) cp1 cp2 o2 (fun p j => rn_th) (rn8 (by decide)) cb1 cb2 hL2)⟩
        rw [sp_dry, if_neg w0, if_pos w3', if_neg c31, if_pos c43, e60, e29, e26]
    · refine u_aload_n (pc := 34) C d_M_dry_34 rfl ?_
      refine u_geti (pc := 35) C d_M_dry_35 fw_M_279 sR_0 rfl ?_
      refine u_goto (pc := 38) (tgt := 60) C d_M_dry_38 rfl ?_
      refine u_istore_n (pc := 60) C d_M_dry_60 rfl (fun x60 e60 L9 hL9 => ?_)
      obtain rfl : L9 = [some (.ref 0), some (.int (nI t)), some (.int x29), some (.int x60)] := hL9.symm
      refine u_aload_n (pc := 61) C d_M_dry_61 rfl ?_
      refine u_getr (pc := 62) (r := 7) C d_M_dry_62 fw_M_30 sR_0 rfl rfl ?_
      refine u_iconst (pc := 65) (v := 0) C d_M_dry_65 (by decide) ?_
      refine u_aaldR (pc := 66) (r := 8) C d_M_dry_66 sR_7 lv0 rfl ?_
      refine u_aload_n (pc := 67) C d_M_dry_67 rfl ?_
      refine u_getr (pc := 68) (r := 6) C d_M_dry_68 fw_M_25 sR_0 rfl rfl ?_
      refine u_callSv (pc := 71) C d_M_dry_71 mx_M_copy mw_M_300 (c_M_copy sR_8 sR_6 (by decide)) rfl rfl (Nat.le_of_ble_eq_true rfl) (fun M71 q71 => ?_)
      obtain ⟨cb1, cb2⟩ := q71
      refine u_iload_n (pc := 74) C d_M_dry_74 rfl ?_
      refine u_iret (pc := 75) C d_M_dry_75 (hQ _ _ ⟨_, rfl, ?_⟩)
      refine ⟨?_, TQ.inv hI (cp_back (q := 8) (by decide) cp1 cp2 o2 (fun p j => rn_th) (rn8 (by decide)) cb1 cb2 hL2)⟩
      rw [sp_dry, if_neg w0, if_pos w3', if_pos c31, e60, w1]
  · refine u_ldc (pc := 9) C (mc_M_167) d_M_dry_9 ?_
    refine u_iret (pc := 11) C d_M_dry_11 (hQ _ _ ⟨_, rfl, ?_⟩)
    rw [e3] at c6
    refine ⟨?_, hI⟩
    rcases in_n c6 with q | q
    · rw [sp_dry, if_pos q]
    · rw [sp_dry]
      by_cases hz : w < 0
      · rw [if_pos hz]
      · rw [if_neg hz, if_neg (Int32.not_le.mpr q)]
set_option maxRecDepth 20000 in
theorem c_M_worth {c : Int32} {M : Mem} {σ : St} (hI : InvR M σ) : Ct lyR y_M_worth b_M_worth 2 (some .int) 10 [.ref 0, .int c] M (Pi fun r M' => r = sp_worth c σ ∧ InvR M' σ) := by
  have hS := hI.1
  have n24 := hS.n24
  have h5 := hS.2.2.1
  obtain ⟨k1, k2, k3, k4, k5⟩ := hS.cdc
  have ht0 := hI.2.2.2.2.2.2
  have hL0 := hI.2.2.2.2.2.1
  obtain ⟨h, hh64, hh4⟩ := hS.1.hb
  have hm : M.1 6 6 = nI h := by rw [← hh4]; exact hS.many
  refine Ct.ofG mx_M_worth [some (.ref 0), some (.int c)] rfl rfl (Nat.le_of_ble_eq_true rfl) (fun κ C hQ => ?_)
  refine u_aload_n (pc := 0) C d_M_worth_0 rfl ?_
  refine u_iload_n (pc := 1) C d_M_worth_1 rfl ?_
  refine u_callVi (pc := 2) C d_M_worth_2 mx_M_isCard mw_M_160 sR_0 rfl (c_M_isCard h5 n24) rfl rfl (Nat.le_of_ble_eq_true rfl) (fun r2 M2 q2 => ?_)
  obtain ⟨e2, q2⟩ := q2
  have q2 := q2.symm
  subst q2
  refine u_if_eq (pc := 5) (tgt := 43) C d_M_worth_5 rfl (fun c5 => ?_) (fun c5 => ?_)
  · refine u_ldc (pc := 43) C (mc_M_167) d_M_worth_43 ?_
    refine u_iret (pc := 45) C d_M_worth_45 (hQ _ _ ⟨_, rfl, ?_⟩)
    rw [e2] at c5
    exact ⟨by rw [sp_worth, if_pos c5], hI⟩
  · rw [e2] at c5
    obtain ⟨d, hd, rfl⟩ := has_ix c5 n24
    have d24 : d < 24 := by omega
    have dcl : (nI d).toNatClampNeg = d := nI_clamp (by omega)
    refine u_aload_n (pc := 8) C d_M_worth_8 rfl ?_
    refine u_iload_n (pc := 9) C d_M_worth_9 rfl ?_
    refine u_iconst (pc := 10) (v := 1) C d_M_worth_10 (by decide) ?_
    refine u_callVi (pc := 11) C d_M_worth_11 mx_M_isAt mw_M_164 sR_0 rfl (c_M_isAt d24) rfl rfl (Nat.le_of_ble_eq_true rfl) (fun r11 M11 q11 => ?_)
    obtain ⟨e11, q11⟩ := q11
    have q11 := q11.symm
    subst q11
    refine u_if_eq (pc := 14) (tgt := 43) C d_M_worth_14 rfl (fun c14 => ?_) (fun c14 => ?_)
    · refine u_ldc (pc := 43) C (mc_M_167) d_M_worth_43 ?_
      refine u_iret (pc := 45) C d_M_worth_45 (hQ _ _ ⟨_, rfl, ?_⟩)
      rw [hS.wh d24] at e11
      exact ⟨by rw [sp_worth, if_neg c5, dcl, if_neg (zero_of e11 c14)], hI⟩
    · rw [hS.wh d24] at e11
      have h1 := one_of e11 c14
      refine u_aload_n (pc := 17) C d_M_worth_17 rfl ?_
      refine u_getr (pc := 18) (r := 6) C d_M_worth_18 fw_M_25 sR_0 rfl rfl ?_
      refine u_bipush (pc := 21) (v := 6) C d_M_worth_21 (by decide) ?_
      refine u_iald (pc := 23) C d_M_worth_23 sR_6 v6 ?_
      refine u_bipush (pc := 24) (v := 64) C d_M_worth_24 (by decide) ?_
      refine u_icmp_ge (pc := 26) (tgt := 43) C d_M_worth_26 rfl (fun c26 => ?_) (fun c26 => ?_)
      · refine u_ldc (pc := 43) C (mc_M_167) d_M_worth_43 ?_
        refine u_iret (pc := 45) C d_M_worth_45 (hQ _ _ ⟨_, rfl, ?_⟩)
        rw [cl6, hm] at c26
        have hh : ¬ σ.1.2.2.1 1 4 < 64 := by rw [hh4]; exact Int32.not_lt.mpr c26
        exact ⟨by rw [sp_worth, if_neg c5, dcl, if_pos h1, if_neg hh], hI⟩
      · refine u_aload_n (pc := 29) C d_M_worth_29 rfl ?_
        refine u_iload_n (pc := 30) C d_M_worth_30 rfl ?_
        refine u_aload_n (pc := 31) C d_M_worth_31 rfl ?_
        refine u_getr (pc := 32) (r := 2) C d_M_worth_32 fw_M_13 sR_0 rfl rfl ?_
        refine u_iload_n (pc := 35) C d_M_worth_35 rfl ?_
        refine u_iald (pc := 36) C d_M_worth_36 sR_2 (vp24 d24) ?_
        refine u_callVi (pc := 37) C d_M_worth_37 mx_M_worthIf mw_M_307 sR_0 rfl (c_M_worthC hS ht0 hL0 (by rw [k2, dcl]; exact (hS.1.1.2 d hd).2.1) hd h1) rfl rfl (Nat.le_of_ble_eq_true rfl) (fun r37 M37 q37 => ?_)
        obtain ⟨e37, tq⟩ := q37
        refine u_goto (pc := 40) (tgt := 45) C d_M_worth_40 rfl ?_
        refine u_iret (pc := 45) C d_M_worth_45 (hQ _ _ ⟨_, rfl, ?_⟩)
        rw [cl6, hm] at c26
        have hh : σ.1.2.2.1 1 4 < 64 := by rw [hh4]; exact Int32.not_le.mp c26
        rw [k2, dcl] at e37
        exact ⟨by rw [sp_worth, if_neg c5, dcl, if_pos h1, if_pos hh, e37, wpl], TQ.inv hI tq⟩
