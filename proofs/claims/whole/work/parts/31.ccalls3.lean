/-! the class's calls that change the game -/
theorem InvC.game {M M' : Mem} {σ : St} {g : Gm} {tb : List Nat} {m : Nat} (h : InvC M σ) (ho : Off (blk 0) M M') (hR : RepG M' 0 σ.1.2.1 g tb m) (hm : m ≤ psum g σ.1.2.1) (hW : WFg σ.1.1 σ.1.2.1 g tb) : InvC M' (setGT σ (g, tb)) := by
  obtain ⟨h1, h2, -, h4, h5, h6, h7, h8, th, ev, h9⟩ := h
  have k : ∀ p, 13 ≤ p → M'.1 p = M.1 p := fun p hp => (ho p (fun q => by have q1 := q.2; unfold gp at q1; omega)).1
  refine ⟨hW, h2.off ho (fun p q1 q2 => blk_cd q1 q2), ⟨m, hm, hR⟩, ?_, ?_, ?_, ?_, h8.off ho (fun p q => g_l (by decide) q), ⟨th, ev, h9.off ho (fun p q => g_l (by decide) q)⟩⟩
  · rw [k 83 (by decide)]
    show match σ.2.1 with | none => _ | some i => _
    cases hi : σ.2.1 with
    | none => rw [hi] at h4; exact h4
    | some i =>
      rw [hi] at h4
      obtain ⟨a1, a2, a3, m', a4, a5⟩ := h4
      exact ⟨a1, a2, a3, m', a4, a5.off ho (fun p q z => by
        have q1 := q.2
        have z1 := z.1
        unfold gp at q1 z1
        omega)⟩
  · rw [k 76 (by decide), k 77 (by decide)]; exact h5
  · rw [k 82 (by decide)]; exact h6
  · rw [k 83 (by decide)]; exact h7
theorem InvC.gameG {M M' : Mem} {σ : St} {m : Nat} (h : InvC M σ) (g : Gm) (ho : Off (blk 0) M M') (hR : RepG M' 0 σ.1.2.1 g σ.1.2.2.2 m) (hm : m ≤ psum g σ.1.2.1) (hW : WFg σ.1.1 σ.1.2.1 g σ.1.2.2.2) : InvC M' (setG σ g) := h.game (tb := σ.1.2.2.2) ho hR hm hW
theorem RepG.base {M : Mem} {k n m v : Nat} {g : Gm} {tb : List Nat} {x : Int32} (r : RepG M k n g tb m) (hv : v < 4) : RepG (up M (gp k + 2) v x) k n (up2 g 5 v x) tb m := by
  obtain ⟨r1, r3, r4, r5, r6, r7, r8, r9, r10, r11, r12, r13, r14, r15⟩ := r
  refine ⟨by simpa [up, up2] using r1, fun u hu => ?_, by simpa [up, up2] using r4, by simpa [up, up2] using r5, by simpa [up, up2] using r6, by simpa [up, up2] using r7, by simp [up, r8], by simp [up, r9], by simp [up, up2, r10], by simp [up, up2, r11], by simp [up, up2, r12], by simp [up, up2, r13], by simp [up, up2, r14], by simp [up, r15]⟩
  by_cases e : u = v
  · subst e; simp [up, up2]
  · simp [up, up2, e, r3 u hu]
theorem RepG.setlife {M : Mem} {k n m : Nat} {g : Gm} {tb : List Nat} {p x : Int32} (r : RepG M k n g tb m) (hp : p = 0 ∨ p = 1) : RepG (putF M (gp k + 1) 2 p x) k n (up2 g 0 (pix p) x) tb m := by
  obtain ⟨r1, r3, r4, r5, r6, r7, r8, r9, r10, r11, r12, r13, r14, r15⟩ := r
  have e : putF M (gp k + 1) 2 p x = up M (gp k + 1) (pix p) x := by
    rw [(pl01 hp).1, putF_in (pl01 hp).2.1 (by decide)]
    rcases hp with rfl | rfl <;> rfl
  rw [e]
  exact ⟨by simp [up, up2, r1], by simpa [up, up2] using r3, by simpa [up, up2] using r4, by simpa [up, up2] using r5, by simpa [up, up2] using r6, by simpa [up, up2] using r7, by simp [up, r8], by simp [up, r9], by simp [up, up2, r10], by simp [up, up2, r11], by simp [up, up2, r12], by simp [up, up2, r13], by simp [up, up2, r14], by simp [up, r15]⟩
theorem psh_up {g : Gm} {x y : Int32} {c : Nat} : psh (up2 g 3 c y) x = up2 (psh g x) 3 c y := by
  rw [psh_def, psh_def, up2_s (show 1 ≠ 3 by decide)]
  split
  · funext a b
    by_cases h1 : a = 1 <;> by_cases h2 : a = 2 <;> by_cases h3 : a = 3 <;> simp [up2, h1, h2, h3]
  · rfl
theorem WFg.play {cd : Nat → Nat → Int32} {n c : Nat} {g : Gm} {tb : List Nat} (hw : WFg cd n g tb) (hc : c < n) (h1 : g 3 c = 1) : WFg cd n (up2 (psh g (nI c)) 3 c 2) tb := by
  have hp := hw.offpile hc (by rw [h1]; decide)
  have w := hw.place (p := 2) hc (by rw [h1]; decide) (by decide) (by decide) (by rw [h1]; intro q; exact absurd q (by decide)) hp
  rw [← psh_up]
  refine w.push (Or.inl ⟨c, hc, rfl, up2_e⟩) (fun _ i hi => ?_)
  rw [up2_s (show 1 ≠ 3 by decide)] at hi
  rw [up2_s (show 2 ≠ 3 by decide)]
  exact hp i hi
theorem mvd.play {n m c : Nat} {g : Gm} {x : Int32} (hc : c < n) (h1 : g 3 c = 1) : mvd n g m (up2 (psh g x) 3 c 2) (m + 1) := by
  refine mvd.mv (c := c) (x := 2) hc ?_ (by rw [h1]; decide)
  funext d
  by_cases e : d = c
  · subst e; rw [up2_e, up2_e]
  · rw [up2_n e, up2_n e, psh_s (by decide) (by decide)]
def sp_seed (v : Int32) (σ : St) : Int32 × St := (σ.1.2.2.1 1 1, setG σ (up2 σ.1.2.2.1 1 1 v))
set_option maxRecDepth 20000 in
theorem c_L_seed {v : Int32} {M : Mem} {σ : St} (hI : InvC M σ) : Ct lyC y_L_seed b_L_seed 3 (some .int) 0 [.ref 83, .int v] M (Pi fun r M' => r = (sp_seed v σ).1 ∧ InvC M' (sp_seed v σ).2) := by
  obtain ⟨m, hm, hR⟩ := hI.R
  have hW := hI.1
  have hcd := hI.2.1
  have hn := hW.1.1
  have r8 := hR.2.2.2.2.2.2.1
  refine Ct.ofG mx_L_seed [some (.ref 83), some (.int v), none] rfl rfl (Nat.le_of_ble_eq_true rfl) (fun κ C hQ => ?_)
  refine u_aload_n (pc := 0) C d_L_seed_0 rfl ?_
  refine u_getr (pc := 1) (r := (gp 0)) C d_L_seed_1 fw_L_21 sC_83 rfl rfl ?_
  refine u_geti (pc := 4) C d_L_seed_4 fw_L_275 (shG0 (by decide)) rfl ?_
  refine u_istore_n (pc := 7) C d_L_seed_7 rfl (fun x7 e7 L9 hL9 => ?_)
  obtain rfl : L9 = [some (.ref 83), some (.int v), some (.int x7)] := hL9.symm
  refine u_aload_n (pc := 8) C d_L_seed_8 rfl ?_
  refine u_getr (pc := 9) (r := (gp 0)) C d_L_seed_9 fw_L_21 sC_83 rfl rfl ?_
  refine u_iload_n (pc := 12) C d_L_seed_12 rfl ?_
  refine u_put (pc := 13) C d_L_seed_13 fw_L_275 (shG0 (by decide)) rfl (Or.inl rfl) ?_
  refine u_iload_n (pc := 16) C d_L_seed_16 rfl ?_
  refine u_iret (pc := 17) C d_L_seed_17 (hQ _ _ ⟨_, rfl, ?_⟩)
  exact ⟨by rw [e7]; exact hR.2.2.2.2.2.2.2.2.2.2.2.2.1, hI.gameG (up2 σ.1.2.2.1 1 1 v) (Off.up blk0) hR.seed (by rw [psum_eq (g := up2 σ.1.2.2.1 1 1 v) (h := σ.1.2.2.1) (fun c _ => by rw [up2_s (by decide)])]; exact hm) (hW.seed v)⟩
def sp_deal (c : Int32) (σ : St) : Int32 × St := if hasF (nI σ.1.2.1) c = 0 then (-1, σ) else if σ.1.2.2.1 3 c.toNatClampNeg = 0 then (1, setG σ (up2 σ.1.2.2.1 3 c.toNatClampNeg 1)) else (-5, σ)
set_option maxRecDepth 20000 in
theorem c_L_deal {c : Int32} {M : Mem} {σ : St} (hI : InvC M σ) : Ct lyC y_L_deal b_L_deal 2 (some .int) 2 [.ref 83, .int c] M (Pi fun r M' => r = (sp_deal c σ).1 ∧ InvC M' (sp_deal c σ).2) := by
  obtain ⟨m, hm, hR⟩ := hI.R
  have hW := hI.1
  have hcd := hI.2.1
  have hn := hW.1.1
  have r8 := hR.2.2.2.2.2.2.1
  refine Ct.ofG mx_L_deal [some (.ref 83), some (.int c)] rfl rfl (Nat.le_of_ble_eq_true rfl) (fun κ C hQ => ?_)
  refine u_aload_n (pc := 0) C d_L_deal_0 rfl ?_
  refine u_getr (pc := 1) (r := (gp 0)) C d_L_deal_1 fw_L_21 sC_83 rfl rfl ?_
  refine u_iload_n (pc := 4) C d_L_deal_4 rfl ?_
  refine u_callVi (pc := 5) C d_L_deal_5 mx_G_has mw_L_137 (shG0 (by decide)) rfl (c_G_has (by decide)) rfl rfl (Nat.le_of_ble_eq_true rfl) (fun r5 M5 q5 => ?_)
  obtain ⟨e5, q5⟩ := q5
  have q5 := q5.symm
  subst q5
  refine u_if_ne (pc := 8) (tgt := 13) C d_L_deal_8 rfl (fun c8 => ?_) (fun c8 => ?_)
  · refine u_aload_n (pc := 13) C d_L_deal_13 rfl ?_
    refine u_getr (pc := 14) (r := (gp 0)) C d_L_deal_14 fw_L_21 sC_83 rfl rfl ?_
    refine u_getr (pc := 17) (r := (gp 0 + 3)) C d_L_deal_17 fw_L_149 (shG0 (by decide)) rfl rfl ?_
    refine u_iload_n (pc := 20) C d_L_deal_20 rfl ?_
    refine u_callSi (pc := 21) C d_L_deal_21 mx_L_at mw_L_124 (c_L_at (shG3 (by decide))) rfl rfl (Nat.le_of_ble_eq_true rfl) (fun r21 M21 q21 => ?_)
    obtain ⟨e21, q21⟩ := q21
    have q21 := q21.symm
    subst q21
    refine u_if_eq (pc := 24) (tgt := 30) C d_L_deal_24 rfl (fun c24 => ?_) (fun c24 => ?_)
    · refine u_aload_n (pc := 30) C d_L_deal_30 rfl ?_
      refine u_getr (pc := 31) (r := (gp 0)) C d_L_deal_31 fw_L_21 sC_83 rfl rfl ?_
      refine u_iload_n (pc := 34) C d_L_deal_34 rfl ?_
      refine u_iconst (pc := 35) (v := 1) C d_L_deal_35 (by decide) ?_
      refine u_callVv (pc := 36) C d_L_deal_36 mx_G_moveTo mw_L_155 (shG0 (by decide)) rfl (c_G_moveTo (by decide)) rfl rfl (Nat.le_of_ble_eq_true rfl) (fun M36 q36 => ?_)
      have q36 := q36.symm
      subst q36
      refine u_iconst (pc := 39) (v := 1) C d_L_deal_39 (by decide) ?_
      refine u_iret (pc := 40) C d_L_deal_40 (hQ _ _ ⟨_, rfl, ?_⟩)
      rw [e5, r8] at c8
      obtain ⟨d, hd, rfl⟩ := has_ix c8 hn
      have hd24 : d < 24 := by omega
      rw [e21, atF_in hd24 (by decide), hR.2.2.1 d hd24] at c24
      rw [sp_deal, if_neg c8, nI_clamp (by omega), if_pos c24]
      have hv : mvd σ.1.2.1 σ.1.2.2.1 m (up2 σ.1.2.2.1 3 d 1) (m + 1) := mvd.mv (x := 1) hd rfl (by rw [c24]; decide)
      exact ⟨rfl, hI.gameG _ mvF_off (hR.mv hd24) (hv.le hm) (hW.place (p := 1) hd (by rw [c24]; decide) (by decide) (by decide) (by rw [c24]; intro q; exact absurd q (by decide)) (hW.offpile hd (by rw [c24]; decide)))⟩
    · refine u_bipush (pc := 27) (v := (-5)) C d_L_deal_27 (by decide) ?_
      refine u_iret (pc := 29) C d_L_deal_29 (hQ _ _ ⟨_, rfl, ?_⟩)
      rw [e5, r8] at c8
      obtain ⟨d, hd, rfl⟩ := has_ix c8 hn
      have hd24 : d < 24 := by omega
      rw [e21, atF_in hd24 (by decide), hR.2.2.1 d hd24] at c24
      rw [sp_deal, if_neg c8, nI_clamp (by omega), if_neg c24]
      exact ⟨rfl, hI⟩
  · refine u_iconst (pc := 11) (v := (-1)) C d_L_deal_11 (by decide) ?_
    refine u_iret (pc := 12) C d_L_deal_12 (hQ _ _ ⟨_, rfl, ?_⟩)
    rw [e5, r8] at c8
    rw [sp_deal, if_pos c8]
    exact ⟨rfl, hI⟩
def sp_base (v x : Int32) (σ : St) : Int32 × St := if v < 0 then (-2000000000, σ) else if 4 ≤ v then (-2000000000, σ) else if x < -99 then (-2000000000, σ) else if x ≤ 99 then (σ.1.2.2.1 5 v.toNatClampNeg, setG σ (up2 σ.1.2.2.1 5 v.toNatClampNeg x)) else (-2000000000, σ)
set_option maxRecDepth 20000 in
theorem c_L_base {v x : Int32} {M : Mem} {σ : St} (hI : InvC M σ) : Ct lyC y_L_base b_L_base 4 (some .int) 1 [.ref 83, .int v, .int x] M (Pi fun r M' => r = (sp_base v x σ).1 ∧ InvC M' (sp_base v x σ).2) := by
  obtain ⟨m, hm, hR⟩ := hI.R
  have hW := hI.1
  have hcd := hI.2.1
  have hn := hW.1.1
  have r8 := hR.2.2.2.2.2.2.1
  refine Ct.ofG mx_L_base [some (.ref 83), some (.int v), some (.int x), none] rfl rfl (Nat.le_of_ble_eq_true rfl) (fun κ C hQ => ?_)
  refine u_iload_n (pc := 0) C d_L_base_0 rfl ?_
  refine u_if_lt (pc := 1) (tgt := 21) C d_L_base_1 rfl (fun c1 => ?_) (fun c1 => ?_)
  · refine u_ldc (pc := 21) C (mc_L_159) d_L_base_21 ?_
    refine u_iret (pc := 23) C d_L_base_23 (hQ _ _ ⟨_, rfl, ?_⟩)
    rw [sp_base, if_pos c1]
    exact ⟨rfl, hI⟩
  · refine u_iload_n (pc := 4) C d_L_base_4 rfl ?_
    refine u_iconst (pc := 5) (v := 4) C d_L_base_5 (by decide) ?_
    refine u_icmp_ge (pc := 6) (tgt := 21) C d_L_base_6 rfl (fun c6 => ?_) (fun c6 => ?_)
    · refine u_ldc (pc := 21) C (mc_L_159) d_L_base_21 ?_
      refine u_iret (pc := 23) C d_L_base_23 (hQ _ _ ⟨_, rfl, ?_⟩)
      rw [sp_base, if_neg c1, if_pos c6]
      exact ⟨rfl, hI⟩
    · refine u_iload_n (pc := 9) C d_L_base_9 rfl ?_
      refine u_bipush (pc := 10) (v := (-99)) C d_L_base_10 (by decide) ?_
      refine u_icmp_lt (pc := 12) (tgt := 21) C d_L_base_12 rfl (fun c12 => ?_) (fun c12 => ?_)
      · refine u_ldc (pc := 21) C (mc_L_159) d_L_base_21 ?_
        refine u_iret (pc := 23) C d_L_base_23 (hQ _ _ ⟨_, rfl, ?_⟩)
        rw [sp_base, if_neg c1, if_neg c6, if_pos c12]
        exact ⟨rfl, hI⟩
      · refine u_iload_n (pc := 15) C d_L_base_15 rfl ?_
        refine u_bipush (pc := 16) (v := 99) C d_L_base_16 (by decide) ?_
        refine u_icmp_le (pc := 18) (tgt := 24) C d_L_base_18 rfl (fun c18 => ?_) (fun c18 => ?_)
        · refine u_aload_n (pc := 24) C d_L_base_24 rfl ?_
          refine u_getr (pc := 25) (r := (gp 0)) C d_L_base_25 fw_L_21 sC_83 rfl rfl ?_
          refine u_getr (pc := 28) (r := (gp 0 + 2)) C d_L_base_28 fw_L_160 (shG0 (by decide)) rfl rfl ?_
          refine u_iload_n (pc := 31) C d_L_base_31 rfl ?_
          refine u_callSi (pc := 32) C d_L_base_32 mx_L_at mw_L_124 (c_L_at (shG2 (by decide))) rfl rfl (Nat.le_of_ble_eq_true rfl) (fun r32 M32 q32 => ?_)
          obtain ⟨e32, q32⟩ := q32
          have q32 := q32.symm
          subst q32
          refine u_istore_n (pc := 35) C d_L_base_35 rfl (fun x35 e35 L9 hL9 => ?_)
          obtain rfl : L9 = [some (.ref 83), some (.int v), some (.int x), some (.int x35)] := hL9.symm
          refine u_aload_n (pc := 36) C d_L_base_36 rfl ?_
          refine u_getr (pc := 37) (r := (gp 0)) C d_L_base_37 fw_L_21 sC_83 rfl rfl ?_
          refine u_getr (pc := 40) (r := (gp 0 + 2)) C d_L_base_40 fw_L_160 (shG0 (by decide)) rfl rfl ?_
          refine u_iload_n (pc := 43) C d_L_base_43 rfl ?_
          refine u_iload_n (pc := 44) C d_L_base_44 rfl ?_
          refine u_callSv (pc := 45) C d_L_base_45 mx_L_put mw_L_163 (c_L_put (shG2 (by decide))) rfl rfl (Nat.le_of_ble_eq_true rfl) (fun M45 q45 => ?_)
          have q45 := q45.symm
          subst q45
          refine u_iload_n (pc := 48) C d_L_base_48 rfl ?_
          refine u_iret (pc := 49) C d_L_base_49 (hQ _ _ ⟨_, rfl, ?_⟩)
          obtain ⟨j, hj, rfl⟩ := nI_of c1
          have hj4 : j < 4 := (nI_ltI (b := 4) hj (by decide)).mp (Int32.not_le.mp c6)
          rw [sp_base, if_neg c1, if_neg c6, if_neg c12, if_pos c18, nI_clamp hj]
          rw [e32, atF_in hj4 (by decide), hR.2.1 j hj4] at e35
          refine ⟨e35, ?_⟩
          rw [putF_in hj4 (by decide)]
          have hlo : -99 ≤ x.toInt := Int32.le_iff_toInt_le.mp (Int32.not_lt.mp c12)
          have hhi : x.toInt ≤ 99 := Int32.le_iff_toInt_le.mp c18
          refine hI.gameG (up2 σ.1.2.2.1 5 j x) (Off.up (blkj 2 (by decide))) (hR.base hj4) (by rw [psum_eq (g := up2 σ.1.2.2.1 5 j x) (h := σ.1.2.2.1) (fun c _ => by rw [up2_s (by decide)])]; exact hm) ?_
          obtain ⟨a1, a2, a3, a4, a5, a6, a7⟩ := hW
          refine ⟨a1, ?_, ?_, ?_, ?_, ?_, fun u hu => ?_⟩
          · rw [show (up2 σ.1.2.2.1 5 j x) 3 = σ.1.2.2.1 3 from up2_s (by decide), show (up2 σ.1.2.2.1 5 j x) 4 = σ.1.2.2.1 4 from up2_s (by decide)]; exact a2
          · rw [show (up2 σ.1.2.2.1 5 j x) 3 = σ.1.2.2.1 3 from up2_s (by decide)]; exact a3
          · unfold thV
            rw [show (up2 σ.1.2.2.1 5 j x) 3 = σ.1.2.2.1 3 from up2_s (by decide), show (up2 σ.1.2.2.1 5 j x) 2 = σ.1.2.2.1 2 from up2_s (by decide), show (up2 σ.1.2.2.1 5 j x) 1 = σ.1.2.2.1 1 from up2_s (by decide)]; exact a4
          · rw [tc_eq (g := up2 σ.1.2.2.1 5 j x) (h := σ.1.2.2.1) (fun c _ => by rw [up2_s (by decide)]), show (up2 σ.1.2.2.1 5 j x) 1 = σ.1.2.2.1 1 from up2_s (by decide), show (up2 σ.1.2.2.1 5 j x) 4 = σ.1.2.2.1 4 from up2_s (by decide)]; exact a5
          · rw [show (up2 σ.1.2.2.1 5 j x) 1 = σ.1.2.2.1 1 from up2_s (by decide)]; exact a6
          · by_cases e : u = j
            · subst e; rw [up2_e]; exact ⟨hlo, hhi⟩
            · rw [up2_n e]; exact a7 u hu
        · refine u_ldc (pc := 21) C (mc_L_159) d_L_base_21 ?_
          refine u_iret (pc := 23) C d_L_base_23 (hQ _ _ ⟨_, rfl, ?_⟩)
          rw [sp_base, if_neg c1, if_neg c6, if_neg c12, if_neg c18]
          exact ⟨rfl, hI⟩
def sp_mend (p x : Int32) (σ : St) : Int32 × St := if p = 0 ∨ p = 1 then (if x < -99 then (-2000000000, σ) else if x ≤ 99 then (σ.1.2.2.1 0 (pix p), setG σ (up2 σ.1.2.2.1 0 (pix p) x)) else (-2000000000, σ)) else (-2000000000, σ)
set_option maxRecDepth 20000 in
theorem c_L_mend {p x : Int32} {M : Mem} {σ : St} (hI : InvC M σ) : Ct lyC y_L_mend b_L_mend 4 (some .int) 1 [.ref 83, .int p, .int x] M (Pi fun r M' => r = (sp_mend p x σ).1 ∧ InvC M' (sp_mend p x σ).2) := by
  obtain ⟨m, hm, hR⟩ := hI.R
  have hW := hI.1
  have hcd := hI.2.1
  have hn := hW.1.1
  have r8 := hR.2.2.2.2.2.2.1
  refine Ct.ofG mx_L_mend [some (.ref 83), some (.int p), some (.int x), none] rfl rfl (Nat.le_of_ble_eq_true rfl) (fun κ C hQ => ?_)
  refine u_iload_n (pc := 0) C d_L_mend_0 rfl ?_
  refine u_callSi (pc := 1) C d_L_mend_1 mx_L_isPlayer mw_L_91 (c_L_isPlayer) rfl rfl (Nat.le_of_ble_eq_true rfl) (fun r1 M1 q1 => ?_)
  obtain ⟨e1, q1⟩ := q1
  have q1 := q1.symm
  subst q1
  refine u_if_eq (pc := 4) (tgt := 19) C d_L_mend_4 rfl (fun c4 => ?_) (fun c4 => ?_)
  · refine u_ldc (pc := 19) C (mc_L_159) d_L_mend_19 ?_
    refine u_iret (pc := 21) C d_L_mend_21 (hQ _ _ ⟨_, rfl, ?_⟩)
    have hp : ¬ (p = 0 ∨ p = 1) := fun q => absurd ((e1.trans (if_pos q)).symm.trans c4) (by decide)
    rw [sp_mend, if_neg hp]
    exact ⟨rfl, hI⟩
  · refine u_iload_n (pc := 7) C d_L_mend_7 rfl ?_
    refine u_bipush (pc := 8) (v := (-99)) C d_L_mend_8 (by decide) ?_
    refine u_icmp_lt (pc := 10) (tgt := 19) C d_L_mend_10 rfl (fun c10 => ?_) (fun c10 => ?_)
    · refine u_ldc (pc := 19) C (mc_L_159) d_L_mend_19 ?_
      refine u_iret (pc := 21) C d_L_mend_21 (hQ _ _ ⟨_, rfl, ?_⟩)
      have hp : p = 0 ∨ p = 1 := by
        rcases Classical.em (p = 0 ∨ p = 1) with q | q
        · exact q
        · exact absurd (e1.trans (if_neg q)) c4
      rw [sp_mend, if_pos hp, if_pos c10]
      exact ⟨rfl, hI⟩
    · refine u_iload_n (pc := 13) C d_L_mend_13 rfl ?_
      refine u_bipush (pc := 14) (v := 99) C d_L_mend_14 (by decide) ?_
      refine u_icmp_le (pc := 16) (tgt := 22) C d_L_mend_16 rfl (fun c16 => ?_) (fun c16 => ?_)
      · refine u_aload_n (pc := 22) C d_L_mend_22 rfl ?_
        refine u_getr (pc := 23) (r := (gp 0)) C d_L_mend_23 fw_L_21 sC_83 rfl rfl ?_
        refine u_getr (pc := 26) (r := (gp 0 + 1)) C d_L_mend_26 fw_L_167 (shG0 (by decide)) rfl rfl ?_
        refine u_iload_n (pc := 29) C d_L_mend_29 rfl ?_
        refine u_callSi (pc := 30) C d_L_mend_30 mx_L_at mw_L_124 (c_L_at (shG1 (by decide))) rfl rfl (Nat.le_of_ble_eq_true rfl) (fun r30 M30 q30 => ?_)
        obtain ⟨e30, q30⟩ := q30
        have q30 := q30.symm
        subst q30
        refine u_istore_n (pc := 33) C d_L_mend_33 rfl (fun x33 e33 L9 hL9 => ?_)
        obtain rfl : L9 = [some (.ref 83), some (.int p), some (.int x), some (.int x33)] := hL9.symm
        refine u_aload_n (pc := 34) C d_L_mend_34 rfl ?_
        refine u_getr (pc := 35) (r := (gp 0)) C d_L_mend_35 fw_L_21 sC_83 rfl rfl ?_
        refine u_getr (pc := 38) (r := (gp 0 + 1)) C d_L_mend_38 fw_L_167 (shG0 (by decide)) rfl rfl ?_
        refine u_iload_n (pc := 41) C d_L_mend_41 rfl ?_
        refine u_iload_n (pc := 42) C d_L_mend_42 rfl ?_
        refine u_callSv (pc := 43) C d_L_mend_43 mx_L_put mw_L_163 (c_L_put (shG1 (by decide))) rfl rfl (Nat.le_of_ble_eq_true rfl) (fun M43 q43 => ?_)
        have q43 := q43.symm
        subst q43
        refine u_iload_n (pc := 46) C d_L_mend_46 rfl ?_
        refine u_iret (pc := 47) C d_L_mend_47 (hQ _ _ ⟨_, rfl, ?_⟩)
        have hp : p = 0 ∨ p = 1 := by
          rcases Classical.em (p = 0 ∨ p = 1) with q | q
          · exact q
          · exact absurd (e1.trans (if_neg q)) c4
        rw [sp_mend, if_pos hp, if_neg c10, if_pos c16]
        rw [e30, hR.life hp] at e33
        refine ⟨e33, hI.gameG (up2 σ.1.2.2.1 0 (pix p) x) (Off.put (blkj 1 (by decide))) (hR.setlife hp) (by rw [psum_eq (g := up2 σ.1.2.2.1 0 (pix p) x) (h := σ.1.2.2.1) (fun c _ => by rw [up2_s (by decide)])]; exact hm) ?_⟩
        exact hW.keep (up2_s (by decide)) (up2_s (by decide)) (up2_s (by decide)) (up2_s (by decide)) (by rw [up2_s (by decide)]) (by rw [up2_s (by decide)]) (by rw [up2_s (by decide)])
      · refine u_ldc (pc := 19) C (mc_L_159) d_L_mend_19 ?_
        refine u_iret (pc := 21) C d_L_mend_21 (hQ _ _ ⟨_, rfl, ?_⟩)
        have hp : p = 0 ∨ p = 1 := by
          rcases Classical.em (p = 0 ∨ p = 1) with q | q
          · exact q
          · exact absurd (e1.trans (if_neg q)) c4
        rw [sp_mend, if_pos hp, if_neg c10, if_neg c16]
        exact ⟨rfl, hI⟩
def sp_play (c : Int32) (σ : St) : Int32 × St := if hasF (nI σ.1.2.1) c = 0 then (-1, σ) else if σ.1.2.2.1 3 c.toNatClampNeg = 1 then (if σ.1.2.2.1 1 4 < 64 then (σ.1.2.2.1 1 4 + 1, setG σ (up2 (psh σ.1.2.2.1 c) 3 c.toNatClampNeg 2)) else (-3, σ)) else (-5, σ)
set_option maxRecDepth 20000 in
theorem c_L_play {c : Int32} {M : Mem} {σ : St} (hI : InvC M σ) : Ct lyC y_L_play b_L_play 2 (some .int) 3 [.ref 83, .int c] M (Pi fun r M' => r = (sp_play c σ).1 ∧ InvC M' (sp_play c σ).2) := by
  obtain ⟨m, hm, hR⟩ := hI.R
  have hW := hI.1
  have hcd := hI.2.1
  have hn := hW.1.1
  have r8 := hR.2.2.2.2.2.2.1
  have r10 : M.1 (gp 0) 9 = σ.1.2.2.1 1 4 := hR.2.2.2.2.2.2.2.2.1
  refine Ct.ofG mx_L_play [some (.ref 83), some (.int c)] rfl rfl (Nat.le_of_ble_eq_true rfl) (fun κ C hQ => ?_)
  refine u_aload_n (pc := 0) C d_L_play_0 rfl ?_
  refine u_getr (pc := 1) (r := (gp 0)) C d_L_play_1 fw_L_21 sC_83 rfl rfl ?_
  refine u_iload_n (pc := 4) C d_L_play_4 rfl ?_
  refine u_callVi (pc := 5) C d_L_play_5 mx_G_has mw_L_137 (shG0 (by decide)) rfl (c_G_has (by decide)) rfl rfl (Nat.le_of_ble_eq_true rfl) (fun r5 M5 q5 => ?_)
  obtain ⟨e5, q5⟩ := q5
  have q5 := q5.symm
  subst q5
  refine u_if_ne (pc := 8) (tgt := 13) C d_L_play_8 rfl (fun c8 => ?_) (fun c8 => ?_)
  · refine u_aload_n (pc := 13) C d_L_play_13 rfl ?_
    refine u_getr (pc := 14) (r := (gp 0)) C d_L_play_14 fw_L_21 sC_83 rfl rfl ?_
    refine u_getr (pc := 17) (r := (gp 0 + 3)) C d_L_play_17 fw_L_149 (shG0 (by decide)) rfl rfl ?_
    refine u_iload_n (pc := 20) C d_L_play_20 rfl ?_
    refine u_callSi (pc := 21) C d_L_play_21 mx_L_at mw_L_124 (c_L_at (shG3 (by decide))) rfl rfl (Nat.le_of_ble_eq_true rfl) (fun r21 M21 q21 => ?_)
    obtain ⟨e21, q21⟩ := q21
    have q21 := q21.symm
    subst q21
    refine u_iconst (pc := 24) (v := 1) C d_L_play_24 (by decide) ?_
    refine u_icmp_eq (pc := 25) (tgt := 31) C d_L_play_25 rfl (fun c25 => ?_) (fun c25 => ?_)
    · refine u_aload_n (pc := 31) C d_L_play_31 rfl ?_
      refine u_getr (pc := 32) (r := (gp 0)) C d_L_play_32 fw_L_21 sC_83 rfl rfl ?_
      refine u_geti (pc := 35) C d_L_play_35 fw_L_211 (shG0 (by decide)) rfl ?_
      refine u_bipush (pc := 38) (v := 64) C d_L_play_38 (by decide) ?_
      refine u_icmp_lt (pc := 40) (tgt := 46) C d_L_play_40 rfl (fun c40 => ?_) (fun c40 => ?_)
      · refine u_aload_n (pc := 46) C d_L_play_46 rfl ?_
        refine u_getr (pc := 47) (r := (gp 0)) C d_L_play_47 fw_L_21 sC_83 rfl rfl ?_
        refine u_iload_n (pc := 50) C d_L_play_50 rfl ?_
        refine u_callVv (pc := 51) C d_L_play_51 mx_G_playCard mw_L_214 (shG0 (by decide)) rfl (c_G_playCard (by decide)) rfl rfl (Nat.le_of_ble_eq_true rfl) (fun M51 q51 => ?_)
        have q51 := q51.symm
        subst q51
        refine u_aload_n (pc := 54) C d_L_play_54 rfl ?_
        refine u_getr (pc := 55) (r := (gp 0)) C d_L_play_55 fw_L_21 sC_83 rfl rfl ?_
        refine u_geti (pc := 58) C d_L_play_58 fw_L_211 (shG0 (by decide)) rfl ?_
        refine u_iret (pc := 61) C d_L_play_61 (hQ _ _ ⟨_, rfl, ?_⟩)
        rw [e5, r8] at c8
        obtain ⟨d, hd, rfl⟩ := has_ix c8 hn
        have hd24 : d < 24 := by omega
        rw [e21, atF_in hd24 (by decide), hR.2.2.1 d hd24] at c25
        have c40 : M.1 (gp 0) 9 < 64 := c40
        have epl : plF M 0 (nI d) = mvF (pushF M 0 (nI d)) 0 (nI d) 2 := by rw [plF, if_pos c40]
        rw [r10] at c40
        obtain ⟨h, h64, hh⟩ := hW.hb
        have hR2 := (hR.push (x := nI d) hh h64).mv (pl := 2) hd24
        have hv : mvd σ.1.2.1 σ.1.2.2.1 m (up2 (psh σ.1.2.2.1 (nI d)) 3 d 2) (m + 1) := mvd.play hd c25
        rw [sp_play, if_neg c8, nI_clamp (by omega), if_pos c25, if_pos c40, epl]
        refine ⟨?_, hI.gameG _ (pushF_off.trans mvF_off) hR2 (hv.le hm) (hW.play hd c25)⟩
        have h9 := hR2.2.2.2.2.2.2.2.2.1
        rw [show (up2 (psh σ.1.2.2.1 (nI d)) 3 d 2) 1 4 = σ.1.2.2.1 1 4 + 1 by rw [up2_s (by decide), psh_def, if_pos c40, up2_e]] at h9
        exact h9
      · refine u_bipush (pc := 43) (v := (-3)) C d_L_play_43 (by decide) ?_
        refine u_iret (pc := 45) C d_L_play_45 (hQ _ _ ⟨_, rfl, ?_⟩)
        rw [e5, r8] at c8
        obtain ⟨d, hd, rfl⟩ := has_ix c8 hn
        have hd24 : d < 24 := by omega
        rw [e21, atF_in hd24 (by decide), hR.2.2.1 d hd24] at c25
        have c40 : ¬ M.1 (gp 0) 9 < 64 := c40
        rw [r10] at c40
        rw [sp_play, if_neg c8, nI_clamp (by omega), if_pos c25, if_neg c40]
        exact ⟨rfl, hI⟩
    · refine u_bipush (pc := 28) (v := (-5)) C d_L_play_28 (by decide) ?_
      refine u_iret (pc := 30) C d_L_play_30 (hQ _ _ ⟨_, rfl, ?_⟩)
      rw [e5, r8] at c8
      obtain ⟨d, hd, rfl⟩ := has_ix c8 hn
      have hd24 : d < 24 := by omega
      rw [e21, atF_in hd24 (by decide), hR.2.2.1 d hd24] at c25
      rw [sp_play, if_neg c8, nI_clamp (by omega), if_neg c25]
      exact ⟨rfl, hI⟩
  · refine u_iconst (pc := 11) (v := (-1)) C d_L_play_11 (by decide) ?_
    refine u_iret (pc := 12) C d_L_play_12 (hQ _ _ ⟨_, rfl, ?_⟩)
    rw [e5, r8] at c8
    rw [sp_play, if_pos c8]
    exact ⟨rfl, hI⟩
