/-! the reference's tape: a line -/
def zw (t : List Int32) (cu : Nat) : Int32 × (Nat × Option Nat) := whF t cu
def zp (t : List Int32) (cu : Nat) : Int32 × (Nat × Option Nat) := dgs t 1 (zw t cu).2
def zv (t : List Int32) (cu : Nat) : Int32 × (Nat × Option Nat) := dgs t 3 (zp t cu).2
def zx (t : List Int32) (cu : Nat) : Int32 × (Nat × Option Nat) := dgs t 3 (zv t cu).2
def z4 (t : List Int32) (cu : Nat) : Nat × Option Nat := (mst t 32 32 (zx t cu).2).2
def zl (t : List Int32) (cu : Nat) : Bool := decide ((z4 t cu).2 = none) && sesB t 45 45 (z4 t cu).1
def z5 (t : List Int32) (cu : Nat) : Nat × Option Nat := if zl t cu = true then ((z4 t cu).1 + 1, (z4 t cu).2) else z4 t cu
def za (t : List Int32) (cu : Nat) : Int32 × (Nat × Option Nat) := mst t 48 57 (z5 t cu)
theorem dgs_f {t : List Int32} {mx : Int32} {s : Nat × Option Nat} {x : Nat} (h : s.2 = some x) : (dgs t mx s).2 = s := by
  unfold dgs
  rw [mst_f h, mst_f h]
theorem st_4 {t : List Int32} {cu x : Nat} (h : (z4 t cu).2 = some x) : (za t cu).2.2 = some x := by
  have hl : zl t cu = false := by unfold zl; rw [h]; rfl
  have h5 : z5 t cu = z4 t cu := by unfold z5; rw [hl, if_neg (by decide)]
  unfold za
  rw [h5, mst_f h]
  exact h
theorem st_x {t : List Int32} {cu x : Nat} (h : (zx t cu).2.2 = some x) : (za t cu).2.2 = some x := st_4 (by unfold z4; rw [mst_f h]; exact h)
theorem st_v {t : List Int32} {cu x : Nat} (h : (zv t cu).2.2 = some x) : (za t cu).2.2 = some x := st_x (by unfold zx; rw [dgs_f h]; exact h)
theorem st_p {t : List Int32} {cu x : Nat} (h : (zp t cu).2.2 = some x) : (za t cu).2.2 = some x := st_v (by unfold zv; rw [dgs_f h]; exact h)
theorem st_w {t : List Int32} {cu x : Nat} (h : (zw t cu).2.2 = some x) : (za t cu).2.2 = some x := st_p (by unfold zp; rw [dgs_f h]; exact h)
theorem d_tab1 : ∀ k, k < 256 → ((0 ≤ nI k - 48 ∧ nI k - 48 ≤ 1) ↔ (¬ nI k < 48 ∧ ¬ (48 : Int32) + 1 < nI k)) := by decide +kernel
theorem d_tab3 : ∀ k, k < 256 → ((0 ≤ nI k - 48 ∧ nI k - 48 ≤ 3) ↔ (¬ nI k < 48 ∧ ¬ (48 : Int32) + 3 < nI k)) := by decide +kernel
theorem d_tab9 : ∀ k, k < 256 → ((0 ≤ nI k - 48 ∧ nI k - 48 ≤ 9) ↔ (¬ nI k < 48 ∧ ¬ (48 : Int32) + 9 < nI k)) := by decide +kernel
def byt (t : List Int32) : Prop := ∀ x, x ∈ t → 0 ≤ x.toInt ∧ x.toInt ≤ 255
theorem byt_k {t : List Int32} {c : Nat} (hb : byt t) (h : c < t.length) : ∃ k, k < 256 ∧ t.getD c 0 = nI k := by
  have hm : t.getD c 0 ∈ t := by rw [List.getD_eq_getElem?_getD, List.getElem?_eq_getElem h]; exact List.getElem_mem h
  obtain ⟨a, b⟩ := hb _ hm
  refine ⟨(t.getD c 0).toInt.toNat, by omega, ?_⟩
  apply Int32.toInt_inj.mp
  rw [nI_toInt (by omega)]
  omega
theorem dg1 {t : List Int32} {c : Nat} (hb : byt t) : dgF t c 1 ↔ sesB t 48 (48 + 1) c = true := by
  rw [ses_i]
  unfold dgF
  refine ⟨fun z => ?_, fun z => ?_⟩ <;> obtain ⟨k, hk, e⟩ := byt_k hb z.1 <;> rw [e] at z ⊢
  · exact ⟨z.1, (d_tab1 k hk).mp z.2⟩
  · exact ⟨z.1, (d_tab1 k hk).mpr z.2⟩
theorem dg3 {t : List Int32} {c : Nat} (hb : byt t) : dgF t c 3 ↔ sesB t 48 (48 + 3) c = true := by
  rw [ses_i]
  unfold dgF
  refine ⟨fun z => ?_, fun z => ?_⟩ <;> obtain ⟨k, hk, e⟩ := byt_k hb z.1 <;> rw [e] at z ⊢
  · exact ⟨z.1, (d_tab3 k hk).mp z.2⟩
  · exact ⟨z.1, (d_tab3 k hk).mpr z.2⟩
theorem dg9 {t : List Int32} {c : Nat} (hb : byt t) : dgF t c 9 ↔ sesB t 48 57 c = true := by
  rw [ses_i]
  unfold dgF
  refine ⟨fun z => ?_, fun z => ?_⟩ <;> obtain ⟨k, hk, e⟩ := byt_k hb z.1 <;> rw [e] at z ⊢
  · exact ⟨z.1, (d_tab9 k hk).mp z.2⟩
  · exact ⟨z.1, (d_tab9 k hk).mpr z.2⟩
theorem sk_ses {t : List Int32} {c : Nat} {y : Int32} : skF t c y ↔ sesB t y y c = true := by
  rw [ses_i]
  unfold skF
  refine ⟨fun z => ⟨z.1, ?_, ?_⟩, fun z => ⟨z.1, ?_⟩⟩
  · rw [z.2]; exact Int32.lt_irrefl
  · rw [z.2]; exact Int32.lt_irrefl
  · exact Int32.le_antisymm (Int32.not_lt.mp z.2.2) (Int32.not_lt.mp z.2.1)
theorem dgs_n1 {t : List Int32} {c : Nat} {mx : Int32} (h : ¬ skF t c 32) : (dgs t mx (c, none)).2.2 = some c := by
  have e : mst t 32 32 (c, none) = (32, (c, some c)) := mst_n rfl (fun z => h (sk_ses.mpr z))
  unfold dgs
  rw [e, mst_f (x := c) rfl]
theorem dgs_n2 {t : List Int32} {c : Nat} {mx : Int32} (h : skF t c 32) (h2 : ¬ sesB t 48 (48 + mx) (c + 1) = true) : (dgs t mx (c, none)).2.2 = some (c + 1) := by
  have e : mst t 32 32 (c, none) = (t.getD c 0, (c + 1, none)) := mst_y rfl (sk_ses.mp h)
  have e2 : mst t 48 (48 + mx) (c + 1, none) = (48, (c + 1, some (c + 1))) := mst_n rfl h2
  unfold dgs
  rw [e, e2]
theorem dgs_y {t : List Int32} {c : Nat} {mx : Int32} (h : skF t c 32) (h2 : sesB t 48 (48 + mx) (c + 1) = true) : dgs t mx (c, none) = (t.getD (c + 1) 0 - 48, (c + 2, none)) := by
  have e : mst t 32 32 (c, none) = (t.getD c 0, (c + 1, none)) := mst_y rfl (sk_ses.mp h)
  have e2 : mst t 48 (48 + mx) (c + 1, none) = (t.getD (c + 1) 0, (c + 1 + 1, none)) := mst_y rfl h2
  unfold dgs
  rw [e, e2]
/-- the reference's line is the class's -/
theorem lin_rdl {t : List Int32} {cu : Nat} (hb : byt t) :
    (∀ c, rdl t cu = (none, c) → (za t cu).2.2 = some c) ∧ ∀ q c, rdl t cu = (some q, c) → (za t cu).2 = (c, none) ∧ (zw t cu).1 = q.1 ∧ (zp t cu).1 = q.2.1 ∧ q.2.2.1 = 10 * (zv t cu).1 + (zx t cu).1 ∧ ((∃ v, v < 4 ∧ (zv t cu).1 = nI v) ∧ ∃ w, w < 4 ∧ (zx t cu).1 = nI w) ∧ q.2.2.2 = (if zl t cu = true then -((za t cu).1 - 48) else (za t cu).1 - 48) := by
  have R := rdw_rwf (t := t) (cu := cu) 15 0 0 rfl (fun _ _ _ => Nat.zero_le _)
  have bad : ∀ {c x : Nat}, rdl t cu = (none, x) → (za t cu).2.2 = some x → (∀ c, rdl t cu = (none, c) → (za t cu).2.2 = some c) ∧ ∀ q c, rdl t cu = (some q, c) → (za t cu).2 = (c, none) ∧ (zw t cu).1 = q.1 ∧ (zp t cu).1 = q.2.1 ∧ q.2.2.1 = 10 * (zv t cu).1 + (zx t cu).1 ∧ ((∃ v, v < 4 ∧ (zv t cu).1 = nI v) ∧ ∃ w, w < 4 ∧ (zx t cu).1 = nI w) ∧ q.2.2.2 = (if zl t cu = true then -((za t cu).1 - 48) else (za t cu).1 - 48) := by
    intro c x h1 h2
    refine ⟨fun c hc => ?_, fun q c hc => ?_⟩
    · rw [h1] at hc; cases hc; exact h2
    · rw [h1] at hc; cases hc
  cases hr : (rwf t cu 15 0 0).1 with
  | none =>
    have h1 := R.1 hr
    have hz : zw t cu = (0, (cu, some (cu + (rwf t cu 15 0 0).2))) := by unfold zw whF; rw [hr]
    refine bad (c := 0) (x := cu + (rwf t cu 15 0 0).2) ?_ (st_w (by rw [hz]))
    unfold rdl
    rw [h1]
    simp only []
    rw [if_pos (by decide)]
  | some h =>
    obtain ⟨r1, r2, r3, r4⟩ := R.2 h hr
    have hz : zw t cu = (nI h, (cu + wlen h, none)) := by unfold zw whF; rw [hr, r1]
    have hzp : zp t cu = dgs t 1 (cu + wlen h, none) := by unfold zp; rw [hz]
    by_cases hbl : cu + wlen h < t.length ∧ t.getD (cu + wlen h) 0 = 32
    · rw [if_pos hbl] at r4
      have n0 : ¬ (nI h < (0 : Int32)) := nI_pos (by omega)
      have hsk : skF t (cu + wlen h) 32 := hbl
      by_cases k1 : dgF t (cu + (wlen h + 1)) 1
      · have e1 : zp t cu = (t.getD (cu + (wlen h + 1)) 0 - 48, (cu + (wlen h + 1) + 1, none)) := by rw [hzp, dgs_y hsk ((dg1 hb).mp k1)]; rfl
        have hzv : zv t cu = dgs t 3 (cu + (wlen h + 1) + 1, none) := by unfold zv; rw [e1]
        by_cases k2 : skF t (cu + (wlen h + 1) + 1) 32
        · by_cases k3 : dgF t (cu + (wlen h + 1) + 2) 3
          · have e2 : zv t cu = (t.getD (cu + (wlen h + 1) + 2) 0 - 48, (cu + (wlen h + 1) + 3, none)) := by rw [hzv, dgs_y k2 ((dg3 hb).mp k3)]
            have hzx : zx t cu = dgs t 3 (cu + (wlen h + 1) + 3, none) := by unfold zx; rw [e2]
            by_cases k4 : skF t (cu + (wlen h + 1) + 3) 32
            · by_cases k5 : dgF t (cu + (wlen h + 1) + 4) 3
              · have e3 : zx t cu = (t.getD (cu + (wlen h + 1) + 4) 0 - 48, (cu + (wlen h + 1) + 5, none)) := by rw [hzx, dgs_y k4 ((dg3 hb).mp k5)]
                by_cases k6 : skF t (cu + (wlen h + 1) + 5) 32
                · have e4 : z4 t cu = (cu + (wlen h + 1) + 6, none) := by
                    unfold z4
                    rw [e3, mst_y rfl (sk_ses.mp k6)]
                  obtain ⟨v, hv, ev⟩ := dg_nI (n := 3) rfl (by decide) k3
                  obtain ⟨w, hw, ew⟩ := dg_nI (n := 3) rfl (by decide) k5
                  by_cases k7 : skF t (cu + (wlen h + 1) + 6) 45
                  · have el : zl t cu = true := by unfold zl; rw [e4, Bool.and_eq_true]; exact ⟨rfl, sk_ses.mp k7⟩
                    have e5 : z5 t cu = (cu + (wlen h + 1) + 7, none) := by unfold z5; rw [if_pos el, e4]
                    by_cases k8 : dgF t (cu + (wlen h + 1) + 7) 9
                    · have e6 : za t cu = (t.getD (cu + (wlen h + 1) + 7) 0, (cu + (wlen h + 1) + 8, none)) := by unfold za; rw [e5, mst_y rfl ((dg9 hb).mp k8)]
                      have hrd : rdl t cu = (some (nI h, t.getD (cu + (wlen h + 1)) 0 - 48, 10 * (t.getD (cu + (wlen h + 1) + 2) 0 - 48) + (t.getD (cu + (wlen h + 1) + 4) 0 - 48), -(t.getD (cu + (wlen h + 1) + 7) 0 - 48)), cu + (wlen h + 1) + 8) := by
                        unfold rdl
                        rw [r4]
                        simp only []
                        rw [if_neg n0, if_pos k1, if_pos k2, if_pos k3, if_pos k4, if_pos k5, if_pos k6, if_pos k7, if_pos k8]
                      refine ⟨fun c hc => (by rw [hrd] at hc; cases hc), fun q c hc => ?_⟩
                      rw [hrd] at hc
                      cases hc
                      rw [e6, hz, e1, e2, e3, if_pos el]
                      exact ⟨rfl, rfl, rfl, rfl, ⟨⟨v, by omega, ev⟩, w, by omega, ew⟩, rfl⟩
                    · refine bad (c := 0) (x := cu + (wlen h + 1) + 7) ?_ ?_
                      · unfold rdl
                        rw [r4]
                        simp only []
                        rw [if_neg n0, if_pos k1, if_pos k2, if_pos k3, if_pos k4, if_pos k5, if_pos k6, if_pos k7, if_neg k8]
                      · unfold za; rw [e5, mst_n rfl (fun z => k8 ((dg9 hb).mpr z))]
                  · have el : zl t cu = false := by
                      unfold zl
                      rw [e4, Bool.and_eq_false_iff]
                      right
                      rcases Bool.eq_false_or_eq_true (sesB t 45 45 (cu + (wlen h + 1) + 6)) with q | q
                      · exact absurd (sk_ses.mpr q) k7
                      · exact q
                    have e5 : z5 t cu = (cu + (wlen h + 1) + 6, none) := by unfold z5; rw [el, if_neg (by decide), e4]
                    by_cases k8 : dgF t (cu + (wlen h + 1) + 6) 9
                    · have e6 : za t cu = (t.getD (cu + (wlen h + 1) + 6) 0, (cu + (wlen h + 1) + 7, none)) := by unfold za; rw [e5, mst_y rfl ((dg9 hb).mp k8)]
                      have hrd : rdl t cu = (some (nI h, t.getD (cu + (wlen h + 1)) 0 - 48, 10 * (t.getD (cu + (wlen h + 1) + 2) 0 - 48) + (t.getD (cu + (wlen h + 1) + 4) 0 - 48), t.getD (cu + (wlen h + 1) + 6) 0 - 48), cu + (wlen h + 1) + 7) := by
                        unfold rdl
                        rw [r4]
                        simp only []
                        rw [if_neg n0, if_pos k1, if_pos k2, if_pos k3, if_pos k4, if_pos k5, if_pos k6, if_neg k7, if_pos k8]
                      refine ⟨fun c hc => (by rw [hrd] at hc; cases hc), fun q c hc => ?_⟩
                      rw [hrd] at hc
                      cases hc
                      rw [e6, hz, e1, e2, e3, el, if_neg (by decide)]
                      exact ⟨rfl, rfl, rfl, rfl, ⟨⟨v, by omega, ev⟩, w, by omega, ew⟩, rfl⟩
                    · refine bad (c := 0) (x := cu + (wlen h + 1) + 6) ?_ ?_
                      · unfold rdl
                        rw [r4]
                        simp only []
                        rw [if_neg n0, if_pos k1, if_pos k2, if_pos k3, if_pos k4, if_pos k5, if_pos k6, if_neg k7, if_neg k8]
                      · unfold za; rw [e5, mst_n rfl (fun z => k8 ((dg9 hb).mpr z))]
                · refine bad (c := 0) (x := cu + (wlen h + 1) + 5) ?_ (st_4 ?_)
                  · unfold rdl
                    rw [r4]
                    simp only []
                    rw [if_neg n0, if_pos k1, if_pos k2, if_pos k3, if_pos k4, if_pos k5, if_neg k6]
                  · unfold z4; rw [e3, mst_n rfl (fun z => k6 (sk_ses.mpr z))]
              · refine bad (c := 0) (x := cu + (wlen h + 1) + 4) ?_ (st_x ?_)
                · unfold rdl
                  rw [r4]
                  simp only []
                  rw [if_neg n0, if_pos k1, if_pos k2, if_pos k3, if_pos k4, if_neg k5]
                · rw [hzx]; exact dgs_n2 k4 (fun z => k5 ((dg3 hb).mpr z))
            · refine bad (c := 0) (x := cu + (wlen h + 1) + 3) ?_ (st_x ?_)
              · unfold rdl
                rw [r4]
                simp only []
                rw [if_neg n0, if_pos k1, if_pos k2, if_pos k3, if_neg k4]
              · rw [hzx]; exact dgs_n1 k4
          · refine bad (c := 0) (x := cu + (wlen h + 1) + 2) ?_ (st_v ?_)
            · unfold rdl
              rw [r4]
              simp only []
              rw [if_neg n0, if_pos k1, if_pos k2, if_neg k3]
            · rw [hzv]; exact dgs_n2 k2 (fun z => k3 ((dg3 hb).mpr z))
        · refine bad (c := 0) (x := cu + (wlen h + 1) + 1) ?_ (st_v ?_)
          · unfold rdl
            rw [r4]
            simp only []
            rw [if_neg n0, if_pos k1, if_neg k2]
          · rw [hzv]; exact dgs_n1 k2
      · refine bad (c := 0) (x := cu + (wlen h + 1)) ?_ (st_p ?_)
        · unfold rdl
          rw [r4]
          simp only []
          rw [if_neg n0, if_neg k1]
        · rw [hzp]; exact dgs_n2 hsk (fun z => k1 ((dg1 hb).mpr z))
    · rw [if_neg hbl] at r4
      refine bad (c := 0) (x := cu + wlen h) ?_ (st_p ?_)
      · unfold rdl
        rw [r4]
        simp only []
        rw [if_pos (by decide)]
      · rw [hzp]; exact dgs_n1 hbl
