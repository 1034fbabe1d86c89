/-! the reference: a run -/
/-- the rows seen ahead of times below t -/
def SNr (M : Mem) (n : Nat) (S : Nat → Gm × List Nat) (t : Nat) : Prop := ∀ e, e < t → ∀ i, i < 116 → M.1 (16 + e) i = seeF n (S e).1 i
set_option maxRecDepth 20000 in
theorem lp_saI {κ : KX} {n pt : Nat} {S : Nat → Gm × List Nat} {M : Mem} (hn : n ≤ 24) (hpt : pt < 201) (hN : SNr M n S (pt + 1)) (hh : ∀ e, e ≤ pt → ((S e).1 1 4).toNatClampNeg ≤ 64) {pq : Nat} (hql : pq < pt) (C : Cx κ lyR y_M_sameAs.cls b_M_sameAs 5 (some .int) 0) (hQ : ∀ x3 x4 : Int32, ((x3 = 1 ∧ same n (S pq).1 (S pt).1) ∨ (x3 = 0 ∧ ¬ same n (S pq).1 (S pt).1)) → G κ lyR 56 [some (.ref 0), some (.int (nI pt)), some (.int (nI pq)), some (.int x3), some (.int x4)] [] M) : ∀ (f i : Nat) (x3 : Int32), i ≤ 116 → 116 - i < f → ((x3 = 1 ∧ ∀ j, j < i → seeF n (S pq).1 j = seeF n (S pt).1 j) ∨ (x3 = 0 ∧ ∃ j, j < 116 ∧ seeF n (S pq).1 j ≠ seeF n (S pt).1 j)) → G κ lyR 12 [some (.ref 0), some (.int (nI pt)), some (.int (nI pq)), some (.int x3), some (.int (nI i))] [] M := by
  intro f
  induction f with
  | zero => intro i x3 _ h; omega
  | succ f ih =>
    intro i x3 hi hf h3
    have hpq : pq < 201 := by omega
    have hin : (116 : Int32) ≤ nI i ↔ 116 ≤ i := nI_leI (a := 116) (by omega) (by omega)
    have hss := see_same (n := n) (g := (S pq).1) (h := (S pt).1) hn (hh pq (by omega))
    refine u_iload (pc := 12) C d_M_sameAs_12 rfl ?_
    refine u_bipush (pc := 14) (v := 116) C d_M_sameAs_14 (by decide) ?_
    refine u_icmp_ge (pc := 16) (tgt := 56) C d_M_sameAs_16 rfl (fun c16 => ?_) (fun c16 => ?_)
    · refine hQ _ _ ?_
      have hge : i = 116 := by rw [hin] at c16; omega
      subst hge
      rcases h3 with ⟨a, b⟩ | ⟨a, j, hj, b⟩
      · exact Or.inl ⟨a, hss.mp b⟩
      · exact Or.inr ⟨a, fun z => b (hss.mpr z j hj)⟩
    · refine u_iload_n (pc := 19) C d_M_sameAs_19 rfl ?_
      refine u_if_eq (pc := 20) (tgt := 56) C d_M_sameAs_20 rfl (fun c20 => ?_) (fun c20 => ?_)
      · refine hQ _ _ ?_
        rcases h3 with ⟨a, b⟩ | ⟨a, j, hj, b⟩
        · exact absurd (a.symm.trans c20) (by decide)
        · exact Or.inr ⟨a, fun z => b (hss.mpr z j hj)⟩
      · have hlt : i < 116 := by rw [hin] at c16; omega
        have h3' := h3.resolve_right (fun z => c20 z.1)
        refine u_aload_n (pc := 23) C d_M_sameAs_23 rfl ?_
        refine u_getr (pc := 24) (r := 15) C d_M_sameAs_24 fw_M_40 sR_0 rfl rfl ?_
        refine u_iload_n (pc := 27) C d_M_sameAs_27 rfl ?_
        refine u_aaldR (pc := 28) (r := (16 + pq)) C d_M_sameAs_28 sR_15 (vp_in_nI hpq (by decide)) (seen_ix hpq) ?_
        refine u_iload (pc := 29) C d_M_sameAs_29 rfl ?_
        refine u_iald (pc := 31) C d_M_sameAs_31 (sS hpq) (vp_in_nI hlt (by decide)) ?_
        refine u_aload_n (pc := 32) C d_M_sameAs_32 rfl ?_
        refine u_getr (pc := 33) (r := 15) C d_M_sameAs_33 fw_M_40 sR_0 rfl rfl ?_
        refine u_iload_n (pc := 36) C d_M_sameAs_36 rfl ?_
        refine u_aaldR (pc := 37) (r := (16 + pt)) C d_M_sameAs_37 sR_15 (vp_in_nI hpt (by decide)) (seen_ix hpt) ?_
        refine u_iload (pc := 38) C d_M_sameAs_38 rfl ?_
        refine u_iald (pc := 40) C d_M_sameAs_40 (sS hpt) (vp_in_nI hlt (by decide)) ?_
        refine u_icmp_ne (pc := 41) (tgt := 48) C d_M_sameAs_41 rfl (fun c41 => ?_) (fun c41 => ?_)
        · refine u_iconst (pc := 48) (v := 0) C d_M_sameAs_48 (by decide) ?_
          refine u_istore_n (pc := 49) C d_M_sameAs_49 rfl (fun x49 e49 L9 hL9 => ?_)
          obtain rfl : L9 = [some (.ref 0), some (.int (nI pt)), some (.int (nI pq)), some (.int x49), some (.int (nI i))] := hL9.symm
          refine u_iinc (pc := 50) (v2 := 1) C d_M_sameAs_50 rfl rfl (by decide) (fun x50 e50 L9 hL9 => ?_)
          obtain rfl : L9 = [some (.ref 0), some (.int (nI pt)), some (.int (nI pq)), some (.int x49), some (.int x50)] := hL9.symm
          refine u_goto (pc := 53) (tgt := 12) C d_M_sameAs_53 rfl ?_
          obtain rfl : x50 = nI (i + 1) := by rw [e50, nI_succ]
          rw [nI_clamp (by omega), hN pq (by omega) i hlt, hN pt (by omega) i hlt] at c41
          refine ih (i + 1) _ (by omega) (by omega) ?_
          exact Or.inr ⟨e49, i, hlt, c41⟩
        · refine u_iconst (pc := 44) (v := 1) C d_M_sameAs_44 (by decide) ?_
          refine u_goto (pc := 45) (tgt := 49) C d_M_sameAs_45 rfl ?_
          refine u_istore_n (pc := 49) C d_M_sameAs_49 rfl (fun x49 e49 L9 hL9 => ?_)
          obtain rfl : L9 = [some (.ref 0), some (.int (nI pt)), some (.int (nI pq)), some (.int x49), some (.int (nI i))] := hL9.symm
          refine u_iinc (pc := 50) (v2 := 1) C d_M_sameAs_50 rfl rfl (by decide) (fun x50 e50 L9 hL9 => ?_)
          obtain rfl : L9 = [some (.ref 0), some (.int (nI pt)), some (.int (nI pq)), some (.int x49), some (.int x50)] := hL9.symm
          refine u_goto (pc := 53) (tgt := 12) C d_M_sameAs_53 rfl ?_
          obtain rfl : x50 = nI (i + 1) := by rw [e50, nI_succ]
          rw [nI_clamp (by omega), hN pq (by omega) i hlt, hN pt (by omega) i hlt] at c41
          refine ih (i + 1) _ (by omega) (by omega) ?_
          exact Or.inl ⟨e49, fun j hj => by
            by_cases e : j = i
            · subst e; exact c41
            · exact h3'.2 j (by omega)⟩
set_option maxRecDepth 20000 in
theorem lp_saT {κ : KX} {n pt : Nat} {S : Nat → Gm × List Nat} {M : Mem} (hn : n ≤ 24) (hpt : pt < 201) (hN : SNr M n S (pt + 1)) (hh : ∀ e, e ≤ pt → ((S e).1 1 4).toNatClampNeg ≤ 64) {i : Nat} (hlt : i < pt)  (C : Cx κ lyR y_M_sameAs.cls b_M_sameAs 5 (some .int) 0) (hQ : ∀ v M', Pi (fun r M' => ((∃ q, q < pt ∧ same n (S q).1 (S pt).1 ∧ r = nI q) ∨ ((∀ q, q < pt → ¬ same n (S q).1 (S pt).1) ∧ r = -1)) ∧ M' = M) v M' → KQ κ v M') (hno : ∀ q, q < i → ¬ same n (S q).1 (S pt).1) (kk : ¬ same n (S i).1 (S pt).1 → G κ lyR 2 [some (.ref 0), some (.int (nI pt)), some (.int (nI (i + 1))), none, none] [] M) : ∀ x3 x4 : Int32, ((x3 = 1 ∧ same n (S i).1 (S pt).1) ∨ (x3 = 0 ∧ ¬ same n (S i).1 (S pt).1)) → G κ lyR 56 [some (.ref 0), some (.int (nI pt)), some (.int (nI i)), some (.int x3), some (.int x4)] [] M := by
  intro x3 x4 hr
  refine u_iload_n (pc := 56) C d_M_sameAs_56 rfl ?_
  refine u_if_eq (pc := 57) (tgt := 62) C d_M_sameAs_57 rfl (fun c57 => ?_) (fun c57 => ?_)
  · refine u_iinc (pc := 62) (v2 := 1) C d_M_sameAs_62 rfl rfl (by decide) (fun x62 e62 L9 hL9 => ?_)
    obtain rfl : L9 = [some (.ref 0), some (.int (nI pt)), some (.int x62), some (.int x3), some (.int x4)] := hL9.symm
    refine u_goto (pc := 65) (tgt := 2) C d_M_sameAs_65 rfl ?_
    obtain rfl : x62 = nI (i + 1) := by rw [e62, nI_succ]
    refine u_drop 3 rfl ?_
    refine u_drop 4 rfl ?_
    refine kk ?_
    rcases hr with ⟨a, b⟩ | ⟨a, b⟩
    · exact absurd (a.symm.trans c57) (by decide)
    · exact b
  · refine u_iload_n (pc := 60) C d_M_sameAs_60 rfl ?_
    refine u_iret (pc := 61) C d_M_sameAs_61 (hQ _ _ ⟨_, rfl, ?_⟩)
    rcases hr with ⟨a, b⟩ | ⟨a, b⟩
    · exact ⟨Or.inl ⟨i, hlt, b, rfl⟩, rfl⟩
    · exact absurd a c57
set_option maxRecDepth 20000 in
theorem lp_sameAs {κ : KX} {n pt : Nat} {S : Nat → Gm × List Nat} {M : Mem} (hn : n ≤ 24) (hpt : pt < 201) (hN : SNr M n S (pt + 1)) (hh : ∀ e, e ≤ pt → ((S e).1 1 4).toNatClampNeg ≤ 64)  (C : Cx κ lyR y_M_sameAs.cls b_M_sameAs 5 (some .int) 0) (hQ : ∀ v M', Pi (fun r M' => ((∃ q, q < pt ∧ same n (S q).1 (S pt).1 ∧ r = nI q) ∨ ((∀ q, q < pt → ¬ same n (S q).1 (S pt).1) ∧ r = -1)) ∧ M' = M) v M' → KQ κ v M') : ∀ (f i : Nat), i ≤ pt → pt - i < f → (∀ q, q < i → ¬ same n (S q).1 (S pt).1) → G κ lyR 2 [some (.ref 0), some (.int (nI pt)), some (.int (nI i)), none, none] [] M := by
  intro f
  induction f with
  | zero => intro i _ h; omega
  | succ f ih =>
    intro i hi hf hno
    have hin : nI pt ≤ nI i ↔ pt ≤ i := nI_leI (by omega) (by omega)
    refine u_iload_n (pc := 2) C d_M_sameAs_2 rfl ?_
    refine u_iload_n (pc := 3) C d_M_sameAs_3 rfl ?_
    refine u_icmp_ge (pc := 4) (tgt := 68) C d_M_sameAs_4 rfl (fun c4 => ?_) (fun c4 => ?_)
    · refine u_iconst (pc := 68) (v := (-1)) C d_M_sameAs_68 (by decide) ?_
      refine u_iret (pc := 69) C d_M_sameAs_69 (hQ _ _ ⟨_, rfl, ?_⟩)
      have hge : i = pt := by rw [hin] at c4; omega
      subst hge
      exact ⟨Or.inr ⟨hno, rfl⟩, rfl⟩
    · refine u_iconst (pc := 7) (v := 1) C d_M_sameAs_7 (by decide) ?_
      refine u_istore_n (pc := 8) C d_M_sameAs_8 rfl (fun x8 e8 L9 hL9 => ?_)
      obtain rfl : L9 = [some (.ref 0), some (.int (nI pt)), some (.int (nI i)), some (.int x8), none] := hL9.symm
      refine u_iconst (pc := 9) (v := 0) C d_M_sameAs_9 (by decide) ?_
      refine u_istore (pc := 10) C d_M_sameAs_10 rfl (fun x10 e10 L9 hL9 => ?_)
      obtain rfl : L9 = [some (.ref 0), some (.int (nI pt)), some (.int (nI i)), some (.int x8), some (.int x10)] := hL9.symm
      have hlt : i < pt := by rw [hin] at c4; omega
      subst e10
      refine lp_saI hn hpt hN hh hlt C (fun x3 x4 hr => ?_) 117 0 _ (by omega) (by omega) (Or.inl ⟨e8, fun j hj => absurd hj (Nat.not_lt_zero j)⟩)
      exact lp_saT hn hpt hN hh hlt C hQ hno (fun hns => ih (i + 1) (by omega) (by omega) (fun q hq => by
        by_cases e : q = i
        · subst e; exact hns
        · exact hno q (by omega))) x3 x4 hr
set_option maxRecDepth 20000 in
theorem c_M_sameAs {n pt : Nat} {S : Nat → Gm × List Nat} {M : Mem} (hn : n ≤ 24) (hpt : pt < 201) (hN : SNr M n S (pt + 1)) (hh : ∀ e, e ≤ pt → ((S e).1 1 4).toNatClampNeg ≤ 64)  : Ct lyR y_M_sameAs b_M_sameAs 5 (some .int) 0 [.ref 0, .int (nI pt)] M (Pi fun r M' => ((∃ q, q < pt ∧ same n (S q).1 (S pt).1 ∧ r = nI q) ∨ ((∀ q, q < pt → ¬ same n (S q).1 (S pt).1) ∧ r = -1)) ∧ M' = M) := by
  refine Ct.ofG mx_M_sameAs [some (.ref 0), some (.int (nI pt)), none, none, none] rfl rfl (Nat.le_of_ble_eq_true rfl) (fun κ C hQ => ?_)
  refine u_iconst (pc := 0) (v := 0) C d_M_sameAs_0 (by decide) ?_
  refine u_istore_n (pc := 1) C d_M_sameAs_1 rfl (fun x1 e1 L9 hL9 => ?_)
  obtain rfl : L9 = [some (.ref 0), some (.int (nI pt)), some (.int x1), none, none] := hL9.symm
  subst e1
  exact lp_sameAs hn hpt hN hh C hQ (pt + 1) 0 (by omega) (by omega) (fun q hq => absurd hq (Nat.not_lt_zero q))
def rnR (p j : Nat) : Prop := rvR p j ∨ (16 ≤ p ∧ p ≤ 216) ∨ (p = 0 ∧ 22 ≤ j ∧ j ≤ 24)
theorem rv_rn {p j : Nat} (h : rvR p j) : rnR p j := Or.inl h
theorem sn_rn {q p j : Nat} (hq : q < 201) (h : snR q p j) : rnR p j := Or.inr (Or.inl (by unfold snR at h; omega))
theorem SNr.of {S9 : Nat → Nat → Prop} {M M' : Mem} {n t : Nat} {S : Nat → Gm × List Nat} (h : SNr M n S t) (ho : OfR S9 M M') (hs : ∀ e j, e < t → ¬ S9 (16 + e) j) : SNr M' n S t := fun e he i hi => by
  rw [ho (16 + e) i (hs e i he)]; exact h e he i hi
theorem LGr.sn {M M' : Mem} {q : Nat} {th ev : List Int32} (h : LGr M th ev) (ho : OfR (snR q) M M') (hq : q < 201) : LGr M' th ev := h.of ho (fun z => by unfold snR at z; omega) (fun z => by unfold snR at z; omega) (fun i z => by unfold snR at z; omega) (fun i z => by unfold snR at z; omega)
theorem RS.f0 {M : Mem} {cd : Nat → Nat → Int32} {n j : Nat} {g : Gm} {tb : List Nat} {x : Int32} (h : RS M cd n g tb) (hj : j ≠ 5) : RS (up M 0 j x) cd n g tb :=
  h.of (S := fun p i => p = 0 ∧ i = j) (OfR.up ⟨rfl, rfl⟩) (fun p i h1 _ q => by omega) (fun q => hj q.2.symm) (fun i q => by omega)
theorem LGr.f0 {M : Mem} {j : Nat} {th ev : List Int32} {x : Int32} (h : LGr M th ev) (h1 : j ≠ 29) (h2 : j ≠ 31) : LGr (up M 0 j x) th ev :=
  h.of (S := fun p i => p = 0 ∧ i = j) (OfR.up ⟨rfl, rfl⟩) (fun q => h1 q.2.symm) (fun q => h2 q.2.symm) (fun i q => by omega) (fun i q => by omega)
theorem lost_if {M : Mem} {cd : Nat → Nat → Int32} {n : Nat} {g : Gm} {tb : List Nat} (h : RS M cd n g tb) : (M.1 6 0 ≤ 0 ∨ M.1 6 1 ≤ 0) ↔ lost g = true := by
  obtain ⟨l1, l2⟩ := h.2.2.2.1
  rw [l1, l2]
  unfold lost
  rw [Bool.or_eq_true, decide_eq_true_eq, decide_eq_true_eq]
/-- what a run of the reference leaves -/
def RNp (M' : Mem) (cd : Nat → Nat → Int32) (n : Nat) (s : Gm × List Nat) (th ev : List Int32) (tr : Int32) (q : Nat × Int32 × Int32 × Int32) : Prop :=
  M'.1 0 22 = q.2.1 ∧ M'.1 0 23 = q.2.2.1 ∧ M'.1 0 24 = q.2.2.2 ∧ RS M' cd n (runS cd n s q.1).1 (runS cd n s q.1).2 ∧ LGr M' (if tr = 1 then th ++ told (runS cd n s) q.1 else th) (if tr = 1 then ev ++ hapd cd n (runS cd n s) q.1 else ev)
theorem runs_wf {cd : Nat → Nat → Int32} {n : Nat} {s : Gm × List Nat} (h : WFg cd n s.1 s.2) : ∀ t, (∀ q, q < t → goesOn cd n s q) → WFg cd n (runS cd n s t).1 (runS cd n s t).2 := by
  intro t
  induction t with
  | zero => intro _; exact h
  | succ t ih =>
    intro hg
    have hw := ih (fun q hq => hg q (by omega))
    obtain ⟨hh, h64, h4⟩ := hw.hb
    have hnz := (hg t (by omega)).2.1
    have h0 : 0 < hh := by
      rcases Nat.eq_zero_or_pos hh with z | z
      · rw [z] at h4; exact absurd h4 hnz
      · exact z
    exact hw.rsvL h4 h0 h64
theorem goes_64 {cd : Nat → Nat → Int32} {n t : Nat} {s : Gm × List Nat} (h : WFg cd n s.1 s.2) (hg : ∀ q, q < t → goesOn cd n s q) (e : Nat) (he : e < t) : ((runS cd n s e).1 1 4).toNatClampNeg ≤ 64 := by
  obtain ⟨hh, h64, h4⟩ := (runs_wf h e (fun q hq => hg q (by omega))).hb
  rw [h4, nI_clamp (by omega)]
  exact h64
set_option maxRecDepth 20000 in
theorem lp_runIt {κ : KX} {cd : Nat → Nat → Int32} {n : Nat} {s : Gm × List Nat} {M : Mem} {tr : Int32} {th ev : List Int32} (hS0 : WFg cd n s.1 s.2) (h01 : tr = 0 ∨ tr = 1)  (C : Cx κ lyR y_M_runIt.cls b_M_runIt 3 (some .int) 8) (hQ : ∀ v M', Pi (fun r M' => r = nI (runR cd n s).1 ∧ RNp M' cd n s th ev tr (runR cd n s) ∧ OfR rnR M M') v M' → KQ κ v M') : ∀ (f t : Nat) (M1 : Mem), t ≤ 200 → 200 - t < f → RS M1 cd n (runS cd n s t).1 (runS cd n s t).2 → OfR rnR M M1 → SNr M1 n (runS cd n s) t → (∀ q, q < t → goesOn cd n s q) → M1.1 0 32 = tr → M1.1 0 23 = -2 → M1.1 0 24 = -2 → LGr M1 (if tr = 1 then th ++ told (runS cd n s) t else th) (if tr = 1 then ev ++ hapd cd n (runS cd n s) t else ev) → G κ lyR 14 [some (.ref 0), some (.int (nI t)), none] [] M1 := by
  intro f
  induction f with
  | zero => intro t M1 _ h; omega
  | succ f ih =>
    intro t M1 ht hf hS ho hN hgo ht32 h23 h24 hL
    have n24 := hS.n24
    have ht201 : t < 201 := by omega
    obtain ⟨h, hh64, hh4⟩ := hS.1.hb
    have hm : M1.1 6 6 = nI h := by rw [← hh4]; exact hS.many
    have hlo := lost_if hS
    refine u_aload_n (pc := 14) C d_M_runIt_14 rfl ?_
    refine u_callVi (pc := 15) C d_M_runIt_15 mx_M_isLost mw_M_275 sR_0 rfl (c_M_isLost) rfl rfl (Nat.le_of_ble_eq_true rfl) (fun r15 M15 q15 => ?_)
    obtain ⟨e15, q15⟩ := q15
    have q15 := q15.symm
    subst q15
    refine u_if_eq (pc := 18) (tgt := 28) C d_M_runIt_18 rfl (fun c18 => ?_) (fun c18 => ?_)
    · have hnl : lost (runS cd n s t).1 = false := by
        rcases Bool.eq_false_or_eq_true (lost (runS cd n s t).1) with q | q
        · exact absurd (hlo.mpr q) (zero_of e15 c18)
        · exact q
      refine u_aload_n (pc := 28) C d_M_runIt_28 rfl ?_
      refine u_getr (pc := 29) (r := 6) C d_M_runIt_29 fw_M_25 sR_0 rfl rfl ?_
      refine u_bipush (pc := 32) (v := 6) C d_M_runIt_32 (by decide) ?_
      refine u_iald (pc := 34) C d_M_runIt_34 sR_6 v6 ?_
      refine u_if_ne (pc := 35) (tgt := 45) C d_M_runIt_35 rfl (fun c35 => ?_) (fun c35 => ?_)
      · rw [cl6, hm] at c35
        have hnz : (runS cd n s t).1 1 4 ≠ 0 := by rw [hh4]; exact c35
        refine u_aload_n (pc := 45) C d_M_runIt_45 rfl ?_
        refine u_iload_n (pc := 46) C d_M_runIt_46 rfl ?_
        refine u_callVv (pc := 47) C d_M_runIt_47 mx_M_see mw_M_282 sR_0 rfl (c_M_see hS ht201) rfl rfl (Nat.le_of_ble_eq_true rfl) (fun M47 q47 => ?_)
        obtain ⟨hse, os⟩ := q47
        have hS2 := hS.sn os
        have hN2 : SNr M47 n (runS cd n s) (t + 1) := by
          intro e he i hi
          by_cases q : e = t
          · rw [q]; exact hse i hi
          · rw [os (16 + e) i (by unfold snR; omega)]; exact hN e (by omega) i hi
        have hh2 : ∀ e, e ≤ t → ((runS cd n s e).1 1 4).toNatClampNeg ≤ 64 := by
          intro e he
          by_cases q : e = t
          · rw [q, hh4, nI_clamp (by omega)]; exact hh64
          · exact goes_64 hS0 hgo e (by omega)
        have hL2 := hL.sn os ht201
        have ht2 : M47.1 0 32 = tr := OfR.tr ht32 os (fun z => by unfold snR at z; omega)
        have h23b : M47.1 0 23 = -2 := by rw [os 0 23 (fun z => by unfold snR at z; omega)]; exact h23
        have h24b : M47.1 0 24 = -2 := by rw [os 0 24 (fun z => by unfold snR at z; omega)]; exact h24
        refine u_aload_n (pc := 50) C d_M_runIt_50 rfl ?_
        refine u_iload_n (pc := 51) C d_M_runIt_51 rfl ?_
        refine u_callVi (pc := 52) C d_M_runIt_52 mx_M_sameAs mw_M_285 sR_0 rfl (c_M_sameAs n24 ht201 hN2 hh2) rfl rfl (Nat.le_of_ble_eq_true rfl) (fun r52 M52 q52 => ?_)
        obtain ⟨e52, q52⟩ := q52
        have q52 := q52.symm
        subst q52
        refine u_istore_n (pc := 55) C d_M_runIt_55 rfl (fun x55 e55 L9 hL9 => ?_)
        obtain rfl : L9 = [some (.ref 0), some (.int (nI t)), some (.int x55)] := hL9.symm
        refine u_iload_n (pc := 56) C d_M_runIt_56 rfl ?_
        refine u_if_lt (pc := 57) (tgt := 79) C d_M_runIt_57 rfl (fun c57 => ?_) (fun c57 => ?_)
        · have hns : ∀ q, q < t → ¬ same n (runS cd n s q).1 (runS cd n s t).1 := by
            rcases e52 with ⟨q9, hq9, hq9s, eq9⟩ | z
            · rw [e55, eq9] at c57; exact absurd (nI_pos (n := q9) (by omega)) (fun y => y c57)
            · exact z.1
          refine u_iload_n (pc := 79) C d_M_runIt_79 rfl ?_
          refine u_sipush (pc := 80) (v := 200) C d_M_runIt_80 (by decide) ?_
          refine u_icmp_ne (pc := 83) (tgt := 93) C d_M_runIt_83 rfl (fun c83 => ?_) (fun c83 => ?_)
          · have ht199 : t < 200 := by
              rcases Nat.lt_or_ge t 200 with z | z
              · exact z
              · exact absurd (by rw [show t = 200 by omega]; rfl) c83
            have hgt : goesOn cd n s t := ⟨hnl, hnz, hns, ht199⟩
            obtain ⟨h', rfl⟩ : ∃ h', h = h' + 1 := ⟨h - 1, by
              rcases Nat.eq_zero_or_pos h with z | z
              · rw [z] at hh4; exact absurd hh4 hnz
              · omega⟩
            have hh4b := hh4
            have hh64b : h' < 64 := by omega
            refine u_aload_n (pc := 93) C d_M_runIt_93 rfl ?_
            refine u_callVv (pc := 94) C d_M_runIt_94 mx_M_resolveTop mw_M_266 sR_0 rfl (c_M_resolveTop hS2 hh4b hh64b ht2 hL2 h01) rfl rfl (Nat.le_of_ble_eq_true rfl) (fun M94 q94 => ?_)
            obtain ⟨hS3, hL3, o3⟩ := q94
            refine u_iinc (pc := 97) (v2 := 1) C d_M_runIt_97 rfl rfl (by decide) (fun x97 e97 L9 hL9 => ?_)
            obtain rfl : L9 = [some (.ref 0), some (.int x97), some (.int x55)] := hL9.symm
            refine u_goto (pc := 100) (tgt := 14) C d_M_runIt_100 rfl ?_
            obtain rfl : x97 = nI (t + 1) := by rw [e97, nI_succ]
            refine u_drop 2 rfl ?_
            refine ih (t + 1) _ (by omega) (by omega) hS3 ((ho.trans (os.mono (fun p j => sn_rn ht201))).trans (o3.mono (fun p j => rv_rn))) (hN2.of o3 (fun e j he z => by unfold rvR at z; omega)) (fun q hq => ?_) (OfR.tr ht2 o3 (fun z => by unfold rvR at z; omega)) (by rw [o3 0 23 (fun z => by unfold rvR at z; omega)]; exact h23b) (by rw [o3 0 24 (fun z => by unfold rvR at z; omega)]; exact h24b) ?_
            · by_cases z : q = t
              · rw [z]; exact hgt
              · exact hgo q (by omega)
            · rcases h01 with z | z
              · rw [if_neg (by rw [z]; decide), if_neg (by rw [z]; decide)] at hL3 ⊢
                rw [if_neg (by rw [z]; decide), if_neg (by rw [z]; decide)] at hL3
                exact hL3
              · rw [if_pos z, if_pos z] at hL3 ⊢
                rw [if_pos z, if_pos z] at hL3
                rw [told, hapd, ← List.append_assoc, ← List.append_assoc]
                exact hL3
          · refine u_aload_n (pc := 86) C d_M_runIt_86 rfl ?_
            refine u_iconst (pc := 87) (v := 3) C d_M_runIt_87 (by decide) ?_
            refine u_put (pc := 88) C d_M_runIt_88 fw_M_279 sR_0 rfl (Or.inl rfl) ?_
            refine u_iload_n (pc := 91) C d_M_runIt_91 rfl ?_
            refine u_iret (pc := 92) C d_M_runIt_92 (hQ _ _ ⟨_, rfl, ?_⟩)
            have ht200 : t = 200 := (nI_eq (a := t) (b := 200) (by omega) (by omega)).mp c83
            have hr9 := runR_eq (show Run cd n s t 3 (-2) (-2) from ⟨hgo, Or.inr (Or.inr (Or.inr ⟨hnl, hnz, hns, ht200, rfl, rfl, rfl⟩))⟩)
            rw [hr9]
            refine ⟨rfl, ⟨by rw [up_row, pk_us], by rw [up_j (by decide)]; exact h23b, by rw [up_j (by decide)]; exact h24b, hS2.f0 (by decide), hL2.f0 (by decide) (by decide)⟩, (ho.trans (os.mono (fun p j => sn_rn ht201))).trans (OfR.up (Or.inr (Or.inr ⟨rfl, by decide, by decide⟩)))⟩
        · obtain ⟨q9, hq9, hq9s, eq9⟩ : ∃ q, q < t ∧ same n (runS cd n s q).1 (runS cd n s t).1 ∧ r52 = nI q := by
            rcases e52 with z | z
            · exact z
            · rw [e55, z.2] at c57; exact absurd c57 (by decide)
          have e55' : x55 = nI q9 := by rw [e55, eq9]
          refine u_aload_n (pc := 60) C d_M_runIt_60 rfl ?_
          refine u_iconst (pc := 61) (v := 2) C d_M_runIt_61 (by decide) ?_
          refine u_put (pc := 62) C d_M_runIt_62 fw_M_279 sR_0 rfl (Or.inl rfl) ?_
          refine u_aload_n (pc := 65) C d_M_runIt_65 rfl ?_
          refine u_iload_n (pc := 66) C d_M_runIt_66 rfl ?_
          refine u_put (pc := 67) C d_M_runIt_67 fw_M_269 sR_0 rfl (Or.inl rfl) ?_
          refine u_aload_n (pc := 70) C d_M_runIt_70 rfl ?_
          refine u_iload_n (pc := 71) C d_M_runIt_71 rfl ?_
          refine u_iload_n (pc := 72) C d_M_runIt_72 rfl ?_
          refine u_isub (pc := 73) C d_M_runIt_73 ?_
          refine u_put (pc := 74) C d_M_runIt_74 fw_M_272 sR_0 rfl (Or.inl rfl) ?_
          refine u_iload_n (pc := 77) C d_M_runIt_77 rfl ?_
          refine u_iret (pc := 78) C d_M_runIt_78 (hQ _ _ ⟨_, rfl, ?_⟩)
          rw [e55', pk_sub (by omega)]
          have hr9 := runR_eq (show Run cd n s t 2 (nI q9) (nI (t - q9)) from ⟨hgo, Or.inr (Or.inr (Or.inl ⟨hnl, hnz, ⟨q9, hq9, hq9s, rfl, rfl⟩, rfl⟩))⟩)
          rw [hr9]
          refine ⟨rfl, ⟨by rw [up_j (by decide), up_j (by decide), up_row, pk_us], by rw [up_j (by decide), up_row, pk_us], by rw [up_row, pk_us], ((hS2.f0 (by decide)).f0 (by decide)).f0 (by decide), ((hL2.f0 (by decide) (by decide)).f0 (by decide) (by decide)).f0 (by decide) (by decide)⟩, (((ho.trans (os.mono (fun p j => sn_rn ht201))).trans (OfR.up (Or.inr (Or.inr ⟨rfl, by decide, by decide⟩)))).trans (OfR.up (Or.inr (Or.inr ⟨rfl, by decide, by decide⟩)))).trans (OfR.up (Or.inr (Or.inr ⟨rfl, by decide, by decide⟩)))⟩
      · refine u_aload_n (pc := 38) C d_M_runIt_38 rfl ?_
        refine u_iconst (pc := 39) (v := 0) C d_M_runIt_39 (by decide) ?_
        refine u_put (pc := 40) C d_M_runIt_40 fw_M_279 sR_0 rfl (Or.inl rfl) ?_
        refine u_iload_n (pc := 43) C d_M_runIt_43 rfl ?_
        refine u_iret (pc := 44) C d_M_runIt_44 (hQ _ _ ⟨_, rfl, ?_⟩)
        rw [cl6, hm] at c35
        have hr9 := runR_eq (show Run cd n s t 0 (-2) (-2) from ⟨hgo, Or.inr (Or.inl ⟨hnl, by rw [hh4]; exact c35, rfl, rfl, rfl⟩)⟩)
        rw [hr9]
        refine ⟨rfl, ⟨by rw [up_row, pk_us], by rw [up_j (by decide)]; exact h23, by rw [up_j (by decide)]; exact h24, hS.f0 (by decide), hL.f0 (by decide) (by decide)⟩, ho.trans (OfR.up (Or.inr (Or.inr ⟨rfl, by decide, by decide⟩)))⟩
    · have hlost := hlo.mp (one_of e15 c18)
      refine u_aload_n (pc := 21) C d_M_runIt_21 rfl ?_
      refine u_iconst (pc := 22) (v := 1) C d_M_runIt_22 (by decide) ?_
      refine u_put (pc := 23) C d_M_runIt_23 fw_M_279 sR_0 rfl (Or.inl rfl) ?_
      refine u_iload_n (pc := 26) C d_M_runIt_26 rfl ?_
      refine u_iret (pc := 27) C d_M_runIt_27 (hQ _ _ ⟨_, rfl, ?_⟩)
      have hr9 := runR_eq (show Run cd n s t 1 (-2) (-2) from ⟨hgo, Or.inl ⟨hlost, rfl, rfl, rfl⟩⟩)
      rw [hr9]
      refine ⟨rfl, ⟨by rw [up_row, pk_us], by rw [up_j (by decide)]; exact h23, by rw [up_j (by decide)]; exact h24, hS.f0 (by decide), hL.f0 (by decide) (by decide)⟩, ho.trans (OfR.up (Or.inr (Or.inr ⟨rfl, by decide, by decide⟩)))⟩
set_option maxRecDepth 20000 in
theorem c_M_runIt {cd : Nat → Nat → Int32} {n : Nat} {s : Gm × List Nat} {M : Mem} {tr : Int32} {th ev : List Int32} (h01 : tr = 0 ∨ tr = 1) (hS : RS M cd n s.1 s.2) (htr : M.1 0 32 = tr) (hL : LGr M th ev) : Ct lyR y_M_runIt b_M_runIt 3 (some .int) 8 [.ref 0] M (Pi fun r M' => r = nI (runR cd n s).1 ∧ RNp M' cd n s th ev tr (runR cd n s) ∧ OfR rnR M M') := by
  refine Ct.ofG mx_M_runIt [some (.ref 0), none, none] rfl rfl (Nat.le_of_ble_eq_true rfl) (fun κ C hQ => ?_)
  refine u_iconst (pc := 0) (v := 0) C d_M_runIt_0 (by decide) ?_
  refine u_istore_n (pc := 1) C d_M_runIt_1 rfl (fun x1 e1 L9 hL9 => ?_)
  obtain rfl : L9 = [some (.ref 0), some (.int x1), none] := hL9.symm
  refine u_aload_n (pc := 2) C d_M_runIt_2 rfl ?_
  refine u_bipush (pc := 3) (v := (-2)) C d_M_runIt_3 (by decide) ?_
  refine u_put (pc := 5) C d_M_runIt_5 fw_M_269 sR_0 rfl (Or.inl rfl) ?_
  refine u_aload_n (pc := 8) C d_M_runIt_8 rfl ?_
  refine u_bipush (pc := 9) (v := (-2)) C d_M_runIt_9 (by decide) ?_
  refine u_put (pc := 11) C d_M_runIt_11 fw_M_272 sR_0 rfl (Or.inl rfl) ?_
  subst e1
  refine lp_runIt hS.1 h01 C hQ 201 0 _ (by omega) (by omega) ((hS.f0 (by decide)).f0 (by decide)) ((OfR.up (Or.inr (Or.inr ⟨rfl, by decide, by decide⟩))).trans (OfR.up (Or.inr (Or.inr ⟨rfl, by decide, by decide⟩)))) (fun e he => absurd he (Nat.not_lt_zero e)) (fun q hq => absurd hq (Nat.not_lt_zero q)) (by rw [up_j (by decide), up_j (by decide)]; exact htr) (by rw [up_j (by decide), up_row, pk_us]) (by rw [up_row, pk_us]) ?_
  have h9 := (hL.f0 (j := 23) (x := -2) (by decide) (by decide)).f0 (j := 24) (x := -2) (by decide) (by decide)
  rcases h01 with z | z
  · rw [if_neg (by rw [z]; decide), if_neg (by rw [z]; decide)]; exact h9
  · rw [if_pos z, if_pos z, told, hapd, List.append_nil, List.append_nil]; exact h9
