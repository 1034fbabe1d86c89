/-! the reference: the pile, echoes -/
theorem not_leI {a b : Nat} (ha : a < 2 ^ 31) (hb : b < 2 ^ 31) (h : ¬ nI a ≤ nI b) : ¬ a ≤ b := fun z => h ((nI_leI ha hb).mpr z)
set_option maxRecDepth 20000 in
theorem c_M_push {g : Gm} {tb : List Nat} {M : Mem} {x : Int32} (hF : FG (M.1 6) g tb) (hb : HB g) : Ct lyR y_M_push b_M_push 2 none 0 [.ref 0, .int x] M (Pv fun M' => FG (M'.1 6) (psh g x) tb ∧ OfR gR M M') := by
  obtain ⟨h, hh64, hh4⟩ := hb
  have hm : M.1 6 6 = nI h := by rw [← hh4]; exact hF.2.1.2.2.2.2
  refine Ct.ofG mx_M_push [some (.ref 0), some (.int x)] rfl rfl (Nat.le_of_ble_eq_true rfl) (fun κ C hQ => ?_)
  refine u_aload_n (pc := 0) C d_M_push_0 rfl ?_
  refine u_getr (pc := 1) (r := 6) C d_M_push_1 fw_M_25 sR_0 rfl rfl ?_
  refine u_bipush (pc := 4) (v := 6) C d_M_push_4 (by decide) ?_
  refine u_iald (pc := 6) C d_M_push_6 sR_6 v6 ?_
  refine u_bipush (pc := 7) (v := 64) C d_M_push_7 (by decide) ?_
  refine u_icmp_ge (pc := 9) (tgt := 39) C d_M_push_9 rfl (fun c9 => ?_) (fun c9 => ?_)
  · refine u_vret (pc := 39) C d_M_push_39 (hQ _ _ ⟨rfl, ?_⟩)
    rw [cl6, hm] at c9
    have hq : h = 64 := by
      have := (nI_leI (a := 64) (b := h) (by omega) (by omega)).mp c9
      omega
    refine ⟨?_, OfR.refl⟩
    rw [psh_def, hh4, if_neg (show ¬ nI h < (64 : Int32) from nI_nlt (a := h) (b := 64) (by omega) (by omega))]
    exact hF
  · refine u_aload_n (pc := 12) C d_M_push_12 rfl ?_
    refine u_getr (pc := 13) (r := 6) C d_M_push_13 fw_M_25 sR_0 rfl rfl ?_
    refine u_bipush (pc := 16) (v := 7) C d_M_push_16 (by decide) ?_
    refine u_aload_n (pc := 18) C d_M_push_18 rfl ?_
    refine u_getr (pc := 19) (r := 6) C d_M_push_19 fw_M_25 sR_0 rfl rfl ?_
    refine u_bipush (pc := 22) (v := 6) C d_M_push_22 (by decide) ?_
    refine u_iald (pc := 24) C d_M_push_24 sR_6 v6 ?_
    refine u_iadd (pc := 25) C d_M_push_25 ?_
    refine u_iload_n (pc := 26) C d_M_push_26 rfl ?_
    refine u_iast (pc := 27) C d_M_push_27 sR_6 (by rw [cl6, hm]; exact vp7 (by rw [cl6, hm] at c9; have := not_leI (a := 64) (b := h) (by omega) (by omega) c9; omega)) ?_
    refine u_aload_n (pc := 28) C d_M_push_28 rfl ?_
    refine u_getr (pc := 29) (r := 6) C d_M_push_29 fw_M_25 sR_0 rfl rfl ?_
    refine u_bipush (pc := 32) (v := 6) C d_M_push_32 (by decide) ?_
    refine u_dup2 (pc := 34) C d_M_push_34 rfl rfl ?_
    refine u_iald (pc := 35) C d_M_push_35 sR_6 v6 ?_
    refine u_iconst (pc := 36) (v := 1) C d_M_push_36 (by decide) ?_
    refine u_iadd (pc := 37) C d_M_push_37 ?_
    refine u_iast (pc := 38) C d_M_push_38 sR_6 v6 ?_
    refine u_vret (pc := 39) C d_M_push_39 (hQ _ _ ⟨rfl, ?_⟩)
    rw [cl6, hm] at c9
    have hq : h < 64 := by
      have := not_leI (a := 64) (b := h) (by omega) (by omega) c9
      omega
    refine ⟨?_, ofg.trans ofg⟩
    rw [cl6, hm, ix7 hq, up_r6, up_r6, pk_un (by omega), hm, ← nI_succ]
    exact hF.push hh4 hq
set_option maxRecDepth 20000 in
theorem c_M_playIt {cd : Nat → Nat → Int32} {n c : Nat} {g : Gm} {tb : List Nat} {M : Mem} (hS : RS M cd n g tb) (hc : c < n) (h1 : g 3 c = 1) : Ct lyR y_M_playIt b_M_playIt 2 none 1 [.ref 0, .int (nI c)] M (Pv fun M' => RS M' cd n (plG g c) tb ∧ OfR gR M M') := by
  have hc24 : c < 24 := by have := hS.n24; omega
  have hb2 : HB (up2 g 3 c 2) := hS.1.hb
  refine Ct.ofG mx_M_playIt [some (.ref 0), some (.int (nI c))] rfl rfl (Nat.le_of_ble_eq_true rfl) (fun κ C hQ => ?_)
  refine u_aload_n (pc := 0) C d_M_playIt_0 rfl ?_
  refine u_getr (pc := 1) (r := 6) C d_M_playIt_1 fw_M_25 sR_0 rfl rfl ?_
  refine u_bipush (pc := 4) (v := 71) C d_M_playIt_4 (by decide) ?_
  refine u_iload_n (pc := 6) C d_M_playIt_6 rfl ?_
  refine u_iadd (pc := 7) C d_M_playIt_7 ?_
  refine u_iconst (pc := 8) (v := 2) C d_M_playIt_8 (by decide) ?_
  refine u_iast (pc := 9) C d_M_playIt_9 sR_6 (vp71 hc24) ?_
  refine u_gmem (fun M9 e9 => ?_)
  rw [ix71 hc24] at e9
  have hF9 : FG (M9.1 6) (up2 g 3 c 2) tb := by rw [e9, up_r6]; exact hS.2.2.2.where hc24
  have o9 : OfR gR M M9 := by rw [e9]; exact ofg
  refine u_aload_n (pc := 10) C d_M_playIt_10 rfl ?_
  refine u_iload_n (pc := 11) C d_M_playIt_11 rfl ?_
  refine u_callVv (pc := 12) C d_M_playIt_12 mx_M_push mw_M_227 sR_0 rfl (c_M_push hF9 hb2) rfl rfl (Nat.le_of_ble_eq_true rfl) (fun M12 q12 => ?_)
  obtain ⟨hFp, op⟩ := q12
  refine u_vret (pc := 15) C d_M_playIt_15 (hQ _ _ ⟨rfl, ?_⟩)
  refine ⟨hS.row (o9.trans op) (hS.1.play hc h1) ?_, o9.trans op⟩
  rw [psh_up] at hFp
  exact hFp
theorem bit_rem : ∀ k, k ≤ 18 → (¬ ((nI k - 9) - (nI k - 9) / 2 * 2 = 0) ↔ (nI k - 9) &&& 1 = 1) := by decide +kernel
theorem odd_by {x : Int32} (h : -9 ≤ x.toInt ∧ x.toInt ≤ 9) : ¬ (x - x / 2 * 2 = 0) ↔ x &&& 1 = 1 := by
  have e : ∃ k, k ≤ 18 ∧ x = nI k - 9 := by
    refine ⟨(x.toInt + 9).toNat, by omega, ?_⟩
    apply Int32.toInt_inj.mp
    have h9 : (9 : Int32) = nI 9 := rfl
    rw [h9, pk_sub_toInt (by omega) (by omega)]
    omega
  obtain ⟨k, hk, rfl⟩ := e
  exact bit_rem k hk
theorem pos_by {x : Int32} (h : -9 ≤ x.toInt ∧ x.toInt ≤ 9) : withinF x 0 99 = if x < 0 then 0 else x := by
  have e0 : (0 : Int32).toInt = 0 := by decide
  have e9 : (99 : Int32).toInt = 99 := by decide
  unfold withinF
  by_cases q : x < 0
  · rw [if_pos q, if_neg (Int32.not_le.mpr q)]
  · rw [if_neg q, if_pos (Int32.not_lt.mp q), if_pos (by rw [Int32.le_iff_toInt_le, e9]; omega)]
/-- the shadows still to come -/
def plE (M : Mem) (n : Nat) (L : List Nat) (x1 : Int32) (c : Nat) : Bool := decide (c ∈ L) && decide (x1 < M.1 6 (95 + c))
theorem ord_split {f : Nat → Int32} {L done rs : List Nat} {b c : Nat} (hp : L.Pairwise (fun a b => f a < f b)) (hL : L = done ++ b :: rs) (hc : c ∈ L) : f b < f c ↔ c ∈ rs := by
  subst hL
  obtain ⟨p1, p2, p3⟩ := List.pairwise_append.mp hp
  obtain ⟨p4, p5⟩ := List.pairwise_cons.mp p2
  constructor
  · intro h
    have h1 := Int32.lt_iff_toInt_lt.mp h
    rcases List.mem_append.mp hc with q | q
    · have h2 := Int32.lt_iff_toInt_lt.mp (p3 c q b List.mem_cons_self)
      omega
    · rcases List.mem_cons.mp q with q | q
      · subst q; omega
      · exact q
  · exact fun h => p4 c h
theorem fold_4 {α : Type} {f : α → Int32} {g : Gm} (l : List α) (h : HB g) : (l.foldl (fun g c => psh g (f c)) g) 4 = g 4 ∧ (l.foldl (fun g c => psh g (f c)) g) 3 = g 3 := ⟨(fold_psh l g h).2.1 4 (by decide) (by decide), (fold_psh l g h).2.1 3 (by decide) (by decide)⟩
set_option maxRecDepth 20000 in
theorem lp_echoE {κ : KX} {M : Mem} (C : Cx κ lyR y_M_echoes.cls b_M_echoes 5 none 2) {x1 x3 x4 : Int32} (hQ : ∀ v M', Pv (fun M' => M' = M) v M' → KQ κ v M') : ∀ (x2 : Int32), x2 = 0 → G κ lyR 4 [some (.ref 0), some (.int x1), some (.int x2), some (.int x3), some (.int x4)] [] M := by
  intro x2 hx2
  refine u_iload_n (pc := 4) C d_M_echoes_4 rfl ?_
  refine u_if_eq (pc := 5) (tgt := 203) C d_M_echoes_5 rfl (fun c5 => ?_) (fun c5 => ?_)
  · refine u_vret (pc := 203) C d_M_echoes_203 (hQ _ _ ⟨rfl, ?_⟩)
    rfl
  · exact absurd hx2 c5
set_option maxRecDepth 20000 in
theorem lp_echoI {κ : KX} {cd : Nat → Nat → Int32} {n : Nat} {g : Gm} {tb : List Nat} {M : Mem} {t : Int32} (hS : RS M cd n g tb) {x1 x2 : Int32} (ht : M.1 0 16 = t)  (C : Cx κ lyR y_M_echoes.cls b_M_echoes 5 none 2) (hQ : ∀ x4, G κ lyR 107 [some (.ref 0), some (.int x1), some (.int x2), some (.int (oI (amin (ltR M) (plE M n (tb.filter (fun c => decide (cd 0 c = 14) && decide (cd 2 c = t))) x1) n))), some (.int x4)] [] M) : ∀ (f i : Nat) (x3 : Int32), i ≤ n → n - i < f → x3 = oI (amin (ltR M) (plE M n (tb.filter (fun c => decide (cd 0 c = 14) && decide (cd 2 c = t))) x1) i) → G κ lyR 13 [some (.ref 0), some (.int x1), some (.int x2), some (.int x3), some (.int (nI i))] [] M := by
  intro f
  induction f with
  | zero => intro i x3 _ h; omega
  | succ f ih =>
    intro i x3 hi hf e3
    have n24 := hS.n24
    have h5 := hS.2.2.1
    have hin : nI n ≤ nI i ↔ n ≤ i := nI_leI (by omega) (by omega)
    obtain ⟨k1, k2, k3, k4, k5⟩ := hS.cdc
    have hbd : ∀ b, amin (ltR M) (plE M n (tb.filter (fun c => decide (cd 0 c = 14) && decide (cd 2 c = t))) x1) i = some b → b < 24 := fun b hb => by have := (amin_lt hb).1; omega
    refine u_iload (pc := 13) C d_M_echoes_13 rfl ?_
    refine u_aload_n (pc := 15) C d_M_echoes_15 rfl ?_
    refine u_geti (pc := 16) C d_M_echoes_16 fw_M_70 sR_0 rfl ?_
    refine u_icmp_ge (pc := 19) (tgt := 107) C d_M_echoes_19 rfl (fun c19 => ?_) (fun c19 => ?_)
    · have hge : i = n := by rw [h5, hin] at c19; omega
      subst hge
      subst e3
      exact hQ _
    · have hlt : i < n := by rw [h5, hin] at c19; omega
      have hi24 : i < 24 := by omega
      have hw := hS.wh hi24
      have ei1 : M.1 1 (nI i).toNatClampNeg = cd 0 i := by rw [k1, nI_clamp (by omega)]
      have ei3 : M.1 3 (nI i).toNatClampNeg = cd 2 i := by rw [k3, nI_clamp (by omega)]
      have hLi : i ∈ (tb.filter (fun c => decide (cd 0 c = 14) && decide (cd 2 c = t))) ↔ g 3 i = 3 ∧ cd 0 i = 14 ∧ cd 2 i = t := by
        rw [List.mem_filter, hS.tbm]
        simp only [Bool.and_eq_true, decide_eq_true_eq]
        exact ⟨fun q => ⟨q.1.2, q.2⟩, fun q => ⟨⟨hlt, q.1⟩, q.2⟩⟩
      refine u_aload_n (pc := 22) C d_M_echoes_22 rfl ?_
      refine u_iload (pc := 23) C d_M_echoes_23 rfl ?_
      refine u_iconst (pc := 25) (v := 3) C d_M_echoes_25 (by decide) ?_
      refine u_callVi (pc := 26) C d_M_echoes_26 mx_M_isAt mw_M_164 sR_0 rfl (c_M_isAt hi24) rfl rfl (Nat.le_of_ble_eq_true rfl) (fun r26 M26 q26 => ?_)
      obtain ⟨e26, q26⟩ := q26
      have q26 := q26.symm
      subst q26
      rw [hw] at e26
      refine u_if_eq (pc := 29) (tgt := 101) C d_M_echoes_29 rfl (fun c29 => ?_) (fun c29 => ?_)
      · refine u_iinc (pc := 101) (v2 := 1) C d_M_echoes_101 rfl rfl (by decide) (fun x101 e101 L9 hL9 => ?_)
        obtain rfl : L9 = [some (.ref 0), some (.int x1), some (.int x2), some (.int x3), some (.int x101)] := hL9.symm
        refine u_goto (pc := 104) (tgt := 13) C d_M_echoes_104 rfl ?_
        obtain rfl : x101 = nI (i + 1) := by rw [e101, nI_succ]
        have hP : ¬ plE M n (tb.filter (fun c => decide (cd 0 c = 14) && decide (cd 2 c = t))) x1 i = true := by
          unfold plE
          rw [Bool.and_eq_true, decide_eq_true_eq, decide_eq_true_eq, hLi]
          rintro ⟨z1, z2⟩
          exact zero_of e26 c29 z1.1
        exact ih (i + 1) _ (by omega) (by omega) (by rw [e3, amin_no hP])
      · refine u_aload_n (pc := 32) C d_M_echoes_32 rfl ?_
        refine u_getr (pc := 33) (r := 1) C d_M_echoes_33 fw_M_9 sR_0 rfl rfl ?_
        refine u_iload (pc := 36) C d_M_echoes_36 rfl ?_
        refine u_iald (pc := 38) C d_M_echoes_38 sR_1 (vp24 hi24) ?_
        refine u_bipush (pc := 39) (v := 14) C d_M_echoes_39 (by decide) ?_
        refine u_icmp_ne (pc := 41) (tgt := 101) C d_M_echoes_41 rfl (fun c41 => ?_) (fun c41 => ?_)
        · refine u_iinc (pc := 101) (v2 := 1) C d_M_echoes_101 rfl rfl (by decide) (fun x101 e101 L9 hL9 => ?_)
          obtain rfl : L9 = [some (.ref 0), some (.int x1), some (.int x2), some (.int x3), some (.int x101)] := hL9.symm
          refine u_goto (pc := 104) (tgt := 13) C d_M_echoes_104 rfl ?_
          obtain rfl : x101 = nI (i + 1) := by rw [e101, nI_succ]
          have hP : ¬ plE M n (tb.filter (fun c => decide (cd 0 c = 14) && decide (cd 2 c = t))) x1 i = true := by
            unfold plE
            rw [Bool.and_eq_true, decide_eq_true_eq, decide_eq_true_eq, hLi]
            rintro ⟨z1, z2⟩
            rw [ei1] at c41
            exact c41 z1.2.1
          exact ih (i + 1) _ (by omega) (by omega) (by rw [e3, amin_no hP])
        · refine u_aload_n (pc := 44) C d_M_echoes_44 rfl ?_
          refine u_getr (pc := 45) (r := 3) C d_M_echoes_45 fw_M_16 sR_0 rfl rfl ?_
          refine u_iload (pc := 48) C d_M_echoes_48 rfl ?_
          refine u_iald (pc := 50) C d_M_echoes_50 sR_3 (vp24 hi24) ?_
          refine u_aload_n (pc := 51) C d_M_echoes_51 rfl ?_
          refine u_geti (pc := 52) C d_M_echoes_52 fw_M_202 sR_0 rfl ?_
          refine u_icmp_ne (pc := 55) (tgt := 101) C d_M_echoes_55 rfl (fun c55 => ?_) (fun c55 => ?_)
          · refine u_iinc (pc := 101) (v2 := 1) C d_M_echoes_101 rfl rfl (by decide) (fun x101 e101 L9 hL9 => ?_)
            obtain rfl : L9 = [some (.ref 0), some (.int x1), some (.int x2), some (.int x3), some (.int x101)] := hL9.symm
            refine u_goto (pc := 104) (tgt := 13) C d_M_echoes_104 rfl ?_
            obtain rfl : x101 = nI (i + 1) := by rw [e101, nI_succ]
            have hP : ¬ plE M n (tb.filter (fun c => decide (cd 0 c = 14) && decide (cd 2 c = t))) x1 i = true := by
              unfold plE
              rw [Bool.and_eq_true, decide_eq_true_eq, decide_eq_true_eq, hLi]
              rintro ⟨z1, z2⟩
              rw [ei3, ht] at c55
              exact c55 z1.2.2
            exact ih (i + 1) _ (by omega) (by omega) (by rw [e3, amin_no hP])
          · refine u_aload_n (pc := 58) C d_M_echoes_58 rfl ?_
            refine u_getr (pc := 59) (r := 6) C d_M_echoes_59 fw_M_25 sR_0 rfl rfl ?_
            refine u_bipush (pc := 62) (v := 95) C d_M_echoes_62 (by decide) ?_
            refine u_iload (pc := 64) C d_M_echoes_64 rfl ?_
            refine u_iadd (pc := 66) C d_M_echoes_66 ?_
            refine u_iald (pc := 67) C d_M_echoes_67 sR_6 (vp95 hi24) ?_
            refine u_iload_n (pc := 68) C d_M_echoes_68 rfl ?_
            refine u_icmp_le (pc := 69) (tgt := 101) C d_M_echoes_69 rfl (fun c69 => ?_) (fun c69 => ?_)
            · refine u_iinc (pc := 101) (v2 := 1) C d_M_echoes_101 rfl rfl (by decide) (fun x101 e101 L9 hL9 => ?_)
              obtain rfl : L9 = [some (.ref 0), some (.int x1), some (.int x2), some (.int x3), some (.int x101)] := hL9.symm
              refine u_goto (pc := 104) (tgt := 13) C d_M_echoes_104 rfl ?_
              obtain rfl : x101 = nI (i + 1) := by rw [e101, nI_succ]
              have hP : ¬ plE M n (tb.filter (fun c => decide (cd 0 c = 14) && decide (cd 2 c = t))) x1 i = true := by
                unfold plE
                rw [Bool.and_eq_true, decide_eq_true_eq, decide_eq_true_eq, hLi]
                rintro ⟨z1, z2⟩
                rw [ix95 hi24] at c69
                exact absurd z2 (Int32.not_lt.mpr c69)
              exact ih (i + 1) _ (by omega) (by omega) (by rw [e3, amin_no hP])
            · refine u_iload_n (pc := 72) C d_M_echoes_72 rfl ?_
              refine u_if_lt (pc := 73) (tgt := 98) C d_M_echoes_73 rfl (fun c73 => ?_) (fun c73 => ?_)
              · refine u_iload (pc := 98) C d_M_echoes_98 rfl ?_
                refine u_istore_n (pc := 100) C d_M_echoes_100 rfl (fun x100 e100 L9 hL9 => ?_)
                obtain rfl : L9 = [some (.ref 0), some (.int x1), some (.int x2), some (.int x100), some (.int (nI i))] := hL9.symm
                refine u_iinc (pc := 101) (v2 := 1) C d_M_echoes_101 rfl rfl (by decide) (fun x101 e101 L9 hL9 => ?_)
                obtain rfl : L9 = [some (.ref 0), some (.int x1), some (.int x2), some (.int x100), some (.int x101)] := hL9.symm
                refine u_goto (pc := 104) (tgt := 13) C d_M_echoes_104 rfl ?_
                obtain rfl : x101 = nI (i + 1) := by rw [e101, nI_succ]
                have hP : plE M n (tb.filter (fun c => decide (cd 0 c = 14) && decide (cd 2 c = t))) x1 i = true := by
                  unfold plE
                  rw [Bool.and_eq_true, decide_eq_true_eq, decide_eq_true_eq, hLi]
                  rw [ei1] at c41
                  rw [ei3, ht] at c55
                  rw [ix95 hi24] at c69
                  exact ⟨⟨one_of e26 c29, c41, c55⟩, Int32.not_le.mp c69⟩
                have hn9 := oI_none (fun c hc => by have := hbd c hc; omega) (by rw [← e3]; exact c73)
                exact ih (i + 1) _ (by omega) (by omega) (by rw [e100, amin_new hP hn9]; rfl)
              · have hbx := oI_some (by rw [← e3]; exact c73)
                obtain ⟨b, hb⟩ := hbx
                have hb24 := hbd b hb
                have e3' : x3 = nI b := by rw [e3, hb]; rfl
                subst e3' 
                refine u_aload_n (pc := 76) C d_M_echoes_76 rfl ?_
                refine u_getr (pc := 77) (r := 6) C d_M_echoes_77 fw_M_25 sR_0 rfl rfl ?_
                refine u_bipush (pc := 80) (v := 95) C d_M_echoes_80 (by decide) ?_
                refine u_iload (pc := 82) C d_M_echoes_82 rfl ?_
                refine u_iadd (pc := 84) C d_M_echoes_84 ?_
                refine u_iald (pc := 85) C d_M_echoes_85 sR_6 (vp95 hi24) ?_
                refine u_aload_n (pc := 86) C d_M_echoes_86 rfl ?_
                refine u_getr (pc := 87) (r := 6) C d_M_echoes_87 fw_M_25 sR_0 rfl rfl ?_
                refine u_bipush (pc := 90) (v := 95) C d_M_echoes_90 (by decide) ?_
                refine u_iload_n (pc := 92) C d_M_echoes_92 rfl ?_
                refine u_iadd (pc := 93) C d_M_echoes_93 ?_
                refine u_iald (pc := 94) C d_M_echoes_94 sR_6 (vp95 hb24) ?_
                refine u_icmp_ge (pc := 95) (tgt := 101) C d_M_echoes_95 rfl (fun c95 => ?_) (fun c95 => ?_)
                · refine u_iinc (pc := 101) (v2 := 1) C d_M_echoes_101 rfl rfl (by decide) (fun x101 e101 L9 hL9 => ?_)
                  obtain rfl : L9 = [some (.ref 0), some (.int x1), some (.int x2), some (.int (nI b)), some (.int x101)] := hL9.symm
                  refine u_goto (pc := 104) (tgt := 13) C d_M_echoes_104 rfl ?_
                  obtain rfl : x101 = nI (i + 1) := by rw [e101, nI_succ]
                  have hP : plE M n (tb.filter (fun c => decide (cd 0 c = 14) && decide (cd 2 c = t))) x1 i = true := by
                    unfold plE
                    rw [Bool.and_eq_true, decide_eq_true_eq, decide_eq_true_eq, hLi]
                    rw [ei1] at c41
                    rw [ei3, ht] at c55
                    rw [ix95 hi24] at c69
                    exact ⟨⟨one_of e26 c29, c41, c55⟩, Int32.not_le.mp c69⟩
                  rw [ix95 hi24, ix95 hb24] at c95
                  exact ih (i + 1) _ (by omega) (by omega) (by rw [amin_more hb (by unfold ltR; rw [decide_eq_true_eq]; exact Int32.not_lt.mpr c95)]; rfl)
                · refine u_iload (pc := 98) C d_M_echoes_98 rfl ?_
                  refine u_istore_n (pc := 100) C d_M_echoes_100 rfl (fun x100 e100 L9 hL9 => ?_)
                  obtain rfl : L9 = [some (.ref 0), some (.int x1), some (.int x2), some (.int x100), some (.int (nI i))] := hL9.symm
                  refine u_iinc (pc := 101) (v2 := 1) C d_M_echoes_101 rfl rfl (by decide) (fun x101 e101 L9 hL9 => ?_)
                  obtain rfl : L9 = [some (.ref 0), some (.int x1), some (.int x2), some (.int x100), some (.int x101)] := hL9.symm
                  refine u_goto (pc := 104) (tgt := 13) C d_M_echoes_104 rfl ?_
                  obtain rfl : x101 = nI (i + 1) := by rw [e101, nI_succ]
                  have hP : plE M n (tb.filter (fun c => decide (cd 0 c = 14) && decide (cd 2 c = t))) x1 i = true := by
                    unfold plE
                    rw [Bool.and_eq_true, decide_eq_true_eq, decide_eq_true_eq, hLi]
                    rw [ei1] at c41
                    rw [ei3, ht] at c55
                    rw [ix95 hi24] at c69
                    exact ⟨⟨one_of e26 c29, c41, c55⟩, Int32.not_le.mp c69⟩
                  rw [ix95 hi24, ix95 hb24] at c95
                  exact ih (i + 1) _ (by omega) (by omega) (by rw [e100, amin_less hP hb (by unfold ltR; rw [decide_eq_true_eq]; exact Int32.not_le.mp c95)]; rfl)
set_option maxRecDepth 20000 in
theorem lp_echoT {κ : KX} {cd : Nat → Nat → Int32} {n : Nat} {g : Gm} {tb : List Nat} {M : Mem} {t x1 x2 : Int32} {done rest : List Nat} {M1 : Mem} (hS : RS M cd n g tb) (ht : M.1 0 16 = t)  (C : Cx κ lyR y_M_echoes.cls b_M_echoes 5 none 2) (hQ : ∀ v M', Pv (fun M' => RS M' cd n (echo cd tb t g) tb ∧ OfR gR M M') v M' → KQ κ v M') (hb0 : HB g) (hL : (tb.filter (fun c => decide (cd 0 c = 14) && decide (cd 2 c = t))) = done ++ rest) (hS1 : RS M1 cd n (done.foldl (fun g c => psh g (shdw cd c)) g) tb) (ho : OfR gR M M1) (hx1 : ∀ c, c ∈ (tb.filter (fun c => decide (cd 0 c = 14) && decide (cd 2 c = t))) → (x1 < M1.1 6 (95 + c) ↔ c ∈ rest)) (kk : ∀ (r2 : Nat × List Nat) (M2 : Mem), rest = r2.1 :: r2.2 → r2.1 < 24 → RS M2 cd n ((done ++ [r2.1]).foldl (fun g c => psh g (shdw cd c)) g) tb → OfR gR M M2 → (∀ c, c ∈ (tb.filter (fun c => decide (cd 0 c = 14) && decide (cd 2 c = t))) → (M1.1 6 (95 + r2.1) < M2.1 6 (95 + c) ↔ c ∈ r2.2)) → G κ lyR 4 [some (.ref 0), some (.int (M1.1 6 (95 + r2.1))), some (.int 1), none, none] [] M2) : ∀ x4 : Int32, G κ lyR 107 [some (.ref 0), some (.int x1), some (.int x2), some (.int (oI rest.head?)), some (.int x4)] [] M1 := by
  intro x4
  have n24 := hS.n24
  obtain ⟨k1, k2, k3, k4, k5⟩ := hS1.cdc
  have hhb : ∀ c, rest.head? = some c → c < n := fun c hc => by
    have h1 : c ∈ rest := List.mem_of_mem_head? hc
    have h2 : c ∈ (tb.filter (fun c => decide (cd 0 c = 14) && decide (cd 2 c = t))) := by rw [hL]; exact List.mem_append_right _ h1
    exact (hS1.tbm.mp (List.mem_filter.mp h2).1).1
  refine u_iload_n (pc := 107) C d_M_echoes_107 rfl ?_
  refine u_if_lt (pc := 108) (tgt := 115) C d_M_echoes_108 rfl (fun c108 => ?_) (fun c108 => ?_)
  · refine u_iconst (pc := 115) (v := 0) C d_M_echoes_115 (by decide) ?_
    refine u_istore_n (pc := 116) C d_M_echoes_116 rfl (fun x116 e116 L9 hL9 => ?_)
    obtain rfl : L9 = [some (.ref 0), some (.int x1), some (.int x116), some (.int (oI rest.head?)), some (.int x4)] := hL9.symm
    refine u_iload_n (pc := 117) C d_M_echoes_117 rfl ?_
    refine u_if_eq (pc := 118) (tgt := 200) C d_M_echoes_118 rfl (fun c118 => ?_) (fun c118 => ?_)
    · refine u_goto (pc := 200) (tgt := 4) C d_M_echoes_200 rfl ?_
      refine lp_echoE C (fun v M q => hQ v M ?_) _ (by rw [e116])
      obtain ⟨rfl, q⟩ := q
      have q := q.symm
      subst q
      have hre : rest = [] := by
        have h1 := oI_none (fun c hc => by have := hhb c hc; omega) c108
        cases hrr : rest with
        | nil => rfl
        | cons z l => rw [hrr] at h1; cases h1
      refine ⟨rfl, ?_, ho⟩
      unfold echo
      rw [hL, hre, List.append_nil]
      exact hS1
    · exact absurd e116 c118
  · obtain ⟨b, hb⟩ := oI_some c108
    have hbn := hhb b hb
    have hb24 : b < 24 := by omega
    obtain ⟨rs, hrs⟩ : ∃ rs, rest = b :: rs := by
      cases hrr : rest with
      | nil => rw [hrr] at hb; cases hb
      | cons z l => rw [hrr] at hb; cases hb; exact ⟨l, rfl⟩
    have eo : oI rest.head? = nI b := by rw [hb]; rfl
    have hby := (hS.1.1.2 b hbn).2.2.2.2
    have hcl : (nI b).toNatClampNeg = b := nI_clamp (by omega)
    have i2 : M1.1 2 (nI b).toNatClampNeg = cd 1 b := by rw [k2, hcl]
    have i4 : M1.1 4 (nI b).toNatClampNeg = cd 3 b := by rw [k4, hcl]
    have i5 : M1.1 5 (nI b).toNatClampNeg = cd 4 b := by rw [k5, hcl]
    rw [eo]
    refine u_iconst (pc := 111) (v := 1) C d_M_echoes_111 (by decide) ?_
    refine u_goto (pc := 112) (tgt := 116) C d_M_echoes_112 rfl ?_
    refine u_istore_n (pc := 116) C d_M_echoes_116 rfl (fun x116 e116 L9 hL9 => ?_)
    obtain rfl : L9 = [some (.ref 0), some (.int x1), some (.int x116), some (.int (nI b)), some (.int x4)] := hL9.symm
    refine u_iload_n (pc := 117) C d_M_echoes_117 rfl ?_
    refine u_if_eq (pc := 118) (tgt := 200) C d_M_echoes_118 rfl (fun c118 => ?_) (fun c118 => ?_)
    · exact absurd (e116.symm.trans c118) (by decide)
    · refine u_aload_n (pc := 121) C d_M_echoes_121 rfl ?_
      refine u_getr (pc := 122) (r := 6) C d_M_echoes_122 fw_M_25 sR_0 rfl rfl ?_
      refine u_bipush (pc := 125) (v := 95) C d_M_echoes_125 (by decide) ?_
      refine u_iload_n (pc := 127) C d_M_echoes_127 rfl ?_
      refine u_iadd (pc := 128) C d_M_echoes_128 ?_
      refine u_iald (pc := 129) C d_M_echoes_129 sR_6 (vp95 hb24) ?_
      refine u_istore_n (pc := 130) C d_M_echoes_130 rfl (fun x130 e130 L9 hL9 => ?_)
      obtain rfl : L9 = [some (.ref 0), some (.int x130), some (.int x116), some (.int (nI b)), some (.int x4)] := hL9.symm
      refine u_aload_n (pc := 131) C d_M_echoes_131 rfl ?_
      refine u_getr (pc := 132) (r := 5) C d_M_echoes_132 fw_M_22 sR_0 rfl rfl ?_
      refine u_iload_n (pc := 135) C d_M_echoes_135 rfl ?_
      refine u_iald (pc := 136) C d_M_echoes_136 sR_5 (vp24 hb24) ?_
      refine u_iconst (pc := 137) (v := 2) C d_M_echoes_137 (by decide) ?_
      refine u_irem (pc := 138) C d_M_echoes_138 (by decide) ?_
      refine u_if_eq (pc := 139) (tgt := 151) C d_M_echoes_139 rfl (fun c139 => ?_) (fun c139 => ?_)
      · refine u_iconst (pc := 151) (v := 1) C d_M_echoes_151 (by decide) ?_
        refine u_aload_n (pc := 152) C d_M_echoes_152 rfl ?_
        refine u_getr (pc := 153) (r := 2) C d_M_echoes_153 fw_M_13 sR_0 rfl rfl ?_
        refine u_iload_n (pc := 156) C d_M_echoes_156 rfl ?_
        refine u_iald (pc := 157) C d_M_echoes_157 sR_2 (vp24 hb24) ?_
        refine u_isub (pc := 158) C d_M_echoes_158 ?_
        refine u_istore (pc := 159) C d_M_echoes_159 rfl (fun x159 e159 L9 hL9 => ?_)
        obtain rfl : L9 = [some (.ref 0), some (.int x130), some (.int x116), some (.int (nI b)), some (.int x159)] := hL9.symm
        refine u_aload_n (pc := 161) C d_M_echoes_161 rfl ?_
        refine u_sipush (pc := 162) (v := 10000) C d_M_echoes_162 (by decide) ?_
        refine u_sipush (pc := 165) (v := 1000) C d_M_echoes_165 (by decide) ?_
        refine u_aload_n (pc := 168) C d_M_echoes_168 rfl ?_
        refine u_getr (pc := 169) (r := 4) C d_M_echoes_169 fw_M_19 sR_0 rfl rfl ?_
        refine u_iload_n (pc := 172) C d_M_echoes_172 rfl ?_
        refine u_iald (pc := 173) C d_M_echoes_173 sR_4 (vp24 hb24) ?_
        refine u_iconst (pc := 174) (v := 3) C d_M_echoes_174 (by decide) ?_
        refine u_irem (pc := 175) C d_M_echoes_175 (by decide) ?_
        refine u_imul (pc := 176) C d_M_echoes_176 ?_
        refine u_iadd (pc := 177) C d_M_echoes_177 ?_
        refine u_bipush (pc := 178) (v := 100) C d_M_echoes_178 (by decide) ?_
        refine u_iload (pc := 180) C d_M_echoes_180 rfl ?_
        refine u_imul (pc := 182) C d_M_echoes_182 ?_
        refine u_iadd (pc := 183) C d_M_echoes_183 ?_
        refine u_aload_n (pc := 184) C d_M_echoes_184 rfl ?_
        refine u_getr (pc := 185) (r := 5) C d_M_echoes_185 fw_M_22 sR_0 rfl rfl ?_
        refine u_iload_n (pc := 188) C d_M_echoes_188 rfl ?_
        refine u_iald (pc := 189) C d_M_echoes_189 sR_5 (vp24 hb24) ?_
        refine u_iconst (pc := 190) (v := 0) C d_M_echoes_190 (by decide) ?_
        refine u_bipush (pc := 191) (v := 99) C d_M_echoes_191 (by decide) ?_
        refine u_callSi (pc := 193) C d_M_echoes_193 mx_M_held mw_M_186 (c_M_held (by decide)) rfl rfl (Nat.le_of_ble_eq_true rfl) (fun r193 M193 q193 => ?_)
        obtain ⟨e193, q193⟩ := q193
        have q193 := q193.symm
        subst q193
        refine u_iadd (pc := 196) C d_M_echoes_196 ?_
        refine u_callVv (pc := 197) C d_M_echoes_197 mx_M_push mw_M_227 sR_0 rfl (c_M_push hS1.2.2.2 hS1.1.hb) rfl rfl (Nat.le_of_ble_eq_true rfl) (fun M197 q197 => ?_)
        obtain ⟨hFp, op⟩ := q197
        refine u_goto (pc := 200) (tgt := 4) C d_M_echoes_200 rfl ?_
        refine u_drop 3 rfl ?_
        refine u_drop 4 rfl ?_
        rw [ix95 hb24] at e130
        rw [i2] at e159
        rw [i5] at c139
        rw [i5, pos_by hby] at e193
        have hsh : (10000 : Int32) + 1000 * (M1.1 4 (nI b).toNatClampNeg - M1.1 4 (nI b).toNatClampNeg / 3 * 3) + 100 * x159 + r193 = shdw cd b := by
          rw [i4, e193, e159, shdw, codeF, remF, if_neg (fun z => (odd_by hby).mpr z c139), Int32.add_assoc, Int32.add_assoc, Int32.add_assoc]
        rw [hsh] at hFp
        have hS2 : RS M197 cd n ((done ++ [b]).foldl (fun g c => psh g (shdw cd c)) g) tb := by
          rw [List.foldl_append]
          exact hS1.row op (WFg.echoW [b] (fun d hd => by rw [List.mem_singleton.mp hd]; exact hbn) hS1.1) hFp
        have hF5 := fold_4 (f := shdw cd) (g := g) (done ++ [b]) hb0
        have hF4 := fold_4 (f := shdw cd) (g := g) done hb0
        have hbt : b ∈ tb := (List.mem_filter.mp (show b ∈ (tb.filter (fun c => decide (cd 0 c = 14) && decide (cd 2 c = t))) from by rw [hL, hrs]; simp)).1
        subst e130
        subst e116
        refine kk (b, rs) M197 hrs hb24 hS2 (ho.trans op) (fun c hc => ?_)
        rw [hS2.ag (List.mem_filter.mp hc).1, hS1.ag hbt, hF4.1, hF5.1]
        exact ord_split (hS.1.2.1.2.2.filter _) (by rw [hL, hrs]) hc
      · refine u_aload_n (pc := 142) C d_M_echoes_142 rfl ?_
        refine u_getr (pc := 143) (r := 2) C d_M_echoes_143 fw_M_13 sR_0 rfl rfl ?_
        refine u_iload_n (pc := 146) C d_M_echoes_146 rfl ?_
        refine u_iald (pc := 147) C d_M_echoes_147 sR_2 (vp24 hb24) ?_
        refine u_goto (pc := 148) (tgt := 159) C d_M_echoes_148 rfl ?_
        refine u_istore (pc := 159) C d_M_echoes_159 rfl (fun x159 e159 L9 hL9 => ?_)
        obtain rfl : L9 = [some (.ref 0), some (.int x130), some (.int x116), some (.int (nI b)), some (.int x159)] := hL9.symm
        refine u_aload_n (pc := 161) C d_M_echoes_161 rfl ?_
        refine u_sipush (pc := 162) (v := 10000) C d_M_echoes_162 (by decide) ?_
        refine u_sipush (pc := 165) (v := 1000) C d_M_echoes_165 (by decide) ?_
        refine u_aload_n (pc := 168) C d_M_echoes_168 rfl ?_
        refine u_getr (pc := 169) (r := 4) C d_M_echoes_169 fw_M_19 sR_0 rfl rfl ?_
        refine u_iload_n (pc := 172) C d_M_echoes_172 rfl ?_
        refine u_iald (pc := 173) C d_M_echoes_173 sR_4 (vp24 hb24) ?_
        refine u_iconst (pc := 174) (v := 3) C d_M_echoes_174 (by decide) ?_
        refine u_irem (pc := 175) C d_M_echoes_175 (by decide) ?_
        refine u_imul (pc := 176) C d_M_echoes_176 ?_
        refine u_iadd (pc := 177) C d_M_echoes_177 ?_
        refine u_bipush (pc := 178) (v := 100) C d_M_echoes_178 (by decide) ?_
        refine u_iload (pc := 180) C d_M_echoes_180 rfl ?_
        refine u_imul (pc := 182) C d_M_echoes_182 ?_
        refine u_iadd (pc := 183) C d_M_echoes_183 ?_
        refine u_aload_n (pc := 184) C d_M_echoes_184 rfl ?_
        refine u_getr (pc := 185) (r := 5) C d_M_echoes_185 fw_M_22 sR_0 rfl rfl ?_
        refine u_iload_n (pc := 188) C d_M_echoes_188 rfl ?_
        refine u_iald (pc := 189) C d_M_echoes_189 sR_5 (vp24 hb24) ?_
        refine u_iconst (pc := 190) (v := 0) C d_M_echoes_190 (by decide) ?_
        refine u_bipush (pc := 191) (v := 99) C d_M_echoes_191 (by decide) ?_
        refine u_callSi (pc := 193) C d_M_echoes_193 mx_M_held mw_M_186 (c_M_held (by decide)) rfl rfl (Nat.le_of_ble_eq_true rfl) (fun r193 M193 q193 => ?_)
        obtain ⟨e193, q193⟩ := q193
        have q193 := q193.symm
        subst q193
        refine u_iadd (pc := 196) C d_M_echoes_196 ?_
        refine u_callVv (pc := 197) C d_M_echoes_197 mx_M_push mw_M_227 sR_0 rfl (c_M_push hS1.2.2.2 hS1.1.hb) rfl rfl (Nat.le_of_ble_eq_true rfl) (fun M197 q197 => ?_)
        obtain ⟨hFp, op⟩ := q197
        refine u_goto (pc := 200) (tgt := 4) C d_M_echoes_200 rfl ?_
        refine u_drop 3 rfl ?_
        refine u_drop 4 rfl ?_
        rw [ix95 hb24] at e130
        rw [i2] at e159
        rw [i5] at c139
        rw [i5, pos_by hby] at e193
        have hsh : (10000 : Int32) + 1000 * (M1.1 4 (nI b).toNatClampNeg - M1.1 4 (nI b).toNatClampNeg / 3 * 3) + 100 * x159 + r193 = shdw cd b := by
          rw [i4, e193, e159, shdw, codeF, remF, if_pos ((odd_by hby).mp c139), Int32.add_assoc, Int32.add_assoc, Int32.add_assoc]
        rw [hsh] at hFp
        have hS2 : RS M197 cd n ((done ++ [b]).foldl (fun g c => psh g (shdw cd c)) g) tb := by
          rw [List.foldl_append]
          exact hS1.row op (WFg.echoW [b] (fun d hd => by rw [List.mem_singleton.mp hd]; exact hbn) hS1.1) hFp
        have hF5 := fold_4 (f := shdw cd) (g := g) (done ++ [b]) hb0
        have hF4 := fold_4 (f := shdw cd) (g := g) done hb0
        have hbt : b ∈ tb := (List.mem_filter.mp (show b ∈ (tb.filter (fun c => decide (cd 0 c = 14) && decide (cd 2 c = t))) from by rw [hL, hrs]; simp)).1
        subst e130
        subst e116
        refine kk (b, rs) M197 hrs hb24 hS2 (ho.trans op) (fun c hc => ?_)
        rw [hS2.ag (List.mem_filter.mp hc).1, hS1.ag hbt, hF4.1, hF5.1]
        exact ord_split (hS.1.2.1.2.2.filter _) (by rw [hL, hrs]) hc
set_option maxRecDepth 20000 in
theorem lp_echo {κ : KX} {cd : Nat → Nat → Int32} {n : Nat} {g : Gm} {tb : List Nat} {M : Mem} {t : Int32} (hS : RS M cd n g tb) (ht : M.1 0 16 = t)  (C : Cx κ lyR y_M_echoes.cls b_M_echoes 5 none 2) (hQ : ∀ v M', Pv (fun M' => RS M' cd n (echo cd tb t g) tb ∧ OfR gR M M') v M' → KQ κ v M') : ∀ (f : Nat) (x1 x2 : Int32) (done rest : List Nat) (M1 : Mem), rest.length < f → x2 = 1 → (tb.filter (fun c => decide (cd 0 c = 14) && decide (cd 2 c = t))) = done ++ rest → RS M1 cd n (done.foldl (fun g c => psh g (shdw cd c)) g) tb → OfR gR M M1 → (∀ c, c ∈ (tb.filter (fun c => decide (cd 0 c = 14) && decide (cd 2 c = t))) → (x1 < M1.1 6 (95 + c) ↔ c ∈ rest)) → G κ lyR 4 [some (.ref 0), some (.int x1), some (.int x2), none, none] [] M1 := by
  intro f
  induction f with
  | zero => intro x1 x2 done rest M1 h; omega
  | succ f ih =>
    intro x1 x2 done rest M1 hf hx2 hL hS1 ho hx1
    have n24 := hS.n24
    have hb0 : HB g := hS.1.hb
    have hF4 := fold_4 (f := shdw cd) (g := g) done hb0
    have ht1 : M1.1 0 16 = t := by rw [ho 0 16 (by unfold gR; decide)]; exact ht
    obtain ⟨k1, k2, k3, k4, k5⟩ := hS1.cdc
    have hsr : rest.Pairwise (fun a b => ltR M1 a b = true) := by
      have h1 : (tb.filter (fun c => decide (cd 0 c = 14) && decide (cd 2 c = t))).Pairwise (fun a b => ltR M1 a b = true) := hS1.srt.filter _
      rw [hL] at h1
      exact (List.pairwise_append.mp h1).2.1
    have hrm : ∀ c, c ∈ rest → c ∈ (tb.filter (fun c => decide (cd 0 c = 14) && decide (cd 2 c = t))) := fun c hc => by rw [hL]; exact List.mem_append_right _ hc
    have hrt : ∀ c, c ∈ rest → c ∈ tb := fun c hc => (List.mem_filter.mp (hrm c hc)).1
    have ham : amin (ltR M1) (plE M1 n (tb.filter (fun c => decide (cd 0 c = 14) && decide (cd 2 c = t))) x1) n = rest.head? := by
      have h1 : rest.head? = rest.find? (fun _ => true) := by cases rest <;> rfl
      rw [h1]
      refine amin_l ltR_tr ltR_ir hsr (fun c hc => (hS1.tbm.mp (hrt c hc)).1) (fun c hc hp => ?_) (fun c hc => ⟨fun _ => rfl, fun _ => ?_⟩)
      · unfold plE at hp
        rw [Bool.and_eq_true, decide_eq_true_eq, decide_eq_true_eq] at hp
        exact (hx1 c hp.1).mp hp.2
      · unfold plE
        rw [Bool.and_eq_true, decide_eq_true_eq, decide_eq_true_eq]
        exact ⟨hrm c hc, (hx1 c (hrm c hc)).mpr hc⟩
    refine u_iload_n (pc := 4) C d_M_echoes_4 rfl ?_
    refine u_if_eq (pc := 5) (tgt := 203) C d_M_echoes_5 rfl (fun c5 => ?_) (fun c5 => ?_)
    · rw [hx2] at c5; exact absurd c5 (by decide)
    · refine u_iconst (pc := 8) (v := (-1)) C d_M_echoes_8 (by decide) ?_
      refine u_istore_n (pc := 9) C d_M_echoes_9 rfl (fun x9 e9 L9 hL9 => ?_)
      obtain rfl : L9 = [some (.ref 0), some (.int x1), some (.int x2), some (.int x9), none] := hL9.symm
      refine u_iconst (pc := 10) (v := 0) C d_M_echoes_10 (by decide) ?_
      refine u_istore (pc := 11) C d_M_echoes_11 rfl (fun x11 e11 L9 hL9 => ?_)
      obtain rfl : L9 = [some (.ref 0), some (.int x1), some (.int x2), some (.int x9), some (.int x11)] := hL9.symm
      subst e11
      refine lp_echoI hS1 ht1 C (fun x4 => ?_) (n + 1) 0 _ (by omega) (by omega) (by rw [e9]; rfl)
      rw [ham]
      refine lp_echoT hS ht C hQ hb0 hL hS1 ho hx1 (fun r2 M2 hr he h1 h2 h3 => ?_) x4
      exact ih _ _ (done ++ [r2.1]) r2.2 M2 (by have := congrArg List.length hr; simp at this; omega) rfl (by rw [hL, hr, List.append_assoc]; rfl) h1 h2 h3
set_option maxRecDepth 20000 in
theorem c_M_echoes {cd : Nat → Nat → Int32} {n : Nat} {g : Gm} {tb : List Nat} {M : Mem} {t : Int32} (hS : RS M cd n g tb) (ht : M.1 0 16 = t)  : Ct lyR y_M_echoes b_M_echoes 5 none 2 [.ref 0] M (Pv fun M' => RS M' cd n (echo cd tb t g) tb ∧ OfR gR M M') := by
  refine Ct.ofG mx_M_echoes [some (.ref 0), none, none, none, none] rfl rfl (Nat.le_of_ble_eq_true rfl) (fun κ C hQ => ?_)
  refine u_iconst (pc := 0) (v := (-1)) C d_M_echoes_0 (by decide) ?_
  refine u_istore_n (pc := 1) C d_M_echoes_1 rfl (fun x1 e1 L9 hL9 => ?_)
  obtain rfl : L9 = [some (.ref 0), some (.int x1), none, none, none] := hL9.symm
  refine u_iconst (pc := 2) (v := 1) C d_M_echoes_2 (by decide) ?_
  refine u_istore_n (pc := 3) C d_M_echoes_3 rfl (fun x3 e3 L9 hL9 => ?_)
  obtain rfl : L9 = [some (.ref 0), some (.int x1), some (.int x3), none, none] := hL9.symm
  refine lp_echo hS ht C hQ _ x1 x3 [] _ M (Nat.lt_succ_self _) e3 rfl hS OfR.refl (fun c hc => ⟨fun _ => hc, fun _ => ?_⟩)
  rw [e1, hS.ag (List.mem_filter.mp hc).1]
  obtain ⟨cl, d1, d2, d3⟩ := hS.1.2.2.2.2.1
  obtain ⟨aa, haa, hea⟩ := d3 c (List.mem_filter.mp hc).1
  have htl := tc_le (g := g) n
  have n24 := hS.n24
  rw [hea, Int32.lt_iff_toInt_lt, nI_toInt (by omega)]
  have : (-1 : Int32).toInt = -1 := by decide
  omega
