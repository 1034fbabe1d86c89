/-! the reference: a thing resolved -/
theorem shd_r {n : Nat} {g : Gm} {x : Int32} (h : thV n g x) (hn : n ≤ 24) (hx : 10000 ≤ x) : (x / 1000 - x / 1000 / 10 * 10 = shT x ∧ x / 100 - x / 100 / 10 * 10 = shP x ∧ x - x / 100 * 100 = shA x) ∧ evok (shT x, shP x, withinF (shA x) 0 99) := by
  rcases h with ⟨c, h1, rfl, -⟩ | ⟨t, p, a, h1, h2, h3, rfl⟩
  · exact absurd hx (nI_ge (a := c) (b := 10000) (by omega) (by omega))
  · obtain ⟨t', p', a', h1', h2', h3', e1, e2, e3⟩ := thV_shad (n := n) (g := g) (Or.inr ⟨t, p, a, h1, h2, h3, rfl⟩) hn hx
    have e : nI (10000 + 1000 * t + 100 * p + a) - 10000 = nI (1000 * t + 100 * p + a) := by
      rw [show (10000 : Int32) = nI 10000 from rfl, pk_sub (by omega)]
      exact congrArg nI (by omega)
    refine ⟨⟨?_, ?_, ?_⟩, ⟨t', h1', e1⟩, ?_, within_ok _⟩
    · unfold shT
      rw [e, show (1000 : Int32) = nI 1000 from rfl, pk_div (by omega) (by decide) (by decide), pk_div (by omega) (by decide) (by decide), show (10 : Int32) = nI 10 from rfl, pk_rem (by omega) (by decide) (by decide)]
      exact congrArg nI (by omega)
    · unfold shP remF
      rw [e, show (1000 : Int32) = nI 1000 from rfl, show (100 : Int32) = nI 100 from rfl, show (10 : Int32) = nI 10 from rfl, pk_div (by omega) (by decide) (by decide), pk_rem (by omega) (by decide) (by decide), pk_rem (by omega) (by decide) (by decide), pk_div (by omega) (by decide) (by decide)]
      exact congrArg nI (by omega)
    · unfold shA remF
      rw [e, show (100 : Int32) = nI 100 from rfl, pk_rem (by omega) (by decide) (by decide), pk_rem (by omega) (by decide) (by decide)]
      exact congrArg nI (by omega)
    · show shP _ = 0 ∨ shP _ = 1
      rw [e2]
      rcases (show p' = 0 ∨ p' = 1 by omega) with q | q
      · rw [q]; exact Or.inl rfl
      · rw [q]; exact Or.inr rfl
def rvR (p j : Nat) : Prop := p = 6 ∨ (217 ≤ p ∧ p ≤ 219) ∨ p = 222 ∨ p = 223 ∨ (p = 0 ∧ (j = 13 ∨ (15 ≤ j ∧ j ≤ 18) ∨ j = 29 ∨ j = 31))
theorem ev_rv {p j : Nat} (h : evR p j) : rvR p j := by
  unfold evR at h
  unfold rvR
  omega
theorem lay_rv {p j : Nat} (h : layR p j) : rvR p j := by
  unfold layR at h
  unfold rvR
  omega
theorem g_rv {p j : Nat} (h : gR p j) : rvR p j := Or.inl h
theorem OfR.tr {M M' : Mem} {tr : Int32} (h : M.1 0 32 = tr) {S : Nat → Nat → Prop} (ho : OfR S M M') (hs : ¬ S 0 32) : M'.1 0 32 = tr := by rw [ho 0 32 hs]; exact h
set_option maxRecDepth 20000 in
theorem c_M_stop {cd : Nat → Nat → Int32} {n : Nat} {g : Gm} {tb : List Nat} {M : Mem} (hS : RS M cd n g tb)  : Ct lyR y_M_stop b_M_stop 2 none 0 [.ref 0] M (Pv fun M' => RS M' cd n (stp g) tb ∧ OfR gR M M') := by
  have n24 := hS.n24
  obtain ⟨h, hh64, hh4⟩ := hS.1.hb
  have hm : M.1 6 6 = nI h := by rw [← hh4]; exact hS.many
  have hsd : stp g = if g 1 4 ≤ 0 then g else if 10000 ≤ top g then popd g else put4 (popd g) (top g).toNatClampNeg := rfl
  refine Ct.ofG mx_M_stop [some (.ref 0), none] rfl rfl (Nat.le_of_ble_eq_true rfl) (fun κ C hQ => ?_)
  refine u_aload_n (pc := 0) C d_M_stop_0 rfl ?_
  refine u_getr (pc := 1) (r := 6) C d_M_stop_1 fw_M_25 sR_0 rfl rfl ?_
  refine u_bipush (pc := 4) (v := 6) C d_M_stop_4 (by decide) ?_
  refine u_iald (pc := 6) C d_M_stop_6 sR_6 v6 ?_
  refine u_if_le (pc := 7) (tgt := 54) C d_M_stop_7 rfl (fun c7 => ?_) (fun c7 => ?_)
  · refine u_vret (pc := 54) C d_M_stop_54 (hQ _ _ ⟨rfl, ?_⟩)
    rw [cl6, hm] at c7
    refine ⟨?_, OfR.refl⟩
    rw [hsd, if_pos (by rw [hh4]; exact c7)]
    exact hS
  · rw [cl6, hm] at c7
    have h0 : 0 < h := by
      rcases Nat.eq_zero_or_pos h with z | z
      · rw [z] at c7; exact absurd (show nI 0 ≤ (0 : Int32) by decide) c7
      · exact z
    obtain ⟨h', rfl⟩ : ∃ h', h = h' + 1 := ⟨h - 1, by omega⟩
    obtain ⟨w1, w2, w3⟩ := hS.1.pop hh4 h0 hh64
    have hng : ¬ g 1 4 ≤ 0 := by rw [hh4]; exact c7
    obtain ⟨hFp, htp⟩ := hS.2.2.2.pop hh4 (by omega)
    refine u_aload_n (pc := 10) C d_M_stop_10 rfl ?_
    refine u_getr (pc := 11) (r := 6) C d_M_stop_11 fw_M_25 sR_0 rfl rfl ?_
    refine u_bipush (pc := 14) (v := 6) C d_M_stop_14 (by decide) ?_
    refine u_dup2 (pc := 16) C d_M_stop_16 rfl rfl ?_
    refine u_iald (pc := 17) C d_M_stop_17 sR_6 v6 ?_
    refine u_iconst (pc := 18) (v := 1) C d_M_stop_18 (by decide) ?_
    refine u_isub (pc := 19) C d_M_stop_19 ?_
    refine u_iast (pc := 20) C d_M_stop_20 sR_6 v6 ?_
    refine u_gmem (fun M2 e2 => ?_)
    rw [cl6, hm, nI_pred] at e2
    have o2 : OfR gR M M2 := by rw [e2]; exact ofg
    have hF2 : FG (M2.1 6) (popd g) tb := by rw [e2, up_r6]; exact hFp
    have hS2 : RS M2 cd n (popd g) tb := hS.row o2 w1 hF2
    have hix : (7 : Int32) + M2.1 6 (6 : Int32).toNatClampNeg = 7 + nI h' := by rw [cl6, e2, up_row, pk_us]
    have hth : M2.1 6 (7 + h') = top g := by rw [e2, up_r6, pk_un (by omega)]; exact htp
    refine u_aload_n (pc := 21) C d_M_stop_21 rfl ?_
    refine u_getr (pc := 22) (r := 6) C d_M_stop_22 fw_M_25 sR_0 rfl rfl ?_
    refine u_bipush (pc := 25) (v := 7) C d_M_stop_25 (by decide) ?_
    refine u_aload_n (pc := 27) C d_M_stop_27 rfl ?_
    refine u_getr (pc := 28) (r := 6) C d_M_stop_28 fw_M_25 sR_0 rfl rfl ?_
    refine u_bipush (pc := 31) (v := 6) C d_M_stop_31 (by decide) ?_
    refine u_iald (pc := 33) C d_M_stop_33 sR_6 v6 ?_
    refine u_iadd (pc := 34) C d_M_stop_34 ?_
    refine u_iald (pc := 35) C d_M_stop_35 sR_6 (by rw [hix]; exact vp7 (by omega)) ?_
    refine u_istore_n (pc := 36) C d_M_stop_36 rfl (fun x36 e36 L9 hL9 => ?_)
    obtain rfl : L9 = [some (.ref 0), some (.int x36)] := hL9.symm
    rw [hix, ix7 (by omega), hth] at e36
    refine u_iload_n (pc := 37) C d_M_stop_37 rfl ?_
    refine u_sipush (pc := 38) (v := 10000) C d_M_stop_38 (by decide) ?_
    refine u_icmp_ge (pc := 41) (tgt := 54) C d_M_stop_41 rfl (fun c41 => ?_) (fun c41 => ?_)
    · refine u_vret (pc := 54) C d_M_stop_54 (hQ _ _ ⟨rfl, ?_⟩)
      have hx10 : 10000 ≤ top g := by rw [← e36]; exact c41
      refine ⟨?_, o2⟩
      rw [hsd, if_neg hng, if_pos hx10]
      exact hS2
    · have hx10 : ¬ 10000 ≤ top g := by rw [← e36]; exact c41
      obtain ⟨c, c1, c2, c3⟩ := thV_card w2 hx10
      have hx : x36 = nI c := by rw [e36, c2]
      have hc24 : c < 24 := by omega
      refine u_aload_n (pc := 44) C d_M_stop_44 rfl ?_
      refine u_getr (pc := 45) (r := 6) C d_M_stop_45 fw_M_25 sR_0 rfl rfl ?_
      refine u_bipush (pc := 48) (v := 71) C d_M_stop_48 (by decide) ?_
      refine u_iload_n (pc := 50) C d_M_stop_50 rfl ?_
      refine u_iadd (pc := 51) C d_M_stop_51 ?_
      refine u_iconst (pc := 52) (v := 4) C d_M_stop_52 (by decide) ?_
      refine u_iast (pc := 53) C d_M_stop_53 sR_6 (by rw [hx]; exact vp71 (by omega)) ?_
      refine u_vret (pc := 54) C d_M_stop_54 (hQ _ _ ⟨rfl, ?_⟩)
      refine ⟨?_, o2.trans ofg⟩
      rw [hsd, if_neg hng, if_neg hx10, c2, nI_clamp (by omega)]
      refine hS2.row ofg (hS.1.top4 hh4 h0 hh64 c1 c2 c3) ?_
      rw [hx, ix71 hc24, up_r6]
      exact hF2.where hc24
/-- younger, by the row -/
def gtR (M : Mem) (a b : Nat) : Bool := decide (M.1 6 (95 + b) < M.1 6 (95 + a))
theorem gtR_tr {M : Mem} (a b c : Nat) (h1 : gtR M a b = true) (h2 : gtR M b c = true) : gtR M a c = true := by
  unfold gtR at *
  simp only [decide_eq_true_eq, Int32.lt_iff_toInt_lt] at *
  omega
theorem gtR_ir {M : Mem} (a : Nat) : ¬ gtR M a a = true := by
  unfold gtR
  simp only [decide_eq_true_eq, Int32.lt_iff_toInt_lt]
  omega
def plC (cd : Nat → Nat → Int32) (tb : List Nat) (p : Int32) (c : Nat) : Bool := decide (c ∈ tb) && decide (cd 1 c ≠ p)
set_option maxRecDepth 20000 in
theorem lp_clear {κ : KX} {cd : Nat → Nat → Int32} {n : Nat} {g : Gm} {tb : List Nat} {M : Mem} {p : Int32} (hS : RS M cd n g tb) (hp : p = 0 ∨ p = 1) (C : Cx κ lyR y_M_clear.cls b_M_clear 4 none 2) (hQ : ∀ v M', Pv (fun M' => RS M' cd n (clr cd (1 - p) (g, tb)).1 (clr cd (1 - p) (g, tb)).2 ∧ OfR gR M M') v M' → KQ κ v M') : ∀ (f i : Nat) (x2 : Int32), i ≤ n → n - i < f → x2 = oI (amin (gtR M) (plC cd tb p) i) → G κ lyR 4 [some (.ref 0), some (.int p), some (.int x2), some (.int (nI i))] [] M := by
  intro f
  induction f with
  | zero => intro i x2 _ h; omega
  | succ f ih =>
    intro i x2 hi hf e2
    have n24 := hS.n24
    have h5 := hS.2.2.1
    have hin : nI n ≤ nI i ↔ n ≤ i := nI_leI (by omega) (by omega)
    obtain ⟨k1, k2, k3, k4, k5⟩ := hS.cdc
    have hbd : ∀ b, amin (gtR M) (plC cd tb p) i = some b → b < 24 := fun b hb => by have := (amin_lt hb).1; omega
    refine u_iload_n (pc := 4) C d_M_clear_4 rfl ?_
    refine u_aload_n (pc := 5) C d_M_clear_5 rfl ?_
    refine u_geti (pc := 6) C d_M_clear_6 fw_M_70 sR_0 rfl ?_
    refine u_icmp_ge (pc := 9) (tgt := 64) C d_M_clear_9 rfl (fun c9 => ?_) (fun c9 => ?_)
    · have hge : i = n := by rw [h5, hin] at c9; omega
      subst hge
      have hmx : amin (gtR M) (plC cd tb p) i = yng cd tb (1 - p) := by
        unfold yng
        have hsr : tb.reverse.Pairwise (fun a b => gtR M a b = true) := List.pairwise_reverse.mpr hS.srt
        refine amin_l gtR_tr gtR_ir hsr (fun c hc => (hS.tbm.mp (List.mem_reverse.mp hc)).1) (fun c hc hpc => ?_) (fun c hc => ?_)
        · unfold plC at hpc
          rw [Bool.and_eq_true, decide_eq_true_eq] at hpc
          exact List.mem_reverse.mpr hpc.1
        · unfold plC
          rw [Bool.and_eq_true, decide_eq_true_eq, decide_eq_true_eq, decide_eq_true_eq]
          have ho := (hS.1.1.2 c (hS.tbm.mp (List.mem_reverse.mp hc)).1).2.1
          refine ⟨fun q => ?_, fun q => ⟨List.mem_reverse.mp hc, fun z => ?_⟩⟩
          · rcases ho with z | z <;> rcases hp with y | y
            · exact absurd (z.trans y.symm) q.2
            · rw [z, y]; rfl
            · rw [z, y]; rfl
            · exact absurd (z.trans y.symm) q.2
          · rw [z] at q
            rcases hp with y | y
            · rw [y] at q; exact absurd q (by decide)
            · rw [y] at q; exact absurd q (by decide)
      rw [hmx] at e2
      have hcd : clr cd (1 - p) (g, tb) = match yng cd tb (1 - p) with | none => (g, tb) | some c => (put4 g c, tb.erase c) := rfl
      refine u_iload_n (pc := 64) C d_M_clear_64 rfl ?_
      refine u_if_lt (pc := 65) (tgt := 78) C d_M_clear_65 rfl (fun c65 => ?_) (fun c65 => ?_)
      · refine u_vret (pc := 78) C d_M_clear_78 (hQ _ _ ⟨rfl, ?_⟩)
        have hn9 : yng cd tb (1 - p) = none := oI_none (fun c hc => by have := (hS.tbm.mp (yng_mem hc)).1; omega) (by rw [← e2]; exact c65)
        refine ⟨?_, OfR.refl⟩
        rw [hcd, hn9]
        exact hS
      · obtain ⟨b, hb⟩ := oI_some (by rw [← e2]; exact c65)
        have hx2 : x2 = nI b := by rw [e2, hb]; rfl
        have hbt := yng_mem hb
        have hb24 : b < 24 := by have := (hS.tbm.mp hbt).1; omega
        refine u_aload_n (pc := 68) C d_M_clear_68 rfl ?_
        refine u_getr (pc := 69) (r := 6) C d_M_clear_69 fw_M_25 sR_0 rfl rfl ?_
        refine u_bipush (pc := 72) (v := 71) C d_M_clear_72 (by decide) ?_
        refine u_iload_n (pc := 74) C d_M_clear_74 rfl ?_
        refine u_iadd (pc := 75) C d_M_clear_75 ?_
        refine u_iconst (pc := 76) (v := 4) C d_M_clear_76 (by decide) ?_
        refine u_iast (pc := 77) C d_M_clear_77 sR_6 (by rw [hx2]; exact vp71 hb24) ?_
        refine u_vret (pc := 78) C d_M_clear_78 (hQ _ _ ⟨rfl, ?_⟩)
        refine ⟨?_, ofg⟩
        rw [hcd, hb, hx2, ix71 hb24]
        refine hS.row ofg (hS.1.gone hbt) ?_
        rw [up_r6]
        exact (hS.2.2.2.where hb24).sub (fun d hd => List.mem_of_mem_erase hd)
    · have hlt : i < n := by rw [h5, hin] at c9; omega
      have hi24 : i < 24 := by omega
      have hw := hS.wh hi24
      have ei2 : M.1 2 (nI i).toNatClampNeg = cd 1 i := by rw [k2, nI_clamp (by omega)]
      refine u_aload_n (pc := 12) C d_M_clear_12 rfl ?_
      refine u_iload_n (pc := 13) C d_M_clear_13 rfl ?_
      refine u_iconst (pc := 14) (v := 3) C d_M_clear_14 (by decide) ?_
      refine u_callVi (pc := 15) C d_M_clear_15 mx_M_isAt mw_M_164 sR_0 rfl (c_M_isAt hi24) rfl rfl (Nat.le_of_ble_eq_true rfl) (fun r15 M15 q15 => ?_)
      obtain ⟨e15, q15⟩ := q15
      have q15 := q15.symm
      subst q15
      rw [hw] at e15
      refine u_if_eq (pc := 18) (tgt := 58) C d_M_clear_18 rfl (fun c18 => ?_) (fun c18 => ?_)
      · refine u_iinc (pc := 58) (v2 := 1) C d_M_clear_58 rfl rfl (by decide) (fun x58 e58 L9 hL9 => ?_)
        obtain rfl : L9 = [some (.ref 0), some (.int p), some (.int x2), some (.int x58)] := hL9.symm
        refine u_goto (pc := 61) (tgt := 4) C d_M_clear_61 rfl ?_
        obtain rfl : x58 = nI (i + 1) := by rw [e58, nI_succ]
        have hP : ¬ plC cd tb p i = true := by
          unfold plC
          rw [Bool.and_eq_true, decide_eq_true_eq, decide_eq_true_eq, hS.tbm]
          rintro ⟨z1, z2⟩
          exact zero_of e15 c18 z1.2
        exact ih (i + 1) _ (by omega) (by omega) (by rw [e2, amin_no hP])
      · refine u_aload_n (pc := 21) C d_M_clear_21 rfl ?_
        refine u_getr (pc := 22) (r := 2) C d_M_clear_22 fw_M_13 sR_0 rfl rfl ?_
        refine u_iload_n (pc := 25) C d_M_clear_25 rfl ?_
        refine u_iald (pc := 26) C d_M_clear_26 sR_2 (vp24 hi24) ?_
        refine u_iload_n (pc := 27) C d_M_clear_27 rfl ?_
        refine u_icmp_eq (pc := 28) (tgt := 58) C d_M_clear_28 rfl (fun c28 => ?_) (fun c28 => ?_)
        · refine u_iinc (pc := 58) (v2 := 1) C d_M_clear_58 rfl rfl (by decide) (fun x58 e58 L9 hL9 => ?_)
          obtain rfl : L9 = [some (.ref 0), some (.int p), some (.int x2), some (.int x58)] := hL9.symm
          refine u_goto (pc := 61) (tgt := 4) C d_M_clear_61 rfl ?_
          obtain rfl : x58 = nI (i + 1) := by rw [e58, nI_succ]
          have hP : ¬ plC cd tb p i = true := by
            unfold plC
            rw [Bool.and_eq_true, decide_eq_true_eq, decide_eq_true_eq, hS.tbm]
            rintro ⟨z1, z2⟩
            rw [ei2] at c28
            exact z2 c28
          exact ih (i + 1) _ (by omega) (by omega) (by rw [e2, amin_no hP])
        · refine u_iload_n (pc := 31) C d_M_clear_31 rfl ?_
          refine u_if_lt (pc := 32) (tgt := 56) C d_M_clear_32 rfl (fun c32 => ?_) (fun c32 => ?_)
          · refine u_iload_n (pc := 56) C d_M_clear_56 rfl ?_
            refine u_istore_n (pc := 57) C d_M_clear_57 rfl (fun x57 e57 L9 hL9 => ?_)
            obtain rfl : L9 = [some (.ref 0), some (.int p), some (.int x57), some (.int (nI i))] := hL9.symm
            refine u_iinc (pc := 58) (v2 := 1) C d_M_clear_58 rfl rfl (by decide) (fun x58 e58 L9 hL9 => ?_)
            obtain rfl : L9 = [some (.ref 0), some (.int p), some (.int x57), some (.int x58)] := hL9.symm
            refine u_goto (pc := 61) (tgt := 4) C d_M_clear_61 rfl ?_
            obtain rfl : x58 = nI (i + 1) := by rw [e58, nI_succ]
            have hP : plC cd tb p i = true := by
              unfold plC
              rw [Bool.and_eq_true, decide_eq_true_eq, decide_eq_true_eq, hS.tbm]
              rw [ei2] at c28
              exact ⟨⟨hlt, one_of e15 c18⟩, c28⟩
            have hn9 := oI_none (fun c hc => by have := hbd c hc; omega) (by rw [← e2]; exact c32)
            exact ih (i + 1) _ (by omega) (by omega) (by rw [e57, amin_new hP hn9]; rfl)
          · have hbx := oI_some (by rw [← e2]; exact c32)
            obtain ⟨b, hb⟩ := hbx
            have hb24 := hbd b hb
            have e2' : x2 = nI b := by rw [e2, hb]; rfl
            subst e2' 
            refine u_aload_n (pc := 35) C d_M_clear_35 rfl ?_
            refine u_getr (pc := 36) (r := 6) C d_M_clear_36 fw_M_25 sR_0 rfl rfl ?_
            refine u_bipush (pc := 39) (v := 95) C d_M_clear_39 (by decide) ?_
            refine u_iload_n (pc := 41) C d_M_clear_41 rfl ?_
            refine u_iadd (pc := 42) C d_M_clear_42 ?_
            refine u_iald (pc := 43) C d_M_clear_43 sR_6 (vp95 hi24) ?_
            refine u_aload_n (pc := 44) C d_M_clear_44 rfl ?_
            refine u_getr (pc := 45) (r := 6) C d_M_clear_45 fw_M_25 sR_0 rfl rfl ?_
            refine u_bipush (pc := 48) (v := 95) C d_M_clear_48 (by decide) ?_
            refine u_iload_n (pc := 50) C d_M_clear_50 rfl ?_
            refine u_iadd (pc := 51) C d_M_clear_51 ?_
            refine u_iald (pc := 52) C d_M_clear_52 sR_6 (vp95 hb24) ?_
            refine u_icmp_le (pc := 53) (tgt := 58) C d_M_clear_53 rfl (fun c53 => ?_) (fun c53 => ?_)
            · refine u_iinc (pc := 58) (v2 := 1) C d_M_clear_58 rfl rfl (by decide) (fun x58 e58 L9 hL9 => ?_)
              obtain rfl : L9 = [some (.ref 0), some (.int p), some (.int (nI b)), some (.int x58)] := hL9.symm
              refine u_goto (pc := 61) (tgt := 4) C d_M_clear_61 rfl ?_
              obtain rfl : x58 = nI (i + 1) := by rw [e58, nI_succ]
              have hP : plC cd tb p i = true := by
                unfold plC
                rw [Bool.and_eq_true, decide_eq_true_eq, decide_eq_true_eq, hS.tbm]
                rw [ei2] at c28
                exact ⟨⟨hlt, one_of e15 c18⟩, c28⟩
              rw [ix95 hi24, ix95 hb24] at c53
              exact ih (i + 1) _ (by omega) (by omega) (by rw [amin_more hb (by unfold gtR; rw [decide_eq_true_eq]; exact Int32.not_lt.mpr c53)]; rfl)
            · refine u_iload_n (pc := 56) C d_M_clear_56 rfl ?_
              refine u_istore_n (pc := 57) C d_M_clear_57 rfl (fun x57 e57 L9 hL9 => ?_)
              obtain rfl : L9 = [some (.ref 0), some (.int p), some (.int x57), some (.int (nI i))] := hL9.symm
              refine u_iinc (pc := 58) (v2 := 1) C d_M_clear_58 rfl rfl (by decide) (fun x58 e58 L9 hL9 => ?_)
              obtain rfl : L9 = [some (.ref 0), some (.int p), some (.int x57), some (.int x58)] := hL9.symm
              refine u_goto (pc := 61) (tgt := 4) C d_M_clear_61 rfl ?_
              obtain rfl : x58 = nI (i + 1) := by rw [e58, nI_succ]
              have hP : plC cd tb p i = true := by
                unfold plC
                rw [Bool.and_eq_true, decide_eq_true_eq, decide_eq_true_eq, hS.tbm]
                rw [ei2] at c28
                exact ⟨⟨hlt, one_of e15 c18⟩, c28⟩
              rw [ix95 hi24, ix95 hb24] at c53
              exact ih (i + 1) _ (by omega) (by omega) (by rw [e57, amin_less hP hb (by unfold gtR; rw [decide_eq_true_eq]; exact Int32.not_le.mp c53)]; rfl)
set_option maxRecDepth 20000 in
theorem c_M_clear {cd : Nat → Nat → Int32} {n : Nat} {g : Gm} {tb : List Nat} {M : Mem} {p : Int32} (hS : RS M cd n g tb) (hp : p = 0 ∨ p = 1) : Ct lyR y_M_clear b_M_clear 4 none 2 [.ref 0, .int p] M (Pv fun M' => RS M' cd n (clr cd (1 - p) (g, tb)).1 (clr cd (1 - p) (g, tb)).2 ∧ OfR gR M M') := by
  refine Ct.ofG mx_M_clear [some (.ref 0), some (.int p), none, none] rfl rfl (Nat.le_of_ble_eq_true rfl) (fun κ C hQ => ?_)
  refine u_iconst (pc := 0) (v := (-1)) C d_M_clear_0 (by decide) ?_
  refine u_istore_n (pc := 1) C d_M_clear_1 rfl (fun x1 e1 L9 hL9 => ?_)
  obtain rfl : L9 = [some (.ref 0), some (.int p), some (.int x1), none] := hL9.symm
  refine u_iconst (pc := 2) (v := 0) C d_M_clear_2 (by decide) ?_
  refine u_istore_n (pc := 3) C d_M_clear_3 rfl (fun x3 e3 L9 hL9 => ?_)
  obtain rfl : L9 = [some (.ref 0), some (.int p), some (.int x1), some (.int x3)] := hL9.symm
  subst e3
  obtain rfl : x1 = -1 := e1
  exact lp_clear hS hp C hQ (n + 1) 0 _ (by omega) (by omega) amin_0.symm
