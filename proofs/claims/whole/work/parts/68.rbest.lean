/-! the reference: best, swing, matter -/
theorem TQ.refl {M : Mem} {th ev : List Int32} (h : LGr M th ev) : TQ M M th ev := ⟨OfR.refl, fun _ _ => rfl, h⟩
theorem TQ.trans {M M1 M2 : Mem} {th ev : List Int32} (h1 : TQ M M1 th ev) (h2 : TQ M1 M2 th ev) : TQ M M2 th ev := ⟨h1.1.trans h2.1, fun j hj => (h2.2.1 j hj).trans (h1.2.1 j hj), h2.2.2⟩
set_option maxRecDepth 20000 in
theorem lp_bestR {κ : KX} {cd : Nat → Nat → Int32} {n : Nat} {g : Gm} {tb : List Nat} {M : Mem} {p w : Int32} {th ev : List Int32} (hS0 : RS M cd n g tb) (ht0 : M.1 0 32 = 0) (hp : p = 0 ∨ p = 1) (C : Cx κ lyR y_M_best.cls b_M_best 7 (some .int) 10) (hQ : ∀ v M', Pi (fun r M' => r = (if w = 0 then (bst cd n (g, tb) p (if g 1 4 < 64 then n else 0)).2 else (bst cd n (g, tb) p (if g 1 4 < 64 then n else 0)).1) ∧ TQ M M' th ev) v M' → KQ κ v M') : ∀ (f i : Nat) (x3 x4 : Int32) (M1 : Mem), i ≤ (if g 1 4 < 64 then n else 0) → n - i < f → x3 = (bst cd n (g, tb) p i).2 → x4 = (bst cd n (g, tb) p i).1 → TQ M M1 th ev → G κ lyR 35 [some (.ref 0), some (.int p), some (.int w), some (.int x3), some (.int x4), some (.int (nI i)), none] [] M1 := by
  intro f
  induction f with
  | zero => intro i x3 x4 M1 _ h; omega
  | succ f ih =>
    intro i x3 x4 M1 hi hf e3 e4 tq
    have hS := tq.RSq hS0
    have n24 := hS.n24
    have h5 := hS.2.2.1
    obtain ⟨k1, k2, k3, k4, k5⟩ := hS.cdc
    obtain ⟨h, hh64, hh4⟩ := hS.1.hb
    have hm : M1.1 6 6 = nI h := by rw [← hh4]; exact hS.many
    have hib : i ≤ n := by split at hi <;> omega
    have hin : nI n ≤ nI i ↔ n ≤ i := nI_leI (by omega) (by omega)
    refine u_iload (pc := 35) C d_M_best_35 rfl ?_
    refine u_aload_n (pc := 37) C d_M_best_37 rfl ?_
    refine u_geti (pc := 38) C d_M_best_38 fw_M_70 sR_0 rfl ?_
    refine u_icmp_ge (pc := 41) (tgt := 122) C d_M_best_41 rfl (fun c41 => ?_) (fun c41 => ?_)
    · have hif : (if g 1 4 < 64 then n else 0) = i := by
        rw [h5, hin] at c41
        split at hi
        · rename_i z; rw [if_pos z]; omega
        · rename_i z; rw [if_neg z]; omega
      refine u_iload_n (pc := 122) C d_M_best_122 rfl ?_
      refine u_if_ne (pc := 123) (tgt := 130) C d_M_best_123 rfl (fun c123 => ?_) (fun c123 => ?_)
      · refine u_iload (pc := 130) C d_M_best_130 rfl ?_
        refine u_iret (pc := 132) C d_M_best_132 (hQ _ _ ⟨_, rfl, ?_⟩)
        rw [hif]
        exact ⟨by rw [if_neg c123, e4], tq⟩
      · refine u_iload_n (pc := 126) C d_M_best_126 rfl ?_
        refine u_goto (pc := 127) (tgt := 132) C d_M_best_127 rfl ?_
        refine u_iret (pc := 132) C d_M_best_132 (hQ _ _ ⟨_, rfl, ?_⟩)
        rw [hif]
        exact ⟨by rw [if_pos c123, e3], tq⟩
    · have hlt : i < n := by rw [h5, hin] at c41; omega
      have hi24 : i < 24 := by omega
      refine u_aload_n (pc := 44) C d_M_best_44 rfl ?_
      refine u_getr (pc := 45) (r := 6) C d_M_best_45 fw_M_25 sR_0 rfl rfl ?_
      refine u_bipush (pc := 48) (v := 6) C d_M_best_48 (by decide) ?_
      refine u_iald (pc := 50) C d_M_best_50 sR_6 v6 ?_
      refine u_bipush (pc := 51) (v := 64) C d_M_best_51 (by decide) ?_
      refine u_icmp_ge (pc := 53) (tgt := 122) C d_M_best_53 rfl (fun c53 => ?_) (fun c53 => ?_)
      · have hif : (if g 1 4 < 64 then n else 0) = i := by
          rw [cl6, hm] at c53
          have hh : ¬ g 1 4 < 64 := by rw [hh4]; exact Int32.not_lt.mpr c53
          rw [if_neg hh] at hi ⊢
          omega
        refine u_iload_n (pc := 122) C d_M_best_122 rfl ?_
        refine u_if_ne (pc := 123) (tgt := 130) C d_M_best_123 rfl (fun c123 => ?_) (fun c123 => ?_)
        · refine u_iload (pc := 130) C d_M_best_130 rfl ?_
          refine u_iret (pc := 132) C d_M_best_132 (hQ _ _ ⟨_, rfl, ?_⟩)
          rw [hif]
          exact ⟨by rw [if_neg c123, e4], tq⟩
        · refine u_iload_n (pc := 126) C d_M_best_126 rfl ?_
          refine u_goto (pc := 127) (tgt := 132) C d_M_best_127 rfl ?_
          refine u_iret (pc := 132) C d_M_best_132 (hQ _ _ ⟨_, rfl, ?_⟩)
          rw [hif]
          exact ⟨by rw [if_pos c123, e3], tq⟩
      · rw [cl6, hm] at c53
        have hh : g 1 4 < 64 := by rw [hh4]; exact Int32.not_le.mp c53
        refine u_aload_n (pc := 56) C d_M_best_56 rfl ?_
        refine u_getr (pc := 57) (r := 2) C d_M_best_57 fw_M_13 sR_0 rfl rfl ?_
        refine u_iload (pc := 60) C d_M_best_60 rfl ?_
        refine u_iald (pc := 62) C d_M_best_62 sR_2 (vp24 hi24) ?_
        refine u_iload_n (pc := 63) C d_M_best_63 rfl ?_
        refine u_icmp_ne (pc := 64) (tgt := 116) C d_M_best_64 rfl (fun c64 => ?_) (fun c64 => ?_)
        · refine u_iinc (pc := 116) (v2 := 1) C d_M_best_116 rfl rfl (by decide) (fun x116 e116 L9 hL9 => ?_)
          obtain rfl : L9 = [some (.ref 0), some (.int p), some (.int w), some (.int x3), some (.int x4), some (.int x116), none] := hL9.symm
          refine u_goto (pc := 119) (tgt := 35) C d_M_best_119 rfl ?_
          rw [k2, nI_clamp (by omega)] at c64
          obtain rfl : x116 = nI (i + 1) := by rw [e116, nI_succ]
          have hil : i + 1 ≤ (if g 1 4 < 64 then n else 0) := by rw [if_pos hh]; omega
          have hb : bst cd n (g, tb) p (i + 1) = bst cd n (g, tb) p i := by
            rw [bst, if_neg]
            rintro ⟨z1, z2, -⟩
            exact c64 z1
          exact ih (i + 1) _ _ _ hil (by omega) (by rw [hb]; exact e3) (by rw [hb]; exact e4) tq
        · refine u_aload_n (pc := 67) C d_M_best_67 rfl ?_
          refine u_iload (pc := 68) C d_M_best_68 rfl ?_
          refine u_iconst (pc := 70) (v := 1) C d_M_best_70 (by decide) ?_
          refine u_callVi (pc := 71) C d_M_best_71 mx_M_isAt mw_M_164 sR_0 rfl (c_M_isAt hi24) rfl rfl (Nat.le_of_ble_eq_true rfl) (fun r71 M71 q71 => ?_)
          obtain ⟨e71, q71⟩ := q71
          have q71 := q71.symm
          subst q71
          rw [hS.wh hi24] at e71
          refine u_if_eq (pc := 74) (tgt := 116) C d_M_best_74 rfl (fun c74 => ?_) (fun c74 => ?_)
          · refine u_iinc (pc := 116) (v2 := 1) C d_M_best_116 rfl rfl (by decide) (fun x116 e116 L9 hL9 => ?_)
            obtain rfl : L9 = [some (.ref 0), some (.int p), some (.int w), some (.int x3), some (.int x4), some (.int x116), none] := hL9.symm
            refine u_goto (pc := 119) (tgt := 35) C d_M_best_119 rfl ?_
            rw [k2, nI_clamp (by omega)] at c64
            obtain rfl : x116 = nI (i + 1) := by rw [e116, nI_succ]
            have hil : i + 1 ≤ (if g 1 4 < 64 then n else 0) := by rw [if_pos hh]; omega
            have hb : bst cd n (g, tb) p (i + 1) = bst cd n (g, tb) p i := by
              rw [bst, if_neg]
              rintro ⟨z1, z2, -⟩
              exact zero_of e71 c74 z2
            exact ih (i + 1) _ _ _ hil (by omega) (by rw [hb]; exact e3) (by rw [hb]; exact e4) tq
          · have h1 := one_of e71 c74
            rw [k2, nI_clamp (by omega)] at c64
            refine u_aload_n (pc := 77) C d_M_best_77 rfl ?_
            refine u_iload (pc := 78) C d_M_best_78 rfl ?_
            refine u_iload_n (pc := 80) C d_M_best_80 rfl ?_
            refine u_callVi (pc := 81) C d_M_best_81 mx_M_worthIf mw_M_307 sR_0 rfl (c_M_worthC hS (tq.tr0 ht0) tq.2.2 hp hlt h1) rfl rfl (Nat.le_of_ble_eq_true rfl) (fun r81 M81 q81 => ?_)
            obtain ⟨e81, tq2⟩ := q81
            refine u_istore (pc := 84) C d_M_best_84 rfl (fun x84 e84 L9 hL9 => ?_)
            obtain rfl : L9 = [some (.ref 0), some (.int p), some (.int w), some (.int x3), some (.int x4), some (.int (nI i)), some (.int x84)] := hL9.symm
            refine u_iload (pc := 86) C d_M_best_86 rfl ?_
            refine u_iload (pc := 88) C d_M_best_88 rfl ?_
            refine u_icmp_le (pc := 90) (tgt := 98) C d_M_best_90 rfl (fun c90 => ?_) (fun c90 => ?_)
            · refine u_iload_n (pc := 98) C d_M_best_98 rfl ?_
              refine u_istore_n (pc := 99) C d_M_best_99 rfl (fun x99 e99 L9 hL9 => ?_)
              obtain rfl : L9 = [some (.ref 0), some (.int p), some (.int w), some (.int x99), some (.int x4), some (.int (nI i)), some (.int x84)] := hL9.symm
              refine u_iload (pc := 100) C d_M_best_100 rfl ?_
              refine u_iload (pc := 102) C d_M_best_102 rfl ?_
              refine u_icmp_le (pc := 104) (tgt := 112) C d_M_best_104 rfl (fun c104 => ?_) (fun c104 => ?_)
              · refine u_iload (pc := 112) C d_M_best_112 rfl ?_
                refine u_istore (pc := 114) C d_M_best_114 rfl (fun x114 e114 L9 hL9 => ?_)
                obtain rfl : L9 = [some (.ref 0), some (.int p), some (.int w), some (.int x99), some (.int x114), some (.int (nI i)), some (.int x84)] := hL9.symm
                refine u_iinc (pc := 116) (v2 := 1) C d_M_best_116 rfl rfl (by decide) (fun x116 e116 L9 hL9 => ?_)
                obtain rfl : L9 = [some (.ref 0), some (.int p), some (.int w), some (.int x99), some (.int x114), some (.int x116), some (.int x84)] := hL9.symm
                refine u_goto (pc := 119) (tgt := 35) C d_M_best_119 rfl ?_
                obtain rfl : x116 = nI (i + 1) := by rw [e116, nI_succ]
                have hil : i + 1 ≤ (if g 1 4 < 64 then n else 0) := by rw [if_pos hh]; omega
                refine u_drop 6 rfl ?_
                have hwp : x84 = wpl cd n (g, tb) i := by rw [e84, e81, wpl, c64]
                have hb : bst cd n (g, tb) p (i + 1) = bst cd n (g, tb) p i := by
                  rw [bst, if_neg]
                  rintro ⟨-, -, z3⟩
                  rw [← e4, ← hwp] at z3
                  exact absurd c90 (Int32.not_le.mpr z3)
                exact ih (i + 1) _ _ _ hil (by omega) (by rw [hb, e99]; exact e3) (by rw [hb, e114]; exact e4) (tq.trans tq2)
              · refine u_iload (pc := 107) C d_M_best_107 rfl ?_
                refine u_goto (pc := 109) (tgt := 114) C d_M_best_109 rfl ?_
                refine u_istore (pc := 114) C d_M_best_114 rfl (fun x114 e114 L9 hL9 => ?_)
                obtain rfl : L9 = [some (.ref 0), some (.int p), some (.int w), some (.int x99), some (.int x114), some (.int (nI i)), some (.int x84)] := hL9.symm
                refine u_iinc (pc := 116) (v2 := 1) C d_M_best_116 rfl rfl (by decide) (fun x116 e116 L9 hL9 => ?_)
                obtain rfl : L9 = [some (.ref 0), some (.int p), some (.int w), some (.int x99), some (.int x114), some (.int x116), some (.int x84)] := hL9.symm
                refine u_goto (pc := 119) (tgt := 35) C d_M_best_119 rfl ?_
                obtain rfl : x116 = nI (i + 1) := by rw [e116, nI_succ]
                have hil : i + 1 ≤ (if g 1 4 < 64 then n else 0) := by rw [if_pos hh]; omega
                refine u_drop 6 rfl ?_
                have hwp : x84 = wpl cd n (g, tb) i := by rw [e84, e81, wpl, c64]
                exact absurd c90 c104
            · refine u_iload (pc := 93) C d_M_best_93 rfl ?_
              refine u_goto (pc := 95) (tgt := 99) C d_M_best_95 rfl ?_
              refine u_istore_n (pc := 99) C d_M_best_99 rfl (fun x99 e99 L9 hL9 => ?_)
              obtain rfl : L9 = [some (.ref 0), some (.int p), some (.int w), some (.int x99), some (.int x4), some (.int (nI i)), some (.int x84)] := hL9.symm
              refine u_iload (pc := 100) C d_M_best_100 rfl ?_
              refine u_iload (pc := 102) C d_M_best_102 rfl ?_
              refine u_icmp_le (pc := 104) (tgt := 112) C d_M_best_104 rfl (fun c104 => ?_) (fun c104 => ?_)
              · refine u_iload (pc := 112) C d_M_best_112 rfl ?_
                refine u_istore (pc := 114) C d_M_best_114 rfl (fun x114 e114 L9 hL9 => ?_)
                obtain rfl : L9 = [some (.ref 0), some (.int p), some (.int w), some (.int x99), some (.int x114), some (.int (nI i)), some (.int x84)] := hL9.symm
                refine u_iinc (pc := 116) (v2 := 1) C d_M_best_116 rfl rfl (by decide) (fun x116 e116 L9 hL9 => ?_)
                obtain rfl : L9 = [some (.ref 0), some (.int p), some (.int w), some (.int x99), some (.int x114), some (.int x116), some (.int x84)] := hL9.symm
                refine u_goto (pc := 119) (tgt := 35) C d_M_best_119 rfl ?_
                obtain rfl : x116 = nI (i + 1) := by rw [e116, nI_succ]
                have hil : i + 1 ≤ (if g 1 4 < 64 then n else 0) := by rw [if_pos hh]; omega
                refine u_drop 6 rfl ?_
                have hwp : x84 = wpl cd n (g, tb) i := by rw [e84, e81, wpl, c64]
                exact absurd c104 c90
              · refine u_iload (pc := 107) C d_M_best_107 rfl ?_
                refine u_goto (pc := 109) (tgt := 114) C d_M_best_109 rfl ?_
                refine u_istore (pc := 114) C d_M_best_114 rfl (fun x114 e114 L9 hL9 => ?_)
                obtain rfl : L9 = [some (.ref 0), some (.int p), some (.int w), some (.int x99), some (.int x114), some (.int (nI i)), some (.int x84)] := hL9.symm
                refine u_iinc (pc := 116) (v2 := 1) C d_M_best_116 rfl rfl (by decide) (fun x116 e116 L9 hL9 => ?_)
                obtain rfl : L9 = [some (.ref 0), some (.int p), some (.int w), some (.int x99), some (.int x114), some (.int x116), some (.int x84)] := hL9.symm
                refine u_goto (pc := 119) (tgt := 35) C d_M_best_119 rfl ?_
                obtain rfl : x116 = nI (i + 1) := by rw [e116, nI_succ]
                have hil : i + 1 ≤ (if g 1 4 < 64 then n else 0) := by rw [if_pos hh]; omega
                refine u_drop 6 rfl ?_
                have hwp : x84 = wpl cd n (g, tb) i := by rw [e84, e81, wpl, c64]
                have hb : bst cd n (g, tb) p (i + 1) = (wpl cd n (g, tb) i, nI i) := by
                  rw [bst, if_pos ⟨c64, h1, by rw [← e4, ← hwp]; exact Int32.not_le.mp c90⟩]
                exact ih (i + 1) _ _ _ hil (by omega) (by rw [hb, e99]) (by rw [hb, e114, hwp]) (tq.trans tq2)
set_option maxRecDepth 20000 in
theorem c_M_best {p w : Int32} {M : Mem} {σ : St} (hI : InvR M σ) : Ct lyR y_M_best b_M_best 7 (some .int) 10 [.ref 0, .int p, .int w] M (Pi fun r M' => r = sp_best p w σ ∧ InvR M' σ) := by
  have hS := hI.1
  have n24 := hS.n24
  have h5 := hS.2.2.1
  obtain ⟨k1, k2, k3, k4, k5⟩ := hS.cdc
  have ht0 := hI.2.2.2.2.2.2
  have hL0 := hI.2.2.2.2.2.1
  refine Ct.ofG mx_M_best [some (.ref 0), some (.int p), some (.int w), none, none, none, none] rfl rfl (Nat.le_of_ble_eq_true rfl) (fun κ C hQ => ?_)
  refine u_iload_n (pc := 0) C d_M_best_0 rfl ?_
  refine u_iconst (pc := 1) (v := 0) C d_M_best_1 (by decide) ?_
  refine u_iconst (pc := 2) (v := 1) C d_M_best_2 (by decide) ?_
  refine u_callSi (pc := 3) C d_M_best_3 mx_M_in mw_M_73 (c_M_in) rfl rfl (Nat.le_of_ble_eq_true rfl) (fun r3 M3 q3 => ?_)
  obtain ⟨e3, q3⟩ := q3
  have q3 := q3.symm
  subst q3
  refine u_if_eq (pc := 6) (tgt := 18) C d_M_best_6 rfl (fun c6 => ?_) (fun c6 => ?_)
  · refine u_ldc (pc := 18) C (mc_M_167) d_M_best_18 ?_
    refine u_iret (pc := 20) C d_M_best_20 (hQ _ _ ⟨_, rfl, ?_⟩)
    rw [e3] at c6
    exact ⟨by rw [sp_best, if_neg (in01n c6)], hI⟩
  · rw [e3] at c6
    have hp := in01 c6
    refine u_iload_n (pc := 9) C d_M_best_9 rfl ?_
    refine u_iconst (pc := 10) (v := 0) C d_M_best_10 (by decide) ?_
    refine u_iconst (pc := 11) (v := 1) C d_M_best_11 (by decide) ?_
    refine u_callSi (pc := 12) C d_M_best_12 mx_M_in mw_M_73 (c_M_in) rfl rfl (Nat.le_of_ble_eq_true rfl) (fun r12 M12 q12 => ?_)
    obtain ⟨e12, q12⟩ := q12
    have q12 := q12.symm
    subst q12
    refine u_if_ne (pc := 15) (tgt := 21) C d_M_best_15 rfl (fun c15 => ?_) (fun c15 => ?_)
    · rw [e12] at c15
      have w0 := (in_y c15).1
      have w1 := Int32.not_lt.mp (in_y c15).2
      refine u_bipush (pc := 21) (v := (-2)) C d_M_best_21 (by decide) ?_
      refine u_istore_n (pc := 23) C d_M_best_23 rfl (fun x23 e23 L9 hL9 => ?_)
      obtain rfl : L9 = [some (.ref 0), some (.int p), some (.int w), some (.int x23), none, none, none] := hL9.symm
      refine u_aload_n (pc := 24) C d_M_best_24 rfl ?_
      refine u_iconst (pc := 25) (v := (-1)) C d_M_best_25 (by decide) ?_
      refine u_iload_n (pc := 26) C d_M_best_26 rfl ?_
      refine u_callVi (pc := 27) C d_M_best_27 mx_M_worthIf mw_M_307 sR_0 rfl (c_M_worthN hS ht0 hL0 hp) rfl rfl (Nat.le_of_ble_eq_true rfl) (fun r27 M27 q27 => ?_)
      obtain ⟨e27, tq⟩ := q27
      refine u_istore (pc := 30) C d_M_best_30 rfl (fun x30 e30 L9 hL9 => ?_)
      obtain rfl : L9 = [some (.ref 0), some (.int p), some (.int w), some (.int x23), some (.int x30), none, none] := hL9.symm
      refine u_iconst (pc := 32) (v := 0) C d_M_best_32 (by decide) ?_
      refine u_istore (pc := 33) C d_M_best_33 rfl (fun x33 e33 L9 hL9 => ?_)
      obtain rfl : L9 = [some (.ref 0), some (.int p), some (.int w), some (.int x23), some (.int x30), some (.int x33), none] := hL9.symm
      subst e33
      refine lp_bestR (th := σ.2.2.2.2.2.1) (ev := σ.2.2.2.2.2.2) hS ht0 hp C (fun v M9 q => hQ v M9 ?_) (σ.1.2.1 + 1) 0 _ _ _ (by omega) (by omega) (by rw [e23]; rfl) (by rw [e30, e27]; rfl) tq
      obtain ⟨r, rfl, q1, q2⟩ := q
      refine ⟨r, rfl, ?_, TQ.inv hI q2⟩
      rw [sp_best, if_pos hp, if_neg w0, if_pos w1, q1]
    · refine u_ldc (pc := 18) C (mc_M_167) d_M_best_18 ?_
      refine u_iret (pc := 20) C d_M_best_20 (hQ _ _ ⟨_, rfl, ?_⟩)
      rw [e12] at c15
      refine ⟨?_, hI⟩
      rw [sp_best, if_pos hp]
      rcases in_n c15 with q | q
      · rw [if_pos q]
      · by_cases hz : w < 0
        · rw [if_pos hz]
        · rw [if_neg hz, if_neg (Int32.not_le.mpr q)]
set_option maxRecDepth 20000 in
theorem c_M_swing {c : Int32} {M : Mem} {σ : St} (hI : InvR M σ) : Ct lyR y_M_swing b_M_swing 4 (some .int) 10 [.ref 0, .int c] M (Pi fun r M' => r = sp_swing c σ ∧ InvR M' σ) := by
  have hS := hI.1
  have n24 := hS.n24
  have h5 := hS.2.2.1
  obtain ⟨k1, k2, k3, k4, k5⟩ := hS.cdc
  have ht0 := hI.2.2.2.2.2.2
  have hL0 := hI.2.2.2.2.2.1
  refine Ct.ofG mx_M_swing [some (.ref 0), some (.int c), none, none] rfl rfl (Nat.le_of_ble_eq_true rfl) (fun κ C hQ => ?_)
  refine u_aload_n (pc := 0) C d_M_swing_0 rfl ?_
  refine u_iload_n (pc := 1) C d_M_swing_1 rfl ?_
  refine u_callVi (pc := 2) C d_M_swing_2 mx_M_isCard mw_M_160 sR_0 rfl (c_M_isCard h5 n24) rfl rfl (Nat.le_of_ble_eq_true rfl) (fun r2 M2 q2 => ?_)
  obtain ⟨e2, q2⟩ := q2
  have q2 := q2.symm
  subst q2
  refine u_if_eq (pc := 5) (tgt := 17) C d_M_swing_5 rfl (fun c5 => ?_) (fun c5 => ?_)
  · refine u_ldc (pc := 17) C (mc_M_167) d_M_swing_17 ?_
    refine u_iret (pc := 19) C d_M_swing_19 (hQ _ _ ⟨_, rfl, ?_⟩)
    rw [e2] at c5
    exact ⟨by rw [sp_swing, if_pos c5], hI⟩
  · rw [e2] at c5
    obtain ⟨d, hd, rfl⟩ := has_ix c5 n24
    have d24 : d < 24 := by omega
    have dcl : (nI d).toNatClampNeg = d := nI_clamp (by omega)
    refine u_aload_n (pc := 8) C d_M_swing_8 rfl ?_
    refine u_iload_n (pc := 9) C d_M_swing_9 rfl ?_
    refine u_iconst (pc := 10) (v := 3) C d_M_swing_10 (by decide) ?_
    refine u_callVi (pc := 11) C d_M_swing_11 mx_M_isAt mw_M_164 sR_0 rfl (c_M_isAt d24) rfl rfl (Nat.le_of_ble_eq_true rfl) (fun r11 M11 q11 => ?_)
    obtain ⟨e11, q11⟩ := q11
    have q11 := q11.symm
    subst q11
    refine u_if_ne (pc := 14) (tgt := 20) C d_M_swing_14 rfl (fun c14 => ?_) (fun c14 => ?_)
    · rw [hS.wh d24] at e11
      have h3 := one_of e11 c14
      have hdt := hS.tbm.mpr ⟨hd, h3⟩
      have ho9 := (hS.1.1.2 d hd).2.1
      have hown : M.1 2 (nI d).toNatClampNeg = 0 ∨ M.1 2 (nI d).toNatClampNeg = 1 := by rw [k2, dcl]; exact ho9
      refine u_aload_n (pc := 20) C d_M_swing_20 rfl ?_
      refine u_iconst (pc := 21) (v := (-1)) C d_M_swing_21 (by decide) ?_
      refine u_aload_n (pc := 22) C d_M_swing_22 rfl ?_
      refine u_getr (pc := 23) (r := 2) C d_M_swing_23 fw_M_13 sR_0 rfl rfl ?_
      refine u_iload_n (pc := 26) C d_M_swing_26 rfl ?_
      refine u_iald (pc := 27) C d_M_swing_27 sR_2 (vp24 d24) ?_
      refine u_callVi (pc := 28) C d_M_swing_28 mx_M_worthIf mw_M_307 sR_0 rfl (c_M_worthN hS ht0 hL0 hown) rfl rfl (Nat.le_of_ble_eq_true rfl) (fun r28 M28 q28 => ?_)
      obtain ⟨e28, tq1⟩ := q28
      refine u_istore_n (pc := 31) C d_M_swing_31 rfl (fun x31 e31 L9 hL9 => ?_)
      obtain rfl : L9 = [some (.ref 0), some (.int (nI d)), some (.int x31), none] := hL9.symm
      refine u_aload_n (pc := 32) C d_M_swing_32 rfl ?_
      refine u_getr (pc := 33) (r := 6) C d_M_swing_33 fw_M_25 sR_0 rfl rfl ?_
      refine u_bipush (pc := 36) (v := 71) C d_M_swing_36 (by decide) ?_
      refine u_iload_n (pc := 38) C d_M_swing_38 rfl ?_
      refine u_iadd (pc := 39) C d_M_swing_39 ?_
      refine u_iconst (pc := 40) (v := 4) C d_M_swing_40 (by decide) ?_
      refine u_iast (pc := 41) C d_M_swing_41 sR_6 (vp71 d24) ?_
      refine u_gmem (fun M4 e4 => ?_)
      rw [ix71 d24] at e4
      have hSa := tq1.RSq hS
      have o4 : OfR gR M28 M4 := by rw [e4]; exact ofg
      have hS4 : RS M4 σ.1.1 σ.1.2.1 (put4 σ.1.2.2.1 d) (σ.1.2.2.2.erase d) := hSa.row o4 (hS.1.gone hdt) (by rw [e4, up_r6]; exact (hSa.2.2.2.where d24).sub (fun q hq => List.mem_of_mem_erase hq))
      have ht4 : M4.1 0 32 = 0 := OfR.tr (tq1.tr0 ht0) o4 (by unfold gR; decide)
      have hL4 := tq1.2.2.g o4
      have k2b := hS4.cdc.2.1
      have hown4 : M4.1 2 (nI d).toNatClampNeg = 0 ∨ M4.1 2 (nI d).toNatClampNeg = 1 := by rw [k2b, dcl]; exact ho9
      refine u_aload_n (pc := 42) C d_M_swing_42 rfl ?_
      refine u_iconst (pc := 43) (v := (-1)) C d_M_swing_43 (by decide) ?_
      refine u_aload_n (pc := 44) C d_M_swing_44 rfl ?_
      refine u_getr (pc := 45) (r := 2) C d_M_swing_45 fw_M_13 sR_0 rfl rfl ?_
      refine u_iload_n (pc := 48) C d_M_swing_48 rfl ?_
      refine u_iald (pc := 49) C d_M_swing_49 sR_2 (vp24 d24) ?_
      refine u_callVi (pc := 50) C d_M_swing_50 mx_M_worthIf mw_M_307 sR_0 rfl (c_M_worthN hS4 ht4 hL4 hown4) rfl rfl (Nat.le_of_ble_eq_true rfl) (fun r50 M50 q50 => ?_)
      obtain ⟨e50, tq2⟩ := q50
      refine u_istore_n (pc := 53) C d_M_swing_53 rfl (fun x53 e53 L9 hL9 => ?_)
      obtain rfl : L9 = [some (.ref 0), some (.int (nI d)), some (.int x31), some (.int x53)] := hL9.symm
      refine u_aload_n (pc := 54) C d_M_swing_54 rfl ?_
      refine u_getr (pc := 55) (r := 6) C d_M_swing_55 fw_M_25 sR_0 rfl rfl ?_
      refine u_bipush (pc := 58) (v := 71) C d_M_swing_58 (by decide) ?_
      refine u_iload_n (pc := 60) C d_M_swing_60 rfl ?_
      refine u_iadd (pc := 61) C d_M_swing_61 ?_
      refine u_iconst (pc := 62) (v := 3) C d_M_swing_62 (by decide) ?_
      refine u_iast (pc := 63) C d_M_swing_63 sR_6 (vp71 d24) ?_
      refine u_iload_n (pc := 64) C d_M_swing_64 rfl ?_
      refine u_iload_n (pc := 65) C d_M_swing_65 rfl ?_
      refine u_isub (pc := 66) C d_M_swing_66 ?_
      refine u_iret (pc := 67) C d_M_swing_67 (hQ _ _ ⟨_, rfl, ?_⟩)
      rw [k2, dcl] at e28
      rw [k2b, dcl] at e50
      refine ⟨by rw [e31, e53, e28, e50, sp_swing, if_neg c5, dcl, if_pos h3], ?_⟩
      refine TQ.inv hI ⟨((tq1.1.trans (o4.mono (fun p j => g_th))).trans tq2.1).trans (ofg.mono (fun p j => g_th)), fun j hj => ?_, tq2.2.2.g ofg⟩
      rw [ix71 d24, up_r6]
      by_cases e : j = 71 + d
      · rw [e, pk_us, hS.wh d24, h3]
      · rw [pk_un e, tq2.2.1 j hj, e4, up_r6, pk_un e]
        exact tq1.2.1 j hj
    · refine u_ldc (pc := 17) C (mc_M_167) d_M_swing_17 ?_
      refine u_iret (pc := 19) C d_M_swing_19 (hQ _ _ ⟨_, rfl, ?_⟩)
      rw [hS.wh d24] at e11
      exact ⟨by rw [sp_swing, if_neg c5, dcl, if_neg (zero_of e11 c14)], hI⟩
