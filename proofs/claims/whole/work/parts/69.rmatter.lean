/-! the reference: matter, ahead -/
theorem or_z (x : Int32) : x ||| 0 = x := b_ext (fun i _ => by rw [b_or, b_0, Bool.or_false])
set_option maxRecDepth 20000 in
theorem lp_matterR {κ : KX} {cd : Nat → Nat → Int32} {n : Nat} {g : Gm} {tb : List Nat} {M : Mem} {e1 l0 l1 : Int32} {th ev : List Int32} (hS0 : RS M cd n g tb) (ht0 : M.1 0 32 = 0) (he : e1 = (runR cd n (g, tb)).2.1) (h0 : l0 = (runG cd n (g, tb)).1 0 0) (h1 : l1 = (runG cd n (g, tb)).1 0 1) (C : Cx κ lyR y_M_matter.cls b_M_matter 6 (some .int) 9) (hQ : ∀ v M', Pi (fun r M' => r = mtt cd n (g, tb) n ∧ TQ M M' th ev) v M' → KQ κ v M') : ∀ (f i : Nat) (x4 : Int32) (M1 : Mem), i ≤ n → n - i < f → x4 = mtt cd n (g, tb) i → TQ M M1 th ev → (∀ j, j < 123 → M1.1 8 j = M.1 6 j) → G κ lyR 56 [some (.ref 0), some (.int e1), some (.int l0), some (.int l1), some (.int x4), some (.int (nI i))] [] M1 := by
  intro f
  induction f with
  | zero => intro i x4 M1 _ h; omega
  | succ f ih =>
    intro i x4 M1 hi hf e4 tq h8
    have hS := tq.RSq hS0
    have n24 := hS.n24
    have h5 := hS.2.2.1
    have hin : nI n ≤ nI i ↔ n ≤ i := nI_leI (by omega) (by omega)
    refine u_iload (pc := 56) C d_M_matter_56 rfl ?_
    refine u_aload_n (pc := 58) C d_M_matter_58 rfl ?_
    refine u_geti (pc := 59) C d_M_matter_59 fw_M_70 sR_0 rfl ?_
    refine u_icmp_ge (pc := 62) (tgt := 151) C d_M_matter_62 rfl (fun c62 => ?_) (fun c62 => ?_)
    · refine u_iload (pc := 151) C d_M_matter_151 rfl ?_
      refine u_iret (pc := 153) C d_M_matter_153 (hQ _ _ ⟨_, rfl, ?_⟩)
      have hge : i = n := by rw [h5, hin] at c62; omega
      subst hge
      exact ⟨e4, tq⟩
    · have hlt : i < n := by rw [h5, hin] at c62; omega
      have hi24 : i < 24 := by omega
      refine u_aload_n (pc := 65) C d_M_matter_65 rfl ?_
      refine u_iload (pc := 66) C d_M_matter_66 rfl ?_
      refine u_iconst (pc := 68) (v := 3) C d_M_matter_68 (by decide) ?_
      refine u_callVi (pc := 69) C d_M_matter_69 mx_M_isAt mw_M_164 sR_0 rfl (c_M_isAt hi24) rfl rfl (Nat.le_of_ble_eq_true rfl) (fun r69 M69 q69 => ?_)
      obtain ⟨e69, q69⟩ := q69
      have q69 := q69.symm
      subst q69
      rw [hS.wh hi24] at e69
      refine u_if_eq (pc := 72) (tgt := 145) C d_M_matter_72 rfl (fun c72 => ?_) (fun c72 => ?_)
      · refine u_iinc (pc := 145) (v2 := 1) C d_M_matter_145 rfl rfl (by decide) (fun x145 e145 L9 hL9 => ?_)
        obtain rfl : L9 = [some (.ref 0), some (.int e1), some (.int l0), some (.int l1), some (.int x4), some (.int x145)] := hL9.symm
        refine u_goto (pc := 148) (tgt := 56) C d_M_matter_148 rfl ?_
        obtain rfl : x145 = nI (i + 1) := by rw [e145, nI_succ]
        refine ih (i + 1) _ _ (by omega) (by omega) ?_ tq h8
        rw [mtt, if_neg (fun z => zero_of e69 c72 z.1)]
        exact e4
      · have h3 := one_of e69 c72
        have hit := hS.tbm.mpr ⟨hlt, h3⟩
        refine u_aload_n (pc := 75) C d_M_matter_75 rfl ?_
        refine u_getr (pc := 76) (r := 6) C d_M_matter_76 fw_M_25 sR_0 rfl rfl ?_
        refine u_bipush (pc := 79) (v := 71) C d_M_matter_79 (by decide) ?_
        refine u_iload (pc := 81) C d_M_matter_81 rfl ?_
        refine u_iadd (pc := 83) C d_M_matter_83 ?_
        refine u_iconst (pc := 84) (v := 4) C d_M_matter_84 (by decide) ?_
        refine u_iast (pc := 85) C d_M_matter_85 sR_6 (vp71 hi24) ?_
        refine u_gmem (fun M4 e4m => ?_)
        rw [ix71 hi24] at e4m
        have o4 : OfR gR M1 M4 := by rw [e4m]; exact ofg
        have hS1 : RS M4 cd n (put4 g i) (tb.erase i) := hS.row o4 (hS.1.gone hit) (by rw [e4m, up_r6]; exact (hS.2.2.2.where hi24).sub (fun q hq => List.mem_of_mem_erase hq))
        have ht1 : M4.1 0 32 = 0 := OfR.tr (tq.tr0 ht0) o4 (by unfold gR; decide)
        have hL1 := tq.2.2.g o4
        clear e4m
        refine u_aload_n (pc := 86) C d_M_matter_86 rfl ?_
        refine u_callVi (pc := 87) C d_M_matter_87 mx_M_runIt mw_M_288 sR_0 rfl (c_M_runIt (s := (put4 g i, tb.erase i)) (Or.inl rfl) hS1 ht1 hL1) rfl rfl (Nat.le_of_ble_eq_true rfl) (fun r87 M87 q87 => ?_)
        obtain ⟨e87, ⟨w1, w2, w3, hS2, hL2⟩, o2⟩ := q87
        rw [if_neg (by decide), if_neg (by decide)] at hL2
        refine u_pop (pc := 90) C d_M_matter_90 rfl ?_
        obtain ⟨l1a, l2a⟩ := hS2.2.2.2.1
        have hoth : oth cd n (g, tb) i ↔ ¬ (M87.1 0 22 = e1 ∧ M87.1 6 0 = l0 ∧ M87.1 6 1 = l1) := by
          rw [w1, l1a, l2a, he, h0, h1]
          exact Iff.rfl
        refine u_iload (pc := 91) C d_M_matter_91 rfl ?_
        refine u_aload_n (pc := 93) C d_M_matter_93 rfl ?_
        refine u_geti (pc := 94) C d_M_matter_94 fw_M_279 sR_0 rfl ?_
        refine u_iload_n (pc := 97) C d_M_matter_97 rfl ?_
        refine u_icmp_ne (pc := 98) (tgt := 121) C d_M_matter_98 rfl (fun c98 => ?_) (fun c98 => ?_)
        · refine u_iconst (pc := 121) (v := 1) C d_M_matter_121 (by decide) ?_
          refine u_iload (pc := 122) C d_M_matter_122 rfl ?_
          refine u_ishl (pc := 124) C d_M_matter_124 ?_
          refine u_goto (pc := 125) (tgt := 129) C d_M_matter_125 rfl ?_
          refine u_ior (pc := 129) C d_M_matter_129 ?_
          refine u_istore (pc := 130) C d_M_matter_130 rfl (fun x130 e130 L9 hL9 => ?_)
          obtain rfl : L9 = [some (.ref 0), some (.int e1), some (.int l0), some (.int l1), some (.int x130), some (.int (nI i))] := hL9.symm
          refine u_aload_n (pc := 132) C d_M_matter_132 rfl ?_
          refine u_getr (pc := 133) (r := 7) C d_M_matter_133 fw_M_30 sR_0 rfl rfl ?_
          refine u_iconst (pc := 136) (v := 0) C d_M_matter_136 (by decide) ?_
          refine u_aaldR (pc := 137) (r := 8) C d_M_matter_137 sR_7 lv0 rfl ?_
          refine u_aload_n (pc := 138) C d_M_matter_138 rfl ?_
          refine u_getr (pc := 139) (r := 6) C d_M_matter_139 fw_M_25 sR_0 rfl rfl ?_
          refine u_callSv (pc := 142) C d_M_matter_142 mx_M_copy mw_M_300 (c_M_copy sR_8 sR_6 (by decide)) rfl rfl (Nat.le_of_ble_eq_true rfl) (fun M142 q142 => ?_)
          obtain ⟨cb1, cb2⟩ := q142
          refine u_iinc (pc := 145) (v2 := 1) C d_M_matter_145 rfl rfl (by decide) (fun x145 e145 L9 hL9 => ?_)
          obtain rfl : L9 = [some (.ref 0), some (.int e1), some (.int l0), some (.int l1), some (.int x130), some (.int x145)] := hL9.symm
          refine u_goto (pc := 148) (tgt := 56) C d_M_matter_148 rfl ?_
          obtain rfl : x145 = nI (i + 1) := by rw [e145, nI_succ]
          have tq9 : TQ M M142 th ev := by
            refine ⟨((tq.1.trans (o4.mono (fun p j => g_th))).trans (o2.mono (fun p j => rn_th))).trans (fun p j hp => by rw [cb1 p (fun z => hp (Or.inl z))]), fun j hj => ?_, hL2.g (fun p j hp => by rw [cb1 p hp])⟩
            rw [cb2 j hj, o2 8 j (rn8 (by decide) j), o4 8 j (by unfold gR; decide)]
            exact h8 j hj
          refine ih (i + 1) _ _ (by omega) (by omega) ?_ tq9 (fun j hj => ?_)
          · rw [mtt, e130, e4]
            rw [if_pos ⟨h3, hoth.mpr (fun z => c98 z.1)⟩]
          · rw [cb1 8 (by decide), o2 8 j (rn8 (by decide) j), o4 8 j (by unfold gR; decide)]
            exact h8 j hj
        · refine u_aload_n (pc := 101) C d_M_matter_101 rfl ?_
          refine u_getr (pc := 102) (r := 6) C d_M_matter_102 fw_M_25 sR_0 rfl rfl ?_
          refine u_iconst (pc := 105) (v := 0) C d_M_matter_105 (by decide) ?_
          refine u_iald (pc := 106) C d_M_matter_106 sR_6 v0 ?_
          refine u_iload_n (pc := 107) C d_M_matter_107 rfl ?_
          refine u_icmp_ne (pc := 108) (tgt := 121) C d_M_matter_108 rfl (fun c108 => ?_) (fun c108 => ?_)
          · refine u_iconst (pc := 121) (v := 1) C d_M_matter_121 (by decide) ?_
            refine u_iload (pc := 122) C d_M_matter_122 rfl ?_
            refine u_ishl (pc := 124) C d_M_matter_124 ?_
            refine u_goto (pc := 125) (tgt := 129) C d_M_matter_125 rfl ?_
            refine u_ior (pc := 129) C d_M_matter_129 ?_
            refine u_istore (pc := 130) C d_M_matter_130 rfl (fun x130 e130 L9 hL9 => ?_)
            obtain rfl : L9 = [some (.ref 0), some (.int e1), some (.int l0), some (.int l1), some (.int x130), some (.int (nI i))] := hL9.symm
            refine u_aload_n (pc := 132) C d_M_matter_132 rfl ?_
            refine u_getr (pc := 133) (r := 7) C d_M_matter_133 fw_M_30 sR_0 rfl rfl ?_
            refine u_iconst (pc := 136) (v := 0) C d_M_matter_136 (by decide) ?_
            refine u_aaldR (pc := 137) (r := 8) C d_M_matter_137 sR_7 lv0 rfl ?_
            refine u_aload_n (pc := 138) C d_M_matter_138 rfl ?_
            refine u_getr (pc := 139) (r := 6) C d_M_matter_139 fw_M_25 sR_0 rfl rfl ?_
            refine u_callSv (pc := 142) C d_M_matter_142 mx_M_copy mw_M_300 (c_M_copy sR_8 sR_6 (by decide)) rfl rfl (Nat.le_of_ble_eq_true rfl) (fun M142 q142 => ?_)
            obtain ⟨cb1, cb2⟩ := q142
            refine u_iinc (pc := 145) (v2 := 1) C d_M_matter_145 rfl rfl (by decide) (fun x145 e145 L9 hL9 => ?_)
            obtain rfl : L9 = [some (.ref 0), some (.int e1), some (.int l0), some (.int l1), some (.int x130), some (.int x145)] := hL9.symm
            refine u_goto (pc := 148) (tgt := 56) C d_M_matter_148 rfl ?_
            obtain rfl : x145 = nI (i + 1) := by rw [e145, nI_succ]
            have tq9 : TQ M M142 th ev := by
              refine ⟨((tq.1.trans (o4.mono (fun p j => g_th))).trans (o2.mono (fun p j => rn_th))).trans (fun p j hp => by rw [cb1 p (fun z => hp (Or.inl z))]), fun j hj => ?_, hL2.g (fun p j hp => by rw [cb1 p hp])⟩
              rw [cb2 j hj, o2 8 j (rn8 (by decide) j), o4 8 j (by unfold gR; decide)]
              exact h8 j hj
            refine ih (i + 1) _ _ (by omega) (by omega) ?_ tq9 (fun j hj => ?_)
            · rw [mtt, e130, e4]
              rw [if_pos ⟨h3, hoth.mpr (fun z => c108 z.2.1)⟩]
            · rw [cb1 8 (by decide), o2 8 j (rn8 (by decide) j), o4 8 j (by unfold gR; decide)]
              exact h8 j hj
          · refine u_aload_n (pc := 111) C d_M_matter_111 rfl ?_
            refine u_getr (pc := 112) (r := 6) C d_M_matter_112 fw_M_25 sR_0 rfl rfl ?_
            refine u_iconst (pc := 115) (v := 1) C d_M_matter_115 (by decide) ?_
            refine u_iald (pc := 116) C d_M_matter_116 sR_6 v1 ?_
            refine u_iload_n (pc := 117) C d_M_matter_117 rfl ?_
            refine u_icmp_eq (pc := 118) (tgt := 128) C d_M_matter_118 rfl (fun c118 => ?_) (fun c118 => ?_)
            · refine u_iconst (pc := 128) (v := 0) C d_M_matter_128 (by decide) ?_
              refine u_ior (pc := 129) C d_M_matter_129 ?_
              refine u_istore (pc := 130) C d_M_matter_130 rfl (fun x130 e130 L9 hL9 => ?_)
              obtain rfl : L9 = [some (.ref 0), some (.int e1), some (.int l0), some (.int l1), some (.int x130), some (.int (nI i))] := hL9.symm
              refine u_aload_n (pc := 132) C d_M_matter_132 rfl ?_
              refine u_getr (pc := 133) (r := 7) C d_M_matter_133 fw_M_30 sR_0 rfl rfl ?_
              refine u_iconst (pc := 136) (v := 0) C d_M_matter_136 (by decide) ?_
              refine u_aaldR (pc := 137) (r := 8) C d_M_matter_137 sR_7 lv0 rfl ?_
              refine u_aload_n (pc := 138) C d_M_matter_138 rfl ?_
              refine u_getr (pc := 139) (r := 6) C d_M_matter_139 fw_M_25 sR_0 rfl rfl ?_
              refine u_callSv (pc := 142) C d_M_matter_142 mx_M_copy mw_M_300 (c_M_copy sR_8 sR_6 (by decide)) rfl rfl (Nat.le_of_ble_eq_true rfl) (fun M142 q142 => ?_)
              obtain ⟨cb1, cb2⟩ := q142
              refine u_iinc (pc := 145) (v2 := 1) C d_M_matter_145 rfl rfl (by decide) (fun x145 e145 L9 hL9 => ?_)
              obtain rfl : L9 = [some (.ref 0), some (.int e1), some (.int l0), some (.int l1), some (.int x130), some (.int x145)] := hL9.symm
              refine u_goto (pc := 148) (tgt := 56) C d_M_matter_148 rfl ?_
              obtain rfl : x145 = nI (i + 1) := by rw [e145, nI_succ]
              have tq9 : TQ M M142 th ev := by
                refine ⟨((tq.1.trans (o4.mono (fun p j => g_th))).trans (o2.mono (fun p j => rn_th))).trans (fun p j hp => by rw [cb1 p (fun z => hp (Or.inl z))]), fun j hj => ?_, hL2.g (fun p j hp => by rw [cb1 p hp])⟩
                rw [cb2 j hj, o2 8 j (rn8 (by decide) j), o4 8 j (by unfold gR; decide)]
                exact h8 j hj
              refine ih (i + 1) _ _ (by omega) (by omega) ?_ tq9 (fun j hj => ?_)
              · rw [mtt, e130, e4]
                rw [if_neg (fun z => hoth.mp z.2 ⟨c98, c108, c118⟩), or_z]
              · rw [cb1 8 (by decide), o2 8 j (rn8 (by decide) j), o4 8 j (by unfold gR; decide)]
                exact h8 j hj
            · refine u_iconst (pc := 121) (v := 1) C d_M_matter_121 (by decide) ?_
              refine u_iload (pc := 122) C d_M_matter_122 rfl ?_
              refine u_ishl (pc := 124) C d_M_matter_124 ?_
              refine u_goto (pc := 125) (tgt := 129) C d_M_matter_125 rfl ?_
              refine u_ior (pc := 129) C d_M_matter_129 ?_
              refine u_istore (pc := 130) C d_M_matter_130 rfl (fun x130 e130 L9 hL9 => ?_)
              obtain rfl : L9 = [some (.ref 0), some (.int e1), some (.int l0), some (.int l1), some (.int x130), some (.int (nI i))] := hL9.symm
              refine u_aload_n (pc := 132) C d_M_matter_132 rfl ?_
              refine u_getr (pc := 133) (r := 7) C d_M_matter_133 fw_M_30 sR_0 rfl rfl ?_
              refine u_iconst (pc := 136) (v := 0) C d_M_matter_136 (by decide) ?_
              refine u_aaldR (pc := 137) (r := 8) C d_M_matter_137 sR_7 lv0 rfl ?_
              refine u_aload_n (pc := 138) C d_M_matter_138 rfl ?_
              refine u_getr (pc := 139) (r := 6) C d_M_matter_139 fw_M_25 sR_0 rfl rfl ?_
              refine u_callSv (pc := 142) C d_M_matter_142 mx_M_copy mw_M_300 (c_M_copy sR_8 sR_6 (by decide)) rfl rfl (Nat.le_of_ble_eq_true rfl) (fun M142 q142 => ?_)
              obtain ⟨cb1, cb2⟩ := q142
              refine u_iinc (pc := 145) (v2 := 1) C d_M_matter_145 rfl rfl (by decide) (fun x145 e145 L9 hL9 => ?_)
              obtain rfl : L9 = [some (.ref 0), some (.int e1), some (.int l0), some (.int l1), some (.int x130), some (.int x145)] := hL9.symm
              refine u_goto (pc := 148) (tgt := 56) C d_M_matter_148 rfl ?_
              obtain rfl : x145 = nI (i + 1) := by rw [e145, nI_succ]
              have tq9 : TQ M M142 th ev := by
                refine ⟨((tq.1.trans (o4.mono (fun p j => g_th))).trans (o2.mono (fun p j => rn_th))).trans (fun p j hp => by rw [cb1 p (fun z => hp (Or.inl z))]), fun j hj => ?_, hL2.g (fun p j hp => by rw [cb1 p hp])⟩
                rw [cb2 j hj, o2 8 j (rn8 (by decide) j), o4 8 j (by unfold gR; decide)]
                exact h8 j hj
              refine ih (i + 1) _ _ (by omega) (by omega) ?_ tq9 (fun j hj => ?_)
              · rw [mtt, e130, e4]
                rw [if_pos ⟨h3, hoth.mpr (fun z => c118 z.2.2)⟩]
              · rw [cb1 8 (by decide), o2 8 j (rn8 (by decide) j), o4 8 j (by unfold gR; decide)]
                exact h8 j hj
set_option maxRecDepth 20000 in
theorem c_M_matter  {M : Mem} {σ : St} (hI : InvR M σ) : Ct lyR y_M_matter b_M_matter 6 (some .int) 9 [.ref 0] M (Pi fun r M' => r = sp_matter σ ∧ InvR M' σ) := by
  have hS := hI.1
  have n24 := hS.n24
  have h5 := hS.2.2.1
  obtain ⟨k1, k2, k3, k4, k5⟩ := hS.cdc
  have ht0 := hI.2.2.2.2.2.2
  have hL0 := hI.2.2.2.2.2.1
  refine Ct.ofG mx_M_matter [some (.ref 0), none, none, none, none, none] rfl rfl (Nat.le_of_ble_eq_true rfl) (fun κ C hQ => ?_)
  refine u_aload_n (pc := 0) C d_M_matter_0 rfl ?_
  refine u_getr (pc := 1) (r := 6) C d_M_matter_1 fw_M_25 sR_0 rfl rfl ?_
  refine u_aload_n (pc := 4) C d_M_matter_4 rfl ?_
  refine u_getr (pc := 5) (r := 7) C d_M_matter_5 fw_M_30 sR_0 rfl rfl ?_
  refine u_iconst (pc := 8) (v := 0) C d_M_matter_8 (by decide) ?_
  refine u_aaldR (pc := 9) (r := 8) C d_M_matter_9 sR_7 lv0 rfl ?_
  refine u_callSv (pc := 10) C d_M_matter_10 mx_M_copy mw_M_300 (c_M_copy sR_6 sR_8 (by decide)) rfl rfl (Nat.le_of_ble_eq_true rfl) (fun M10 q10 => ?_)
  obtain ⟨cp1, cp2⟩ := q10
  obtain ⟨hS1, ht1, hL1, oc1⟩ := cp8 hS ht0 hL0 cp1 (by decide)
  refine u_aload_n (pc := 13) C d_M_matter_13 rfl ?_
  refine u_callVi (pc := 14) C d_M_matter_14 mx_M_runIt mw_M_288 sR_0 rfl (c_M_runIt (s := (σ.1.2.2.1, σ.1.2.2.2)) (Or.inl rfl) hS1 ht1 hL1) rfl rfl (Nat.le_of_ble_eq_true rfl) (fun r14 M14 q14 => ?_)
  obtain ⟨e14, ⟨w1, w2, w3, hS2, hL2⟩, o2⟩ := q14
  rw [if_neg (by decide), if_neg (by decide)] at hL2
  refine u_pop (pc := 17) C d_M_matter_17 rfl ?_
  refine u_aload_n (pc := 18) C d_M_matter_18 rfl ?_
  refine u_geti (pc := 19) C d_M_matter_19 fw_M_279 sR_0 rfl ?_
  refine u_istore_n (pc := 22) C d_M_matter_22 rfl (fun x22 e22 L9 hL9 => ?_)
  obtain rfl : L9 = [some (.ref 0), some (.int x22), none, none, none, none] := hL9.symm
  refine u_aload_n (pc := 23) C d_M_matter_23 rfl ?_
  refine u_getr (pc := 24) (r := 6) C d_M_matter_24 fw_M_25 sR_0 rfl rfl ?_
  refine u_iconst (pc := 27) (v := 0) C d_M_matter_27 (by decide) ?_
  refine u_iald (pc := 28) C d_M_matter_28 sR_6 v0 ?_
  refine u_istore_n (pc := 29) C d_M_matter_29 rfl (fun x29 e29 L9 hL9 => ?_)
  obtain rfl : L9 = [some (.ref 0), some (.int x22), some (.int x29), none, none, none] := hL9.symm
  refine u_aload_n (pc := 30) C d_M_matter_30 rfl ?_
  refine u_getr (pc := 31) (r := 6) C d_M_matter_31 fw_M_25 sR_0 rfl rfl ?_
  refine u_iconst (pc := 34) (v := 1) C d_M_matter_34 (by decide) ?_
  refine u_iald (pc := 35) C d_M_matter_35 sR_6 v1 ?_
  refine u_istore_n (pc := 36) C d_M_matter_36 rfl (fun x36 e36 L9 hL9 => ?_)
  obtain rfl : L9 = [some (.ref 0), some (.int x22), some (.int x29), some (.int x36), none, none] := hL9.symm
  refine u_aload_n (pc := 37) C d_M_matter_37 rfl ?_
  refine u_getr (pc := 38) (r := 7) C d_M_matter_38 fw_M_30 sR_0 rfl rfl ?_
  refine u_iconst (pc := 41) (v := 0) C d_M_matter_41 (by decide) ?_
  refine u_aaldR (pc := 42) (r := 8) C d_M_matter_42 sR_7 lv0 rfl ?_
  refine u_aload_n (pc := 43) C d_M_matter_43 rfl ?_
  refine u_getr (pc := 44) (r := 6) C d_M_matter_44 fw_M_25 sR_0 rfl rfl ?_
  refine u_callSv (pc := 47) C d_M_matter_47 mx_M_copy mw_M_300 (c_M_copy sR_8 sR_6 (by decide)) rfl rfl (Nat.le_of_ble_eq_true rfl) (fun M47 q47 => ?_)
  obtain ⟨cb1, cb2⟩ := q47
  refine u_iconst (pc := 50) (v := 0) C d_M_matter_50 (by decide) ?_
  refine u_istore (pc := 51) C d_M_matter_51 rfl (fun x51 e51 L9 hL9 => ?_)
  obtain rfl : L9 = [some (.ref 0), some (.int x22), some (.int x29), some (.int x36), some (.int x51), none] := hL9.symm
  refine u_iconst (pc := 53) (v := 0) C d_M_matter_53 (by decide) ?_
  refine u_istore (pc := 54) C d_M_matter_54 rfl (fun x54 e54 L9 hL9 => ?_)
  obtain rfl : L9 = [some (.ref 0), some (.int x22), some (.int x29), some (.int x36), some (.int x51), some (.int x54)] := hL9.symm
  obtain ⟨l1a, l2a⟩ := hS2.2.2.2.1
  subst e54
  subst e51
  have tq := cp_back (M3 := M47) (q := 8) (by decide) cp1 cp2 o2 (fun p j => rn_th) (rn8 (by decide)) cb1 cb2 hL2
  refine lp_matterR hS ht0 (by rw [e22, w1]) (by rw [e29]; exact l1a) (by rw [e36]; exact l2a) C (fun v M9 q => hQ v M9 ?_) (σ.1.2.1 + 1) 0 _ _ (by omega) (by omega) rfl tq (fun j hj => ?_)
  · obtain ⟨r, rfl, q1, q2⟩ := q
    exact ⟨r, rfl, q1, TQ.inv hI q2⟩
  · rw [cb1 8 (by decide), o2 8 j (rn8 (by decide) j)]
    exact cp2 j hj
theorem quiet_if {M : Mem} {cd : Nat → Nat → Int32} {n : Nat} {s : Gm × List Nat} (h : RS M cd n s.1 s.2) : quiet s ↔ M.1 6 6 = 0 ∧ ¬ (M.1 6 0 ≤ 0 ∨ M.1 6 1 ≤ 0) := by
  rw [lost_if h, h.many]
  unfold quiet
  exact ⟨fun z => ⟨z.1, fun y => by rw [z.2] at y; cases y⟩, fun z => ⟨z.1, by
    rcases Bool.eq_false_or_eq_true (lost s.1) with q | q
    · exact absurd q z.2
    · exact q⟩⟩
set_option maxRecDepth 20000 in
theorem lp_aheadR {κ : KX} {cd : Nat → Nat → Int32} {n k : Nat} {w : Int32} {th ev : List Int32} (hk9 : k ≤ 9) (C : Cx κ lyR y_M_ahead.cls b_M_ahead 5 (some .int) 9)  : ∀ (f j i : Nat) (s : Gm × List Nat) (M : Mem), j < f → i + j = k → RS M cd n s.1 s.2 → M.1 0 32 = 0 → LGr M th ev → (∀ M9, RS M9 cd n (ahF cd n j s).2.1 (ahF cd n j s).2.2 → LGr M9 th ev → OfR rnR M M9 → G κ lyR 74 [some (.ref 0), some (.int (nI k)), some (.int w), some (.int (nI (i + (ahF cd n j s).1))), none] [] M9) → G κ lyR 37 [some (.ref 0), some (.int (nI k)), some (.int w), some (.int (nI i)), none] [] M := by
  intro f
  induction f with
  | zero => intro j i s M h; omega
  | succ f ih =>
    intro j i s M hf hij hS ht0 hL0 kk
    have hq9 := quiet_if hS
    have hin : nI k ≤ nI i ↔ k ≤ i := nI_leI (by omega) (by omega)
    refine u_iload_n (pc := 37) C d_M_ahead_37 rfl ?_
    refine u_iload_n (pc := 38) C d_M_ahead_38 rfl ?_
    refine u_icmp_ge (pc := 39) (tgt := 74) C d_M_ahead_39 rfl (fun c39 => ?_) (fun c39 => ?_)
    · have h00 : ahF cd n j s = (0, s) := by
        rw [show j = 0 by rw [hin] at c39; omega]; rfl
      have k9 := kk M
      rw [h00] at k9
      exact k9 hS hL0 OfR.refl
    · have hik : i < k := by rw [hin] at c39; omega
      obtain ⟨j', rfl⟩ : ∃ j', j = j' + 1 := ⟨j - 1, by omega⟩
      refine u_aload_n (pc := 42) C d_M_ahead_42 rfl ?_
      refine u_getr (pc := 43) (r := 6) C d_M_ahead_43 fw_M_25 sR_0 rfl rfl ?_
      refine u_bipush (pc := 46) (v := 6) C d_M_ahead_46 (by decide) ?_
      refine u_iald (pc := 48) C d_M_ahead_48 sR_6 v6 ?_
      refine u_if_ne (pc := 49) (tgt := 74) C d_M_ahead_49 rfl (fun c49 => ?_) (fun c49 => ?_)
      · have hnq : ¬ quiet s := fun z => c49 (hq9.mp z).1
        have k9 := kk M
        rw [ahF_n hnq] at k9
        exact k9 hS hL0 OfR.refl
      · refine u_aload_n (pc := 52) C d_M_ahead_52 rfl ?_
        refine u_callVi (pc := 53) C d_M_ahead_53 mx_M_isLost mw_M_275 sR_0 rfl (c_M_isLost) rfl rfl (Nat.le_of_ble_eq_true rfl) (fun r53 M53 q53 => ?_)
        obtain ⟨e53, q53⟩ := q53
        have q53 := q53.symm
        subst q53
        refine u_if_ne (pc := 56) (tgt := 74) C d_M_ahead_56 rfl (fun c56 => ?_) (fun c56 => ?_)
        · have hnq : ¬ quiet s := fun z => (hq9.mp z).2 (one_of e53 c56)
          have k9 := kk M
          rw [ahF_n hnq] at k9
          exact k9 hS hL0 OfR.refl
        · rw [cl6] at c49
          have hqt : quiet s := hq9.mpr ⟨c49, zero_of e53 c56⟩
          refine u_aload_n (pc := 59) C d_M_ahead_59 rfl ?_
          refine u_callVv (pc := 60) C d_M_ahead_60 mx_M_turnIt mw_M_294 sR_0 rfl (c_M_turnIt (g := s.1) (tb := s.2) hS ht0 hL0) rfl rfl (Nat.le_of_ble_eq_true rfl) (fun M60 q60 => ?_)
          obtain ⟨hSt, hLt, ot⟩ := q60
          have htt := OfR.tr ht0 ot (fun z => by unfold rvR at z; omega)
          refine u_aload_n (pc := 63) C d_M_ahead_63 rfl ?_
          refine u_callVi (pc := 64) C d_M_ahead_64 mx_M_runIt mw_M_288 sR_0 rfl (c_M_runIt (s := tkt cd n (s.1, s.2)) (Or.inl rfl) hSt htt hLt) rfl rfl (Nat.le_of_ble_eq_true rfl) (fun r64 M64 q64 => ?_)
          obtain ⟨e64, ⟨w1, w2, w3, hS2, hL2⟩, o2⟩ := q64
          rw [if_neg (by decide), if_neg (by decide)] at hL2
          refine u_pop (pc := 67) C d_M_ahead_67 rfl ?_
          refine u_iinc (pc := 68) (v2 := 1) C d_M_ahead_68 rfl rfl (by decide) (fun x68 e68 L9 hL9 => ?_)
          obtain rfl : L9 = [some (.ref 0), some (.int (nI k)), some (.int w), some (.int x68), none] := hL9.symm
          refine u_goto (pc := 71) (tgt := 37) C d_M_ahead_71 rfl ?_
          obtain rfl : x68 = nI (i + 1) := by rw [e68, nI_succ]
          have h32 : M64.1 0 32 = 0 := OfR.tr htt o2 (fun z => by unfold rnR rvR at z; omega)
          refine ih j' (i + 1) (runG cd n (tkt cd n s)) M64 (by omega) (by omega) hS2 h32 hL2 (fun M9 a1 a2 a3 => ?_)
          have k9 := kk M9
          rw [ahF_y hqt] at k9
          have k8 := k9 a1 a2 (((ot.mono (fun p j => rv_rn)).trans o2).trans a3)
          rw [show i + ((ahF cd n j' (runG cd n (tkt cd n s))).1 + 1) = i + 1 + (ahF cd n j' (runG cd n (tkt cd n s))).1 by omega] at k8
          exact k8
set_option maxRecDepth 20000 in
theorem lp_aheadT {κ : KX} {cd : Nat → Nat → Int32} {n t w i : Nat} {s : Gm × List Nat} {M0 M1 M : Mem} {th ev : List Int32} (hS : RS M cd n s.1 s.2) (hw4 : w ≤ 4) (C : Cx κ lyR y_M_ahead.cls b_M_ahead 5 (some .int) 9) (hQ : ∀ v M', Pi (fun r M' => r = (if nI w = 0 then nI i else if nI w = 1 then s.1 0 0 else if nI w = 2 then s.1 0 1 else if nI w = 3 then nI (atP cd n s.1 0 1).length else nI (atP cd n s.1 1 1).length) ∧ TQ M0 M' th ev) v M' → KQ κ v M') (cp1 : ∀ q, q ≠ 8 → M1.1 q = M0.1 q) (cp2 : ∀ j, j < 123 → M1.1 8 j = M0.1 6 j) (hL : LGr M th ev) (ho : OfR rnR M1 M) : G κ lyR 74 [some (.ref 0), some (.int (nI t)), some (.int (nI w)), some (.int (nI i)), none] [] M := by
  refine u_iload_n (pc := 74) C d_M_ahead_74 rfl ?_
  refine u_if_ne (pc := 75) (tgt := 82) C d_M_ahead_75 rfl (fun c75 => ?_) (fun c75 => ?_)
  · refine u_iload_n (pc := 82) C d_M_ahead_82 rfl ?_
    refine u_iconst (pc := 83) (v := 3) C d_M_ahead_83 (by decide) ?_
    refine u_icmp_ge (pc := 84) (tgt := 100) C d_M_ahead_84 rfl (fun c84 => ?_) (fun c84 => ?_)
    · have hw34 : w = 3 ∨ w = 4 := by
        have h1 : 3 ≤ w := (nI_leI (a := 3) (by omega) (by omega)).mp c84
        omega
      have hp9 : nI w - 3 = nI (w - 3) := by rw [show (3 : Int32) = nI 3 from rfl, pk_sub (by omega)]
      refine u_aload_n (pc := 100) C d_M_ahead_100 rfl ?_
      refine u_iload_n (pc := 101) C d_M_ahead_101 rfl ?_
      refine u_iconst (pc := 102) (v := 3) C d_M_ahead_102 (by decide) ?_
      refine u_isub (pc := 103) C d_M_ahead_103 ?_
      refine u_iconst (pc := 104) (v := 1) C d_M_ahead_104 (by decide) ?_
      refine u_callVi (pc := 105) C d_M_ahead_105 mx_M_manyAt mw_M_168 sR_0 rfl (c_M_manyAt hS) rfl rfl (Nat.le_of_ble_eq_true rfl) (fun r105 M105 q105 => ?_)
      obtain ⟨e105, q105⟩ := q105
      have q105 := q105.symm
      subst q105
      refine u_istore (pc := 108) C d_M_ahead_108 rfl (fun x108 e108 L9 hL9 => ?_)
      obtain rfl : L9 = [some (.ref 0), some (.int (nI t)), some (.int (nI w)), some (.int (nI i)), some (.int x108)] := hL9.symm
      refine u_aload_n (pc := 110) C d_M_ahead_110 rfl ?_
      refine u_getr (pc := 111) (r := 7) C d_M_ahead_111 fw_M_30 sR_0 rfl rfl ?_
      refine u_iconst (pc := 114) (v := 0) C d_M_ahead_114 (by decide) ?_
      refine u_aaldR (pc := 115) (r := 8) C d_M_ahead_115 sR_7 lv0 rfl ?_
      refine u_aload_n (pc := 116) C d_M_ahead_116 rfl ?_
      refine u_getr (pc := 117) (r := 6) C d_M_ahead_117 fw_M_25 sR_0 rfl rfl ?_
      refine u_callSv (pc := 120) C d_M_ahead_120 mx_M_copy mw_M_300 (c_M_copy sR_8 sR_6 (by decide)) rfl rfl (Nat.le_of_ble_eq_true rfl) (fun M120 q120 => ?_)
      obtain ⟨cb1, cb2⟩ := q120
      refine u_iload (pc := 123) C d_M_ahead_123 rfl ?_
      refine u_iret (pc := 125) C d_M_ahead_125 (hQ _ _ ⟨_, rfl, ?_⟩)
      refine ⟨?_, cp_back (q := 8) (by decide) cp1 cp2 ho (fun p j => rn_th) (rn8 (by decide)) cb1 cb2 hL⟩
      rw [hp9, mnL_p (nI_pos (by omega))] at e105
      rw [e108, e105, if_neg c75]
      rcases hw34 with z | z
      · subst z
        rw [if_neg (show ¬ nI 3 = 1 by decide), if_neg (show ¬ nI 3 = 2 by decide), if_pos (show nI 3 = 3 from rfl)]; rfl
      · subst z
        rw [if_neg (show ¬ nI 4 = 1 by decide), if_neg (show ¬ nI 4 = 2 by decide), if_neg (show ¬ nI 4 = 3 by decide)]; rfl
    · have hw12 : w = 1 ∨ w = 2 := by
        have h1 : ¬ 3 ≤ w := not_leI (a := 3) (by omega) (by omega) c84
        rcases (show w = 0 ∨ w = 1 ∨ w = 2 by omega) with z | z | z
        · exact absurd (by rw [z]; rfl) c75
        · exact Or.inl z
        · exact Or.inr z
      have hix : (0 : Int32) + nI w - 1 = nI (w - 1) := by
        rw [show (0 : Int32) = nI 0 from rfl, show (1 : Int32) = nI 1 from rfl, nI_add, pk_sub (by omega)]
        exact congrArg nI (by omega)
      refine u_aload_n (pc := 87) C d_M_ahead_87 rfl ?_
      refine u_getr (pc := 88) (r := 6) C d_M_ahead_88 fw_M_25 sR_0 rfl rfl ?_
      refine u_iconst (pc := 91) (v := 0) C d_M_ahead_91 (by decide) ?_
      refine u_iload_n (pc := 92) C d_M_ahead_92 rfl ?_
      refine u_iadd (pc := 93) C d_M_ahead_93 ?_
      refine u_iconst (pc := 94) (v := 1) C d_M_ahead_94 (by decide) ?_
      refine u_isub (pc := 95) C d_M_ahead_95 ?_
      refine u_iald (pc := 96) C d_M_ahead_96 sR_6 (by rw [hix]; exact vp_in_nI (by omega) (by decide)) ?_
      refine u_goto (pc := 97) (tgt := 108) C d_M_ahead_97 rfl ?_
      refine u_istore (pc := 108) C d_M_ahead_108 rfl (fun x108 e108 L9 hL9 => ?_)
      obtain rfl : L9 = [some (.ref 0), some (.int (nI t)), some (.int (nI w)), some (.int (nI i)), some (.int x108)] := hL9.symm
      refine u_aload_n (pc := 110) C d_M_ahead_110 rfl ?_
      refine u_getr (pc := 111) (r := 7) C d_M_ahead_111 fw_M_30 sR_0 rfl rfl ?_
      refine u_iconst (pc := 114) (v := 0) C d_M_ahead_114 (by decide) ?_
      refine u_aaldR (pc := 115) (r := 8) C d_M_ahead_115 sR_7 lv0 rfl ?_
      refine u_aload_n (pc := 116) C d_M_ahead_116 rfl ?_
      refine u_getr (pc := 117) (r := 6) C d_M_ahead_117 fw_M_25 sR_0 rfl rfl ?_
      refine u_callSv (pc := 120) C d_M_ahead_120 mx_M_copy mw_M_300 (c_M_copy sR_8 sR_6 (by decide)) rfl rfl (Nat.le_of_ble_eq_true rfl) (fun M120 q120 => ?_)
      obtain ⟨cb1, cb2⟩ := q120
      refine u_iload (pc := 123) C d_M_ahead_123 rfl ?_
      refine u_iret (pc := 125) C d_M_ahead_125 (hQ _ _ ⟨_, rfl, ?_⟩)
      refine ⟨?_, cp_back (q := 8) (by decide) cp1 cp2 ho (fun p j => rn_th) (rn8 (by decide)) cb1 cb2 hL⟩
      obtain ⟨l1, l2⟩ := hS.2.2.2.1
      rw [hix, nI_clamp (by omega)] at e108
      rw [e108, if_neg c75]
      rcases hw12 with z | z
      · subst z
        rw [if_pos (show nI 1 = 1 from rfl)]; exact l1
      · subst z
        rw [if_neg (show ¬ nI 2 = 1 by decide), if_pos (show nI 2 = 2 from rfl)]; exact l2
  · refine u_iload_n (pc := 78) C d_M_ahead_78 rfl ?_
    refine u_goto (pc := 79) (tgt := 108) C d_M_ahead_79 rfl ?_
    refine u_istore (pc := 108) C d_M_ahead_108 rfl (fun x108 e108 L9 hL9 => ?_)
    obtain rfl : L9 = [some (.ref 0), some (.int (nI t)), some (.int (nI w)), some (.int (nI i)), some (.int x108)] := hL9.symm
    refine u_aload_n (pc := 110) C d_M_ahead_110 rfl ?_
    refine u_getr (pc := 111) (r := 7) C d_M_ahead_111 fw_M_30 sR_0 rfl rfl ?_
    refine u_iconst (pc := 114) (v := 0) C d_M_ahead_114 (by decide) ?_
    refine u_aaldR (pc := 115) (r := 8) C d_M_ahead_115 sR_7 lv0 rfl ?_
    refine u_aload_n (pc := 116) C d_M_ahead_116 rfl ?_
    refine u_getr (pc := 117) (r := 6) C d_M_ahead_117 fw_M_25 sR_0 rfl rfl ?_
    refine u_callSv (pc := 120) C d_M_ahead_120 mx_M_copy mw_M_300 (c_M_copy sR_8 sR_6 (by decide)) rfl rfl (Nat.le_of_ble_eq_true rfl) (fun M120 q120 => ?_)
    obtain ⟨cb1, cb2⟩ := q120
    refine u_iload (pc := 123) C d_M_ahead_123 rfl ?_
    refine u_iret (pc := 125) C d_M_ahead_125 (hQ _ _ ⟨_, rfl, ?_⟩)
    refine ⟨?_, cp_back (q := 8) (by decide) cp1 cp2 ho (fun p j => rn_th) (rn8 (by decide)) cb1 cb2 hL⟩
    rw [e108, if_pos c75]
set_option maxRecDepth 20000 in
theorem c_M_ahead {k w : Int32} {M : Mem} {σ : St} (hI : InvR M σ) : Ct lyR y_M_ahead b_M_ahead 5 (some .int) 9 [.ref 0, .int k, .int w] M (Pi fun r M' => r = sp_ahead k w σ ∧ InvR M' σ) := by
  have hS := hI.1
  have n24 := hS.n24
  have h5 := hS.2.2.1
  obtain ⟨k1, k2, k3, k4, k5⟩ := hS.cdc
  have ht0 := hI.2.2.2.2.2.2
  have hL0 := hI.2.2.2.2.2.1
  refine Ct.ofG mx_M_ahead [some (.ref 0), some (.int k), some (.int w), none, none] rfl rfl (Nat.le_of_ble_eq_true rfl) (fun κ C hQ => ?_)
  refine u_iload_n (pc := 0) C d_M_ahead_0 rfl ?_
  refine u_iconst (pc := 1) (v := 1) C d_M_ahead_1 (by decide) ?_
  refine u_bipush (pc := 2) (v := 9) C d_M_ahead_2 (by decide) ?_
  refine u_callSi (pc := 4) C d_M_ahead_4 mx_M_in mw_M_73 (c_M_in) rfl rfl (Nat.le_of_ble_eq_true rfl) (fun r4 M4 q4 => ?_)
  obtain ⟨e4, q4⟩ := q4
  have q4 := q4.symm
  subst q4
  refine u_if_eq (pc := 7) (tgt := 19) C d_M_ahead_7 rfl (fun c7 => ?_) (fun c7 => ?_)
  · refine u_ldc (pc := 19) C (mc_M_167) d_M_ahead_19 ?_
    refine u_iret (pc := 21) C d_M_ahead_21 (hQ _ _ ⟨_, rfl, ?_⟩)
    rw [e4] at c7
    refine ⟨?_, hI⟩
    rcases in_n c7 with q | q
    · rw [sp_ahead, if_pos q]
    · rw [sp_ahead]
      by_cases hz : k < 1
      · rw [if_pos hz]
      · rw [if_neg hz, if_neg (Int32.not_le.mpr q)]
  · rw [e4] at c7
    obtain ⟨kp1, kp2⟩ := in_y c7
    obtain ⟨t, ht9, rfl⟩ : ∃ t, t ≤ 9 ∧ k = nI t := by
      have h0 : ¬ k < 0 := fun z => kp1 (by
        have a1 := Int32.lt_iff_toInt_lt.mp z
        have a0 : (0 : Int32).toInt = 0 := by decide
        have a9 : (1 : Int32).toInt = 1 := by decide
        rw [Int32.lt_iff_toInt_lt]; omega)
      obtain ⟨t, ht, rfl⟩ := nI_of h0
      refine ⟨t, ?_, rfl⟩
      rcases Nat.lt_or_ge 9 t with z | z
      · exact absurd (nI_lt (a := 9) z ht) kp2
      · exact z
    refine u_iload_n (pc := 10) C d_M_ahead_10 rfl ?_
    refine u_iconst (pc := 11) (v := 0) C d_M_ahead_11 (by decide) ?_
    refine u_iconst (pc := 12) (v := 4) C d_M_ahead_12 (by decide) ?_
    refine u_callSi (pc := 13) C d_M_ahead_13 mx_M_in mw_M_73 (c_M_in) rfl rfl (Nat.le_of_ble_eq_true rfl) (fun r13 M13 q13 => ?_)
    obtain ⟨e13, q13⟩ := q13
    have q13 := q13.symm
    subst q13
    refine u_if_ne (pc := 16) (tgt := 22) C d_M_ahead_16 rfl (fun c16 => ?_) (fun c16 => ?_)
    · rw [e13] at c16
      obtain ⟨w, hw4, rfl⟩ := inN (n := 4) rfl (by decide) c16
      have w0 : ¬ nI w < 0 := nI_pos (by omega)
      have w4 : nI w ≤ (4 : Int32) := nI_le (b := 4) hw4 (by decide)
      refine u_aload_n (pc := 22) C d_M_ahead_22 rfl ?_
      refine u_getr (pc := 23) (r := 6) C d_M_ahead_23 fw_M_25 sR_0 rfl rfl ?_
      refine u_aload_n (pc := 26) C d_M_ahead_26 rfl ?_
      refine u_getr (pc := 27) (r := 7) C d_M_ahead_27 fw_M_30 sR_0 rfl rfl ?_
      refine u_iconst (pc := 30) (v := 0) C d_M_ahead_30 (by decide) ?_
      refine u_aaldR (pc := 31) (r := 8) C d_M_ahead_31 sR_7 lv0 rfl ?_
      refine u_callSv (pc := 32) C d_M_ahead_32 mx_M_copy mw_M_300 (c_M_copy sR_6 sR_8 (by decide)) rfl rfl (Nat.le_of_ble_eq_true rfl) (fun M32 q32 => ?_)
      obtain ⟨cp1, cp2⟩ := q32
      obtain ⟨hS1, ht1, hL1, oc1⟩ := cp8 hS ht0 hL0 cp1 (by decide)
      refine u_iconst (pc := 35) (v := 0) C d_M_ahead_35 (by decide) ?_
      refine u_istore_n (pc := 36) C d_M_ahead_36 rfl (fun x36 e36 L9 hL9 => ?_)
      obtain rfl : L9 = [some (.ref 0), some (.int (nI t)), some (.int (nI w)), some (.int x36), none] := hL9.symm
      subst e36
      refine lp_aheadR (th := σ.2.2.2.2.2.1) (ev := σ.2.2.2.2.2.2) ht9 C (t + 1) t 0 _ _ (by omega) (by omega) hS1 ht1 hL1 (fun M9 a1 a2 a3 => ?_)
      rw [Nat.zero_add]
      refine lp_aheadT a1 hw4 C (fun v M' q => hQ v M' ?_) cp1 cp2 a2 a3
      obtain ⟨r, rfl, q1, q2⟩ := q
      refine ⟨r, rfl, ?_, TQ.inv hI q2⟩
      rw [sp_ahead, if_neg kp1, if_pos (Int32.not_lt.mp kp2), if_neg w0, if_pos w4, nI_clamp (by omega), q1]
    · refine u_ldc (pc := 19) C (mc_M_167) d_M_ahead_19 ?_
      refine u_iret (pc := 21) C d_M_ahead_21 (hQ _ _ ⟨_, rfl, ?_⟩)
      rw [e13] at c16
      refine ⟨?_, hI⟩
      rw [sp_ahead, if_neg kp1, if_pos (Int32.not_lt.mp kp2)]
      rcases in_n c16 with q | q
      · rw [if_pos q]
      · by_cases hz : w < 0
        · rw [if_pos hz]
        · rw [if_neg hz, if_neg (Int32.not_le.mpr q)]
