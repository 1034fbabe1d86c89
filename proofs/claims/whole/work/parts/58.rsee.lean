/-! the reference: what is seen ahead of each time of a run -/
def seeF (n : Nat) (g : Gm) (i : Nat) : Int32 :=
  if i < 4 then (if i = 0 then g 0 0 else if i = 1 then g 0 1 else if i = 2 then g 1 1 else g 1 4)
  else if i < 68 then (if i - 4 < (g 1 4).toNatClampNeg then g 2 (i - 4) else 0)
  else if i < 92 then (if i - 68 < n then g 3 (i - 68) else 0)
  else (if i - 92 < n ∧ g 3 (i - 92) = 3 then nI (older n g (i - 92)) else 0)
theorem seeF_4 {n i : Nat} {g : Gm} (h : i < 64) : seeF n g (4 + i) = if i < (g 1 4).toNatClampNeg then g 2 i else 0 := by
  rw [seeF, if_neg (by omega), if_pos (by omega), show 4 + i - 4 = i by omega]
theorem seeF_68 {n c : Nat} {g : Gm} (h : c < 24) : seeF n g (68 + c) = if c < n then g 3 c else 0 := by
  rw [seeF, if_neg (by omega), if_neg (by omega), if_pos (by omega), show 68 + c - 68 = c by omega]
theorem seeF_92 {n c : Nat} {g : Gm} : seeF n g (92 + c) = if c < n ∧ g 3 c = 3 then nI (older n g c) else 0 := by
  rw [seeF, if_neg (by omega), if_neg (by omega), if_neg (by omega), show 92 + c - 92 = c by omega]
theorem older_le {n c : Nat} {g : Gm} : older n g c ≤ n := by
  unfold older
  exact Nat.le_trans (List.length_filter_le _ _) (by simp)
theorem older_succ {n c : Nat} {g : Gm} : older (n + 1) g c = older n g c + if g 3 n = 3 ∧ g 4 n < g 4 c then 1 else 0 := by
  unfold older
  rw [List.range_succ, List.filter_append, List.length_append]
  congr 1
  by_cases h : g 3 n = 3 ∧ g 4 n < g 4 c
  · rw [if_pos h, List.filter_cons_of_pos (by simp only [Bool.and_eq_true, decide_eq_true_eq]; exact h)]; rfl
  · rw [if_neg h, List.filter_cons_of_neg (by simp only [Bool.and_eq_true, decide_eq_true_eq]; exact h)]; rfl
theorem see_same {n : Nat} {g h : Gm} (hn : n ≤ 24) (hg : (g 1 4).toNatClampNeg ≤ 64) : (∀ i, i < 116 → seeF n g i = seeF n h i) ↔ same n g h := by
  constructor
  · intro e
    have e0 : g 0 0 = h 0 0 := e 0 (by decide)
    have e1 : g 0 1 = h 0 1 := e 1 (by decide)
    have e2 : g 1 1 = h 1 1 := e 2 (by decide)
    have e3 : g 1 4 = h 1 4 := e 3 (by decide)
    have ew : ∀ c, c < n → g 3 c = h 3 c := fun c hc => by
      have := e (68 + c) (by omega)
      rw [seeF_68 (by omega), seeF_68 (by omega), if_pos hc, if_pos hc] at this
      exact this
    refine ⟨e0, e1, e2, e3, fun i hi => ?_, ew, fun c hc h3 => ?_⟩
    · have := e (4 + i) (by omega)
      rw [seeF_4 (by omega), seeF_4 (by omega), if_pos hi, if_pos (by rw [← e3]; exact hi)] at this
      exact this
    · have := e (92 + c) (by omega)
      rw [seeF_92, seeF_92, if_pos ⟨hc, h3⟩, if_pos ⟨hc, by rw [← ew c hc]; exact h3⟩] at this
      have l1 := older_le (n := n) (c := c) (g := g)
      have l2 := older_le (n := n) (c := c) (g := h)
      exact (nI_eq (by omega) (by omega)).mp this
  · rintro ⟨e0, e1, e2, e3, ep, ew, eo⟩ i hi
    unfold seeF
    by_cases h4 : i < 4
    · rw [if_pos h4, if_pos h4, e0, e1, e2, e3]
    · rw [if_neg h4, if_neg h4]
      by_cases h68 : i < 68
      · rw [if_pos h68, if_pos h68]
        by_cases q : i - 4 < (g 1 4).toNatClampNeg
        · rw [if_pos q, if_pos (by rw [← e3]; exact q), ep _ q]
        · rw [if_neg q, if_neg (by rw [← e3]; exact q)]
      · rw [if_neg h68, if_neg h68]
        by_cases h92 : i < 92
        · rw [if_pos h92, if_pos h92]
          by_cases q : i - 68 < n
          · rw [if_pos q, if_pos q, ew _ q]
          · rw [if_neg q, if_neg q]
        · rw [if_neg h92, if_neg h92]
          by_cases q : i - 92 < n ∧ g 3 (i - 92) = 3
          · rw [if_pos q, if_pos ⟨q.1, by rw [← ew _ q.1]; exact q.2⟩, eo _ q.1 q.2]
          · rw [if_neg q, if_neg (fun z => q ⟨z.1, by rw [ew _ z.1]; exact z.2⟩)]
theorem seen_ix {pt : Nat} (h : pt < 201) : lyR.2.2 15 (nI pt).toNatClampNeg = 16 + pt := by rw [nI_clamp (by omega)]; rfl
def snR (q p _j : Nat) : Prop := p = 16 + q
theorem RS.sn {M M' : Mem} {cd : Nat → Nat → Int32} {n q : Nat} {g : Gm} {tb : List Nat} (h : RS M cd n g tb) (ho : OfR (snR q) M M') : RS M' cd n g tb :=
  h.of ho (fun p j _ _ z => by unfold snR at z; omega) (fun z => by unfold snR at z; omega) (fun j z => by unfold snR at z; omega)
theorem ofsn {M : Mem} {q j : Nat} {x : Int32} : OfR (snR q) M (up M (16 + q) j x) := OfR.up rfl
theorem ix68 {c : Nat} (h : c < 24) : ((68 : Int32) + nI c).toNatClampNeg = 68 + c := ix_add rfl (by omega)
theorem vp68 {c : Nat} (h : c < 24) : vp_in ((68 : Int32) + nI c) 116 := vp_add (a := 68) rfl (by omega) (by decide)
theorem ix92 {c : Nat} (h : c < 24) : ((92 : Int32) + nI c).toNatClampNeg = 92 + c := ix_add rfl (by omega)
theorem vp92 {c : Nat} (h : c < 24) : vp_in ((92 : Int32) + nI c) 116 := vp_add (a := 92) rfl (by omega) (by decide)
theorem ix4 {c : Nat} (h : c < 64) : ((4 : Int32) + nI c).toNatClampNeg = 4 + c := ix_add rfl (by omega)
theorem vp4 {c : Nat} (h : c < 64) : vp_in ((4 : Int32) + nI c) 116 := vp_add (a := 4) rfl (by omega) (by decide)
theorem w0 : vp_in (0 : Int32) 116 := vp_in_nI (n := 0) (by decide) (by decide)
theorem w1 : vp_in (1 : Int32) 116 := vp_in_nI (n := 1) (by decide) (by decide)
theorem w2 : vp_in (2 : Int32) 116 := vp_in_nI (n := 2) (by decide) (by decide)
theorem w3 : vp_in (3 : Int32) 116 := vp_in_nI (n := 3) (by decide) (by decide)
set_option maxRecDepth 20000 in
theorem lp_seeI {κ : KX} {cd : Nat → Nat → Int32} {n pt : Nat} {g : Gm} {tb : List Nat} {M : Mem} (hS : RS M cd n g tb) (hpt : pt < 201) {c : Nat} (hc : c < 24) (C : Cx κ lyR y_M_see.cls b_M_see 6 none 1) (hQ : ∀ x5, G κ lyR 175 [some (.ref 0), some (.int (nI pt)), some (.ref (16 + pt)), some (.int (nI c)), some (.int (if c < n ∧ g 3 c = 3 then nI (older n g c) else 0)), some (.int x5)] [] M) : ∀ (f i : Nat) (x4 : Int32), i ≤ n → n - i < f → x4 = (if c < n ∧ g 3 c = 3 then nI (older i g c) else 0) → G κ lyR 101 [some (.ref 0), some (.int (nI pt)), some (.ref (16 + pt)), some (.int (nI c)), some (.int x4), some (.int (nI i))] [] M := by
  intro f
  induction f with
  | zero => intro i x4 _ h; omega
  | succ f ih =>
    intro i x4 hi hf e4
    have n24 := hS.n24
    have h5 := hS.2.2.1
    have hin : nI n ≤ nI i ↔ n ≤ i := nI_leI (by omega) (by omega)
    have hcn : nI n ≤ nI c ↔ n ≤ c := nI_leI (by omega) (by omega)
    have hw := hS.wh hc
    refine u_iload (pc := 101) C d_M_see_101 rfl ?_
    refine u_aload_n (pc := 103) C d_M_see_103 rfl ?_
    refine u_geti (pc := 104) C d_M_see_104 fw_M_70 sR_0 rfl ?_
    refine u_icmp_ge (pc := 107) (tgt := 175) C d_M_see_107 rfl (fun c107 => ?_) (fun c107 => ?_)
    · have hge : i = n := by rw [h5, hin] at c107; omega
      subst hge
      subst e4
      exact hQ _
    · have hlt : i < n := by rw [h5, hin] at c107; omega
      have hi24 : i < 24 := by omega
      refine u_iload_n (pc := 110) C d_M_see_110 rfl ?_
      refine u_aload_n (pc := 111) C d_M_see_111 rfl ?_
      refine u_geti (pc := 112) C d_M_see_112 fw_M_70 sR_0 rfl ?_
      refine u_icmp_ge (pc := 115) (tgt := 175) C d_M_see_115 rfl (fun c115 => ?_) (fun c115 => ?_)
      · have hno : ¬ (c < n ∧ g 3 c = 3) := fun z => by rw [h5, hcn] at c115; omega
        rw [if_neg hno] at hQ e4
        subst e4
        exact hQ _
      · refine u_aload_n (pc := 118) C d_M_see_118 rfl ?_
        refine u_iload_n (pc := 119) C d_M_see_119 rfl ?_
        refine u_iconst (pc := 120) (v := 3) C d_M_see_120 (by decide) ?_
        refine u_callVi (pc := 121) C d_M_see_121 mx_M_isAt mw_M_164 sR_0 rfl (c_M_isAt hc) rfl rfl (Nat.le_of_ble_eq_true rfl) (fun r121 M121 q121 => ?_)
        obtain ⟨e121, q121⟩ := q121
        have q121 := q121.symm
        subst q121
        rw [hw] at e121
        refine u_if_eq (pc := 124) (tgt := 175) C d_M_see_124 rfl (fun c124 => ?_) (fun c124 => ?_)
        · have hno : ¬ (c < n ∧ g 3 c = 3) := fun z => zero_of e121 c124 z.2
          rw [if_neg hno] at hQ e4
          subst e4
          exact hQ _
        · refine u_iload (pc := 127) C d_M_see_127 rfl ?_
          refine u_aload_n (pc := 129) C d_M_see_129 rfl ?_
          refine u_iload (pc := 130) C d_M_see_130 rfl ?_
          refine u_iconst (pc := 132) (v := 3) C d_M_see_132 (by decide) ?_
          refine u_callVi (pc := 133) C d_M_see_133 mx_M_isAt mw_M_164 sR_0 rfl (c_M_isAt hi24) rfl rfl (Nat.le_of_ble_eq_true rfl) (fun r133 M133 q133 => ?_)
          obtain ⟨e133, q133⟩ := q133
          have q133 := q133.symm
          subst q133
          rw [hS.wh hi24] at e133
          refine u_if_eq (pc := 136) (tgt := 165) C d_M_see_136 rfl (fun c136 => ?_) (fun c136 => ?_)
          · refine u_iconst (pc := 165) (v := 0) C d_M_see_165 (by decide) ?_
            refine u_iadd (pc := 166) C d_M_see_166 ?_
            refine u_istore (pc := 167) C d_M_see_167 rfl (fun x167 e167 L9 hL9 => ?_)
            obtain rfl : L9 = [some (.ref 0), some (.int (nI pt)), some (.ref (16 + pt)), some (.int (nI c)), some (.int x167), some (.int (nI i))] := hL9.symm
            refine u_iinc (pc := 169) (v2 := 1) C d_M_see_169 rfl rfl (by decide) (fun x169 e169 L9 hL9 => ?_)
            obtain rfl : L9 = [some (.ref 0), some (.int (nI pt)), some (.ref (16 + pt)), some (.int (nI c)), some (.int x167), some (.int x169)] := hL9.symm
            refine u_goto (pc := 172) (tgt := 101) C d_M_see_172 rfl ?_
            obtain rfl : x169 = nI (i + 1) := by rw [e169, nI_succ]
            have hc3 := one_of e121 c124
            have hcl : c < n := by rw [h5, hcn] at c115; omega
            refine ih (i + 1) _ (by omega) (by omega) ?_
            rw [e167, e4, if_pos ⟨hcl, hc3⟩, if_pos ⟨hcl, hc3⟩, older_succ]
            rw [if_neg (fun z => zero_of e133 c136 z.1)]
            simp
          · have h3i := one_of e133 c136
            have hit : i ∈ tb := hS.tbm.mpr ⟨hlt, h3i⟩
            have hc3 := one_of e121 c124
            have hcl : c < n := by rw [h5, hcn] at c115; omega
            have hct : c ∈ tb := hS.tbm.mpr ⟨hcl, hc3⟩
            refine u_aload_n (pc := 139) C d_M_see_139 rfl ?_
            refine u_getr (pc := 140) (r := 6) C d_M_see_140 fw_M_25 sR_0 rfl rfl ?_
            refine u_bipush (pc := 143) (v := 95) C d_M_see_143 (by decide) ?_
            refine u_iload (pc := 145) C d_M_see_145 rfl ?_
            refine u_iadd (pc := 147) C d_M_see_147 ?_
            refine u_iald (pc := 148) C d_M_see_148 sR_6 (vp95 hi24) ?_
            refine u_aload_n (pc := 149) C d_M_see_149 rfl ?_
            refine u_getr (pc := 150) (r := 6) C d_M_see_150 fw_M_25 sR_0 rfl rfl ?_
            refine u_bipush (pc := 153) (v := 95) C d_M_see_153 (by decide) ?_
            refine u_iload_n (pc := 155) C d_M_see_155 rfl ?_
            refine u_iadd (pc := 156) C d_M_see_156 ?_
            refine u_iald (pc := 157) C d_M_see_157 sR_6 (vp95 hc) ?_
            refine u_icmp_ge (pc := 158) (tgt := 165) C d_M_see_158 rfl (fun c158 => ?_) (fun c158 => ?_)
            · refine u_iconst (pc := 165) (v := 0) C d_M_see_165 (by decide) ?_
              refine u_iadd (pc := 166) C d_M_see_166 ?_
              refine u_istore (pc := 167) C d_M_see_167 rfl (fun x167 e167 L9 hL9 => ?_)
              obtain rfl : L9 = [some (.ref 0), some (.int (nI pt)), some (.ref (16 + pt)), some (.int (nI c)), some (.int x167), some (.int (nI i))] := hL9.symm
              refine u_iinc (pc := 169) (v2 := 1) C d_M_see_169 rfl rfl (by decide) (fun x169 e169 L9 hL9 => ?_)
              obtain rfl : L9 = [some (.ref 0), some (.int (nI pt)), some (.ref (16 + pt)), some (.int (nI c)), some (.int x167), some (.int x169)] := hL9.symm
              refine u_goto (pc := 172) (tgt := 101) C d_M_see_172 rfl ?_
              obtain rfl : x169 = nI (i + 1) := by rw [e169, nI_succ]
              rw [ix95 hi24, ix95 hc, hS.ag hit, hS.ag hct] at c158
              refine ih (i + 1) _ (by omega) (by omega) ?_
              rw [e167, e4, if_pos ⟨hcl, hc3⟩, if_pos ⟨hcl, hc3⟩, older_succ]
              rw [if_neg (fun z => absurd z.2 (Int32.not_lt.mpr c158))]
              simp
            · refine u_iconst (pc := 161) (v := 1) C d_M_see_161 (by decide) ?_
              refine u_goto (pc := 162) (tgt := 166) C d_M_see_162 rfl ?_
              refine u_iadd (pc := 166) C d_M_see_166 ?_
              refine u_istore (pc := 167) C d_M_see_167 rfl (fun x167 e167 L9 hL9 => ?_)
              obtain rfl : L9 = [some (.ref 0), some (.int (nI pt)), some (.ref (16 + pt)), some (.int (nI c)), some (.int x167), some (.int (nI i))] := hL9.symm
              refine u_iinc (pc := 169) (v2 := 1) C d_M_see_169 rfl rfl (by decide) (fun x169 e169 L9 hL9 => ?_)
              obtain rfl : L9 = [some (.ref 0), some (.int (nI pt)), some (.ref (16 + pt)), some (.int (nI c)), some (.int x167), some (.int x169)] := hL9.symm
              refine u_goto (pc := 172) (tgt := 101) C d_M_see_172 rfl ?_
              obtain rfl : x169 = nI (i + 1) := by rw [e169, nI_succ]
              rw [ix95 hi24, ix95 hc, hS.ag hit, hS.ag hct] at c158
              refine ih (i + 1) _ (by omega) (by omega) ?_
              rw [e167, e4, if_pos ⟨hcl, hc3⟩, if_pos ⟨hcl, hc3⟩, older_succ]
              rw [if_pos ⟨h3i, Int32.not_le.mp c158⟩]
              exact (nI_succ _).symm
set_option maxRecDepth 20000 in
theorem lp_seeT {κ : KX} {cd : Nat → Nat → Int32} {n pt : Nat} {g : Gm} {tb : List Nat} {M : Mem} (hS : RS M cd n g tb) (hpt : pt < 201) {c : Nat} (hc : c < 24) (C : Cx κ lyR y_M_see.cls b_M_see 6 none 1) (hQ : ∀ M9, OfR (snR pt) M M9 → M9.1 (16 + pt) (68 + c) = seeF n g (68 + c) → M9.1 (16 + pt) (92 + c) = seeF n g (92 + c) → (∀ q, q ≠ 68 + c → q ≠ 92 + c → M9.1 (16 + pt) q = M.1 (16 + pt) q) → G κ lyR 89 [some (.ref 0), some (.int (nI pt)), some (.ref (16 + pt)), some (.int (nI (c + 1))), none, none] [] M9) : ∀ x5 : Int32, G κ lyR 175 [some (.ref 0), some (.int (nI pt)), some (.ref (16 + pt)), some (.int (nI c)), some (.int (if c < n ∧ g 3 c = 3 then nI (older n g c) else 0)), some (.int x5)] [] M := by
  intro x5
  have n24 := hS.n24
  have h5 := hS.2.2.1
  have hcn : nI n ≤ nI c ↔ n ≤ c := nI_leI (by omega) (by omega)
  have hw := hS.wh hc
  refine u_aload_n (pc := 175) C d_M_see_175 rfl ?_
  refine u_bipush (pc := 176) (v := 68) C d_M_see_176 (by decide) ?_
  refine u_iload_n (pc := 178) C d_M_see_178 rfl ?_
  refine u_iadd (pc := 179) C d_M_see_179 ?_
  refine u_iload_n (pc := 180) C d_M_see_180 rfl ?_
  refine u_aload_n (pc := 181) C d_M_see_181 rfl ?_
  refine u_geti (pc := 182) C d_M_see_182 fw_M_70 sR_0 rfl ?_
  refine u_icmp_ge (pc := 185) (tgt := 200) C d_M_see_185 rfl (fun c185 => ?_) (fun c185 => ?_)
  · refine u_iconst (pc := 200) (v := 0) C d_M_see_200 (by decide) ?_
    refine u_iast (pc := 201) C d_M_see_201 (sS hpt) (vp68 hc) ?_
    refine u_aload_n (pc := 202) C d_M_see_202 rfl ?_
    refine u_bipush (pc := 203) (v := 92) C d_M_see_203 (by decide) ?_
    refine u_iload_n (pc := 205) C d_M_see_205 rfl ?_
    refine u_iadd (pc := 206) C d_M_see_206 ?_
    refine u_iload (pc := 207) C d_M_see_207 rfl ?_
    refine u_iast (pc := 209) C d_M_see_209 (sS hpt) (vp92 hc) ?_
    refine u_iinc (pc := 210) (v2 := 1) C d_M_see_210 rfl rfl (by decide) (fun x210 e210 L9 hL9 => ?_)
    obtain rfl : L9 = [some (.ref 0), some (.int (nI pt)), some (.ref (16 + pt)), some (.int x210), some (.int (if c < n ∧ g 3 c = 3 then nI (older n g c) else 0)), some (.int x5)] := hL9.symm
    refine u_goto (pc := 213) (tgt := 89) C d_M_see_213 rfl ?_
    obtain rfl : x210 = nI (c + 1) := by rw [e210, nI_succ]
    refine u_drop 4 rfl ?_
    refine u_drop 5 rfl ?_
    refine hQ _ (ofsn.trans ofsn) ?_ ?_ (fun q q1 q2 => ?_)
    · rw [ix92 hc, up_j (by omega), ix68 hc, up_row, pk_us, seeF_68 hc]
      rw [h5, hcn] at c185
      rw [if_neg (by omega)]
    · rw [ix92 hc, up_row, pk_us, seeF_92]
    · rw [ix92 hc, up_j q2, ix68 hc, up_j q1]
  · refine u_aload_n (pc := 188) C d_M_see_188 rfl ?_
    refine u_getr (pc := 189) (r := 6) C d_M_see_189 fw_M_25 sR_0 rfl rfl ?_
    refine u_bipush (pc := 192) (v := 71) C d_M_see_192 (by decide) ?_
    refine u_iload_n (pc := 194) C d_M_see_194 rfl ?_
    refine u_iadd (pc := 195) C d_M_see_195 ?_
    refine u_iald (pc := 196) C d_M_see_196 sR_6 (vp71 hc) ?_
    refine u_goto (pc := 197) (tgt := 201) C d_M_see_197 rfl ?_
    refine u_iast (pc := 201) C d_M_see_201 (sS hpt) (vp68 hc) ?_
    refine u_aload_n (pc := 202) C d_M_see_202 rfl ?_
    refine u_bipush (pc := 203) (v := 92) C d_M_see_203 (by decide) ?_
    refine u_iload_n (pc := 205) C d_M_see_205 rfl ?_
    refine u_iadd (pc := 206) C d_M_see_206 ?_
    refine u_iload (pc := 207) C d_M_see_207 rfl ?_
    refine u_iast (pc := 209) C d_M_see_209 (sS hpt) (vp92 hc) ?_
    refine u_iinc (pc := 210) (v2 := 1) C d_M_see_210 rfl rfl (by decide) (fun x210 e210 L9 hL9 => ?_)
    obtain rfl : L9 = [some (.ref 0), some (.int (nI pt)), some (.ref (16 + pt)), some (.int x210), some (.int (if c < n ∧ g 3 c = 3 then nI (older n g c) else 0)), some (.int x5)] := hL9.symm
    refine u_goto (pc := 213) (tgt := 89) C d_M_see_213 rfl ?_
    obtain rfl : x210 = nI (c + 1) := by rw [e210, nI_succ]
    refine u_drop 4 rfl ?_
    refine u_drop 5 rfl ?_
    refine hQ _ (ofsn.trans ofsn) ?_ ?_ (fun q q1 q2 => ?_)
    · rw [ix92 hc, up_j (by omega), ix68 hc, up_row, pk_us, seeF_68 hc]
      rw [h5, hcn] at c185
      rw [ix71 hc, hw, if_pos (by omega)]
    · rw [ix92 hc, up_row, pk_us, seeF_92]
    · rw [ix92 hc, up_j q2, ix68 hc, up_j q1]
set_option maxRecDepth 20000 in
theorem lp_seeB {κ : KX} {cd : Nat → Nat → Int32} {n pt : Nat} {g : Gm} {tb : List Nat} {M : Mem} (hS : RS M cd n g tb) (hpt : pt < 201)  (C : Cx κ lyR y_M_see.cls b_M_see 6 none 1) (hQ : ∀ v M', Pv (fun M' => (∀ i, i < 116 → M'.1 (16 + pt) i = seeF n g i) ∧ OfR (snR pt) M M') v M' → KQ κ v M') : ∀ (f i : Nat) (M1 : Mem), i ≤ 24 → 24 - i < f → OfR (snR pt) M M1 → (∀ q, q < 68 + i → M1.1 (16 + pt) q = seeF n g q) → (∀ q, 92 ≤ q → q < 92 + i → M1.1 (16 + pt) q = seeF n g q) → G κ lyR 89 [some (.ref 0), some (.int (nI pt)), some (.ref (16 + pt)), some (.int (nI i)), none, none] [] M1 := by
  intro f
  induction f with
  | zero => intro i M1 _ h; omega
  | succ f ih =>
    intro i M1 hi hf ho h1 h2
    have n24 := hS.n24
    have hS1 : RS M1 cd n g tb := hS.sn ho
    have hin : (24 : Int32) ≤ nI i ↔ 24 ≤ i := nI_leI (a := 24) (by omega) (by omega)
    refine u_iload_n (pc := 89) C d_M_see_89 rfl ?_
    refine u_bipush (pc := 90) (v := 24) C d_M_see_90 (by decide) ?_
    refine u_icmp_ge (pc := 92) (tgt := 216) C d_M_see_92 rfl (fun c92 => ?_) (fun c92 => ?_)
    · refine u_vret (pc := 216) C d_M_see_216 (hQ _ _ ⟨rfl, ?_⟩)
      have hge : i = 24 := by rw [hin] at c92; omega
      subst hge
      refine ⟨fun q hq => ?_, ho⟩
      rcases Nat.lt_or_ge q 92 with z | z
      · exact h1 q (by omega)
      · exact h2 q z (by omega)
    · refine u_iconst (pc := 95) (v := 0) C d_M_see_95 (by decide) ?_
      refine u_istore (pc := 96) C d_M_see_96 rfl (fun x96 e96 L9 hL9 => ?_)
      obtain rfl : L9 = [some (.ref 0), some (.int (nI pt)), some (.ref (16 + pt)), some (.int (nI i)), some (.int x96), none] := hL9.symm
      refine u_iconst (pc := 98) (v := 0) C d_M_see_98 (by decide) ?_
      refine u_istore (pc := 99) C d_M_see_99 rfl (fun x99 e99 L9 hL9 => ?_)
      obtain rfl : L9 = [some (.ref 0), some (.int (nI pt)), some (.ref (16 + pt)), some (.int (nI i)), some (.int x96), some (.int x99)] := hL9.symm
      have hlt : i < 24 := by rw [hin] at c92; omega
      subst e96
      subst e99
      refine lp_seeI hS1 hpt hlt C (fun x5 => ?_) (n + 1) 0 _ (by omega) (by omega) (by split <;> rfl)
      refine lp_seeT hS1 hpt hlt C (fun M9 o9 a1 a2 a3 => ?_) x5
      refine ih (i + 1) M9 (by omega) (by omega) (ho.trans o9) (fun q hq => ?_) (fun q q1 q2 => ?_)
      · by_cases e : q = 68 + i
        · rw [e]; exact a1
        · rw [a3 q e (by omega)]; exact h1 q (by omega)
      · by_cases e : q = 92 + i
        · rw [e]; exact a2
        · rw [a3 q (by omega) e]; exact h2 q q1 (by omega)
set_option maxRecDepth 20000 in
theorem lp_seeA {κ : KX} {cd : Nat → Nat → Int32} {n pt : Nat} {g : Gm} {tb : List Nat} {M : Mem} (hS : RS M cd n g tb) (hpt : pt < 201)  (C : Cx κ lyR y_M_see.cls b_M_see 6 none 1) (hQ : ∀ v M', Pv (fun M' => (∀ i, i < 116 → M'.1 (16 + pt) i = seeF n g i) ∧ OfR (snR pt) M M') v M' → KQ κ v M') : ∀ (f i : Nat) (M1 : Mem), i ≤ 64 → 64 - i < f → OfR (snR pt) M M1 → (∀ q, q < 4 + i → M1.1 (16 + pt) q = seeF n g q) → G κ lyR 46 [some (.ref 0), some (.int (nI pt)), some (.ref (16 + pt)), some (.int (nI i)), none, none] [] M1 := by
  intro f
  induction f with
  | zero => intro i M1 _ h; omega
  | succ f ih =>
    intro i M1 hi hf ho h1
    have n24 := hS.n24
    have hS1 : RS M1 cd n g tb := hS.sn ho
    obtain ⟨h, hh64, hh4⟩ := hS.1.hb
    have hm : M1.1 6 6 = nI h := by rw [← hh4]; exact hS1.many
    have hin : (64 : Int32) ≤ nI i ↔ 64 ≤ i := nI_leI (a := 64) (by omega) (by omega)
    have hhi : nI h ≤ nI i ↔ h ≤ i := nI_leI (by omega) (by omega)
    refine u_iload_n (pc := 46) C d_M_see_46 rfl ?_
    refine u_bipush (pc := 47) (v := 64) C d_M_see_47 (by decide) ?_
    refine u_icmp_ge (pc := 49) (tgt := 87) C d_M_see_49 rfl (fun c49 => ?_) (fun c49 => ?_)
    · refine u_iconst (pc := 87) (v := 0) C d_M_see_87 (by decide) ?_
      refine u_istore_n (pc := 88) C d_M_see_88 rfl (fun x88 e88 L9 hL9 => ?_)
      obtain rfl : L9 = [some (.ref 0), some (.int (nI pt)), some (.ref (16 + pt)), some (.int x88), none, none] := hL9.symm
      have hge : i = 64 := by rw [hin] at c49; omega
      subst hge
      subst e88
      exact lp_seeB hS hpt C hQ 25 0 M1 (by omega) (by omega) ho (fun q hq => h1 q (by omega)) (fun q q1 q2 => by omega)
    · refine u_aload_n (pc := 52) C d_M_see_52 rfl ?_
      refine u_iconst (pc := 53) (v := 4) C d_M_see_53 (by decide) ?_
      refine u_iload_n (pc := 54) C d_M_see_54 rfl ?_
      refine u_iadd (pc := 55) C d_M_see_55 ?_
      refine u_iload_n (pc := 56) C d_M_see_56 rfl ?_
      refine u_aload_n (pc := 57) C d_M_see_57 rfl ?_
      refine u_getr (pc := 58) (r := 6) C d_M_see_58 fw_M_25 sR_0 rfl rfl ?_
      refine u_bipush (pc := 61) (v := 6) C d_M_see_61 (by decide) ?_
      refine u_iald (pc := 63) C d_M_see_63 sR_6 v6 ?_
      refine u_icmp_ge (pc := 64) (tgt := 79) C d_M_see_64 rfl (fun c64 => ?_) (fun c64 => ?_)
      · refine u_iconst (pc := 79) (v := 0) C d_M_see_79 (by decide) ?_
        refine u_iast (pc := 80) C d_M_see_80 (sS hpt) (vp4 (by rw [hin] at c49; omega)) ?_
        refine u_iinc (pc := 81) (v2 := 1) C d_M_see_81 rfl rfl (by decide) (fun x81 e81 L9 hL9 => ?_)
        obtain rfl : L9 = [some (.ref 0), some (.int (nI pt)), some (.ref (16 + pt)), some (.int x81), none, none] := hL9.symm
        refine u_goto (pc := 84) (tgt := 46) C d_M_see_84 rfl ?_
        obtain rfl : x81 = nI (i + 1) := by rw [e81, nI_succ]
        have hlt : i < 64 := by rw [hin] at c49; omega
        rw [cl6, hm, hhi] at c64
        refine ih (i + 1) _ (by omega) (by omega) (ho.trans ofsn) (fun q hq => ?_)
        rw [ix4 hlt, up_row]
        by_cases e : q = 4 + i
        · rw [e, pk_us, seeF_4 hlt, hh4, nI_clamp (by omega)]
          rw [if_neg (by omega)]
        · rw [pk_un e]
          exact h1 q (by omega)
      · refine u_aload_n (pc := 67) C d_M_see_67 rfl ?_
        refine u_getr (pc := 68) (r := 6) C d_M_see_68 fw_M_25 sR_0 rfl rfl ?_
        refine u_bipush (pc := 71) (v := 7) C d_M_see_71 (by decide) ?_
        refine u_iload_n (pc := 73) C d_M_see_73 rfl ?_
        refine u_iadd (pc := 74) C d_M_see_74 ?_
        refine u_iald (pc := 75) C d_M_see_75 sR_6 (vp7 (by rw [hin] at c49; omega)) ?_
        refine u_goto (pc := 76) (tgt := 80) C d_M_see_76 rfl ?_
        refine u_iast (pc := 80) C d_M_see_80 (sS hpt) (vp4 (by rw [hin] at c49; omega)) ?_
        refine u_iinc (pc := 81) (v2 := 1) C d_M_see_81 rfl rfl (by decide) (fun x81 e81 L9 hL9 => ?_)
        obtain rfl : L9 = [some (.ref 0), some (.int (nI pt)), some (.ref (16 + pt)), some (.int x81), none, none] := hL9.symm
        refine u_goto (pc := 84) (tgt := 46) C d_M_see_84 rfl ?_
        obtain rfl : x81 = nI (i + 1) := by rw [e81, nI_succ]
        have hlt : i < 64 := by rw [hin] at c49; omega
        rw [cl6, hm, hhi] at c64
        refine ih (i + 1) _ (by omega) (by omega) (ho.trans ofsn) (fun q hq => ?_)
        rw [ix4 hlt, up_row]
        by_cases e : q = 4 + i
        · rw [e, pk_us, seeF_4 hlt, hh4, nI_clamp (by omega)]
          rw [if_pos (by omega), ix7 hlt, hS1.2.2.2.2.2.1.2 i (by rw [hh4, nI_clamp (by omega)]; omega)]
        · rw [pk_un e]
          exact h1 q (by omega)
set_option maxRecDepth 20000 in
theorem c_M_see {cd : Nat → Nat → Int32} {n pt : Nat} {g : Gm} {tb : List Nat} {M : Mem} (hS : RS M cd n g tb) (hpt : pt < 201)  : Ct lyR y_M_see b_M_see 6 none 1 [.ref 0, .int (nI pt)] M (Pv fun M' => (∀ i, i < 116 → M'.1 (16 + pt) i = seeF n g i) ∧ OfR (snR pt) M M') := by
  refine Ct.ofG mx_M_see [some (.ref 0), some (.int (nI pt)), none, none, none, none] rfl rfl (Nat.le_of_ble_eq_true rfl) (fun κ C hQ => ?_)
  refine u_aload_n (pc := 0) C d_M_see_0 rfl ?_
  refine u_getr (pc := 1) (r := 15) C d_M_see_1 fw_M_40 sR_0 rfl rfl ?_
  refine u_iload_n (pc := 4) C d_M_see_4 rfl ?_
  refine u_aaldR (pc := 5) (r := (16 + pt)) C d_M_see_5 sR_15 (vp_in_nI hpt (by decide)) (seen_ix hpt) ?_
  refine u_astore_n (pc := 6) C d_M_see_6 rfl (fun L9 hL9 => ?_)
  obtain rfl : L9 = [some (.ref 0), some (.int (nI pt)), some (.ref (16 + pt)), none, none, none] := hL9.symm
  refine u_aload_n (pc := 7) C d_M_see_7 rfl ?_
  refine u_iconst (pc := 8) (v := 0) C d_M_see_8 (by decide) ?_
  refine u_aload_n (pc := 9) C d_M_see_9 rfl ?_
  refine u_getr (pc := 10) (r := 6) C d_M_see_10 fw_M_25 sR_0 rfl rfl ?_
  refine u_iconst (pc := 13) (v := 0) C d_M_see_13 (by decide) ?_
  refine u_iald (pc := 14) C d_M_see_14 sR_6 v0 ?_
  refine u_iast (pc := 15) C d_M_see_15 (sS hpt) w0 ?_
  refine u_aload_n (pc := 16) C d_M_see_16 rfl ?_
  refine u_iconst (pc := 17) (v := 1) C d_M_see_17 (by decide) ?_
  refine u_aload_n (pc := 18) C d_M_see_18 rfl ?_
  refine u_getr (pc := 19) (r := 6) C d_M_see_19 fw_M_25 sR_0 rfl rfl ?_
  refine u_iconst (pc := 22) (v := 1) C d_M_see_22 (by decide) ?_
  refine u_iald (pc := 23) C d_M_see_23 sR_6 v1 ?_
  refine u_iast (pc := 24) C d_M_see_24 (sS hpt) w1 ?_
  refine u_aload_n (pc := 25) C d_M_see_25 rfl ?_
  refine u_iconst (pc := 26) (v := 2) C d_M_see_26 (by decide) ?_
  refine u_aload_n (pc := 27) C d_M_see_27 rfl ?_
  refine u_getr (pc := 28) (r := 6) C d_M_see_28 fw_M_25 sR_0 rfl rfl ?_
  refine u_iconst (pc := 31) (v := 3) C d_M_see_31 (by decide) ?_
  refine u_iald (pc := 32) C d_M_see_32 sR_6 v3 ?_
  refine u_iast (pc := 33) C d_M_see_33 (sS hpt) w2 ?_
  refine u_aload_n (pc := 34) C d_M_see_34 rfl ?_
  refine u_iconst (pc := 35) (v := 3) C d_M_see_35 (by decide) ?_
  refine u_aload_n (pc := 36) C d_M_see_36 rfl ?_
  refine u_getr (pc := 37) (r := 6) C d_M_see_37 fw_M_25 sR_0 rfl rfl ?_
  refine u_bipush (pc := 40) (v := 6) C d_M_see_40 (by decide) ?_
  refine u_iald (pc := 42) C d_M_see_42 sR_6 v6 ?_
  refine u_iast (pc := 43) C d_M_see_43 (sS hpt) w3 ?_
  refine u_iconst (pc := 44) (v := 0) C d_M_see_44 (by decide) ?_
  refine u_istore_n (pc := 45) C d_M_see_45 rfl (fun x45 e45 L9 hL9 => ?_)
  obtain rfl : L9 = [some (.ref 0), some (.int (nI pt)), some (.ref (16 + pt)), some (.int x45), none, none] := hL9.symm
  subst e45
  have ne6 : (6 : Nat) ≠ 16 + pt := by omega
  refine lp_seeA hS hpt C hQ 65 0 _ (by omega) (by omega) (((ofsn.trans ofsn).trans ofsn).trans ofsn) (fun q hq => ?_)
  obtain ⟨l1, l2⟩ := hS.2.2.2.1
  obtain ⟨b1, b2, b3, b4, b5⟩ := hS.2.2.2.2.1
  simp only [cl0, cl1, cl2, cl3, cl6, up_ne ne6]
  rcases (show q = 0 ∨ q = 1 ∨ q = 2 ∨ q = 3 by omega) with z | z | z | z
  · subst z
    rw [up_j (by decide), up_j (by decide), up_j (by decide), up_row, pk_us]; exact l1
  · subst z
    rw [up_j (by decide), up_j (by decide), up_row, pk_us]; exact l2
  · subst z
    rw [up_j (by decide), up_row, pk_us]; exact b2
  · subst z
    rw [up_row, pk_us]; exact b5
