/-! the class's layers: the order -/
theorem fre_waits {cd : Nat → Nat → Int32} {op : List Nat} {c v w : Nat} (hm : c ∈ op) (hnd : op.Nodup) (hcv : cd 2 c = nI v) (hcw : cd 3 c = nI w) (hv : v < 4) (hw : w < 4) (hl : op.length ≤ 24) :
    ((cd 0 c = 3 ∨ cd 0 c = 4) ∧ (if v = w then (1 : Int32) else 0) < nI (cnt cd op w)) ↔ fre cd op c = false := by
  have h1 : (if v = w then (1 : Int32) else 0) < nI (cnt cd op w) ↔ 0 < cnt cd (op.erase c) w := by
    rw [cnt_erase hm hcv hw hv]
    have hb : cnt cd (op.erase c) w ≤ 24 := Nat.le_trans cnt_le (by rw [List.length_erase_of_mem hm]; omega)
    by_cases e : v = w
    · rw [if_pos e, if_pos e.symm]
      have := nI_ltI (a := 1) (b := cnt cd (op.erase c) w + 1) (by omega) (by omega)
      rw [show (1 : Int32) = nI 1 from rfl, this]
      omega
    · rw [if_neg e, if_neg (fun q => e q.symm)]
      have := nI_ltI (a := 0) (b := cnt cd (op.erase c) w + 0) (by omega) (by omega)
      rw [show (0 : Int32) = nI 0 from rfl, this]
      omega
  rw [h1]
  have h2 : 0 < cnt cd (op.erase c) w ↔ ∃ o, o ∈ op ∧ o ≠ c ∧ cd 2 o = nI w := by
    unfold cnt
    rw [List.length_pos_iff_exists_mem]
    constructor
    · rintro ⟨o, ho⟩
      obtain ⟨a, b⟩ := List.mem_filter.mp ho
      obtain ⟨a1, a2⟩ := (List.Nodup.mem_erase_iff hnd).mp a
      exact ⟨o, a2, a1, by simpa using b⟩
    · rintro ⟨o, a, b, d⟩
      exact ⟨o, List.mem_filter.mpr ⟨(List.Nodup.mem_erase_iff hnd).mpr ⟨b, a⟩, by simpa using d⟩⟩
  rw [h2]
  unfold fre
  rw [Bool.not_eq_false', List.any_eq_true]
  constructor
  · rintro ⟨hk, o, a, b, d⟩
    refine ⟨o, a, ?_⟩
    unfold hng
    rw [Bool.and_eq_true, Bool.and_eq_true, Bool.or_eq_true, decide_eq_true_eq, decide_eq_true_eq, decide_eq_true_eq, decide_eq_true_eq]
    exact ⟨⟨fun q => b q.symm, hk⟩, by rw [hcw, d]⟩
  · rintro ⟨o, a, h⟩
    unfold hng at h
    rw [Bool.and_eq_true, Bool.and_eq_true, Bool.or_eq_true, decide_eq_true_eq, decide_eq_true_eq, decide_eq_true_eq, decide_eq_true_eq] at h
    exact ⟨h.1.2, o, a, fun q => h.1.1 q.symm, by rw [← h.2, hcw]⟩
theorem getD_get {l : List Nat} {i : Nat} (h : i < l.length) : l.getD i 0 = l[i] := by
  rw [List.getD_eq_getElem?_getD, List.getElem?_eq_getElem h]; rfl
theorem nxt_at {cd : Nat → Nat → Int32} {op : List Nat} {i : Nat} (hi : i < op.length) (h1 : ∀ j, j < i → fre cd op (op.getD j 0) = false) (h2 : fre cd op (op.getD i 0) = true) : nxt cd op = some (op.getD i 0) := by
  have : op.find? (fre cd op) = some (op.getD i 0) := by
    rw [List.find?_eq_some_iff_getElem]
    refine ⟨h2, i, hi, (getD_get hi).symm, fun j hj => ?_⟩
    have := h1 j hj
    rw [getD_get (by omega)] at this
    rw [this]; rfl
  rw [nxt, this]; rfl
theorem nxt_0 {cd : Nat → Nat → Int32} {op : List Nat} (hi : 0 < op.length) (h1 : ∀ j, j < op.length → fre cd op (op.getD j 0) = false) : nxt cd op = some (op.getD 0 0) := by
  have : op.find? (fre cd op) = none := by
    rw [List.find?_eq_none]
    intro x hx
    obtain ⟨j, hj, rfl⟩ := List.mem_iff_getElem.mp hx
    have := h1 j hj
    rw [getD_get hj] at this
    rw [this]; decide
  rw [nxt, this, getD_get hi]
  cases op with
  | nil => simp at hi
  | cons a l => rfl
theorem erase_get {l : List Nat} (h : l.Nodup) : ∀ i (hi : i < l.length), l.erase l[i] = l.eraseIdx i := by
  induction l with
  | nil => intro i hi; simp at hi
  | cons a l ih =>
    intro i hi
    obtain ⟨h1, h2⟩ := List.nodup_cons.mp h
    cases i with
    | zero => simp
    | succ i =>
      have hi2 : i < l.length := by simpa using hi
      have hne : a ≠ l[i] := fun q => h1 (q ▸ List.getElem_mem hi2)
      show (a :: l).erase l[i] = a :: l.eraseIdx i
      rw [List.erase_cons_tail (by simpa using hne), ih h2 i hi2]
def S34 (b p : Nat) : Prop := p = yp b ∨ p = yp b + 3 ∨ p = yp b + 4
theorem S34_y {b p : Nat} (h : S34 b p) : yblk b p := by
  rcases h with rfl | rfl | rfl
  · exact yblk0
  · exact yblkj 3 (by decide)
  · exact yblkj 4 (by decide)
/-- the row of open layers while one is taken out of place i0 -/
def SHI (b : Nat) (op : List Nat) (i0 j : Nat) (M M2 : Mem) : Prop := (∀ q, q ≠ yp b + 3 → M2.1 q = M.1 q) ∧ M2.2 = M.2 ∧ ∀ t, t < op.length → M2.1 (yp b + 3) t = nI (if t < i0 then op.getD t 0 else if t + 1 < j then op.getD (t + 1) 0 else op.getD t 0)
set_option maxRecDepth 20000 in
theorem lp_tn2 {κ : KX} {b : Nat} {cd : Nat → Nat → Int32} {M : Mem} (hb : b < 2) {n : Nat} {op : List Nat} (hcd : CDm M cd) (hW : WFc cd n) (hn : n ≤ 24) (hL : LYo M b cd op) (hnd : op.Nodup) (hbo : ∀ d, d ∈ op → d < n) (h0 : 0 < op.length) (hl : op.length ≤ 24) (C : Cx κ lyC y_Y_takeNext.cls b_Y_takeNext 4 (some .int) 2) (hQ : ∀ v M', Pi (fun r M' => ∃ c, nxt cd op = some c ∧ c ∈ op ∧ r = nI c ∧ LYo M' b cd (op.erase c) ∧ Off (S34 b) M M' ∧ M'.1 (yp b) 3 = M.1 (yp b) 3) v M' → KQ κ v M') {i0 c v : Nat} (hi0 : i0 < op.length) (hci : op.getD i0 0 = c) (hx : nxt cd op = some c) (hv : v < 4) (hcv : cd 2 c = nI v) : ∀ (f j : Nat) (M2 : Mem), i0 < j → j ≤ op.length → op.length - j < f → SHI b op i0 j M M2 → G κ lyC 54 [some (.ref (yp b)), some (.int (nI i0)), some (.int (nI c)), some (.int (nI j))] [] M2 := by
  have hcm : c ∈ op := by rw [← hci]; exact getD_mem hi0
  have hc24 : c < 24 := Nat.lt_of_lt_of_le (hbo c hcm) hn
  intro f
  induction f with
  | zero => intro j _ _ _ h; omega
  | succ f ih =>
    intro j M2 hj1 hj2 hf hS
    have hM0 : M2.1 (yp b) = M.1 (yp b) := hS.1 _ (by omega)
    have hM4 : M2.1 (yp b + 4) = M.1 (yp b + 4) := hS.1 _ (by omega)
    have hin : nI op.length ≤ nI j ↔ op.length ≤ j := nI_leI (by omega) (by omega)
    have ho : Off (S34 b) M M2 := fun q hq => ⟨hS.1 q (fun z => hq (Or.inr (Or.inl z))), by rw [hS.2.1]⟩
    have hcd2 : CDm M2 cd := hcd.off ho (fun p h1 h2 z => y_cd h1 h2 (S34_y z))
    refine u_iload_n (pc := 54) C d_Y_takeNext_54 rfl ?_
    refine u_aload_n (pc := 55) C d_Y_takeNext_55 rfl ?_
    refine u_geti (pc := 56) C d_Y_takeNext_56 fw_Y_45 (shY0 hb) rfl ?_
    refine u_icmp_ge (pc := 59) (tgt := 86) C d_Y_takeNext_59 rfl (fun c59 => ?_) (fun c59 => ?_)
    · refine u_aload_n (pc := 86) C d_Y_takeNext_86 rfl ?_
      refine u_dup (pc := 87) C d_Y_takeNext_87 rfl ?_
      refine u_geti (pc := 88) C d_Y_takeNext_88 fw_Y_45 (shY0 hb) rfl ?_
      refine u_iconst (pc := 91) (v := 1) C d_Y_takeNext_91 (by decide) ?_
      refine u_isub (pc := 92) C d_Y_takeNext_92 ?_
      refine u_put (pc := 93) C d_Y_takeNext_93 fw_Y_45 (shY0 hb) rfl (Or.inl rfl) ?_
      refine u_aload_n (pc := 96) C d_Y_takeNext_96 rfl ?_
      refine u_iload_n (pc := 97) C d_Y_takeNext_97 rfl ?_
      refine u_iconst (pc := 98) (v := (-1)) C d_Y_takeNext_98 (by decide) ?_
      have hcd3 : CDm (up M2 (yp b) 6 (M2.1 (yp b) 6 - 1)) cd := hcd2.off (S := S34 b) (Off.up (Or.inl rfl)) (fun p h1 h2 z => y_cd h1 h2 (S34_y z))
      refine u_callVv (pc := 99) C d_Y_takeNext_99 mx_Y_countOn mw_Y_79 (shY0 hb) rfl (c_Y_countOn hb hcd3 hc24 hv hcv) rfl rfl (Nat.le_of_ble_eq_true rfl) (fun M99 q99 => ?_)
      have q99 := q99.symm
      subst q99
      refine u_iload_n (pc := 102) C d_Y_takeNext_102 rfl ?_
      refine u_iret (pc := 103) C d_Y_takeNext_103 (hQ _ _ ⟨_, rfl, ?_⟩)
      have hj : j = op.length := by rw [hM0, hL.1, hin] at c59; omega
      subst hj
      have hlen : (op.erase c).length = op.length - 1 := List.length_erase_of_mem hcm
      have hei : op.erase c = op.eraseIdx i0 := by
        rw [← hci, getD_get hi0]
        exact erase_get hnd i0 hi0
      refine ⟨c, hx, hcm, rfl, ⟨?_, fun t ht => ?_, fun u hu => ?_⟩, ?_, ?_⟩
      · rw [up_ne (by omega), hM0, hL.1, hlen, nI_sub1 h0]
        simp [up]
      · rw [up_ne (by omega), up_ne (by omega), hS.2.2 t (by omega), hei]
        congr 1
        rw [List.getD_eq_getElem?_getD (l := op.eraseIdx i0), List.getElem?_eraseIdx]
        by_cases e : t < i0
        · rw [if_pos e, if_pos e, List.getD_eq_getElem?_getD]
        · rw [if_neg e, if_neg e, if_pos (by omega), List.getD_eq_getElem?_getD]
      · have hce := cnt_erase hcm hcv hu hv
        have h4 := hL.2.2 u hu
        by_cases e : u = v
        · subst e
          rw [if_pos rfl] at hce
          simp [up, hM4, h4, hce, pk_m1]
        · rw [if_neg e] at hce
          simp [up, e, hM4, h4, hce]
      · exact (ho.trans (Off.up (Or.inl rfl))).trans (Off.up (Or.inr (Or.inr rfl)))
      · rw [up_ne (by omega)]
        simp [up, hM0]
    · refine u_aload_n (pc := 62) C d_Y_takeNext_62 rfl ?_
      refine u_getr (pc := 63) (r := (yp b + 3)) C d_Y_takeNext_63 fw_Y_18 (shY0 hb) rfl (rf_Y_4 hb) ?_
      refine u_iload_n (pc := 66) C d_Y_takeNext_66 rfl ?_
      refine u_iconst (pc := 67) (v := 1) C d_Y_takeNext_67 (by decide) ?_
      refine u_isub (pc := 68) C d_Y_takeNext_68 ?_
      refine u_aload_n (pc := 69) C d_Y_takeNext_69 rfl ?_
      refine u_getr (pc := 70) (r := (yp b + 3)) C d_Y_takeNext_70 fw_Y_18 (shY0 hb) rfl (rf_Y_4 hb) ?_
      refine u_iload_n (pc := 73) C d_Y_takeNext_73 rfl ?_
      refine u_callSi (pc := 74) C d_Y_takeNext_74 mx_L_at mw_Y_66 (c_L_at (shY3 hb)) rfl rfl (Nat.le_of_ble_eq_true rfl) (fun r74 M74 q74 => ?_)
      obtain ⟨e74, q74⟩ := q74
      have q74 := q74.symm
      subst q74
      refine u_callSv (pc := 77) C d_Y_takeNext_77 mx_L_put mw_Y_52 (c_L_put (shY3 hb)) rfl rfl (Nat.le_of_ble_eq_true rfl) (fun M77 q77 => ?_)
      have q77 := q77.symm
      subst q77
      refine u_iinc (pc := 80) (v2 := 1) C d_Y_takeNext_80 rfl rfl (by decide) (fun x80 e80 L9 hL9 => ?_)
      obtain rfl : L9 = [some (.ref (yp b)), some (.int (nI i0)), some (.int (nI c)), some (.int x80)] := hL9.symm
      refine u_goto (pc := 83) (tgt := 54) C d_Y_takeNext_83 rfl ?_
      obtain rfl : x80 = nI (j + 1) := by rw [e80, nI_succ]
      have hlt : j < op.length := by rw [hM0, hL.1, hin] at c59; omega
      rw [atF_in (by omega) (by decide), hS.2.2 j hlt, if_neg (by omega), if_neg (by omega)] at e74
      rw [nI_sub1 (by omega), putF_in (by omega) (by decide), e74]
      refine ih (j + 1) _ (by omega) (by omega) (by omega) ⟨fun q hq => by rw [up_ne hq]; exact hS.1 q hq, hS.2.1, fun t ht => ?_⟩
      by_cases e : t = j - 1
      · subst e
        rw [if_neg (by omega), if_pos (by omega), show j - 1 + 1 = j by omega]
        simp [up]
      · rw [show (up M2 (yp b + 3) (j - 1) (nI (op.getD j 0))).1 (yp b + 3) t = M2.1 (yp b + 3) t from if_neg (fun q => e q.2), hS.2.2 t ht]
        by_cases e2 : t < i0
        · rw [if_pos e2, if_pos e2]
        · rw [if_neg e2, if_neg e2]
          by_cases e3 : t + 1 < j
          · rw [if_pos e3, if_pos (by omega)]
          · rw [if_neg e3, if_neg (by omega)]
set_option maxRecDepth 20000 in
theorem lp_tn41 {κ : KX} {b : Nat} {cd : Nat → Nat → Int32} {M : Mem} (hb : b < 2) {n : Nat} {op : List Nat} (hcd : CDm M cd) (hW : WFc cd n) (hn : n ≤ 24) (hL : LYo M b cd op) (hnd : op.Nodup) (hbo : ∀ d, d ∈ op → d < n) (h0 : 0 < op.length) (hl : op.length ≤ 24) (C : Cx κ lyC y_Y_takeNext.cls b_Y_takeNext 4 (some .int) 2) (hQ : ∀ v M', Pi (fun r M' => ∃ c, nxt cd op = some c ∧ c ∈ op ∧ r = nI c ∧ LYo M' b cd (op.erase c) ∧ Off (S34 b) M M' ∧ M'.1 (yp b) 3 = M.1 (yp b) 3) v M' → KQ κ v M') {i0 : Nat} (hi0 : i0 < op.length) (hx : nxt cd op = some (op.getD i0 0)) : G κ lyC 41 [some (.ref (yp b)), some (.int (nI i0)), none, none] [] M := by
  refine u_aload_n (pc := 41) C d_Y_takeNext_41 rfl ?_
  refine u_getr (pc := 42) (r := (yp b + 3)) C d_Y_takeNext_42 fw_Y_18 (shY0 hb) rfl (rf_Y_4 hb) ?_
  refine u_iload_n (pc := 45) C d_Y_takeNext_45 rfl ?_
  refine u_callSi (pc := 46) C d_Y_takeNext_46 mx_L_at mw_Y_66 (c_L_at (shY3 hb)) rfl rfl (Nat.le_of_ble_eq_true rfl) (fun r46 M46 q46 => ?_)
  obtain ⟨e46, q46⟩ := q46
  have q46 := q46.symm
  subst q46
  refine u_istore_n (pc := 49) C d_Y_takeNext_49 rfl (fun x49 e49 L9 hL9 => ?_)
  obtain rfl : L9 = [some (.ref (yp b)), some (.int (nI i0)), some (.int x49), none] := hL9.symm
  refine u_iload_n (pc := 50) C d_Y_takeNext_50 rfl ?_
  refine u_iconst (pc := 51) (v := 1) C d_Y_takeNext_51 (by decide) ?_
  refine u_iadd (pc := 52) C d_Y_takeNext_52 ?_
  refine u_istore_n (pc := 53) C d_Y_takeNext_53 rfl (fun x53 e53 L9 hL9 => ?_)
  obtain rfl : L9 = [some (.ref (yp b)), some (.int (nI i0)), some (.int x49), some (.int x53)] := hL9.symm
  rw [atF_in (by omega) (by decide), hL.2.1 i0 hi0] at e46
  obtain rfl : x53 = nI (i0 + 1) := by rw [e53, nI_succ]
  rw [e46] at e49
  subst e49
  obtain ⟨-, -, ⟨v, hv, hcv⟩, -⟩ := hW _ (hbo _ (getD_mem hi0))
  refine lp_tn2 hb hcd hW hn hL hnd hbo h0 hl C hQ hi0 rfl hx hv hcv (op.length + 1) (i0 + 1) _ (by omega) (by omega) (by omega) ⟨fun _ _ => rfl, rfl, fun t ht => ?_⟩
  by_cases e : t < i0
  · rw [if_pos e, hL.2.1 t ht]
  · rw [if_neg e, if_neg (by omega), hL.2.1 t ht]
set_option maxRecDepth 20000 in
theorem lp_tn1 {κ : KX} {b : Nat} {cd : Nat → Nat → Int32} {M : Mem} (hb : b < 2) {n : Nat} {op : List Nat} (hcd : CDm M cd) (hW : WFc cd n) (hn : n ≤ 24) (hL : LYo M b cd op) (hnd : op.Nodup) (hbo : ∀ d, d ∈ op → d < n) (h0 : 0 < op.length) (hl : op.length ≤ 24) (C : Cx κ lyC y_Y_takeNext.cls b_Y_takeNext 4 (some .int) 2) (hQ : ∀ v M', Pi (fun r M' => ∃ c, nxt cd op = some c ∧ c ∈ op ∧ r = nI c ∧ LYo M' b cd (op.erase c) ∧ Off (S34 b) M M' ∧ M'.1 (yp b) 3 = M.1 (yp b) 3) v M' → KQ κ v M') : ∀ (f i : Nat), i ≤ op.length → op.length - i < f → (∀ j, j < i → fre cd op (op.getD j 0) = false) → G κ lyC 2 [some (.ref (yp b)), some (.int (nI i)), none, none] [] M := by
  intro f
  induction f with
  | zero => intro i _ h; omega
  | succ f ih =>
    intro i hi hf hw
    have hin : nI op.length ≤ nI i ↔ op.length ≤ i := nI_leI (by omega) (by omega)
    have hlt31 : nI i < nI op.length ↔ i < op.length := nI_ltI (by omega) (by omega)
    refine u_iload_n (pc := 2) C d_Y_takeNext_2 rfl ?_
    refine u_aload_n (pc := 3) C d_Y_takeNext_3 rfl ?_
    refine u_geti (pc := 4) C d_Y_takeNext_4 fw_Y_45 (shY0 hb) rfl ?_
    refine u_icmp_ge (pc := 7) (tgt := 31) C d_Y_takeNext_7 rfl (fun c7 => ?_) (fun c7 => ?_)
    · refine u_iload_n (pc := 31) C d_Y_takeNext_31 rfl ?_
      refine u_aload_n (pc := 32) C d_Y_takeNext_32 rfl ?_
      refine u_geti (pc := 33) C d_Y_takeNext_33 fw_Y_45 (shY0 hb) rfl ?_
      refine u_icmp_lt (pc := 36) (tgt := 41) C d_Y_takeNext_36 rfl (fun c36 => ?_) (fun c36 => ?_)
      · rw [hL.1, hlt31] at c36
        rw [hL.1, hin] at c7
        omega
      · refine u_iconst (pc := 39) (v := 0) C d_Y_takeNext_39 (by decide) ?_
        refine u_istore_n (pc := 40) C d_Y_takeNext_40 rfl (fun x40 e40 L9 hL9 => ?_)
        obtain rfl : L9 = [some (.ref (yp b)), some (.int x40), none, none] := hL9.symm
        rw [hL.1, hlt31] at c36
        subst e40
        have hi2 : i = op.length := by omega
        exact lp_tn41 hb hcd hW hn hL hnd hbo h0 hl C hQ (i0 := 0) h0 (nxt_0 h0 (fun j hj => hw j (by omega)))
    · refine u_aload_n (pc := 10) C d_Y_takeNext_10 rfl ?_
      refine u_aload_n (pc := 11) C d_Y_takeNext_11 rfl ?_
      refine u_getr (pc := 12) (r := (yp b + 3)) C d_Y_takeNext_12 fw_Y_18 (shY0 hb) rfl (rf_Y_4 hb) ?_
      refine u_iload_n (pc := 15) C d_Y_takeNext_15 rfl ?_
      refine u_callSi (pc := 16) C d_Y_takeNext_16 mx_L_at mw_Y_66 (c_L_at (shY3 hb)) rfl rfl (Nat.le_of_ble_eq_true rfl) (fun r16 M16 q16 => ?_)
      obtain ⟨e16, q16⟩ := q16
      have q16 := q16.symm
      subst q16
      have hlt : i < op.length := by rw [hL.1, hin] at c7; omega
      rw [atF_in (by omega) (by decide), hL.2.1 i hlt] at e16
      subst e16
      have hm := getD_mem hlt
      have hc24 : op.getD i 0 < 24 := Nat.lt_of_lt_of_le (hbo _ hm) hn
      obtain ⟨-, -, ⟨v, hv, hcv⟩, ⟨w, hw4, hcw⟩, -⟩ := hW _ (hbo _ hm)
      have hfw := fre_waits hm hnd hcv hcw hv hw4 hl
      refine u_callVi (pc := 19) C d_Y_takeNext_19 mx_Y_waits mw_Y_86 (shY0 hb) rfl (c_Y_waits hb hcd hc24 hv hw4 hcv hcw) rfl rfl (Nat.le_of_ble_eq_true rfl) (fun r19 M19 q19 => ?_)
      obtain ⟨e19, q19⟩ := q19
      have q19 := q19.symm
      subst q19
      refine u_if_eq (pc := 22) (tgt := 31) C d_Y_takeNext_22 rfl (fun c22 => ?_) (fun c22 => ?_)
      · refine u_iload_n (pc := 31) C d_Y_takeNext_31 rfl ?_
        refine u_aload_n (pc := 32) C d_Y_takeNext_32 rfl ?_
        refine u_geti (pc := 33) C d_Y_takeNext_33 fw_Y_45 (shY0 hb) rfl ?_
        refine u_icmp_lt (pc := 36) (tgt := 41) C d_Y_takeNext_36 rfl (fun c36 => ?_) (fun c36 => ?_)
        · rw [hL.1, hlt31] at c36
          have hlt : i < op.length := c36
          rw [hL.2.2 w hw4] at e19
          have hfr : fre cd op (op.getD i 0) = true := by
            rcases Bool.eq_false_or_eq_true (fre cd op (op.getD i 0)) with q | q
            · exact q
            · exact absurd ((e19.trans (if_pos (hfw.mpr q))).symm.trans c22) (by decide)
          exact lp_tn41 hb hcd hW hn hL hnd hbo h0 hl C hQ c36 (nxt_at c36 hw hfr)
        · refine u_iconst (pc := 39) (v := 0) C d_Y_takeNext_39 (by decide) ?_
          refine u_istore_n (pc := 40) C d_Y_takeNext_40 rfl (fun x40 e40 L9 hL9 => ?_)
          obtain rfl : L9 = [some (.ref (yp b)), some (.int x40), none, none] := hL9.symm
          rw [hL.1, hlt31] at c36
          subst e40
          have hi2 : i = op.length := by omega
          exact lp_tn41 hb hcd hW hn hL hnd hbo h0 hl C hQ (i0 := 0) h0 (nxt_0 h0 (fun j hj => hw j (by omega)))
      · refine u_iinc (pc := 25) (v2 := 1) C d_Y_takeNext_25 rfl rfl (by decide) (fun x25 e25 L9 hL9 => ?_)
        obtain rfl : L9 = [some (.ref (yp b)), some (.int x25), none, none] := hL9.symm
        refine u_goto (pc := 28) (tgt := 2) C d_Y_takeNext_28 rfl ?_
        obtain rfl : x25 = nI (i + 1) := by rw [e25, nI_succ]
        rw [hL.2.2 w hw4] at e19
        have hfr : fre cd op (op.getD i 0) = false := hfw.mp (by
          rcases Classical.em ((cd 0 (op.getD i 0) = 3 ∨ cd 0 (op.getD i 0) = 4) ∧ (if v = w then (1 : Int32) else 0) < nI (cnt cd op w)) with q | q
          · exact q
          · exact absurd (e19.trans (if_neg q)) c22)
        refine ih (i + 1) (by omega) (by omega) (fun j hj => ?_)
        by_cases e : j = i
        · subst e; exact hfr
        · exact hw j (by omega)
set_option maxRecDepth 20000 in
theorem c_Y_takeNext {b : Nat} {cd : Nat → Nat → Int32} {M : Mem} (hb : b < 2) {n : Nat} {op : List Nat} (hcd : CDm M cd) (hW : WFc cd n) (hn : n ≤ 24) (hL : LYo M b cd op) (hnd : op.Nodup) (hbo : ∀ d, d ∈ op → d < n) (h0 : 0 < op.length) (hl : op.length ≤ 24) : Ct lyC y_Y_takeNext b_Y_takeNext 4 (some .int) 2 [.ref (yp b)] M (Pi fun r M' => ∃ c, nxt cd op = some c ∧ c ∈ op ∧ r = nI c ∧ LYo M' b cd (op.erase c) ∧ Off (S34 b) M M' ∧ M'.1 (yp b) 3 = M.1 (yp b) 3) := by
  refine Ct.ofG mx_Y_takeNext [some (.ref (yp b)), none, none, none] rfl rfl (Nat.le_of_ble_eq_true rfl) (fun κ C hQ => ?_)
  refine u_iconst (pc := 0) (v := 0) C d_Y_takeNext_0 (by decide) ?_
  refine u_istore_n (pc := 1) C d_Y_takeNext_1 rfl (fun x1 e1 L9 hL9 => ?_)
  obtain rfl : L9 = [some (.ref (yp b)), some (.int x1), none, none] := hL9.symm
  subst e1
  exact lp_tn1 hb hcd hW hn hL hnd hbo h0 hl C hQ (op.length + 1) 0 (by omega) (by omega) (fun j hj => by omega)
def LYv (M : Mem) (b : Nat) (ord : List Nat) (vs : Nat → Int32) : Prop := M.1 (yp b) 3 = nI ord.length ∧ (∀ i, i < ord.length → M.1 (yp b + 2) i = nI (ord.getD i 0)) ∧ ∀ v, v < 4 → M.1 (yp b + 1) v = vs v
set_option maxRecDepth 20000 in
theorem lp_wo {κ : KX} {b : Nat} {cd : Nat → Nat → Int32} {M : Mem} (hb : b < 2) {n k : Nat} (hcd : CDm M cd) (hW : WFc cd n) (hn : n ≤ 24) (C : Cx κ lyC y_Y_workOut.cls b_Y_workOut 4 none 3) : ∀ (f : Nat) (op ord0 : List Nat) (vs : Nat → Int32) (M1 : Mem), op.length < f → Off (yblk b) M M1 → LYo M1 b cd op → LYv M1 b ord0 vs → op.Nodup → (∀ d, d ∈ op → d < n) → ord0.length + op.length ≤ 24 →  (∀ v M', Pv (fun M' => LYv M' b (ord0 ++ ordr cd op.length op) ((ordr cd op.length op).foldl (uselay cd) vs) ∧ Off (yblk b) M M') v M' → KQ κ v M') → G κ lyC 26 [some (.ref (yp b)), some (.ref (gp k)), some (.int (nI op.length)), none] [] M1 := by
  intro f
  induction f with
  | zero => intro op _ _ _ h; omega
  | succ f ih =>
    intro op ord0 vs M1 hf ho hL hV hnd hbo hl hQ
    have hcd1 : CDm M1 cd := hcd.off ho (fun p h1 h2 => y_cd h1 h2)
    refine u_iload_n (pc := 26) C d_Y_workOut_26 rfl ?_
    refine u_if_le (pc := 27) (tgt := 68) C d_Y_workOut_27 rfl (fun c27 => ?_) (fun c27 => ?_)
    · refine u_vret (pc := 68) C d_Y_workOut_68 (hQ _ _ ⟨rfl, ?_⟩)
      have hz : op = [] := by
        rcases Nat.eq_zero_or_pos op.length with z | z
        · exact List.length_eq_zero_iff.mp z
        · exact absurd c27 (nI_nle z (by omega))
      subst hz
      simp only [List.length_nil, ordr, List.append_nil, List.foldl_nil]
      exact ⟨hV, ho⟩
    · refine u_aload_n (pc := 30) C d_Y_workOut_30 rfl ?_
      have h0 : 0 < op.length := by
        rcases Nat.eq_zero_or_pos op.length with z | z
        · rw [z] at c27; exact absurd (show nI 0 ≤ (0 : Int32) by decide) c27
        · exact z
      refine u_callVi (pc := 31) C d_Y_workOut_31 mx_Y_takeNext mw_Y_48 (shY0 hb) rfl (c_Y_takeNext hb hcd1 hW hn hL hnd hbo h0 (by omega)) rfl rfl (Nat.le_of_ble_eq_true rfl) (fun r31 M31 q31 => ?_)
      obtain ⟨c, hx, hcm, e31, hL2, ho2, h32⟩ := q31
      refine u_istore_n (pc := 34) C d_Y_workOut_34 rfl (fun x34 e34 L9 hL9 => ?_)
      obtain rfl : L9 = [some (.ref (yp b)), some (.ref (gp k)), some (.int (nI op.length)), some (.int x34)] := hL9.symm
      refine u_aload_n (pc := 35) C d_Y_workOut_35 rfl ?_
      refine u_getr (pc := 36) (r := (yp b + 2)) C d_Y_workOut_36 fw_Y_15 (shY0 hb) rfl (rf_Y_2 hb) ?_
      refine u_aload_n (pc := 39) C d_Y_workOut_39 rfl ?_
      refine u_geti (pc := 40) C d_Y_workOut_40 fw_Y_41 (shY0 hb) rfl ?_
      refine u_iload_n (pc := 43) C d_Y_workOut_43 rfl ?_
      refine u_callSv (pc := 44) C d_Y_workOut_44 mx_L_put mw_Y_52 (c_L_put (shY2 hb)) rfl rfl (Nat.le_of_ble_eq_true rfl) (fun M44 q44 => ?_)
      have q44 := q44.symm
      subst q44
      refine u_aload_n (pc := 47) C d_Y_workOut_47 rfl ?_
      refine u_dup (pc := 48) C d_Y_workOut_48 rfl ?_
      refine u_geti (pc := 49) C d_Y_workOut_49 fw_Y_41 (shY0 hb) rfl ?_
      refine u_iconst (pc := 52) (v := 1) C d_Y_workOut_52 (by decide) ?_
      refine u_iadd (pc := 53) C d_Y_workOut_53 ?_
      refine u_put (pc := 54) C d_Y_workOut_54 fw_Y_41 (shY0 hb) rfl (Or.inl rfl) ?_
      refine u_aload_n (pc := 57) C d_Y_workOut_57 rfl ?_
      refine u_iload_n (pc := 58) C d_Y_workOut_58 rfl ?_
      subst e34
      subst e31
      have hc24 : c < 24 := Nat.lt_of_lt_of_le (hbo c hcm) hn
      obtain ⟨-, -, ⟨v, hv, hcv⟩, ⟨w, hw, hcw⟩, -⟩ := hW c (hbo c hcm)
      have h3o : M31.1 (yp b) 3 = nI ord0.length := by rw [h32, hV.1]
      refine u_mem (by rw [h3o, putF_in (by omega) (by decide), up_ne (by omega), h3o]) ?_
      have hcd3 : CDm (up (up M31 (yp b + 2) ord0.length (nI c)) (yp b) 3 (nI ord0.length + 1)) cd := (hcd1.off ho2 (fun p h1 h2 z => y_cd h1 h2 (S34_y z))).off (S := yblk b) ((Off.up (yblkj 2 (by decide))).trans (Off.up yblk0)) (fun p h1 h2 => y_cd h1 h2)
      refine u_callVv (pc := 59) C d_Y_workOut_59 mx_Y_use mw_Y_56 (shY0 hb) rfl (c_Y_use hb hcd3 hc24 hv hw hcv hcw) rfl rfl (Nat.le_of_ble_eq_true rfl) (fun M59 q59 => ?_)
      have q59 := q59.symm
      subst q59
      refine u_iinc (pc := 62) (v2 := (-1)) C d_Y_workOut_62 rfl rfl (by decide) (fun x62 e62 L9 hL9 => ?_)
      obtain rfl : L9 = [some (.ref (yp b)), some (.ref (gp k)), some (.int x62), some (.int (nI c))] := hL9.symm
      refine u_goto (pc := 65) (tgt := 26) C d_Y_workOut_65 rfl ?_
      have hlen : (op.erase c).length = op.length - 1 := List.length_erase_of_mem hcm
      obtain rfl : x62 = nI (op.erase c).length := by rw [e62, hlen, show (-1 : Int32) = -1 from rfl, ← pk_m1 (op.length - 1), show op.length - 1 + 1 = op.length by omega]
      refine u_drop 3 rfl ?_
      have eord : ordr cd op.length op = c :: ordr cd (op.erase c).length (op.erase c) := by
        rw [hlen]
        obtain ⟨q, hq⟩ : ∃ q, op.length = q + 1 := ⟨op.length - 1, by omega⟩
        rw [hq, ordr, hx]
        rfl
      have hr1 : ∀ (X : Nat), X ≠ yp b → X ≠ yp b + 3 → X ≠ yp b + 4 → M31.1 X = M1.1 X := fun X a1 a2 a3 => (ho2 X (fun z => by rcases z with z | z | z <;> omega)).1
      have hv1 : ∀ u, u < 4 → (up (up M31 (yp b + 2) ord0.length (nI c)) (yp b) 3 (nI ord0.length + 1)).1 (yp b + 1) u = vs u := fun u hu => by
        rw [up_ne (by omega), up_ne (by omega), hr1 _ (by omega) (by omega) (by omega), hV.2.2 u hu]
      refine ih (op.erase c) (ord0 ++ [c]) (uselay cd vs c) _ (by omega) (((ho.trans (ho2.mono (fun p h => S34_y h))).trans ((Off.up (yblkj 2 (by decide))).trans (Off.up yblk0))).trans (Off.up (yblkj 1 (by decide)))) ?_ ?_ (hnd.erase c) (fun d hd => hbo d (List.mem_of_mem_erase hd)) (by rw [List.length_append, List.length_singleton]; omega) (fun v M' h => hQ v M' ?_)
      · obtain ⟨l1, l2, l3⟩ := hL2
        exact ⟨by simp [up, l1], fun i hi => by rw [up_ne (by omega), up_ne (by omega), up_ne (by omega)]; exact l2 i hi, fun u hu => by rw [up_ne (by omega), up_ne (by omega), up_ne (by omega)]; exact l3 u hu⟩
      · refine ⟨by simp [up, nI_succ], fun i hi => ?_, fun u hu => ?_⟩
        · rw [up_ne (by omega), up_ne (by omega)]
          by_cases e : i = ord0.length
          · subst e; simp [up]
          · have hi2 : i < ord0.length := by simp at hi; omega
            rw [getD_app hi2, show (up M31 (yp b + 2) ord0.length (nI c)).1 (yp b + 2) i = M31.1 (yp b + 2) i from if_neg (fun q => e q.2), hr1 _ (by omega) (by omega) (by omega), hV.2.1 i hi2]
        · rw [hv1 v hv, hv1 w hw, uselay, hcv, hcw, pix, pix, nI_clamp (by omega), nI_clamp (by omega)]
          by_cases e : u = v
          · subst e; simp [up, upd]
          · rw [show upd vs v (layF (cd 0 c) (cd 4 c) (vs v) (vs w)) u = vs u from pk_un e]
            rw [show (up (up (up M31 (yp b + 2) ord0.length (nI c)) (yp b) 3 (nI ord0.length + 1)) (yp b + 1) v (layF (cd 0 c) (cd 4 c) (vs v) (vs w))).1 (yp b + 1) u = _ from if_neg (fun q => e q.2)]
            exact hv1 u hu
      · rw [eord]
        simpa [List.append_assoc] using h
set_option maxRecDepth 20000 in
theorem c_Y_workOut {b : Nat} {cd : Nat → Nat → Int32} {M : Mem} (hb : b < 2) {k n m : Nat} {g : Gm} {tb : List Nat} (hk : k < 6) (hR : RepG M k n g tb m) (hcd : CDm M cd) (hW : WFc cd n) (ht : tb.length ≤ 24) (hn : n ≤ 24) (hbd : ∀ d, d ∈ tb → d < n) (hnd : tb.Nodup) : Ct lyC y_Y_workOut b_Y_workOut 4 none 3 [.ref (yp b), .ref (gp k)] M (Pv fun M' => LYv M' b (order cd tb) (vals cd g tb) ∧ Off (yblk b) M M') := by
  refine Ct.ofG mx_Y_workOut [some (.ref (yp b)), some (.ref (gp k)), none, none] rfl rfl (Nat.le_of_ble_eq_true rfl) (fun κ C hQ => ?_)
  refine u_aload_n (pc := 0) C d_Y_workOut_0 rfl ?_
  refine u_getr (pc := 1) (r := (gp k + 2)) C d_Y_workOut_1 fw_Y_28 (shG0 hk) rfl (rf_G_2 hk) ?_
  refine u_aload_n (pc := 4) C d_Y_workOut_4 rfl ?_
  refine u_getr (pc := 5) (r := (yp b + 1)) C d_Y_workOut_5 fw_Y_9 (shY0 hb) rfl (rf_Y_1 hb) ?_
  refine u_callSv (pc := 8) C d_Y_workOut_8 mx_L_copyRow mw_Y_33 (c_L_copyRow (shG2 hk) (shY1 hb)) rfl rfl (Nat.le_of_ble_eq_true rfl) (fun M8 q8 => ?_)
  have q8 := q8.symm
  subst q8
  refine u_aload_n (pc := 11) C d_Y_workOut_11 rfl ?_
  refine u_aload_n (pc := 12) C d_Y_workOut_12 rfl ?_
  have hR1 : RepG (cpr M (gp k + 2) (yp b + 1) (min 4 4)) k n g tb m := hR.off (S := yblk b) (cpr_off (yblkj 1 (by decide))) (fun p q => y_g hk q)
  have hcd1 : CDm (cpr M (gp k + 2) (yp b + 1) (min 4 4)) cd := hcd.off (S := yblk b) (cpr_off (yblkj 1 (by decide))) (fun p h1 h2 => y_cd h1 h2)
  refine u_callVv (pc := 13) C d_Y_workOut_13 mx_Y_gather mw_Y_37 (shY0 hb) rfl (c_Y_gather hb hk hR1 hcd1 hW ht hn hbd) rfl rfl (Nat.le_of_ble_eq_true rfl) (fun M13 q13 => ?_)
  obtain ⟨hL, ho, hv1⟩ := q13
  refine u_aload_n (pc := 16) C d_Y_workOut_16 rfl ?_
  refine u_iconst (pc := 17) (v := 0) C d_Y_workOut_17 (by decide) ?_
  refine u_put (pc := 18) C d_Y_workOut_18 fw_Y_41 (shY0 hb) rfl (Or.inl rfl) ?_
  refine u_aload_n (pc := 21) C d_Y_workOut_21 rfl ?_
  refine u_geti (pc := 22) C d_Y_workOut_22 fw_Y_45 (shY0 hb) rfl ?_
  refine u_istore_n (pc := 25) C d_Y_workOut_25 rfl (fun x25 e25 L9 hL9 => ?_)
  obtain rfl : L9 = [some (.ref (yp b)), some (.ref (gp k)), some (.int x25), none] := hL9.symm
  have h6 : (up M13 (yp b) 3 0).1 (yp b) 6 = nI (tb.filter (isL cd)).length := by simp [up, hL.1]
  rw [h6] at e25
  subst e25
  have hcd9 : CDm (up M13 (yp b) 3 0) cd := (hcd1.off ho (fun p h1 h2 => y_cd h1 h2)).off (S := yblk b) (Off.up yblk0) (fun p h1 h2 => y_cd h1 h2)
  have hfl : (tb.filter (isL cd)).length ≤ tb.length := List.length_filter_le _ _
  refine lp_wo hb hcd9 hW hn C ((tb.filter (isL cd)).length + 1) (tb.filter (isL cd)) [] (fun v => g 5 v) _ (by omega) Off.refl ⟨h6, fun i hi => by rw [up_ne (by omega)]; exact hL.2.1 i hi, fun v hv => by rw [up_ne (by omega)]; exact hL.2.2 v hv⟩ ⟨by simp [up]; rfl, fun i hi => by simp at hi, fun v hv => ?_⟩ (hnd.filter _) (fun d hd => hbd d (List.mem_filter.mp hd).1) (by simp; omega) (fun v M' h => hQ v M' ?_)
  · rw [up_ne (by omega), hv1, cpr_in (by omega)]
    exact hR.2.1 v hv
  · obtain ⟨h1, h2, h3⟩ := h
    refine ⟨h1, by rw [List.nil_append] at h2; exact h2, ?_⟩
    exact ((cpr_off (yblkj 1 (by decide))).trans ho).trans ((Off.up yblk0).trans h3)
