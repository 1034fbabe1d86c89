/-! String's methods, out of the library's code -/
abbrev b_J_coder : ByteArray := prog_13_method_152_code
def y_J_coder : MethodName := ⟨"java/lang/String", "coder", "()B"⟩
theorem mx_J_coder : MX y_J_coder b_J_coder 1 (some .byte) 0 false := ⟨tbl_in (List.mem_of_getElem? (i := 545) (by decide +kernel)) rfl, tbl_in (List.mem_of_getElem? (i := 110) (by decide +kernel)) rfl, by decide +kernel, ⟨by decide +kernel, by decide +kernel, by decide +kernel⟩, ⟨tbl_in (List.mem_of_getElem? (i := 543) (by decide +kernel)) rfl, tbl_in (List.mem_of_getElem? (i := 544) (by decide +kernel)) rfl⟩⟩
abbrev b_J_length : ByteArray := prog_13_method_54_code
def y_J_length : MethodName := ⟨"java/lang/String", "length", "()I"⟩
theorem mx_J_length : MX y_J_length b_J_length 1 (some .int) 0 false := ⟨tbl_in (List.mem_of_getElem? (i := 541) (by decide +kernel)) rfl, tbl_in (List.mem_of_getElem? (i := 110) (by decide +kernel)) rfl, by decide +kernel, ⟨by decide +kernel, by decide +kernel, by decide +kernel⟩, ⟨tbl_in (List.mem_of_getElem? (i := 539) (by decide +kernel)) rfl, tbl_in (List.mem_of_getElem? (i := 540) (by decide +kernel)) rfl⟩⟩
abbrev b_J_isLatin : ByteArray := prog_13_method_154_code
def y_J_isLatin : MethodName := ⟨"java/lang/String", "isLatin1", "()Z"⟩
theorem mx_J_isLatin : MX y_J_isLatin b_J_isLatin 1 (some .boolean) 0 false := ⟨tbl_in (List.mem_of_getElem? (i := 555) (by decide +kernel)) rfl, tbl_in (List.mem_of_getElem? (i := 110) (by decide +kernel)) rfl, by decide +kernel, ⟨by decide +kernel, by decide +kernel, by decide +kernel⟩, ⟨tbl_in (List.mem_of_getElem? (i := 553) (by decide +kernel)) rfl, tbl_in (List.mem_of_getElem? (i := 554) (by decide +kernel)) rfl⟩⟩
abbrev b_J_charAt : ByteArray := prog_13_method_56_code
def y_J_charAt : MethodName := ⟨"java/lang/String", "charAt", "(I)C"⟩
theorem mx_J_charAt : MX y_J_charAt b_J_charAt 2 (some .char) 1 false := ⟨tbl_in (List.mem_of_getElem? (i := 551) (by decide +kernel)) rfl, tbl_in (List.mem_of_getElem? (i := 110) (by decide +kernel)) rfl, by decide +kernel, ⟨by decide +kernel, by decide +kernel, by decide +kernel⟩, ⟨tbl_in (List.mem_of_getElem? (i := 549) (by decide +kernel)) rfl, tbl_in (List.mem_of_getElem? (i := 550) (by decide +kernel)) rfl⟩⟩
abbrev b_J_lchar : ByteArray := prog_14_method_2_code
def y_J_lchar : MethodName := ⟨"java/lang/StringLatin1", "charAt", "([BI)C"⟩
theorem mx_J_lchar : MX y_J_lchar b_J_lchar 2 (some .char) 2 true := ⟨tbl_in (List.mem_of_getElem? (i := 558) (by decide +kernel)) rfl, tbl_in (List.mem_of_getElem? (i := 111) (by decide +kernel)) rfl, by decide +kernel, ⟨by decide +kernel, by decide +kernel, by decide +kernel⟩, tbl_in (List.mem_of_getElem? (i := 557) (by decide +kernel)) rfl⟩
abbrev b_J_check : ByteArray := prog_13_method_155_code
def y_J_check : MethodName := ⟨"java/lang/String", "checkIndex", "(II)V"⟩
theorem mx_J_check : MX y_J_check b_J_check 2 none 2 true := ⟨tbl_in (List.mem_of_getElem? (i := 561) (by decide +kernel)) rfl, tbl_in (List.mem_of_getElem? (i := 110) (by decide +kernel)) rfl, by decide +kernel, ⟨by decide +kernel, by decide +kernel, by decide +kernel⟩, tbl_in (List.mem_of_getElem? (i := 560) (by decide +kernel)) rfl⟩
abbrev b_J_pchk : ByteArray := prog_17_method_11_code
def y_J_pchk : MethodName := ⟨"jdk/internal/util/Preconditions", "checkIndex", "(IILjava/util/function/BiFunction;)I"⟩
theorem mx_J_pchk : MX y_J_pchk b_J_pchk 3 (some .int) 3 true := ⟨tbl_in (List.mem_of_getElem? (i := 566) (by decide +kernel)) rfl, tbl_in (List.mem_of_getElem? (i := 112) (by decide +kernel)) rfl, by decide +kernel, ⟨by decide +kernel, by decide +kernel, by decide +kernel⟩, tbl_in (List.mem_of_getElem? (i := 565) (by decide +kernel)) rfl⟩
theorem mw_J_coder : MW "java/lang/String" 335 y_J_coder := Or.inl (tbl_in (List.mem_of_getElem? (i := 542) (by decide +kernel)) rfl)
theorem mw_J_isLatin : MW "java/lang/String" 492 y_J_isLatin := Or.inl (tbl_in (List.mem_of_getElem? (i := 552) (by decide +kernel)) rfl)
theorem mw_J_lchar : MW "java/lang/String" 495 y_J_lchar := Or.inl (tbl_in (List.mem_of_getElem? (i := 556) (by decide +kernel)) rfl)
theorem mw_J_check : MW "java/lang/StringLatin1" 9 y_J_check := Or.inl (tbl_in (List.mem_of_getElem? (i := 559) (by decide +kernel)) rfl)
theorem mw_J_pchk : MW "java/lang/String" 1059 y_J_pchk := Or.inl (tbl_in (List.mem_of_getElem? (i := 564) (by decide +kernel)) rfl)
theorem mw_T_len : MW R_T 72 y_J_length := Or.inl (tbl_in (List.mem_of_getElem? (i := 538) (by decide +kernel)) rfl)
theorem mw_T_chr : MW R_T 76 y_J_charAt := Or.inl (tbl_in (List.mem_of_getElem? (i := 548) (by decide +kernel)) rfl)
theorem mw_M_len : MW R_M 123 y_J_length := Or.inl (tbl_in (List.mem_of_getElem? (i := 1147) (by decide +kernel)) rfl)
theorem mw_M_chr : MW R_M 129 y_J_charAt := Or.inl (tbl_in (List.mem_of_getElem? (i := 1148) (by decide +kernel)) rfl)
theorem fw_J_val : Cond.fieldLink "java/lang/String" 9 "java/lang/String" "value" "[B" ∈ tbl := tbl_in (List.mem_of_getElem? (i := 1436) (by decide +kernel)) rfl
theorem fw_J_cod : Cond.fieldLink "java/lang/String" 15 "java/lang/String" "coder" "B" ∈ tbl := tbl_in (List.mem_of_getElem? (i := 1437) (by decide +kernel)) rfl
theorem fw_J_com : Cond.fieldLink "java/lang/String" 38 "java/lang/String" "COMPACT_STRINGS" "Z" ∈ tbl := tbl_in (List.mem_of_getElem? (i := 546) (by decide +kernel)) rfl
theorem fw_J_sio : Cond.fieldLink "java/lang/String" 1053 "jdk/internal/util/Preconditions" "SIOOBE_FORMATTER" "Ljava/util/function/BiFunction;" ∈ tbl := tbl_in (List.mem_of_getElem? (i := 562) (by decide +kernel)) rfl
section RU
variable {κ : KX} {y : LY} {own : String} {cc : ByteArray} {nL d pc : Nat} {ret : Option FieldType} {L L' : List (Option Value)} {st : List Value} {M : Mem}
theorem u_nret {ty : FieldType} (C : Cx κ y own cc nL (some ty) d) {v : Int32} (hd : decode cc pc = .ok (.ireturn, 1)) (hn : narrow ty (.int v) = .int v) (hQ : KQ κ (some (.int v)) M) : G κ y pc L [.int v] M := by
  obtain ⟨p_, l, e, R, s, m, args, below, meth, c, w, PQ⟩ := κ
  obtain ⟨hx, hb, hml, hown, hts, hK, hA, hlk, hr, hR, hN, hX⟩ := C
  intro H locs ls hP hS hl
  exact W.zret (v := v) hx hb hr hn (fun t ht hW => ⟨⟨some (.int v), M, rfl, hQ, by rw [ht]; exact hP⟩, hS.F ht⟩) hS.2.2 hd hlk
theorem u_i2c (C : Cx κ y own cc nL ret d) {x : Int32} (hd : decode cc pc = .ok (.i2c, 1)) (kk : G κ y (pc + 1) L (.int (x.toUInt32 % 65536).toInt32 :: st) M) : G κ y pc L (.int x :: st) M := by
  obtain ⟨p_, l, e, R, s, m, args, below, meth, c, w, PQ⟩ := κ
  obtain ⟨hx, hb, hml, hown, hts, hK, hA, hlk, hr, hR, hN, hX⟩ := C
  intro H locs ls hP hS hl
  exact t_i2c hx hb hd rfl (kk H locs ls hP hS hl)
end RU
theorem c_J_coder {y : LY} {i : Nat} {M : Mem} (hi : i < 16) : Ct y y_J_coder b_J_coder 1 (some .byte) 0 [.ref (1000 + i)] M (Pi fun r M' => r = 0 ∧ M' = M) := by
  refine Ct.ofG mx_J_coder [some (.ref (1000 + i))] rfl rfl (Nat.le_of_ble_eq_true rfl) (fun κ C hQ => ?_)
  refine u_gcom (pc := 0) (idx := 38) C (by decide +kernel) fw_J_com ?_
  refine u_if_eq (pc := 3) (tgt := 13) C (show decode b_J_coder 3 = .ok (.ifCond .eq 10, 3) by decide +kernel) rfl (fun c => absurd c (by decide)) (fun _ => ?_)
  refine u_aload_n (pc := 6) C (show decode b_J_coder 6 = .ok (.aload_n 0, 1) by decide +kernel) rfl ?_
  refine u_gcod (pc := 7) (idx := 15) C (by decide +kernel) fw_J_cod hi ?_
  refine u_goto (pc := 10) (tgt := 14) C (show decode b_J_coder 10 = .ok (.goto 4, 3) by decide +kernel) rfl ?_
  exact u_nret (pc := 14) C (by decide +kernel) rfl (hQ _ _ ⟨_, rfl, rfl, rfl⟩)
theorem c_J_isLatin {y : LY} {i : Nat} {M : Mem} (hi : i < 16) : Ct y y_J_isLatin b_J_isLatin 1 (some .boolean) 0 [.ref (1000 + i)] M (Pi fun r M' => r = 1 ∧ M' = M) := by
  refine Ct.ofG mx_J_isLatin [some (.ref (1000 + i))] rfl rfl (Nat.le_of_ble_eq_true rfl) (fun κ C hQ => ?_)
  refine u_gcom (pc := 0) (idx := 38) C (by decide +kernel) fw_J_com ?_
  refine u_if_eq (pc := 3) (tgt := 17) C (show decode b_J_isLatin 3 = .ok (.ifCond .eq 14, 3) by decide +kernel) rfl (fun c => absurd c (by decide)) (fun _ => ?_)
  refine u_aload_n (pc := 6) C (show decode b_J_isLatin 6 = .ok (.aload_n 0, 1) by decide +kernel) rfl ?_
  refine u_gcod (pc := 7) (idx := 15) C (by decide +kernel) fw_J_cod hi ?_
  refine u_if_ne (pc := 10) (tgt := 17) C (show decode b_J_isLatin 10 = .ok (.ifCond .ne 7, 3) by decide +kernel) rfl (fun c => absurd rfl c) (fun _ => ?_)
  refine u_iconst (pc := 13) (v := 1) C (show decode b_J_isLatin 13 = .ok (.iconst 1, 1) by decide +kernel) (by decide) ?_
  refine u_goto (pc := 14) (tgt := 18) C (show decode b_J_isLatin 14 = .ok (.goto 4, 3) by decide +kernel) rfl ?_
  exact u_nret (pc := 18) C (by decide +kernel) rfl (hQ _ _ ⟨_, rfl, rfl, rfl⟩)
theorem c_J_length {y : LY} {i : Nat} {M : Mem} (hi : i < 16) : Ct y y_J_length b_J_length 1 (some .int) 1 [.ref (1000 + i)] M (Pi fun r M' => r = nI (slen.getD i 0) ∧ M' = M) := by
  refine Ct.ofG mx_J_length [some (.ref (1000 + i))] rfl rfl (Nat.le_of_ble_eq_true rfl) (fun κ C hQ => ?_)
  refine u_aload_n (pc := 0) C (show decode b_J_length 0 = .ok (.aload_n 0, 1) by decide +kernel) rfl ?_
  refine u_gval (pc := 1) (idx := 9) C (by decide +kernel) fw_J_val hi ?_
  refine u_slen (pc := 4) C (by decide +kernel) hi ?_
  refine u_aload_n (pc := 5) C (show decode b_J_length 5 = .ok (.aload_n 0, 1) by decide +kernel) rfl ?_
  refine u_callT (pc := 6) (idx := 335) C (by decide +kernel) mx_J_coder mw_J_coder hi rfl (c_J_coder hi) rfl rfl (Nat.le_of_ble_eq_true rfl) (fun r M' q => ?_)
  obtain ⟨rfl, rfl⟩ := q
  refine u_ishr (pc := 9) C (by decide +kernel) ?_
  refine u_iret (pc := 10) C (by decide +kernel) (hQ _ _ ⟨_, rfl, ?_, rfl⟩)
  rw [show (0 : Int32) &&& 31 = 0 from rfl]
  simp
theorem c_J_pchk {y : LY} {n j : Nat} {v : Value} {M : Mem} (hv : v = .null ∨ v = .ref 3000) (hj : j < n) (hn : n < 2 ^ 31) : Ct y y_J_pchk b_J_pchk 3 (some .int) 0 [.int (nI j), .int (nI n), v] M (Pi fun r M' => r = nI j ∧ M' = M) := by
  refine Ct.ofG mx_J_pchk [some (.int (nI j)), some (.int (nI n)), some v] rfl (by rcases hv with rfl | rfl <;> rfl) (Nat.le_of_ble_eq_true rfl) (fun κ C hQ => ?_)
  refine u_iload_n (pc := 0) C (show decode b_J_pchk 0 = .ok (.iload_n 0, 1) by decide +kernel) rfl ?_
  refine u_if_lt (pc := 1) (tgt := 9) C (show decode b_J_pchk 1 = .ok (.ifCond .lt 8, 3) by decide +kernel) rfl (fun c => absurd c (nI_pos (by omega))) (fun _ => ?_)
  refine u_iload_n (pc := 4) C (show decode b_J_pchk 4 = .ok (.iload_n 0, 1) by decide +kernel) rfl ?_
  refine u_iload_n (pc := 5) C (show decode b_J_pchk 5 = .ok (.iload_n 1, 1) by decide +kernel) rfl ?_
  refine u_icmp_lt (pc := 6) (tgt := 16) C (show decode b_J_pchk 6 = .ok (.if_icmp .lt 10, 3) by decide +kernel) rfl (fun _ => ?_) (fun c => absurd (nI_lt hj hn) c)
  refine u_iload_n (pc := 16) C (show decode b_J_pchk 16 = .ok (.iload_n 0, 1) by decide +kernel) rfl ?_
  exact u_iret (pc := 17) C (by decide +kernel) (hQ _ _ ⟨_, rfl, rfl, rfl⟩)
theorem c_J_check {y : LY} {n j : Nat} {M : Mem} (hj : j < n) (hn : n < 2 ^ 31) : Ct y y_J_check b_J_check 2 none 1 [.int (nI j), .int (nI n)] M (Pv fun M' => M' = M) := by
  refine Ct.ofG mx_J_check [some (.int (nI j)), some (.int (nI n))] rfl rfl (Nat.le_of_ble_eq_true rfl) (fun κ C hQ => ?_)
  refine u_iload_n (pc := 0) C (show decode b_J_check 0 = .ok (.iload_n 0, 1) by decide +kernel) rfl ?_
  refine u_iload_n (pc := 1) C (show decode b_J_check 1 = .ok (.iload_n 1, 1) by decide +kernel) rfl ?_
  refine u_gsio (pc := 2) (idx := 1053) C (by decide +kernel) fw_J_sio (fun v hv => ?_)
  refine u_callSi (pc := 5) (idx := 1059) C (by decide +kernel) mx_J_pchk mw_J_pchk (c_J_pchk hv hj hn) rfl rfl (Nat.le_of_ble_eq_true rfl) (fun r M' q => ?_)
  obtain ⟨rfl, rfl⟩ := q
  refine u_pop (pc := 8) C (by decide +kernel) rfl ?_
  exact u_vret (pc := 9) C (by decide +kernel) (hQ _ _ ⟨rfl, rfl⟩)
/-- a text's byte as a char -/
def chrF (i j : Nat) : Int32 := (((sbyt.getD i []).getD j 0 &&& 255).toUInt32 % 65536).toInt32
theorem ch_n : ∀ i, i < 16 → ∀ j, j < slen.getD i 0 → narrow .char (.int (chrF i j)) = .int (chrF i j) ∧ chrF i j = (sbyt.getD i []).getD j 0 := by decide +kernel
theorem sl_lt : ∀ i, i < 16 → slen.getD i 0 < 200 := by decide +kernel
theorem c_J_lchar {y : LY} {i j : Nat} {M : Mem} (hi : i < 16) (hj : j < slen.getD i 0) : Ct y y_J_lchar b_J_lchar 2 (some .char) 2 [.ref (2000 + i), .int (nI j)] M (Pi fun r M' => r = (sbyt.getD i []).getD j 0 ∧ M' = M) := by
  have h2 := sl_lt i hi
  refine Ct.ofG mx_J_lchar [some (.ref (2000 + i)), some (.int (nI j))] rfl rfl (Nat.le_of_ble_eq_true rfl) (fun κ C hQ => ?_)
  refine u_iload_n (pc := 0) C (show decode b_J_lchar 0 = .ok (.iload_n 1, 1) by decide +kernel) rfl ?_
  refine u_aload_n (pc := 1) C (show decode b_J_lchar 1 = .ok (.aload_n 0, 1) by decide +kernel) rfl ?_
  refine u_slen (pc := 2) C (by decide +kernel) hi ?_
  refine u_callSv (pc := 3) (idx := 9) C (by decide +kernel) mx_J_check mw_J_check (c_J_check hj (by omega)) rfl rfl (Nat.le_of_ble_eq_true rfl) (fun M' q => ?_)
  obtain rfl := q
  refine u_aload_n (pc := 6) C (show decode b_J_lchar 6 = .ok (.aload_n 0, 1) by decide +kernel) rfl ?_
  refine u_iload_n (pc := 7) C (show decode b_J_lchar 7 = .ok (.iload_n 1, 1) by decide +kernel) rfl ?_
  refine u_sbal (pc := 8) C (by decide +kernel) hi (vp_in_nI hj (by omega)) ?_
  rw [nI_clamp (by omega)]
  refine u_sipush (pc := 9) (v := 255) C (show decode b_J_lchar 9 = .ok (.sipush 255, 3) by decide +kernel) (by decide) ?_
  refine u_iand (pc := 12) C (by decide +kernel) ?_
  refine u_i2c (pc := 13) C (by decide +kernel) ?_
  exact u_nret (pc := 14) C (by decide +kernel) (ch_n i hi j hj).1 (hQ _ _ ⟨_, rfl, (ch_n i hi j hj).2, rfl⟩)
theorem c_J_charAt {y : LY} {i j : Nat} {M : Mem} (hi : i < 16) (hj : j < slen.getD i 0) : Ct y y_J_charAt b_J_charAt 2 (some .char) 3 [.ref (1000 + i), .int (nI j)] M (Pi fun r M' => r = (sbyt.getD i []).getD j 0 ∧ M' = M) := by
  refine Ct.ofG mx_J_charAt [some (.ref (1000 + i)), some (.int (nI j))] rfl rfl (Nat.le_of_ble_eq_true rfl) (fun κ C hQ => ?_)
  refine u_aload_n (pc := 0) C (show decode b_J_charAt 0 = .ok (.aload_n 0, 1) by decide +kernel) rfl ?_
  refine u_callT (pc := 1) (idx := 492) C (by decide +kernel) mx_J_isLatin mw_J_isLatin hi rfl (c_J_isLatin hi) rfl rfl (Nat.le_of_ble_eq_true rfl) (fun r M' q => ?_)
  obtain ⟨rfl, rfl⟩ := q
  refine u_if_eq (pc := 4) (tgt := 16) C (show decode b_J_charAt 4 = .ok (.ifCond .eq 12, 3) by decide +kernel) rfl (fun c => absurd c (by decide)) (fun _ => ?_)
  refine u_aload_n (pc := 7) C (show decode b_J_charAt 7 = .ok (.aload_n 0, 1) by decide +kernel) rfl ?_
  refine u_gval (pc := 8) (idx := 9) C (by decide +kernel) fw_J_val hi ?_
  refine u_iload_n (pc := 11) C (show decode b_J_charAt 11 = .ok (.iload_n 1, 1) by decide +kernel) rfl ?_
  refine u_callSi (pc := 12) (idx := 495) C (by decide +kernel) mx_J_lchar mw_J_lchar (c_J_lchar hi hj) rfl rfl (Nat.le_of_ble_eq_true rfl) (fun r M' q => ?_)
  obtain ⟨rfl, rfl⟩ := q
  refine u_nret (pc := 15) C (by decide +kernel) ?_ (hQ _ _ ⟨_, rfl, rfl, rfl⟩)
  rw [← (ch_n i hi j hj).2]
  exact (ch_n i hi j hj).1
