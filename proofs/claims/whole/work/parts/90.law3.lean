/-! THE LAW'S LOOP, AND ITS START -/
theorem lp_le {i L : Nat} (hL : L ≤ 2560) (hi : i ≤ 5000) (h : ¬ (Int32.ofNat L - 5 : Int32) < nI i) : i + 5 ≤ L := by
  rcases Nat.lt_or_ge L (i + 5) with hlt | hge
  · refine absurd ?_ h
    rw [Int32.lt_iff_toInt_lt]
    have e1 : (Int32.ofNat L).toInt = (L : Int) := nI_toInt (n := L) (by omega)
    have e2 : (nI i).toInt = (i : Int) := nI_toInt (by omega)
    have e3 : (Int32.ofNat L - 5).toInt = (L : Int) - 5 := by
      rw [Int32.toInt_sub, e1]
      show ((L : Int) - 5).bmod 4294967296 = _
      rw [Int.bmod_eq_of_le (by omega) (by omega)]
    rw [e3, e2]
    omega
  · exact hge
section LWL
variable {p : Program} {l : Launch} {e : Env} {s : State} {m : MethodId} {below : List Frame} {meth : Method} {c : Code} {cells slots : Nat}
variable {D : va_G} {cA : Nat → ClassId} {sa : Nat → Nat} {b L : Nat} {xs : Nat → Int32}
set_option maxHeartbeats 2000000
theorem lw_loop (C : CA p s m #[Value.ref b] meth c R_law code 4 D cA) (hr : meth.sig.returnType = ret) (hXC : SX (wC sa D cA s.heap.size) (AW (wC sa D cA s.heap.size) lyC s.heap.size) s s.heap) (hXR : SX (wR sa D cA s.heap.size) (AW (wR sa D cA s.heap.size) lyR s.heap.size) s s.heap) (hX : va_X b L xs s s.heap) (hbl : b < s.heap.size) (hL : L ≤ 2560) (hf : cells ≤ room_1.cells ∧ slots ≤ room_1.slots) :
    ∀ (f i : Nat) (H : Heap) (locs : List Loc) (ls : Array Slot) (M1 M2 : Mem) (σ : St), L ≤ i + 5 * f → i ≤ L + 5 → LI D cA sa s H locs M1 M2 σ → lv_has ls 4 [(3, .int (nI i)), (2, .ref (s.heap.size + 84)), (1, .ref (s.heap.size + 0)), (0, .ref b)] →
      W p l e room_1 s m #[Value.ref b] below meth c H locs cells slots (lw_Z below #[Value.ref b] s) (F0 m 18 ls []) := by
  intro f
  induction f with
  | zero =>
      intro i H locs ls M1 M2 σ h1 h2 hI hl
      obtain ⟨hPC, hPR, hIC, hIR, hS⟩ := hI
      refine lv_iload_n C.1 C.2.1 d_W_18 rfl (lv_at hl 0 rfl) ?_
      refine lv_aload_n C.1 C.2.1 d_W_19 rfl (lv_at hl 3 rfl) ?_
      refine va_slen (A := fun q => s.heap.size ≤ q) C.1 C.2.1 hX hbl (Nat.not_le.mpr hbl) hS d_W_20 ?_
      refine lv_iconst (v := 5) C.1 C.2.1 d_W_21 (by decide) ?_
      refine lv_isub C.1 C.2.1 d_W_22 ?_
      refine lv_icmp_gt C.1 C.2.1 d_W_23 (tgt := 1015) (by decide) (fun _ => ?_) (fun hk => ?_)
      · exact lv_iconst (v := 1) C.1 C.2.1 d_W_1015 (by decide) (va_forget hS.2.2 (W.widen (k := 600000) (n := 7302250) hf.1 hf.2 (lw_ret C.1 C.2.1 hr C.2.2.2.2.2.2 d_W_1016)))
      · exact absurd (lp_le hL (by omega) hk) (by omega)
  | succ f ih =>
      intro i H locs ls M1 M2 σ h1 h2 hI hl
      have hI0 := hI
      obtain ⟨hPC, hPR, hIC, hIR, hS⟩ := hI
      refine lv_iload_n C.1 C.2.1 d_W_18 rfl (lv_at hl 0 rfl) ?_
      refine lv_aload_n C.1 C.2.1 d_W_19 rfl (lv_at hl 3 rfl) ?_
      refine va_slen (A := fun q => s.heap.size ≤ q) C.1 C.2.1 hX hbl (Nat.not_le.mpr hbl) hS d_W_20 ?_
      refine lv_iconst (v := 5) C.1 C.2.1 d_W_21 (by decide) ?_
      refine lv_isub C.1 C.2.1 d_W_22 ?_
      refine lv_icmp_gt C.1 C.2.1 d_W_23 (tgt := 1015) (by decide) (fun _ => ?_) (fun hk => ?_)
      · exact lv_iconst (v := 1) C.1 C.2.1 d_W_1015 (by decide) (va_forget hS.2.2 (W.widen (k := 600000) (n := 7302250) hf.1 hf.2 (lw_ret C.1 C.2.1 hr C.2.2.2.2.2.2 d_W_1016)))
      · have h5 := lp_le hL (by omega) hk
        have K : ∀ H locs M1 M2 σ, LI D cA sa s H locs M1 M2 σ → W p l e room_1 s m #[Value.ref b] below meth c H locs cells slots (lw_Z below #[Value.ref b] s) (F0 m 1009 ls []) := by
          intro H locs M1 M2 σ hI
          refine lv_iinc (k := 0) (x := nI i) (v := nI (i + 5)) (lv' := [(3, .int (nI (i + 5))), (2, .ref (s.heap.size + 84)), (1, .ref (s.heap.size + 0)), (0, .ref b)]) C.1 C.2.1 d_W_1009 hl rfl (nI_add i 5) (by decide) rfl (fun ls hl => ?_)
          refine lv_goto C.1 C.2.1 d_W_1012 (tgt := 18) (by decide) ?_
          exact ih (i + 5) H locs ls M1 M2 σ (by omega) (by omega) hI hl
        refine lv_aload_n C.1 C.2.1 d_W_26 rfl (lv_at hl 3 rfl) ?_
        refine lv_iload_n C.1 C.2.1 d_W_27 rfl (lv_at hl 0 rfl) ?_
        refine va_sld (A := fun q => s.heap.size ≤ q) C.1 C.2.1 hX hbl (Nat.not_le.mpr hbl) hS (nI_in (by omega) (by omega)) d_W_28 ?_
        refine lv_bipush (v := 63) C.1 C.2.1 d_W_29 (by decide) ?_
        refine lv_iand C.1 C.2.1 d_W_31 ?_
        refine lv_topi (fun x _ => ?_)
        rcases sw_0_32 x with rfl | rfl | rfl | rfl | rfl | rfl | rfl | rfl | rfl | rfl | rfl | rfl | rfl | rfl | rfl | rfl | rfl | rfl | rfl | rfl | rfl | rfl | rfl | rfl | rfl | rfl | rfl | rfl | rfl | rfl | rfl | rfl | rfl | h
        · exact lv_tableIn C.1 C.2.1 d_W_32 (by decide) (by decide) rfl (tgt := 180) (by decide) (lw_c0 C hXC hXR hX hbl h5 hL hf hI0 hl K)
        · exact lv_tableIn C.1 C.2.1 d_W_32 (by decide) (by decide) rfl (tgt := 233) (by decide) (lw_c1 C hXC hXR hX hbl h5 hL hf hI0 hl K)
        · exact lv_tableIn C.1 C.2.1 d_W_32 (by decide) (by decide) rfl (tgt := 256) (by decide) (lw_c2 C hXC hXR hX hbl h5 hL hf hI0 hl K)
        · exact lv_tableIn C.1 C.2.1 d_W_32 (by decide) (by decide) rfl (tgt := 269) (by decide) (lw_c3 C hXC hXR hX hbl h5 hL hf hI0 hl K)
        · exact lv_tableIn C.1 C.2.1 d_W_32 (by decide) (by decide) rfl (tgt := 302) (by decide) (lw_c4 C hXC hXR hX hbl h5 hL hf hI0 hl K)
        · exact lv_tableIn C.1 C.2.1 d_W_32 (by decide) (by decide) rfl (tgt := 325) (by decide) (lw_c5 C hXC hXR hX hbl h5 hL hf hI0 hl K)
        · exact lv_tableIn C.1 C.2.1 d_W_32 (by decide) (by decide) rfl (tgt := 358) (by decide) (lw_c6 C hXC hXR hX hbl h5 hL hf hI0 hl K)
        · exact lv_tableIn C.1 C.2.1 d_W_32 (by decide) (by decide) rfl (tgt := 391) (by decide) (lw_c7 C hXC hXR hX hbl h5 hL hf hI0 hl K)
        · exact lv_tableIn C.1 C.2.1 d_W_32 (by decide) (by decide) rfl (tgt := 424) (by decide) (lw_c8 C hXC hXR hX hbl h5 hL hf hI0 hl K)
        · exact lv_tableIn C.1 C.2.1 d_W_32 (by decide) (by decide) rfl (tgt := 447) (by decide) (lw_c9 C hXC hXR hX hbl h5 hL hf hI0 hl K)
        · exact lv_tableIn C.1 C.2.1 d_W_32 (by decide) (by decide) rfl (tgt := 470) (by decide) (lw_c10 C hXC hXR hX hbl h5 hL hf hI0 hl K)
        · exact lv_tableIn C.1 C.2.1 d_W_32 (by decide) (by decide) rfl (tgt := 503) (by decide) (lw_c11 C hXC hXR hX hbl h5 hL hf hI0 hl K)
        · exact lv_tableIn C.1 C.2.1 d_W_32 (by decide) (by decide) rfl (tgt := 536) (by decide) (lw_c12 C hXC hXR hX hbl h5 hL hf hI0 hl K)
        · exact lv_tableIn C.1 C.2.1 d_W_32 (by decide) (by decide) rfl (tgt := 559) (by decide) (lw_c13 C hXC hXR hX hbl h5 hL hf hI0 hl K)
        · exact lv_tableIn C.1 C.2.1 d_W_32 (by decide) (by decide) rfl (tgt := 582) (by decide) (lw_c14 C hXC hXR hX hbl h5 hL hf hI0 hl K)
        · exact lv_tableIn C.1 C.2.1 d_W_32 (by decide) (by decide) rfl (tgt := 595) (by decide) (lw_c15 C hXC hXR hX hbl h5 hL hf hI0 hl K)
        · exact lv_tableIn C.1 C.2.1 d_W_32 (by decide) (by decide) rfl (tgt := 608) (by decide) (lw_c16 C hXC hXR hX hbl h5 hL hf hI0 hl K)
        · exact lv_tableIn C.1 C.2.1 d_W_32 (by decide) (by decide) rfl (tgt := 631) (by decide) (lw_c17 C hXC hXR hX hbl h5 hL hf hI0 hl K)
        · exact lv_tableIn C.1 C.2.1 d_W_32 (by decide) (by decide) rfl (tgt := 644) (by decide) (lw_c18 C hXC hXR hX hbl h5 hL hf hI0 hl K)
        · exact lv_tableIn C.1 C.2.1 d_W_32 (by decide) (by decide) rfl (tgt := 667) (by decide) (lw_c19 C hXC hXR hX hbl h5 hL hf hI0 hl K)
        · exact lv_tableIn C.1 C.2.1 d_W_32 (by decide) (by decide) rfl (tgt := 690) (by decide) (lw_c20 C hXC hXR hX hbl h5 hL hf hI0 hl K)
        · exact lv_tableIn C.1 C.2.1 d_W_32 (by decide) (by decide) rfl (tgt := 723) (by decide) (lw_c21 C hXC hXR hX hbl h5 hL hf hI0 hl K)
        · exact lv_tableIn C.1 C.2.1 d_W_32 (by decide) (by decide) rfl (tgt := 746) (by decide) (lw_c22 C hXC hXR hX hbl h5 hL hf hI0 hl K)
        · exact lv_tableIn C.1 C.2.1 d_W_32 (by decide) (by decide) rfl (tgt := 759) (by decide) (lw_c23 C hXC hXR hX hbl h5 hL hf hI0 hl K)
        · exact lv_tableIn C.1 C.2.1 d_W_32 (by decide) (by decide) rfl (tgt := 782) (by decide) (lw_c24 C hXC hXR hX hbl h5 hL hf hI0 hl K)
        · exact lv_tableIn C.1 C.2.1 d_W_32 (by decide) (by decide) rfl (tgt := 805) (by decide) (lw_c25 C hXC hXR hX hbl h5 hL hf hI0 hl K)
        · exact lv_tableIn C.1 C.2.1 d_W_32 (by decide) (by decide) rfl (tgt := 838) (by decide) (lw_c26 C hXC hXR hX hbl h5 hL hf hI0 hl K)
        · exact lv_tableIn C.1 C.2.1 d_W_32 (by decide) (by decide) rfl (tgt := 871) (by decide) (lw_c27 C hXC hXR hX hbl h5 hL hf hI0 hl K)
        · exact lv_tableIn C.1 C.2.1 d_W_32 (by decide) (by decide) rfl (tgt := 894) (by decide) (lw_c28 C hXC hXR hX hbl h5 hL hf hI0 hl K)
        · exact lv_tableIn C.1 C.2.1 d_W_32 (by decide) (by decide) rfl (tgt := 907) (by decide) (lw_c29 C hXC hXR hX hbl h5 hL hf hI0 hl K)
        · exact lv_tableIn C.1 C.2.1 d_W_32 (by decide) (by decide) rfl (tgt := 920) (by decide) (lw_c30 C hXC hXR hX hbl h5 hL hf hI0 hl K)
        · exact lv_tableIn C.1 C.2.1 d_W_32 (by decide) (by decide) rfl (tgt := 953) (by decide) (lw_c31 C hXC hXR hX hbl h5 hL hf hI0 hl K)
        · exact lv_tableIn C.1 C.2.1 d_W_32 (by decide) (by decide) rfl (tgt := 986) (by decide) (lw_c32 C hXC hXR hX hbl h5 hL hf hI0 hl K)
        · exact lv_tableOut C.1 C.2.1 d_W_32 h (tgt := 1009) (by decide) (K H locs M1 M2 σ hI0)
end LWL
set_option maxHeartbeats 8000000 in
set_option maxRecDepth 100000 in
theorem whole_start {p : Program} {e : Env} {s : State} {m : MethodId} {below : List Frame} {meth : Method} {c : Code} (l : Launch) (hflags : l.flags = flags0) {b L : Nat} {xs : Nat → Int32} (hL : L ≤ 2560) (C0 : lw_At p s m meth c b L xs) : W p l e room_1 s m #[Value.ref b] below meth c s.heap [] 0 0 (lw_Z below #[Value.ref b] s) (entryFrame m ([Value.ref b] : List Value).toArray 4) := by
  obtain ⟨hx, hb, hr, hml, hown, hts, hX, hbl, hlk, hgv⟩ := C0
  obtain ⟨sa, hsx⟩ := sx_0 hts hgv
  obtain ⟨D, cA, hKA⟩ := ka_0 hts
  have C : CA p s m #[Value.ref b] meth c R_law code 4 D cA := ⟨hx, hb, hml, hown, fun w hw => hts w (List.mem_filter.mp hw).1, hKA, hlk⟩
  have hXC : SX (wC sa D cA s.heap.size) (AW (wC sa D cA s.heap.size) lyC s.heap.size) s s.heap := hsx _ (fun p hp => if_neg (by omega)) _ (fun a ha h => by
    rcases h with ⟨q, h1, h2⟩ | h
    · have := wC_ge (sa := sa) (D := D) (cA := cA) (b := s.heap.size) q h1
      omega
    · omega)
  have hXR : SX (wR sa D cA s.heap.size) (AW (wR sa D cA s.heap.size) lyR s.heap.size) s s.heap := hsx _ (fun p hp => if_neg (by omega)) _ (fun a ha h => by
    rcases h with ⟨q, h1, h2⟩ | h
    · have := wR_ge (sa := sa) (D := D) (cA := cA) (b := s.heap.size) q h1
      omega
    · omega)
  have hN : NW D s.heap.size 0 (fun _ => .inr (0, [])) s.heap [] s := ⟨⟨rfl, fun k q hq => by simp [nw] at hq⟩, va_S.rf⟩
  have hl := lv_entry ([.ref b]) (n := 4) (Nat.le_of_ble_eq_true rfl)
  rw [lg_entry_eq]
  generalize (lg_sl ([.ref b]) ++ List.replicate (4 - (lg_sl ([.ref b])).length) Slot.unset).toArray = ls at hl ⊢
  have hl : lv_has ls 4 [(0, .ref b)] := hl
  refine a_new C hN (ci := 8) (q := (R_L, F_L, 16)) (fs := bl_L) d_W_0 rfl (tbl_in (List.mem_of_getElem? (i := 116) (by decide +kernel)) rfl) (tbl_in (List.mem_of_getElem? (i := 117) (by decide +kernel)) rfl) (tbl_in (List.mem_of_getElem? (i := 100) (by decide +kernel)) rfl) ft_L ft_L_ok bl_L_ok (Nat.le_of_ble_eq_true rfl) (Nat.le_of_ble_eq_true rfl) (fun H hN => ?_)
  refine lv_dup C.1 C.2.1 d_W_3 rfl ?_
  refine a_initL C hN (As := []) d_W_4 (tbl_in (List.mem_of_getElem? (i := 118) (by decide +kernel)) rfl) mi_L (cn_L rfl) rfl rfl hl.1 (Nat.le_of_ble_eq_true rfl) ⟨Nat.le_of_ble_eq_true rfl, Nat.le_of_ble_eq_true rfl⟩ ⟨Nat.le_of_ble_eq_true rfl, Nat.le_of_ble_eq_true rfl⟩ (fun H locs hN => ?_)
  refine lv_astore_n (lv' := [(1, .ref (s.heap.size + 0)), (0, .ref b)]) C.1 C.2.1 d_W_7 rfl hl (by decide) rfl (fun ls hl => ?_)
  refine a_new C hN (ci := 9) (q := (R_M, F_M, 35)) (fs := bl_M) d_W_8 rfl (tbl_in (List.mem_of_getElem? (i := 980) (by decide +kernel)) rfl) (tbl_in (List.mem_of_getElem? (i := 981) (by decide +kernel)) rfl) (tbl_in (List.mem_of_getElem? (i := 109) (by decide +kernel)) rfl) ft_M ft_M_ok bl_M_ok (Nat.le_of_ble_eq_true rfl) (Nat.le_of_ble_eq_true rfl) (fun H hN => ?_)
  refine lv_dup C.1 C.2.1 d_W_11 rfl ?_
  refine a_initL C hN (As := []) d_W_12 (tbl_in (List.mem_of_getElem? (i := 982) (by decide +kernel)) rfl) mi_M (cn_M rfl) rfl rfl hl.1 (Nat.le_of_ble_eq_true rfl) ⟨Nat.le_of_ble_eq_true rfl, Nat.le_of_ble_eq_true rfl⟩ ⟨Nat.le_of_ble_eq_true rfl, Nat.le_of_ble_eq_true rfl⟩ (fun H locs hN => ?_)
  refine lv_astore_n (lv' := [(2, .ref (s.heap.size + 84)), (1, .ref (s.heap.size + 0)), (0, .ref b)]) C.1 C.2.1 d_W_15 rfl hl (by decide) rfl (fun ls hl => ?_)
  refine lv_iconst (v := nI 0) C.1 C.2.1 d_W_16 (by decide) ?_
  refine lv_istore_n (lv' := [(3, .int (nI 0)), (2, .ref (s.heap.size + 84)), (1, .ref (s.heap.size + 0)), (0, .ref b)]) C.1 C.2.1 d_W_17 rfl hl (by decide) rfl (fun ls hl => ?_)
  have hN2 : NP D s.heap.size 308 (EW cA s.heap.size) H := hN.1
  exact lw_loop C hr hXC hXR hX hbl hL ⟨Nat.le_of_ble_eq_true rfl, Nat.le_of_ble_eq_true rfl⟩ L 0 H locs ls M0C M0R σ0 (by omega) (by omega) ⟨wC_P hN2, wR_P hN2, InvC_0, InvR_0, hN.2⟩ hl
