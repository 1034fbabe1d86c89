/-! THE LAW, case by case -/
def LI (D : va_G) (cA : Nat → ClassId) (sa : Nat → Nat) (s : State) (H : Heap) (locs : List Loc) (M1 M2 : Mem) (σ : St) : Prop := va_P D cls0 (wl (wC sa D cA s.heap.size) lyC M1) H ∧ va_P D cls0 (wl (wR sa D cA s.heap.size) lyR M2) H ∧ InvC M1 σ ∧ InvR M2 σ ∧ va_S (fun q => s.heap.size ≤ q) s.heap H locs
theorem wC_ge {sa : Nat → Nat} {D : va_G} {cA : Nat → ClassId} {b : Nat} : ∀ q, q < lyC.1 → b ≤ (wC sa D cA b).1 q := fun q hq => by
  rw [wC_1 hq]
  omega
theorem wR_ge {sa : Nat → Nat} {D : va_G} {cA : Nat → ClassId} {b : Nat} : ∀ q, q < lyR.1 → b ≤ (wR sa D cA b).1 q := fun q hq => by
  rw [wR_1 hq]
  omega
theorem wCR {sa : Nat → Nat} {D : va_G} {cA : Nat → ClassId} {b : Nat} : ∀ q r, q < lyC.1 → r < lyR.1 → (wR sa D cA b).1 r ≠ (wC sa D cA b).1 q := fun q r hq hr => by
  rw [wC_1 hq, wR_1 hr]
  have := tC_lt q hq
  omega
theorem wRC {sa : Nat → Nat} {D : va_G} {cA : Nat → ClassId} {b : Nat} : ∀ q r, q < lyR.1 → r < lyC.1 → (wC sa D cA b).1 r ≠ (wR sa D cA b).1 q := fun q r hq hr h => wCR r q hr hq h.symm
theorem rd_in {i L k : Nat} (h5 : i + 5 ≤ L) (hL : L ≤ 2560) {x : Int32} (hk : k < 5) (hx : x = nI k) : vp_in (nI i + x) L := by
  subst hx
  rw [nI_add]
  exact nI_in (by omega) (by omega)
section LWW
variable {p : Program} {l : Launch} {e : Env} {s : State} {m : MethodId} {args : Array Value} {below : List Frame} {meth : Method} {c : Code} {H : Heap} {locs : List Loc} {cells slots : Nat} {Q : State → Prop}
variable {ls : Array Slot} {D : va_G} {cA : Nat → ClassId} {sa : Nat → Nat} {b L i : Nat} {xs : Nat → Int32} {M1 M2 : Mem} {σ : St}
set_option maxHeartbeats 1000000
theorem lw_c0 (C : CA p s m args meth c R_law code 4 D cA) (hXC : SX (wC sa D cA s.heap.size) (AW (wC sa D cA s.heap.size) lyC s.heap.size) s s.heap) (hXR : SX (wR sa D cA s.heap.size) (AW (wR sa D cA s.heap.size) lyR s.heap.size) s s.heap) (hX : va_X b L xs s s.heap) (hbl : b < s.heap.size) (h5 : i + 5 ≤ L) (hL : L ≤ 2560) (hf : cells ≤ room_1.cells ∧ slots ≤ room_1.slots) (hI : LI D cA sa s H locs M1 M2 σ) (hl : lv_has ls 4 [(3, .int (nI i)), (2, .ref (s.heap.size + 84)), (1, .ref (s.heap.size + 0)), (0, .ref b)]) (K : ∀ H locs M1 M2 σ, LI D cA sa s H locs M1 M2 σ → W p l e room_1 s m args below meth c H locs cells slots Q (F0 m 1009 ls [])) : W p l e room_1 s m args below meth c H locs cells slots Q (F0 m 180 ls []) := by
  obtain ⟨hPC, hPR, hIC, hIR, hS⟩ := hI
  refine lv_aload_n C.1 C.2.1 d_W_180 rfl (lv_at hl 2 rfl) ?_
  refine lv_aload_n C.1 C.2.1 d_W_181 rfl (lv_at hl 3 rfl) ?_
  refine lv_iload_n C.1 C.2.1 d_W_182 rfl (lv_at hl 0 rfl) ?_
  refine lv_iconst (v := 1) C.1 C.2.1 d_W_183 (by decide) ?_
  refine lv_iadd C.1 C.2.1 d_W_184 ?_
  refine va_sld (A := fun q => s.heap.size ≤ q) C.1 C.2.1 hX hbl (Nat.not_le.mpr hbl) hS (rd_in (k := 1) h5 hL (by decide) rfl) d_W_185 ?_
  refine lv_aload_n C.1 C.2.1 d_W_186 rfl (lv_at hl 3 rfl) ?_
  refine lv_iload_n C.1 C.2.1 d_W_187 rfl (lv_at hl 0 rfl) ?_
  refine lv_iconst (v := 2) C.1 C.2.1 d_W_188 (by decide) ?_
  refine lv_iadd C.1 C.2.1 d_W_189 ?_
  refine va_sld (A := fun q => s.heap.size ≤ q) C.1 C.2.1 hX hbl (Nat.not_le.mpr hbl) hS (rd_in (k := 2) h5 hL (by decide) rfl) d_W_190 ?_
  refine lv_aload_n C.1 C.2.1 d_W_191 rfl (lv_at hl 3 rfl) ?_
  refine lv_iload_n C.1 C.2.1 d_W_192 rfl (lv_at hl 0 rfl) ?_
  refine lv_iconst (v := 3) C.1 C.2.1 d_W_193 (by decide) ?_
  refine lv_iadd C.1 C.2.1 d_W_194 ?_
  refine va_sld (A := fun q => s.heap.size ≤ q) C.1 C.2.1 hX hbl (Nat.not_le.mpr hbl) hS (rd_in (k := 3) h5 hL (by decide) rfl) d_W_195 ?_
  refine lv_aload_n C.1 C.2.1 d_W_196 rfl (lv_at hl 3 rfl) ?_
  refine lv_iload_n C.1 C.2.1 d_W_197 rfl (lv_at hl 0 rfl) ?_
  refine lv_iconst (v := 4) C.1 C.2.1 d_W_198 (by decide) ?_
  refine lv_iadd C.1 C.2.1 d_W_199 ?_
  refine va_sld (A := fun q => s.heap.size ≤ q) C.1 C.2.1 hX hbl (Nat.not_le.mpr hbl) hS (rd_in (k := 4) h5 hL (by decide) rfl) d_W_200 ?_
  refine lw_call C (ad := (wC sa D cA s.heap.size).1) (ad2 := (wR sa D cA s.heap.size).1) (As := [.int (xs (nI i + 1).toNatClampNeg), .int (xs (nI i + 2).toNatClampNeg), .int (xs (nI i + 3).toNatClampNeg), .int (xs (nI i + 4).toNatClampNeg)]) wC_adi wC_ge wCR hXC hPC hPR hS d_W_201 mx_L_card (tbl_in (List.mem_of_getElem? (i := 482) (by decide +kernel)) rfl) sC_83 rfl (c_L_card hIC) rfl rfl rfl rfl hl.1 (Nat.le_of_ble_eq_true rfl) ⟨Nat.le_of_ble_eq_true rfl, Nat.le_of_ble_eq_true rfl⟩ hf (fun r1 M3 H locs hr1 hPC2 hPR2 hS2 => ?_)
  obtain ⟨e1, hIC2⟩ := hr1
  refine lv_aload_n C.1 C.2.1 d_W_204 rfl (lv_at hl 1 rfl) ?_
  refine lv_aload_n C.1 C.2.1 d_W_205 rfl (lv_at hl 3 rfl) ?_
  refine lv_iload_n C.1 C.2.1 d_W_206 rfl (lv_at hl 0 rfl) ?_
  refine lv_iconst (v := 1) C.1 C.2.1 d_W_207 (by decide) ?_
  refine lv_iadd C.1 C.2.1 d_W_208 ?_
  refine va_sld (A := fun q => s.heap.size ≤ q) C.1 C.2.1 hX hbl (Nat.not_le.mpr hbl) hS2 (rd_in (k := 1) h5 hL (by decide) rfl) d_W_209 ?_
  refine lv_aload_n C.1 C.2.1 d_W_210 rfl (lv_at hl 3 rfl) ?_
  refine lv_iload_n C.1 C.2.1 d_W_211 rfl (lv_at hl 0 rfl) ?_
  refine lv_iconst (v := 2) C.1 C.2.1 d_W_212 (by decide) ?_
  refine lv_iadd C.1 C.2.1 d_W_213 ?_
  refine va_sld (A := fun q => s.heap.size ≤ q) C.1 C.2.1 hX hbl (Nat.not_le.mpr hbl) hS2 (rd_in (k := 2) h5 hL (by decide) rfl) d_W_214 ?_
  refine lv_aload_n C.1 C.2.1 d_W_215 rfl (lv_at hl 3 rfl) ?_
  refine lv_iload_n C.1 C.2.1 d_W_216 rfl (lv_at hl 0 rfl) ?_
  refine lv_iconst (v := 3) C.1 C.2.1 d_W_217 (by decide) ?_
  refine lv_iadd C.1 C.2.1 d_W_218 ?_
  refine va_sld (A := fun q => s.heap.size ≤ q) C.1 C.2.1 hX hbl (Nat.not_le.mpr hbl) hS2 (rd_in (k := 3) h5 hL (by decide) rfl) d_W_219 ?_
  refine lv_aload_n C.1 C.2.1 d_W_220 rfl (lv_at hl 3 rfl) ?_
  refine lv_iload_n C.1 C.2.1 d_W_221 rfl (lv_at hl 0 rfl) ?_
  refine lv_iconst (v := 4) C.1 C.2.1 d_W_222 (by decide) ?_
  refine lv_iadd C.1 C.2.1 d_W_223 ?_
  refine va_sld (A := fun q => s.heap.size ≤ q) C.1 C.2.1 hX hbl (Nat.not_le.mpr hbl) hS2 (rd_in (k := 4) h5 hL (by decide) rfl) d_W_224 ?_
  refine lw_call C (ad := (wR sa D cA s.heap.size).1) (ad2 := (wC sa D cA s.heap.size).1) (As := [.int (xs (nI i + 1).toNatClampNeg), .int (xs (nI i + 2).toNatClampNeg), .int (xs (nI i + 3).toNatClampNeg), .int (xs (nI i + 4).toNatClampNeg)]) wR_adi wR_ge wRC hXR hPR2 hPC2 hS2 d_W_225 mx_M_card (tbl_in (List.mem_of_getElem? (i := 1094) (by decide +kernel)) rfl) sR_0 rfl (c_M_card hIR) rfl rfl rfl rfl hl.1 (Nat.le_of_ble_eq_true rfl) ⟨Nat.le_of_ble_eq_true rfl, Nat.le_of_ble_eq_true rfl⟩ hf (fun r2 M4 H locs hr2 hPR3 hPC3 hS3 => ?_)
  obtain ⟨e2, hIR3⟩ := hr2
  exact lv_icmp_eq C.1 C.2.1 d_W_228 (tgt := 1009) (by decide) (fun _ => K _ _ _ _ _ ⟨hPC3, hPR3, hIC2, hIR3, hS3⟩) (fun q => absurd (e1.trans e2.symm) q)
theorem lw_c1 (C : CA p s m args meth c R_law code 4 D cA) (hXC : SX (wC sa D cA s.heap.size) (AW (wC sa D cA s.heap.size) lyC s.heap.size) s s.heap) (hXR : SX (wR sa D cA s.heap.size) (AW (wR sa D cA s.heap.size) lyR s.heap.size) s s.heap) (hX : va_X b L xs s s.heap) (hbl : b < s.heap.size) (h5 : i + 5 ≤ L) (hL : L ≤ 2560) (hf : cells ≤ room_1.cells ∧ slots ≤ room_1.slots) (hI : LI D cA sa s H locs M1 M2 σ) (hl : lv_has ls 4 [(3, .int (nI i)), (2, .ref (s.heap.size + 84)), (1, .ref (s.heap.size + 0)), (0, .ref b)]) (K : ∀ H locs M1 M2 σ, LI D cA sa s H locs M1 M2 σ → W p l e room_1 s m args below meth c H locs cells slots Q (F0 m 1009 ls [])) : W p l e room_1 s m args below meth c H locs cells slots Q (F0 m 233 ls []) := by
  obtain ⟨hPC, hPR, hIC, hIR, hS⟩ := hI
  refine lv_aload_n C.1 C.2.1 d_W_233 rfl (lv_at hl 2 rfl) ?_
  refine lv_aload_n C.1 C.2.1 d_W_234 rfl (lv_at hl 3 rfl) ?_
  refine lv_iload_n C.1 C.2.1 d_W_235 rfl (lv_at hl 0 rfl) ?_
  refine lv_iconst (v := 1) C.1 C.2.1 d_W_236 (by decide) ?_
  refine lv_iadd C.1 C.2.1 d_W_237 ?_
  refine va_sld (A := fun q => s.heap.size ≤ q) C.1 C.2.1 hX hbl (Nat.not_le.mpr hbl) hS (rd_in (k := 1) h5 hL (by decide) rfl) d_W_238 ?_
  refine lw_call C (ad := (wC sa D cA s.heap.size).1) (ad2 := (wR sa D cA s.heap.size).1) (As := [.int (xs (nI i + 1).toNatClampNeg)]) wC_adi wC_ge wCR hXC hPC hPR hS d_W_239 mx_L_feed (tbl_in (List.mem_of_getElem? (i := 504) (by decide +kernel)) rfl) sC_83 rfl (c_L_feed hIC) rfl rfl rfl rfl hl.1 (Nat.le_of_ble_eq_true rfl) ⟨Nat.le_of_ble_eq_true rfl, Nat.le_of_ble_eq_true rfl⟩ hf (fun r1 M3 H locs hr1 hPC2 hPR2 hS2 => ?_)
  obtain ⟨e1, hIC2⟩ := hr1
  refine lv_aload_n C.1 C.2.1 d_W_242 rfl (lv_at hl 1 rfl) ?_
  refine lv_aload_n C.1 C.2.1 d_W_243 rfl (lv_at hl 3 rfl) ?_
  refine lv_iload_n C.1 C.2.1 d_W_244 rfl (lv_at hl 0 rfl) ?_
  refine lv_iconst (v := 1) C.1 C.2.1 d_W_245 (by decide) ?_
  refine lv_iadd C.1 C.2.1 d_W_246 ?_
  refine va_sld (A := fun q => s.heap.size ≤ q) C.1 C.2.1 hX hbl (Nat.not_le.mpr hbl) hS2 (rd_in (k := 1) h5 hL (by decide) rfl) d_W_247 ?_
  refine lw_call C (ad := (wR sa D cA s.heap.size).1) (ad2 := (wC sa D cA s.heap.size).1) (As := [.int (xs (nI i + 1).toNatClampNeg)]) wR_adi wR_ge wRC hXR hPR2 hPC2 hS2 d_W_248 mx_M_feed (tbl_in (List.mem_of_getElem? (i := 1105) (by decide +kernel)) rfl) sR_0 rfl (c_M_feed hIR) rfl rfl rfl rfl hl.1 (Nat.le_of_ble_eq_true rfl) ⟨Nat.le_of_ble_eq_true rfl, Nat.le_of_ble_eq_true rfl⟩ hf (fun r2 M4 H locs hr2 hPR3 hPC3 hS3 => ?_)
  obtain ⟨e2, hIR3⟩ := hr2
  exact lv_icmp_eq C.1 C.2.1 d_W_251 (tgt := 1009) (by decide) (fun _ => K _ _ _ _ _ ⟨hPC3, hPR3, hIC2, hIR3, hS3⟩) (fun q => absurd (e1.trans e2.symm) q)
theorem lw_c2 (C : CA p s m args meth c R_law code 4 D cA) (hXC : SX (wC sa D cA s.heap.size) (AW (wC sa D cA s.heap.size) lyC s.heap.size) s s.heap) (hXR : SX (wR sa D cA s.heap.size) (AW (wR sa D cA s.heap.size) lyR s.heap.size) s s.heap) (hX : va_X b L xs s s.heap) (hbl : b < s.heap.size) (h5 : i + 5 ≤ L) (hL : L ≤ 2560) (hf : cells ≤ room_1.cells ∧ slots ≤ room_1.slots) (hI : LI D cA sa s H locs M1 M2 σ) (hl : lv_has ls 4 [(3, .int (nI i)), (2, .ref (s.heap.size + 84)), (1, .ref (s.heap.size + 0)), (0, .ref b)]) (K : ∀ H locs M1 M2 σ, LI D cA sa s H locs M1 M2 σ → W p l e room_1 s m args below meth c H locs cells slots Q (F0 m 1009 ls [])) : W p l e room_1 s m args below meth c H locs cells slots Q (F0 m 256 ls []) := by
  obtain ⟨hPC, hPR, hIC, hIR, hS⟩ := hI
  refine lv_aload_n C.1 C.2.1 d_W_256 rfl (lv_at hl 2 rfl) ?_
  refine lw_call C (ad := (wC sa D cA s.heap.size).1) (ad2 := (wR sa D cA s.heap.size).1) (As := []) wC_adi wC_ge wCR hXC hPC hPR hS d_W_257 mx_L_deck (tbl_in (List.mem_of_getElem? (i := 513) (by decide +kernel)) rfl) sC_83 rfl (c_L_deck hIC) rfl rfl rfl rfl hl.1 (Nat.le_of_ble_eq_true rfl) ⟨Nat.le_of_ble_eq_true rfl, Nat.le_of_ble_eq_true rfl⟩ hf (fun r1 M3 H locs hr1 hPC2 hPR2 hS2 => ?_)
  obtain ⟨e1, hIC2⟩ := hr1
  refine lv_aload_n C.1 C.2.1 d_W_260 rfl (lv_at hl 1 rfl) ?_
  refine lw_call C (ad := (wR sa D cA s.heap.size).1) (ad2 := (wC sa D cA s.heap.size).1) (As := []) wR_adi wR_ge wRC hXR hPR2 hPC2 hS2 d_W_261 mx_M_deck (tbl_in (List.mem_of_getElem? (i := 1109) (by decide +kernel)) rfl) sR_0 rfl (c_M_deck hIR) rfl rfl rfl rfl hl.1 (Nat.le_of_ble_eq_true rfl) ⟨Nat.le_of_ble_eq_true rfl, Nat.le_of_ble_eq_true rfl⟩ hf (fun r2 M4 H locs hr2 hPR3 hPC3 hS3 => ?_)
  obtain ⟨e2, hIR3⟩ := hr2
  exact lv_icmp_eq C.1 C.2.1 d_W_264 (tgt := 1009) (by decide) (fun _ => K _ _ _ _ _ ⟨hPC3, hPR3, hIC2, hIR3, hS3⟩) (fun q => absurd (e1.trans e2.symm) q)
theorem lw_c3 (C : CA p s m args meth c R_law code 4 D cA) (hXC : SX (wC sa D cA s.heap.size) (AW (wC sa D cA s.heap.size) lyC s.heap.size) s s.heap) (hXR : SX (wR sa D cA s.heap.size) (AW (wR sa D cA s.heap.size) lyR s.heap.size) s s.heap) (hX : va_X b L xs s s.heap) (hbl : b < s.heap.size) (h5 : i + 5 ≤ L) (hL : L ≤ 2560) (hf : cells ≤ room_1.cells ∧ slots ≤ room_1.slots) (hI : LI D cA sa s H locs M1 M2 σ) (hl : lv_has ls 4 [(3, .int (nI i)), (2, .ref (s.heap.size + 84)), (1, .ref (s.heap.size + 0)), (0, .ref b)]) (K : ∀ H locs M1 M2 σ, LI D cA sa s H locs M1 M2 σ → W p l e room_1 s m args below meth c H locs cells slots Q (F0 m 1009 ls [])) : W p l e room_1 s m args below meth c H locs cells slots Q (F0 m 269 ls []) := by
  obtain ⟨hPC, hPR, hIC, hIR, hS⟩ := hI
  refine lv_aload_n C.1 C.2.1 d_W_269 rfl (lv_at hl 2 rfl) ?_
  refine lv_aload_n C.1 C.2.1 d_W_270 rfl (lv_at hl 3 rfl) ?_
  refine lv_iload_n C.1 C.2.1 d_W_271 rfl (lv_at hl 0 rfl) ?_
  refine lv_iconst (v := 1) C.1 C.2.1 d_W_272 (by decide) ?_
  refine lv_iadd C.1 C.2.1 d_W_273 ?_
  refine va_sld (A := fun q => s.heap.size ≤ q) C.1 C.2.1 hX hbl (Nat.not_le.mpr hbl) hS (rd_in (k := 1) h5 hL (by decide) rfl) d_W_274 ?_
  refine lv_aload_n C.1 C.2.1 d_W_275 rfl (lv_at hl 3 rfl) ?_
  refine lv_iload_n C.1 C.2.1 d_W_276 rfl (lv_at hl 0 rfl) ?_
  refine lv_iconst (v := 2) C.1 C.2.1 d_W_277 (by decide) ?_
  refine lv_iadd C.1 C.2.1 d_W_278 ?_
  refine va_sld (A := fun q => s.heap.size ≤ q) C.1 C.2.1 hX hbl (Nat.not_le.mpr hbl) hS (rd_in (k := 2) h5 hL (by decide) rfl) d_W_279 ?_
  refine lw_call C (ad := (wC sa D cA s.heap.size).1) (ad2 := (wR sa D cA s.heap.size).1) (As := [.int (xs (nI i + 1).toNatClampNeg), .int (xs (nI i + 2).toNatClampNeg)]) wC_adi wC_ge wCR hXC hPC hPR hS d_W_280 mx_L_of (tbl_in (List.mem_of_getElem? (i := 602) (by decide +kernel)) rfl) sC_83 rfl (c_L_of hIC) rfl rfl rfl rfl hl.1 (Nat.le_of_ble_eq_true rfl) ⟨Nat.le_of_ble_eq_true rfl, Nat.le_of_ble_eq_true rfl⟩ hf (fun r1 M3 H locs hr1 hPC2 hPR2 hS2 => ?_)
  obtain ⟨e1, e0⟩ := hr1
  have hIC2 : InvC M3 σ := by rw [e0]; exact hIC
  refine lv_aload_n C.1 C.2.1 d_W_283 rfl (lv_at hl 1 rfl) ?_
  refine lv_aload_n C.1 C.2.1 d_W_284 rfl (lv_at hl 3 rfl) ?_
  refine lv_iload_n C.1 C.2.1 d_W_285 rfl (lv_at hl 0 rfl) ?_
  refine lv_iconst (v := 1) C.1 C.2.1 d_W_286 (by decide) ?_
  refine lv_iadd C.1 C.2.1 d_W_287 ?_
  refine va_sld (A := fun q => s.heap.size ≤ q) C.1 C.2.1 hX hbl (Nat.not_le.mpr hbl) hS2 (rd_in (k := 1) h5 hL (by decide) rfl) d_W_288 ?_
  refine lv_aload_n C.1 C.2.1 d_W_289 rfl (lv_at hl 3 rfl) ?_
  refine lv_iload_n C.1 C.2.1 d_W_290 rfl (lv_at hl 0 rfl) ?_
  refine lv_iconst (v := 2) C.1 C.2.1 d_W_291 (by decide) ?_
  refine lv_iadd C.1 C.2.1 d_W_292 ?_
  refine va_sld (A := fun q => s.heap.size ≤ q) C.1 C.2.1 hX hbl (Nat.not_le.mpr hbl) hS2 (rd_in (k := 2) h5 hL (by decide) rfl) d_W_293 ?_
  refine lw_call C (ad := (wR sa D cA s.heap.size).1) (ad2 := (wC sa D cA s.heap.size).1) (As := [.int (xs (nI i + 1).toNatClampNeg), .int (xs (nI i + 2).toNatClampNeg)]) wR_adi wR_ge wRC hXR hPR2 hPC2 hS2 d_W_294 mx_M_of (tbl_in (List.mem_of_getElem? (i := 1161) (by decide +kernel)) rfl) sR_0 rfl (c_M_of hIR) rfl rfl rfl rfl hl.1 (Nat.le_of_ble_eq_true rfl) ⟨Nat.le_of_ble_eq_true rfl, Nat.le_of_ble_eq_true rfl⟩ hf (fun r2 M4 H locs hr2 hPR3 hPC3 hS3 => ?_)
  obtain ⟨e2, hIR3⟩ := hr2
  exact lv_icmp_eq C.1 C.2.1 d_W_297 (tgt := 1009) (by decide) (fun _ => K _ _ _ _ _ ⟨hPC3, hPR3, hIC2, hIR3, hS3⟩) (fun q => absurd (e1.trans e2.symm) q)
theorem lw_c4 (C : CA p s m args meth c R_law code 4 D cA) (hXC : SX (wC sa D cA s.heap.size) (AW (wC sa D cA s.heap.size) lyC s.heap.size) s s.heap) (hXR : SX (wR sa D cA s.heap.size) (AW (wR sa D cA s.heap.size) lyR s.heap.size) s s.heap) (hX : va_X b L xs s s.heap) (hbl : b < s.heap.size) (h5 : i + 5 ≤ L) (hL : L ≤ 2560) (hf : cells ≤ room_1.cells ∧ slots ≤ room_1.slots) (hI : LI D cA sa s H locs M1 M2 σ) (hl : lv_has ls 4 [(3, .int (nI i)), (2, .ref (s.heap.size + 84)), (1, .ref (s.heap.size + 0)), (0, .ref b)]) (K : ∀ H locs M1 M2 σ, LI D cA sa s H locs M1 M2 σ → W p l e room_1 s m args below meth c H locs cells slots Q (F0 m 1009 ls [])) : W p l e room_1 s m args below meth c H locs cells slots Q (F0 m 302 ls []) := by
  obtain ⟨hPC, hPR, hIC, hIR, hS⟩ := hI
  refine lv_aload_n C.1 C.2.1 d_W_302 rfl (lv_at hl 2 rfl) ?_
  refine lv_aload_n C.1 C.2.1 d_W_303 rfl (lv_at hl 3 rfl) ?_
  refine lv_iload_n C.1 C.2.1 d_W_304 rfl (lv_at hl 0 rfl) ?_
  refine lv_iconst (v := 1) C.1 C.2.1 d_W_305 (by decide) ?_
  refine lv_iadd C.1 C.2.1 d_W_306 ?_
  refine va_sld (A := fun q => s.heap.size ≤ q) C.1 C.2.1 hX hbl (Nat.not_le.mpr hbl) hS (rd_in (k := 1) h5 hL (by decide) rfl) d_W_307 ?_
  refine lw_call C (ad := (wC sa D cA s.heap.size).1) (ad2 := (wR sa D cA s.heap.size).1) (As := [.int (xs (nI i + 1).toNatClampNeg)]) wC_adi wC_ge wCR hXC hPC hPR hS d_W_308 mx_L_deal (tbl_in (List.mem_of_getElem? (i := 610) (by decide +kernel)) rfl) sC_83 rfl (c_L_deal hIC) rfl rfl rfl rfl hl.1 (Nat.le_of_ble_eq_true rfl) ⟨Nat.le_of_ble_eq_true rfl, Nat.le_of_ble_eq_true rfl⟩ hf (fun r1 M3 H locs hr1 hPC2 hPR2 hS2 => ?_)
  obtain ⟨e1, hIC2⟩ := hr1
  refine lv_aload_n C.1 C.2.1 d_W_311 rfl (lv_at hl 1 rfl) ?_
  refine lv_aload_n C.1 C.2.1 d_W_312 rfl (lv_at hl 3 rfl) ?_
  refine lv_iload_n C.1 C.2.1 d_W_313 rfl (lv_at hl 0 rfl) ?_
  refine lv_iconst (v := 1) C.1 C.2.1 d_W_314 (by decide) ?_
  refine lv_iadd C.1 C.2.1 d_W_315 ?_
  refine va_sld (A := fun q => s.heap.size ≤ q) C.1 C.2.1 hX hbl (Nat.not_le.mpr hbl) hS2 (rd_in (k := 1) h5 hL (by decide) rfl) d_W_316 ?_
  refine lw_call C (ad := (wR sa D cA s.heap.size).1) (ad2 := (wC sa D cA s.heap.size).1) (As := [.int (xs (nI i + 1).toNatClampNeg)]) wR_adi wR_ge wRC hXR hPR2 hPC2 hS2 d_W_317 mx_M_deal (tbl_in (List.mem_of_getElem? (i := 1173) (by decide +kernel)) rfl) sR_0 rfl (c_M_deal hIR) rfl rfl rfl rfl hl.1 (Nat.le_of_ble_eq_true rfl) ⟨Nat.le_of_ble_eq_true rfl, Nat.le_of_ble_eq_true rfl⟩ hf (fun r2 M4 H locs hr2 hPR3 hPC3 hS3 => ?_)
  obtain ⟨e2, hIR3⟩ := hr2
  exact lv_icmp_eq C.1 C.2.1 d_W_320 (tgt := 1009) (by decide) (fun _ => K _ _ _ _ _ ⟨hPC3, hPR3, hIC2, hIR3, hS3⟩) (fun q => absurd (e1.trans e2.symm) q)
theorem lw_c5 (C : CA p s m args meth c R_law code 4 D cA) (hXC : SX (wC sa D cA s.heap.size) (AW (wC sa D cA s.heap.size) lyC s.heap.size) s s.heap) (hXR : SX (wR sa D cA s.heap.size) (AW (wR sa D cA s.heap.size) lyR s.heap.size) s s.heap) (hX : va_X b L xs s s.heap) (hbl : b < s.heap.size) (h5 : i + 5 ≤ L) (hL : L ≤ 2560) (hf : cells ≤ room_1.cells ∧ slots ≤ room_1.slots) (hI : LI D cA sa s H locs M1 M2 σ) (hl : lv_has ls 4 [(3, .int (nI i)), (2, .ref (s.heap.size + 84)), (1, .ref (s.heap.size + 0)), (0, .ref b)]) (K : ∀ H locs M1 M2 σ, LI D cA sa s H locs M1 M2 σ → W p l e room_1 s m args below meth c H locs cells slots Q (F0 m 1009 ls [])) : W p l e room_1 s m args below meth c H locs cells slots Q (F0 m 325 ls []) := by
  obtain ⟨hPC, hPR, hIC, hIR, hS⟩ := hI
  refine lv_aload_n C.1 C.2.1 d_W_325 rfl (lv_at hl 2 rfl) ?_
  refine lv_aload_n C.1 C.2.1 d_W_326 rfl (lv_at hl 3 rfl) ?_
  refine lv_iload_n C.1 C.2.1 d_W_327 rfl (lv_at hl 0 rfl) ?_
  refine lv_iconst (v := 1) C.1 C.2.1 d_W_328 (by decide) ?_
  refine lv_iadd C.1 C.2.1 d_W_329 ?_
  refine va_sld (A := fun q => s.heap.size ≤ q) C.1 C.2.1 hX hbl (Nat.not_le.mpr hbl) hS (rd_in (k := 1) h5 hL (by decide) rfl) d_W_330 ?_
  refine lv_aload_n C.1 C.2.1 d_W_331 rfl (lv_at hl 3 rfl) ?_
  refine lv_iload_n C.1 C.2.1 d_W_332 rfl (lv_at hl 0 rfl) ?_
  refine lv_iconst (v := 2) C.1 C.2.1 d_W_333 (by decide) ?_
  refine lv_iadd C.1 C.2.1 d_W_334 ?_
  refine va_sld (A := fun q => s.heap.size ≤ q) C.1 C.2.1 hX hbl (Nat.not_le.mpr hbl) hS (rd_in (k := 2) h5 hL (by decide) rfl) d_W_335 ?_
  refine lw_call C (ad := (wC sa D cA s.heap.size).1) (ad2 := (wR sa D cA s.heap.size).1) (As := [.int (xs (nI i + 1).toNatClampNeg), .int (xs (nI i + 2).toNatClampNeg)]) wC_adi wC_ge wCR hXC hPC hPR hS d_W_336 mx_L_base (tbl_in (List.mem_of_getElem? (i := 618) (by decide +kernel)) rfl) sC_83 rfl (c_L_base hIC) rfl rfl rfl rfl hl.1 (Nat.le_of_ble_eq_true rfl) ⟨Nat.le_of_ble_eq_true rfl, Nat.le_of_ble_eq_true rfl⟩ hf (fun r1 M3 H locs hr1 hPC2 hPR2 hS2 => ?_)
  obtain ⟨e1, hIC2⟩ := hr1
  refine lv_aload_n C.1 C.2.1 d_W_339 rfl (lv_at hl 1 rfl) ?_
  refine lv_aload_n C.1 C.2.1 d_W_340 rfl (lv_at hl 3 rfl) ?_
  refine lv_iload_n C.1 C.2.1 d_W_341 rfl (lv_at hl 0 rfl) ?_
  refine lv_iconst (v := 1) C.1 C.2.1 d_W_342 (by decide) ?_
  refine lv_iadd C.1 C.2.1 d_W_343 ?_
  refine va_sld (A := fun q => s.heap.size ≤ q) C.1 C.2.1 hX hbl (Nat.not_le.mpr hbl) hS2 (rd_in (k := 1) h5 hL (by decide) rfl) d_W_344 ?_
  refine lv_aload_n C.1 C.2.1 d_W_345 rfl (lv_at hl 3 rfl) ?_
  refine lv_iload_n C.1 C.2.1 d_W_346 rfl (lv_at hl 0 rfl) ?_
  refine lv_iconst (v := 2) C.1 C.2.1 d_W_347 (by decide) ?_
  refine lv_iadd C.1 C.2.1 d_W_348 ?_
  refine va_sld (A := fun q => s.heap.size ≤ q) C.1 C.2.1 hX hbl (Nat.not_le.mpr hbl) hS2 (rd_in (k := 2) h5 hL (by decide) rfl) d_W_349 ?_
  refine lw_call C (ad := (wR sa D cA s.heap.size).1) (ad2 := (wC sa D cA s.heap.size).1) (As := [.int (xs (nI i + 1).toNatClampNeg), .int (xs (nI i + 2).toNatClampNeg)]) wR_adi wR_ge wRC hXR hPR2 hPC2 hS2 d_W_350 mx_M_base (tbl_in (List.mem_of_getElem? (i := 1177) (by decide +kernel)) rfl) sR_0 rfl (c_M_base hIR) rfl rfl rfl rfl hl.1 (Nat.le_of_ble_eq_true rfl) ⟨Nat.le_of_ble_eq_true rfl, Nat.le_of_ble_eq_true rfl⟩ hf (fun r2 M4 H locs hr2 hPR3 hPC3 hS3 => ?_)
  obtain ⟨e2, hIR3⟩ := hr2
  exact lv_icmp_eq C.1 C.2.1 d_W_353 (tgt := 1009) (by decide) (fun _ => K _ _ _ _ _ ⟨hPC3, hPR3, hIC2, hIR3, hS3⟩) (fun q => absurd (e1.trans e2.symm) q)
theorem lw_c6 (C : CA p s m args meth c R_law code 4 D cA) (hXC : SX (wC sa D cA s.heap.size) (AW (wC sa D cA s.heap.size) lyC s.heap.size) s s.heap) (hXR : SX (wR sa D cA s.heap.size) (AW (wR sa D cA s.heap.size) lyR s.heap.size) s s.heap) (hX : va_X b L xs s s.heap) (hbl : b < s.heap.size) (h5 : i + 5 ≤ L) (hL : L ≤ 2560) (hf : cells ≤ room_1.cells ∧ slots ≤ room_1.slots) (hI : LI D cA sa s H locs M1 M2 σ) (hl : lv_has ls 4 [(3, .int (nI i)), (2, .ref (s.heap.size + 84)), (1, .ref (s.heap.size + 0)), (0, .ref b)]) (K : ∀ H locs M1 M2 σ, LI D cA sa s H locs M1 M2 σ → W p l e room_1 s m args below meth c H locs cells slots Q (F0 m 1009 ls [])) : W p l e room_1 s m args below meth c H locs cells slots Q (F0 m 358 ls []) := by
  obtain ⟨hPC, hPR, hIC, hIR, hS⟩ := hI
  refine lv_aload_n C.1 C.2.1 d_W_358 rfl (lv_at hl 2 rfl) ?_
  refine lv_aload_n C.1 C.2.1 d_W_359 rfl (lv_at hl 3 rfl) ?_
  refine lv_iload_n C.1 C.2.1 d_W_360 rfl (lv_at hl 0 rfl) ?_
  refine lv_iconst (v := 1) C.1 C.2.1 d_W_361 (by decide) ?_
  refine lv_iadd C.1 C.2.1 d_W_362 ?_
  refine va_sld (A := fun q => s.heap.size ≤ q) C.1 C.2.1 hX hbl (Nat.not_le.mpr hbl) hS (rd_in (k := 1) h5 hL (by decide) rfl) d_W_363 ?_
  refine lv_aload_n C.1 C.2.1 d_W_364 rfl (lv_at hl 3 rfl) ?_
  refine lv_iload_n C.1 C.2.1 d_W_365 rfl (lv_at hl 0 rfl) ?_
  refine lv_iconst (v := 2) C.1 C.2.1 d_W_366 (by decide) ?_
  refine lv_iadd C.1 C.2.1 d_W_367 ?_
  refine va_sld (A := fun q => s.heap.size ≤ q) C.1 C.2.1 hX hbl (Nat.not_le.mpr hbl) hS (rd_in (k := 2) h5 hL (by decide) rfl) d_W_368 ?_
  refine lw_call C (ad := (wC sa D cA s.heap.size).1) (ad2 := (wR sa D cA s.heap.size).1) (As := [.int (xs (nI i + 1).toNatClampNeg), .int (xs (nI i + 2).toNatClampNeg)]) wC_adi wC_ge wCR hXC hPC hPR hS d_W_369 mx_L_mend (tbl_in (List.mem_of_getElem? (i := 624) (by decide +kernel)) rfl) sC_83 rfl (c_L_mend hIC) rfl rfl rfl rfl hl.1 (Nat.le_of_ble_eq_true rfl) ⟨Nat.le_of_ble_eq_true rfl, Nat.le_of_ble_eq_true rfl⟩ hf (fun r1 M3 H locs hr1 hPC2 hPR2 hS2 => ?_)
  obtain ⟨e1, hIC2⟩ := hr1
  refine lv_aload_n C.1 C.2.1 d_W_372 rfl (lv_at hl 1 rfl) ?_
  refine lv_aload_n C.1 C.2.1 d_W_373 rfl (lv_at hl 3 rfl) ?_
  refine lv_iload_n C.1 C.2.1 d_W_374 rfl (lv_at hl 0 rfl) ?_
  refine lv_iconst (v := 1) C.1 C.2.1 d_W_375 (by decide) ?_
  refine lv_iadd C.1 C.2.1 d_W_376 ?_
  refine va_sld (A := fun q => s.heap.size ≤ q) C.1 C.2.1 hX hbl (Nat.not_le.mpr hbl) hS2 (rd_in (k := 1) h5 hL (by decide) rfl) d_W_377 ?_
  refine lv_aload_n C.1 C.2.1 d_W_378 rfl (lv_at hl 3 rfl) ?_
  refine lv_iload_n C.1 C.2.1 d_W_379 rfl (lv_at hl 0 rfl) ?_
  refine lv_iconst (v := 2) C.1 C.2.1 d_W_380 (by decide) ?_
  refine lv_iadd C.1 C.2.1 d_W_381 ?_
  refine va_sld (A := fun q => s.heap.size ≤ q) C.1 C.2.1 hX hbl (Nat.not_le.mpr hbl) hS2 (rd_in (k := 2) h5 hL (by decide) rfl) d_W_382 ?_
  refine lw_call C (ad := (wR sa D cA s.heap.size).1) (ad2 := (wC sa D cA s.heap.size).1) (As := [.int (xs (nI i + 1).toNatClampNeg), .int (xs (nI i + 2).toNatClampNeg)]) wR_adi wR_ge wRC hXR hPR2 hPC2 hS2 d_W_383 mx_M_mend (tbl_in (List.mem_of_getElem? (i := 1182) (by decide +kernel)) rfl) sR_0 rfl (c_M_mend hIR) rfl rfl rfl rfl hl.1 (Nat.le_of_ble_eq_true rfl) ⟨Nat.le_of_ble_eq_true rfl, Nat.le_of_ble_eq_true rfl⟩ hf (fun r2 M4 H locs hr2 hPR3 hPC3 hS3 => ?_)
  obtain ⟨e2, hIR3⟩ := hr2
  exact lv_icmp_eq C.1 C.2.1 d_W_386 (tgt := 1009) (by decide) (fun _ => K _ _ _ _ _ ⟨hPC3, hPR3, hIC2, hIR3, hS3⟩) (fun q => absurd (e1.trans e2.symm) q)
theorem lw_c7 (C : CA p s m args meth c R_law code 4 D cA) (hXC : SX (wC sa D cA s.heap.size) (AW (wC sa D cA s.heap.size) lyC s.heap.size) s s.heap) (hXR : SX (wR sa D cA s.heap.size) (AW (wR sa D cA s.heap.size) lyR s.heap.size) s s.heap) (hX : va_X b L xs s s.heap) (hbl : b < s.heap.size) (h5 : i + 5 ≤ L) (hL : L ≤ 2560) (hf : cells ≤ room_1.cells ∧ slots ≤ room_1.slots) (hI : LI D cA sa s H locs M1 M2 σ) (hl : lv_has ls 4 [(3, .int (nI i)), (2, .ref (s.heap.size + 84)), (1, .ref (s.heap.size + 0)), (0, .ref b)]) (K : ∀ H locs M1 M2 σ, LI D cA sa s H locs M1 M2 σ → W p l e room_1 s m args below meth c H locs cells slots Q (F0 m 1009 ls [])) : W p l e room_1 s m args below meth c H locs cells slots Q (F0 m 391 ls []) := by
  obtain ⟨hPC, hPR, hIC, hIR, hS⟩ := hI
  refine lv_aload_n C.1 C.2.1 d_W_391 rfl (lv_at hl 2 rfl) ?_
  refine lv_aload_n C.1 C.2.1 d_W_392 rfl (lv_at hl 3 rfl) ?_
  refine lv_iload_n C.1 C.2.1 d_W_393 rfl (lv_at hl 0 rfl) ?_
  refine lv_iconst (v := 1) C.1 C.2.1 d_W_394 (by decide) ?_
  refine lv_iadd C.1 C.2.1 d_W_395 ?_
  refine va_sld (A := fun q => s.heap.size ≤ q) C.1 C.2.1 hX hbl (Nat.not_le.mpr hbl) hS (rd_in (k := 1) h5 hL (by decide) rfl) d_W_396 ?_
  refine lv_aload_n C.1 C.2.1 d_W_397 rfl (lv_at hl 3 rfl) ?_
  refine lv_iload_n C.1 C.2.1 d_W_398 rfl (lv_at hl 0 rfl) ?_
  refine lv_iconst (v := 2) C.1 C.2.1 d_W_399 (by decide) ?_
  refine lv_iadd C.1 C.2.1 d_W_400 ?_
  refine va_sld (A := fun q => s.heap.size ≤ q) C.1 C.2.1 hX hbl (Nat.not_le.mpr hbl) hS (rd_in (k := 2) h5 hL (by decide) rfl) d_W_401 ?_
  refine lw_call C (ad := (wC sa D cA s.heap.size).1) (ad2 := (wR sa D cA s.heap.size).1) (As := [.int (xs (nI i + 1).toNatClampNeg), .int (xs (nI i + 2).toNatClampNeg)]) wC_adi wC_ge wCR hXC hPC hPR hS d_W_402 mx_L_player (tbl_in (List.mem_of_getElem? (i := 628) (by decide +kernel)) rfl) sC_83 rfl (c_L_player hIC) rfl rfl rfl rfl hl.1 (Nat.le_of_ble_eq_true rfl) ⟨Nat.le_of_ble_eq_true rfl, Nat.le_of_ble_eq_true rfl⟩ hf (fun r1 M3 H locs hr1 hPC2 hPR2 hS2 => ?_)
  obtain ⟨e1, e0⟩ := hr1
  have hIC2 : InvC M3 σ := by rw [e0]; exact hIC
  refine lv_aload_n C.1 C.2.1 d_W_405 rfl (lv_at hl 1 rfl) ?_
  refine lv_aload_n C.1 C.2.1 d_W_406 rfl (lv_at hl 3 rfl) ?_
  refine lv_iload_n C.1 C.2.1 d_W_407 rfl (lv_at hl 0 rfl) ?_
  refine lv_iconst (v := 1) C.1 C.2.1 d_W_408 (by decide) ?_
  refine lv_iadd C.1 C.2.1 d_W_409 ?_
  refine va_sld (A := fun q => s.heap.size ≤ q) C.1 C.2.1 hX hbl (Nat.not_le.mpr hbl) hS2 (rd_in (k := 1) h5 hL (by decide) rfl) d_W_410 ?_
  refine lv_aload_n C.1 C.2.1 d_W_411 rfl (lv_at hl 3 rfl) ?_
  refine lv_iload_n C.1 C.2.1 d_W_412 rfl (lv_at hl 0 rfl) ?_
  refine lv_iconst (v := 2) C.1 C.2.1 d_W_413 (by decide) ?_
  refine lv_iadd C.1 C.2.1 d_W_414 ?_
  refine va_sld (A := fun q => s.heap.size ≤ q) C.1 C.2.1 hX hbl (Nat.not_le.mpr hbl) hS2 (rd_in (k := 2) h5 hL (by decide) rfl) d_W_415 ?_
  refine lw_call C (ad := (wR sa D cA s.heap.size).1) (ad2 := (wC sa D cA s.heap.size).1) (As := [.int (xs (nI i + 1).toNatClampNeg), .int (xs (nI i + 2).toNatClampNeg)]) wR_adi wR_ge wRC hXR hPR2 hPC2 hS2 d_W_416 mx_M_player (tbl_in (List.mem_of_getElem? (i := 1186) (by decide +kernel)) rfl) sR_0 rfl (c_M_player hIR) rfl rfl rfl rfl hl.1 (Nat.le_of_ble_eq_true rfl) ⟨Nat.le_of_ble_eq_true rfl, Nat.le_of_ble_eq_true rfl⟩ hf (fun r2 M4 H locs hr2 hPR3 hPC3 hS3 => ?_)
  obtain ⟨e2, hIR3⟩ := hr2
  exact lv_icmp_eq C.1 C.2.1 d_W_419 (tgt := 1009) (by decide) (fun _ => K _ _ _ _ _ ⟨hPC3, hPR3, hIC2, hIR3, hS3⟩) (fun q => absurd (e1.trans e2.symm) q)
theorem lw_c8 (C : CA p s m args meth c R_law code 4 D cA) (hXC : SX (wC sa D cA s.heap.size) (AW (wC sa D cA s.heap.size) lyC s.heap.size) s s.heap) (hXR : SX (wR sa D cA s.heap.size) (AW (wR sa D cA s.heap.size) lyR s.heap.size) s s.heap) (hX : va_X b L xs s s.heap) (hbl : b < s.heap.size) (h5 : i + 5 ≤ L) (hL : L ≤ 2560) (hf : cells ≤ room_1.cells ∧ slots ≤ room_1.slots) (hI : LI D cA sa s H locs M1 M2 σ) (hl : lv_has ls 4 [(3, .int (nI i)), (2, .ref (s.heap.size + 84)), (1, .ref (s.heap.size + 0)), (0, .ref b)]) (K : ∀ H locs M1 M2 σ, LI D cA sa s H locs M1 M2 σ → W p l e room_1 s m args below meth c H locs cells slots Q (F0 m 1009 ls [])) : W p l e room_1 s m args below meth c H locs cells slots Q (F0 m 424 ls []) := by
  obtain ⟨hPC, hPR, hIC, hIR, hS⟩ := hI
  refine lv_aload_n C.1 C.2.1 d_W_424 rfl (lv_at hl 2 rfl) ?_
  refine lv_aload_n C.1 C.2.1 d_W_425 rfl (lv_at hl 3 rfl) ?_
  refine lv_iload_n C.1 C.2.1 d_W_426 rfl (lv_at hl 0 rfl) ?_
  refine lv_iconst (v := 1) C.1 C.2.1 d_W_427 (by decide) ?_
  refine lv_iadd C.1 C.2.1 d_W_428 ?_
  refine va_sld (A := fun q => s.heap.size ≤ q) C.1 C.2.1 hX hbl (Nat.not_le.mpr hbl) hS (rd_in (k := 1) h5 hL (by decide) rfl) d_W_429 ?_
  refine lw_call C (ad := (wC sa D cA s.heap.size).1) (ad2 := (wR sa D cA s.heap.size).1) (As := [.int (xs (nI i + 1).toNatClampNeg)]) wC_adi wC_ge wCR hXC hPC hPR hS d_W_430 mx_L_value (tbl_in (List.mem_of_getElem? (i := 637) (by decide +kernel)) rfl) sC_83 rfl (c_L_value hIC) rfl rfl rfl rfl hl.1 (Nat.le_of_ble_eq_true rfl) ⟨Nat.le_of_ble_eq_true rfl, Nat.le_of_ble_eq_true rfl⟩ hf (fun r1 M3 H locs hr1 hPC2 hPR2 hS2 => ?_)
  obtain ⟨e1, hIC2⟩ := hr1
  refine lv_aload_n C.1 C.2.1 d_W_433 rfl (lv_at hl 1 rfl) ?_
  refine lv_aload_n C.1 C.2.1 d_W_434 rfl (lv_at hl 3 rfl) ?_
  refine lv_iload_n C.1 C.2.1 d_W_435 rfl (lv_at hl 0 rfl) ?_
  refine lv_iconst (v := 1) C.1 C.2.1 d_W_436 (by decide) ?_
  refine lv_iadd C.1 C.2.1 d_W_437 ?_
  refine va_sld (A := fun q => s.heap.size ≤ q) C.1 C.2.1 hX hbl (Nat.not_le.mpr hbl) hS2 (rd_in (k := 1) h5 hL (by decide) rfl) d_W_438 ?_
  refine lw_call C (ad := (wR sa D cA s.heap.size).1) (ad2 := (wC sa D cA s.heap.size).1) (As := [.int (xs (nI i + 1).toNatClampNeg)]) wR_adi wR_ge wRC hXR hPR2 hPC2 hS2 d_W_439 mx_M_value (tbl_in (List.mem_of_getElem? (i := 1194) (by decide +kernel)) rfl) sR_0 rfl (c_M_value hIR) rfl rfl rfl rfl hl.1 (Nat.le_of_ble_eq_true rfl) ⟨Nat.le_of_ble_eq_true rfl, Nat.le_of_ble_eq_true rfl⟩ hf (fun r2 M4 H locs hr2 hPR3 hPC3 hS3 => ?_)
  obtain ⟨e2, hIR3⟩ := hr2
  exact lv_icmp_eq C.1 C.2.1 d_W_442 (tgt := 1009) (by decide) (fun _ => K _ _ _ _ _ ⟨hPC3, hPR3, hIC2, hIR3, hS3⟩) (fun q => absurd (e1.trans e2.symm) q)
theorem lw_c9 (C : CA p s m args meth c R_law code 4 D cA) (hXC : SX (wC sa D cA s.heap.size) (AW (wC sa D cA s.heap.size) lyC s.heap.size) s s.heap) (hXR : SX (wR sa D cA s.heap.size) (AW (wR sa D cA s.heap.size) lyR s.heap.size) s s.heap) (hX : va_X b L xs s s.heap) (hbl : b < s.heap.size) (h5 : i + 5 ≤ L) (hL : L ≤ 2560) (hf : cells ≤ room_1.cells ∧ slots ≤ room_1.slots) (hI : LI D cA sa s H locs M1 M2 σ) (hl : lv_has ls 4 [(3, .int (nI i)), (2, .ref (s.heap.size + 84)), (1, .ref (s.heap.size + 0)), (0, .ref b)]) (K : ∀ H locs M1 M2 σ, LI D cA sa s H locs M1 M2 σ → W p l e room_1 s m args below meth c H locs cells slots Q (F0 m 1009 ls [])) : W p l e room_1 s m args below meth c H locs cells slots Q (F0 m 447 ls []) := by
  obtain ⟨hPC, hPR, hIC, hIR, hS⟩ := hI
  refine lv_aload_n C.1 C.2.1 d_W_447 rfl (lv_at hl 2 rfl) ?_
  refine lv_aload_n C.1 C.2.1 d_W_448 rfl (lv_at hl 3 rfl) ?_
  refine lv_iload_n C.1 C.2.1 d_W_449 rfl (lv_at hl 0 rfl) ?_
  refine lv_iconst (v := 1) C.1 C.2.1 d_W_450 (by decide) ?_
  refine lv_iadd C.1 C.2.1 d_W_451 ?_
  refine va_sld (A := fun q => s.heap.size ≤ q) C.1 C.2.1 hX hbl (Nat.not_le.mpr hbl) hS (rd_in (k := 1) h5 hL (by decide) rfl) d_W_452 ?_
  refine lw_call C (ad := (wC sa D cA s.heap.size).1) (ad2 := (wR sa D cA s.heap.size).1) (As := [.int (xs (nI i + 1).toNatClampNeg)]) wC_adi wC_ge wCR hXC hPC hPR hS d_W_453 mx_L_layer (tbl_in (List.mem_of_getElem? (i := 688) (by decide +kernel)) rfl) sC_83 rfl (c_L_layer hIC) rfl rfl rfl rfl hl.1 (Nat.le_of_ble_eq_true rfl) ⟨Nat.le_of_ble_eq_true rfl, Nat.le_of_ble_eq_true rfl⟩ hf (fun r1 M3 H locs hr1 hPC2 hPR2 hS2 => ?_)
  obtain ⟨e1, hIC2⟩ := hr1
  refine lv_aload_n C.1 C.2.1 d_W_456 rfl (lv_at hl 1 rfl) ?_
  refine lv_aload_n C.1 C.2.1 d_W_457 rfl (lv_at hl 3 rfl) ?_
  refine lv_iload_n C.1 C.2.1 d_W_458 rfl (lv_at hl 0 rfl) ?_
  refine lv_iconst (v := 1) C.1 C.2.1 d_W_459 (by decide) ?_
  refine lv_iadd C.1 C.2.1 d_W_460 ?_
  refine va_sld (A := fun q => s.heap.size ≤ q) C.1 C.2.1 hX hbl (Nat.not_le.mpr hbl) hS2 (rd_in (k := 1) h5 hL (by decide) rfl) d_W_461 ?_
  refine lw_call C (ad := (wR sa D cA s.heap.size).1) (ad2 := (wC sa D cA s.heap.size).1) (As := [.int (xs (nI i + 1).toNatClampNeg)]) wR_adi wR_ge wRC hXR hPR2 hPC2 hS2 d_W_462 mx_M_layer (tbl_in (List.mem_of_getElem? (i := 1233) (by decide +kernel)) rfl) sR_0 rfl (c_M_layer hIR) rfl rfl rfl rfl hl.1 (Nat.le_of_ble_eq_true rfl) ⟨Nat.le_of_ble_eq_true rfl, Nat.le_of_ble_eq_true rfl⟩ hf (fun r2 M4 H locs hr2 hPR3 hPC3 hS3 => ?_)
  obtain ⟨e2, hIR3⟩ := hr2
  exact lv_icmp_eq C.1 C.2.1 d_W_465 (tgt := 1009) (by decide) (fun _ => K _ _ _ _ _ ⟨hPC3, hPR3, hIC2, hIR3, hS3⟩) (fun q => absurd (e1.trans e2.symm) q)
theorem lw_c10 (C : CA p s m args meth c R_law code 4 D cA) (hXC : SX (wC sa D cA s.heap.size) (AW (wC sa D cA s.heap.size) lyC s.heap.size) s s.heap) (hXR : SX (wR sa D cA s.heap.size) (AW (wR sa D cA s.heap.size) lyR s.heap.size) s s.heap) (hX : va_X b L xs s s.heap) (hbl : b < s.heap.size) (h5 : i + 5 ≤ L) (hL : L ≤ 2560) (hf : cells ≤ room_1.cells ∧ slots ≤ room_1.slots) (hI : LI D cA sa s H locs M1 M2 σ) (hl : lv_has ls 4 [(3, .int (nI i)), (2, .ref (s.heap.size + 84)), (1, .ref (s.heap.size + 0)), (0, .ref b)]) (K : ∀ H locs M1 M2 σ, LI D cA sa s H locs M1 M2 σ → W p l e room_1 s m args below meth c H locs cells slots Q (F0 m 1009 ls [])) : W p l e room_1 s m args below meth c H locs cells slots Q (F0 m 470 ls []) := by
  obtain ⟨hPC, hPR, hIC, hIR, hS⟩ := hI
  refine lv_aload_n C.1 C.2.1 d_W_470 rfl (lv_at hl 2 rfl) ?_
  refine lv_aload_n C.1 C.2.1 d_W_471 rfl (lv_at hl 3 rfl) ?_
  refine lv_iload_n C.1 C.2.1 d_W_472 rfl (lv_at hl 0 rfl) ?_
  refine lv_iconst (v := 1) C.1 C.2.1 d_W_473 (by decide) ?_
  refine lv_iadd C.1 C.2.1 d_W_474 ?_
  refine va_sld (A := fun q => s.heap.size ≤ q) C.1 C.2.1 hX hbl (Nat.not_le.mpr hbl) hS (rd_in (k := 1) h5 hL (by decide) rfl) d_W_475 ?_
  refine lv_aload_n C.1 C.2.1 d_W_476 rfl (lv_at hl 3 rfl) ?_
  refine lv_iload_n C.1 C.2.1 d_W_477 rfl (lv_at hl 0 rfl) ?_
  refine lv_iconst (v := 2) C.1 C.2.1 d_W_478 (by decide) ?_
  refine lv_iadd C.1 C.2.1 d_W_479 ?_
  refine va_sld (A := fun q => s.heap.size ≤ q) C.1 C.2.1 hX hbl (Nat.not_le.mpr hbl) hS (rd_in (k := 2) h5 hL (by decide) rfl) d_W_480 ?_
  refine lw_call C (ad := (wC sa D cA s.heap.size).1) (ad2 := (wR sa D cA s.heap.size).1) (As := [.int (xs (nI i + 1).toNatClampNeg), .int (xs (nI i + 2).toNatClampNeg)]) wC_adi wC_ge wCR hXC hPC hPR hS d_W_481 mx_L_depends (tbl_in (List.mem_of_getElem? (i := 692) (by decide +kernel)) rfl) sC_83 rfl (c_L_depends hIC) rfl rfl rfl rfl hl.1 (Nat.le_of_ble_eq_true rfl) ⟨Nat.le_of_ble_eq_true rfl, Nat.le_of_ble_eq_true rfl⟩ hf (fun r1 M3 H locs hr1 hPC2 hPR2 hS2 => ?_)
  obtain ⟨e1, e0⟩ := hr1
  have hIC2 : InvC M3 σ := by rw [e0]; exact hIC
  refine lv_aload_n C.1 C.2.1 d_W_484 rfl (lv_at hl 1 rfl) ?_
  refine lv_aload_n C.1 C.2.1 d_W_485 rfl (lv_at hl 3 rfl) ?_
  refine lv_iload_n C.1 C.2.1 d_W_486 rfl (lv_at hl 0 rfl) ?_
  refine lv_iconst (v := 1) C.1 C.2.1 d_W_487 (by decide) ?_
  refine lv_iadd C.1 C.2.1 d_W_488 ?_
  refine va_sld (A := fun q => s.heap.size ≤ q) C.1 C.2.1 hX hbl (Nat.not_le.mpr hbl) hS2 (rd_in (k := 1) h5 hL (by decide) rfl) d_W_489 ?_
  refine lv_aload_n C.1 C.2.1 d_W_490 rfl (lv_at hl 3 rfl) ?_
  refine lv_iload_n C.1 C.2.1 d_W_491 rfl (lv_at hl 0 rfl) ?_
  refine lv_iconst (v := 2) C.1 C.2.1 d_W_492 (by decide) ?_
  refine lv_iadd C.1 C.2.1 d_W_493 ?_
  refine va_sld (A := fun q => s.heap.size ≤ q) C.1 C.2.1 hX hbl (Nat.not_le.mpr hbl) hS2 (rd_in (k := 2) h5 hL (by decide) rfl) d_W_494 ?_
  refine lw_call C (ad := (wR sa D cA s.heap.size).1) (ad2 := (wC sa D cA s.heap.size).1) (As := [.int (xs (nI i + 1).toNatClampNeg), .int (xs (nI i + 2).toNatClampNeg)]) wR_adi wR_ge wRC hXR hPR2 hPC2 hS2 d_W_495 mx_M_depends (tbl_in (List.mem_of_getElem? (i := 1237) (by decide +kernel)) rfl) sR_0 rfl (c_M_depends hIR) rfl rfl rfl rfl hl.1 (Nat.le_of_ble_eq_true rfl) ⟨Nat.le_of_ble_eq_true rfl, Nat.le_of_ble_eq_true rfl⟩ hf (fun r2 M4 H locs hr2 hPR3 hPC3 hS3 => ?_)
  obtain ⟨e2, hIR3⟩ := hr2
  exact lv_icmp_eq C.1 C.2.1 d_W_498 (tgt := 1009) (by decide) (fun _ => K _ _ _ _ _ ⟨hPC3, hPR3, hIC2, hIR3, hS3⟩) (fun q => absurd (e1.trans e2.symm) q)
theorem lw_c11 (C : CA p s m args meth c R_law code 4 D cA) (hXC : SX (wC sa D cA s.heap.size) (AW (wC sa D cA s.heap.size) lyC s.heap.size) s s.heap) (hXR : SX (wR sa D cA s.heap.size) (AW (wR sa D cA s.heap.size) lyR s.heap.size) s s.heap) (hX : va_X b L xs s s.heap) (hbl : b < s.heap.size) (h5 : i + 5 ≤ L) (hL : L ≤ 2560) (hf : cells ≤ room_1.cells ∧ slots ≤ room_1.slots) (hI : LI D cA sa s H locs M1 M2 σ) (hl : lv_has ls 4 [(3, .int (nI i)), (2, .ref (s.heap.size + 84)), (1, .ref (s.heap.size + 0)), (0, .ref b)]) (K : ∀ H locs M1 M2 σ, LI D cA sa s H locs M1 M2 σ → W p l e room_1 s m args below meth c H locs cells slots Q (F0 m 1009 ls [])) : W p l e room_1 s m args below meth c H locs cells slots Q (F0 m 503 ls []) := by
  obtain ⟨hPC, hPR, hIC, hIR, hS⟩ := hI
  refine lv_aload_n C.1 C.2.1 d_W_503 rfl (lv_at hl 2 rfl) ?_
  refine lv_aload_n C.1 C.2.1 d_W_504 rfl (lv_at hl 3 rfl) ?_
  refine lv_iload_n C.1 C.2.1 d_W_505 rfl (lv_at hl 0 rfl) ?_
  refine lv_iconst (v := 1) C.1 C.2.1 d_W_506 (by decide) ?_
  refine lv_iadd C.1 C.2.1 d_W_507 ?_
  refine va_sld (A := fun q => s.heap.size ≤ q) C.1 C.2.1 hX hbl (Nat.not_le.mpr hbl) hS (rd_in (k := 1) h5 hL (by decide) rfl) d_W_508 ?_
  refine lv_aload_n C.1 C.2.1 d_W_509 rfl (lv_at hl 3 rfl) ?_
  refine lv_iload_n C.1 C.2.1 d_W_510 rfl (lv_at hl 0 rfl) ?_
  refine lv_iconst (v := 2) C.1 C.2.1 d_W_511 (by decide) ?_
  refine lv_iadd C.1 C.2.1 d_W_512 ?_
  refine va_sld (A := fun q => s.heap.size ≤ q) C.1 C.2.1 hX hbl (Nat.not_le.mpr hbl) hS (rd_in (k := 2) h5 hL (by decide) rfl) d_W_513 ?_
  refine lw_call C (ad := (wC sa D cA s.heap.size).1) (ad2 := (wR sa D cA s.heap.size).1) (As := [.int (xs (nI i + 1).toNatClampNeg), .int (xs (nI i + 2).toNatClampNeg)]) wC_adi wC_ge wCR hXC hPC hPR hS d_W_514 mx_L_used (tbl_in (List.mem_of_getElem? (i := 702) (by decide +kernel)) rfl) sC_83 rfl (c_L_used hIC) rfl rfl rfl rfl hl.1 (Nat.le_of_ble_eq_true rfl) ⟨Nat.le_of_ble_eq_true rfl, Nat.le_of_ble_eq_true rfl⟩ hf (fun r1 M3 H locs hr1 hPC2 hPR2 hS2 => ?_)
  obtain ⟨e1, hIC2⟩ := hr1
  refine lv_aload_n C.1 C.2.1 d_W_517 rfl (lv_at hl 1 rfl) ?_
  refine lv_aload_n C.1 C.2.1 d_W_518 rfl (lv_at hl 3 rfl) ?_
  refine lv_iload_n C.1 C.2.1 d_W_519 rfl (lv_at hl 0 rfl) ?_
  refine lv_iconst (v := 1) C.1 C.2.1 d_W_520 (by decide) ?_
  refine lv_iadd C.1 C.2.1 d_W_521 ?_
  refine va_sld (A := fun q => s.heap.size ≤ q) C.1 C.2.1 hX hbl (Nat.not_le.mpr hbl) hS2 (rd_in (k := 1) h5 hL (by decide) rfl) d_W_522 ?_
  refine lv_aload_n C.1 C.2.1 d_W_523 rfl (lv_at hl 3 rfl) ?_
  refine lv_iload_n C.1 C.2.1 d_W_524 rfl (lv_at hl 0 rfl) ?_
  refine lv_iconst (v := 2) C.1 C.2.1 d_W_525 (by decide) ?_
  refine lv_iadd C.1 C.2.1 d_W_526 ?_
  refine va_sld (A := fun q => s.heap.size ≤ q) C.1 C.2.1 hX hbl (Nat.not_le.mpr hbl) hS2 (rd_in (k := 2) h5 hL (by decide) rfl) d_W_527 ?_
  refine lw_call C (ad := (wR sa D cA s.heap.size).1) (ad2 := (wC sa D cA s.heap.size).1) (As := [.int (xs (nI i + 1).toNatClampNeg), .int (xs (nI i + 2).toNatClampNeg)]) wR_adi wR_ge wRC hXR hPR2 hPC2 hS2 d_W_528 mx_M_used (tbl_in (List.mem_of_getElem? (i := 1241) (by decide +kernel)) rfl) sR_0 rfl (c_M_used hIR) rfl rfl rfl rfl hl.1 (Nat.le_of_ble_eq_true rfl) ⟨Nat.le_of_ble_eq_true rfl, Nat.le_of_ble_eq_true rfl⟩ hf (fun r2 M4 H locs hr2 hPR3 hPC3 hS3 => ?_)
  obtain ⟨e2, hIR3⟩ := hr2
  exact lv_icmp_eq C.1 C.2.1 d_W_531 (tgt := 1009) (by decide) (fun _ => K _ _ _ _ _ ⟨hPC3, hPR3, hIC2, hIR3, hS3⟩) (fun q => absurd (e1.trans e2.symm) q)
theorem lw_c12 (C : CA p s m args meth c R_law code 4 D cA) (hXC : SX (wC sa D cA s.heap.size) (AW (wC sa D cA s.heap.size) lyC s.heap.size) s s.heap) (hXR : SX (wR sa D cA s.heap.size) (AW (wR sa D cA s.heap.size) lyR s.heap.size) s s.heap) (hX : va_X b L xs s s.heap) (hbl : b < s.heap.size) (h5 : i + 5 ≤ L) (hL : L ≤ 2560) (hf : cells ≤ room_1.cells ∧ slots ≤ room_1.slots) (hI : LI D cA sa s H locs M1 M2 σ) (hl : lv_has ls 4 [(3, .int (nI i)), (2, .ref (s.heap.size + 84)), (1, .ref (s.heap.size + 0)), (0, .ref b)]) (K : ∀ H locs M1 M2 σ, LI D cA sa s H locs M1 M2 σ → W p l e room_1 s m args below meth c H locs cells slots Q (F0 m 1009 ls [])) : W p l e room_1 s m args below meth c H locs cells slots Q (F0 m 536 ls []) := by
  obtain ⟨hPC, hPR, hIC, hIR, hS⟩ := hI
  refine lv_aload_n C.1 C.2.1 d_W_536 rfl (lv_at hl 2 rfl) ?_
  refine lv_aload_n C.1 C.2.1 d_W_537 rfl (lv_at hl 3 rfl) ?_
  refine lv_iload_n C.1 C.2.1 d_W_538 rfl (lv_at hl 0 rfl) ?_
  refine lv_iconst (v := 1) C.1 C.2.1 d_W_539 (by decide) ?_
  refine lv_iadd C.1 C.2.1 d_W_540 ?_
  refine va_sld (A := fun q => s.heap.size ≤ q) C.1 C.2.1 hX hbl (Nat.not_le.mpr hbl) hS (rd_in (k := 1) h5 hL (by decide) rfl) d_W_541 ?_
  refine lw_call C (ad := (wC sa D cA s.heap.size).1) (ad2 := (wR sa D cA s.heap.size).1) (As := [.int (xs (nI i + 1).toNatClampNeg)]) wC_adi wC_ge wCR hXC hPC hPR hS d_W_542 mx_L_play (tbl_in (List.mem_of_getElem? (i := 740) (by decide +kernel)) rfl) sC_83 rfl (c_L_play hIC) rfl rfl rfl rfl hl.1 (Nat.le_of_ble_eq_true rfl) ⟨Nat.le_of_ble_eq_true rfl, Nat.le_of_ble_eq_true rfl⟩ hf (fun r1 M3 H locs hr1 hPC2 hPR2 hS2 => ?_)
  obtain ⟨e1, hIC2⟩ := hr1
  refine lv_aload_n C.1 C.2.1 d_W_545 rfl (lv_at hl 1 rfl) ?_
  refine lv_aload_n C.1 C.2.1 d_W_546 rfl (lv_at hl 3 rfl) ?_
  refine lv_iload_n C.1 C.2.1 d_W_547 rfl (lv_at hl 0 rfl) ?_
  refine lv_iconst (v := 1) C.1 C.2.1 d_W_548 (by decide) ?_
  refine lv_iadd C.1 C.2.1 d_W_549 ?_
  refine va_sld (A := fun q => s.heap.size ≤ q) C.1 C.2.1 hX hbl (Nat.not_le.mpr hbl) hS2 (rd_in (k := 1) h5 hL (by decide) rfl) d_W_550 ?_
  refine lw_call C (ad := (wR sa D cA s.heap.size).1) (ad2 := (wC sa D cA s.heap.size).1) (As := [.int (xs (nI i + 1).toNatClampNeg)]) wR_adi wR_ge wRC hXR hPR2 hPC2 hS2 d_W_551 mx_M_play (tbl_in (List.mem_of_getElem? (i := 1261) (by decide +kernel)) rfl) sR_0 rfl (c_M_play hIR) rfl rfl rfl rfl hl.1 (Nat.le_of_ble_eq_true rfl) ⟨Nat.le_of_ble_eq_true rfl, Nat.le_of_ble_eq_true rfl⟩ hf (fun r2 M4 H locs hr2 hPR3 hPC3 hS3 => ?_)
  obtain ⟨e2, hIR3⟩ := hr2
  exact lv_icmp_eq C.1 C.2.1 d_W_554 (tgt := 1009) (by decide) (fun _ => K _ _ _ _ _ ⟨hPC3, hPR3, hIC2, hIR3, hS3⟩) (fun q => absurd (e1.trans e2.symm) q)
theorem lw_c13 (C : CA p s m args meth c R_law code 4 D cA) (hXC : SX (wC sa D cA s.heap.size) (AW (wC sa D cA s.heap.size) lyC s.heap.size) s s.heap) (hXR : SX (wR sa D cA s.heap.size) (AW (wR sa D cA s.heap.size) lyR s.heap.size) s s.heap) (hX : va_X b L xs s s.heap) (hbl : b < s.heap.size) (h5 : i + 5 ≤ L) (hL : L ≤ 2560) (hf : cells ≤ room_1.cells ∧ slots ≤ room_1.slots) (hI : LI D cA sa s H locs M1 M2 σ) (hl : lv_has ls 4 [(3, .int (nI i)), (2, .ref (s.heap.size + 84)), (1, .ref (s.heap.size + 0)), (0, .ref b)]) (K : ∀ H locs M1 M2 σ, LI D cA sa s H locs M1 M2 σ → W p l e room_1 s m args below meth c H locs cells slots Q (F0 m 1009 ls [])) : W p l e room_1 s m args below meth c H locs cells slots Q (F0 m 559 ls []) := by
  obtain ⟨hPC, hPR, hIC, hIR, hS⟩ := hI
  refine lv_aload_n C.1 C.2.1 d_W_559 rfl (lv_at hl 2 rfl) ?_
  refine lv_aload_n C.1 C.2.1 d_W_560 rfl (lv_at hl 3 rfl) ?_
  refine lv_iload_n C.1 C.2.1 d_W_561 rfl (lv_at hl 0 rfl) ?_
  refine lv_iconst (v := 1) C.1 C.2.1 d_W_562 (by decide) ?_
  refine lv_iadd C.1 C.2.1 d_W_563 ?_
  refine va_sld (A := fun q => s.heap.size ≤ q) C.1 C.2.1 hX hbl (Nat.not_le.mpr hbl) hS (rd_in (k := 1) h5 hL (by decide) rfl) d_W_564 ?_
  refine lw_call C (ad := (wC sa D cA s.heap.size).1) (ad2 := (wR sa D cA s.heap.size).1) (As := [.int (xs (nI i + 1).toNatClampNeg)]) wC_adi wC_ge wCR hXC hPC hPR hS d_W_565 mx_L_pile (tbl_in (List.mem_of_getElem? (i := 753) (by decide +kernel)) rfl) sC_83 rfl (c_L_pile hIC) rfl rfl rfl rfl hl.1 (Nat.le_of_ble_eq_true rfl) ⟨Nat.le_of_ble_eq_true rfl, Nat.le_of_ble_eq_true rfl⟩ hf (fun r1 M3 H locs hr1 hPC2 hPR2 hS2 => ?_)
  obtain ⟨e1, e0⟩ := hr1
  have hIC2 : InvC M3 σ := by rw [e0]; exact hIC
  refine lv_aload_n C.1 C.2.1 d_W_568 rfl (lv_at hl 1 rfl) ?_
  refine lv_aload_n C.1 C.2.1 d_W_569 rfl (lv_at hl 3 rfl) ?_
  refine lv_iload_n C.1 C.2.1 d_W_570 rfl (lv_at hl 0 rfl) ?_
  refine lv_iconst (v := 1) C.1 C.2.1 d_W_571 (by decide) ?_
  refine lv_iadd C.1 C.2.1 d_W_572 ?_
  refine va_sld (A := fun q => s.heap.size ≤ q) C.1 C.2.1 hX hbl (Nat.not_le.mpr hbl) hS2 (rd_in (k := 1) h5 hL (by decide) rfl) d_W_573 ?_
  refine lw_call C (ad := (wR sa D cA s.heap.size).1) (ad2 := (wC sa D cA s.heap.size).1) (As := [.int (xs (nI i + 1).toNatClampNeg)]) wR_adi wR_ge wRC hXR hPR2 hPC2 hS2 d_W_574 mx_M_pile (tbl_in (List.mem_of_getElem? (i := 1273) (by decide +kernel)) rfl) sR_0 rfl (c_M_pile hIR) rfl rfl rfl rfl hl.1 (Nat.le_of_ble_eq_true rfl) ⟨Nat.le_of_ble_eq_true rfl, Nat.le_of_ble_eq_true rfl⟩ hf (fun r2 M4 H locs hr2 hPR3 hPC3 hS3 => ?_)
  obtain ⟨e2, hIR3⟩ := hr2
  exact lv_icmp_eq C.1 C.2.1 d_W_577 (tgt := 1009) (by decide) (fun _ => K _ _ _ _ _ ⟨hPC3, hPR3, hIC2, hIR3, hS3⟩) (fun q => absurd (e1.trans e2.symm) q)
theorem lw_c14 (C : CA p s m args meth c R_law code 4 D cA) (hXC : SX (wC sa D cA s.heap.size) (AW (wC sa D cA s.heap.size) lyC s.heap.size) s s.heap) (hXR : SX (wR sa D cA s.heap.size) (AW (wR sa D cA s.heap.size) lyR s.heap.size) s s.heap) (hX : va_X b L xs s s.heap) (hbl : b < s.heap.size) (h5 : i + 5 ≤ L) (hL : L ≤ 2560) (hf : cells ≤ room_1.cells ∧ slots ≤ room_1.slots) (hI : LI D cA sa s H locs M1 M2 σ) (hl : lv_has ls 4 [(3, .int (nI i)), (2, .ref (s.heap.size + 84)), (1, .ref (s.heap.size + 0)), (0, .ref b)]) (K : ∀ H locs M1 M2 σ, LI D cA sa s H locs M1 M2 σ → W p l e room_1 s m args below meth c H locs cells slots Q (F0 m 1009 ls [])) : W p l e room_1 s m args below meth c H locs cells slots Q (F0 m 582 ls []) := by
  obtain ⟨hPC, hPR, hIC, hIR, hS⟩ := hI
  refine lv_aload_n C.1 C.2.1 d_W_582 rfl (lv_at hl 2 rfl) ?_
  refine lw_call C (ad := (wC sa D cA s.heap.size).1) (ad2 := (wR sa D cA s.heap.size).1) (As := []) wC_adi wC_ge wCR hXC hPC hPR hS d_W_583 mx_L_resolve (tbl_in (List.mem_of_getElem? (i := 757) (by decide +kernel)) rfl) sC_83 rfl (c_L_resolve hIC) rfl rfl rfl rfl hl.1 (Nat.le_of_ble_eq_true rfl) ⟨Nat.le_of_ble_eq_true rfl, Nat.le_of_ble_eq_true rfl⟩ hf (fun r1 M3 H locs hr1 hPC2 hPR2 hS2 => ?_)
  obtain ⟨e1, hIC2⟩ := hr1
  refine lv_aload_n C.1 C.2.1 d_W_586 rfl (lv_at hl 1 rfl) ?_
  refine lw_call C (ad := (wR sa D cA s.heap.size).1) (ad2 := (wC sa D cA s.heap.size).1) (As := []) wR_adi wR_ge wRC hXR hPR2 hPC2 hS2 d_W_587 mx_M_resolve (tbl_in (List.mem_of_getElem? (i := 1277) (by decide +kernel)) rfl) sR_0 rfl (c_M_resolve hIR) rfl rfl rfl rfl hl.1 (Nat.le_of_ble_eq_true rfl) ⟨Nat.le_of_ble_eq_true rfl, Nat.le_of_ble_eq_true rfl⟩ hf (fun r2 M4 H locs hr2 hPR3 hPC3 hS3 => ?_)
  obtain ⟨e2, hIR3⟩ := hr2
  exact lv_icmp_eq C.1 C.2.1 d_W_590 (tgt := 1009) (by decide) (fun _ => K _ _ _ _ _ ⟨hPC3, hPR3, hIC2, hIR3, hS3⟩) (fun q => absurd (e1.trans e2.symm) q)
theorem lw_c15 (C : CA p s m args meth c R_law code 4 D cA) (hXC : SX (wC sa D cA s.heap.size) (AW (wC sa D cA s.heap.size) lyC s.heap.size) s s.heap) (hXR : SX (wR sa D cA s.heap.size) (AW (wR sa D cA s.heap.size) lyR s.heap.size) s s.heap) (hX : va_X b L xs s s.heap) (hbl : b < s.heap.size) (h5 : i + 5 ≤ L) (hL : L ≤ 2560) (hf : cells ≤ room_1.cells ∧ slots ≤ room_1.slots) (hI : LI D cA sa s H locs M1 M2 σ) (hl : lv_has ls 4 [(3, .int (nI i)), (2, .ref (s.heap.size + 84)), (1, .ref (s.heap.size + 0)), (0, .ref b)]) (K : ∀ H locs M1 M2 σ, LI D cA sa s H locs M1 M2 σ → W p l e room_1 s m args below meth c H locs cells slots Q (F0 m 1009 ls [])) : W p l e room_1 s m args below meth c H locs cells slots Q (F0 m 595 ls []) := by
  obtain ⟨hPC, hPR, hIC, hIR, hS⟩ := hI
  refine lv_aload_n C.1 C.2.1 d_W_595 rfl (lv_at hl 2 rfl) ?_
  refine lw_call C (ad := (wC sa D cA s.heap.size).1) (ad2 := (wR sa D cA s.heap.size).1) (As := []) wC_adi wC_ge wCR hXC hPC hPR hS d_W_596 mx_L_run (tbl_in (List.mem_of_getElem? (i := 843) (by decide +kernel)) rfl) sC_83 rfl (c_L_run hIC) rfl rfl rfl rfl hl.1 (Nat.le_of_ble_eq_true rfl) ⟨Nat.le_of_ble_eq_true rfl, Nat.le_of_ble_eq_true rfl⟩ hf (fun r1 M3 H locs hr1 hPC2 hPR2 hS2 => ?_)
  obtain ⟨e1, hIC2⟩ := hr1
  refine lv_aload_n C.1 C.2.1 d_W_599 rfl (lv_at hl 1 rfl) ?_
  refine lw_call C (ad := (wR sa D cA s.heap.size).1) (ad2 := (wC sa D cA s.heap.size).1) (As := []) wR_adi wR_ge wRC hXR hPR2 hPC2 hS2 d_W_600 mx_M_run (tbl_in (List.mem_of_getElem? (i := 1318) (by decide +kernel)) rfl) sR_0 rfl (c_M_run hIR) rfl rfl rfl rfl hl.1 (Nat.le_of_ble_eq_true rfl) ⟨Nat.le_of_ble_eq_true rfl, Nat.le_of_ble_eq_true rfl⟩ hf (fun r2 M4 H locs hr2 hPR3 hPC3 hS3 => ?_)
  obtain ⟨e2, hIR3⟩ := hr2
  exact lv_icmp_eq C.1 C.2.1 d_W_603 (tgt := 1009) (by decide) (fun _ => K _ _ _ _ _ ⟨hPC3, hPR3, hIC2, hIR3, hS3⟩) (fun q => absurd (e1.trans e2.symm) q)
theorem lw_c16 (C : CA p s m args meth c R_law code 4 D cA) (hXC : SX (wC sa D cA s.heap.size) (AW (wC sa D cA s.heap.size) lyC s.heap.size) s s.heap) (hXR : SX (wR sa D cA s.heap.size) (AW (wR sa D cA s.heap.size) lyR s.heap.size) s s.heap) (hX : va_X b L xs s s.heap) (hbl : b < s.heap.size) (h5 : i + 5 ≤ L) (hL : L ≤ 2560) (hf : cells ≤ room_1.cells ∧ slots ≤ room_1.slots) (hI : LI D cA sa s H locs M1 M2 σ) (hl : lv_has ls 4 [(3, .int (nI i)), (2, .ref (s.heap.size + 84)), (1, .ref (s.heap.size + 0)), (0, .ref b)]) (K : ∀ H locs M1 M2 σ, LI D cA sa s H locs M1 M2 σ → W p l e room_1 s m args below meth c H locs cells slots Q (F0 m 1009 ls [])) : W p l e room_1 s m args below meth c H locs cells slots Q (F0 m 608 ls []) := by
  obtain ⟨hPC, hPR, hIC, hIR, hS⟩ := hI
  refine lv_aload_n C.1 C.2.1 d_W_608 rfl (lv_at hl 2 rfl) ?_
  refine lv_aload_n C.1 C.2.1 d_W_609 rfl (lv_at hl 3 rfl) ?_
  refine lv_iload_n C.1 C.2.1 d_W_610 rfl (lv_at hl 0 rfl) ?_
  refine lv_iconst (v := 1) C.1 C.2.1 d_W_611 (by decide) ?_
  refine lv_iadd C.1 C.2.1 d_W_612 ?_
  refine va_sld (A := fun q => s.heap.size ≤ q) C.1 C.2.1 hX hbl (Nat.not_le.mpr hbl) hS (rd_in (k := 1) h5 hL (by decide) rfl) d_W_613 ?_
  refine lw_call C (ad := (wC sa D cA s.heap.size).1) (ad2 := (wR sa D cA s.heap.size).1) (As := [.int (xs (nI i + 1).toNatClampNeg)]) wC_adi wC_ge wCR hXC hPC hPR hS d_W_614 mx_L_ended (tbl_in (List.mem_of_getElem? (i := 874) (by decide +kernel)) rfl) sC_83 rfl (c_L_ended hIC) rfl rfl rfl rfl hl.1 (Nat.le_of_ble_eq_true rfl) ⟨Nat.le_of_ble_eq_true rfl, Nat.le_of_ble_eq_true rfl⟩ hf (fun r1 M3 H locs hr1 hPC2 hPR2 hS2 => ?_)
  obtain ⟨e1, e0⟩ := hr1
  have hIC2 : InvC M3 σ := by rw [e0]; exact hIC
  refine lv_aload_n C.1 C.2.1 d_W_617 rfl (lv_at hl 1 rfl) ?_
  refine lv_aload_n C.1 C.2.1 d_W_618 rfl (lv_at hl 3 rfl) ?_
  refine lv_iload_n C.1 C.2.1 d_W_619 rfl (lv_at hl 0 rfl) ?_
  refine lv_iconst (v := 1) C.1 C.2.1 d_W_620 (by decide) ?_
  refine lv_iadd C.1 C.2.1 d_W_621 ?_
  refine va_sld (A := fun q => s.heap.size ≤ q) C.1 C.2.1 hX hbl (Nat.not_le.mpr hbl) hS2 (rd_in (k := 1) h5 hL (by decide) rfl) d_W_622 ?_
  refine lw_call C (ad := (wR sa D cA s.heap.size).1) (ad2 := (wC sa D cA s.heap.size).1) (As := [.int (xs (nI i + 1).toNatClampNeg)]) wR_adi wR_ge wRC hXR hPR2 hPC2 hS2 d_W_623 mx_M_ended (tbl_in (List.mem_of_getElem? (i := 1338) (by decide +kernel)) rfl) sR_0 rfl (c_M_ended hIR) rfl rfl rfl rfl hl.1 (Nat.le_of_ble_eq_true rfl) ⟨Nat.le_of_ble_eq_true rfl, Nat.le_of_ble_eq_true rfl⟩ hf (fun r2 M4 H locs hr2 hPR3 hPC3 hS3 => ?_)
  obtain ⟨e2, hIR3⟩ := hr2
  exact lv_icmp_eq C.1 C.2.1 d_W_626 (tgt := 1009) (by decide) (fun _ => K _ _ _ _ _ ⟨hPC3, hPR3, hIC2, hIR3, hS3⟩) (fun q => absurd (e1.trans e2.symm) q)
theorem lw_c17 (C : CA p s m args meth c R_law code 4 D cA) (hXC : SX (wC sa D cA s.heap.size) (AW (wC sa D cA s.heap.size) lyC s.heap.size) s s.heap) (hXR : SX (wR sa D cA s.heap.size) (AW (wR sa D cA s.heap.size) lyR s.heap.size) s s.heap) (hX : va_X b L xs s s.heap) (hbl : b < s.heap.size) (h5 : i + 5 ≤ L) (hL : L ≤ 2560) (hf : cells ≤ room_1.cells ∧ slots ≤ room_1.slots) (hI : LI D cA sa s H locs M1 M2 σ) (hl : lv_has ls 4 [(3, .int (nI i)), (2, .ref (s.heap.size + 84)), (1, .ref (s.heap.size + 0)), (0, .ref b)]) (K : ∀ H locs M1 M2 σ, LI D cA sa s H locs M1 M2 σ → W p l e room_1 s m args below meth c H locs cells slots Q (F0 m 1009 ls [])) : W p l e room_1 s m args below meth c H locs cells slots Q (F0 m 631 ls []) := by
  obtain ⟨hPC, hPR, hIC, hIR, hS⟩ := hI
  refine lv_aload_n C.1 C.2.1 d_W_631 rfl (lv_at hl 2 rfl) ?_
  refine lw_call C (ad := (wC sa D cA s.heap.size).1) (ad2 := (wR sa D cA s.heap.size).1) (As := []) wC_adi wC_ge wCR hXC hPC hPR hS d_W_632 mx_L_turn (tbl_in (List.mem_of_getElem? (i := 878) (by decide +kernel)) rfl) sC_83 rfl (c_L_turn hIC) rfl rfl rfl rfl hl.1 (Nat.le_of_ble_eq_true rfl) ⟨Nat.le_of_ble_eq_true rfl, Nat.le_of_ble_eq_true rfl⟩ hf (fun r1 M3 H locs hr1 hPC2 hPR2 hS2 => ?_)
  obtain ⟨e1, hIC2⟩ := hr1
  refine lv_aload_n C.1 C.2.1 d_W_635 rfl (lv_at hl 1 rfl) ?_
  refine lw_call C (ad := (wR sa D cA s.heap.size).1) (ad2 := (wC sa D cA s.heap.size).1) (As := []) wR_adi wR_ge wRC hXR hPR2 hPC2 hS2 d_W_636 mx_M_turn (tbl_in (List.mem_of_getElem? (i := 1342) (by decide +kernel)) rfl) sR_0 rfl (c_M_turn hIR) rfl rfl rfl rfl hl.1 (Nat.le_of_ble_eq_true rfl) ⟨Nat.le_of_ble_eq_true rfl, Nat.le_of_ble_eq_true rfl⟩ hf (fun r2 M4 H locs hr2 hPR3 hPC3 hS3 => ?_)
  obtain ⟨e2, hIR3⟩ := hr2
  exact lv_icmp_eq C.1 C.2.1 d_W_639 (tgt := 1009) (by decide) (fun _ => K _ _ _ _ _ ⟨hPC3, hPR3, hIC2, hIR3, hS3⟩) (fun q => absurd (e1.trans e2.symm) q)
theorem lw_c18 (C : CA p s m args meth c R_law code 4 D cA) (hXC : SX (wC sa D cA s.heap.size) (AW (wC sa D cA s.heap.size) lyC s.heap.size) s s.heap) (hXR : SX (wR sa D cA s.heap.size) (AW (wR sa D cA s.heap.size) lyR s.heap.size) s s.heap) (hX : va_X b L xs s s.heap) (hbl : b < s.heap.size) (h5 : i + 5 ≤ L) (hL : L ≤ 2560) (hf : cells ≤ room_1.cells ∧ slots ≤ room_1.slots) (hI : LI D cA sa s H locs M1 M2 σ) (hl : lv_has ls 4 [(3, .int (nI i)), (2, .ref (s.heap.size + 84)), (1, .ref (s.heap.size + 0)), (0, .ref b)]) (K : ∀ H locs M1 M2 σ, LI D cA sa s H locs M1 M2 σ → W p l e room_1 s m args below meth c H locs cells slots Q (F0 m 1009 ls [])) : W p l e room_1 s m args below meth c H locs cells slots Q (F0 m 644 ls []) := by
  obtain ⟨hPC, hPR, hIC, hIR, hS⟩ := hI
  refine lv_aload_n C.1 C.2.1 d_W_644 rfl (lv_at hl 2 rfl) ?_
  refine lv_aload_n C.1 C.2.1 d_W_645 rfl (lv_at hl 3 rfl) ?_
  refine lv_iload_n C.1 C.2.1 d_W_646 rfl (lv_at hl 0 rfl) ?_
  refine lv_iconst (v := 1) C.1 C.2.1 d_W_647 (by decide) ?_
  refine lv_iadd C.1 C.2.1 d_W_648 ?_
  refine va_sld (A := fun q => s.heap.size ≤ q) C.1 C.2.1 hX hbl (Nat.not_le.mpr hbl) hS (rd_in (k := 1) h5 hL (by decide) rfl) d_W_649 ?_
  refine lw_call C (ad := (wC sa D cA s.heap.size).1) (ad2 := (wR sa D cA s.heap.size).1) (As := [.int (xs (nI i + 1).toNatClampNeg)]) wC_adi wC_ge wCR hXC hPC hPR hS d_W_650 mx_L_dry (tbl_in (List.mem_of_getElem? (i := 893) (by decide +kernel)) rfl) sC_83 rfl (c_L_dry hIC) rfl rfl rfl rfl hl.1 (Nat.le_of_ble_eq_true rfl) ⟨Nat.le_of_ble_eq_true rfl, Nat.le_of_ble_eq_true rfl⟩ hf (fun r1 M3 H locs hr1 hPC2 hPR2 hS2 => ?_)
  obtain ⟨e1, hIC2⟩ := hr1
  refine lv_aload_n C.1 C.2.1 d_W_653 rfl (lv_at hl 1 rfl) ?_
  refine lv_aload_n C.1 C.2.1 d_W_654 rfl (lv_at hl 3 rfl) ?_
  refine lv_iload_n C.1 C.2.1 d_W_655 rfl (lv_at hl 0 rfl) ?_
  refine lv_iconst (v := 1) C.1 C.2.1 d_W_656 (by decide) ?_
  refine lv_iadd C.1 C.2.1 d_W_657 ?_
  refine va_sld (A := fun q => s.heap.size ≤ q) C.1 C.2.1 hX hbl (Nat.not_le.mpr hbl) hS2 (rd_in (k := 1) h5 hL (by decide) rfl) d_W_658 ?_
  refine lw_call C (ad := (wR sa D cA s.heap.size).1) (ad2 := (wC sa D cA s.heap.size).1) (As := [.int (xs (nI i + 1).toNatClampNeg)]) wR_adi wR_ge wRC hXR hPR2 hPC2 hS2 d_W_659 mx_M_dry (tbl_in (List.mem_of_getElem? (i := 1354) (by decide +kernel)) rfl) sR_0 rfl (c_M_dry hIR) rfl rfl rfl rfl hl.1 (Nat.le_of_ble_eq_true rfl) ⟨Nat.le_of_ble_eq_true rfl, Nat.le_of_ble_eq_true rfl⟩ hf (fun r2 M4 H locs hr2 hPR3 hPC3 hS3 => ?_)
  obtain ⟨e2, hIR3⟩ := hr2
  exact lv_icmp_eq C.1 C.2.1 d_W_662 (tgt := 1009) (by decide) (fun _ => K _ _ _ _ _ ⟨hPC3, hPR3, hIC2, hIR3, hS3⟩) (fun q => absurd (e1.trans e2.symm) q)
theorem lw_c19 (C : CA p s m args meth c R_law code 4 D cA) (hXC : SX (wC sa D cA s.heap.size) (AW (wC sa D cA s.heap.size) lyC s.heap.size) s s.heap) (hXR : SX (wR sa D cA s.heap.size) (AW (wR sa D cA s.heap.size) lyR s.heap.size) s s.heap) (hX : va_X b L xs s s.heap) (hbl : b < s.heap.size) (h5 : i + 5 ≤ L) (hL : L ≤ 2560) (hf : cells ≤ room_1.cells ∧ slots ≤ room_1.slots) (hI : LI D cA sa s H locs M1 M2 σ) (hl : lv_has ls 4 [(3, .int (nI i)), (2, .ref (s.heap.size + 84)), (1, .ref (s.heap.size + 0)), (0, .ref b)]) (K : ∀ H locs M1 M2 σ, LI D cA sa s H locs M1 M2 σ → W p l e room_1 s m args below meth c H locs cells slots Q (F0 m 1009 ls [])) : W p l e room_1 s m args below meth c H locs cells slots Q (F0 m 667 ls []) := by
  obtain ⟨hPC, hPR, hIC, hIR, hS⟩ := hI
  refine lv_aload_n C.1 C.2.1 d_W_667 rfl (lv_at hl 2 rfl) ?_
  refine lv_aload_n C.1 C.2.1 d_W_668 rfl (lv_at hl 3 rfl) ?_
  refine lv_iload_n C.1 C.2.1 d_W_669 rfl (lv_at hl 0 rfl) ?_
  refine lv_iconst (v := 1) C.1 C.2.1 d_W_670 (by decide) ?_
  refine lv_iadd C.1 C.2.1 d_W_671 ?_
  refine va_sld (A := fun q => s.heap.size ≤ q) C.1 C.2.1 hX hbl (Nat.not_le.mpr hbl) hS (rd_in (k := 1) h5 hL (by decide) rfl) d_W_672 ?_
  refine lw_call C (ad := (wC sa D cA s.heap.size).1) (ad2 := (wR sa D cA s.heap.size).1) (As := [.int (xs (nI i + 1).toNatClampNeg)]) wC_adi wC_ge wCR hXC hPC hPR hS d_W_673 mx_L_worth (tbl_in (List.mem_of_getElem? (i := 902) (by decide +kernel)) rfl) sC_83 rfl (c_L_worth hIC) rfl rfl rfl rfl hl.1 (Nat.le_of_ble_eq_true rfl) ⟨Nat.le_of_ble_eq_true rfl, Nat.le_of_ble_eq_true rfl⟩ hf (fun r1 M3 H locs hr1 hPC2 hPR2 hS2 => ?_)
  obtain ⟨e1, hIC2⟩ := hr1
  refine lv_aload_n C.1 C.2.1 d_W_676 rfl (lv_at hl 1 rfl) ?_
  refine lv_aload_n C.1 C.2.1 d_W_677 rfl (lv_at hl 3 rfl) ?_
  refine lv_iload_n C.1 C.2.1 d_W_678 rfl (lv_at hl 0 rfl) ?_
  refine lv_iconst (v := 1) C.1 C.2.1 d_W_679 (by decide) ?_
  refine lv_iadd C.1 C.2.1 d_W_680 ?_
  refine va_sld (A := fun q => s.heap.size ≤ q) C.1 C.2.1 hX hbl (Nat.not_le.mpr hbl) hS2 (rd_in (k := 1) h5 hL (by decide) rfl) d_W_681 ?_
  refine lw_call C (ad := (wR sa D cA s.heap.size).1) (ad2 := (wC sa D cA s.heap.size).1) (As := [.int (xs (nI i + 1).toNatClampNeg)]) wR_adi wR_ge wRC hXR hPR2 hPC2 hS2 d_W_682 mx_M_worth (tbl_in (List.mem_of_getElem? (i := 1361) (by decide +kernel)) rfl) sR_0 rfl (c_M_worth hIR) rfl rfl rfl rfl hl.1 (Nat.le_of_ble_eq_true rfl) ⟨Nat.le_of_ble_eq_true rfl, Nat.le_of_ble_eq_true rfl⟩ hf (fun r2 M4 H locs hr2 hPR3 hPC3 hS3 => ?_)
  obtain ⟨e2, hIR3⟩ := hr2
  exact lv_icmp_eq C.1 C.2.1 d_W_685 (tgt := 1009) (by decide) (fun _ => K _ _ _ _ _ ⟨hPC3, hPR3, hIC2, hIR3, hS3⟩) (fun q => absurd (e1.trans e2.symm) q)
theorem lw_c20 (C : CA p s m args meth c R_law code 4 D cA) (hXC : SX (wC sa D cA s.heap.size) (AW (wC sa D cA s.heap.size) lyC s.heap.size) s s.heap) (hXR : SX (wR sa D cA s.heap.size) (AW (wR sa D cA s.heap.size) lyR s.heap.size) s s.heap) (hX : va_X b L xs s s.heap) (hbl : b < s.heap.size) (h5 : i + 5 ≤ L) (hL : L ≤ 2560) (hf : cells ≤ room_1.cells ∧ slots ≤ room_1.slots) (hI : LI D cA sa s H locs M1 M2 σ) (hl : lv_has ls 4 [(3, .int (nI i)), (2, .ref (s.heap.size + 84)), (1, .ref (s.heap.size + 0)), (0, .ref b)]) (K : ∀ H locs M1 M2 σ, LI D cA sa s H locs M1 M2 σ → W p l e room_1 s m args below meth c H locs cells slots Q (F0 m 1009 ls [])) : W p l e room_1 s m args below meth c H locs cells slots Q (F0 m 690 ls []) := by
  obtain ⟨hPC, hPR, hIC, hIR, hS⟩ := hI
  refine lv_aload_n C.1 C.2.1 d_W_690 rfl (lv_at hl 2 rfl) ?_
  refine lv_aload_n C.1 C.2.1 d_W_691 rfl (lv_at hl 3 rfl) ?_
  refine lv_iload_n C.1 C.2.1 d_W_692 rfl (lv_at hl 0 rfl) ?_
  refine lv_iconst (v := 1) C.1 C.2.1 d_W_693 (by decide) ?_
  refine lv_iadd C.1 C.2.1 d_W_694 ?_
  refine va_sld (A := fun q => s.heap.size ≤ q) C.1 C.2.1 hX hbl (Nat.not_le.mpr hbl) hS (rd_in (k := 1) h5 hL (by decide) rfl) d_W_695 ?_
  refine lv_aload_n C.1 C.2.1 d_W_696 rfl (lv_at hl 3 rfl) ?_
  refine lv_iload_n C.1 C.2.1 d_W_697 rfl (lv_at hl 0 rfl) ?_
  refine lv_iconst (v := 2) C.1 C.2.1 d_W_698 (by decide) ?_
  refine lv_iadd C.1 C.2.1 d_W_699 ?_
  refine va_sld (A := fun q => s.heap.size ≤ q) C.1 C.2.1 hX hbl (Nat.not_le.mpr hbl) hS (rd_in (k := 2) h5 hL (by decide) rfl) d_W_700 ?_
  refine lw_call C (ad := (wC sa D cA s.heap.size).1) (ad2 := (wR sa D cA s.heap.size).1) (As := [.int (xs (nI i + 1).toNatClampNeg), .int (xs (nI i + 2).toNatClampNeg)]) wC_adi wC_ge wCR hXC hPC hPR hS d_W_701 mx_L_best (tbl_in (List.mem_of_getElem? (i := 914) (by decide +kernel)) rfl) sC_83 rfl (c_L_best hIC) rfl rfl rfl rfl hl.1 (Nat.le_of_ble_eq_true rfl) ⟨Nat.le_of_ble_eq_true rfl, Nat.le_of_ble_eq_true rfl⟩ hf (fun r1 M3 H locs hr1 hPC2 hPR2 hS2 => ?_)
  obtain ⟨e1, hIC2⟩ := hr1
  refine lv_aload_n C.1 C.2.1 d_W_704 rfl (lv_at hl 1 rfl) ?_
  refine lv_aload_n C.1 C.2.1 d_W_705 rfl (lv_at hl 3 rfl) ?_
  refine lv_iload_n C.1 C.2.1 d_W_706 rfl (lv_at hl 0 rfl) ?_
  refine lv_iconst (v := 1) C.1 C.2.1 d_W_707 (by decide) ?_
  refine lv_iadd C.1 C.2.1 d_W_708 ?_
  refine va_sld (A := fun q => s.heap.size ≤ q) C.1 C.2.1 hX hbl (Nat.not_le.mpr hbl) hS2 (rd_in (k := 1) h5 hL (by decide) rfl) d_W_709 ?_
  refine lv_aload_n C.1 C.2.1 d_W_710 rfl (lv_at hl 3 rfl) ?_
  refine lv_iload_n C.1 C.2.1 d_W_711 rfl (lv_at hl 0 rfl) ?_
  refine lv_iconst (v := 2) C.1 C.2.1 d_W_712 (by decide) ?_
  refine lv_iadd C.1 C.2.1 d_W_713 ?_
  refine va_sld (A := fun q => s.heap.size ≤ q) C.1 C.2.1 hX hbl (Nat.not_le.mpr hbl) hS2 (rd_in (k := 2) h5 hL (by decide) rfl) d_W_714 ?_
  refine lw_call C (ad := (wR sa D cA s.heap.size).1) (ad2 := (wC sa D cA s.heap.size).1) (As := [.int (xs (nI i + 1).toNatClampNeg), .int (xs (nI i + 2).toNatClampNeg)]) wR_adi wR_ge wRC hXR hPR2 hPC2 hS2 d_W_715 mx_M_best (tbl_in (List.mem_of_getElem? (i := 1373) (by decide +kernel)) rfl) sR_0 rfl (c_M_best hIR) rfl rfl rfl rfl hl.1 (Nat.le_of_ble_eq_true rfl) ⟨Nat.le_of_ble_eq_true rfl, Nat.le_of_ble_eq_true rfl⟩ hf (fun r2 M4 H locs hr2 hPR3 hPC3 hS3 => ?_)
  obtain ⟨e2, hIR3⟩ := hr2
  exact lv_icmp_eq C.1 C.2.1 d_W_718 (tgt := 1009) (by decide) (fun _ => K _ _ _ _ _ ⟨hPC3, hPR3, hIC2, hIR3, hS3⟩) (fun q => absurd (e1.trans e2.symm) q)
theorem lw_c21 (C : CA p s m args meth c R_law code 4 D cA) (hXC : SX (wC sa D cA s.heap.size) (AW (wC sa D cA s.heap.size) lyC s.heap.size) s s.heap) (hXR : SX (wR sa D cA s.heap.size) (AW (wR sa D cA s.heap.size) lyR s.heap.size) s s.heap) (hX : va_X b L xs s s.heap) (hbl : b < s.heap.size) (h5 : i + 5 ≤ L) (hL : L ≤ 2560) (hf : cells ≤ room_1.cells ∧ slots ≤ room_1.slots) (hI : LI D cA sa s H locs M1 M2 σ) (hl : lv_has ls 4 [(3, .int (nI i)), (2, .ref (s.heap.size + 84)), (1, .ref (s.heap.size + 0)), (0, .ref b)]) (K : ∀ H locs M1 M2 σ, LI D cA sa s H locs M1 M2 σ → W p l e room_1 s m args below meth c H locs cells slots Q (F0 m 1009 ls [])) : W p l e room_1 s m args below meth c H locs cells slots Q (F0 m 723 ls []) := by
  obtain ⟨hPC, hPR, hIC, hIR, hS⟩ := hI
  refine lv_aload_n C.1 C.2.1 d_W_723 rfl (lv_at hl 2 rfl) ?_
  refine lv_aload_n C.1 C.2.1 d_W_724 rfl (lv_at hl 3 rfl) ?_
  refine lv_iload_n C.1 C.2.1 d_W_725 rfl (lv_at hl 0 rfl) ?_
  refine lv_iconst (v := 1) C.1 C.2.1 d_W_726 (by decide) ?_
  refine lv_iadd C.1 C.2.1 d_W_727 ?_
  refine va_sld (A := fun q => s.heap.size ≤ q) C.1 C.2.1 hX hbl (Nat.not_le.mpr hbl) hS (rd_in (k := 1) h5 hL (by decide) rfl) d_W_728 ?_
  refine lw_call C (ad := (wC sa D cA s.heap.size).1) (ad2 := (wR sa D cA s.heap.size).1) (As := [.int (xs (nI i + 1).toNatClampNeg)]) wC_adi wC_ge wCR hXC hPC hPR hS d_W_729 mx_L_byTurns (tbl_in (List.mem_of_getElem? (i := 918) (by decide +kernel)) rfl) sC_83 rfl (c_L_byTurns hIC) rfl rfl rfl rfl hl.1 (Nat.le_of_ble_eq_true rfl) ⟨Nat.le_of_ble_eq_true rfl, Nat.le_of_ble_eq_true rfl⟩ hf (fun r1 M3 H locs hr1 hPC2 hPR2 hS2 => ?_)
  obtain ⟨e1, hIC2⟩ := hr1
  refine lv_aload_n C.1 C.2.1 d_W_732 rfl (lv_at hl 1 rfl) ?_
  refine lv_aload_n C.1 C.2.1 d_W_733 rfl (lv_at hl 3 rfl) ?_
  refine lv_iload_n C.1 C.2.1 d_W_734 rfl (lv_at hl 0 rfl) ?_
  refine lv_iconst (v := 1) C.1 C.2.1 d_W_735 (by decide) ?_
  refine lv_iadd C.1 C.2.1 d_W_736 ?_
  refine va_sld (A := fun q => s.heap.size ≤ q) C.1 C.2.1 hX hbl (Nat.not_le.mpr hbl) hS2 (rd_in (k := 1) h5 hL (by decide) rfl) d_W_737 ?_
  refine lw_call C (ad := (wR sa D cA s.heap.size).1) (ad2 := (wC sa D cA s.heap.size).1) (As := [.int (xs (nI i + 1).toNatClampNeg)]) wR_adi wR_ge wRC hXR hPR2 hPC2 hS2 d_W_738 mx_M_byTurns (tbl_in (List.mem_of_getElem? (i := 1397) (by decide +kernel)) rfl) sR_0 rfl (c_M_byTurns hIR) rfl rfl rfl rfl hl.1 (Nat.le_of_ble_eq_true rfl) ⟨Nat.le_of_ble_eq_true rfl, Nat.le_of_ble_eq_true rfl⟩ hf (fun r2 M4 H locs hr2 hPR3 hPC3 hS3 => ?_)
  obtain ⟨e2, hIR3⟩ := hr2
  exact lv_icmp_eq C.1 C.2.1 d_W_741 (tgt := 1009) (by decide) (fun _ => K _ _ _ _ _ ⟨hPC3, hPR3, hIC2, hIR3, hS3⟩) (fun q => absurd (e1.trans e2.symm) q)
theorem lw_c22 (C : CA p s m args meth c R_law code 4 D cA) (hXC : SX (wC sa D cA s.heap.size) (AW (wC sa D cA s.heap.size) lyC s.heap.size) s s.heap) (hXR : SX (wR sa D cA s.heap.size) (AW (wR sa D cA s.heap.size) lyR s.heap.size) s s.heap) (hX : va_X b L xs s s.heap) (hbl : b < s.heap.size) (h5 : i + 5 ≤ L) (hL : L ≤ 2560) (hf : cells ≤ room_1.cells ∧ slots ≤ room_1.slots) (hI : LI D cA sa s H locs M1 M2 σ) (hl : lv_has ls 4 [(3, .int (nI i)), (2, .ref (s.heap.size + 84)), (1, .ref (s.heap.size + 0)), (0, .ref b)]) (K : ∀ H locs M1 M2 σ, LI D cA sa s H locs M1 M2 σ → W p l e room_1 s m args below meth c H locs cells slots Q (F0 m 1009 ls [])) : W p l e room_1 s m args below meth c H locs cells slots Q (F0 m 746 ls []) := by
  obtain ⟨hPC, hPR, hIC, hIR, hS⟩ := hI
  refine lv_aload_n C.1 C.2.1 d_W_746 rfl (lv_at hl 2 rfl) ?_
  refine lw_call C (ad := (wC sa D cA s.heap.size).1) (ad2 := (wR sa D cA s.heap.size).1) (As := []) wC_adi wC_ge wCR hXC hPC hPR hS d_W_747 mx_L_matter (tbl_in (List.mem_of_getElem? (i := 926) (by decide +kernel)) rfl) sC_83 rfl (c_L_matter hIC) rfl rfl rfl rfl hl.1 (Nat.le_of_ble_eq_true rfl) ⟨Nat.le_of_ble_eq_true rfl, Nat.le_of_ble_eq_true rfl⟩ hf (fun r1 M3 H locs hr1 hPC2 hPR2 hS2 => ?_)
  obtain ⟨e1, hIC2⟩ := hr1
  refine lv_aload_n C.1 C.2.1 d_W_750 rfl (lv_at hl 1 rfl) ?_
  refine lw_call C (ad := (wR sa D cA s.heap.size).1) (ad2 := (wC sa D cA s.heap.size).1) (As := []) wR_adi wR_ge wRC hXR hPR2 hPC2 hS2 d_W_751 mx_M_matter (tbl_in (List.mem_of_getElem? (i := 1377) (by decide +kernel)) rfl) sR_0 rfl (c_M_matter hIR) rfl rfl rfl rfl hl.1 (Nat.le_of_ble_eq_true rfl) ⟨Nat.le_of_ble_eq_true rfl, Nat.le_of_ble_eq_true rfl⟩ hf (fun r2 M4 H locs hr2 hPR3 hPC3 hS3 => ?_)
  obtain ⟨e2, hIR3⟩ := hr2
  exact lv_icmp_eq C.1 C.2.1 d_W_754 (tgt := 1009) (by decide) (fun _ => K _ _ _ _ _ ⟨hPC3, hPR3, hIC2, hIR3, hS3⟩) (fun q => absurd (e1.trans e2.symm) q)
theorem lw_c23 (C : CA p s m args meth c R_law code 4 D cA) (hXC : SX (wC sa D cA s.heap.size) (AW (wC sa D cA s.heap.size) lyC s.heap.size) s s.heap) (hXR : SX (wR sa D cA s.heap.size) (AW (wR sa D cA s.heap.size) lyR s.heap.size) s s.heap) (hX : va_X b L xs s s.heap) (hbl : b < s.heap.size) (h5 : i + 5 ≤ L) (hL : L ≤ 2560) (hf : cells ≤ room_1.cells ∧ slots ≤ room_1.slots) (hI : LI D cA sa s H locs M1 M2 σ) (hl : lv_has ls 4 [(3, .int (nI i)), (2, .ref (s.heap.size + 84)), (1, .ref (s.heap.size + 0)), (0, .ref b)]) (K : ∀ H locs M1 M2 σ, LI D cA sa s H locs M1 M2 σ → W p l e room_1 s m args below meth c H locs cells slots Q (F0 m 1009 ls [])) : W p l e room_1 s m args below meth c H locs cells slots Q (F0 m 759 ls []) := by
  obtain ⟨hPC, hPR, hIC, hIR, hS⟩ := hI
  refine lv_aload_n C.1 C.2.1 d_W_759 rfl (lv_at hl 2 rfl) ?_
  refine lv_aload_n C.1 C.2.1 d_W_760 rfl (lv_at hl 3 rfl) ?_
  refine lv_iload_n C.1 C.2.1 d_W_761 rfl (lv_at hl 0 rfl) ?_
  refine lv_iconst (v := 1) C.1 C.2.1 d_W_762 (by decide) ?_
  refine lv_iadd C.1 C.2.1 d_W_763 ?_
  refine va_sld (A := fun q => s.heap.size ≤ q) C.1 C.2.1 hX hbl (Nat.not_le.mpr hbl) hS (rd_in (k := 1) h5 hL (by decide) rfl) d_W_764 ?_
  refine lw_call C (ad := (wC sa D cA s.heap.size).1) (ad2 := (wR sa D cA s.heap.size).1) (As := [.int (xs (nI i + 1).toNatClampNeg)]) wC_adi wC_ge wCR hXC hPC hPR hS d_W_765 mx_L_swing (tbl_in (List.mem_of_getElem? (i := 935) (by decide +kernel)) rfl) sC_83 rfl (c_L_swing hIC) rfl rfl rfl rfl hl.1 (Nat.le_of_ble_eq_true rfl) ⟨Nat.le_of_ble_eq_true rfl, Nat.le_of_ble_eq_true rfl⟩ hf (fun r1 M3 H locs hr1 hPC2 hPR2 hS2 => ?_)
  obtain ⟨e1, hIC2⟩ := hr1
  refine lv_aload_n C.1 C.2.1 d_W_768 rfl (lv_at hl 1 rfl) ?_
  refine lv_aload_n C.1 C.2.1 d_W_769 rfl (lv_at hl 3 rfl) ?_
  refine lv_iload_n C.1 C.2.1 d_W_770 rfl (lv_at hl 0 rfl) ?_
  refine lv_iconst (v := 1) C.1 C.2.1 d_W_771 (by decide) ?_
  refine lv_iadd C.1 C.2.1 d_W_772 ?_
  refine va_sld (A := fun q => s.heap.size ≤ q) C.1 C.2.1 hX hbl (Nat.not_le.mpr hbl) hS2 (rd_in (k := 1) h5 hL (by decide) rfl) d_W_773 ?_
  refine lw_call C (ad := (wR sa D cA s.heap.size).1) (ad2 := (wC sa D cA s.heap.size).1) (As := [.int (xs (nI i + 1).toNatClampNeg)]) wR_adi wR_ge wRC hXR hPR2 hPC2 hS2 d_W_774 mx_M_swing (tbl_in (List.mem_of_getElem? (i := 1381) (by decide +kernel)) rfl) sR_0 rfl (c_M_swing hIR) rfl rfl rfl rfl hl.1 (Nat.le_of_ble_eq_true rfl) ⟨Nat.le_of_ble_eq_true rfl, Nat.le_of_ble_eq_true rfl⟩ hf (fun r2 M4 H locs hr2 hPR3 hPC3 hS3 => ?_)
  obtain ⟨e2, hIR3⟩ := hr2
  exact lv_icmp_eq C.1 C.2.1 d_W_777 (tgt := 1009) (by decide) (fun _ => K _ _ _ _ _ ⟨hPC3, hPR3, hIC2, hIR3, hS3⟩) (fun q => absurd (e1.trans e2.symm) q)
theorem lw_c24 (C : CA p s m args meth c R_law code 4 D cA) (hXC : SX (wC sa D cA s.heap.size) (AW (wC sa D cA s.heap.size) lyC s.heap.size) s s.heap) (hXR : SX (wR sa D cA s.heap.size) (AW (wR sa D cA s.heap.size) lyR s.heap.size) s s.heap) (hX : va_X b L xs s s.heap) (hbl : b < s.heap.size) (h5 : i + 5 ≤ L) (hL : L ≤ 2560) (hf : cells ≤ room_1.cells ∧ slots ≤ room_1.slots) (hI : LI D cA sa s H locs M1 M2 σ) (hl : lv_has ls 4 [(3, .int (nI i)), (2, .ref (s.heap.size + 84)), (1, .ref (s.heap.size + 0)), (0, .ref b)]) (K : ∀ H locs M1 M2 σ, LI D cA sa s H locs M1 M2 σ → W p l e room_1 s m args below meth c H locs cells slots Q (F0 m 1009 ls [])) : W p l e room_1 s m args below meth c H locs cells slots Q (F0 m 782 ls []) := by
  obtain ⟨hPC, hPR, hIC, hIR, hS⟩ := hI
  refine lv_aload_n C.1 C.2.1 d_W_782 rfl (lv_at hl 2 rfl) ?_
  refine lv_aload_n C.1 C.2.1 d_W_783 rfl (lv_at hl 3 rfl) ?_
  refine lv_iload_n C.1 C.2.1 d_W_784 rfl (lv_at hl 0 rfl) ?_
  refine lv_iconst (v := 1) C.1 C.2.1 d_W_785 (by decide) ?_
  refine lv_iadd C.1 C.2.1 d_W_786 ?_
  refine va_sld (A := fun q => s.heap.size ≤ q) C.1 C.2.1 hX hbl (Nat.not_le.mpr hbl) hS (rd_in (k := 1) h5 hL (by decide) rfl) d_W_787 ?_
  refine lw_call C (ad := (wC sa D cA s.heap.size).1) (ad2 := (wR sa D cA s.heap.size).1) (As := [.int (xs (nI i + 1).toNatClampNeg)]) wC_adi wC_ge wCR hXC hPC hPR hS d_W_788 mx_L_next (tbl_in (List.mem_of_getElem? (i := 939) (by decide +kernel)) rfl) sC_83 rfl (c_L_next hIC) rfl rfl rfl rfl hl.1 (Nat.le_of_ble_eq_true rfl) ⟨Nat.le_of_ble_eq_true rfl, Nat.le_of_ble_eq_true rfl⟩ hf (fun r1 M3 H locs hr1 hPC2 hPR2 hS2 => ?_)
  obtain ⟨e1, e0⟩ := hr1
  have hIC2 : InvC M3 σ := by rw [e0]; exact hIC
  refine lv_aload_n C.1 C.2.1 d_W_791 rfl (lv_at hl 1 rfl) ?_
  refine lv_aload_n C.1 C.2.1 d_W_792 rfl (lv_at hl 3 rfl) ?_
  refine lv_iload_n C.1 C.2.1 d_W_793 rfl (lv_at hl 0 rfl) ?_
  refine lv_iconst (v := 1) C.1 C.2.1 d_W_794 (by decide) ?_
  refine lv_iadd C.1 C.2.1 d_W_795 ?_
  refine va_sld (A := fun q => s.heap.size ≤ q) C.1 C.2.1 hX hbl (Nat.not_le.mpr hbl) hS2 (rd_in (k := 1) h5 hL (by decide) rfl) d_W_796 ?_
  refine lw_call C (ad := (wR sa D cA s.heap.size).1) (ad2 := (wC sa D cA s.heap.size).1) (As := [.int (xs (nI i + 1).toNatClampNeg)]) wR_adi wR_ge wRC hXR hPR2 hPC2 hS2 d_W_797 mx_M_next (tbl_in (List.mem_of_getElem? (i := 1385) (by decide +kernel)) rfl) sR_0 rfl (c_M_next hIR) rfl rfl rfl rfl hl.1 (Nat.le_of_ble_eq_true rfl) ⟨Nat.le_of_ble_eq_true rfl, Nat.le_of_ble_eq_true rfl⟩ hf (fun r2 M4 H locs hr2 hPR3 hPC3 hS3 => ?_)
  obtain ⟨e2, hIR3⟩ := hr2
  exact lv_icmp_eq C.1 C.2.1 d_W_800 (tgt := 1009) (by decide) (fun _ => K _ _ _ _ _ ⟨hPC3, hPR3, hIC2, hIR3, hS3⟩) (fun q => absurd (e1.trans e2.symm) q)
theorem lw_c25 (C : CA p s m args meth c R_law code 4 D cA) (hXC : SX (wC sa D cA s.heap.size) (AW (wC sa D cA s.heap.size) lyC s.heap.size) s s.heap) (hXR : SX (wR sa D cA s.heap.size) (AW (wR sa D cA s.heap.size) lyR s.heap.size) s s.heap) (hX : va_X b L xs s s.heap) (hbl : b < s.heap.size) (h5 : i + 5 ≤ L) (hL : L ≤ 2560) (hf : cells ≤ room_1.cells ∧ slots ≤ room_1.slots) (hI : LI D cA sa s H locs M1 M2 σ) (hl : lv_has ls 4 [(3, .int (nI i)), (2, .ref (s.heap.size + 84)), (1, .ref (s.heap.size + 0)), (0, .ref b)]) (K : ∀ H locs M1 M2 σ, LI D cA sa s H locs M1 M2 σ → W p l e room_1 s m args below meth c H locs cells slots Q (F0 m 1009 ls [])) : W p l e room_1 s m args below meth c H locs cells slots Q (F0 m 805 ls []) := by
  obtain ⟨hPC, hPR, hIC, hIR, hS⟩ := hI
  refine lv_aload_n C.1 C.2.1 d_W_805 rfl (lv_at hl 2 rfl) ?_
  refine lv_aload_n C.1 C.2.1 d_W_806 rfl (lv_at hl 3 rfl) ?_
  refine lv_iload_n C.1 C.2.1 d_W_807 rfl (lv_at hl 0 rfl) ?_
  refine lv_iconst (v := 1) C.1 C.2.1 d_W_808 (by decide) ?_
  refine lv_iadd C.1 C.2.1 d_W_809 ?_
  refine va_sld (A := fun q => s.heap.size ≤ q) C.1 C.2.1 hX hbl (Nat.not_le.mpr hbl) hS (rd_in (k := 1) h5 hL (by decide) rfl) d_W_810 ?_
  refine lv_aload_n C.1 C.2.1 d_W_811 rfl (lv_at hl 3 rfl) ?_
  refine lv_iload_n C.1 C.2.1 d_W_812 rfl (lv_at hl 0 rfl) ?_
  refine lv_iconst (v := 2) C.1 C.2.1 d_W_813 (by decide) ?_
  refine lv_iadd C.1 C.2.1 d_W_814 ?_
  refine va_sld (A := fun q => s.heap.size ≤ q) C.1 C.2.1 hX hbl (Nat.not_le.mpr hbl) hS (rd_in (k := 2) h5 hL (by decide) rfl) d_W_815 ?_
  refine lw_call C (ad := (wC sa D cA s.heap.size).1) (ad2 := (wR sa D cA s.heap.size).1) (As := [.int (xs (nI i + 1).toNatClampNeg), .int (xs (nI i + 2).toNatClampNeg)]) wC_adi wC_ge wCR hXC hPC hPR hS d_W_816 mx_L_ahead (tbl_in (List.mem_of_getElem? (i := 945) (by decide +kernel)) rfl) sC_83 rfl (c_L_ahead hIC) rfl rfl rfl rfl hl.1 (Nat.le_of_ble_eq_true rfl) ⟨Nat.le_of_ble_eq_true rfl, Nat.le_of_ble_eq_true rfl⟩ hf (fun r1 M3 H locs hr1 hPC2 hPR2 hS2 => ?_)
  obtain ⟨e1, hIC2⟩ := hr1
  refine lv_aload_n C.1 C.2.1 d_W_819 rfl (lv_at hl 1 rfl) ?_
  refine lv_aload_n C.1 C.2.1 d_W_820 rfl (lv_at hl 3 rfl) ?_
  refine lv_iload_n C.1 C.2.1 d_W_821 rfl (lv_at hl 0 rfl) ?_
  refine lv_iconst (v := 1) C.1 C.2.1 d_W_822 (by decide) ?_
  refine lv_iadd C.1 C.2.1 d_W_823 ?_
  refine va_sld (A := fun q => s.heap.size ≤ q) C.1 C.2.1 hX hbl (Nat.not_le.mpr hbl) hS2 (rd_in (k := 1) h5 hL (by decide) rfl) d_W_824 ?_
  refine lv_aload_n C.1 C.2.1 d_W_825 rfl (lv_at hl 3 rfl) ?_
  refine lv_iload_n C.1 C.2.1 d_W_826 rfl (lv_at hl 0 rfl) ?_
  refine lv_iconst (v := 2) C.1 C.2.1 d_W_827 (by decide) ?_
  refine lv_iadd C.1 C.2.1 d_W_828 ?_
  refine va_sld (A := fun q => s.heap.size ≤ q) C.1 C.2.1 hX hbl (Nat.not_le.mpr hbl) hS2 (rd_in (k := 2) h5 hL (by decide) rfl) d_W_829 ?_
  refine lw_call C (ad := (wR sa D cA s.heap.size).1) (ad2 := (wC sa D cA s.heap.size).1) (As := [.int (xs (nI i + 1).toNatClampNeg), .int (xs (nI i + 2).toNatClampNeg)]) wR_adi wR_ge wRC hXR hPR2 hPC2 hS2 d_W_830 mx_M_ahead (tbl_in (List.mem_of_getElem? (i := 1389) (by decide +kernel)) rfl) sR_0 rfl (c_M_ahead hIR) rfl rfl rfl rfl hl.1 (Nat.le_of_ble_eq_true rfl) ⟨Nat.le_of_ble_eq_true rfl, Nat.le_of_ble_eq_true rfl⟩ hf (fun r2 M4 H locs hr2 hPR3 hPC3 hS3 => ?_)
  obtain ⟨e2, hIR3⟩ := hr2
  exact lv_icmp_eq C.1 C.2.1 d_W_833 (tgt := 1009) (by decide) (fun _ => K _ _ _ _ _ ⟨hPC3, hPR3, hIC2, hIR3, hS3⟩) (fun q => absurd (e1.trans e2.symm) q)
theorem lw_c26 (C : CA p s m args meth c R_law code 4 D cA) (hXC : SX (wC sa D cA s.heap.size) (AW (wC sa D cA s.heap.size) lyC s.heap.size) s s.heap) (hXR : SX (wR sa D cA s.heap.size) (AW (wR sa D cA s.heap.size) lyR s.heap.size) s s.heap) (hX : va_X b L xs s s.heap) (hbl : b < s.heap.size) (h5 : i + 5 ≤ L) (hL : L ≤ 2560) (hf : cells ≤ room_1.cells ∧ slots ≤ room_1.slots) (hI : LI D cA sa s H locs M1 M2 σ) (hl : lv_has ls 4 [(3, .int (nI i)), (2, .ref (s.heap.size + 84)), (1, .ref (s.heap.size + 0)), (0, .ref b)]) (K : ∀ H locs M1 M2 σ, LI D cA sa s H locs M1 M2 σ → W p l e room_1 s m args below meth c H locs cells slots Q (F0 m 1009 ls [])) : W p l e room_1 s m args below meth c H locs cells slots Q (F0 m 838 ls []) := by
  obtain ⟨hPC, hPR, hIC, hIR, hS⟩ := hI
  refine lv_aload_n C.1 C.2.1 d_W_838 rfl (lv_at hl 2 rfl) ?_
  refine lv_aload_n C.1 C.2.1 d_W_839 rfl (lv_at hl 3 rfl) ?_
  refine lv_iload_n C.1 C.2.1 d_W_840 rfl (lv_at hl 0 rfl) ?_
  refine lv_iconst (v := 1) C.1 C.2.1 d_W_841 (by decide) ?_
  refine lv_iadd C.1 C.2.1 d_W_842 ?_
  refine va_sld (A := fun q => s.heap.size ≤ q) C.1 C.2.1 hX hbl (Nat.not_le.mpr hbl) hS (rd_in (k := 1) h5 hL (by decide) rfl) d_W_843 ?_
  refine lv_aload_n C.1 C.2.1 d_W_844 rfl (lv_at hl 3 rfl) ?_
  refine lv_iload_n C.1 C.2.1 d_W_845 rfl (lv_at hl 0 rfl) ?_
  refine lv_iconst (v := 2) C.1 C.2.1 d_W_846 (by decide) ?_
  refine lv_iadd C.1 C.2.1 d_W_847 ?_
  refine va_sld (A := fun q => s.heap.size ≤ q) C.1 C.2.1 hX hbl (Nat.not_le.mpr hbl) hS (rd_in (k := 2) h5 hL (by decide) rfl) d_W_848 ?_
  refine lw_call C (ad := (wC sa D cA s.heap.size).1) (ad2 := (wR sa D cA s.heap.size).1) (As := [.int (xs (nI i + 1).toNatClampNeg), .int (xs (nI i + 2).toNatClampNeg)]) wC_adi wC_ge wCR hXC hPC hPR hS d_W_849 mx_L_trace (tbl_in (List.mem_of_getElem? (i := 949) (by decide +kernel)) rfl) sC_83 rfl (c_L_trace hIC) rfl rfl rfl rfl hl.1 (Nat.le_of_ble_eq_true rfl) ⟨Nat.le_of_ble_eq_true rfl, Nat.le_of_ble_eq_true rfl⟩ hf (fun r1 M3 H locs hr1 hPC2 hPR2 hS2 => ?_)
  obtain ⟨e1, e0⟩ := hr1
  have hIC2 : InvC M3 σ := by rw [e0]; exact hIC
  refine lv_aload_n C.1 C.2.1 d_W_852 rfl (lv_at hl 1 rfl) ?_
  refine lv_aload_n C.1 C.2.1 d_W_853 rfl (lv_at hl 3 rfl) ?_
  refine lv_iload_n C.1 C.2.1 d_W_854 rfl (lv_at hl 0 rfl) ?_
  refine lv_iconst (v := 1) C.1 C.2.1 d_W_855 (by decide) ?_
  refine lv_iadd C.1 C.2.1 d_W_856 ?_
  refine va_sld (A := fun q => s.heap.size ≤ q) C.1 C.2.1 hX hbl (Nat.not_le.mpr hbl) hS2 (rd_in (k := 1) h5 hL (by decide) rfl) d_W_857 ?_
  refine lv_aload_n C.1 C.2.1 d_W_858 rfl (lv_at hl 3 rfl) ?_
  refine lv_iload_n C.1 C.2.1 d_W_859 rfl (lv_at hl 0 rfl) ?_
  refine lv_iconst (v := 2) C.1 C.2.1 d_W_860 (by decide) ?_
  refine lv_iadd C.1 C.2.1 d_W_861 ?_
  refine va_sld (A := fun q => s.heap.size ≤ q) C.1 C.2.1 hX hbl (Nat.not_le.mpr hbl) hS2 (rd_in (k := 2) h5 hL (by decide) rfl) d_W_862 ?_
  refine lw_call C (ad := (wR sa D cA s.heap.size).1) (ad2 := (wC sa D cA s.heap.size).1) (As := [.int (xs (nI i + 1).toNatClampNeg), .int (xs (nI i + 2).toNatClampNeg)]) wR_adi wR_ge wRC hXR hPR2 hPC2 hS2 d_W_863 mx_M_trace (tbl_in (List.mem_of_getElem? (i := 1393) (by decide +kernel)) rfl) sR_0 rfl (c_M_trace hIR) rfl rfl rfl rfl hl.1 (Nat.le_of_ble_eq_true rfl) ⟨Nat.le_of_ble_eq_true rfl, Nat.le_of_ble_eq_true rfl⟩ hf (fun r2 M4 H locs hr2 hPR3 hPC3 hS3 => ?_)
  obtain ⟨e2, hIR3⟩ := hr2
  exact lv_icmp_eq C.1 C.2.1 d_W_866 (tgt := 1009) (by decide) (fun _ => K _ _ _ _ _ ⟨hPC3, hPR3, hIC2, hIR3, hS3⟩) (fun q => absurd (e1.trans e2.symm) q)
theorem lw_c27 (C : CA p s m args meth c R_law code 4 D cA) (hXC : SX (wC sa D cA s.heap.size) (AW (wC sa D cA s.heap.size) lyC s.heap.size) s s.heap) (hXR : SX (wR sa D cA s.heap.size) (AW (wR sa D cA s.heap.size) lyR s.heap.size) s s.heap) (hX : va_X b L xs s s.heap) (hbl : b < s.heap.size) (h5 : i + 5 ≤ L) (hL : L ≤ 2560) (hf : cells ≤ room_1.cells ∧ slots ≤ room_1.slots) (hI : LI D cA sa s H locs M1 M2 σ) (hl : lv_has ls 4 [(3, .int (nI i)), (2, .ref (s.heap.size + 84)), (1, .ref (s.heap.size + 0)), (0, .ref b)]) (K : ∀ H locs M1 M2 σ, LI D cA sa s H locs M1 M2 σ → W p l e room_1 s m args below meth c H locs cells slots Q (F0 m 1009 ls [])) : W p l e room_1 s m args below meth c H locs cells slots Q (F0 m 871 ls []) := by
  obtain ⟨hPC, hPR, hIC, hIR, hS⟩ := hI
  refine lv_aload_n C.1 C.2.1 d_W_871 rfl (lv_at hl 2 rfl) ?_
  refine lv_aload_n C.1 C.2.1 d_W_872 rfl (lv_at hl 3 rfl) ?_
  refine lv_iload_n C.1 C.2.1 d_W_873 rfl (lv_at hl 0 rfl) ?_
  refine lv_iconst (v := 1) C.1 C.2.1 d_W_874 (by decide) ?_
  refine lv_iadd C.1 C.2.1 d_W_875 ?_
  refine va_sld (A := fun q => s.heap.size ≤ q) C.1 C.2.1 hX hbl (Nat.not_le.mpr hbl) hS (rd_in (k := 1) h5 hL (by decide) rfl) d_W_876 ?_
  refine lw_call C (ad := (wC sa D cA s.heap.size).1) (ad2 := (wR sa D cA s.heap.size).1) (As := [.int (xs (nI i + 1).toNatClampNeg)]) wC_adi wC_ge wCR hXC hPC hPR hS d_W_877 mx_L_seed (tbl_in (List.mem_of_getElem? (i := 953) (by decide +kernel)) rfl) sC_83 rfl (c_L_seed hIC) rfl rfl rfl rfl hl.1 (Nat.le_of_ble_eq_true rfl) ⟨Nat.le_of_ble_eq_true rfl, Nat.le_of_ble_eq_true rfl⟩ hf (fun r1 M3 H locs hr1 hPC2 hPR2 hS2 => ?_)
  obtain ⟨e1, hIC2⟩ := hr1
  refine lv_aload_n C.1 C.2.1 d_W_880 rfl (lv_at hl 1 rfl) ?_
  refine lv_aload_n C.1 C.2.1 d_W_881 rfl (lv_at hl 3 rfl) ?_
  refine lv_iload_n C.1 C.2.1 d_W_882 rfl (lv_at hl 0 rfl) ?_
  refine lv_iconst (v := 1) C.1 C.2.1 d_W_883 (by decide) ?_
  refine lv_iadd C.1 C.2.1 d_W_884 ?_
  refine va_sld (A := fun q => s.heap.size ≤ q) C.1 C.2.1 hX hbl (Nat.not_le.mpr hbl) hS2 (rd_in (k := 1) h5 hL (by decide) rfl) d_W_885 ?_
  refine lw_call C (ad := (wR sa D cA s.heap.size).1) (ad2 := (wC sa D cA s.heap.size).1) (As := [.int (xs (nI i + 1).toNatClampNeg)]) wR_adi wR_ge wRC hXR hPR2 hPC2 hS2 d_W_886 mx_M_seed (tbl_in (List.mem_of_getElem? (i := 1405) (by decide +kernel)) rfl) sR_0 rfl (c_M_seed hIR) rfl rfl rfl rfl hl.1 (Nat.le_of_ble_eq_true rfl) ⟨Nat.le_of_ble_eq_true rfl, Nat.le_of_ble_eq_true rfl⟩ hf (fun r2 M4 H locs hr2 hPR3 hPC3 hS3 => ?_)
  obtain ⟨e2, hIR3⟩ := hr2
  exact lv_icmp_eq C.1 C.2.1 d_W_889 (tgt := 1009) (by decide) (fun _ => K _ _ _ _ _ ⟨hPC3, hPR3, hIC2, hIR3, hS3⟩) (fun q => absurd (e1.trans e2.symm) q)
theorem lw_c28 (C : CA p s m args meth c R_law code 4 D cA) (hXC : SX (wC sa D cA s.heap.size) (AW (wC sa D cA s.heap.size) lyC s.heap.size) s s.heap) (hXR : SX (wR sa D cA s.heap.size) (AW (wR sa D cA s.heap.size) lyR s.heap.size) s s.heap) (hX : va_X b L xs s s.heap) (hbl : b < s.heap.size) (h5 : i + 5 ≤ L) (hL : L ≤ 2560) (hf : cells ≤ room_1.cells ∧ slots ≤ room_1.slots) (hI : LI D cA sa s H locs M1 M2 σ) (hl : lv_has ls 4 [(3, .int (nI i)), (2, .ref (s.heap.size + 84)), (1, .ref (s.heap.size + 0)), (0, .ref b)]) (K : ∀ H locs M1 M2 σ, LI D cA sa s H locs M1 M2 σ → W p l e room_1 s m args below meth c H locs cells slots Q (F0 m 1009 ls [])) : W p l e room_1 s m args below meth c H locs cells slots Q (F0 m 894 ls []) := by
  obtain ⟨hPC, hPR, hIC, hIR, hS⟩ := hI
  refine lv_aload_n C.1 C.2.1 d_W_894 rfl (lv_at hl 2 rfl) ?_
  refine lw_call C (ad := (wC sa D cA s.heap.size).1) (ad2 := (wR sa D cA s.heap.size).1) (As := []) wC_adi wC_ge wCR hXC hPC hPR hS d_W_895 mx_L_image (tbl_in (List.mem_of_getElem? (i := 957) (by decide +kernel)) rfl) sC_83 rfl (c_L_image hIC) rfl rfl rfl rfl hl.1 (Nat.le_of_ble_eq_true rfl) ⟨Nat.le_of_ble_eq_true rfl, Nat.le_of_ble_eq_true rfl⟩ hf (fun r1 M3 H locs hr1 hPC2 hPR2 hS2 => ?_)
  obtain ⟨e1, hIC2⟩ := hr1
  refine lv_aload_n C.1 C.2.1 d_W_898 rfl (lv_at hl 1 rfl) ?_
  refine lw_call C (ad := (wR sa D cA s.heap.size).1) (ad2 := (wC sa D cA s.heap.size).1) (As := []) wR_adi wR_ge wRC hXR hPR2 hPC2 hS2 d_W_899 mx_M_image (tbl_in (List.mem_of_getElem? (i := 1409) (by decide +kernel)) rfl) sR_0 rfl (c_M_image hIR) rfl rfl rfl rfl hl.1 (Nat.le_of_ble_eq_true rfl) ⟨Nat.le_of_ble_eq_true rfl, Nat.le_of_ble_eq_true rfl⟩ hf (fun r2 M4 H locs hr2 hPR3 hPC3 hS3 => ?_)
  obtain ⟨e2, hIR3⟩ := hr2
  exact lv_icmp_eq C.1 C.2.1 d_W_902 (tgt := 1009) (by decide) (fun _ => K _ _ _ _ _ ⟨hPC3, hPR3, hIC2, hIR3, hS3⟩) (fun q => absurd (e1.trans e2.symm) q)
theorem lw_c29 (C : CA p s m args meth c R_law code 4 D cA) (hXC : SX (wC sa D cA s.heap.size) (AW (wC sa D cA s.heap.size) lyC s.heap.size) s s.heap) (hXR : SX (wR sa D cA s.heap.size) (AW (wR sa D cA s.heap.size) lyR s.heap.size) s s.heap) (hX : va_X b L xs s s.heap) (hbl : b < s.heap.size) (h5 : i + 5 ≤ L) (hL : L ≤ 2560) (hf : cells ≤ room_1.cells ∧ slots ≤ room_1.slots) (hI : LI D cA sa s H locs M1 M2 σ) (hl : lv_has ls 4 [(3, .int (nI i)), (2, .ref (s.heap.size + 84)), (1, .ref (s.heap.size + 0)), (0, .ref b)]) (K : ∀ H locs M1 M2 σ, LI D cA sa s H locs M1 M2 σ → W p l e room_1 s m args below meth c H locs cells slots Q (F0 m 1009 ls [])) : W p l e room_1 s m args below meth c H locs cells slots Q (F0 m 907 ls []) := by
  obtain ⟨hPC, hPR, hIC, hIR, hS⟩ := hI
  refine lv_aload_n C.1 C.2.1 d_W_907 rfl (lv_at hl 2 rfl) ?_
  refine lw_call C (ad := (wC sa D cA s.heap.size).1) (ad2 := (wR sa D cA s.heap.size).1) (As := []) wC_adi wC_ge wCR hXC hPC hPR hS d_W_908 mx_L_back (tbl_in (List.mem_of_getElem? (i := 961) (by decide +kernel)) rfl) sC_83 rfl (c_L_back hIC) rfl rfl rfl rfl hl.1 (Nat.le_of_ble_eq_true rfl) ⟨Nat.le_of_ble_eq_true rfl, Nat.le_of_ble_eq_true rfl⟩ hf (fun r1 M3 H locs hr1 hPC2 hPR2 hS2 => ?_)
  obtain ⟨e1, hIC2⟩ := hr1
  refine lv_aload_n C.1 C.2.1 d_W_911 rfl (lv_at hl 1 rfl) ?_
  refine lw_call C (ad := (wR sa D cA s.heap.size).1) (ad2 := (wC sa D cA s.heap.size).1) (As := []) wR_adi wR_ge wRC hXR hPR2 hPC2 hS2 d_W_912 mx_M_back (tbl_in (List.mem_of_getElem? (i := 1413) (by decide +kernel)) rfl) sR_0 rfl (c_M_back hIR) rfl rfl rfl rfl hl.1 (Nat.le_of_ble_eq_true rfl) ⟨Nat.le_of_ble_eq_true rfl, Nat.le_of_ble_eq_true rfl⟩ hf (fun r2 M4 H locs hr2 hPR3 hPC3 hS3 => ?_)
  obtain ⟨e2, hIR3⟩ := hr2
  exact lv_icmp_eq C.1 C.2.1 d_W_915 (tgt := 1009) (by decide) (fun _ => K _ _ _ _ _ ⟨hPC3, hPR3, hIC2, hIR3, hS3⟩) (fun q => absurd (e1.trans e2.symm) q)
theorem lw_c30 (C : CA p s m args meth c R_law code 4 D cA) (hXC : SX (wC sa D cA s.heap.size) (AW (wC sa D cA s.heap.size) lyC s.heap.size) s s.heap) (hXR : SX (wR sa D cA s.heap.size) (AW (wR sa D cA s.heap.size) lyR s.heap.size) s s.heap) (hX : va_X b L xs s s.heap) (hbl : b < s.heap.size) (h5 : i + 5 ≤ L) (hL : L ≤ 2560) (hf : cells ≤ room_1.cells ∧ slots ≤ room_1.slots) (hI : LI D cA sa s H locs M1 M2 σ) (hl : lv_has ls 4 [(3, .int (nI i)), (2, .ref (s.heap.size + 84)), (1, .ref (s.heap.size + 0)), (0, .ref b)]) (K : ∀ H locs M1 M2 σ, LI D cA sa s H locs M1 M2 σ → W p l e room_1 s m args below meth c H locs cells slots Q (F0 m 1009 ls [])) : W p l e room_1 s m args below meth c H locs cells slots Q (F0 m 920 ls []) := by
  obtain ⟨hPC, hPR, hIC, hIR, hS⟩ := hI
  refine lv_aload_n C.1 C.2.1 d_W_920 rfl (lv_at hl 2 rfl) ?_
  refine lv_aload_n C.1 C.2.1 d_W_921 rfl (lv_at hl 3 rfl) ?_
  refine lv_iload_n C.1 C.2.1 d_W_922 rfl (lv_at hl 0 rfl) ?_
  refine lv_iconst (v := 1) C.1 C.2.1 d_W_923 (by decide) ?_
  refine lv_iadd C.1 C.2.1 d_W_924 ?_
  refine va_sld (A := fun q => s.heap.size ≤ q) C.1 C.2.1 hX hbl (Nat.not_le.mpr hbl) hS (rd_in (k := 1) h5 hL (by decide) rfl) d_W_925 ?_
  refine lv_aload_n C.1 C.2.1 d_W_926 rfl (lv_at hl 3 rfl) ?_
  refine lv_iload_n C.1 C.2.1 d_W_927 rfl (lv_at hl 0 rfl) ?_
  refine lv_iconst (v := 2) C.1 C.2.1 d_W_928 (by decide) ?_
  refine lv_iadd C.1 C.2.1 d_W_929 ?_
  refine va_sld (A := fun q => s.heap.size ≤ q) C.1 C.2.1 hX hbl (Nat.not_le.mpr hbl) hS (rd_in (k := 2) h5 hL (by decide) rfl) d_W_930 ?_
  refine lw_call C (ad := (wC sa D cA s.heap.size).1) (ad2 := (wR sa D cA s.heap.size).1) (As := [.int (xs (nI i + 1).toNatClampNeg), .int (xs (nI i + 2).toNatClampNeg)]) wC_adi wC_ge wCR hXC hPC hPR hS d_W_931 mx_L_hold (tbl_in (List.mem_of_getElem? (i := 965) (by decide +kernel)) rfl) sC_83 rfl (c_L_hold hIC) rfl rfl rfl rfl hl.1 (Nat.le_of_ble_eq_true rfl) ⟨Nat.le_of_ble_eq_true rfl, Nat.le_of_ble_eq_true rfl⟩ hf (fun r1 M3 H locs hr1 hPC2 hPR2 hS2 => ?_)
  obtain ⟨e1, hIC2⟩ := hr1
  refine lv_aload_n C.1 C.2.1 d_W_934 rfl (lv_at hl 1 rfl) ?_
  refine lv_aload_n C.1 C.2.1 d_W_935 rfl (lv_at hl 3 rfl) ?_
  refine lv_iload_n C.1 C.2.1 d_W_936 rfl (lv_at hl 0 rfl) ?_
  refine lv_iconst (v := 1) C.1 C.2.1 d_W_937 (by decide) ?_
  refine lv_iadd C.1 C.2.1 d_W_938 ?_
  refine va_sld (A := fun q => s.heap.size ≤ q) C.1 C.2.1 hX hbl (Nat.not_le.mpr hbl) hS2 (rd_in (k := 1) h5 hL (by decide) rfl) d_W_939 ?_
  refine lv_aload_n C.1 C.2.1 d_W_940 rfl (lv_at hl 3 rfl) ?_
  refine lv_iload_n C.1 C.2.1 d_W_941 rfl (lv_at hl 0 rfl) ?_
  refine lv_iconst (v := 2) C.1 C.2.1 d_W_942 (by decide) ?_
  refine lv_iadd C.1 C.2.1 d_W_943 ?_
  refine va_sld (A := fun q => s.heap.size ≤ q) C.1 C.2.1 hX hbl (Nat.not_le.mpr hbl) hS2 (rd_in (k := 2) h5 hL (by decide) rfl) d_W_944 ?_
  refine lw_call C (ad := (wR sa D cA s.heap.size).1) (ad2 := (wC sa D cA s.heap.size).1) (As := [.int (xs (nI i + 1).toNatClampNeg), .int (xs (nI i + 2).toNatClampNeg)]) wR_adi wR_ge wRC hXR hPR2 hPC2 hS2 d_W_945 mx_M_hold (tbl_in (List.mem_of_getElem? (i := 1417) (by decide +kernel)) rfl) sR_0 rfl (c_M_hold hIR) rfl rfl rfl rfl hl.1 (Nat.le_of_ble_eq_true rfl) ⟨Nat.le_of_ble_eq_true rfl, Nat.le_of_ble_eq_true rfl⟩ hf (fun r2 M4 H locs hr2 hPR3 hPC3 hS3 => ?_)
  obtain ⟨e2, hIR3⟩ := hr2
  exact lv_icmp_eq C.1 C.2.1 d_W_948 (tgt := 1009) (by decide) (fun _ => K _ _ _ _ _ ⟨hPC3, hPR3, hIC2, hIR3, hS3⟩) (fun q => absurd (e1.trans e2.symm) q)
theorem lw_c31 (C : CA p s m args meth c R_law code 4 D cA) (hXC : SX (wC sa D cA s.heap.size) (AW (wC sa D cA s.heap.size) lyC s.heap.size) s s.heap) (hXR : SX (wR sa D cA s.heap.size) (AW (wR sa D cA s.heap.size) lyR s.heap.size) s s.heap) (hX : va_X b L xs s s.heap) (hbl : b < s.heap.size) (h5 : i + 5 ≤ L) (hL : L ≤ 2560) (hf : cells ≤ room_1.cells ∧ slots ≤ room_1.slots) (hI : LI D cA sa s H locs M1 M2 σ) (hl : lv_has ls 4 [(3, .int (nI i)), (2, .ref (s.heap.size + 84)), (1, .ref (s.heap.size + 0)), (0, .ref b)]) (K : ∀ H locs M1 M2 σ, LI D cA sa s H locs M1 M2 σ → W p l e room_1 s m args below meth c H locs cells slots Q (F0 m 1009 ls [])) : W p l e room_1 s m args below meth c H locs cells slots Q (F0 m 953 ls []) := by
  obtain ⟨hPC, hPR, hIC, hIR, hS⟩ := hI
  refine lv_aload_n C.1 C.2.1 d_W_953 rfl (lv_at hl 2 rfl) ?_
  refine lv_aload_n C.1 C.2.1 d_W_954 rfl (lv_at hl 3 rfl) ?_
  refine lv_iload_n C.1 C.2.1 d_W_955 rfl (lv_at hl 0 rfl) ?_
  refine lv_iconst (v := 1) C.1 C.2.1 d_W_956 (by decide) ?_
  refine lv_iadd C.1 C.2.1 d_W_957 ?_
  refine va_sld (A := fun q => s.heap.size ≤ q) C.1 C.2.1 hX hbl (Nat.not_le.mpr hbl) hS (rd_in (k := 1) h5 hL (by decide) rfl) d_W_958 ?_
  refine lv_aload_n C.1 C.2.1 d_W_959 rfl (lv_at hl 3 rfl) ?_
  refine lv_iload_n C.1 C.2.1 d_W_960 rfl (lv_at hl 0 rfl) ?_
  refine lv_iconst (v := 2) C.1 C.2.1 d_W_961 (by decide) ?_
  refine lv_iadd C.1 C.2.1 d_W_962 ?_
  refine va_sld (A := fun q => s.heap.size ≤ q) C.1 C.2.1 hX hbl (Nat.not_le.mpr hbl) hS (rd_in (k := 2) h5 hL (by decide) rfl) d_W_963 ?_
  refine lw_call C (ad := (wC sa D cA s.heap.size).1) (ad2 := (wR sa D cA s.heap.size).1) (As := [.int (xs (nI i + 1).toNatClampNeg), .int (xs (nI i + 2).toNatClampNeg)]) wC_adi wC_ge wCR hXC hPC hPR hS d_W_964 mx_L_tells (tbl_in (List.mem_of_getElem? (i := 969) (by decide +kernel)) rfl) sC_83 rfl (c_L_tells hIC) rfl rfl rfl rfl hl.1 (Nat.le_of_ble_eq_true rfl) ⟨Nat.le_of_ble_eq_true rfl, Nat.le_of_ble_eq_true rfl⟩ hf (fun r1 M3 H locs hr1 hPC2 hPR2 hS2 => ?_)
  obtain ⟨e1, e0⟩ := hr1
  have hIC2 : InvC M3 σ := by rw [e0]; exact hIC
  refine lv_aload_n C.1 C.2.1 d_W_967 rfl (lv_at hl 1 rfl) ?_
  refine lv_aload_n C.1 C.2.1 d_W_968 rfl (lv_at hl 3 rfl) ?_
  refine lv_iload_n C.1 C.2.1 d_W_969 rfl (lv_at hl 0 rfl) ?_
  refine lv_iconst (v := 1) C.1 C.2.1 d_W_970 (by decide) ?_
  refine lv_iadd C.1 C.2.1 d_W_971 ?_
  refine va_sld (A := fun q => s.heap.size ≤ q) C.1 C.2.1 hX hbl (Nat.not_le.mpr hbl) hS2 (rd_in (k := 1) h5 hL (by decide) rfl) d_W_972 ?_
  refine lv_aload_n C.1 C.2.1 d_W_973 rfl (lv_at hl 3 rfl) ?_
  refine lv_iload_n C.1 C.2.1 d_W_974 rfl (lv_at hl 0 rfl) ?_
  refine lv_iconst (v := 2) C.1 C.2.1 d_W_975 (by decide) ?_
  refine lv_iadd C.1 C.2.1 d_W_976 ?_
  refine va_sld (A := fun q => s.heap.size ≤ q) C.1 C.2.1 hX hbl (Nat.not_le.mpr hbl) hS2 (rd_in (k := 2) h5 hL (by decide) rfl) d_W_977 ?_
  refine lw_call C (ad := (wR sa D cA s.heap.size).1) (ad2 := (wC sa D cA s.heap.size).1) (As := [.int (xs (nI i + 1).toNatClampNeg), .int (xs (nI i + 2).toNatClampNeg)]) wR_adi wR_ge wRC hXR hPR2 hPC2 hS2 d_W_978 mx_M_tells (tbl_in (List.mem_of_getElem? (i := 1421) (by decide +kernel)) rfl) sR_0 rfl (c_M_tells hIR) rfl rfl rfl rfl hl.1 (Nat.le_of_ble_eq_true rfl) ⟨Nat.le_of_ble_eq_true rfl, Nat.le_of_ble_eq_true rfl⟩ hf (fun r2 M4 H locs hr2 hPR3 hPC3 hS3 => ?_)
  obtain ⟨e2, hIR3⟩ := hr2
  exact lv_icmp_eq C.1 C.2.1 d_W_981 (tgt := 1009) (by decide) (fun _ => K _ _ _ _ _ ⟨hPC3, hPR3, hIC2, hIR3, hS3⟩) (fun q => absurd (e1.trans e2.symm) q)
theorem lw_c32 (C : CA p s m args meth c R_law code 4 D cA) (hXC : SX (wC sa D cA s.heap.size) (AW (wC sa D cA s.heap.size) lyC s.heap.size) s s.heap) (hXR : SX (wR sa D cA s.heap.size) (AW (wR sa D cA s.heap.size) lyR s.heap.size) s s.heap) (hX : va_X b L xs s s.heap) (hbl : b < s.heap.size) (h5 : i + 5 ≤ L) (hL : L ≤ 2560) (hf : cells ≤ room_1.cells ∧ slots ≤ room_1.slots) (hI : LI D cA sa s H locs M1 M2 σ) (hl : lv_has ls 4 [(3, .int (nI i)), (2, .ref (s.heap.size + 84)), (1, .ref (s.heap.size + 0)), (0, .ref b)]) (K : ∀ H locs M1 M2 σ, LI D cA sa s H locs M1 M2 σ → W p l e room_1 s m args below meth c H locs cells slots Q (F0 m 1009 ls [])) : W p l e room_1 s m args below meth c H locs cells slots Q (F0 m 986 ls []) := by
  obtain ⟨hPC, hPR, hIC, hIR, hS⟩ := hI
  refine lv_aload_n C.1 C.2.1 d_W_986 rfl (lv_at hl 2 rfl) ?_
  refine lv_aload_n C.1 C.2.1 d_W_987 rfl (lv_at hl 3 rfl) ?_
  refine lv_iload_n C.1 C.2.1 d_W_988 rfl (lv_at hl 0 rfl) ?_
  refine lv_iconst (v := 1) C.1 C.2.1 d_W_989 (by decide) ?_
  refine lv_iadd C.1 C.2.1 d_W_990 ?_
  refine va_sld (A := fun q => s.heap.size ≤ q) C.1 C.2.1 hX hbl (Nat.not_le.mpr hbl) hS (rd_in (k := 1) h5 hL (by decide) rfl) d_W_991 ?_
  refine lw_call C (ad := (wC sa D cA s.heap.size).1) (ad2 := (wR sa D cA s.heap.size).1) (As := [.int (xs (nI i + 1).toNatClampNeg)]) wC_adi wC_ge wCR hXC hPC hPR hS d_W_992 mx_L_count (tbl_in (List.mem_of_getElem? (i := 975) (by decide +kernel)) rfl) sC_83 rfl (c_L_count hIC) rfl rfl rfl rfl hl.1 (Nat.le_of_ble_eq_true rfl) ⟨Nat.le_of_ble_eq_true rfl, Nat.le_of_ble_eq_true rfl⟩ hf (fun r1 M3 H locs hr1 hPC2 hPR2 hS2 => ?_)
  obtain ⟨e1, e0⟩ := hr1
  have hIC2 : InvC M3 σ := by rw [e0]; exact hIC
  refine lv_aload_n C.1 C.2.1 d_W_995 rfl (lv_at hl 1 rfl) ?_
  refine lv_aload_n C.1 C.2.1 d_W_996 rfl (lv_at hl 3 rfl) ?_
  refine lv_iload_n C.1 C.2.1 d_W_997 rfl (lv_at hl 0 rfl) ?_
  refine lv_iconst (v := 1) C.1 C.2.1 d_W_998 (by decide) ?_
  refine lv_iadd C.1 C.2.1 d_W_999 ?_
  refine va_sld (A := fun q => s.heap.size ≤ q) C.1 C.2.1 hX hbl (Nat.not_le.mpr hbl) hS2 (rd_in (k := 1) h5 hL (by decide) rfl) d_W_1000 ?_
  refine lw_call C (ad := (wR sa D cA s.heap.size).1) (ad2 := (wC sa D cA s.heap.size).1) (As := [.int (xs (nI i + 1).toNatClampNeg)]) wR_adi wR_ge wRC hXR hPR2 hPC2 hS2 d_W_1001 mx_M_count (tbl_in (List.mem_of_getElem? (i := 1432) (by decide +kernel)) rfl) sR_0 rfl (c_M_count hIR) rfl rfl rfl rfl hl.1 (Nat.le_of_ble_eq_true rfl) ⟨Nat.le_of_ble_eq_true rfl, Nat.le_of_ble_eq_true rfl⟩ hf (fun r2 M4 H locs hr2 hPR3 hPC3 hS3 => ?_)
  obtain ⟨e2, hIR3⟩ := hr2
  exact lv_icmp_eq C.1 C.2.1 d_W_1004 (tgt := 1009) (by decide) (fun _ => K _ _ _ _ _ ⟨hPC3, hPR3, hIC2, hIR3, hS3⟩) (fun q => absurd (e1.trans e2.symm) q)
end LWW
