/-! fields, arrays, calls, answers -/
theorem vp_inN {i : Int32} {n : Nat} (h : 0 ≤ i.toInt ∧ i.toInt < n) : vp_in i n := vp_in_iff.mpr h
theorem wl_lt {w : WD} {y : LY} {M : Mem} {H : Heap} {p : Nat} (hP : va_P w.2.1 cls0 (wl w y M) H) (h : p < y.1) : w.1 p < H.size := (hP p _ (wl_at h)).lt
theorem same_cls {ci : Nat} {q : vw_C} (h : cls0[ci]? = some q) : ∀ j, j < q.2.2 → (q.2.1 j).1 = q.1 := by
  match ci, h with
  | 0, h => cases h; exact (by decide +kernel : ∀ j, j < 5 → (F_K j).1 = R_K)
  | 1, h => cases h; exact (by decide +kernel : ∀ j, j < 7 → (F_E j).1 = R_E)
  | 2, h => cases h; exact (by decide +kernel : ∀ j, j < 15 → (F_G j).1 = R_G)
  | 3, h => cases h; exact (by decide +kernel : ∀ j, j < 7 → (F_Y j).1 = R_Y)
  | 4, h => cases h; exact (by decide +kernel : ∀ j, j < 4 → (F_O j).1 = R_O)
  | 5, h => cases h; exact (by decide +kernel : ∀ j, j < 5 → (F_P j).1 = R_P)
  | 6, h => cases h; exact (by decide +kernel : ∀ j, j < 8 → (F_R j).1 = R_R)
  | 7, h => cases h; exact (by decide +kernel : ∀ j, j < 8 → (F_T j).1 = R_T)
  | 8, h => cases h; exact (by decide +kernel : ∀ j, j < 16 → (F_L j).1 = R_L)
  | 9, h => cases h; exact (by decide +kernel : ∀ j, j < 35 → (F_M j).1 = R_M)
  | k + 10, h => simp [cls0] at h
section RH
variable {κ : KX} {y : LY} {own : String} {cc : ByteArray} {nL d pc : Nat} {ret : Option FieldType} {L L' : List (Option Value)} {st : List Value} {M : Mem}
theorem u_geti (C : Cx κ y own cc nL ret d) {idx ci j p : Nat} (hd : decode cc pc = .ok (.getfield idx, 3)) (hf : FW own idx ci j) (hs : sh y p 0 ci) (hk : (decide (fk ci j ≠ 1) && decide (j < nf ci)) = true) (kk : G κ y (pc + 3) L (.int (M.1 p j) :: st) M) : G κ y pc L (.ref p :: st) M := by
  obtain ⟨p_, l, e, R, s, m, args, below, meth, c, w, PQ⟩ := κ
  obtain ⟨hx, hb, hml, hown, hts, hK, hA, hlk, hr, hR, hN, hX⟩ := C
  simp only [Bool.and_eq_true, decide_eq_true_eq] at hk
  obtain ⟨hk1, hk2⟩ := hk
  obtain ⟨hs1, hs2⟩ := hs
  obtain ⟨q, hq, hf⟩ := hf
  obtain ⟨hN1, hin, -⟩ := cw_all hq hq
  intro H locs ls hP hS hl
  have he : (wl w y M)[p]? = some (w.1 p, .inr (ci, (List.range (nf ci)).map (fvl w y M p ci))) := by rw [wl_at hs1, ent_obj hs2]
  have hv : ((List.range (nf ci)).map (fvl w y M p ci))[j]? = some (.int (M.1 p j)) := by simp [hk2, fvl, hk1]
  rcases hf with hf | ⟨host, hf⟩
  · exact va_get (ci := ci) hx hb hts hin hown hK hP p he hq j (by rw [hN1]; exact hk2) (hts _ hf) (fun _ h => by rw [← same_cls hq j (by rw [hN1]; exact hk2)]; exact h) hv hd (kk H locs ls hP hS hl)
  · exact va_getN (ci := ci) hx hb hts hin hown hK hP p he hq j (by rw [hN1]; exact hk2) (va_Nw.use rfl (hN _ hf)) (fun _ h => by rw [← same_cls hq j (by rw [hN1]; exact hk2)]; exact h) hv hd (kk H locs ls hP hS hl)
theorem u_getr (C : Cx κ y own cc nL ret d) {idx ci j p r : Nat} (hd : decode cc pc = .ok (.getfield idx, 3)) (hf : FW own idx ci j) (hs : sh y p 0 ci) (hk : (decide (fk ci j = 1) && decide (j < nf ci)) = true) (hr9 : y.2.2 p j = r) (kk : G κ y (pc + 3) L (.ref r :: st) M) : G κ y pc L (.ref p :: st) M := by
  subst hr9
  obtain ⟨p_, l, e, R, s, m, args, below, meth, c, w, PQ⟩ := κ
  obtain ⟨hx, hb, hml, hown, hts, hK, hA, hlk, hr, hR, hN, hX⟩ := C
  simp only [Bool.and_eq_true, decide_eq_true_eq] at hk
  obtain ⟨hk1, hk2⟩ := hk
  obtain ⟨hs1, hs2⟩ := hs
  obtain ⟨q, hq, hf⟩ := hf
  obtain ⟨hN1, hin, -⟩ := cw_all hq hq
  intro H locs ls hP hS hl
  have he : (wl w y M)[p]? = some (w.1 p, .inr (ci, (List.range (nf ci)).map (fvl w y M p ci))) := by rw [wl_at hs1, ent_obj hs2]
  have hv : ((List.range (nf ci)).map (fvl w y M p ci))[j]? = some (.ref (w.1 (y.2.2 p j))) := by simp [hk2, fvl, hk1]
  rcases hf with hf | ⟨host, hf⟩
  · exact va_get (ci := ci) hx hb hts hin hown hK hP p he hq j (by rw [hN1]; exact hk2) (hts _ hf) (fun _ h => by rw [← same_cls hq j (by rw [hN1]; exact hk2)]; exact h) hv hd (kk H locs ls hP hS hl)
  · exact va_getN (ci := ci) hx hb hts hin hown hK hP p he hq j (by rw [hN1]; exact hk2) (va_Nw.use rfl (hN _ hf)) (fun _ h => by rw [← same_cls hq j (by rw [hN1]; exact hk2)]; exact h) hv hd (kk H locs ls hP hS hl)
theorem u_put (C : Cx κ y own cc nL ret d) {idx ci j p : Nat} {x : Int32} (hd : decode cc pc = .ok (.putfield idx, 3)) (hf : FW own idx ci j) (hs : sh y p 0 ci) (hk : (decide (fk ci j ≠ 1) && decide (j < nf ci)) = true) (hz : fk ci j = 0 ∨ (fk ci j = 2 ∧ (x = 0 ∨ x = 1))) (kk : G κ y (pc + 3) L st (up M p j x)) : G κ y pc L (.int x :: .ref p :: st) M := by
  obtain ⟨p_, l, e, R, s, m, args, below, meth, c, w, PQ⟩ := κ
  obtain ⟨hx, hb, hml, hown, hts, hK, hA, hlk, hr, hR, hN, hX⟩ := C
  simp only [Bool.and_eq_true, decide_eq_true_eq] at hk
  obtain ⟨hk1, hk2⟩ := hk
  obtain ⟨hs1, hs2⟩ := hs
  obtain ⟨q, hq, hf⟩ := hf
  obtain ⟨hN1, hin, hnm, ty0, hty, h0, h2⟩ := cw_all hq hq
  have hkN : j < q.2.2 := by rw [hN1]; exact hk2
  intro H locs ls hP hS hl
  have he : (wl w y M)[p]? = some (w.1 p, .inr (ci, (List.range (nf ci)).map (fvl w y M p ci))) := by rw [wl_at hs1, ent_obj hs2]
  have hty2 : (ty0 j = .int ∨ ty0 j = .boolean ∧ (x = 0 ∨ x = 1)) ∧ (q.2.1 j).2.2.2 = false := by
    rcases hz with hz | ⟨hz, hz2⟩
    · exact ⟨Or.inl (h0 j hkN hz).1, (h0 j hkN hz).2⟩
    · exact ⟨Or.inr ⟨(h2 j hkN hz).1, hz2⟩, (h2 j hkN hz).2⟩
  have hn : narrow (ty0 j) (.int x) = .int x := by
    rcases hty2.1 with h | ⟨h, rfl | rfl⟩ <;> rw [h] <;> rfl
  have hfit : fits (ty0 j) (.int x) = true := by
    rcases hty2.1 with h | ⟨h, rfl | rfl⟩ <;> rw [h] <;> rfl
  have hD : va_D (AW w y s.heap.size) (wl w y M) := wl_D hA (fun p hp => Or.inl ⟨p, hp, rfl⟩)
  have hlen : j < ((List.range (nf ci)).map (fvl w y M p ci)).length := by simpa using hk2
  have kk' : ∀ (H1 : Heap) (locs1 : List Loc), va_P w.2.1 cls0 ((wl w y M).set p (w.1 p, .inr (ci, ((List.range (nf ci)).map (fvl w y M p ci)).set j (.int x)))) H1 → va_D (AW w y s.heap.size) ((wl w y M).set p (w.1 p, .inr (ci, ((List.range (nf ci)).map (fvl w y M p ci)).set j (.int x)))) → va_S (AW w y s.heap.size) s.heap H1 locs1 → W p_ l e R s m args below meth c H1 locs1 0 0 (MQ below (QC w y PQ) args s 0 0 (AW w y s.heap.size)) (F0 m (pc + 3) ls (st.map (cv w.1))) := by
    intro H1 locs1 hP1 hD1 hS1
    rw [wl_put hs1 hs2 hk1 hk2] at hP1
    exact kk H1 locs1 ls hP1 hS1 hl
  rcases hf with hf | ⟨host, hf⟩
  · exact va_put (ci := ci) (v := .int x) (ty := ty0 j) hx hb hts hin ty0 hty hnm hown hK hP hD hS p he hq j hkN (hts _ hf) (fun _ h => by rw [← same_cls hq j hkN]; exact h) hty2.2 (hty j hkN) hn hfit hlen hd kk'
  · exact va_putN (ci := ci) (v := .int x) (ty := ty0 j) hx hb hts hin ty0 hty hnm hown hK hP hD hS p he hq j hkN (va_Nw.use rfl (hN _ hf)) (fun _ h => by rw [← same_cls hq j hkN]; exact h) hty2.2 (hty j hkN) hn hfit hlen hd kk'
theorem u_iald (C : Cx κ y own cc nL ret d) {p n : Nat} {i : Int32} (hd : decode cc pc = .ok (.iaload, 1)) (hs : sh y p 1 n) (hi : vp_in i n) (kk : G κ y (pc + 1) L (.int (M.1 p i.toNatClampNeg) :: st) M) : G κ y pc L (.int i :: .ref p :: st) M := by
  obtain ⟨p_, l, e, R, s, m, args, below, meth, c, w, PQ⟩ := κ
  obtain ⟨hx, hb, hml, hown, hts, hK, hA, hlk, hr, hR, hN, hX⟩ := C
  intro H locs ls hP hS hl
  exact va_iald hx hb hK hP p 0 (by rw [wl_at hs.1, ent_int hs.2]) rfl hi hd (kk H locs ls hP hS hl)
theorem u_lald (C : Cx κ y own cc nL ret d) {p n : Nat} {i : Int32} (hd : decode cc pc = .ok (.laload, 1)) (hs : sh y p 2 n) (hi : vp_in i n) (kk : G κ y (pc + 1) L (.long (M.2 p i.toNatClampNeg) :: st) M) : G κ y pc L (.int i :: .ref p :: st) M := by
  obtain ⟨p_, l, e, R, s, m, args, below, meth, c, w, PQ⟩ := κ
  obtain ⟨hx, hb, hml, hown, hts, hK, hA, hlk, hr, hR, hN, hX⟩ := C
  intro H locs ls hP hS hl
  exact va_lald hx hb hK hP p 1 (by rw [wl_at hs.1, ent_long hs.2]) rfl hi hd (kk H locs ls hP hS hl)
theorem u_aaldG (C : Cx κ y own cc nL ret d) {p n r : Nat} {i : Int32} (hd : decode cc pc = .ok (.aaload, 1)) (hs : sh y p 3 n) (hi : vp_in i n) (hr9 : y.2.2 p i.toNatClampNeg = r) (kk : G κ y (pc + 1) L (.ref r :: st) M) : G κ y pc L (.int i :: .ref p :: st) M := by
  subst hr9
  obtain ⟨p_, l, e, R, s, m, args, below, meth, c, w, PQ⟩ := κ
  obtain ⟨hx, hb, hml, hown, hts, hK, hA, hlk, hr, hR, hN, hX⟩ := C
  intro H locs ls hP hS hl
  have ha : (wl w y M)[p]? = some (w.1 p, .inl (w.2.2 2, n, .inr (.inr (.inr (.inr (fun j => some (w.1 (y.2.2 p j)))))))) := by rw [wl_at hs.1, ent_gam hs.2]
  exact va_aldq hx hb hK hP p 2 ha rfl hi hd (kk H locs ls hP hS hl)
theorem u_aaldR (C : Cx κ y own cc nL ret d) {p n r : Nat} {i : Int32} (hd : decode cc pc = .ok (.aaload, 1)) (hs : sh y p 4 n) (hi : vp_in i n) (hr9 : y.2.2 p i.toNatClampNeg = r) (kk : G κ y (pc + 1) L (.ref r :: st) M) : G κ y pc L (.int i :: .ref p :: st) M := by
  subst hr9
  obtain ⟨p_, l, e, R, s, m, args, below, meth, c, w, PQ⟩ := κ
  obtain ⟨hx, hb, hml, hown, hts, hK, hA, hlk, hr, hR, hN, hX⟩ := C
  intro H locs ls hP hS hl
  have hlt : i.toNatClampNeg < n := Nat.not_le.mp fun q => hi (Or.inr q)
  have ha : (wl w y M)[p]? = some (w.1 p, .inl (w.2.2 3, n, .inr (.inr (.inr (.inr (fun j => some (w.1 (y.2.2 p j)))))))) := by rw [wl_at hs.1, ent_row hs.2]
  exact W.aald (v := va_rf (some (w.1 (y.2.2 p i.toNatClampNeg)))) (ty := .array .int) hx hb (hP p _ ha) ((hK.2 3 _ rfl).1 n (fun j => va_rf (some (w.1 (y.2.2 p j))))) rfl (fun q => by cases q) (by show ¬ (i < 0 ∨ (arrV _ _ _).slots.size ≤ _); rw [arrV_size]; exact hi) (by show (arrV _ _ _).slots[_]? = _; rw [arrV_read _ _ hlt]) rfl rfl hd (kk H locs ls hP hS hl)
theorem u_alen (C : Cx κ y own cc nL ret d) {p n t : Nat} {v : Int32} (hd : decode cc pc = .ok (.arraylength, 1)) (hs : sh y p t n) (ht : (decide (0 < t) && decide (t < 5)) = true) (hv : Int32.ofNat n = v) (kk : G κ y (pc + 1) L (.int v :: st) M) : G κ y pc L (.ref p :: st) M := by
  obtain ⟨p_, l, e, R, s, m, args, below, meth, c, w, PQ⟩ := κ
  obtain ⟨hx, hb, hml, hown, hts, hK, hA, hlk, hr, hR, hN, hX⟩ := C
  simp only [Bool.and_eq_true, decide_eq_true_eq] at ht
  intro H locs ls hP hS hl
  obtain ⟨hs1, hs2⟩ := hs
  rcases (show t = 1 ∨ t = 2 ∨ t = 3 ∨ t = 4 by omega) with rfl | rfl | rfl | rfl
  · exact va_alen hx hb hK hP p 0 (by rw [wl_at hs1, ent_int hs2]) rfl hv hd (kk H locs ls hP hS hl)
  · exact va_alen hx hb hK hP p 1 (by rw [wl_at hs1, ent_long hs2]) rfl hv hd (kk H locs ls hP hS hl)
  · exact va_alen hx hb hK hP p 2 (by rw [wl_at hs1, ent_gam hs2]) rfl hv hd (kk H locs ls hP hS hl)
  · exact va_alen hx hb hK hP p 3 (by rw [wl_at hs1, ent_row hs2]) rfl hv hd (kk H locs ls hP hS hl)
theorem u_iast (C : Cx κ y own cc nL ret d) {p n : Nat} {i x : Int32} (hd : decode cc pc = .ok (.iastore, 1)) (hs : sh y p 1 n) (hi : vp_in i n) (kk : G κ y (pc + 1) L st (up M p i.toNatClampNeg x)) : G κ y pc L (.int x :: .int i :: .ref p :: st) M := by
  obtain ⟨p_, l, e, R, s, m, args, below, meth, c, w, PQ⟩ := κ
  obtain ⟨hx, hb, hml, hown, hts, hK, hA, hlk, hr, hR, hN, hX⟩ := C
  intro H locs ls hP hS hl
  have hD : va_D (AW w y s.heap.size) (wl w y M) := wl_D hA (fun p hp => Or.inl ⟨p, hp, rfl⟩)
  exact va_iast hx hb hK hP hD hS p 0 (by rw [wl_at hs.1, ent_int hs.2]) rfl hi hd (fun H1 locs1 hP1 hD1 hS1 => by
    rw [wl_ast hs.1 hs.2] at hP1
    exact kk H1 locs1 ls hP1 hS1 hl)
theorem u_last (C : Cx κ y own cc nL ret d) {p n : Nat} {i : Int32} {x : Int64} (hd : decode cc pc = .ok (.lastore, 1)) (hs : sh y p 2 n) (hi : vp_in i n) (kk : G κ y (pc + 1) L st (upl M p i.toNatClampNeg x)) : G κ y pc L (.long x :: .int i :: .ref p :: st) M := by
  obtain ⟨p_, l, e, R, s, m, args, below, meth, c, w, PQ⟩ := κ
  obtain ⟨hx, hb, hml, hown, hts, hK, hA, hlk, hr, hR, hN, hX⟩ := C
  intro H locs ls hP hS hl
  have hD : va_D (AW w y s.heap.size) (wl w y M) := wl_D hA (fun p hp => Or.inl ⟨p, hp, rfl⟩)
  exact va_last hx hb hK hP hD hS p 1 (by rw [wl_at hs.1, ent_long hs.2]) rfl hi hd (fun H1 locs1 hP1 hD1 hS1 => by
    rw [wl_last hs.1 hs.2] at hP1
    exact kk H1 locs1 ls hP1 hS1 hl)
/-- System.arraycopy of n ints from 0 to 0 -/
theorem u_copy (C : Cx κ y own cc nL ret d) {idx p0 p N0 N : Nat} {n : Int32} (hd : decode cc pc = .ok (.invokestatic idx, 3)) (hw : Cond.methodLink own idx arraycopyName ∈ tbl) (hw2 : Cond.native arraycopyName ∈ tbl) (hw3 : Cond.static arraycopyName ∈ tbl) (hw4 : Cond.initialized "java/lang/System" ∈ tbl) (hs0 : sh y p0 1 N0) (hs : sh y p 1 N) (h3 : ¬ n < 0) (h4 : n.toNatClampNeg ≤ N0) (h5 : n.toNatClampNeg ≤ N) (hd1 : 0 < d) (kk : G κ y (pc + 3) L [] (cpr M p0 p n.toNatClampNeg)) : G κ y pc L [.int n, .int 0, .ref p, .int 0, .ref p0] M := by
  obtain ⟨p_, l, e, R, s, m, args, below, meth, c, w, PQ⟩ := κ
  obtain ⟨hx, hb, hml, hown, hts, hK, hA, hlk, hr, hR, hN, hX⟩ := C
  subst hR
  intro H locs ls hP hS hl
  have hD : va_D (AW w y s.heap.size) (wl w y M) := wl_D hA (fun p hp => Or.inl ⟨p, hp, rfl⟩)
  refine va_copyi (rest := []) hx hb hl.1.symm hown (hts _ hw) (hts _ hw2) (hts _ hw3) (hts _ hw4) hK hP hD hS p0 p 0 0 (by rw [wl_at hs0.1, ent_int hs0.2]) (by rw [wl_at hs.1, ent_int hs.2]) rfl rfl rfl (by decide) (by decide) h3 (by simpa using h4) (by simpa using h5) (fun i _ => rfl) hd1 ?_ hd (fun H1 locs1 hP1 hD1 hS1 => ?_)
  · show 0 + (nativeFrameWords "java/lang/System" "arraycopy" 5 + 11) ≤ d * 60
    have : nativeFrameWords "java/lang/System" "arraycopy" 5 + 11 ≤ 60 := by decide +kernel
    omega
  · rw [show (0 : Int32).toNatClampNeg = 0 from rfl, wl_cpr hs.1 hs.2] at hP1
    exact kk H1 locs1 ls hP1 hS1 hl
theorem st_sum (ad : Nat → Nat) (st : List Value) : ((st.map (cv ad)).map fun v => v.category).sum = (st.map fun v => v.category).sum := by
  rw [List.map_map]
  congr 2
  funext v
  exact cv_cat ad v
theorem u_mmax (C : Cx κ y own cc nL ret d) {idx : Nat} {x z : Int32} (hd : decode cc pc = .ok (.invokestatic idx, 3)) (hw : Cond.methodLink own idx Lib.Math.max.name ∈ tbl) (hw2 : Cond.static Lib.Math.max.name ∈ tbl) (hw3 : Cond.initialized "java/lang/Math" ∈ tbl) (hw4 : Cond.code Lib.Math.max.name Lib.Math.max.code 2 (some .int) ∈ tbl) (hroom : (st.map fun v => v.category).sum ≤ 8) (hd1 : 0 < d) (kk : G κ y (pc + 3) L (.int (if x < z then z else x) :: st) M) : G κ y pc L (.int z :: .int x :: st) M := by
  obtain ⟨p_, l, e, R, s, m, args, below, meth, c, w, PQ⟩ := κ
  obtain ⟨hx, hb, hml, hown, hts, hK, hA, hlk, hr, hR, hN, hX⟩ := C
  subst hR
  intro H locs ls hP hS hl
  exact va_mmax hx hb hl.1.symm hown (hts _ hw) (hts _ hw2) (hts _ hw3) (hts _ hw4) (show 1 ≤ (rmd d).frames from hd1) (by rw [st_sum]; show _ ≤ d * 60; omega) (Nat.zero_le _) (Nat.zero_le _) hd (kk H locs ls hP hS hl)
theorem u_mmin (C : Cx κ y own cc nL ret d) {idx : Nat} {x z : Int32} (hd : decode cc pc = .ok (.invokestatic idx, 3)) (hw : Cond.methodLink own idx Lib.Math.min.name ∈ tbl) (hw2 : Cond.static Lib.Math.min.name ∈ tbl) (hw3 : Cond.initialized "java/lang/Math" ∈ tbl) (hw4 : Cond.code Lib.Math.min.name Lib.Math.min.code 2 (some .int) ∈ tbl) (hroom : (st.map fun v => v.category).sum ≤ 8) (hd1 : 0 < d) (kk : G κ y (pc + 3) L (.int (if z < x then z else x) :: st) M) : G κ y pc L (.int z :: .int x :: st) M := by
  obtain ⟨p_, l, e, R, s, m, args, below, meth, c, w, PQ⟩ := κ
  obtain ⟨hx, hb, hml, hown, hts, hK, hA, hlk, hr, hR, hN, hX⟩ := C
  subst hR
  intro H locs ls hP hS hl
  exact va_mmin hx hb hl.1.symm hown (hts _ hw) (hts _ hw2) (hts _ hw3) (hts _ hw4) (show 1 ≤ (rmd d).frames from hd1) (by rw [st_sum]; show _ ≤ d * 60; omega) (Nat.zero_le _) (Nat.zero_le _) hd (kk H locs ls hP hS hl)
/-- answers -/
theorem u_iret (C : Cx κ y own cc nL (some .int) d) {v : Int32} (hd : decode cc pc = .ok (.ireturn, 1)) (hQ : KQ κ (some (.int v)) M) : G κ y pc L [.int v] M := by
  obtain ⟨p_, l, e, R, s, m, args, below, meth, c, w, PQ⟩ := κ
  obtain ⟨hx, hb, hml, hown, hts, hK, hA, hlk, hr, hR, hN, hX⟩ := C
  intro H locs ls hP hS hl
  exact W.iret (v := v) hx hb hr (fun t ht hW => ⟨⟨some (.int v), M, rfl, hQ, by rw [ht]; exact hP⟩, hS.F ht⟩) hS.2.2 hd hlk
theorem u_zret (C : Cx κ y own cc nL (some .boolean) d) {v : Int32} (hd : decode cc pc = .ok (.ireturn, 1)) (hz : v = 0 ∨ v = 1) (hQ : KQ κ (some (.int v)) M) : G κ y pc L [.int v] M := by
  obtain ⟨p_, l, e, R, s, m, args, below, meth, c, w, PQ⟩ := κ
  obtain ⟨hx, hb, hml, hown, hts, hK, hA, hlk, hr, hR, hN, hX⟩ := C
  intro H locs ls hP hS hl
  exact W.zret (v := v) hx hb hr (by rcases hz with rfl | rfl <;> rfl) (fun t ht hW => ⟨⟨some (.int v), M, rfl, hQ, by rw [ht]; exact hP⟩, hS.F ht⟩) hS.2.2 hd hlk
theorem u_vret (C : Cx κ y own cc nL none d) (hd : decode cc pc = .ok (.return_, 1)) (hQ : KQ κ none M) : G κ y pc L [] M := by
  obtain ⟨p_, l, e, R, s, m, args, below, meth, c, w, PQ⟩ := κ
  obtain ⟨hx, hb, hml, hown, hts, hK, hA, hlk, hr, hR, hN, hX⟩ := C
  intro H locs ls hP hS hl
  exact W.vret hx hb hr (fun t ht hW => ⟨⟨none, M, rfl, hQ, by rw [ht]; exact hP⟩, hS.F ht⟩) hS.2.2 hd hlk
theorem u_aret {nm : String} (C : Cx κ y own cc nL (some (.object nm)) d) {p : Nat} (hd : decode cc pc = .ok (.areturn, 1)) (hQ : KQ κ (some (.ref p)) M) : G κ y pc L [.ref p] M := by
  obtain ⟨p_, l, e, R, s, m, args, below, meth, c, w, PQ⟩ := κ
  obtain ⟨hx, hb, hml, hown, hts, hK, hA, hlk, hr, hR, hN, hX⟩ := C
  intro H locs ls hP hS hl
  exact W.aret (v := .ref (w.1 p)) hx hb hr (Or.inl ⟨_, rfl⟩) (Or.inr ⟨_, rfl⟩) (fun t ht hW => ⟨⟨some (.ref p), M, rfl, hQ, by rw [ht]; exact hP⟩, hS.F ht⟩) hS.2.2 hd hlk
/-- calls -/
theorem gi_tbl {a b : Cond} (hb : b ∈ tbl) : GoodIn tbl (b :: tbl) := by
  intro w hw
  rcases List.mem_cons.mp hw with rfl | hw
  · exact ⟨hb, good_of_word (List.mem_filter.mp hb).2⟩
  · exact ⟨hw, good_of_word (List.mem_filter.mp hw).2⟩
theorem AW_of {w : WD} {y : LY} {a b : Nat} (h : a ≤ b) (q : Nat) (hq : AW w y b q) : AW w y a q := by
  rcases hq with hq | hq
  · exact Or.inl hq
  · exact Or.inr (Nat.le_trans h hq)
theorem u_call_after {p : Program} {l : Launch} {e : Env} {R : Room} {s : State} {m : MethodId} {args : Array Value} {below : List Frame} {meth : Method} {c : Code} {w : WD} {PQ PQ2 : Option Value → Mem → Prop} {H : Heap} {locs : List Loc} {ls : Array Slot} {a : Array Value} {stk rest : List Value}
    (hrun : va_Run p l e R s m args below meth c H locs 0 0 0 0 (F0 m pc ls stk) (rest.map (cv w.1)) (QC w y PQ2 a) (AW w y H.size)) (hS : va_S (AW w y s.heap.size) s.heap H locs) (hl : lk w.1 c.maxLocals ls L)
    (kk : ∀ v M', PQ2 v M' → G (p, l, e, R, s, m, args, below, meth, c, w, PQ) y (pc + 3) L (v.toList ++ rest) M') : W p l e R s m args below meth c H locs 0 0 (MQ below (QC w y PQ) args s 0 0 (AW w y s.heap.size)) (F0 m pc ls stk) := by
  intro T hT X
  obtain ⟨v, st₀, t, T', L2, h0, X', hL, e1, e2, ⟨⟨vv, M', hv, hq, hP'⟩, hz, hk⟩, stp⟩ := hrun T hT X
  cases hv
  rw [h0] at hz hk
  have hS' : va_S (AW w y s.heap.size) s.heap T'.heap (locs ++ L2) := ⟨Nat.le_trans hS.1 (by rw [e1]; exact hz), fun q h1 h2 => by rw [e1, hk q (Nat.lt_of_lt_of_le h1 hS.1) (fun z => h2 (AW_of hS.1 q z))]; exact hS.2.1 q h1 h2, fun q hq => by
      rcases List.mem_append.mp hq with h | h
      · exact hS.2.2 q h
      · exact AW_of hS.1 _ (hL q h)⟩
  obtain ⟨t2, a1, b1⟩ := kk vv M' hq T'.heap (locs ++ L2) ls (by rw [e1]; exact hP') hS' hl T' rfl X'
  refine ⟨t2, stp t2 ?_, b1⟩
  have e9 : (Option.map (cv w.1) vv).toList ++ rest.map (cv w.1) = (vv.toList ++ rest).map (cv w.1) := by cases vv <;> simp
  rw [e9]
  exact a1
theorem BX_of {w : WD} {s U : State} {H : Heap} {locs : List Loc} (hU : U.heap = H) (hW : s.WarmedH U.vm) (hP : va_P w.2.1 cls0 (wl w y M) H) (hK : va_K w.2.1 cls0 (tys w) s) (hA : adi w y) (hN : NX s) (hX : SX w (AW w y s.heap.size) s s.heap) (hS : va_S (AW w y s.heap.size) s.heap H locs) : BX w y M U := by
  refine ⟨by rw [hU]; exact hP, va_K.moved hW.alike hK, hA, hN.warm hW, ?_⟩
  rw [hU]
  exact ((hX.kept hS.2.1).narrow (fun q hq => AW_of hS.1 q hq)).warm hW
theorem u_callS (C : Cx κ y own cc nL ret d) {idx : Nat} {x : MethodName} {cc2 : ByteArray} {nL2 d2 n : Nat} {ret2 : Option FieldType} {As stk : List Value} {PQ2 : Option Value → Mem → Prop} (hd : decode cc pc = .ok (.invokestatic idx, 3)) (mx : MX x cc2 nL2 ret2 n true) (mw : MW own idx x) (h : Ct y x cc2 nL2 ret2 d2 As M PQ2) (hn : (decide (As.length = n) && decide (d2 < d) && decide (nL2 ≤ 40)) = true) (hst : As.reverse ++ st = stk) (hroom : (st.map fun v => v.category).sum ≤ 8) (kk : ∀ v M', PQ2 v M' → G κ y (pc + 3) L (v.toList ++ st) M') : G κ y pc L stk M := by
  subst hst
  obtain ⟨p_, l, e, R, s, m, args, below, meth, c, w, PQ⟩ := κ
  obtain ⟨hx, hb, hml, hown, hts, hK, hA, hlk, hr, hR, hN, hX⟩ := C
  simp only [Bool.and_eq_true, decide_eq_true_eq] at hn
  obtain ⟨⟨hn1, hn2⟩, hn3⟩ := hn
  obtain ⟨mx1, mx2, mx3, mx4, mx5⟩ := mx
  rw [if_pos rfl] at mx5
  subst hR
  intro H locs ls hP hS hl
  have hR2 : (rmd d2).frames + 1 ≤ (rmd d).frames ∧ 8 + (nL2 + 11) + (rmd d2).locals ≤ (rmd d).locals := by
    refine ⟨hn2, ?_⟩
    show 8 + (nL2 + 11) + d2 * 60 ≤ d * 60
    omega
  have hpre : PreS s H (va_Pc (As.map (cv w.1)) (fun U => U.heap.size = H.size ∧ BX w y M U)) (As.map (cv w.1)) := ⟨BX_blind, fun U hU hW => ⟨rfl, by rw [hU], BX_of hU hW hP hK hA hN hX hS⟩⟩
  have hstk : (F0 m pc ls ((As.reverse ++ st).map (cv w.1))).stack = (As.map (cv w.1)).reverse ++ st.map (cv w.1) := by simp
  have hlen : (As.map (cv w.1)).length = n := by simpa using hn1
  have hrm : 2 * (F0 m pc ls ((As.reverse ++ st).map (cv w.1))).monitorRoom + ((st.map (cv w.1)).map fun v => v.category).sum ≤ 8 := lv_room (by rw [st_sum]; exact hroom)
  rcases mw with hw | ⟨host, hw⟩
  · have cb : CallB (rmd d) s args own idx x cc2 nL2 ret2 (Cond.code x cc2 nL2 ret2 :: tbl) (rmd d2) 0 0 n := callB_of n hts (gi_tbl (a := Cond.tt) mx1) rfl rfl rfl (hts _ mx2) (hts _ hw) mx4 hR2
    exact u_call_after (va_runS (nL := nL) ⟨hx, hb, hml, hown, hts⟩ (h l w H.size) ⟨cb, hts _ mx5⟩ hpre rfl hlen (by rw [← hml]; exact hl.1) hstk hrm hd ⟨Nat.le_refl _, Nat.le_refl _⟩) hS hl kk
  · exact u_call_after (va_runSN (nL := nL) ⟨hx, hb, hml, hown, hts⟩ (h l w H.size) ⟨va_cnB n hts (gi_tbl (a := Cond.tt) mx1) rfl rfl rfl (hN _ hw) (hts _ mx2) mx4 hR2, hts _ mx5, trivial⟩ hpre rfl hlen (by rw [← hml]; exact hl.1) hstk hrm hd ⟨Nat.le_refl _, Nat.le_refl _⟩) hS hl kk
theorem u_callV (C : Cx κ y own cc nL ret d) {idx p ci : Nat} {x : MethodName} {cc2 : ByteArray} {nL2 d2 n : Nat} {ret2 : Option FieldType} {As stk : List Value} {PQ2 : Option Value → Mem → Prop} (hd : decode cc pc = .ok (.invokevirtual idx, 3)) (mx : MX x cc2 nL2 ret2 n false) (mw : MW own idx x) (hs : sh y p 0 ci) (hci : (cls0[ci]?).map (fun q => q.1) = some x.cls) (h : Ct y x cc2 nL2 ret2 d2 (.ref p :: As) M PQ2) (hn : (decide (As.length = n) && decide (d2 < d) && decide (nL2 ≤ 40)) = true) (hst : As.reverse ++ .ref p :: st = stk) (hroom : (st.map fun v => v.category).sum ≤ 8) (kk : ∀ v M', PQ2 v M' → G κ y (pc + 3) L (v.toList ++ st) M') : G κ y pc L stk M := by
  subst hst
  obtain ⟨p_, l, e, R, s, m, args, below, meth, c, w, PQ⟩ := κ
  obtain ⟨hx, hb, hml, hown, hts, hK, hA, hlk, hr, hR, hN, hX⟩ := C
  simp only [Bool.and_eq_true, decide_eq_true_eq] at hn
  obtain ⟨⟨hn1, hn2⟩, hn3⟩ := hn
  obtain ⟨mx1, mx2, mx3, mx4, mx5⟩ := mx
  rw [if_neg (by decide)] at mx5
  subst hR
  intro H locs ls hP hS hl
  have hR2 : (rmd d2).frames + 1 ≤ (rmd d).frames ∧ 8 + (nL2 + 11) + (rmd d2).locals ≤ (rmd d).locals := by
    refine ⟨hn2, ?_⟩
    show 8 + (nL2 + 11) + d2 * 60 ≤ d * 60
    omega
  obtain ⟨q, hq, hq2⟩ := Option.map_eq_some_iff.mp hci
  have hrecv : ∃ cell : Cell, H[w.1 p]? = some cell ∧ cell.vm.isStatics = false ∧ s.vm.findClass x.cls = some cell.cls := by
    rw [← hq2]
    exact va_recv hK hP hq (q0 := p) (by rw [wl_at hs.1, ent_obj hs.2])
  have hpre : PreV s H x.cls (w.1 p) (va_Pc ((Value.ref p :: As).map (cv w.1)) (fun U => U.heap.size = H.size ∧ BX w y M U)) (As.map (cv w.1)) := ⟨BX_blind, hrecv, fun U hU hW => ⟨rfl, by rw [hU], BX_of hU hW hP hK hA hN hX hS⟩⟩
  have hstk : (F0 m pc ls ((As.reverse ++ .ref p :: st).map (cv w.1))).stack = (As.map (cv w.1)).reverse ++ .ref (w.1 p) :: st.map (cv w.1) := by simp [cv]
  have hlen : (As.map (cv w.1)).length = n := by simpa using hn1
  have hrm : 2 * (F0 m pc ls ((As.reverse ++ .ref p :: st).map (cv w.1))).monitorRoom + ((st.map (cv w.1)).map fun v => v.category).sum ≤ 8 := lv_room (by rw [st_sum]; exact hroom)
  rcases mw with hw | ⟨host, hw⟩
  · have cb : CallB (rmd d) s args own idx x cc2 nL2 ret2 (Cond.code x cc2 nL2 ret2 :: tbl) (rmd d2) 0 0 n := callB_of n hts (gi_tbl (a := Cond.tt) mx1) rfl rfl rfl (hts _ mx2) (hts _ hw) mx4 hR2
    exact u_call_after (va_runV (nL := nL) ⟨hx, hb, hml, hown, hts⟩ (h l w H.size) ⟨cb, hts _ mx5.1, hts _ mx5.2⟩ hpre rfl hlen (by rw [← hml]; exact hl.1) hstk hrm hd ⟨Nat.le_refl _, Nat.le_refl _⟩) hS hl kk
  · exact u_call_after (va_runVN (nL := nL) ⟨hx, hb, hml, hown, hts⟩ (h l w H.size) ⟨va_cnB n hts (gi_tbl (a := Cond.tt) mx1) rfl rfl rfl (hN _ hw) (hts _ mx2) mx4 hR2, hts _ mx5.1, hts _ mx5.2⟩ hpre rfl hlen (by rw [← hml]; exact hl.1) hstk hrm hd ⟨Nat.le_refl _, Nat.le_refl _⟩) hS hl kk
end RH
