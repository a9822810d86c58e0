/-! errand, walk -/
theorem zn4 : (-nI 4 = nI 0) = False := eq_false (by decide)
set_option maxHeartbeats 1000000 in
theorem cp_errand (X : ab_X) (d : Nat) (x w : Int32) {h : ab_H} (hI : zInv h) : zCp X (d + 30) 40 140 [.int x, .int w] h := by
  obtain ⟨N0, dc0, n0', n1', pc⟩ := id hI.2.2.2.2.1
  obtain ⟨N, dc, hN, hdc, n0, n1, n2, n3, n4, n5, k1, k2, k3, k4, k5, t1, t2, t3, t4⟩ := znow hI
  have eN : N0 = N := (nI_eq (by have := pc.1; omega) (by omega)).mp (pc.2.2.1.symm.trans n2)
  have eD : dc0 = dc := (nI_eq (by have := pc.2.1; omega) (by omega)).mp (n1'.symm.trans n1)
  subst eN eD
  obtain ⟨a, r⟩ := zA_of pc n1'
  by_cases hx : ¬ (¬ x < nI 0 ∧ x < nI N0)
  · apply zCp_mk
    · simp (discharger := omega) only [r40, b40_0, b40_5, b40_15, s29, n2, zpu_s, zpu_n, Option.bind_some, zlit, Bool.false_eq_true, zlt_t, zlt_f, zeq_t, zeq_f, nI_add, pk_mul, zb_0, zb_n0, not_true_eq_false, not_false_eq_true, Classical.not_not, if_true, if_false, ite_true, ite_false, and_self, and_true, true_and, and_false, false_and, or_self, or_true, true_or, or_false, false_or, reduceIte, hx]; rfl
    · simp (discharger := omega) only [r140, b140_0, b140_5, b140_15, s131 X _ hN _ n5, zpu_s, zpu_n, Option.bind_some, zlit, Bool.false_eq_true, zlt_t, zlt_f, zeq_t, zeq_f, nI_add, pk_mul, zb_0, zb_n0, not_true_eq_false, not_false_eq_true, Classical.not_not, if_true, if_false, ite_true, ite_false, and_self, and_true, true_and, and_false, false_and, or_self, or_true, true_or, or_false, false_or, reduceIte, hx]; rfl
    · exact hI
  have hx := Classical.not_not.mp hx
  rcases zix x (n := N0) (by omega) with q | q | ⟨i, hi, rfl⟩
  · exact absurd q hx.1
  · exact absurd hx.2 q.2
  by_cases hw : ¬ (¬ w < nI 0 ∧ w < nI 12)
  · apply zCp_mk
    · simp (discharger := omega) only [r40, b40_0, b40_5, b40_8, b40_12, b40_15, s29, s41, n2, zpu_s, zpu_n, Option.bind_some, zlit, Bool.false_eq_true, zlt_t, zlt_f, zeq_t, zeq_f, nI_add, pk_mul, zb_0, zb_n0, not_true_eq_false, not_false_eq_true, Classical.not_not, if_true, if_false, ite_true, ite_false, and_self, and_true, true_and, and_false, false_and, or_self, or_true, true_or, or_false, false_or, reduceIte, hw]; rfl
    · simp (discharger := omega) only [r140, b140_0, b140_5, b140_8, b140_12, b140_15, s131 X _ hN _ n5, s141, zpu_s, zpu_n, Option.bind_some, zlit, Bool.false_eq_true, zlt_t, zlt_f, zeq_t, zeq_f, nI_add, pk_mul, zb_0, zb_n0, not_true_eq_false, not_false_eq_true, Classical.not_not, if_true, if_false, ite_true, ite_false, and_self, and_true, true_and, and_false, false_and, or_self, or_true, true_or, or_false, false_or, reduceIte, hw]; rfl
    · exact hI
  have hw := Classical.not_not.mp hw
  rcases zix w (n := 12) (by omega) with q | q | ⟨t, ht, rfl⟩
  · exact absurd q hw.1
  · exact absurd hw.2 q.2
  have eo := fun dd => s31n X dd hN hi (h := h) (h0 := h) (k2 i hi) (k3 i hi)
  by_cases hb : zB (zOu h i) (nI t) = true
  · apply zCp_mk
    · simp (discharger := omega) only [r40, b40_0, b40_5, b40_8, b40_12, b40_17, b40_25, b40_29, b40_32, s29, s41, s39, eo, hb, n2, zpu_s, zpu_n, Option.bind_some, zlit, Bool.false_eq_true, zlt_t, zlt_f, zeq_t, zeq_f, nI_add, pk_mul, zb_0, zb_n0, not_true_eq_false, not_false_eq_true, Classical.not_not, if_true, if_false, ite_true, ite_false, and_self, and_true, true_and, and_false, false_and, or_self, or_true, true_or, or_false, false_or, reduceIte]; rfl
    · simp (discharger := omega) only [r140, b140_0, b140_5, b140_8, b140_12, b140_17, b140_22, b140_26, b140_29, s131 X _ hN _ n5, s141, s133n, s139, hb, zpu_s, zpu_n, Option.bind_some, zlit, Bool.false_eq_true, zlt_t, zlt_f, zeq_t, zeq_f, nI_add, pk_mul, zb_0, zb_n0, not_true_eq_false, not_false_eq_true, Classical.not_not, if_true, if_false, ite_true, ite_false, and_self, and_true, true_and, and_false, false_and, or_self, or_true, true_or, or_false, false_or, reduceIte]; rfl
    · exact hI
  by_cases hf : dc0 = 40
  · subst hf
    apply zCp_mk
    · simp (discharger := omega) only [r40, b40_0, b40_5, b40_8, b40_12, b40_17, b40_25, b40_29, b40_35, b40_47, s29, s41, s39, eo, hb, n2, n3, zpu_s, zpu_n, Option.bind_some, zlit, Bool.false_eq_true, zlt_t, zlt_f, zeq_t, zeq_f, nI_add, pk_mul, zb_0, zb_n0, not_true_eq_false, not_false_eq_true, Classical.not_not, if_true, if_false, ite_true, ite_false, and_self, and_true, true_and, and_false, false_and, or_self, or_true, true_or, or_false, false_or, reduceIte]; rfl
    · simp (discharger := omega) only [r140, b140_0, b140_5, b140_8, b140_12, b140_17, b140_22, b140_26, b140_32, b140_41, s131 X _ hN _ n5, s141, s133n, s139, hb, n1, zpu_s, zpu_n, Option.bind_some, zlit, Bool.false_eq_true, zlt_t, zlt_f, zeq_t, zeq_f, nI_add, pk_mul, zb_0, zb_n0, not_true_eq_false, not_false_eq_true, Classical.not_not, if_true, if_false, ite_true, ite_false, and_self, and_true, true_and, and_false, false_and, or_self, or_true, true_or, or_false, false_or, reduceIte]; rfl
    · exact hI
  have hdc' : dc0 < 40 := by omega
  obtain ⟨h1, e1, a', x1, x2, hH, hS, c1, c2, c3⟩ := cE X (d + 28) a hdc' hi ht
  have hz := zap_ed (N := N0) (show i < 6 by omega) ht (zH h 41 N0 dc0)
  obtain ⟨-, -, -, ⟨m1, m2, m3⟩, bd, -⟩ := id a'
  have s30 : ∀ j, ab_gI h1 30 j = ab_gI h 30 j := fun j => c1 30 j (by omega) (by omega)
  -- the class's answer
  have ee := s32n X (d + 28) hN hi (h := h1) (h0 := zput h1 30 (zH h1 41 N0 (dc0 + 1))) (by rw [zput_same]; exact (m3 i hi).1) (by rw [zput_same]; exact (m3 i hi).2.1) (by rw [zput_same]; exact (m3 i hi).2.2.1) (by rw [zput_same]; exact (bd i hi).1)
  have eS := zEm_S (h := zput h1 30 (zH h1 41 N0 (dc0 + 1))) (S := zH h1 41 N0 (dc0 + 1)) (fun j _ => zput_same _ _ _ _) (show i < 6 by omega)
  have hlt : ∃ m, m < 4096 ∧ zSe (zH h1 41 N0 (dc0 + 1)) i = nI m := by
    obtain ⟨⟨kk, hkk, ekk⟩, ⟨oo, hoo, eoo⟩, ⟨pp, hpp, epp⟩, -⟩ := bd i hi
    unfold zSe
    rw [ekk, eoo, epp]
    obtain ⟨mm, hmm, emm⟩ := zI_or oo pp hoo hpp
    rw [emm]
    exact zE_lt hkk hmm hpp
  obtain ⟨m, hm, em⟩ := hlt
  rw [eS, em] at ee
  have ec : ab_ru X (d + 30) 40 [.ref 0, .int (nI i), .int (nI t)] h = some (some (.int (zbc (nI m))), h1) := by
    simp (discharger := omega) only [r40, b40_0, b40_5, b40_8, b40_12, b40_17, b40_25, b40_29, b40_35, b40_50, b40_59, b40_67, b40_70, s29, s41, s39, s37, eo, hb, n2, n3, e1, ee, zpu_s, zpu_n, Option.bind_some, zlit, Bool.false_eq_true, zlt_t, zlt_f, zeq_t, zeq_f, nI_add, pk_mul, zb_0, zb_n0, not_true_eq_false, not_false_eq_true, Classical.not_not, if_true, if_false, ite_true, ite_false, and_self, and_true, true_and, and_false, false_and, or_self, or_true, true_or, or_false, false_or, reduceIte]
  -- the reference
  have r' : zR h1 (zH h1 41 N0) dc0 := by
    obtain ⟨r1, r2, r3⟩ := r
    refine ⟨?_, fun j hj l hl => ?_, fun l hl => ?_⟩
    · rw [c1 29 1 (by omega) (by omega)]; exact r1
    · rw [s30, hH j (by omega)]; exact r2 j hj l hl
    · rw [s30, hH dc0 (Nat.le_refl dc0)]; exact r3 l hl
  obtain ⟨h2, p1, p2, p3, p4, p5⟩ := mM X (d + 28) hdc' r'
  have n5' : ab_gI h1 30 0 = nI N0 := (s30 0).trans n5
  have n1'' : ab_gI h1 29 1 = nI dc0 := (c1 29 1 (by omega) (by omega)).trans n1
  have eo2 : zOu h1 i = zOu h i := zOu_congr s30 i
  have g14 : ab_gI h2 30 (14 + i) = zH h 41 N0 dc0 (14 + i) := by rw [p5 _ (by omega), hH dc0 (Nat.le_refl dc0)]
  generalize hv : ab_sI h2 30 (14 + i) (zH h 41 N0 dc0 (14 + i) ||| (nI 1 <<< (nI t &&& nI 31))) = h3
  have w30 : ∀ l, l < 32 → ab_gI h3 30 l = zH h1 41 N0 (dc0 + 1) l := fun l hl => by
    rw [← hv, zg_same, hS, hz]
    unfold upd
    by_cases el : l = 14 + i
    · rw [if_pos el, if_pos el]; rfl
    · rw [if_neg el, if_neg el, p5 l hl, hH dc0 (Nat.le_refl dc0)]
  have r2 : zR h3 (zH h1 41 N0) (dc0 + 1) := by
    refine ⟨?_, fun j hj l hl => ?_, w30⟩
    · rw [← hv, zg_ne (by omega)]; exact p3
    · rw [← hv, zg_nj (by omega)]; exact p4 j hj l hl
  have ee2 := s134n X (d + 28) hN hi (h := h3) (by rw [w30 _ (by omega)]; exact (bd i hi).1)
  rw [zEm_S w30 (show i < 6 by omega), em] at ee2
  have er : ab_ru X (d + 30) 140 [.ref 29, .int (nI i), .int (nI t)] h1 = some (some (.int (zbc (nI m))), h3) := by
    rw [zbc_ones m hm]
    simp (discharger := omega) only [r140, b140_0, b140_5, b140_8, b140_12, b140_17, b140_22, b140_26, b140_32, b140_44, b140_48, b140_68, b140_71, s131 X _ hN _ n5', s141, s133n, s139, s138, eo2, hb, n1'', p1, zd30, zs30, g14, hv, ee2, zpu_s, zpu_n, Option.bind_some, zlit, Bool.false_eq_true, zlt_t, zlt_f, zeq_t, zeq_f, nI_add, pk_mul, zb_0, zb_n0, not_true_eq_false, not_false_eq_true, Classical.not_not, if_true, if_false, ite_true, ite_false, and_self, and_true, true_and, and_false, false_and, or_self, or_true, true_or, or_false, false_or, reduceIte]
  have f3 : zFw h1 h3 := zFw_trans p2 ⟨fun c j a1 a2 a3 a4 => by rw [← hv, zg_ne a1], fun j a1 a2 => by rw [← hv, zg_ne (by omega)], fun j hj => by rw [← hv, zg_nj (by omega)], fun c j => by rw [← hv]; rfl⟩
  exact zCp_mk ec er (zInv_deed hI (by omega) a' r2 (fun c j a1 a2 a3 a4 a5 => c1 c j (by omega) (by omega)) (fun c j hc => c1 c j (by omega) (by omega)) c2 f3)
/-- the reference's round done -/
theorem mW (X : ab_X) (d : Nat) {N dc n j : Nat} {q : Nat → Nat} {Hs : Nat → zS} (hN : N ≤ 6) (hdc : dc < 40) (hn : n ≤ 12) (hj : j < 6) {h : ab_H} (h0 : Hs dc 0 = nI N) (bd : zBd N (Hs dc)) (hw : Hs (dc + 1) = zap N (zrd q n) (Hs dc)) (r : zR h Hs dc) (hs : ab_gI h 33 j = nI n) (hq : ∀ k, k < n → q k < N ∧ ab_gI h 32 (40 * j + k) = nI (q k)) : ∃ h1 h2 h3 h4, ab_ru X (d + 2) 142 [.ref 29] h = some (none, h1) ∧ ab_ru X (d + 2) 145 [.ref 29] h1 = some (none, h2) ∧ ab_ru X (d + 2) 147 [.ref 29, .int (nI j)] h2 = some (none, h3) ∧ ab_ru X (d + 2) 150 [.ref 29] h3 = some (none, h4) ∧ zR h4 Hs (dc + 1) ∧ zFw h h4 ∧ ab_gI h4 29 18 = (zwalk (Hs dc) q n).2.2.2 := by
  obtain ⟨h1, p1, p2, p3, p4, p5⟩ := mM X (d + 1) hdc r
  obtain ⟨h2, e1, e2, e3, e4⟩ := f145 X d hN (zFr_refl h1) ((p5 0 (by omega)).trans h0) (fun i hi => by rw [p5 _ (by omega)]; exact (bd i hi).1)
  obtain ⟨h3, g1, g2, g3, g4, g5, g6, g7⟩ := f147 X d (N := N) (q := q) hj hn hN e2 (by rw [p2.1 33 j (by omega) (by omega) (by omega) (by omega)]; exact hs) (fun k hk => ⟨(hq k hk).1, by rw [p2.1 32 _ (by omega) (by omega) (by omega) (by omega)]; exact (hq k hk).2⟩) (e := zSe (Hs dc)) (D := fun i => Hs dc (20 + i)) (fun i hi => (e3 i hi).trans (zEm_S p5 (by omega))) (fun i hi => (e4 i hi).trans (p5 _ (by omega)))
  rw [zgone_1] at g4 g5
  obtain ⟨h4, q1, q2, q3, q4, q5⟩ := mD X (d + 2) (h := h3) hN hdc hn (fun k hk => (hq k hk).1) h0 hw (by rw [g2.2.1 1 (by omega)]; exact p3) (fun j hj i hi => by rw [g2.1 30 _ (by omega) (by omega) (by omega)]; exact p4 j hj i hi) (fun i hi => by rw [g2.1 30 _ (by omega) (by omega) (by omega)]; exact p5 i hi) g4
  refine ⟨h1, h2, h3, h4, p1, e1, g1, q1, q2, zFw_trans (zFw_trans p2 (zFw_Fr g2)) ⟨fun c i a1 a2 a3 a4 => q3 c i a1, fun i a1 a2 => q3 29 i (by omega), fun i hi => q4 i (by omega), q5⟩, ?_⟩
  rw [q3 29 18 (by omega)]
  exact g5
set_option maxHeartbeats 1000000 in
theorem cp_walk (X : ab_X) (d : Nat) (r : Int32) {h : ab_H} (hI : zInv h) : zCp X (d + 30) 43 143 [.int r] h := by
  obtain ⟨N0, dc0, n0', n1', pc⟩ := id hI.2.2.2.2.1
  obtain ⟨N, dc, hN, hdc, n0, n1, n2, n3, n4, n5, k1, k2, k3, k4, k5, t1, t2, t3, t4⟩ := znow hI
  have eN : N0 = N := (nI_eq (by have := pc.1; omega) (by omega)).mp (pc.2.2.1.symm.trans n2)
  have eD : dc0 = dc := (nI_eq (by have := pc.2.1; omega) (by omega)).mp (n1'.symm.trans n1)
  subst eN eD
  obtain ⟨a, rr⟩ := zA_of pc n1'
  rcases zround X (d + 9) r hI hN n2 n5 with ⟨v, h1, h2, hv, e1, e2, hI2, hnr⟩ | ⟨j, n, hj, rfl, hN0, hn, b2, b3, hq, e1, e2⟩
  · have hv0 := zv0 hv
    have hvl := zvl hv
    apply zCp_mk
    · simp (discharger := omega) only [r43, b43_0, b43_5, b43_10, e1, zpu_s, zpu_n, Option.bind_some, zlit, Bool.false_eq_true, zlt_t, zlt_f, zeq_t, zeq_f, nI_add, pk_mul, zb_0, zb_n0, not_true_eq_false, not_false_eq_true, Classical.not_not, if_true, if_false, ite_true, ite_false, and_self, and_true, true_and, and_false, false_and, or_self, or_true, true_or, or_false, false_or, reduceIte, hv0]; rfl
    · simp (discharger := omega) only [r143, b143_0, b143_5, b143_10, e2, zpu_s, zpu_n, Option.bind_some, zlit, Bool.false_eq_true, zlt_t, zlt_f, zeq_t, zeq_f, nI_add, pk_mul, zb_0, zb_n0, not_true_eq_false, not_false_eq_true, Classical.not_not, if_true, if_false, ite_true, ite_false, and_self, and_true, true_and, and_false, false_and, or_self, or_true, true_or, or_false, false_or, reduceIte, hvl]; rfl
    · exact hI2
  have hq' := zqf_get hN hq
  have f := zFc_Rd h j n
  have f419 : ab_gI (zRd h j n) 41 9 = nI dc0 := (f.1 41 9 (by omega) (by omega) (by omega) (by omega)).trans n3
  have f291 : ab_gI (zRd h j n) 29 1 = nI dc0 := (f.1 29 1 (by omega) (by omega) (by omega) (by omega)).trans n1
  by_cases hf : dc0 = 40
  · subst hf
    apply zCp_mk
    · simp (discharger := omega) only [r43, b43_0, b43_5, b43_12, b43_24, e1, f419, zpu_s, zpu_n, Option.bind_some, zlit, Bool.false_eq_true, zlt_t, zlt_f, zeq_t, zeq_f, nI_add, pk_mul, zb_0, zb_n0, not_true_eq_false, not_false_eq_true, Classical.not_not, if_true, if_false, ite_true, ite_false, and_self, and_true, true_and, and_false, false_and, or_self, or_true, true_or, or_false, false_or, reduceIte]; rfl
    · simp (discharger := omega) only [r143, b143_0, b143_5, b143_12, b143_21, e2, f291, zpu_s, zpu_n, Option.bind_some, zlit, Bool.false_eq_true, zlt_t, zlt_f, zeq_t, zeq_f, nI_add, pk_mul, zb_0, zb_n0, not_true_eq_false, not_false_eq_true, Classical.not_not, if_true, if_false, ite_true, ite_false, and_self, and_true, true_and, and_false, false_and, or_self, or_true, true_or, or_false, false_or, reduceIte]; rfl
    · exact zInv_Rd hI j n
  have hdc' : dc0 < 40 := by omega
  have aR : zA (zRd h j n) N0 dc0 := (zA_of (zPC_frame (h := h) (fun c h1 h2 i => f.1 c i (by omega) (by omega) (by omega) (by omega)) (fun i => f.2 _ i) (fun i _ => f.1 30 _ (by omega) (by omega) (by omega) (by omega)) pc) f291).1
  have eHR : ∀ k, zH (zRd h j n) 41 N0 k = zH h 41 N0 k := fun k => zH_frame (fun i _ => f.1 42 i (by omega) (by omega) (by omega) (by omega)) (fun i _ => f.1 43 i (by omega) (by omega) (by omega) (by omega)) (fun i _ => f.1 44 i (by omega) (by omega) (by omega) (by omega)) hN k (fun i _ => f.2 48 i)
  obtain ⟨h1, c0, a', x1, x2, hH, hS, c1, c2, c3⟩ := cW X (d + 25) aR hdc' hn (q := zqf h j) (zRd_19 h j n) (fun k hk => ⟨(hq' k hk).1, by rw [zRd_20 hk (b3 k (by omega)) hj]; exact (hq' k hk).2⟩)
  have ec : ab_ru X (d + 30) 43 [.ref 0, .int (nI j)] h = some (some (.int (zwalk (zH (zRd h j n) 41 N0 dc0) (zqf h j) n).2.2.2), h1) := by
    simp (discharger := omega) only [r43, b43_0, b43_5, b43_12, b43_27, b43_42, e1, f419, c0, zpu_s, zpu_n, Option.bind_some, zlit, Bool.false_eq_true, zlt_t, zlt_f, zeq_t, zeq_f, nI_add, pk_mul, zb_0, zb_n0, not_true_eq_false, not_false_eq_true, Classical.not_not, if_true, if_false, ite_true, ite_false, and_self, and_true, true_and, and_false, false_and, or_self, or_true, true_or, or_false, false_or, reduceIte]
  have fc : ∀ c i, c ≠ 17 → c ≠ 18 → c ≠ 19 → c ≠ 20 → c ≠ 41 → c ≠ 45 → c ≠ 46 → c ≠ 47 → ab_gI h1 c i = ab_gI h c i := fun c i a1 a2 a3 a4 a5 a6 a7 a8 => (c1 c i a2 a5 a6 a7 a8).trans (f.1 c i a1 a2 a3 a4)
  have s30 : ∀ l, ab_gI h1 30 l = ab_gI h 30 l := fun l => fc 30 l (by omega) (by omega) (by omega) (by omega) (by omega) (by omega) (by omega) (by omega)
  have s29 : ab_gI h1 29 1 = nI dc0 := (fc 29 1 (by omega) (by omega) (by omega) (by omega) (by omega) (by omega) (by omega) (by omega)).trans n1
  have s33 : ab_gI h1 33 j = nI n := (fc 33 j (by omega) (by omega) (by omega) (by omega) (by omega) (by omega) (by omega) (by omega)).trans b2
  have s32 : ∀ k, k < n → zqf h j k < N0 ∧ ab_gI h1 32 (40 * j + k) = nI (zqf h j k) := fun k hk => ⟨(hq' k hk).1, (fc 32 _ (by omega) (by omega) (by omega) (by omega) (by omega) (by omega) (by omega) (by omega)).trans (hq' k hk).2⟩
  have r' : zR h1 (zH h1 41 N0) dc0 := by
    obtain ⟨r1, r2, r3⟩ := rr
    refine ⟨s29, fun l hl i hi => ?_, fun i hi => ?_⟩
    · rw [s30, hH l (by omega), eHR]; exact r2 l hl i hi
    · rw [s30, hH dc0 (Nat.le_refl dc0), eHR]; exact r3 i hi
  have bd' : zBd N0 (zH h1 41 N0 dc0) := by rw [hH dc0 (Nat.le_refl dc0)]; exact aR.2.2.2.2.1
  obtain ⟨g1, g2, g3, g4, y1, y2, y3, y4, y5, y6, y7⟩ := mW X (d + 27) (q := zqf h j) (Hs := zH h1 41 N0) hN hdc' hn hj (zH_0 dc0) bd' (by rw [hS, hH dc0 (Nat.le_refl dc0)]) r' s33 s32
  have e2' := f144 X (d + 9) hj hn hN hN0 (q := zqf h j) (h := h1) ((s30 0).trans n5) s33 s32
  rw [hH dc0 (Nat.le_refl dc0)] at y7
  have er : ab_ru X (d + 30) 143 [.ref 29, .int (nI j)] h1 = some (some (.int (zwalk (zH (zRd h j n) 41 N0 dc0) (zqf h j) n).2.2.2), g4) := by
    simp (discharger := omega) only [r143, b143_0, b143_5, b143_12, b143_24, b143_28, b143_32, b143_37, b143_41, e2', s29, y1, y2, y3, y4, y7, zpu_s, zpu_n, Option.bind_some, zlit, Bool.false_eq_true, zlt_t, zlt_f, zeq_t, zeq_f, nI_add, pk_mul, zb_0, zb_n0, not_true_eq_false, not_false_eq_true, Classical.not_not, if_true, if_false, ite_true, ite_false, and_self, and_true, true_and, and_false, false_and, or_self, or_true, true_or, or_false, false_or, reduceIte]
  exact zCp_mk ec er (zInv_deed hI (by omega) a' y5 (fun c i b1 b2 b3 b4 b5 => fc c i (by omega) (by omega) (by omega) (by omega) (by omega) (by omega) (by omega) (by omega)) (fun c i hc => fc c i (by omega) (by omega) (by omega) (by omega) (by omega) (by omega) (by omega) (by omega)) (fun c i hc => (c2 c i hc).trans (f.2 c i)) y6)
