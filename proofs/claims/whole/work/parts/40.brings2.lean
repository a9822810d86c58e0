/-- the class's round gone aside, from what zround hands on -/
theorem c65 (X : ab_X) (d : Nat) {N n j : Nat} (hN : N ≤ 6) (hn : n ≤ 12) (hj : j < 6) {h : ab_H} (n2 : ab_gI h 41 7 = nI N) (k1 : ∀ i, i < N → ab_gI h 42 i = ab_gI h 30 (2 + i)) (k2 : ∀ i, i < N → ab_gI h 43 i = ab_gI h 30 (8 + i)) (k3 : ∀ i, i < N → ab_gI h 47 i = ab_gI h 30 (14 + i)) (k4 : ∀ i, i < N → ab_gI h 45 i = ab_gI h 30 (20 + i)) (t1 : ∀ i, i < N → ∃ k, k < 6 ∧ ab_gI h 30 (2 + i) = nI k) (b3 : ∀ k, k < 40 → ab_gI h (2 + j) k = ab_gI h 32 (40 * j + k)) (hq' : ∀ k, k < n → zqf h j k < N ∧ ab_gI h 32 (40 * j + k) = nI (zqf h j k)) : ∃ h', ab_ru X (d + 4) 65 [.ref 0] (zRd h j n) = some (some (.int (zgone (zEm h) (fun i => ab_gI h 30 (20 + i)) (zqf h j) n).1.2.2.2), h') ∧ zFc h h' ∧ ∀ i, i < N → ab_gI h' 17 i = (zgone (zEm h) (fun i => ab_gI h 30 (20 + i)) (zqf h j) n).1.2.2.1 i := by
  have f := zFc_Rd h j n
  obtain ⟨D, E, e, hD⟩ := s65 X d hN hn (q := zqf h j) (h := zRd h j n) (h0 := h) (by rw [f.1 _ _ (by omega) (by omega) (by omega) (by omega)]; exact n2) (fun i hi => by rw [f.1 _ _ (by omega) (by omega) (by omega) (by omega)]; exact k1 i hi) (fun i hi => by rw [f.1 _ _ (by omega) (by omega) (by omega) (by omega)]; exact k2 i hi) (fun i hi => by rw [f.1 _ _ (by omega) (by omega) (by omega) (by omega)]; exact k3 i hi) (fun i hi => by rw [f.1 _ _ (by omega) (by omega) (by omega) (by omega)]; exact k4 i hi) t1 (zRd_19 h j n) (fun k hk => ⟨(hq' k hk).1, by rw [zRd_20 hk (b3 k (by omega)) hj]; exact (hq' k hk).2⟩)
  rw [zW_gone] at e hD
  refine ⟨_, e, zFc_17 (zFc_18 f E) D, fun i hi => ?_⟩
  rw [zput_same]
  exact hD i hi
/-- the reference's: begins, then the round -/
theorem f145_7 (X : ab_X) (d : Nat) {N n j : Nat} (hN : N ≤ 6) (hn : n ≤ 12) (hj : j < 6) {h h1 : ab_H} (e30 : ∀ i, ab_gI h1 30 i = ab_gI h 30 i) (e32 : ∀ i, ab_gI h1 32 i = ab_gI h 32 i) (hs : ab_gI h1 33 j = nI n) (n5 : ab_gI h 30 0 = nI N) (t1 : ∀ i, i < N → ∃ k, k < 6 ∧ ab_gI h 30 (2 + i) = nI k) (hq' : ∀ k, k < n → zqf h j k < N ∧ ab_gI h 32 (40 * j + k) = nI (zqf h j k)) : ∃ h2 h3, ab_ru X (d + 2) 145 [.ref 29] h1 = some (none, h2) ∧ ab_ru X (d + 2) 147 [.ref 29, .int (nI j)] h2 = some (none, h3) ∧ zFr h1 h3 ∧ (∀ i, i < N → ab_gI h3 39 i = (zgone (zEm h) (fun i => ab_gI h 30 (20 + i)) (zqf h j) n).1.2.2.1 i) ∧ ab_gI h3 29 18 = (zgone (zEm h) (fun i => ab_gI h 30 (20 + i)) (zqf h j) n).1.2.2.2 ∧ ab_gI h3 29 19 = (zgone (zEm h) (fun i => ab_gI h 30 (20 + i)) (zqf h j) n).2.1 := by
  obtain ⟨h2, a1, a2, a3, a4⟩ := f145 X d hN (zFr_refl h1) (by rw [e30]; exact n5) (fun i hi => by rw [e30]; exact t1 i hi)
  obtain ⟨h3, c1, c2, c3, c4, c5, c6, c7⟩ := f147 X d (N := N) (q := zqf h j) hj hn hN a2 hs (fun k hk => ⟨(hq' k hk).1, by rw [e32]; exact (hq' k hk).2⟩) (e := zEm h) (D := fun i => ab_gI h 30 (20 + i)) (fun i hi => (a3 i hi).trans (zEm_congr e30 i)) (fun i hi => by rw [a4 i hi, e30])
  exact ⟨h2, h3, a1, c1, c2, c4, c5, c6⟩
set_option maxHeartbeats 1000000 in
theorem cp_brings (X : ab_X) (d : Nat) (r : Int32) {h : ab_H} (hI : zInv h) : zCp X (d + 30) 64 156 [.int r] h := by
  obtain ⟨N, dc, hN, hdc, n0, n1, n2, n3, n4, n5, k1, k2, k3, k4, k5, t1, t2, t3, t4⟩ := znow hI
  rcases zround X (d + 9) r hI hN n2 n5 with ⟨v, h1, h2, hv, e1, e2, hI2, hnr⟩ | ⟨j, n, hj, rfl, hN0, hn, b2, b3, hq, e1, e2⟩
  · have hv0 := zv0 hv
    have hvl := zvl hv
    apply zCp_mk
    · simp (discharger := omega) only [r64, b64_0, b64_5, b64_10, e1, zpu_s, zpu_n, Option.bind_some, zlit, Bool.false_eq_true, zlt_t, zlt_f, zeq_t, zeq_f, nI_add, pk_mul, zb_0, zb_n0, not_true_eq_false, not_false_eq_true, Classical.not_not, if_true, if_false, ite_true, ite_false, and_self, and_true, true_and, and_false, false_and, or_self, or_true, true_or, or_false, false_or, reduceIte, hv0]; rfl
    · simp (discharger := omega) only [r156, b156_0, b156_5, b156_10, e2, zpu_s, zpu_n, Option.bind_some, zlit, Bool.false_eq_true, zlt_t, zlt_f, zeq_t, zeq_f, nI_add, pk_mul, zb_0, zb_n0, not_true_eq_false, not_false_eq_true, Classical.not_not, if_true, if_false, ite_true, ite_false, and_self, and_true, true_and, and_false, false_and, or_self, or_true, true_or, or_false, false_or, reduceIte, hvl]; rfl
    · exact hI2
  · have hq' := zqf_get hN hq
    obtain ⟨hc, c1, c2, c3⟩ := c65 X (d + 25) hN hn hj n2 k1 k2 k3 k4 t1 b3 hq'
    generalize hg : zgone (zEm h) (fun i => ab_gI h 30 (20 + i)) (zqf h j) n = g at c1 c3
    have key1 := zloop (fun s k => ab_ex X (d + 30) 64 23 [.ref 0, .int (nI j), .int (nI 0), .int g.1.2.2.2, .int s, .int (nI k)] [] hc) (fun k s => zsb (g.1.2.2.1 k = nI 0) k s) N (fun k s hk => by
      rw [l64_23, c2.1 41 7 (by omega) (by omega) (by omega) (by omega), n2, if_pos (nI_lt (by omega) (by omega))]
      by_cases hb : g.1.2.2.1 k = nI 0
      · rw [zsb_t hb]
        simp (discharger := omega) only [b64_35, b64_45, b64_54, zd17, c3 k hk, hb, zlit, Bool.false_eq_true, zlt_t, zlt_f, zeq_t, zeq_f, nI_add, pk_mul, zb_0, zb_n0, not_true_eq_false, not_false_eq_true, Classical.not_not, if_true, if_false, ite_true, ite_false, and_self, and_true, true_and, and_false, false_and, or_self, or_true, true_or, or_false, false_or, reduceIte]
      · rw [zsb_f hb]
        simp (discharger := omega) only [b64_35, b64_54, zd17, c3 k hk, hb, zlit, Bool.false_eq_true, zlt_t, zlt_f, zeq_t, zeq_f, nI_add, pk_mul, zb_0, zb_n0, not_true_eq_false, not_false_eq_true, Classical.not_not, if_true, if_false, ite_true, ite_false, and_self, and_true, true_and, and_false, false_and, or_self, or_true, true_or, or_false, false_or, reduceIte]) (nI 0)
    have ec : ab_ru X (d + 30) 64 [.ref 0, .int (nI j)] h = some (some (.int g.1.2.2.2), ab_sI hc 0 11 (zit (fun k s => zsb (g.1.2.2.1 k = nI 0) k s) (nI 0) N)) := by
      simp (discharger := omega) only [r64, b64_0, b64_5, b64_12, b64_16, e1, zpu_s, zpu_n, Option.bind_some, zlit, Bool.false_eq_true, zlt_t, zlt_f, zeq_t, zeq_f, nI_add, pk_mul, zb_0, zb_n0, not_true_eq_false, not_false_eq_true, Classical.not_not, if_true, if_false, ite_true, ite_false, and_self, and_true, true_and, and_false, false_and, or_self, or_true, true_or, or_false, false_or, reduceIte, c1]
      rw [key1, l64_23, c2.1 41 7 (by omega) (by omega) (by omega) (by omega), n2, if_neg (nI_nlt (by omega) (by omega)), b64_60]
    generalize hB : zit (fun k s => zsb (g.1.2.2.1 k = nI 0) k s) (nI 0) N = B at ec
    have g30 : ∀ i, ab_gI (ab_sI hc 0 11 B) 30 i = ab_gI h 30 i := fun i => by rw [zg_ne (by omega), c2.1 30 i (by omega) (by omega) (by omega) (by omega)]
    have g32 : ∀ i, ab_gI (ab_sI hc 0 11 B) 32 i = ab_gI h 32 i := fun i => by rw [zg_ne (by omega), c2.1 32 i (by omega) (by omega) (by omega) (by omega)]
    have g33 : ab_gI (ab_sI hc 0 11 B) 33 j = nI n := by rw [zg_ne (by omega), c2.1 33 j (by omega) (by omega) (by omega) (by omega)]; exact b2
    have e2' := f144 X (d + 9) hj hn hN hN0 (q := zqf h j) (h := ab_sI hc 0 11 B) (by rw [g30]; exact n5) g33 (fun k hk => ⟨(hq' k hk).1, by rw [g32]; exact (hq' k hk).2⟩)
    obtain ⟨h2, h3, a1, a2, a3, a4, a5, a6⟩ := f145_7 X (d + 27) hN hn hj (h := h) (h1 := ab_sI hc 0 11 B) g30 g32 g33 n5 t1 hq'
    rw [hg] at a4 a5 a6
    have g3 : ab_gI h3 30 0 = nI N := by rw [a3.1 30 0 (by omega) (by omega) (by omega), g30]; exact n5
    have key2 := zloop (fun s k => ab_ex X (d + 30) 156 26 [.ref 29, .int (nI j), .int (nI 0), .int s, .int (nI k)] [] h3) (fun k s => zsb (g.1.2.2.1 k = nI 0) k s) N (fun k s hk => by
      rw [l156_26]
      simp (discharger := omega) only [zlit, zd30, g3]
      rw [if_pos (nI_lt (by omega) (by omega))]
      by_cases hb : g.1.2.2.1 k = nI 0
      · rw [zsb_t hb]
        simp (discharger := omega) only [b156_37, b156_48, b156_56, zd39, a4 k hk, hb, zlit, Bool.false_eq_true, zlt_t, zlt_f, zeq_t, zeq_f, nI_add, pk_mul, zb_0, zb_n0, not_true_eq_false, not_false_eq_true, Classical.not_not, if_true, if_false, ite_true, ite_false, and_self, and_true, true_and, and_false, false_and, or_self, or_true, true_or, or_false, false_or, reduceIte]
      · rw [zsb_f hb]
        simp (discharger := omega) only [b156_37, b156_55, b156_56, zd39, a4 k hk, hb, zlit, Bool.false_eq_true, zlt_t, zlt_f, zeq_t, zeq_f, nI_add, pk_mul, zb_0, zb_n0, not_true_eq_false, not_false_eq_true, Classical.not_not, if_true, if_false, ite_true, ite_false, and_self, and_true, true_and, and_false, false_and, or_self, or_true, true_or, or_false, false_or, reduceIte, zor0]) (nI 0)
    rw [hB] at key2
    have er : ab_ru X (d + 30) 156 [.ref 29, .int (nI j)] (ab_sI hc 0 11 B) = some (some (.int g.1.2.2.2), ab_sI h3 29 10 B) := by
      simp (discharger := omega) only [r156, b156_0, b156_5, b156_12, b156_16, b156_21, e2', a1, a2, zpu_s, zpu_n, Option.bind_some, zlit, Bool.false_eq_true, zlt_t, zlt_f, zeq_t, zeq_f, nI_add, pk_mul, zb_0, zb_n0, not_true_eq_false, not_false_eq_true, Classical.not_not, if_true, if_false, ite_true, ite_false, and_self, and_true, true_and, and_false, false_and, or_self, or_true, true_or, or_false, false_or, reduceIte]
      rw [key2, l156_26]
      simp (discharger := omega) only [zlit, zd30, g3]
      rw [if_neg (nI_nlt (by omega) (by omega))]
      simp (discharger := omega) only [b156_64, b156_73, r112, b112_0, a5, zpu_s, zpu_n, Option.bind_some]
    refine zCp_mk ec er ?_
    refine zInv_fr0 hI (fun c i hx => ?_) ?_ (fun c h1 h2 => ?_) (fun c i hx => ?_) ?_
    · rw [zg_ne (by omega), a3.1 c i (by omega) (by omega) (by omega), zg_ne (by omega), c2.1 c i (by omega) (by omega) (by omega) (by omega)]
    · rw [zg_nj (by omega), a3.2.1 1 (by omega), zg_ne (by omega), c2.1 29 1 (by omega) (by omega) (by omega) (by omega)]
    · rw [zg_ne (by omega), a3.1 c 0 (by omega) (by omega) (by omega), zg_ne (by omega), c2.1 c 0 (by omega) (by omega) (by omega) (by omega)]
    · rw [zj_I, a3.2.2, zj_I, c2.2]
    · obtain ⟨i1, -, -, -, -, -, -⟩ := id hI
      unfold zI_ask at i1 ⊢
      rw [zj_I, zj_I, zj_I, zj_I, a3.2.2, a3.2.2, a3.2.2, a3.2.2, zj_I, zj_I, zj_I, zj_I, c2.2, c2.2, c2.2, c2.2, zg_eq, zg_ne (by omega), zg_ne (by omega), zg_nj (by omega), a3.1 0 11 (by omega) (by omega) (by omega), zg_eq, a3.1 0 12 (by omega) (by omega) (by omega), zg_nj (by omega), a3.2.1 8 (by omega), zg_ne (by omega), c2.1 0 12 (by omega) (by omega) (by omega) (by omega), c2.1 29 8 (by omega) (by omega) (by omega) (by omega)]
      exact ⟨rfl, i1.2.1, i1.2.2⟩
