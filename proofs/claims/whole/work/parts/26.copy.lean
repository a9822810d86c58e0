/-! copy -/
theorem zcmp_gt (x y : Int64) : (nI 0 < lg_cmp x y) ↔ y < x := lg_cmp_gt x y
theorem zcmp_lt (x y : Int64) : (lg_cmp x y < nI 0) ↔ x < y := lg_cmp_lt x y
theorem zcmp_eq (x y : Int64) : (lg_cmp x y = nI 0) ↔ x = y := lg_cmp_eq x y
theorem s14 (X : ab_X) (d : Nat) {sz m : Nat} (hs : sz < 1000000) (hm : m < 2147483648) (x : Int32) (h : ab_H) : ab_ru X d 14 [.int (nI sz), .int x, .int (nI m)] h = some (some (.int (zb (0 ≤ x.toInt ∧ x.toInt + m ≤ sz))), h) := by
  simp only [r14, b14_0, b14_4, b14_9, b14_16, b14_20, b14_21, zlit, zr0, zr1, zrn0, zrn1, zrb, and_self, and_true, true_and, if_true, if_false, ite_true, ite_false]
  unfold zb
  by_cases h1 : x < nI 0
  · have a1 := h1
    rw [Int32.lt_iff_toInt_lt, nI_toInt (by omega)] at a1
    rw [if_pos h1, if_neg (by omega)]
    rfl
  · have a1 := h1
    rw [Int32.lt_iff_toInt_lt, nI_toInt (by omega)] at a1
    rw [if_neg h1]
    by_cases h2 : nI sz < nI m
    · have a2 := h2
      rw [nI_ltI (by omega) (by omega)] at a2
      rw [if_pos h2, if_neg (by omega)]
      rfl
    · have a2 := h2
      rw [nI_ltI (by omega) (by omega)] at a2
      rw [if_neg h2, pk_sub (by omega)]
      by_cases h3 : nI (sz - m) < x
      · have a3 := h3
        rw [Int32.lt_iff_toInt_lt, nI_toInt (by omega)] at a3
        rw [if_pos h3, if_neg (by omega)]
        rfl
      · have a3 := h3
        rw [Int32.lt_iff_toInt_lt, nI_toInt (by omega)] at a3
        rw [if_neg h3, if_pos (by omega)]
        rfl
theorem s115 (X : ab_X) (d : Nat) {sz m : Nat} (hs : sz < 1000000) (hm : m < 2147483648) (x : Int32) (h : ab_H) : ab_ru X d 115 [.int x, .int (nI m), .int (nI sz)] h = some (some (.int (zb (0 ≤ x.toInt ∧ x.toInt + m ≤ sz))), h) := by
  simp only [r115, b115_0, b115_4, b115_15, b115_19, b115_20, zlit, zr0, zr1, zrn0, zrn1, zrb, and_self, and_true, true_and, if_true, if_false, ite_true, ite_false, zcmp_gt]
  unfold zb
  by_cases h1 : x < nI 0
  · have a1 := h1
    rw [Int32.lt_iff_toInt_lt, nI_toInt (by omega)] at a1
    rw [if_pos h1, if_neg (by omega)]
    rfl
  · have a1 := h1
    rw [Int32.lt_iff_toInt_lt, nI_toInt (by omega)] at a1
    rw [if_neg h1]
    have hx := Int32.toInt_lt x
    have e : (x.toInt64 + (nI m).toInt64).toInt = x.toInt + m := by
      rw [Int64.toInt_add, Int32.toInt_toInt64, Int32.toInt_toInt64, nI_toInt (by omega)]
      rw [Int.bmod_def]
      omega
    by_cases h3 : (nI sz).toInt64 < x.toInt64 + (nI m).toInt64
    · have a3 := h3
      rw [Int64.lt_iff_toInt_lt, e, Int32.toInt_toInt64, nI_toInt (by omega)] at a3
      rw [if_pos h3, if_neg (by omega)]
      rfl
    · have a3 := h3
      rw [Int64.lt_iff_toInt_lt, e, Int32.toInt_toInt64, nI_toInt (by omega)] at a3
      rw [if_neg h3, if_pos (by omega)]
      rfl
theorem s114a (X : ab_X) (d : Nat) {r to i j n : Nat} (hr : r < 6) (hi : i + n ≤ 40) (h : ab_H) : ∀ (m k : Nat), k + m = n → ab_ex X d 114 91 [.ref 29, .int (nI r), .int (nI i), .int (nI to), .int (nI j), .int (nI n), .int (nI k)] [] (ab_cI h 32 (40 * r + i) 36 0 k) = ab_ex X d 114 125 [.ref 29, .int (nI r), .int (nI i), .int (nI to), .int (nI j), .int (nI n), .int (nI n)] [] (ab_cI h 32 (40 * r + i) 36 0 n) := by
  intro m
  induction m with
  | zero =>
    intro k hk
    have e : k = n := by omega
    subst e
    rw [l114_91, if_neg (nI_nlt (by omega) (by omega))]
  | succ m ih =>
    intro k hk
    rw [l114_91, if_pos (nI_lt (by omega) (by omega))]
    simp (discharger := omega) only [b114_98, zd32, zs36, zlit, zlt_t, zlt_f, zeq_t, zeq_f, nI_add, pk_mul, zb_0, zb_n0, not_true_eq_false, not_false_eq_true, Classical.not_not, if_true, if_false, ite_true, ite_false, and_self, and_true, true_and, and_false, false_and, or_self, or_true, true_or, or_false, false_or, reduceIte, zg_ne, zj_ne, zc_ne, zk_ne, zf_ne]
    have e := zc_s (a := 32) (b := 36) (by omega) h (40 * r + i) 0 k
    rw [Nat.zero_add] at e
    rw [e]
    exact ih (k + 1) (by omega)
theorem s114b (X : ab_X) (d : Nat) {r to i j n : Nat} (hr : to < 6) (hi : j + n ≤ 40) (h : ab_H) : ∀ (m k : Nat), k + m = n → ab_ex X d 114 128 [.ref 29, .int (nI r), .int (nI i), .int (nI to), .int (nI j), .int (nI n), .int (nI k)] [] (ab_cI h 36 0 32 (40 * to + j) k) = some (some (.int (nI 1)), ab_cI h 36 0 32 (40 * to + j) n) := by
  intro m
  induction m with
  | zero =>
    intro k hk
    have e : k = n := by omega
    subst e
    rw [l114_128, if_neg (nI_nlt (by omega) (by omega)), b114_163, ← zlit]
  | succ m ih =>
    intro k hk
    rw [l114_128, if_pos (nI_lt (by omega) (by omega))]
    simp (discharger := omega) only [b114_135, zd36, zs32, zlit, zlt_t, zlt_f, zeq_t, zeq_f, nI_add, pk_mul, zb_0, zb_n0, not_true_eq_false, not_false_eq_true, Classical.not_not, if_true, if_false, ite_true, ite_false, and_self, and_true, true_and, and_false, false_and, or_self, or_true, true_or, or_false, false_or, reduceIte, zg_ne, zj_ne, zc_ne, zk_ne, zf_ne]
    have e := zc_s (a := 36) (b := 32) (by omega) h 0 (40 * to + j) k
    rw [Nat.zero_add] at e
    rw [e]
    exact ih (k + 1) (by omega)
theorem zcpR {r to i j n : Nat} (hr : r < 6) (ht : to < 6) (hi : i + n ≤ 40) (hj : j + n ≤ 40) (h : ab_H) (K : ab_H → Option ab_R) : ab_cp h (2 + r) (nI i) (2 + to) (nI j) (nI n) K = K (ab_cI h (2 + r) i (2 + to) j n) := z_cp (by rw [zR_sh hr]) (by rw [zR_sh ht]) (by rw [zR_sh hr]; exact hi) (by rw [zR_sh ht]; exact hj) h K
set_option maxHeartbeats 2000000 in
theorem cp_copy (X : ab_X) (d : Nat) (r i to j n : Int32) {h : ab_H} (hI : zInv h) : zCp X (d + 30) 13 114 [.int r, .int i, .int to, .int j, .int n] h := by
  obtain ⟨i1, i2, i3, i4, i5, i6, i7⟩ := id hI
  rcases zrow_cases i3 r with hr | ⟨a, ha, rfl, b1, b3, b2⟩
  · apply zCp_mk
    · simp (discharger := omega) only [r13, b13_0, b13_4, b13_7, b13_11, b13_14, b13_16, b13_21, b13_26, b13_27, b13_36, b13_45, b13_50, b13_51, b13_63, b13_66, b13_79, b13_82, b13_87, b13_88, s7, s8, zpu_s, zpu_n, Option.bind_some, zlit, zlt_t, zlt_f, zeq_t, zeq_f, nI_add, pk_mul, zb_0, zb_n0, not_true_eq_false, not_false_eq_true, Classical.not_not, if_true, if_false, ite_true, ite_false, and_self, and_true, true_and, and_false, false_and, or_self, or_true, true_or, or_false, false_or, reduceIte, hr]; rfl
    · simp (discharger := omega) only [r114, b114_0, b114_4, b114_7, b114_11, b114_14, b114_16, b114_21, b114_26, b114_27, b114_36, b114_45, b114_50, b114_51, b114_63, b114_66, b114_79, b114_82, b114_87, b114_88, b114_98, b114_125, b114_135, b114_163, s106, s108, zpu_s, zpu_n, Option.bind_some, zlit, zlt_t, zlt_f, zeq_t, zeq_f, nI_add, pk_mul, zb_0, zb_n0, not_true_eq_false, not_false_eq_true, Classical.not_not, if_true, if_false, ite_true, ite_false, and_self, and_true, true_and, and_false, false_and, or_self, or_true, true_or, or_false, false_or, reduceIte, hr]; rfl
    · exact hI
  rcases zrow_cases i3 to with hr | ⟨c, hc, rfl, c1, c3, c2⟩
  · apply zCp_mk
    · simp (discharger := omega) only [r13, b13_0, b13_4, b13_7, b13_11, b13_14, b13_16, b13_21, b13_26, b13_27, b13_36, b13_45, b13_50, b13_51, b13_63, b13_66, b13_79, b13_82, b13_87, b13_88, s7, s8, zpu_s, zpu_n, Option.bind_some, zlit, zlt_t, zlt_f, zeq_t, zeq_f, nI_add, pk_mul, zb_0, zb_n0, not_true_eq_false, not_false_eq_true, Classical.not_not, if_true, if_false, ite_true, ite_false, and_self, and_true, true_and, and_false, false_and, or_self, or_true, true_or, or_false, false_or, reduceIte, hr]; rfl
    · simp (discharger := omega) only [r114, b114_0, b114_4, b114_7, b114_11, b114_14, b114_16, b114_21, b114_26, b114_27, b114_36, b114_45, b114_50, b114_51, b114_63, b114_66, b114_79, b114_82, b114_87, b114_88, b114_98, b114_125, b114_135, b114_163, s106, s108, zpu_s, zpu_n, Option.bind_some, zlit, zlt_t, zlt_f, zeq_t, zeq_f, nI_add, pk_mul, zb_0, zb_n0, not_true_eq_false, not_false_eq_true, Classical.not_not, if_true, if_false, ite_true, ite_false, and_self, and_true, true_and, and_false, false_and, or_self, or_true, true_or, or_false, false_or, reduceIte, hr]; rfl
    · exact hI
  by_cases hn : n < nI 0
  · apply zCp_mk
    · simp (discharger := omega) only [r13, b13_0, b13_4, b13_7, b13_11, b13_14, b13_16, b13_21, b13_26, b13_27, b13_36, b13_45, b13_50, b13_51, b13_63, b13_66, b13_79, b13_82, b13_87, b13_88, s7, s8, zpu_s, zpu_n, Option.bind_some, zlit, zlt_t, zlt_f, zeq_t, zeq_f, nI_add, pk_mul, zb_0, zb_n0, not_true_eq_false, not_false_eq_true, Classical.not_not, if_true, if_false, ite_true, ite_false, and_self, and_true, true_and, and_false, false_and, or_self, or_true, true_or, or_false, false_or, reduceIte, hn]; rfl
    · simp (discharger := omega) only [r114, b114_0, b114_4, b114_7, b114_11, b114_14, b114_16, b114_21, b114_26, b114_27, b114_36, b114_45, b114_50, b114_51, b114_63, b114_66, b114_79, b114_82, b114_87, b114_88, b114_98, b114_125, b114_135, b114_163, s106, s108, zpu_s, zpu_n, Option.bind_some, zlit, zlt_t, zlt_f, zeq_t, zeq_f, nI_add, pk_mul, zb_0, zb_n0, not_true_eq_false, not_false_eq_true, Classical.not_not, if_true, if_false, ite_true, ite_false, and_self, and_true, true_and, and_false, false_and, or_self, or_true, true_or, or_false, false_or, reduceIte, hn, zg_ne, zj_ne, zc_ne, zk_ne, zf_ne]; rfl
    · exact zInv_find hI (f := 5) (by omega)
  rcases b2 with b2 | ⟨sa, hsa, b2⟩
  · apply zCp_mk
    · simp (discharger := omega) only [r13, b13_0, b13_4, b13_7, b13_11, b13_14, b13_16, b13_21, b13_26, b13_27, b13_36, b13_45, b13_50, b13_51, b13_63, b13_66, b13_79, b13_82, b13_87, b13_88, s7, s8, zpu_s, zpu_n, Option.bind_some, zlit, zlt_t, zlt_f, zeq_t, zeq_f, nI_add, pk_mul, zb_0, zb_n0, not_true_eq_false, not_false_eq_true, Classical.not_not, if_true, if_false, ite_true, ite_false, and_self, and_true, true_and, and_false, false_and, or_self, or_true, true_or, or_false, false_or, reduceIte, hn, zd8, b1, b2, zneg1]; rfl
    · simp (discharger := omega) only [r114, b114_0, b114_4, b114_7, b114_11, b114_14, b114_16, b114_21, b114_26, b114_27, b114_36, b114_45, b114_50, b114_51, b114_63, b114_66, b114_79, b114_82, b114_87, b114_88, b114_98, b114_125, b114_135, b114_163, s106, s108, zpu_s, zpu_n, Option.bind_some, zlit, zlt_t, zlt_f, zeq_t, zeq_f, nI_add, pk_mul, zb_0, zb_n0, not_true_eq_false, not_false_eq_true, Classical.not_not, if_true, if_false, ite_true, ite_false, and_self, and_true, true_and, and_false, false_and, or_self, or_true, true_or, or_false, false_or, reduceIte, hn, zd33, b2, zneg1, zg_ne, zj_ne, zc_ne, zk_ne, zf_ne]; rfl
    · exact zInv_find hI (f := 1) (by omega)
  rcases c2 with c2 | ⟨sc, hsc, c2⟩
  · apply zCp_mk
    · simp (discharger := omega) only [r13, b13_0, b13_4, b13_7, b13_11, b13_14, b13_16, b13_21, b13_26, b13_27, b13_36, b13_45, b13_50, b13_51, b13_63, b13_66, b13_79, b13_82, b13_87, b13_88, s7, s8, zpu_s, zpu_n, Option.bind_some, zlit, zlt_t, zlt_f, zeq_t, zeq_f, nI_add, pk_mul, zb_0, zb_n0, not_true_eq_false, not_false_eq_true, Classical.not_not, if_true, if_false, ite_true, ite_false, and_self, and_true, true_and, and_false, false_and, or_self, or_true, true_or, or_false, false_or, reduceIte, hn, zd8, b1, b2, c1, c2, zneg1]; rfl
    · simp (discharger := omega) only [r114, b114_0, b114_4, b114_7, b114_11, b114_14, b114_16, b114_21, b114_26, b114_27, b114_36, b114_45, b114_50, b114_51, b114_63, b114_66, b114_79, b114_82, b114_87, b114_88, b114_98, b114_125, b114_135, b114_163, s106, s108, zpu_s, zpu_n, Option.bind_some, zlit, zlt_t, zlt_f, zeq_t, zeq_f, nI_add, pk_mul, zb_0, zb_n0, not_true_eq_false, not_false_eq_true, Classical.not_not, if_true, if_false, ite_true, ite_false, and_self, and_true, true_and, and_false, false_and, or_self, or_true, true_or, or_false, false_or, reduceIte, hn, zd33, b2, c2, zneg1, zg_ne, zj_ne, zc_ne, zk_ne, zf_ne]; rfl
    · exact zInv_find hI (f := 1) (by omega)
  obtain ⟨m, hm, rfl⟩ := nI_of (x := n) hn
  by_cases f1 : 0 ≤ i.toInt ∧ i.toInt + m ≤ sa
  · by_cases f2 : 0 ≤ j.toInt ∧ j.toInt + m ≤ sc
    · obtain ⟨i', hi', rfl⟩ := nI_of (x := i) (by rw [Int32.lt_iff_toInt_lt]; have : (0 : Int32).toInt = 0 := rfl; omega)
      obtain ⟨j', hj', rfl⟩ := nI_of (x := j) (by rw [Int32.lt_iff_toInt_lt]; have : (0 : Int32).toInt = 0 := rfl; omega)
      rw [nI_toInt (by omega)] at f1 f2
      have f1' : (0 ≤ (nI i').toInt ∧ (nI i').toInt + (m : Int) ≤ sa) = True := eq_true (by rw [nI_toInt (by omega)]; exact f1)
      have f2' : (0 ≤ (nI j').toInt ∧ (nI j').toInt + (m : Int) ≤ sc) = True := eq_true (by rw [nI_toInt (by omega)]; exact f2)
      apply zCp_mk
      · simp (discharger := omega) only [r13, b13_0, b13_4, b13_7, b13_11, b13_14, b13_16, b13_21, b13_26, b13_27, b13_36, b13_45, b13_50, b13_51, b13_63, b13_66, b13_79, b13_82, b13_87, b13_88, s7, s14, zpu_s, zpu_n, Option.bind_some, zlit, zlt_t, zlt_f, zeq_t, zeq_f, nI_add, pk_mul, zb_0, zb_n0, not_true_eq_false, not_false_eq_true, Classical.not_not, if_true, if_false, ite_true, ite_false, and_self, and_true, true_and, and_false, false_and, or_self, or_true, true_or, or_false, false_or, reduceIte, hn, zd8, b1, b2, c1, c2, f1', f2', zL_rows, zcpR]; rfl
      · have e1 := s114a X (d + 30) (r := a) (to := c) (i := i') (j := j') (n := m) ha (by omega) (ab_cI h (2 + a) i' (2 + c) j' m) m 0 (by omega)
        have e2 := s114b X (d + 30) (r := a) (to := c) (i := i') (j := j') (n := m) hc (by omega) (ab_cI (ab_cI h (2 + a) i' (2 + c) j' m) 32 (40 * a + i') 36 0 m) m 0 (by omega)
        rw [zc_0] at e1 e2
        simp (discharger := omega) only [r114, b114_0, b114_4, b114_7, b114_11, b114_14, b114_16, b114_21, b114_26, b114_27, b114_36, b114_45, b114_50, b114_51, b114_63, b114_66, b114_79, b114_82, b114_87, b114_88, b114_98, b114_125, b114_135, b114_163, s106, s115, zpu_s, zpu_n, Option.bind_some, zlit, zlt_t, zlt_f, zeq_t, zeq_f, nI_add, pk_mul, zb_0, zb_n0, not_true_eq_false, not_false_eq_true, Classical.not_not, if_true, if_false, ite_true, ite_false, and_self, and_true, true_and, and_false, false_and, or_self, or_true, true_or, or_false, false_or, reduceIte, hn, zd33, b2, c2, f1', f2', zg_ne, zj_ne, zc_ne, zk_ne, zf_ne]
        rw [e1]
        simp (discharger := omega) only [b114_125, zlit]
        rw [e2]
      · refine ⟨(by simpa (discharger := omega) only [zI_ask, zg_ne, zj_ne, zc_ne, zk_ne, zf_ne, zg_J, zj_I, zc_J, zk_I, zf_J, zg_eq, zg_nj, zj_eq, zj_nj, zf_in, zf_out] using i1), (fun f hf => by simpa (discharger := omega) only [zg_ne, zj_ne, zc_ne, zk_ne, zf_ne, zg_J, zj_I, zc_J, zk_I, zf_J, zg_eq, zg_nj, zj_eq, zj_nj, zf_in, zf_out] using i2 f hf), ?_, (fun t ht => by simpa (discharger := omega) only [zg_ne, zj_ne, zc_ne, zk_ne, zf_ne, zg_J, zj_I, zc_J, zk_I, zf_J, zg_eq, zg_nj, zj_eq, zj_nj, zf_in, zf_out] using i4 t ht), ((zI_posts (h := h) (by intro c h1 h2 i; simp (discharger := omega) only [zg_ne, zj_ne, zc_ne, zk_ne, zf_ne, zg_J, zj_I, zc_J, zk_I, zf_J, zg_eq, zg_nj, zj_eq, zj_nj, zf_in, zf_out]) (by intro c h1 h2 i; simp (discharger := omega) only [zg_ne, zj_ne, zc_ne, zk_ne, zf_ne, zg_J, zj_I, zc_J, zk_I, zf_J, zg_eq, zg_nj, zj_eq, zj_nj, zf_in, zf_out]) (by intro i; simp (discharger := omega) only [zg_ne, zj_ne, zc_ne, zk_ne, zf_ne, zg_J, zj_I, zc_J, zk_I, zf_J, zg_eq, zg_nj, zj_eq, zj_nj, zf_in, zf_out]) (by intro i; simp (discharger := omega) only [zg_ne, zj_ne, zc_ne, zk_ne, zf_ne, zg_J, zj_I, zc_J, zk_I, zf_J, zg_eq, zg_nj, zj_eq, zj_nj, zf_in, zf_out]) (by simp (discharger := omega) only [zg_ne, zj_ne, zc_ne, zk_ne, zf_ne, zg_J, zj_I, zc_J, zk_I, zf_J, zg_eq, zg_nj, zj_eq, zj_nj, zf_in, zf_out])).1 i5), ((zI_posts (h := h) (by intro c h1 h2 i; simp (discharger := omega) only [zg_ne, zj_ne, zc_ne, zk_ne, zf_ne, zg_J, zj_I, zc_J, zk_I, zf_J, zg_eq, zg_nj, zj_eq, zj_nj, zf_in, zf_out]) (by intro c h1 h2 i; simp (discharger := omega) only [zg_ne, zj_ne, zc_ne, zk_ne, zf_ne, zg_J, zj_I, zc_J, zk_I, zf_J, zg_eq, zg_nj, zj_eq, zj_nj, zf_in, zf_out]) (by intro i; simp (discharger := omega) only [zg_ne, zj_ne, zc_ne, zk_ne, zf_ne, zg_J, zj_I, zc_J, zk_I, zf_J, zg_eq, zg_nj, zj_eq, zj_nj, zf_in, zf_out]) (by intro i; simp (discharger := omega) only [zg_ne, zj_ne, zc_ne, zk_ne, zf_ne, zg_J, zj_I, zc_J, zk_I, zf_J, zg_eq, zg_nj, zj_eq, zj_nj, zf_in, zf_out]) (by simp (discharger := omega) only [zg_ne, zj_ne, zc_ne, zk_ne, zf_ne, zg_J, zj_I, zc_J, zk_I, zf_J, zg_eq, zg_nj, zj_eq, zj_nj, zf_in, zf_out])).2 i6), (by simpa (discharger := omega) only [zI_sea, zg_ne, zj_ne, zc_ne, zk_ne, zf_ne, zg_J, zj_I, zc_J, zk_I, zf_J, zg_eq, zg_nj, zj_eq, zj_nj, zf_in, zf_out] using i7)⟩
        intro s hs
        obtain ⟨g1, g2, g3⟩ := i3 s hs
        refine ⟨by simpa (discharger := omega) only [zg_ne, zj_ne, zc_ne, zk_ne, zf_ne, zg_J, zj_I, zc_J, zk_I, zf_J, zg_eq, zg_nj, zj_eq, zj_nj, zf_in, zf_out] using g1, by simpa (discharger := omega) only [zg_ne, zj_ne, zc_ne, zk_ne, zf_ne, zg_J, zj_I, zc_J, zk_I, zf_J, zg_eq, zg_nj, zj_eq, zj_nj, zf_in, zf_out] using g2, fun t ht => ?_⟩
        by_cases e : s = c
        · subst e
          simp (discharger := omega) only [zc_ne, zc_same]
          by_cases e2 : j' ≤ t ∧ t < j' + m
          · rw [if_pos e2, if_pos (by omega), if_pos (by omega), b3 _ (by omega)]
            congr 1
            omega
          · rw [if_neg e2, if_neg (by omega)]
            exact g3 t ht
        · simp (discharger := omega) only [zc_ne, zc_same]
          rw [if_neg (by omega)]
          exact g3 t ht
    · apply zCp_mk
      · simp (discharger := omega) only [r13, b13_0, b13_4, b13_7, b13_11, b13_14, b13_16, b13_21, b13_26, b13_27, b13_36, b13_45, b13_50, b13_51, b13_63, b13_66, b13_79, b13_82, b13_87, b13_88, s7, s8, s14, zpu_s, zpu_n, Option.bind_some, zlit, zlt_t, zlt_f, zeq_t, zeq_f, nI_add, pk_mul, zb_0, zb_n0, not_true_eq_false, not_false_eq_true, Classical.not_not, if_true, if_false, ite_true, ite_false, and_self, and_true, true_and, and_false, false_and, or_self, or_true, true_or, or_false, false_or, reduceIte, hn, zd8, b1, b2, c1, c2, f1, f2]; rfl
      · simp (discharger := omega) only [r114, b114_0, b114_4, b114_7, b114_11, b114_14, b114_16, b114_21, b114_26, b114_27, b114_36, b114_45, b114_50, b114_51, b114_63, b114_66, b114_79, b114_82, b114_87, b114_88, b114_98, b114_125, b114_135, b114_163, s106, s108, s115, zpu_s, zpu_n, Option.bind_some, zlit, zlt_t, zlt_f, zeq_t, zeq_f, nI_add, pk_mul, zb_0, zb_n0, not_true_eq_false, not_false_eq_true, Classical.not_not, if_true, if_false, ite_true, ite_false, and_self, and_true, true_and, and_false, false_and, or_self, or_true, true_or, or_false, false_or, reduceIte, hn, zd33, b2, c2, f1, f2, zg_ne, zj_ne, zc_ne, zk_ne, zf_ne]; rfl
      · exact zInv_find hI (f := 2) (by omega)
  · apply zCp_mk
    · simp (discharger := omega) only [r13, b13_0, b13_4, b13_7, b13_11, b13_14, b13_16, b13_21, b13_26, b13_27, b13_36, b13_45, b13_50, b13_51, b13_63, b13_66, b13_79, b13_82, b13_87, b13_88, s7, s8, s14, zpu_s, zpu_n, Option.bind_some, zlit, zlt_t, zlt_f, zeq_t, zeq_f, nI_add, pk_mul, zb_0, zb_n0, not_true_eq_false, not_false_eq_true, Classical.not_not, if_true, if_false, ite_true, ite_false, and_self, and_true, true_and, and_false, false_and, or_self, or_true, true_or, or_false, false_or, reduceIte, hn, zd8, b1, b2, c1, c2, f1]; rfl
    · simp (discharger := omega) only [r114, b114_0, b114_4, b114_7, b114_11, b114_14, b114_16, b114_21, b114_26, b114_27, b114_36, b114_45, b114_50, b114_51, b114_63, b114_66, b114_79, b114_82, b114_87, b114_88, b114_98, b114_125, b114_135, b114_163, s106, s108, s115, zpu_s, zpu_n, Option.bind_some, zlit, zlt_t, zlt_f, zeq_t, zeq_f, nI_add, pk_mul, zb_0, zb_n0, not_true_eq_false, not_false_eq_true, Classical.not_not, if_true, if_false, ite_true, ite_false, and_self, and_true, true_and, and_false, false_and, or_self, or_true, true_or, or_false, false_or, reduceIte, hn, zd33, b2, c2, f1, zg_ne, zj_ne, zc_ne, zk_ne, zf_ne]; rfl
    · exact zInv_find hI (f := 2) (by omega)
