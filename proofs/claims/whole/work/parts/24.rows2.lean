/-! at, lay, tear -/
theorem zJ0 : (0 : Int64) = (nI 0).toInt64 := rfl
theorem zneg1 : (-nI 1 < nI 0) = True := eq_true (by decide)
theorem zneg1e (n : Nat) (hn : n < 2147483648) : (-nI 1 = nI n) = False := eq_false (fun e => by
  have := congrArg Int32.toInt e
  rw [nI_toInt (by omega)] at this
  have h1 : (-nI 1).toInt = -1 := by decide
  omega)
theorem zpred {n : Nat} (hn : n < 1000000) (x : Int32) : (nI n - nI 1 < x) = ¬ (x < nI n) := by
  have e : (nI n - nI 1).toInt = (n : Int) - 1 := pk_sub_toInt (by omega) (by omega)
  apply propext
  rw [Int32.lt_iff_toInt_lt, Int32.lt_iff_toInt_lt, e, nI_toInt (by omega)]
  omega
theorem zrow_cases {h : ab_H} (i3 : zI_row h) (r : Int32) : (¬ (¬ r < nI 0 ∧ r < nI 6)) ∨ ∃ j, j < 6 ∧ r = nI j ∧ ab_gI h 8 j = ab_gI h 33 j ∧ (∀ k, k < 40 → ab_gI h (2 + j) k = ab_gI h 32 (40 * j + k)) ∧ (ab_gI h 33 j = -nI 1 ∨ ∃ n, n ≤ 40 ∧ ab_gI h 33 j = nI n) := by
  rcases zix r (n := 6) (by omega) with q | q | ⟨j, hj, rfl⟩
  · exact Or.inl (fun z => z.1 q)
  · exact Or.inl (fun z => q.2 z.2)
  · obtain ⟨b1, b2, b3⟩ := i3 j hj
    exact Or.inr ⟨j, hj, rfl, b1, b3, b2⟩
theorem cp_at (X : ab_X) (d : Nat) (r i : Int32) {h : ab_H} (hI : zInv h) : zCp X (d + 30) 11 111 [.int r, .int i] h := by
  obtain ⟨i1, i2, i3, i4, i5, i6, i7⟩ := id hI
  rcases zrow_cases i3 r with hr | ⟨j, hj, rfl, b1, b3, b2 | ⟨n, hn, b2⟩⟩
  · apply zCp_mk
    · simp (discharger := omega) only [r11, b11_0, b11_6, b11_11, b11_13, r10, b10_0, b10_4, b10_7, b10_9, b10_18, b10_23, b10_24, b10_28, b10_38, b10_43, b10_44, s7, s8, zpu_s, zpu_n, Option.bind_some, zlit, zlt_t, zlt_f, zeq_t, zeq_f, nI_add, pk_mul, zb_0, zb_n0, not_true_eq_false, not_false_eq_true, Classical.not_not, if_true, if_false, ite_true, ite_false, and_self, and_true, true_and, and_false, false_and, or_self, or_true, true_or, or_false, false_or, reduceIte, hr]; rfl
    · simp (discharger := omega) only [r111, b111_0, b111_4, b111_7, b111_9, b111_18, b111_23, b111_24, b111_39, b111_42, b111_58, b111_61, b111_66, s106, s108, zpu_s, zpu_n, Option.bind_some, zlit, zlt_t, zlt_f, zeq_t, zeq_f, nI_add, pk_mul, zb_0, zb_n0, not_true_eq_false, not_false_eq_true, Classical.not_not, if_true, if_false, ite_true, ite_false, and_self, and_true, true_and, and_false, false_and, or_self, or_true, true_or, or_false, false_or, reduceIte, hr]; rfl
    · exact hI
  · apply zCp_mk
    · simp (discharger := omega) only [r11, b11_0, b11_6, b11_11, b11_13, r10, b10_0, b10_4, b10_7, b10_9, b10_18, b10_23, b10_24, b10_28, b10_38, b10_43, b10_44, s7, s8, zpu_s, zpu_n, Option.bind_some, zlit, zlt_t, zlt_f, zeq_t, zeq_f, nI_add, pk_mul, zb_0, zb_n0, not_true_eq_false, not_false_eq_true, Classical.not_not, if_true, if_false, ite_true, ite_false, and_self, and_true, true_and, and_false, false_and, or_self, or_true, true_or, or_false, false_or, reduceIte, zd8, b1, b2, zneg1, zneg1e]; rfl
    · simp (discharger := omega) only [r111, b111_0, b111_4, b111_7, b111_9, b111_18, b111_23, b111_24, b111_39, b111_42, b111_58, b111_61, b111_66, s106, s108, zpu_s, zpu_n, Option.bind_some, zlit, zlt_t, zlt_f, zeq_t, zeq_f, nI_add, pk_mul, zb_0, zb_n0, not_true_eq_false, not_false_eq_true, Classical.not_not, if_true, if_false, ite_true, ite_false, and_self, and_true, true_and, and_false, false_and, or_self, or_true, true_or, or_false, false_or, reduceIte, zd33, b2, zneg1, zg_ne, zj_ne, zc_ne, zk_ne, zf_ne]; rfl
    · exact zInv_find hI (f := 1) (by omega)
  · rcases zix i (n := n) (by omega) with q | q | ⟨k, hk, rfl⟩
    · apply zCp_mk
      · simp (discharger := omega) only [r11, b11_0, b11_6, b11_11, b11_13, r10, b10_0, b10_4, b10_7, b10_9, b10_18, b10_23, b10_24, b10_28, b10_38, b10_43, b10_44, s7, s8, zpu_s, zpu_n, Option.bind_some, zlit, zlt_t, zlt_f, zeq_t, zeq_f, nI_add, pk_mul, zb_0, zb_n0, not_true_eq_false, not_false_eq_true, Classical.not_not, if_true, if_false, ite_true, ite_false, and_self, and_true, true_and, and_false, false_and, or_self, or_true, true_or, or_false, false_or, reduceIte, zd8, b1, b2, q]; rfl
      · simp (discharger := omega) only [r111, b111_0, b111_4, b111_7, b111_9, b111_18, b111_23, b111_24, b111_39, b111_42, b111_58, b111_61, b111_66, s106, s107i, s108, zpu_s, zpu_n, Option.bind_some, zlit, zlt_t, zlt_f, zeq_t, zeq_f, nI_add, pk_mul, zb_0, zb_n0, not_true_eq_false, not_false_eq_true, Classical.not_not, if_true, if_false, ite_true, ite_false, and_self, and_true, true_and, and_false, false_and, or_self, or_true, true_or, or_false, false_or, reduceIte, zd33, b2, q, zg_ne, zj_ne, zc_ne, zk_ne, zf_ne, zJ0, zpred]; rfl
      · exact zInv_find hI (f := 2) (by omega)
    · apply zCp_mk
      · simp (discharger := omega) only [r11, b11_0, b11_6, b11_11, b11_13, r10, b10_0, b10_4, b10_7, b10_9, b10_18, b10_23, b10_24, b10_28, b10_38, b10_43, b10_44, s7, s8, zpu_s, zpu_n, Option.bind_some, zlit, zlt_t, zlt_f, zeq_t, zeq_f, nI_add, pk_mul, zb_0, zb_n0, not_true_eq_false, not_false_eq_true, Classical.not_not, if_true, if_false, ite_true, ite_false, and_self, and_true, true_and, and_false, false_and, or_self, or_true, true_or, or_false, false_or, reduceIte, zd8, b1, b2, q]; rfl
      · simp (discharger := omega) only [r111, b111_0, b111_4, b111_7, b111_9, b111_18, b111_23, b111_24, b111_39, b111_42, b111_58, b111_61, b111_66, s106, s107i, s108, zpu_s, zpu_n, Option.bind_some, zlit, zlt_t, zlt_f, zeq_t, zeq_f, nI_add, pk_mul, zb_0, zb_n0, not_true_eq_false, not_false_eq_true, Classical.not_not, if_true, if_false, ite_true, ite_false, and_self, and_true, true_and, and_false, false_and, or_self, or_true, true_or, or_false, false_or, reduceIte, zd33, b2, q, zg_ne, zj_ne, zc_ne, zk_ne, zf_ne, zJ0, zpred]; rfl
      · exact zInv_find hI (f := 2) (by omega)
    · apply zCp_mk
      · simp (discharger := omega) only [r11, b11_0, b11_6, b11_11, b11_13, r10, b10_0, b10_4, b10_7, b10_9, b10_18, b10_23, b10_24, b10_28, b10_38, b10_43, b10_44, s7, s8, zpu_s, zpu_n, Option.bind_some, zlit, zlt_t, zlt_f, zeq_t, zeq_f, nI_add, pk_mul, zb_0, zb_n0, not_true_eq_false, not_false_eq_true, Classical.not_not, if_true, if_false, ite_true, ite_false, and_self, and_true, true_and, and_false, false_and, or_self, or_true, true_or, or_false, false_or, reduceIte, zd8, b1, b2, zL_rows, zR_ld]; rfl
      · simp (discharger := omega) only [r111, b111_0, b111_4, b111_7, b111_9, b111_18, b111_23, b111_24, b111_39, b111_42, b111_58, b111_61, b111_66, r112, b112_0, s106, s107i, s108, zpu_s, zpu_n, Option.bind_some, zlit, zlt_t, zlt_f, zeq_t, zeq_f, nI_add, pk_mul, zb_0, zb_n0, not_true_eq_false, not_false_eq_true, Classical.not_not, if_true, if_false, ite_true, ite_false, and_self, and_true, true_and, and_false, false_and, or_self, or_true, true_or, or_false, false_or, reduceIte, zd33, zd32, b2, zg_ne, zj_ne, zc_ne, zk_ne, zf_ne, zJ0, zpred]; rfl
      · refine ⟨?_, (fun f hf => by simpa (discharger := omega) only [zg_ne, zj_ne, zc_ne, zk_ne, zf_ne, zg_J, zj_I, zc_J, zk_I, zf_J, zg_eq, zg_nj, zj_eq, zj_nj, zf_in, zf_out] using i2 f hf), (fun r hr => by simpa (discharger := omega) only [zg_ne, zj_ne, zc_ne, zk_ne, zf_ne, zg_J, zj_I, zc_J, zk_I, zf_J, zg_eq, zg_nj, zj_eq, zj_nj, zf_in, zf_out] using i3 r hr), (fun t ht => by simpa (discharger := omega) only [zg_ne, zj_ne, zc_ne, zk_ne, zf_ne, zg_J, zj_I, zc_J, zk_I, zf_J, zg_eq, zg_nj, zj_eq, zj_nj, zf_in, zf_out] using i4 t ht), ((zI_posts (h := h) (by intro c h1 h2 i; simp (discharger := omega) only [zg_ne, zj_ne, zc_ne, zk_ne, zf_ne, zg_J, zj_I, zc_J, zk_I, zf_J, zg_eq, zg_nj, zj_eq, zj_nj, zf_in, zf_out]) (by intro c h1 h2 i; simp (discharger := omega) only [zg_ne, zj_ne, zc_ne, zk_ne, zf_ne, zg_J, zj_I, zc_J, zk_I, zf_J, zg_eq, zg_nj, zj_eq, zj_nj, zf_in, zf_out]) (by intro i; simp (discharger := omega) only [zg_ne, zj_ne, zc_ne, zk_ne, zf_ne, zg_J, zj_I, zc_J, zk_I, zf_J, zg_eq, zg_nj, zj_eq, zj_nj, zf_in, zf_out]) (by intro i; simp (discharger := omega) only [zg_ne, zj_ne, zc_ne, zk_ne, zf_ne, zg_J, zj_I, zc_J, zk_I, zf_J, zg_eq, zg_nj, zj_eq, zj_nj, zf_in, zf_out]) (by simp (discharger := omega) only [zg_ne, zj_ne, zc_ne, zk_ne, zf_ne, zg_J, zj_I, zc_J, zk_I, zf_J, zg_eq, zg_nj, zj_eq, zj_nj, zf_in, zf_out])).1 i5), ((zI_posts (h := h) (by intro c h1 h2 i; simp (discharger := omega) only [zg_ne, zj_ne, zc_ne, zk_ne, zf_ne, zg_J, zj_I, zc_J, zk_I, zf_J, zg_eq, zg_nj, zj_eq, zj_nj, zf_in, zf_out]) (by intro c h1 h2 i; simp (discharger := omega) only [zg_ne, zj_ne, zc_ne, zk_ne, zf_ne, zg_J, zj_I, zc_J, zk_I, zf_J, zg_eq, zg_nj, zj_eq, zj_nj, zf_in, zf_out]) (by intro i; simp (discharger := omega) only [zg_ne, zj_ne, zc_ne, zk_ne, zf_ne, zg_J, zj_I, zc_J, zk_I, zf_J, zg_eq, zg_nj, zj_eq, zj_nj, zf_in, zf_out]) (by intro i; simp (discharger := omega) only [zg_ne, zj_ne, zc_ne, zk_ne, zf_ne, zg_J, zj_I, zc_J, zk_I, zf_J, zg_eq, zg_nj, zj_eq, zj_nj, zf_in, zf_out]) (by simp (discharger := omega) only [zg_ne, zj_ne, zc_ne, zk_ne, zf_ne, zg_J, zj_I, zc_J, zk_I, zf_J, zg_eq, zg_nj, zj_eq, zj_nj, zf_in, zf_out])).2 i6), (by simpa (discharger := omega) only [zI_sea, zg_ne, zj_ne, zc_ne, zk_ne, zf_ne, zg_J, zj_I, zc_J, zk_I, zf_J, zg_eq, zg_nj, zj_eq, zj_nj, zf_in, zf_out] using i7)⟩
        obtain ⟨a1, a2, a3, a4⟩ := i1
        simp (discharger := omega) only [zI_ask, zg_ne, zj_ne, zc_ne, zk_ne, zf_ne, zg_J, zj_I, zc_J, zk_I, zf_J, zg_eq, zg_nj, zj_eq, zj_nj, zf_in, zf_out]
        exact ⟨b3 k (by omega), a2, a3, a4⟩
set_option maxHeartbeats 1000000 in
theorem cp_lay (X : ab_X) (d : Nat) (r i v : Int32) {h : ab_H} (hI : zInv h) : zCp X (d + 30) 9 110 [.int r, .int i, .int v] h := by
  obtain ⟨i1, i2, i3, i4, i5, i6, i7⟩ := id hI
  have e31 : (-nI 3 = nI 1) = False := eq_false (by decide)
  have e11 : (-nI 1 = nI 1) = False := eq_false (by decide)
  rcases zrow_cases i3 r with hr | ⟨j, hj, rfl, b1, b3, b2 | ⟨n, hn, b2⟩⟩
  · apply zCp_mk
    · simp (discharger := omega) only [r9, b9_0, b9_6, b9_13, b9_16, r10, b10_0, b10_4, b10_7, b10_9, b10_18, b10_23, b10_24, b10_28, b10_38, b10_43, b10_44, s7, s8, zpu_s, zpu_n, Option.bind_some, zlit, zlt_t, zlt_f, zeq_t, zeq_f, nI_add, pk_mul, zb_0, zb_n0, not_true_eq_false, not_false_eq_true, Classical.not_not, if_true, if_false, ite_true, ite_false, and_self, and_true, true_and, and_false, false_and, or_self, or_true, true_or, or_false, false_or, reduceIte, hr]; rfl
    · simp (discharger := omega) only [r110, b110_0, b110_6, b110_14, b110_26, r111, b111_0, b111_4, b111_7, b111_9, b111_18, b111_23, b111_24, b111_39, b111_42, b111_58, b111_61, b111_66, s106, s108, zpu_s, zpu_n, Option.bind_some, zlit, zlt_t, zlt_f, zeq_t, zeq_f, nI_add, pk_mul, zb_0, zb_n0, not_true_eq_false, not_false_eq_true, Classical.not_not, if_true, if_false, ite_true, ite_false, and_self, and_true, true_and, and_false, false_and, or_self, or_true, true_or, or_false, false_or, reduceIte, hr, e11]; rfl
    · exact hI
  · apply zCp_mk
    · simp (discharger := omega) only [r9, b9_0, b9_6, b9_13, b9_16, r10, b10_0, b10_4, b10_7, b10_9, b10_18, b10_23, b10_24, b10_28, b10_38, b10_43, b10_44, s7, s8, zpu_s, zpu_n, Option.bind_some, zlit, zlt_t, zlt_f, zeq_t, zeq_f, nI_add, pk_mul, zb_0, zb_n0, not_true_eq_false, not_false_eq_true, Classical.not_not, if_true, if_false, ite_true, ite_false, and_self, and_true, true_and, and_false, false_and, or_self, or_true, true_or, or_false, false_or, reduceIte, zd8, b1, b2, zneg1, zneg1e]; rfl
    · simp (discharger := omega) only [r110, b110_0, b110_6, b110_14, b110_26, r111, b111_0, b111_4, b111_7, b111_9, b111_18, b111_23, b111_24, b111_39, b111_42, b111_58, b111_61, b111_66, s106, s108, zpu_s, zpu_n, Option.bind_some, zlit, zlt_t, zlt_f, zeq_t, zeq_f, nI_add, pk_mul, zb_0, zb_n0, not_true_eq_false, not_false_eq_true, Classical.not_not, if_true, if_false, ite_true, ite_false, and_self, and_true, true_and, and_false, false_and, or_self, or_true, true_or, or_false, false_or, reduceIte, zd33, b2, zneg1, zg_ne, zj_ne, zc_ne, zk_ne, zf_ne, e31]; rfl
    · exact zInv_find hI (f := 1) (by omega)
  · rcases zix i (n := n) (by omega) with q | q | ⟨k, hk, rfl⟩
    · apply zCp_mk
      · simp (discharger := omega) only [r9, b9_0, b9_6, b9_13, b9_16, r10, b10_0, b10_4, b10_7, b10_9, b10_18, b10_23, b10_24, b10_28, b10_38, b10_43, b10_44, s7, s8, zpu_s, zpu_n, Option.bind_some, zlit, zlt_t, zlt_f, zeq_t, zeq_f, nI_add, pk_mul, zb_0, zb_n0, not_true_eq_false, not_false_eq_true, Classical.not_not, if_true, if_false, ite_true, ite_false, and_self, and_true, true_and, and_false, false_and, or_self, or_true, true_or, or_false, false_or, reduceIte, zd8, b1, b2, q]; rfl
      · simp (discharger := omega) only [r110, b110_0, b110_6, b110_14, b110_26, r111, b111_0, b111_4, b111_7, b111_9, b111_18, b111_23, b111_24, b111_39, b111_42, b111_58, b111_61, b111_66, s106, s107i, s108, zpu_s, zpu_n, Option.bind_some, zlit, zlt_t, zlt_f, zeq_t, zeq_f, nI_add, pk_mul, zb_0, zb_n0, not_true_eq_false, not_false_eq_true, Classical.not_not, if_true, if_false, ite_true, ite_false, and_self, and_true, true_and, and_false, false_and, or_self, or_true, true_or, or_false, false_or, reduceIte, zd33, b2, q, zg_ne, zj_ne, zc_ne, zk_ne, zf_ne, zJ0, zpred, e31]; rfl
      · exact zInv_find hI (f := 2) (by omega)
    · apply zCp_mk
      · simp (discharger := omega) only [r9, b9_0, b9_6, b9_13, b9_16, r10, b10_0, b10_4, b10_7, b10_9, b10_18, b10_23, b10_24, b10_28, b10_38, b10_43, b10_44, s7, s8, zpu_s, zpu_n, Option.bind_some, zlit, zlt_t, zlt_f, zeq_t, zeq_f, nI_add, pk_mul, zb_0, zb_n0, not_true_eq_false, not_false_eq_true, Classical.not_not, if_true, if_false, ite_true, ite_false, and_self, and_true, true_and, and_false, false_and, or_self, or_true, true_or, or_false, false_or, reduceIte, zd8, b1, b2, q]; rfl
      · simp (discharger := omega) only [r110, b110_0, b110_6, b110_14, b110_26, r111, b111_0, b111_4, b111_7, b111_9, b111_18, b111_23, b111_24, b111_39, b111_42, b111_58, b111_61, b111_66, s106, s107i, s108, zpu_s, zpu_n, Option.bind_some, zlit, zlt_t, zlt_f, zeq_t, zeq_f, nI_add, pk_mul, zb_0, zb_n0, not_true_eq_false, not_false_eq_true, Classical.not_not, if_true, if_false, ite_true, ite_false, and_self, and_true, true_and, and_false, false_and, or_self, or_true, true_or, or_false, false_or, reduceIte, zd33, b2, q, zg_ne, zj_ne, zc_ne, zk_ne, zf_ne, zJ0, zpred, e31]; rfl
      · exact zInv_find hI (f := 2) (by omega)
    · apply zCp_mk
      · simp (discharger := omega) only [r9, b9_0, b9_6, b9_13, b9_16, r10, b10_0, b10_4, b10_7, b10_9, b10_18, b10_23, b10_24, b10_28, b10_38, b10_43, b10_44, s7, s8, zpu_s, zpu_n, Option.bind_some, zlit, zlt_t, zlt_f, zeq_t, zeq_f, nI_add, pk_mul, zb_0, zb_n0, not_true_eq_false, not_false_eq_true, Classical.not_not, if_true, if_false, ite_true, ite_false, and_self, and_true, true_and, and_false, false_and, or_self, or_true, true_or, or_false, false_or, reduceIte, zd8, b1, b2, zL_rows, zR_ld, zR_sd]; rfl
      · simp (discharger := omega) only [r110, b110_0, b110_6, b110_14, b110_26, r111, b111_0, b111_4, b111_7, b111_9, b111_18, b111_23, b111_24, b111_39, b111_42, b111_58, b111_61, b111_66, r112, b112_0, s106, s107i, s108, zpu_s, zpu_n, Option.bind_some, zlit, zlt_t, zlt_f, zeq_t, zeq_f, nI_add, pk_mul, zb_0, zb_n0, not_true_eq_false, not_false_eq_true, Classical.not_not, if_true, if_false, ite_true, ite_false, and_self, and_true, true_and, and_false, false_and, or_self, or_true, true_or, or_false, false_or, reduceIte, zd33, zd32, zs32, b2, zg_ne, zj_ne, zc_ne, zk_ne, zf_ne, zJ0, zpred]; rfl
      · refine ⟨?_, (fun f hf => by simpa (discharger := omega) only [zg_ne, zj_ne, zc_ne, zk_ne, zf_ne, zg_J, zj_I, zc_J, zk_I, zf_J, zg_eq, zg_nj, zj_eq, zj_nj, zf_in, zf_out] using i2 f hf), ?_, (fun t ht => by simpa (discharger := omega) only [zg_ne, zj_ne, zc_ne, zk_ne, zf_ne, zg_J, zj_I, zc_J, zk_I, zf_J, zg_eq, zg_nj, zj_eq, zj_nj, zf_in, zf_out] using i4 t ht), ((zI_posts (h := h) (by intro c h1 h2 i; simp (discharger := omega) only [zg_ne, zj_ne, zc_ne, zk_ne, zf_ne, zg_J, zj_I, zc_J, zk_I, zf_J, zg_eq, zg_nj, zj_eq, zj_nj, zf_in, zf_out]) (by intro c h1 h2 i; simp (discharger := omega) only [zg_ne, zj_ne, zc_ne, zk_ne, zf_ne, zg_J, zj_I, zc_J, zk_I, zf_J, zg_eq, zg_nj, zj_eq, zj_nj, zf_in, zf_out]) (by intro i; simp (discharger := omega) only [zg_ne, zj_ne, zc_ne, zk_ne, zf_ne, zg_J, zj_I, zc_J, zk_I, zf_J, zg_eq, zg_nj, zj_eq, zj_nj, zf_in, zf_out]) (by intro i; simp (discharger := omega) only [zg_ne, zj_ne, zc_ne, zk_ne, zf_ne, zg_J, zj_I, zc_J, zk_I, zf_J, zg_eq, zg_nj, zj_eq, zj_nj, zf_in, zf_out]) (by simp (discharger := omega) only [zg_ne, zj_ne, zc_ne, zk_ne, zf_ne, zg_J, zj_I, zc_J, zk_I, zf_J, zg_eq, zg_nj, zj_eq, zj_nj, zf_in, zf_out])).1 i5), ((zI_posts (h := h) (by intro c h1 h2 i; simp (discharger := omega) only [zg_ne, zj_ne, zc_ne, zk_ne, zf_ne, zg_J, zj_I, zc_J, zk_I, zf_J, zg_eq, zg_nj, zj_eq, zj_nj, zf_in, zf_out]) (by intro c h1 h2 i; simp (discharger := omega) only [zg_ne, zj_ne, zc_ne, zk_ne, zf_ne, zg_J, zj_I, zc_J, zk_I, zf_J, zg_eq, zg_nj, zj_eq, zj_nj, zf_in, zf_out]) (by intro i; simp (discharger := omega) only [zg_ne, zj_ne, zc_ne, zk_ne, zf_ne, zg_J, zj_I, zc_J, zk_I, zf_J, zg_eq, zg_nj, zj_eq, zj_nj, zf_in, zf_out]) (by intro i; simp (discharger := omega) only [zg_ne, zj_ne, zc_ne, zk_ne, zf_ne, zg_J, zj_I, zc_J, zk_I, zf_J, zg_eq, zg_nj, zj_eq, zj_nj, zf_in, zf_out]) (by simp (discharger := omega) only [zg_ne, zj_ne, zc_ne, zk_ne, zf_ne, zg_J, zj_I, zc_J, zk_I, zf_J, zg_eq, zg_nj, zj_eq, zj_nj, zf_in, zf_out])).2 i6), (by simpa (discharger := omega) only [zI_sea, zg_ne, zj_ne, zc_ne, zk_ne, zf_ne, zg_J, zj_I, zc_J, zk_I, zf_J, zg_eq, zg_nj, zj_eq, zj_nj, zf_in, zf_out] using i7)⟩
        · obtain ⟨a1, a2, a3, a4⟩ := i1
          simp (discharger := omega) only [zI_ask, zg_ne, zj_ne, zc_ne, zk_ne, zf_ne, zg_J, zj_I, zc_J, zk_I, zf_J, zg_eq, zg_nj, zj_eq, zj_nj, zf_in, zf_out]
          exact ⟨b3 k (by omega), a2, a3, a4⟩
        · intro s hs
          obtain ⟨c1, c2, c3⟩ := i3 s hs
          refine ⟨by simpa (discharger := omega) only [zg_ne, zj_ne, zc_ne, zk_ne, zf_ne, zg_J, zj_I, zc_J, zk_I, zf_J, zg_eq, zg_nj, zj_eq, zj_nj, zf_in, zf_out] using c1, by simpa (discharger := omega) only [zg_ne, zj_ne, zc_ne, zk_ne, zf_ne, zg_J, zj_I, zc_J, zk_I, zf_J, zg_eq, zg_nj, zj_eq, zj_nj, zf_in, zf_out] using c2, fun t ht => ?_⟩
          by_cases e : s = j
          · subst e
            by_cases e2 : t = k
            · subst e2
              simp (discharger := omega) only [zg_ne, zj_ne, zc_ne, zk_ne, zf_ne, zg_J, zj_I, zc_J, zk_I, zf_J, zg_eq, zg_nj, zj_eq, zj_nj, zf_in, zf_out]
            · simpa (discharger := omega) only [zg_ne, zj_ne, zc_ne, zk_ne, zf_ne, zg_J, zj_I, zc_J, zk_I, zf_J, zg_eq, zg_nj, zj_eq, zj_nj, zf_in, zf_out] using c3 t ht
          · simpa (discharger := omega) only [zg_ne, zj_ne, zc_ne, zk_ne, zf_ne, zg_J, zj_I, zc_J, zk_I, zf_J, zg_eq, zg_nj, zj_eq, zj_nj, zf_in, zf_out] using c3 t ht
theorem cp_tear (X : ab_X) (d : Nat) (r : Int32) {h : ab_H} (hI : zInv h) : zCp X (d + 30) 12 113 [.int r] h := by
  obtain ⟨i1, i2, i3, i4, i5, i6, i7⟩ := id hI
  rcases zrow_cases i3 r with hr | ⟨j, hj, rfl, b1, b3, b2 | ⟨n, hn, b2⟩⟩
  · apply zCp_mk
    · simp (discharger := omega) only [r12, b12_0, b12_4, b12_7, b12_9, b12_18, b12_23, b12_24, s7, s8, zpu_s, zpu_n, Option.bind_some, zlit, zlt_t, zlt_f, zeq_t, zeq_f, nI_add, pk_mul, zb_0, zb_n0, not_true_eq_false, not_false_eq_true, Classical.not_not, if_true, if_false, ite_true, ite_false, and_self, and_true, true_and, and_false, false_and, or_self, or_true, true_or, or_false, false_or, reduceIte, hr]; rfl
    · simp (discharger := omega) only [r113, b113_0, b113_4, b113_7, b113_9, b113_18, b113_23, b113_24, s106, s108, zpu_s, zpu_n, Option.bind_some, zlit, zlt_t, zlt_f, zeq_t, zeq_f, nI_add, pk_mul, zb_0, zb_n0, not_true_eq_false, not_false_eq_true, Classical.not_not, if_true, if_false, ite_true, ite_false, and_self, and_true, true_and, and_false, false_and, or_self, or_true, true_or, or_false, false_or, reduceIte, hr]; rfl
    · exact hI
  · apply zCp_mk
    · simp (discharger := omega) only [r12, b12_0, b12_4, b12_7, b12_9, b12_18, b12_23, b12_24, s7, s8, zpu_s, zpu_n, Option.bind_some, zlit, zlt_t, zlt_f, zeq_t, zeq_f, nI_add, pk_mul, zb_0, zb_n0, not_true_eq_false, not_false_eq_true, Classical.not_not, if_true, if_false, ite_true, ite_false, and_self, and_true, true_and, and_false, false_and, or_self, or_true, true_or, or_false, false_or, reduceIte, zd8, b1, b2, zneg1]; rfl
    · simp (discharger := omega) only [r113, b113_0, b113_4, b113_7, b113_9, b113_18, b113_23, b113_24, s106, s108, zpu_s, zpu_n, Option.bind_some, zlit, zlt_t, zlt_f, zeq_t, zeq_f, nI_add, pk_mul, zb_0, zb_n0, not_true_eq_false, not_false_eq_true, Classical.not_not, if_true, if_false, ite_true, ite_false, and_self, and_true, true_and, and_false, false_and, or_self, or_true, true_or, or_false, false_or, reduceIte, zd33, b2, zneg1, zg_ne, zj_ne, zc_ne, zk_ne, zf_ne]; rfl
    · exact zInv_find hI (f := 1) (by omega)
  · apply zCp_mk
    · simp (discharger := omega) only [r12, b12_0, b12_4, b12_7, b12_9, b12_18, b12_23, b12_24, s7, s8, zpu_s, zpu_n, Option.bind_some, zlit, zlt_t, zlt_f, zeq_t, zeq_f, nI_add, pk_mul, zb_0, zb_n0, not_true_eq_false, not_false_eq_true, Classical.not_not, if_true, if_false, ite_true, ite_false, and_self, and_true, true_and, and_false, false_and, or_self, or_true, true_or, or_false, false_or, reduceIte, zd8, zs8, b1, b2]; rfl
    · simp (discharger := omega) only [r113, b113_0, b113_4, b113_7, b113_9, b113_18, b113_23, b113_24, s106, s108, zpu_s, zpu_n, Option.bind_some, zlit, zlt_t, zlt_f, zeq_t, zeq_f, nI_add, pk_mul, zb_0, zb_n0, not_true_eq_false, not_false_eq_true, Classical.not_not, if_true, if_false, ite_true, ite_false, and_self, and_true, true_and, and_false, false_and, or_self, or_true, true_or, or_false, false_or, reduceIte, zd33, zs33, b2, zg_ne, zj_ne, zc_ne, zk_ne, zf_ne]; rfl
    · refine ⟨(by simpa (discharger := omega) only [zI_ask, zg_ne, zj_ne, zc_ne, zk_ne, zf_ne, zg_J, zj_I, zc_J, zk_I, zf_J, zg_eq, zg_nj, zj_eq, zj_nj, zf_in, zf_out] using i1), (fun f hf => by simpa (discharger := omega) only [zg_ne, zj_ne, zc_ne, zk_ne, zf_ne, zg_J, zj_I, zc_J, zk_I, zf_J, zg_eq, zg_nj, zj_eq, zj_nj, zf_in, zf_out] using i2 f hf), ?_, (fun t ht => by simpa (discharger := omega) only [zg_ne, zj_ne, zc_ne, zk_ne, zf_ne, zg_J, zj_I, zc_J, zk_I, zf_J, zg_eq, zg_nj, zj_eq, zj_nj, zf_in, zf_out] using i4 t ht), ((zI_posts (h := h) (by intro c h1 h2 i; simp (discharger := omega) only [zg_ne, zj_ne, zc_ne, zk_ne, zf_ne, zg_J, zj_I, zc_J, zk_I, zf_J, zg_eq, zg_nj, zj_eq, zj_nj, zf_in, zf_out]) (by intro c h1 h2 i; simp (discharger := omega) only [zg_ne, zj_ne, zc_ne, zk_ne, zf_ne, zg_J, zj_I, zc_J, zk_I, zf_J, zg_eq, zg_nj, zj_eq, zj_nj, zf_in, zf_out]) (by intro i; simp (discharger := omega) only [zg_ne, zj_ne, zc_ne, zk_ne, zf_ne, zg_J, zj_I, zc_J, zk_I, zf_J, zg_eq, zg_nj, zj_eq, zj_nj, zf_in, zf_out]) (by intro i; simp (discharger := omega) only [zg_ne, zj_ne, zc_ne, zk_ne, zf_ne, zg_J, zj_I, zc_J, zk_I, zf_J, zg_eq, zg_nj, zj_eq, zj_nj, zf_in, zf_out]) (by simp (discharger := omega) only [zg_ne, zj_ne, zc_ne, zk_ne, zf_ne, zg_J, zj_I, zc_J, zk_I, zf_J, zg_eq, zg_nj, zj_eq, zj_nj, zf_in, zf_out])).1 i5), ((zI_posts (h := h) (by intro c h1 h2 i; simp (discharger := omega) only [zg_ne, zj_ne, zc_ne, zk_ne, zf_ne, zg_J, zj_I, zc_J, zk_I, zf_J, zg_eq, zg_nj, zj_eq, zj_nj, zf_in, zf_out]) (by intro c h1 h2 i; simp (discharger := omega) only [zg_ne, zj_ne, zc_ne, zk_ne, zf_ne, zg_J, zj_I, zc_J, zk_I, zf_J, zg_eq, zg_nj, zj_eq, zj_nj, zf_in, zf_out]) (by intro i; simp (discharger := omega) only [zg_ne, zj_ne, zc_ne, zk_ne, zf_ne, zg_J, zj_I, zc_J, zk_I, zf_J, zg_eq, zg_nj, zj_eq, zj_nj, zf_in, zf_out]) (by intro i; simp (discharger := omega) only [zg_ne, zj_ne, zc_ne, zk_ne, zf_ne, zg_J, zj_I, zc_J, zk_I, zf_J, zg_eq, zg_nj, zj_eq, zj_nj, zf_in, zf_out]) (by simp (discharger := omega) only [zg_ne, zj_ne, zc_ne, zk_ne, zf_ne, zg_J, zj_I, zc_J, zk_I, zf_J, zg_eq, zg_nj, zj_eq, zj_nj, zf_in, zf_out])).2 i6), (by simpa (discharger := omega) only [zI_sea, zg_ne, zj_ne, zc_ne, zk_ne, zf_ne, zg_J, zj_I, zc_J, zk_I, zf_J, zg_eq, zg_nj, zj_eq, zj_nj, zf_in, zf_out] using i7)⟩
      intro s hs
      obtain ⟨c1, c2, c3⟩ := i3 s hs
      by_cases e : s = j
      · subst e
        simp (discharger := omega) only [zg_ne, zj_ne, zc_ne, zk_ne, zf_ne, zg_J, zj_I, zc_J, zk_I, zf_J, zg_eq, zg_nj, zj_eq, zj_nj, zf_in, zf_out]
        exact ⟨trivial, Or.inl rfl, c3⟩
      · exact ⟨by simpa (discharger := omega) only [zg_ne, zj_ne, zc_ne, zk_ne, zf_ne, zg_J, zj_I, zc_J, zk_I, zf_J, zg_eq, zg_nj, zj_eq, zj_nj, zf_in, zf_out] using c1, by simpa (discharger := omega) only [zg_ne, zj_ne, zc_ne, zk_ne, zf_ne, zg_J, zj_I, zc_J, zk_I, zf_J, zg_eq, zg_nj, zj_eq, zj_nj, zf_in, zf_out] using c2, fun t ht => by simpa (discharger := omega) only [zg_ne, zj_ne, zc_ne, zk_ne, zf_ne, zg_J, zj_I, zc_J, zk_I, zf_J, zg_eq, zg_nj, zj_eq, zj_nj, zf_in, zf_out] using c3 t ht⟩
theorem zc_0 (h : ab_H) (a sp b dp : Nat) : ab_cI h a sp b dp 0 = h := by
  refine zh_ext (fun k i => ?_) (fun k i => zk_I _ _ _ _ _ _ _ _)
  by_cases e : k = b
  · subst e; rw [zc_same, if_neg (by omega)]
  · rw [zc_ne e]
theorem zc_s {a b : Nat} (hab : a ≠ b) (h : ab_H) (sp dp k : Nat) : ab_sI (ab_cI h a sp b dp k) b (dp + k) (ab_gI h a (sp + k)) = ab_cI h a sp b dp (k + 1) := by
  refine zh_ext (fun c i => ?_) (fun c i => by rw [zj_I, zk_I, zk_I])
  by_cases e : c = b
  · subst e
    rw [zg_same, zc_same, zc_same]
    by_cases e1 : i = dp + k
    · rw [if_pos e1, if_pos (by omega), e1, Nat.add_sub_cancel_left]
    · rw [if_neg e1]
      by_cases e2 : dp ≤ i ∧ i < dp + k
      · rw [if_pos e2, if_pos (by omega)]
      · rw [if_neg e2, if_neg (by omega)]
  · rw [zg_ne e, zc_ne e, zc_ne e]
/-! mean -/
def zsum (f : Nat → Int32) : Nat → Int64
  | 0 => 0
  | n + 1 => zsum f n + (f n).toInt64
theorem zsum_congr {f g : Nat → Int32} : ∀ {n : Nat}, (∀ k, k < n → f k = g k) → zsum f n = zsum g n
  | 0, _ => rfl
  | n + 1, e => by unfold zsum; rw [zsum_congr (fun k hk => e k (by omega)), e n (by omega)]
theorem s15l (X : ab_X) (d : Nat) {r n : Nat} (hr : r < 6) (hn : n ≤ 40) (h : ab_H) (v4 : Value) : ∀ (m k : Nat), k + m = n → ab_ex X d 15 41 [.ref 0, .int (nI r), .int (nI n), .long (zsum (fun k => ab_gI h (2 + r) k) k), .null, .int (nI k)] [] h = ab_ex X d 15 66 [.ref 0, .int (nI r), .int (nI n), .long (zsum (fun k => ab_gI h (2 + r) k) n), .null, .int (nI n)] [] h := by
  intro m
  induction m with
  | zero =>
    intro k hk
    have e : k = n := by omega
    subst e
    rw [l15_41, if_neg (nI_nlt (by omega) (by omega))]
  | succ m ih =>
    intro k hk
    rw [l15_41, if_pos (nI_lt (by omega) (by omega))]
    simp (discharger := omega) only [b15_47, zL_rows, zR_ld, zlit, zlt_t, zlt_f, zeq_t, zeq_f, nI_add, pk_mul, zb_0, zb_n0, not_true_eq_false, not_false_eq_true, Classical.not_not, if_true, if_false, ite_true, ite_false, and_self, and_true, true_and, and_false, false_and, or_self, or_true, true_or, or_false, false_or, reduceIte]
    exact ih (k + 1) (by omega)
theorem s116l (X : ab_X) (d : Nat) {r n : Nat} (hr : r < 6) (hn : n ≤ 40) (h : ab_H) (hs : ab_gI h 33 r = nI n) : ∀ (m k : Nat), k + m = n → ab_ex X d 116 44 [.ref 29, .int (nI r), .long (zsum (fun k => ab_gI h 32 (40 * r + k)) k), .null, .int (nI k)] [] h = ab_ex X d 116 77 [.ref 29, .int (nI r), .long (zsum (fun k => ab_gI h 32 (40 * r + k)) n), .null, .int (nI n)] [] h := by
  intro m
  induction m with
  | zero =>
    intro k hk
    have e : k = n := by omega
    subst e
    rw [l116_44, zd33 (by omega), hs, if_neg (nI_nlt (by omega) (by omega))]
  | succ m ih =>
    intro k hk
    rw [l116_44, zd33 (by omega), hs, if_pos (nI_lt (by omega) (by omega))]
    simp (discharger := omega) only [b116_55, zd32, zlit, zlt_t, zlt_f, zeq_t, zeq_f, nI_add, pk_mul, zb_0, zb_n0, not_true_eq_false, not_false_eq_true, Classical.not_not, if_true, if_false, ite_true, ite_false, and_self, and_true, true_and, and_false, false_and, or_self, or_true, true_or, or_false, false_or, reduceIte]
    exact ih (k + 1) (by omega)
theorem zdJ {n : Nat} (h0 : 0 < n) (hn : n < 2147483648) (k : Option ab_R) : ab_dJ (nI n).toInt64 k = k := by
  unfold ab_dJ
  rw [if_neg]
  intro e
  have := congrArg Int64.toInt e
  rw [Int32.toInt_toInt64, nI_toInt (by omega)] at this
  have h2 : (0 : Int64).toInt = 0 := by decide
  omega
theorem cp_mean (X : ab_X) (d : Nat) (r : Int32) {h : ab_H} (hI : zInv h) : zCp X (d + 30) 15 116 [.int r] h := by
  obtain ⟨i1, i2, i3, i4, i5, i6, i7⟩ := id hI
  rcases zrow_cases i3 r with hr | ⟨j, hj, rfl, b1, b3, b2 | ⟨n, hn, b2⟩⟩
  · apply zCp_mk
    · simp (discharger := omega) only [r15, b15_0, b15_4, b15_7, b15_9, b15_20, b15_25, b15_26, b15_30, b15_35, b15_36, b15_47, b15_66, s7, s8, zpu_s, zpu_n, Option.bind_some, zlit, zlt_t, zlt_f, zeq_t, zeq_f, nI_add, pk_mul, zb_0, zb_n0, not_true_eq_false, not_false_eq_true, Classical.not_not, if_true, if_false, ite_true, ite_false, and_self, and_true, true_and, and_false, false_and, or_self, or_true, true_or, or_false, false_or, reduceIte, hr]; rfl
    · simp (discharger := omega) only [r116, b116_0, b116_4, b116_7, b116_9, b116_18, b116_23, b116_24, b116_33, b116_38, b116_39, b116_55, b116_77, b116_92, s106, s108, zpu_s, zpu_n, Option.bind_some, zlit, zlt_t, zlt_f, zeq_t, zeq_f, nI_add, pk_mul, zb_0, zb_n0, not_true_eq_false, not_false_eq_true, Classical.not_not, if_true, if_false, ite_true, ite_false, and_self, and_true, true_and, and_false, false_and, or_self, or_true, true_or, or_false, false_or, reduceIte, hr]; rfl
    · exact hI
  · apply zCp_mk
    · simp (discharger := omega) only [r15, b15_0, b15_4, b15_7, b15_9, b15_20, b15_25, b15_26, b15_30, b15_35, b15_36, b15_47, b15_66, s7, s8, zpu_s, zpu_n, Option.bind_some, zlit, zlt_t, zlt_f, zeq_t, zeq_f, nI_add, pk_mul, zb_0, zb_n0, not_true_eq_false, not_false_eq_true, Classical.not_not, if_true, if_false, ite_true, ite_false, and_self, and_true, true_and, and_false, false_and, or_self, or_true, true_or, or_false, false_or, reduceIte, zd8, b1, b2, zneg1]; rfl
    · simp (discharger := omega) only [r116, b116_0, b116_4, b116_7, b116_9, b116_18, b116_23, b116_24, b116_33, b116_38, b116_39, b116_55, b116_77, b116_92, s106, s108, zpu_s, zpu_n, Option.bind_some, zlit, zlt_t, zlt_f, zeq_t, zeq_f, nI_add, pk_mul, zb_0, zb_n0, not_true_eq_false, not_false_eq_true, Classical.not_not, if_true, if_false, ite_true, ite_false, and_self, and_true, true_and, and_false, false_and, or_self, or_true, true_or, or_false, false_or, reduceIte, zd33, b2, zneg1, zg_ne, zj_ne, zc_ne, zk_ne, zf_ne]; rfl
    · exact zInv_find hI (f := 1) (by omega)
  · by_cases h0 : n = 0
    · subst h0
      apply zCp_mk
      · simp (discharger := omega) only [r15, b15_0, b15_4, b15_7, b15_9, b15_20, b15_25, b15_26, b15_30, b15_35, b15_36, b15_47, b15_66, s7, s8, zpu_s, zpu_n, Option.bind_some, zlit, zlt_t, zlt_f, zeq_t, zeq_f, nI_add, pk_mul, zb_0, zb_n0, not_true_eq_false, not_false_eq_true, Classical.not_not, if_true, if_false, ite_true, ite_false, and_self, and_true, true_and, and_false, false_and, or_self, or_true, true_or, or_false, false_or, reduceIte, zd8, b1, b2]; rfl
      · simp (discharger := omega) only [r116, b116_0, b116_4, b116_7, b116_9, b116_18, b116_23, b116_24, b116_33, b116_38, b116_39, b116_55, b116_77, b116_92, s106, s108, zpu_s, zpu_n, Option.bind_some, zlit, zlt_t, zlt_f, zeq_t, zeq_f, nI_add, pk_mul, zb_0, zb_n0, not_true_eq_false, not_false_eq_true, Classical.not_not, if_true, if_false, ite_true, ite_false, and_self, and_true, true_and, and_false, false_and, or_self, or_true, true_or, or_false, false_or, reduceIte, zd33, b2, zg_ne, zj_ne, zc_ne, zk_ne, zf_ne]; rfl
      · exact zInv_find hI (f := 4) (by omega)
    · have e1 := s15l X (d + 30) hj hn h .null n 0 (by omega)
      have e2 : ∀ x : Int32, _ := fun x => s116l X (d + 30) hj hn (ab_sI h 0 11 x) (by rw [zg_ne (by omega)]; exact b2) n 0 (by omega)
      simp only [zsum] at e1 e2
      apply zCp_mk
      · simp (discharger := omega) only [b15_0, b15_4, b15_9, b15_26, b15_36, r15, s7, zpu_s, zpu_n, Option.bind_some, zlit, zlt_t, zlt_f, zeq_t, zeq_f, nI_add, pk_mul, zb_0, zb_n0, not_true_eq_false, not_false_eq_true, Classical.not_not, if_true, if_false, ite_true, ite_false, and_self, and_true, true_and, and_false, false_and, or_self, or_true, true_or, or_false, false_or, reduceIte, zd8, b1, b2]
        rw [show ((0 : Int64)) = 0 from rfl] at e1
        rw [e1]
        simp (discharger := omega) only [b15_66, zdJ, zlit]; rfl
      · simp (discharger := omega) only [b116_0, b116_4, b116_9, b116_24, b116_39, r116, s106, zpu_s, zpu_n, Option.bind_some, zlit, zlt_t, zlt_f, zeq_t, zeq_f, nI_add, pk_mul, zb_0, zb_n0, not_true_eq_false, not_false_eq_true, Classical.not_not, if_true, if_false, ite_true, ite_false, and_self, and_true, true_and, and_false, false_and, or_self, or_true, true_or, or_false, false_or, reduceIte, zd33, b2, zg_ne, zj_ne, zc_ne, zk_ne, zf_ne]
        rw [e2]
        simp (discharger := omega) only [b116_77, b116_92, r112, b112_0, zdJ, zlit, zd33, zg_ne, zj_ne, zc_ne, zk_ne, zf_ne, b2, zpu_s, zpu_n, Option.bind_some]
        rw [zsum_congr (fun k hk => (b3 k (by omega)).symm)]
      · refine ⟨?_, (fun f hf => by simpa (discharger := omega) only [zg_ne, zj_ne, zc_ne, zk_ne, zf_ne, zg_J, zj_I, zc_J, zk_I, zf_J, zg_eq, zg_nj, zj_eq, zj_nj, zf_in, zf_out] using i2 f hf), (fun r hr => by simpa (discharger := omega) only [zg_ne, zj_ne, zc_ne, zk_ne, zf_ne, zg_J, zj_I, zc_J, zk_I, zf_J, zg_eq, zg_nj, zj_eq, zj_nj, zf_in, zf_out] using i3 r hr), (fun t ht => by simpa (discharger := omega) only [zg_ne, zj_ne, zc_ne, zk_ne, zf_ne, zg_J, zj_I, zc_J, zk_I, zf_J, zg_eq, zg_nj, zj_eq, zj_nj, zf_in, zf_out] using i4 t ht), ((zI_posts (h := h) (by intro c h1 h2 i; simp (discharger := omega) only [zg_ne, zj_ne, zc_ne, zk_ne, zf_ne, zg_J, zj_I, zc_J, zk_I, zf_J, zg_eq, zg_nj, zj_eq, zj_nj, zf_in, zf_out]) (by intro c h1 h2 i; simp (discharger := omega) only [zg_ne, zj_ne, zc_ne, zk_ne, zf_ne, zg_J, zj_I, zc_J, zk_I, zf_J, zg_eq, zg_nj, zj_eq, zj_nj, zf_in, zf_out]) (by intro i; simp (discharger := omega) only [zg_ne, zj_ne, zc_ne, zk_ne, zf_ne, zg_J, zj_I, zc_J, zk_I, zf_J, zg_eq, zg_nj, zj_eq, zj_nj, zf_in, zf_out]) (by intro i; simp (discharger := omega) only [zg_ne, zj_ne, zc_ne, zk_ne, zf_ne, zg_J, zj_I, zc_J, zk_I, zf_J, zg_eq, zg_nj, zj_eq, zj_nj, zf_in, zf_out]) (by simp (discharger := omega) only [zg_ne, zj_ne, zc_ne, zk_ne, zf_ne, zg_J, zj_I, zc_J, zk_I, zf_J, zg_eq, zg_nj, zj_eq, zj_nj, zf_in, zf_out])).1 i5), ((zI_posts (h := h) (by intro c h1 h2 i; simp (discharger := omega) only [zg_ne, zj_ne, zc_ne, zk_ne, zf_ne, zg_J, zj_I, zc_J, zk_I, zf_J, zg_eq, zg_nj, zj_eq, zj_nj, zf_in, zf_out]) (by intro c h1 h2 i; simp (discharger := omega) only [zg_ne, zj_ne, zc_ne, zk_ne, zf_ne, zg_J, zj_I, zc_J, zk_I, zf_J, zg_eq, zg_nj, zj_eq, zj_nj, zf_in, zf_out]) (by intro i; simp (discharger := omega) only [zg_ne, zj_ne, zc_ne, zk_ne, zf_ne, zg_J, zj_I, zc_J, zk_I, zf_J, zg_eq, zg_nj, zj_eq, zj_nj, zf_in, zf_out]) (by intro i; simp (discharger := omega) only [zg_ne, zj_ne, zc_ne, zk_ne, zf_ne, zg_J, zj_I, zc_J, zk_I, zf_J, zg_eq, zg_nj, zj_eq, zj_nj, zf_in, zf_out]) (by simp (discharger := omega) only [zg_ne, zj_ne, zc_ne, zk_ne, zf_ne, zg_J, zj_I, zc_J, zk_I, zf_J, zg_eq, zg_nj, zj_eq, zj_nj, zf_in, zf_out])).2 i6), (by simpa (discharger := omega) only [zI_sea, zg_ne, zj_ne, zc_ne, zk_ne, zf_ne, zg_J, zj_I, zc_J, zk_I, zf_J, zg_eq, zg_nj, zj_eq, zj_nj, zf_in, zf_out] using i7)⟩
        obtain ⟨a1, a2, a3, a4⟩ := i1
        simp (discharger := omega) only [zI_ask, zg_ne, zj_ne, zc_ne, zk_ne, zf_ne, zg_J, zj_I, zc_J, zk_I, zf_J, zg_eq, zg_nj, zj_eq, zj_nj, zf_in, zf_out]
        exact ⟨trivial, a2, a3, a4⟩
