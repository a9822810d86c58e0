set_option maxHeartbeats 2000000 in
theorem cp_mark (X : ab_X) (d : Nat) (x w : Int32) {h : ab_H} (hI : zInv h) : zCp X (d + 30) 34 136 [.int x, .int w] h := by
  obtain ⟨N, dc, hN, hdc, n0, n1, n2, n3, n4, n5, k1, k2, k3, k4, k5, t1, t2, t3, t4⟩ := znow hI
  by_cases hx : ¬ x < nI 0 ∧ x < nI N
  · rcases zix x (n := N) (by omega) with q | q | ⟨i, hi, rfl⟩
    · exact absurd q hx.1
    · exact absurd hx.2 q.2
    rcases zix w (n := 6) (by omega) with q | q | ⟨k, hk, rfl⟩
    · have q1 : w < nI 1 := by
        rw [Int32.lt_iff_toInt_lt, nI_toInt (by omega)] at q ⊢
        omega
      have q2 : ¬ nI 0 < w := fun z => by
        rw [Int32.lt_iff_toInt_lt, nI_toInt (by omega)] at q z
        omega
      apply zCp_mk
      · simp (discharger := omega) only [r34, b34_0, b34_5, b34_8, b34_12, b34_18, b34_20, b34_33, b34_36, b34_41, b34_42, b34_50, b34_59, b34_92, b34_100, b34_101, b34_110, b34_111, b34_120, b34_121, b34_134, b34_145, s29, zpu_s, zpu_n, Option.bind_some, zlit, Bool.false_eq_true, zlt_t, zlt_f, zeq_t, zeq_f, nI_add, pk_mul, zb_0, zb_n0, not_true_eq_false, not_false_eq_true, Classical.not_not, if_true, if_false, ite_true, ite_false, and_self, and_true, true_and, and_false, false_and, or_self, or_true, true_or, or_false, false_or, reduceIte, n2, q2]; rfl
      · simp (discharger := omega) only [b136_0, b136_5, b136_8, b136_17, b136_20, r136, zpu_s, zpu_n, Option.bind_some, zlit, Bool.false_eq_true, zlt_t, zlt_f, zeq_t, zeq_f, nI_add, pk_mul, zb_0, zb_n0, not_true_eq_false, not_false_eq_true, Classical.not_not, if_true, if_false, ite_true, ite_false, and_self, and_true, true_and, and_false, false_and, or_self, or_true, true_or, or_false, false_or, reduceIte, zJ1, zJ5, s107i, s131 X _ hN _ n5, q1]; rfl
      · exact hI
    · have q2 := q.2
      have q1 : nI 0 < w := by
        rw [Int32.lt_iff_toInt_lt, nI_toInt (by omega)] at q2 ⊢
        omega
      have q3 : ¬ w < nI 1 := fun z => by
        rw [Int32.lt_iff_toInt_lt, nI_toInt (by omega)] at q2 z
        omega
      apply zCp_mk
      · simp (discharger := omega) only [r34, b34_0, b34_5, b34_8, b34_12, b34_18, b34_20, b34_33, b34_36, b34_41, b34_42, b34_50, b34_59, b34_92, b34_100, b34_101, b34_110, b34_111, b34_120, b34_121, b34_134, b34_145, s29, zpu_s, zpu_n, Option.bind_some, zlit, Bool.false_eq_true, zlt_t, zlt_f, zeq_t, zeq_f, nI_add, pk_mul, zb_0, zb_n0, not_true_eq_false, not_false_eq_true, Classical.not_not, if_true, if_false, ite_true, ite_false, and_self, and_true, true_and, and_false, false_and, or_self, or_true, true_or, or_false, false_or, reduceIte, n2, q1, q2]; rfl
      · simp (discharger := omega) only [b136_0, b136_5, b136_8, b136_17, b136_20, r136, zpu_s, zpu_n, Option.bind_some, zlit, Bool.false_eq_true, zlt_t, zlt_f, zeq_t, zeq_f, nI_add, pk_mul, zb_0, zb_n0, not_true_eq_false, not_false_eq_true, Classical.not_not, if_true, if_false, ite_true, ite_false, and_self, and_true, true_and, and_false, false_and, or_self, or_true, true_or, or_false, false_or, reduceIte, zJ1, zJ5, s107i, s131 X _ hN _ n5, q3, znlt (n := 5) (by omega) w, Nat.reduceAdd, q2]; rfl
      · exact hI
    by_cases hk0 : k = 0
    · subst hk0
      apply zCp_mk
      · simp (discharger := omega) only [r34, b34_0, b34_5, b34_8, b34_12, b34_18, b34_20, b34_33, b34_36, b34_41, b34_42, b34_50, b34_59, b34_92, b34_100, b34_101, b34_110, b34_111, b34_120, b34_121, b34_134, b34_145, s29, zpu_s, zpu_n, Option.bind_some, zlit, Bool.false_eq_true, zlt_t, zlt_f, zeq_t, zeq_f, nI_add, pk_mul, zb_0, zb_n0, not_true_eq_false, not_false_eq_true, Classical.not_not, if_true, if_false, ite_true, ite_false, and_self, and_true, true_and, and_false, false_and, or_self, or_true, true_or, or_false, false_or, reduceIte, n2]; rfl
      · simp (discharger := omega) only [b136_0, b136_5, b136_8, b136_17, b136_20, r136, zpu_s, zpu_n, Option.bind_some, zlit, Bool.false_eq_true, zlt_t, zlt_f, zeq_t, zeq_f, nI_add, pk_mul, zb_0, zb_n0, not_true_eq_false, not_false_eq_true, Classical.not_not, if_true, if_false, ite_true, ite_false, and_self, and_true, true_and, and_false, false_and, or_self, or_true, true_or, or_false, false_or, reduceIte, zJ1, zJ5, s107i, s131 X _ hN _ n5]; rfl
      · exact hI
    obtain ⟨t, ht, et⟩ := t1 i hi
    have em := s32n X (d + 28) hN hi (k1 i hi) (k2 i hi) (k3 i hi) (t1 i hi)
    have eo := s31n X (d + 29) hN hi (k2 i hi) (k3 i hi)
    have em2 := s134n X (d + 28) hN hi (t1 i hi)
    obtain ⟨⟨ms, hms, ems⟩, ⟨os, hos, eos⟩⟩ := zEm_lt (t1 i hi) (t2 i hi) (t3 i hi)
    rw [ems] at em em2
    rw [eos] at eo
    have eo2 : ab_ru X (d + 29) 133 [.ref 29, .int (nI i)] h = some (some (.int (nI os)), h) := by rw [s133n X _ (by omega), eos]
    by_cases hK : zK (nI t) (nI k) = true
    · -- the kinds fit
      have c1 : ∀ v, ab_ex X (d + 30) 34 59 [.ref 0, .int (nI i), .int (nI k), .int (nI os), .null] [.int (nI ms)] h = some (some (.int v), h) → ab_ru X (d + 30) 34 [.ref 0, .int (nI i), .int (nI k)] h = some (some (.int v), h) := by
        intro v e
        simp (discharger := omega) only [r34, b34_0, b34_5, b34_8, b34_12, b34_20, b34_33, b34_42, b34_50, s29, s35, zpu_s, zpu_n, Option.bind_some, zlit, Bool.false_eq_true, zlt_t, zlt_f, zeq_t, zeq_f, nI_add, pk_mul, zb_0, zb_n0, not_true_eq_false, not_false_eq_true, Classical.not_not, if_true, if_false, ite_true, ite_false, and_self, and_true, true_and, and_false, false_and, or_self, or_true, true_or, or_false, false_or, reduceIte, n2, zd42, k1, et, hK, em, eo]
        exact e
      have c2 : ∀ v, ab_ex X (d + 30) 136 67 [.ref 29, .int (nI i), .int (nI k), .int (nI t), .null, .null] [.int (nI ms)] h = some (some (.int v), h) → ab_ru X (d + 30) 136 [.ref 29, .int (nI i), .int (nI k)] h = some (some (.int v), h) := by
        intro v e
        have e9 : t = 0 ∨ t = 1 ∨ t = 2 ∨ t = 3 ∨ t = 4 ∨ t = 5 := by omega
        have e8 : k = 1 ∨ k = 2 ∨ k = 3 ∨ k = 4 ∨ k = 5 := by omega
        rcases e9 with rfl | rfl | rfl | rfl | rfl | rfl <;> rcases e8 with rfl | rfl | rfl | rfl | rfl <;> first
          | (exfalso; revert hK; decide)
          | (simp (discharger := omega) only [r136, b136_0, b136_5, b136_8, b136_17, b136_22, b136_36, b136_41, b136_46, b136_51, b136_62, s107i, zJ1, zJ5, s131 X _ hN _ n5, zpu_s, zpu_n, Option.bind_some, zlit, Bool.false_eq_true, zlt_t, zlt_f, zeq_t, zeq_f, nI_add, pk_mul, zb_0, zb_n0, not_true_eq_false, not_false_eq_true, Classical.not_not, if_true, if_false, ite_true, ite_false, and_self, and_true, true_and, and_false, false_and, or_self, or_true, true_or, or_false, false_or, reduceIte, zd30, et, em2]; exact e)
      have e8 : k = 1 ∨ k = 2 ∨ k = 3 ∨ k = 4 ∨ k = 5 := by omega
      rcases e8 with rfl | rfl | rfl | rfl | rfl
      · refine zCp_mk (c1 (ab_gI h 45 i + (if 0 < i then ab_gI h 45 (i - 1) else nI 0) + (if i + 1 < N then ab_gI h 45 (i + 1) else nI 0)) ?_) (c2 _ ?_) hI
        · simp (discharger := omega) only [b34_59, ts34_1, ts34_2, ts34_3, ts34_4, ts34_0, ts34_5, b34_92, b34_100, s36 X _ hN hi n2, zpu_s, zpu_n, Option.bind_some]
        · simp (discharger := omega) only [b136_67, ts136_1, ts136_2, ts136_3, ts136_4, ts136_0, ts136_5, b136_100, zlit]
          by_cases h1 : 0 < i
          · simp (discharger := omega) only [pk_sub, s137 X _ hN n5, zpu_s, zpu_n, Option.bind_some, b136_107, b136_112, b136_120, zlit, Bool.false_eq_true, zlt_t, zlt_f, zeq_t, zeq_f, nI_add, pk_mul, zb_0, zb_n0, not_true_eq_false, not_false_eq_true, Classical.not_not, if_true, if_false, ite_true, ite_false, and_self, and_true, true_and, and_false, false_and, or_self, or_true, true_or, or_false, false_or, reduceIte]
            rw [if_pos (show i - 1 < N by omega), if_pos hi, if_pos h1, k4 i hi, k4 (i - 1) (by omega), Int32.add_comm (ab_gI h 30 (20 + (i - 1)))]
            by_cases h2 : i + 1 < N
            · rw [if_pos h2, if_pos h2, k4 (i + 1) h2]
            · rw [if_neg h2, if_neg h2]
          · have h0 : i = 0 := by omega
            subst h0
            simp (discharger := omega) only [s137n X _ hN n5, s137 X _ hN n5, zpu_s, zpu_n, Option.bind_some, b136_107, b136_112, b136_120, zlit, Bool.false_eq_true, zlt_t, zlt_f, zeq_t, zeq_f, nI_add, pk_mul, zb_0, zb_n0, not_true_eq_false, not_false_eq_true, Classical.not_not, if_true, if_false, ite_true, ite_false, and_self, and_true, true_and, and_false, false_and, or_self, or_true, true_or, or_false, false_or, reduceIte]
            rw [if_pos hi, k4 0 hi, show nI 0 + ab_gI h 30 (20 + 0) = ab_gI h 30 (20 + 0) + nI 0 from Int32.add_comm _ _]
            by_cases h2 : 0 + 1 < N
            · simp only [if_neg h1, if_pos h2, k4 (0 + 1) h2]
            · simp only [if_neg h1, if_neg h2]
      · obtain ⟨z, hz, ez⟩ := zI_and ms hms (nI os ^^^ (-nI 1))
        refine zCp_mk (c1 (zones (nI z)) ?_) (c2 _ ?_) hI
        · simp (discharger := omega) only [b34_59, ts34_1, ts34_2, ts34_3, ts34_4, ts34_0, ts34_5, b34_101, b34_110, zlit, ez, s37, zbc_ones, zpu_s, zpu_n, Option.bind_some]
        · simp (discharger := omega) only [b136_67, ts136_1, ts136_2, ts136_3, ts136_4, ts136_0, ts136_5, b136_122, b136_129, b136_135, zlit, eo2, ez, s138, zpu_s, zpu_n, Option.bind_some]
      · obtain ⟨z, hz, ez⟩ := zI_and os hos (nI ms ^^^ (-nI 1))
        refine zCp_mk (c1 (zones (nI z)) ?_) (c2 _ ?_) hI
        · simp (discharger := omega) only [b34_59, ts34_1, ts34_2, ts34_3, ts34_4, ts34_0, ts34_5, b34_111, b34_120, zlit, ez, s37, zbc_ones, zpu_s, zpu_n, Option.bind_some]
        · simp (discharger := omega) only [b136_67, ts136_1, ts136_2, ts136_3, ts136_4, ts136_0, ts136_5, b136_136, b136_141, b136_149, zlit, eo2, ez, s138, zpu_s, zpu_n, Option.bind_some]
      · refine zCp_mk (c1 (nI 99 - ab_gI h 30 (20 + i)) ?_) (c2 _ ?_) hI
        · simp (discharger := omega) only [b34_59, ts34_1, ts34_2, ts34_3, ts34_4, ts34_0, ts34_5, b34_121, zlit, zd45, k4]
        · simp (discharger := omega) only [b136_67, ts136_1, ts136_2, ts136_3, ts136_4, ts136_0, ts136_5, b136_150, zlit, zd30, nI_add]
      · refine zCp_mk (c1 (zfh (nI ms) 12 0) ?_) (c2 _ ?_) hI
        · simp (discharger := omega) only [b34_59, ts34_1, ts34_2, ts34_3, ts34_4, ts34_0, ts34_5, b34_134, b34_145, zlit, s38, zfh_c, zpu_s, zpu_n, Option.bind_some]
        · simp (discharger := omega) only [b136_67, ts136_1, ts136_2, ts136_3, ts136_4, ts136_0, ts136_5, b136_163, zlit]
          exact s136l X (d + 29) _ h _ _ _ _ 12 0 (by omega)
    · have e9 : t = 0 ∨ t = 1 ∨ t = 2 ∨ t = 3 ∨ t = 4 ∨ t = 5 := by omega
      have e8 : k = 1 ∨ k = 2 ∨ k = 3 ∨ k = 4 ∨ k = 5 := by omega
      have n5' : ab_gI (ab_sI (ab_sI h 0 12 (nI 3)) 16 3 (ab_gI h 16 3 + nI 1)) 30 0 = nI N := by rw [zg_ne (by omega), zg_ne (by omega)]; exact n5
      have c1 : ab_ru X (d + 30) 34 [.ref 0, .int (nI i), .int (nI k)] h = some (some (.int (-nI 3)), ab_sI (ab_sI h 0 12 (nI 3)) 16 3 (ab_gI h 16 3 + nI 1)) := by
        simp (discharger := omega) only [r34, b34_0, b34_5, b34_8, b34_12, b34_18, b34_20, b34_33, b34_36, b34_41, b34_42, b34_50, b34_59, b34_92, b34_100, b34_101, b34_110, b34_111, b34_120, b34_121, b34_134, b34_145, s29, s35, s8, zpu_s, zpu_n, Option.bind_some, zlit, Bool.false_eq_true, zlt_t, zlt_f, zeq_t, zeq_f, nI_add, pk_mul, zb_0, zb_n0, not_true_eq_false, not_false_eq_true, Classical.not_not, if_true, if_false, ite_true, ite_false, and_self, and_true, true_and, and_false, false_and, or_self, or_true, true_or, or_false, false_or, reduceIte, n2, zd42, k1, et, hK]
      have c2 : ab_ru X (d + 30) 136 [.ref 29, .int (nI i), .int (nI k)] (ab_sI (ab_sI h 0 12 (nI 3)) 16 3 (ab_gI h 16 3 + nI 1)) = some (some (.int (-nI 3)), ab_sI (ab_sI (ab_sI (ab_sI h 0 12 (nI 3)) 16 3 (ab_gI h 16 3 + nI 1)) 29 8 (nI 3)) 37 3 (ab_gI h 37 3 + nI 1)) := by
        rcases e9 with rfl | rfl | rfl | rfl | rfl | rfl <;> rcases e8 with rfl | rfl | rfl | rfl | rfl <;> first
          | (exfalso; revert hK; decide)
          | simp (discharger := omega) only [r136, b136_0, b136_5, b136_8, b136_17, b136_22, b136_36, b136_41, b136_46, b136_51, b136_56, b136_61, s107i, zJ1, zJ5, s131 X _ hN _ n5', s108, zpu_s, zpu_n, Option.bind_some, zlit, Bool.false_eq_true, zlt_t, zlt_f, zeq_t, zeq_f, nI_add, pk_mul, zb_0, zb_n0, not_true_eq_false, not_false_eq_true, Classical.not_not, if_true, if_false, ite_true, ite_false, and_self, and_true, true_and, and_false, false_and, or_self, or_true, true_or, or_false, false_or, reduceIte, zd30, et, zg_ne, zj_ne, zc_ne, zk_ne, zf_ne]
      exact zCp_mk c1 c2 (zInv_find hI (f := 3) (by omega))
  · apply zCp_mk
    · simp (discharger := omega) only [r34, b34_0, b34_5, b34_8, b34_12, b34_18, b34_20, b34_33, b34_36, b34_41, b34_42, b34_50, b34_59, b34_92, b34_100, b34_101, b34_110, b34_111, b34_120, b34_121, b34_134, b34_145, s29, zpu_s, zpu_n, Option.bind_some, zlit, Bool.false_eq_true, zlt_t, zlt_f, zeq_t, zeq_f, nI_add, pk_mul, zb_0, zb_n0, not_true_eq_false, not_false_eq_true, Classical.not_not, if_true, if_false, ite_true, ite_false, and_self, and_true, true_and, and_false, false_and, or_self, or_true, true_or, or_false, false_or, reduceIte, n2, hx]; rfl
    · simp (discharger := omega) only [b136_0, b136_5, b136_20, r136, zpu_s, zpu_n, Option.bind_some, zlit, Bool.false_eq_true, zlt_t, zlt_f, zeq_t, zeq_f, nI_add, pk_mul, zb_0, zb_n0, not_true_eq_false, not_false_eq_true, Classical.not_not, if_true, if_false, ite_true, ite_false, and_self, and_true, true_and, and_false, false_and, or_self, or_true, true_or, or_false, false_or, reduceIte, s131 X _ hN _ n5, hx]; rfl
    · exact hI
