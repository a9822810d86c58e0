theorem zInv_fXM {h : ab_H} (hI : zInv h) {f : Nat} (hf : f < 6) : zInv (zfM (zfX h f) f) := by
  have := zInv_find hI hf
  simpa (discharger := omega) only [zfM, zfX, zg_ne, zj_ne, zc_ne, zk_ne, zf_ne] using this
theorem zn3 : (-nI 3 = nI 0) = False := eq_false (by decide)
theorem zn3l : (-nI 3 < nI 0) = True := eq_true (by decide)
theorem zn1 : (-nI 1 = nI 0) = False := eq_false (by decide)
set_option maxHeartbeats 1000000 in
theorem cp_kinds (X : ab_X) (d : Nat) (x r : Int32) {h : ab_H} (hI : zInv h) : zCp X (d + 30) 79 168 [.int x, .int r] h := by
  obtain ⟨N, dc, hN, hdc, n0, n1, n2, n3, n4, n5, k1, k2, k3, k4, k5, t1, t2, t3, t4⟩ := znow hI
  by_cases hx : ¬ x < nI 0 ∧ x < nI N
  · rcases zix x (n := N) (by omega) with q | q | ⟨i, hi, rfl⟩
    · exact absurd q hx.1
    · exact absurd hx.2 q.2
    rcases zsights X (d + 9) r hI with ⟨hr, e⟩ | ⟨j, hj, rfl, ⟨f, hf, e1, e2⟩ | ⟨m, hm, c1, c2, c3, c4, e1, e2⟩⟩
    · apply zCp_mk
      · simp (discharger := omega) only [r79, b79_0, b79_5, b79_8, b79_10, b79_15, b79_20, b79_22, b79_35, b79_47, b79_59, b79_62, b79_65, b79_74, b79_80, s29, zpu_s, zpu_n, Option.bind_some, zlit, Bool.false_eq_true, zlt_t, zlt_f, zeq_t, zeq_f, nI_add, pk_mul, zb_0, zb_n0, not_true_eq_false, not_false_eq_true, Classical.not_not, if_true, if_false, ite_true, ite_false, and_self, and_true, true_and, and_false, false_and, or_self, or_true, true_or, or_false, false_or, reduceIte, n2, e, zn1]; rfl
      · simp (discharger := omega) only [r168, b168_0, b168_5, b168_8, b168_12, b168_15, b168_17, b168_22, b168_27, b168_29, b168_42, b168_53, b168_65, b168_68, b168_71, b168_78, b168_79, b168_88, s131 X _ hN _ n5, s106, zpu_s, zpu_n, Option.bind_some, zlit, Bool.false_eq_true, zlt_t, zlt_f, zeq_t, zeq_f, nI_add, pk_mul, zb_0, zb_n0, not_true_eq_false, not_false_eq_true, Classical.not_not, if_true, if_false, ite_true, ite_false, and_self, and_true, true_and, and_false, false_and, or_self, or_true, true_or, or_false, false_or, reduceIte, hr]; rfl
      · exact hI
    · have n5' : ab_gI (zfX h f) 30 0 = nI N := by rw [zg_ne (by omega), zg_ne (by omega)]; exact n5
      apply zCp_mk
      · simp (discharger := omega) only [r79, b79_0, b79_5, b79_8, b79_10, b79_15, b79_20, b79_22, b79_35, b79_47, b79_59, b79_62, b79_65, b79_74, b79_80, s29, zpu_s, zpu_n, Option.bind_some, zlit, Bool.false_eq_true, zlt_t, zlt_f, zeq_t, zeq_f, nI_add, pk_mul, zb_0, zb_n0, not_true_eq_false, not_false_eq_true, Classical.not_not, if_true, if_false, ite_true, ite_false, and_self, and_true, true_and, and_false, false_and, or_self, or_true, true_or, or_false, false_or, reduceIte, n2, e1, zn3]; rfl
      · simp (discharger := omega) only [r168, b168_0, b168_5, b168_8, b168_12, b168_15, b168_17, b168_22, b168_27, b168_29, b168_42, b168_53, b168_65, b168_68, b168_71, b168_78, b168_79, b168_88, s131 X _ hN _ n5', s106, zpu_s, zpu_n, Option.bind_some, zlit, Bool.false_eq_true, zlt_t, zlt_f, zeq_t, zeq_f, nI_add, pk_mul, zb_0, zb_n0, not_true_eq_false, not_false_eq_true, Classical.not_not, if_true, if_false, ite_true, ite_false, and_self, and_true, true_and, and_false, false_and, or_self, or_true, true_or, or_false, false_or, reduceIte, e2, zn3l]; rfl
      · exact zInv_fXM hI hf
    · have key1 := zloop (fun s k => ab_ex X (d + 30) 79 28 [.ref 0, .int (nI i), .int (nI j), .int (nI 0), .int s, .int (nI k)] [] h) (fun k s => zsb (zag (fun q => ab_gI h 32 (40 * j + q)) (zE (nI k) (zOu h i) (ab_gI h 30 (14 + i))) m 0 = true) k s) 6 (fun k s hk => by
        have ea : ab_ru X (d + 29) 81 [.ref 0, .int (nI j), .int (zE (nI k) (zOu h i) (ab_gI h 30 (14 + i)))] h = some (some (.int (zb (zag (fun q => ab_gI h 32 (40 * j + q)) (zE (nI k) (zOu h i) (ab_gI h 30 (14 + i))) m 0 = true))), h) := by
          rw [s81 X (d + 28) hj hm _ c1, zag_congr m 0 (fun q _ hq => c3 q (by omega))]
        rw [l79_28]
        simp (discharger := omega) only [b79_35, b79_47, b79_59, b79_62, s31n X _ hN hi (k2 i hi) (k3 i hi), s33, zd47, k3, ea, zpu_s, zpu_n, Option.bind_some, zlit, Bool.false_eq_true, zlt_t, zlt_f, zeq_t, zeq_f, nI_add, pk_mul, zb_0, zb_n0, not_true_eq_false, not_false_eq_true, Classical.not_not, if_true, if_false, ite_true, ite_false, and_self, and_true, true_and, and_false, false_and, or_self, or_true, true_or, or_false, false_or, reduceIte]
        by_cases hb : zag (fun q => ab_gI h 32 (40 * j + q)) (zE (nI k) (zOu h i) (ab_gI h 30 (14 + i))) m 0 = true
        · rw [zsb_t hb]
          simp (discharger := omega) only [hb, b79_65, b79_74, zlit, Bool.false_eq_true, zlt_t, zlt_f, zeq_t, zeq_f, nI_add, pk_mul, zb_0, zb_n0, not_true_eq_false, not_false_eq_true, Classical.not_not, if_true, if_false, ite_true, ite_false, and_self, and_true, true_and, and_false, false_and, or_self, or_true, true_or, or_false, false_or, reduceIte]
        · rw [zsb_f hb]
          simp (discharger := omega) only [hb, b79_65, b79_74, zlit, Bool.false_eq_true, zlt_t, zlt_f, zeq_t, zeq_f, nI_add, pk_mul, zb_0, zb_n0, not_true_eq_false, not_false_eq_true, Classical.not_not, if_true, if_false, ite_true, ite_false, and_self, and_true, true_and, and_false, false_and, or_self, or_true, true_or, or_false, false_or, reduceIte]) (nI 0)
      have key2 := zloop (fun s k => ab_ex X (d + 30) 168 35 [.ref 29, .int (nI i), .int (nI j), .int (nI 0), .int s, .int (nI k)] [] h) (fun k s => zsb (zag (fun q => ab_gI h 32 (40 * j + q)) (zE (nI k) (zOu h i) (ab_gI h 30 (14 + i))) m 0 = true) k s) 6 (fun k s hk => by
        have ea := fun e => s170 X (d + 29) hj hm e c2 c4
        rw [l168_35]
        simp (discharger := omega) only [b168_42, b168_53, b168_65, b168_68, s133n, s135, zd30, ea, zpu_s, zpu_n, Option.bind_some, zlit, Bool.false_eq_true, zlt_t, zlt_f, zeq_t, zeq_f, nI_add, pk_mul, zb_0, zb_n0, not_true_eq_false, not_false_eq_true, Classical.not_not, if_true, if_false, ite_true, ite_false, and_self, and_true, true_and, and_false, false_and, or_self, or_true, true_or, or_false, false_or, reduceIte]
        by_cases hb : zag (fun q => ab_gI h 32 (40 * j + q)) (zE (nI k) (zOu h i) (ab_gI h 30 (14 + i))) m 0 = true
        · rw [zsb_t hb]
          simp (discharger := omega) only [hb, b168_71, b168_78, b168_79, zlit, Bool.false_eq_true, zlt_t, zlt_f, zeq_t, zeq_f, nI_add, pk_mul, zb_0, zb_n0, not_true_eq_false, not_false_eq_true, Classical.not_not, if_true, if_false, ite_true, ite_false, and_self, and_true, true_and, and_false, false_and, or_self, or_true, true_or, or_false, false_or, reduceIte]
        · rw [zsb_f hb]
          simp (discharger := omega) only [hb, b168_71, b168_78, b168_79, zlit, Bool.false_eq_true, zlt_t, zlt_f, zeq_t, zeq_f, nI_add, pk_mul, zb_0, zb_n0, not_true_eq_false, not_false_eq_true, Classical.not_not, if_true, if_false, ite_true, ite_false, and_self, and_true, true_and, and_false, false_and, or_self, or_true, true_or, or_false, false_or, reduceIte, zor0]) (nI 0)
      apply zCp_mk
      · simp (discharger := omega) only [r79, b79_0, b79_5, b79_10, b79_15, b79_22, s29, zpu_s, zpu_n, Option.bind_some, zlit, Bool.false_eq_true, zlt_t, zlt_f, zeq_t, zeq_f, nI_add, pk_mul, zb_0, zb_n0, not_true_eq_false, not_false_eq_true, Classical.not_not, if_true, if_false, ite_true, ite_false, and_self, and_true, true_and, and_false, false_and, or_self, or_true, true_or, or_false, false_or, reduceIte, n2, e1]
        rw [key1, l79_28]
        simp (discharger := omega) only [b79_80, zlit, Bool.false_eq_true, zlt_t, zlt_f, zeq_t, zeq_f, nI_add, pk_mul, zb_0, zb_n0, not_true_eq_false, not_false_eq_true, Classical.not_not, if_true, if_false, ite_true, ite_false, and_self, and_true, true_and, and_false, false_and, or_self, or_true, true_or, or_false, false_or, reduceIte]; rfl
      · simp (discharger := omega) only [r168, r168, b168_0, b168_5, b168_8, b168_12, b168_15, b168_17, b168_22, b168_27, b168_29, b168_42, b168_53, b168_65, b168_68, b168_71, b168_78, b168_79, b168_88, s131 X _ hN _ n5, s106, zpu_s, zpu_n, Option.bind_some, zlit, Bool.false_eq_true, zlt_t, zlt_f, zeq_t, zeq_f, nI_add, pk_mul, zb_0, zb_n0, not_true_eq_false, not_false_eq_true, Classical.not_not, if_true, if_false, ite_true, ite_false, and_self, and_true, true_and, and_false, false_and, or_self, or_true, true_or, or_false, false_or, reduceIte, e2]
        rw [key2, l168_35]
        simp (discharger := omega) only [b168_88, zlit, Bool.false_eq_true, zlt_t, zlt_f, zeq_t, zeq_f, nI_add, pk_mul, zb_0, zb_n0, not_true_eq_false, not_false_eq_true, Classical.not_not, if_true, if_false, ite_true, ite_false, and_self, and_true, true_and, and_false, false_and, or_self, or_true, true_or, or_false, false_or, reduceIte]; rfl
      · exact hI
  · apply zCp_mk
    · simp (discharger := omega) only [r79, b79_0, b79_5, b79_8, b79_10, b79_15, b79_20, b79_22, b79_35, b79_47, b79_59, b79_62, b79_65, b79_74, b79_80, s29, zpu_s, zpu_n, Option.bind_some, zlit, Bool.false_eq_true, zlt_t, zlt_f, zeq_t, zeq_f, nI_add, pk_mul, zb_0, zb_n0, not_true_eq_false, not_false_eq_true, Classical.not_not, if_true, if_false, ite_true, ite_false, and_self, and_true, true_and, and_false, false_and, or_self, or_true, true_or, or_false, false_or, reduceIte, n2, hx]; rfl
    · simp (discharger := omega) only [r168, b168_0, b168_5, b168_8, b168_12, b168_15, b168_17, b168_22, b168_27, b168_29, b168_42, b168_53, b168_65, b168_68, b168_71, b168_78, b168_79, b168_88, s131 X _ hN _ n5, zpu_s, zpu_n, Option.bind_some, zlit, Bool.false_eq_true, zlt_t, zlt_f, zeq_t, zeq_f, nI_add, pk_mul, zb_0, zb_n0, not_true_eq_false, not_false_eq_true, Classical.not_not, if_true, if_false, ite_true, ite_false, and_self, and_true, true_and, and_false, false_and, or_self, or_true, true_or, or_false, false_or, reduceIte, hx]; rfl
    · exact hI
theorem s26 (X : ab_X) (d : Nat) (a n : Int32) (h : ab_H) : ab_ru X d 26 [.int a, .int n] h = ab_ex X d 26 0 [.int a, .int n] [] h := rfl
def zhf (a n : Int32) : Int32 := (((1 <<< (n &&& 31)) - 1) <<< (a &&& 31)) &&& 4095
theorem s26z (X : ab_X) (d : Nat) (a n : Int32) (h : ab_H) : ab_ru X d 26 [.int a, .int n] h = some (some (.int (zhf a n)), h) := (r26 X d a n h).trans (b26_0 X d a n h)
theorem s127z (X : ab_X) (d : Nat) (a n : Int32) (h : ab_H) : ab_ru X d 127 [.int a, .int n] h = some (some (.int (zhf a n)), h) := (r127 X d a n h).trans (b127_0 X d a n h)
theorem zJ9 : (9 : Int64) = (nI 9).toInt64 := rfl
set_option maxHeartbeats 1000000 in
theorem cp_outs (X : ab_X) (d : Nat) (x w r : Int32) {h : ab_H} (hI : zInv h) : zCp X (d + 30) 82 171 [.int x, .int w, .int r] h := by
  obtain ⟨N, dc, hN, hdc, n0, n1, n2, n3, n4, n5, k1, k2, k3, k4, k5, t1, t2, t3, t4⟩ := znow hI
  by_cases hx : ¬ x < nI 0 ∧ x < nI N
  · rcases zix x (n := N) (by omega) with q | q | ⟨i, hi, rfl⟩
    · exact absurd q hx.1
    · exact absurd hx.2 q.2
    by_cases hw : ¬ w < nI 0 ∧ w < nI 10
    · have hw1 := hw.1
      have hw2 := hw.2
      rcases zsights X (d + 9) r hI with ⟨hr, e⟩ | ⟨j, hj, rfl, ⟨f, hf, e1, e2⟩ | ⟨m, hm, c1, c2, c3, c4, e1, e2⟩⟩
      · apply zCp_mk
        · simp (discharger := omega) only [r82, b82_0, b82_5, b82_8, b82_12, b82_18, b82_20, b82_25, b82_32, b82_35, b82_48, b82_65, b82_69, b82_72, b82_75, b82_84, b82_90, s29, zpu_s, zpu_n, Option.bind_some, zlit, Bool.false_eq_true, zlt_t, zlt_f, zeq_t, zeq_f, nI_add, pk_mul, zb_0, zb_n0, not_true_eq_false, not_false_eq_true, Classical.not_not, if_true, if_false, ite_true, ite_false, and_self, and_true, true_and, and_false, false_and, or_self, or_true, true_or, or_false, false_or, reduceIte, n2, e, zn1, hw1, znlt (n := 9) (by omega) w, Nat.reduceAdd, hw2]; rfl
        · simp (discharger := omega) only [r171, b171_0, b171_5, b171_8, b171_17, b171_20, b171_24, b171_27, b171_29, b171_34, b171_41, b171_44, b171_57, b171_75, b171_79, b171_82, b171_85, b171_92, b171_93, b171_102, s131 X _ hN _ n5, s106, zJ0, zJ9, s107i, zpu_s, zpu_n, Option.bind_some, zlit, Bool.false_eq_true, zlt_t, zlt_f, zeq_t, zeq_f, nI_add, pk_mul, zb_0, zb_n0, not_true_eq_false, not_false_eq_true, Classical.not_not, if_true, if_false, ite_true, ite_false, and_self, and_true, true_and, and_false, false_and, or_self, or_true, true_or, or_false, false_or, reduceIte, hr, hw1, znlt (n := 9) (by omega) w, Nat.reduceAdd, hw2]; rfl
        · exact hI
      · have n5' : ab_gI (zfX h f) 30 0 = nI N := by rw [zg_ne (by omega), zg_ne (by omega)]; exact n5
        apply zCp_mk
        · simp (discharger := omega) only [r82, b82_0, b82_5, b82_8, b82_12, b82_18, b82_20, b82_25, b82_32, b82_35, b82_48, b82_65, b82_69, b82_72, b82_75, b82_84, b82_90, s29, zpu_s, zpu_n, Option.bind_some, zlit, Bool.false_eq_true, zlt_t, zlt_f, zeq_t, zeq_f, nI_add, pk_mul, zb_0, zb_n0, not_true_eq_false, not_false_eq_true, Classical.not_not, if_true, if_false, ite_true, ite_false, and_self, and_true, true_and, and_false, false_and, or_self, or_true, true_or, or_false, false_or, reduceIte, n2, e1, zn3, hw1, znlt (n := 9) (by omega) w, Nat.reduceAdd, hw2]; rfl
        · simp (discharger := omega) only [r171, b171_0, b171_5, b171_8, b171_17, b171_20, b171_24, b171_27, b171_29, b171_34, b171_41, b171_44, b171_57, b171_75, b171_79, b171_82, b171_85, b171_92, b171_93, b171_102, s131 X _ hN _ n5', s106, zJ0, zJ9, s107i, zpu_s, zpu_n, Option.bind_some, zlit, Bool.false_eq_true, zlt_t, zlt_f, zeq_t, zeq_f, nI_add, pk_mul, zb_0, zb_n0, not_true_eq_false, not_false_eq_true, Classical.not_not, if_true, if_false, ite_true, ite_false, and_self, and_true, true_and, and_false, false_and, or_self, or_true, true_or, or_false, false_or, reduceIte, e2, zn3l, hw1, znlt (n := 9) (by omega) w, Nat.reduceAdd, hw2]; rfl
        · exact zInv_fXM hI hf
      · obtain ⟨t, ht, et⟩ := t1 i hi
        have key1 := zloop (fun s k => ab_ex X (d + 30) 82 41 [.ref 0, .int (nI i), .int w, .int (nI j), .int (nI 0), .int s, .int (nI k)] [] h) (fun k s => zsb (zag (fun q => ab_gI h 32 (40 * j + q)) (zE (nI t) (zhf (nI k) w) (nI 0)) m 0 = true) k s) 12 (fun k s hk => by
          have ea : ab_ru X (d + 29) 81 [.ref 0, .int (nI j), .int (zE (nI t) (zhf (nI k) w) (nI 0))] h = some (some (.int (zb (zag (fun q => ab_gI h 32 (40 * j + q)) (zE (nI t) (zhf (nI k) w) (nI 0)) m 0 = true))), h) := by
            rw [s81 X (d + 28) hj hm _ c1, zag_congr m 0 (fun q _ hq => c3 q (by omega))]
          rw [l82_41]
          simp (discharger := omega) only [b82_48, b82_65, b82_69, b82_72, s26z, s33, zd42, k1, et, ea, zpu_s, zpu_n, Option.bind_some, zlit, Bool.false_eq_true, zlt_t, zlt_f, zeq_t, zeq_f, nI_add, pk_mul, zb_0, zb_n0, not_true_eq_false, not_false_eq_true, Classical.not_not, if_true, if_false, ite_true, ite_false, and_self, and_true, true_and, and_false, false_and, or_self, or_true, true_or, or_false, false_or, reduceIte]
          by_cases hb : zag (fun q => ab_gI h 32 (40 * j + q)) (zE (nI t) (zhf (nI k) w) (nI 0)) m 0 = true
          · rw [zsb_t hb]
            simp (discharger := omega) only [hb, b82_75, b82_84, zlit, Bool.false_eq_true, zlt_t, zlt_f, zeq_t, zeq_f, nI_add, pk_mul, zb_0, zb_n0, not_true_eq_false, not_false_eq_true, Classical.not_not, if_true, if_false, ite_true, ite_false, and_self, and_true, true_and, and_false, false_and, or_self, or_true, true_or, or_false, false_or, reduceIte]
          · rw [zsb_f hb]
            simp (discharger := omega) only [hb, b82_75, b82_84, zlit, Bool.false_eq_true, zlt_t, zlt_f, zeq_t, zeq_f, nI_add, pk_mul, zb_0, zb_n0, not_true_eq_false, not_false_eq_true, Classical.not_not, if_true, if_false, ite_true, ite_false, and_self, and_true, true_and, and_false, false_and, or_self, or_true, true_or, or_false, false_or, reduceIte]) (nI 0)
        have key2 := zloop (fun s k => ab_ex X (d + 30) 171 50 [.ref 29, .int (nI i), .int w, .int (nI j), .int (nI 0), .int s, .int (nI k)] [] h) (fun k s => zsb (zag (fun q => ab_gI h 32 (40 * j + q)) (zE (nI t) (zhf (nI k) w) (nI 0)) m 0 = true) k s) 12 (fun k s hk => by
          have ea := fun e => s170 X (d + 29) hj hm e c2 c4
          rw [l171_50]
          simp (discharger := omega) only [b171_57, b171_75, b171_79, b171_82, s127z, s135, zd30, et, ea, zpu_s, zpu_n, Option.bind_some, zlit, Bool.false_eq_true, zlt_t, zlt_f, zeq_t, zeq_f, nI_add, pk_mul, zb_0, zb_n0, not_true_eq_false, not_false_eq_true, Classical.not_not, if_true, if_false, ite_true, ite_false, and_self, and_true, true_and, and_false, false_and, or_self, or_true, true_or, or_false, false_or, reduceIte]
          by_cases hb : zag (fun q => ab_gI h 32 (40 * j + q)) (zE (nI t) (zhf (nI k) w) (nI 0)) m 0 = true
          · rw [zsb_t hb]
            simp (discharger := omega) only [hb, b171_85, b171_92, b171_93, zlit, Bool.false_eq_true, zlt_t, zlt_f, zeq_t, zeq_f, nI_add, pk_mul, zb_0, zb_n0, not_true_eq_false, not_false_eq_true, Classical.not_not, if_true, if_false, ite_true, ite_false, and_self, and_true, true_and, and_false, false_and, or_self, or_true, true_or, or_false, false_or, reduceIte]
          · rw [zsb_f hb]
            simp (discharger := omega) only [hb, b171_85, b171_92, b171_93, zlit, Bool.false_eq_true, zlt_t, zlt_f, zeq_t, zeq_f, nI_add, pk_mul, zb_0, zb_n0, not_true_eq_false, not_false_eq_true, Classical.not_not, if_true, if_false, ite_true, ite_false, and_self, and_true, true_and, and_false, false_and, or_self, or_true, true_or, or_false, false_or, reduceIte, zor0]) (nI 0)
        apply zCp_mk
        · simp (discharger := omega) only [r82, r82, b82_0, b82_5, b82_8, b82_12, b82_18, b82_20, b82_25, b82_32, b82_35, b82_48, b82_65, b82_69, b82_72, b82_75, b82_84, b82_90, s29, zpu_s, zpu_n, Option.bind_some, zlit, Bool.false_eq_true, zlt_t, zlt_f, zeq_t, zeq_f, nI_add, pk_mul, zb_0, zb_n0, not_true_eq_false, not_false_eq_true, Classical.not_not, if_true, if_false, ite_true, ite_false, and_self, and_true, true_and, and_false, false_and, or_self, or_true, true_or, or_false, false_or, reduceIte, n2, e1, hw1, znlt (n := 9) (by omega) w, Nat.reduceAdd, hw2]
          rw [key1, l82_41]
          simp (discharger := omega) only [b82_90, zlit, Bool.false_eq_true, zlt_t, zlt_f, zeq_t, zeq_f, nI_add, pk_mul, zb_0, zb_n0, not_true_eq_false, not_false_eq_true, Classical.not_not, if_true, if_false, ite_true, ite_false, and_self, and_true, true_and, and_false, false_and, or_self, or_true, true_or, or_false, false_or, reduceIte]; rfl
        · simp (discharger := omega) only [r171, r171, b171_0, b171_5, b171_8, b171_17, b171_20, b171_24, b171_27, b171_29, b171_34, b171_41, b171_44, b171_57, b171_75, b171_79, b171_82, b171_85, b171_92, b171_93, b171_102, s131 X _ hN _ n5, s106, zJ0, zJ9, s107i, zpu_s, zpu_n, Option.bind_some, zlit, Bool.false_eq_true, zlt_t, zlt_f, zeq_t, zeq_f, nI_add, pk_mul, zb_0, zb_n0, not_true_eq_false, not_false_eq_true, Classical.not_not, if_true, if_false, ite_true, ite_false, and_self, and_true, true_and, and_false, false_and, or_self, or_true, true_or, or_false, false_or, reduceIte, e2, hw1, znlt (n := 9) (by omega) w, Nat.reduceAdd, hw2]
          rw [key2, l171_50]
          simp (discharger := omega) only [b171_102, zlit, Bool.false_eq_true, zlt_t, zlt_f, zeq_t, zeq_f, nI_add, pk_mul, zb_0, zb_n0, not_true_eq_false, not_false_eq_true, Classical.not_not, if_true, if_false, ite_true, ite_false, and_self, and_true, true_and, and_false, false_and, or_self, or_true, true_or, or_false, false_or, reduceIte]; rfl
        · exact hI
    · have e1 : ab_ru X (d + 30) 82 [.ref 0, .int (nI i), .int w, .int r] h = some (some (.int (-nI 1)), h) := by
        by_cases hw1 : w < nI 0
        · simp (discharger := omega) only [r82, b82_0, b82_5, b82_8, b82_12, b82_18, b82_20, b82_25, b82_32, b82_35, b82_48, b82_65, b82_69, b82_72, b82_75, b82_84, b82_90, s29, zpu_s, zpu_n, Option.bind_some, zlit, Bool.false_eq_true, zlt_t, zlt_f, zeq_t, zeq_f, nI_add, pk_mul, zb_0, zb_n0, not_true_eq_false, not_false_eq_true, Classical.not_not, if_true, if_false, ite_true, ite_false, and_self, and_true, true_and, and_false, false_and, or_self, or_true, true_or, or_false, false_or, reduceIte, n2, hw1]
        · have hw2 : ¬ w < nI 10 := fun q => hw ⟨hw1, q⟩
          simp (discharger := omega) only [r82, b82_0, b82_5, b82_8, b82_12, b82_18, b82_20, b82_25, b82_32, b82_35, b82_48, b82_65, b82_69, b82_72, b82_75, b82_84, b82_90, s29, zpu_s, zpu_n, Option.bind_some, zlit, Bool.false_eq_true, zlt_t, zlt_f, zeq_t, zeq_f, nI_add, pk_mul, zb_0, zb_n0, not_true_eq_false, not_false_eq_true, Classical.not_not, if_true, if_false, ite_true, ite_false, and_self, and_true, true_and, and_false, false_and, or_self, or_true, true_or, or_false, false_or, reduceIte, n2, hw1, znlt (n := 9) (by omega) w, Nat.reduceAdd, hw2]
      refine zCp_mk e1 ?_ hI
      simp (discharger := omega) only [r171, b171_0, b171_5, b171_8, b171_17, b171_20, b171_24, b171_27, b171_29, b171_34, b171_41, b171_44, b171_57, b171_75, b171_79, b171_82, b171_85, b171_92, b171_93, b171_102, s131 X _ hN _ n5, zJ0, zJ9, s107i, zpu_s, zpu_n, Option.bind_some, zlit, Bool.false_eq_true, zlt_t, zlt_f, zeq_t, zeq_f, nI_add, pk_mul, zb_0, zb_n0, not_true_eq_false, not_false_eq_true, Classical.not_not, if_true, if_false, ite_true, ite_false, and_self, and_true, true_and, and_false, false_and, or_self, or_true, true_or, or_false, false_or, reduceIte, znlt (n := 9) (by omega) w, Nat.reduceAdd, hw]
  · apply zCp_mk
    · simp (discharger := omega) only [r82, b82_0, b82_5, b82_8, b82_12, b82_18, b82_20, b82_25, b82_32, b82_35, b82_48, b82_65, b82_69, b82_72, b82_75, b82_84, b82_90, s29, zpu_s, zpu_n, Option.bind_some, zlit, Bool.false_eq_true, zlt_t, zlt_f, zeq_t, zeq_f, nI_add, pk_mul, zb_0, zb_n0, not_true_eq_false, not_false_eq_true, Classical.not_not, if_true, if_false, ite_true, ite_false, and_self, and_true, true_and, and_false, false_and, or_self, or_true, true_or, or_false, false_or, reduceIte, n2, hx]; rfl
    · simp (discharger := omega) only [r171, b171_0, b171_5, b171_8, b171_17, b171_20, b171_24, b171_27, b171_29, b171_34, b171_41, b171_44, b171_57, b171_75, b171_79, b171_82, b171_85, b171_92, b171_93, b171_102, s131 X _ hN _ n5, zpu_s, zpu_n, Option.bind_some, zlit, Bool.false_eq_true, zlt_t, zlt_f, zeq_t, zeq_f, nI_add, pk_mul, zb_0, zb_n0, not_true_eq_false, not_false_eq_true, Classical.not_not, if_true, if_false, ite_true, ite_false, and_self, and_true, true_and, and_false, false_and, or_self, or_true, true_or, or_false, false_or, reduceIte, hx]; rfl
    · exact hI
