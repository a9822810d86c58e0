/-! the digest -/
set_option maxHeartbeats 1000000 in
theorem zcount_v (X : ab_X) (d : Nat) {k : Nat} (hk : k < 10) {h : ab_H} (hI : zInv h) : ∃ v, ab_ru X (d + 20) 97 [.ref 0, .int (nI k)] h = some (some (.int v), h) ∧ ∀ h', (∀ c i, ab_gI h' c i = ab_gI h c i) → ab_ru X (d + 20) 184 [.ref 29, .int (nI k)] h' = some (some (.int v), h') := by
  obtain ⟨i1, i2, i3, i4, i5, i6, i7⟩ := id hI
  obtain ⟨N, dc, hN, hdc, n0, n1, n2, n3, n4, n5, k1, k2, k3, k4, k5, t1, t2, t3, t4⟩ := znow hI
  have e : k = 0 ∨ k = 1 ∨ k = 2 ∨ k = 3 ∨ k = 4 ∨ k = 5 ∨ k = 6 ∨ k = 7 ∨ k = 8 ∨ k = 9 := by omega
  rcases e with rfl | rfl | rfl | rfl | rfl | rfl | rfl | rfl | rfl | rfl
  · refine ⟨nI N, ?_, fun h' eh => ?_⟩
    · simp (discharger := omega) only [r97, b97_0, b97_4, b97_10, b97_12, b97_64, b97_72, b97_80, b97_88, b97_102, b97_103, b97_117, b97_118, b97_126, b97_127, b97_135, b97_136, b97_143, b97_144, b97_151, b97_152, b97_156, zlit, Bool.false_eq_true, zlt_t, zlt_f, zeq_t, zeq_f, nI_add, pk_mul, zb_0, zb_n0, not_true_eq_false, not_false_eq_true, Classical.not_not, if_true, if_false, ite_true, ite_false, and_self, and_true, true_and, and_false, false_and, or_self, or_true, true_or, or_false, false_or, reduceIte, ts97_0, ts97_1, ts97_2, ts97_3, ts97_4, ts97_5, ts97_6, ts97_7, ts97_8, ts97_9, n2]
    · simp (discharger := omega) only [r184, b184_0, b184_56, b184_63, b184_70, b184_75, b184_81, b184_82, b184_88, b184_89, b184_95, b184_96, b184_102, b184_103, b184_112, b184_113, b184_121, b184_122, b184_130, b184_131, zlit, Bool.false_eq_true, zlt_t, zlt_f, zeq_t, zeq_f, nI_add, pk_mul, zb_0, zb_n0, not_true_eq_false, not_false_eq_true, Classical.not_not, if_true, if_false, ite_true, ite_false, and_self, and_true, true_and, and_false, false_and, or_self, or_true, true_or, or_false, false_or, reduceIte, ts184_0, ts184_1, ts184_2, ts184_3, ts184_4, ts184_5, ts184_6, ts184_7, ts184_8, ts184_9, ts184_10, zd30, eh, n5]
  · refine ⟨ab_gI h 30 1, ?_, fun h' eh => ?_⟩
    · simp (discharger := omega) only [r97, b97_0, b97_4, b97_10, b97_12, b97_64, b97_72, b97_80, b97_88, b97_102, b97_103, b97_117, b97_118, b97_126, b97_127, b97_135, b97_136, b97_143, b97_144, b97_151, b97_152, b97_156, zlit, Bool.false_eq_true, zlt_t, zlt_f, zeq_t, zeq_f, nI_add, pk_mul, zb_0, zb_n0, not_true_eq_false, not_false_eq_true, Classical.not_not, if_true, if_false, ite_true, ite_false, and_self, and_true, true_and, and_false, false_and, or_self, or_true, true_or, or_false, false_or, reduceIte, ts97_0, ts97_1, ts97_2, ts97_3, ts97_4, ts97_5, ts97_6, ts97_7, ts97_8, ts97_9, n4]
    · simp (discharger := omega) only [r184, b184_0, b184_56, b184_63, b184_70, b184_75, b184_81, b184_82, b184_88, b184_89, b184_95, b184_96, b184_102, b184_103, b184_112, b184_113, b184_121, b184_122, b184_130, b184_131, zlit, Bool.false_eq_true, zlt_t, zlt_f, zeq_t, zeq_f, nI_add, pk_mul, zb_0, zb_n0, not_true_eq_false, not_false_eq_true, Classical.not_not, if_true, if_false, ite_true, ite_false, and_self, and_true, true_and, and_false, false_and, or_self, or_true, true_or, or_false, false_or, reduceIte, ts184_0, ts184_1, ts184_2, ts184_3, ts184_4, ts184_5, ts184_6, ts184_7, ts184_8, ts184_9, ts184_10, zd30, eh]
  · refine ⟨nI dc, ?_, fun h' eh => ?_⟩
    · simp (discharger := omega) only [r97, b97_0, b97_4, b97_10, b97_12, b97_64, b97_72, b97_80, b97_88, b97_102, b97_103, b97_117, b97_118, b97_126, b97_127, b97_135, b97_136, b97_143, b97_144, b97_151, b97_152, b97_156, zlit, Bool.false_eq_true, zlt_t, zlt_f, zeq_t, zeq_f, nI_add, pk_mul, zb_0, zb_n0, not_true_eq_false, not_false_eq_true, Classical.not_not, if_true, if_false, ite_true, ite_false, and_self, and_true, true_and, and_false, false_and, or_self, or_true, true_or, or_false, false_or, reduceIte, ts97_0, ts97_1, ts97_2, ts97_3, ts97_4, ts97_5, ts97_6, ts97_7, ts97_8, ts97_9, n3]
    · simp (discharger := omega) only [r184, b184_0, b184_56, b184_63, b184_70, b184_75, b184_81, b184_82, b184_88, b184_89, b184_95, b184_96, b184_102, b184_103, b184_112, b184_113, b184_121, b184_122, b184_130, b184_131, zlit, Bool.false_eq_true, zlt_t, zlt_f, zeq_t, zeq_f, nI_add, pk_mul, zb_0, zb_n0, not_true_eq_false, not_false_eq_true, Classical.not_not, if_true, if_false, ite_true, ite_false, and_self, and_true, true_and, and_false, false_and, or_self, or_true, true_or, or_false, false_or, reduceIte, ts184_0, ts184_1, ts184_2, ts184_3, ts184_4, ts184_5, ts184_6, ts184_7, ts184_8, ts184_9, ts184_10, eh, n1]
  · refine ⟨zit (fun k s => s + ab_gI h 45 k) (nI 0) N, ?_, fun h' eh => ?_⟩
    · simp (discharger := omega) only [r97, b97_0, b97_4, b97_10, b97_12, b97_64, b97_72, b97_80, b97_88, b97_102, b97_103, b97_117, b97_118, b97_126, b97_127, b97_135, b97_136, b97_143, b97_144, b97_151, b97_152, b97_156, zlit, Bool.false_eq_true, zlt_t, zlt_f, zeq_t, zeq_f, nI_add, pk_mul, zb_0, zb_n0, not_true_eq_false, not_false_eq_true, Classical.not_not, if_true, if_false, ite_true, ite_false, and_self, and_true, true_and, and_false, false_and, or_self, or_true, true_or, or_false, false_or, reduceIte, ts97_0, ts97_1, ts97_2, ts97_3, ts97_4, ts97_5, ts97_6, ts97_7, ts97_8, ts97_9]
      rw [s85 X _ (Or.inl rfl) rfl hN n2]
      simp (discharger := omega) only [r97, b97_0, b97_4, b97_10, b97_12, b97_64, b97_72, b97_80, b97_88, b97_102, b97_103, b97_117, b97_118, b97_126, b97_127, b97_135, b97_136, b97_143, b97_144, b97_151, b97_152, b97_156, zpu_s, zpu_n, Option.bind_some]
    · simp (discharger := omega) only [r184, b184_0, b184_56, b184_63, b184_70, b184_75, b184_81, b184_82, b184_88, b184_89, b184_95, b184_96, b184_102, b184_103, b184_112, b184_113, b184_121, b184_122, b184_130, b184_131, zlit, Bool.false_eq_true, zlt_t, zlt_f, zeq_t, zeq_f, nI_add, pk_mul, zb_0, zb_n0, not_true_eq_false, not_false_eq_true, Classical.not_not, if_true, if_false, ite_true, ite_false, and_self, and_true, true_and, and_false, false_and, or_self, or_true, true_or, or_false, false_or, reduceIte, ts184_0, ts184_1, ts184_2, ts184_3, ts184_4, ts184_5, ts184_6, ts184_7, ts184_8, ts184_9, ts184_10]
      rw [s185 X _ hN (by omega) (h := h') (by rw [eh]; exact n5)]
      simp (discharger := omega) only [r184, b184_0, b184_56, b184_63, b184_70, b184_75, b184_81, b184_82, b184_88, b184_89, b184_95, b184_96, b184_102, b184_103, b184_112, b184_113, b184_121, b184_122, b184_130, b184_131, zpu_s, zpu_n, Option.bind_some]
      rw [zit_congr (fun k s hk => by rw [eh, ← k4 k hk])]
  · refine ⟨zit (fun k s => s + ab_gI h 46 k) (nI 0) N, ?_, fun h' eh => ?_⟩
    · simp (discharger := omega) only [r97, b97_0, b97_4, b97_10, b97_12, b97_64, b97_72, b97_80, b97_88, b97_102, b97_103, b97_117, b97_118, b97_126, b97_127, b97_135, b97_136, b97_143, b97_144, b97_151, b97_152, b97_156, zlit, Bool.false_eq_true, zlt_t, zlt_f, zeq_t, zeq_f, nI_add, pk_mul, zb_0, zb_n0, not_true_eq_false, not_false_eq_true, Classical.not_not, if_true, if_false, ite_true, ite_false, and_self, and_true, true_and, and_false, false_and, or_self, or_true, true_or, or_false, false_or, reduceIte, ts97_0, ts97_1, ts97_2, ts97_3, ts97_4, ts97_5, ts97_6, ts97_7, ts97_8, ts97_9]
      rw [s85 X _ (Or.inl rfl) rfl hN n2]
      simp (discharger := omega) only [r97, b97_0, b97_4, b97_10, b97_12, b97_64, b97_72, b97_80, b97_88, b97_102, b97_103, b97_117, b97_118, b97_126, b97_127, b97_135, b97_136, b97_143, b97_144, b97_151, b97_152, b97_156, zpu_s, zpu_n, Option.bind_some]
    · simp (discharger := omega) only [r184, b184_0, b184_56, b184_63, b184_70, b184_75, b184_81, b184_82, b184_88, b184_89, b184_95, b184_96, b184_102, b184_103, b184_112, b184_113, b184_121, b184_122, b184_130, b184_131, zlit, Bool.false_eq_true, zlt_t, zlt_f, zeq_t, zeq_f, nI_add, pk_mul, zb_0, zb_n0, not_true_eq_false, not_false_eq_true, Classical.not_not, if_true, if_false, ite_true, ite_false, and_self, and_true, true_and, and_false, false_and, or_self, or_true, true_or, or_false, false_or, reduceIte, ts184_0, ts184_1, ts184_2, ts184_3, ts184_4, ts184_5, ts184_6, ts184_7, ts184_8, ts184_9, ts184_10]
      rw [s185 X _ hN (by omega) (h := h') (by rw [eh]; exact n5)]
      simp (discharger := omega) only [r184, b184_0, b184_56, b184_63, b184_70, b184_75, b184_81, b184_82, b184_88, b184_89, b184_95, b184_96, b184_102, b184_103, b184_112, b184_113, b184_121, b184_122, b184_130, b184_131, zpu_s, zpu_n, Option.bind_some]
      rw [zit_congr (fun k s hk => by rw [eh, ← k5 k hk])]
  · refine ⟨zit (fun k s => s + zb (zK (ab_gI h (41 + 1 + 0) k) (nI 1) = true)) (nI 0) N, ?_, fun h' eh => ?_⟩
    · simp (discharger := omega) only [r97, b97_0, b97_4, b97_10, b97_12, b97_64, b97_72, b97_80, b97_88, b97_102, b97_103, b97_117, b97_118, b97_126, b97_127, b97_135, b97_136, b97_143, b97_144, b97_151, b97_152, b97_156, zlit, Bool.false_eq_true, zlt_t, zlt_f, zeq_t, zeq_f, nI_add, pk_mul, zb_0, zb_n0, not_true_eq_false, not_false_eq_true, Classical.not_not, if_true, if_false, ite_true, ite_false, and_self, and_true, true_and, and_false, false_and, or_self, or_true, true_or, or_false, false_or, reduceIte, ts97_0, ts97_1, ts97_2, ts97_3, ts97_4, ts97_5, ts97_6, ts97_7, ts97_8, ts97_9]
      rw [s98 X _ (Or.inl rfl) hN _ n2]
      simp (discharger := omega) only [r97, b97_0, b97_4, b97_10, b97_12, b97_64, b97_72, b97_80, b97_88, b97_102, b97_103, b97_117, b97_118, b97_126, b97_127, b97_135, b97_136, b97_143, b97_144, b97_151, b97_152, b97_156, zpu_s, zpu_n, Option.bind_some]
    · simp (discharger := omega) only [r184, b184_0, b184_56, b184_63, b184_70, b184_75, b184_81, b184_82, b184_88, b184_89, b184_95, b184_96, b184_102, b184_103, b184_112, b184_113, b184_121, b184_122, b184_130, b184_131, zlit, Bool.false_eq_true, zlt_t, zlt_f, zeq_t, zeq_f, nI_add, pk_mul, zb_0, zb_n0, not_true_eq_false, not_false_eq_true, Classical.not_not, if_true, if_false, ite_true, ite_false, and_self, and_true, true_and, and_false, false_and, or_self, or_true, true_or, or_false, false_or, reduceIte, ts184_0, ts184_1, ts184_2, ts184_3, ts184_4, ts184_5, ts184_6, ts184_7, ts184_8, ts184_9, ts184_10]
      rw [s186 X _ hN _ _ (h := h') (by rw [eh]; exact n5)]
      simp (discharger := omega) only [r184, b184_0, b184_56, b184_63, b184_70, b184_75, b184_81, b184_82, b184_88, b184_89, b184_95, b184_96, b184_102, b184_103, b184_112, b184_113, b184_121, b184_122, b184_130, b184_131, zpu_s, zpu_n, Option.bind_some]
      exact congrArg (fun v => some (some (Value.int v), h')) (zit_congr (fun k s hk => by
        rw [show 41 + 1 + 0 = 42 from rfl, k1 k hk, eh]
        obtain ⟨t, ht, e⟩ := t1 k hk
        rw [e]
        have e9 : t = 0 ∨ t = 1 ∨ t = 2 ∨ t = 3 ∨ t = 4 ∨ t = 5 := by omega
        rcases e9 with rfl | rfl | rfl | rfl | rfl | rfl <;> rfl))
  · refine ⟨zit (fun k s => s + zb (zK (ab_gI h (41 + 1 + 0) k) (nI 3) = true)) (nI 0) N, ?_, fun h' eh => ?_⟩
    · simp (discharger := omega) only [r97, b97_0, b97_4, b97_10, b97_12, b97_64, b97_72, b97_80, b97_88, b97_102, b97_103, b97_117, b97_118, b97_126, b97_127, b97_135, b97_136, b97_143, b97_144, b97_151, b97_152, b97_156, zlit, Bool.false_eq_true, zlt_t, zlt_f, zeq_t, zeq_f, nI_add, pk_mul, zb_0, zb_n0, not_true_eq_false, not_false_eq_true, Classical.not_not, if_true, if_false, ite_true, ite_false, and_self, and_true, true_and, and_false, false_and, or_self, or_true, true_or, or_false, false_or, reduceIte, ts97_0, ts97_1, ts97_2, ts97_3, ts97_4, ts97_5, ts97_6, ts97_7, ts97_8, ts97_9]
      rw [s98 X _ (Or.inl rfl) hN _ n2]
      simp (discharger := omega) only [r97, b97_0, b97_4, b97_10, b97_12, b97_64, b97_72, b97_80, b97_88, b97_102, b97_103, b97_117, b97_118, b97_126, b97_127, b97_135, b97_136, b97_143, b97_144, b97_151, b97_152, b97_156, zpu_s, zpu_n, Option.bind_some]
    · simp (discharger := omega) only [r184, b184_0, b184_56, b184_63, b184_70, b184_75, b184_81, b184_82, b184_88, b184_89, b184_95, b184_96, b184_102, b184_103, b184_112, b184_113, b184_121, b184_122, b184_130, b184_131, zlit, Bool.false_eq_true, zlt_t, zlt_f, zeq_t, zeq_f, nI_add, pk_mul, zb_0, zb_n0, not_true_eq_false, not_false_eq_true, Classical.not_not, if_true, if_false, ite_true, ite_false, and_self, and_true, true_and, and_false, false_and, or_self, or_true, true_or, or_false, false_or, reduceIte, ts184_0, ts184_1, ts184_2, ts184_3, ts184_4, ts184_5, ts184_6, ts184_7, ts184_8, ts184_9, ts184_10]
      rw [s186 X _ hN _ _ (h := h') (by rw [eh]; exact n5)]
      simp (discharger := omega) only [r184, b184_0, b184_56, b184_63, b184_70, b184_75, b184_81, b184_82, b184_88, b184_89, b184_95, b184_96, b184_102, b184_103, b184_112, b184_113, b184_121, b184_122, b184_130, b184_131, zpu_s, zpu_n, Option.bind_some]
      exact congrArg (fun v => some (some (Value.int v), h')) (zit_congr (fun k s hk => by
        rw [show 41 + 1 + 0 = 42 from rfl, k1 k hk, eh]
        obtain ⟨t, ht, e⟩ := t1 k hk
        rw [e]
        have e9 : t = 0 ∨ t = 1 ∨ t = 2 ∨ t = 3 ∨ t = 4 ∨ t = 5 := by omega
        rcases e9 with rfl | rfl | rfl | rfl | rfl | rfl <;> rfl))
  · refine ⟨zit (fun k s => s + zb (¬ ab_gI h 8 k < nI 0)) (nI 0) 6, ?_, fun h' eh => ?_⟩
    · simp (discharger := omega) only [r97, b97_0, b97_4, b97_10, b97_12, b97_64, b97_72, b97_80, b97_88, b97_102, b97_103, b97_117, b97_118, b97_126, b97_127, b97_135, b97_136, b97_143, b97_144, b97_151, b97_152, b97_156, zlit, Bool.false_eq_true, zlt_t, zlt_f, zeq_t, zeq_f, nI_add, pk_mul, zb_0, zb_n0, not_true_eq_false, not_false_eq_true, Classical.not_not, if_true, if_false, ite_true, ite_false, and_self, and_true, true_and, and_false, false_and, or_self, or_true, true_or, or_false, false_or, reduceIte, ts97_0, ts97_1, ts97_2, ts97_3, ts97_4, ts97_5, ts97_6, ts97_7, ts97_8, ts97_9]
      rw [s99 X _ (a := 8) (n := 6) rfl]
      simp (discharger := omega) only [r97, b97_0, b97_4, b97_10, b97_12, b97_64, b97_72, b97_80, b97_88, b97_102, b97_103, b97_117, b97_118, b97_126, b97_127, b97_135, b97_136, b97_143, b97_144, b97_151, b97_152, b97_156, zpu_s, zpu_n, Option.bind_some]
    · simp (discharger := omega) only [r184, b184_0, b184_56, b184_63, b184_70, b184_75, b184_81, b184_82, b184_88, b184_89, b184_95, b184_96, b184_102, b184_103, b184_112, b184_113, b184_121, b184_122, b184_130, b184_131, zlit, Bool.false_eq_true, zlt_t, zlt_f, zeq_t, zeq_f, nI_add, pk_mul, zb_0, zb_n0, not_true_eq_false, not_false_eq_true, Classical.not_not, if_true, if_false, ite_true, ite_false, and_self, and_true, true_and, and_false, false_and, or_self, or_true, true_or, or_false, false_or, reduceIte, ts184_0, ts184_1, ts184_2, ts184_3, ts184_4, ts184_5, ts184_6, ts184_7, ts184_8, ts184_9, ts184_10]
      rw [s187 X _ (a := 33) (n := 6) rfl]
      simp (discharger := omega) only [r184, b184_0, b184_56, b184_63, b184_70, b184_75, b184_81, b184_82, b184_88, b184_89, b184_95, b184_96, b184_102, b184_103, b184_112, b184_113, b184_121, b184_122, b184_130, b184_131, zpu_s, zpu_n, Option.bind_some]
      exact congrArg (fun v => some (some (Value.int v), h')) (zit_congr (fun k s hk => by rw [(i3 k hk).1, eh]))
  · refine ⟨zit (fun k s => s + zb (¬ ab_gI h 14 k < nI 0)) (nI 0) 4, ?_, fun h' eh => ?_⟩
    · simp (discharger := omega) only [r97, b97_0, b97_4, b97_10, b97_12, b97_64, b97_72, b97_80, b97_88, b97_102, b97_103, b97_117, b97_118, b97_126, b97_127, b97_135, b97_136, b97_143, b97_144, b97_151, b97_152, b97_156, zlit, Bool.false_eq_true, zlt_t, zlt_f, zeq_t, zeq_f, nI_add, pk_mul, zb_0, zb_n0, not_true_eq_false, not_false_eq_true, Classical.not_not, if_true, if_false, ite_true, ite_false, and_self, and_true, true_and, and_false, false_and, or_self, or_true, true_or, or_false, false_or, reduceIte, ts97_0, ts97_1, ts97_2, ts97_3, ts97_4, ts97_5, ts97_6, ts97_7, ts97_8, ts97_9]
      rw [s99 X _ (a := 14) (n := 4) rfl]
      simp (discharger := omega) only [r97, b97_0, b97_4, b97_10, b97_12, b97_64, b97_72, b97_80, b97_88, b97_102, b97_103, b97_117, b97_118, b97_126, b97_127, b97_135, b97_136, b97_143, b97_144, b97_151, b97_152, b97_156, zpu_s, zpu_n, Option.bind_some]
    · simp (discharger := omega) only [r184, b184_0, b184_56, b184_63, b184_70, b184_75, b184_81, b184_82, b184_88, b184_89, b184_95, b184_96, b184_102, b184_103, b184_112, b184_113, b184_121, b184_122, b184_130, b184_131, zlit, Bool.false_eq_true, zlt_t, zlt_f, zeq_t, zeq_f, nI_add, pk_mul, zb_0, zb_n0, not_true_eq_false, not_false_eq_true, Classical.not_not, if_true, if_false, ite_true, ite_false, and_self, and_true, true_and, and_false, false_and, or_self, or_true, true_or, or_false, false_or, reduceIte, ts184_0, ts184_1, ts184_2, ts184_3, ts184_4, ts184_5, ts184_6, ts184_7, ts184_8, ts184_9, ts184_10]
      rw [s187 X _ (a := 35) (n := 4) rfl]
      simp (discharger := omega) only [r184, b184_0, b184_56, b184_63, b184_70, b184_75, b184_81, b184_82, b184_88, b184_89, b184_95, b184_96, b184_102, b184_103, b184_112, b184_113, b184_121, b184_122, b184_130, b184_131, zpu_s, zpu_n, Option.bind_some]
      exact congrArg (fun v => some (some (Value.int v), h')) (zit_congr (fun k s hk => by rw [(i4 k hk).1, eh]))
  · refine ⟨zit (fun k s => s + zb (nI 0 < ab_gI h (49 + 8 * k) 7)) (nI 0) 3, ?_, fun h' eh => ?_⟩
    · simp (discharger := omega) only [r97, b97_0, b97_4, b97_10, b97_12, b97_64, b97_72, b97_80, b97_88, b97_102, b97_103, b97_117, b97_118, b97_126, b97_127, b97_135, b97_136, b97_143, b97_144, b97_151, b97_152, b97_156, zlit, Bool.false_eq_true, zlt_t, zlt_f, zeq_t, zeq_f, nI_add, pk_mul, zb_0, zb_n0, not_true_eq_false, not_false_eq_true, Classical.not_not, if_true, if_false, ite_true, ite_false, and_self, and_true, true_and, and_false, false_and, or_self, or_true, true_or, or_false, false_or, reduceIte, ts97_0, ts97_1, ts97_2, ts97_3, ts97_4, ts97_5, ts97_6, ts97_7, ts97_8, ts97_9]
      rw [s100]
      simp (discharger := omega) only [r97, b97_0, b97_4, b97_10, b97_12, b97_64, b97_72, b97_80, b97_88, b97_102, b97_103, b97_117, b97_118, b97_126, b97_127, b97_135, b97_136, b97_143, b97_144, b97_151, b97_152, b97_156, zpu_s, zpu_n, Option.bind_some]
    · simp (discharger := omega) only [r184, b184_0, b184_56, b184_63, b184_70, b184_75, b184_81, b184_82, b184_88, b184_89, b184_95, b184_96, b184_102, b184_103, b184_112, b184_113, b184_121, b184_122, b184_130, b184_131, zlit, Bool.false_eq_true, zlt_t, zlt_f, zeq_t, zeq_f, nI_add, pk_mul, zb_0, zb_n0, not_true_eq_false, not_false_eq_true, Classical.not_not, if_true, if_false, ite_true, ite_false, and_self, and_true, true_and, and_false, false_and, or_self, or_true, true_or, or_false, false_or, reduceIte, ts184_0, ts184_1, ts184_2, ts184_3, ts184_4, ts184_5, ts184_6, ts184_7, ts184_8, ts184_9, ts184_10]
      rw [s187 X _ (a := 31) (n := 3) rfl]
      simp (discharger := omega) only [r184, b184_0, b184_56, b184_63, b184_70, b184_75, b184_81, b184_82, b184_88, b184_89, b184_95, b184_96, b184_102, b184_103, b184_112, b184_113, b184_121, b184_122, b184_130, b184_131, zpu_s, zpu_n, Option.bind_some]
      exact congrArg (fun v => some (some (Value.int v), h')) (zit_congr (fun k s hk => by
        rw [eh]
        rcases i6 k hk with ⟨a1, a2⟩ | ⟨N', dc', a0, a1, a2⟩
        · rw [a1, a2]; rfl
        · rw [a1, a2.2.2.1, zb_t (show ¬ nI dc' < nI 0 from nI_nlt (by omega) (by have := a2.2.1; omega)), zb_t (show nI 0 < nI N' from nI_lt a0 (by have := a2.1; omega))]))
theorem zhouse_v (X : ab_X) (d : Nat) {i k N : Nat} (hk : k < 5) (hN : N ≤ 6) (hi : i < N) {h : ab_H} (k1 : ab_gI h 42 i = ab_gI h 30 (2 + i)) (k2 : ab_gI h 43 i = ab_gI h 30 (8 + i)) (k3 : ab_gI h 47 i = ab_gI h 30 (14 + i)) (k4 : ab_gI h 45 i = ab_gI h 30 (20 + i)) (k5 : ab_gI h 46 i = ab_gI h 30 (26 + i)) (t1 : ∃ k, k < 6 ∧ ab_gI h 30 (2 + i) = nI k) : ∃ v, ab_ru X (d + 20) 30 [.ref 41, .int (nI i), .int (nI k)] h = some (some (.int v), h) ∧ ∀ h', (∀ c i, ab_gI h' c i = ab_gI h c i) → ab_ru X (d + 20) 132 [.ref 29, .int (nI i), .int (nI k)] h' = some (some (.int v), h') := by
  have e9 : k = 0 ∨ k = 1 ∨ k = 2 ∨ k = 3 ∨ k = 4 := by omega
  rcases e9 with rfl | rfl | rfl | rfl | rfl
  · refine ⟨ab_gI h 30 (2 + i), ?_, (fun h' e => ?_)⟩
    · simp (discharger := omega) only [r30, b30_0, b30_32, b30_39, b30_44, b30_45, b30_52, b30_57, b30_58, ts30_0, ts30_1, ts30_2, ts30_3, ts30_4, zP_ob, zP_rf, Nat.reduceAdd, zd42, k1]
    · simp (discharger := omega) only [r132, b132_0, b132_32, b132_41, b132_46, b132_47, b132_57, b132_62, b132_63, ts132_0, ts132_1, ts132_2, ts132_3, ts132_4, zlit, Bool.false_eq_true, zlt_t, zlt_f, zeq_t, zeq_f, nI_add, pk_mul, zb_0, zb_n0, not_true_eq_false, not_false_eq_true, Classical.not_not, if_true, if_false, ite_true, ite_false, and_self, and_true, true_and, and_false, false_and, or_self, or_true, true_or, or_false, false_or, reduceIte, zd30, e]
  · refine ⟨zOu h i, ?_, (fun h' e => ?_)⟩
    · simp (discharger := omega) only [r30, b30_0, b30_32, b30_39, b30_44, b30_45, b30_52, b30_57, b30_58, ts30_0, ts30_1, ts30_2, ts30_3, ts30_4, zP_ob, zP_rf, Nat.reduceAdd, zpu_s, zpu_n, Option.bind_some, s31n X _ hN hi k2 k3]
    · simp (discharger := omega) only [r132, b132_0, b132_32, b132_41, b132_46, b132_47, b132_57, b132_62, b132_63, ts132_0, ts132_1, ts132_2, ts132_3, ts132_4, zlit, Bool.false_eq_true, zlt_t, zlt_f, zeq_t, zeq_f, nI_add, pk_mul, zb_0, zb_n0, not_true_eq_false, not_false_eq_true, Classical.not_not, if_true, if_false, ite_true, ite_false, and_self, and_true, true_and, and_false, false_and, or_self, or_true, true_or, or_false, false_or, reduceIte, zpu_s, zpu_n, Option.bind_some, s133n]
      unfold zOu; rw [e, e]
  · refine ⟨ab_gI h 30 (20 + i), ?_, (fun h' e => ?_)⟩
    · simp (discharger := omega) only [r30, b30_0, b30_32, b30_39, b30_44, b30_45, b30_52, b30_57, b30_58, ts30_0, ts30_1, ts30_2, ts30_3, ts30_4, zP_ob, zP_rf, Nat.reduceAdd, zd45, k4]
    · simp (discharger := omega) only [r132, b132_0, b132_32, b132_41, b132_46, b132_47, b132_57, b132_62, b132_63, ts132_0, ts132_1, ts132_2, ts132_3, ts132_4, zlit, Bool.false_eq_true, zlt_t, zlt_f, zeq_t, zeq_f, nI_add, pk_mul, zb_0, zb_n0, not_true_eq_false, not_false_eq_true, Classical.not_not, if_true, if_false, ite_true, ite_false, and_self, and_true, true_and, and_false, false_and, or_self, or_true, true_or, or_false, false_or, reduceIte, zd30, e]
  · refine ⟨zEm h i, ?_, (fun h' e => ?_)⟩
    · simp (discharger := omega) only [r30, b30_0, b30_32, b30_39, b30_44, b30_45, b30_52, b30_57, b30_58, ts30_0, ts30_1, ts30_2, ts30_3, ts30_4, zP_ob, zP_rf, Nat.reduceAdd, zpu_s, zpu_n, Option.bind_some, s32n X _ hN hi k1 k2 k3 t1]
    · have ee := s134n X (d + 18) hN hi (h := h') (by rw [e]; exact t1)
      simp (discharger := omega) only [r132, b132_0, b132_32, b132_41, b132_46, b132_47, b132_57, b132_62, b132_63, ts132_0, ts132_1, ts132_2, ts132_3, ts132_4, zlit, Bool.false_eq_true, zlt_t, zlt_f, zeq_t, zeq_f, nI_add, pk_mul, zb_0, zb_n0, not_true_eq_false, not_false_eq_true, Classical.not_not, if_true, if_false, ite_true, ite_false, and_self, and_true, true_and, and_false, false_and, or_self, or_true, true_or, or_false, false_or, reduceIte, zpu_s, zpu_n, Option.bind_some, ee]
      unfold zEm; rw [e, e, e]
  · refine ⟨ab_gI h 30 (26 + i), ?_, (fun h' e => ?_)⟩
    · simp (discharger := omega) only [r30, b30_0, b30_32, b30_39, b30_44, b30_45, b30_52, b30_57, b30_58, ts30_0, ts30_1, ts30_2, ts30_3, ts30_4, zP_ob, zP_rf, Nat.reduceAdd, zd46, k5]
    · simp (discharger := omega) only [r132, b132_0, b132_32, b132_41, b132_46, b132_47, b132_57, b132_62, b132_63, ts132_0, ts132_1, ts132_2, ts132_3, ts132_4, zlit, Bool.false_eq_true, zlt_t, zlt_f, zeq_t, zeq_f, nI_add, pk_mul, zb_0, zb_n0, not_true_eq_false, not_false_eq_true, Classical.not_not, if_true, if_false, ite_true, ite_false, and_self, and_true, true_and, and_false, false_and, or_self, or_true, true_or, or_false, false_or, reduceIte, zd30, e]
/-- a sum grown alike on both sides -/
theorem zdg (C M : Int64 → Nat → Value → Option ab_R) (n : Nat) (hs : ∀ k s, k < n → ∃ s', (∀ v, ∃ w, C s k v = C s' (k + 1) w) ∧ (∀ v, ∃ w, M s k v = M s' (k + 1) w)) (s : Int64) : ∃ s', (∀ v, ∃ w, C s 0 v = C s' n w) ∧ (∀ v, ∃ w, M s 0 v = M s' n w) := by
  have key : ∀ k, k ≤ n → ∃ s', (∀ v, ∃ w, C s 0 v = C s' k w) ∧ (∀ v, ∃ w, M s 0 v = M s' k w) := by
    intro k
    induction k with
    | zero => intro _; exact ⟨s, fun v => ⟨v, rfl⟩, fun v => ⟨v, rfl⟩⟩
    | succ k ih =>
      intro hk
      obtain ⟨s1, c1, m1⟩ := ih (by omega)
      obtain ⟨s2, c2, m2⟩ := hs k s1 (by omega)
      refine ⟨s2, fun v => ?_, fun v => ?_⟩
      · obtain ⟨w, e⟩ := c1 v
        obtain ⟨w', e'⟩ := c2 w
        exact ⟨w', e.trans e'⟩
      · obtain ⟨w, e⟩ := m1 v
        obtain ⟨w', e'⟩ := m2 w
        exact ⟨w', e.trans e'⟩
  exact key n (Nat.le_refl n)
theorem zJJ (h : ab_H) (s s' : Int64) : ab_sJ (ab_sJ h 29 24 s) 29 24 s' = ab_sJ h 29 24 s' := by
  refine zh_ext (fun _ _ => rfl) (fun c i => ?_)
  by_cases e : c = 29
  · subst e
    rw [zj_same, zj_same, zj_same]
    split <;> rfl
  · rw [zj_ne e, zj_ne e, zj_ne e]
theorem s191 (X : ab_X) (d : Nat) (h : ab_H) (s l : Int64) : ab_ru X d 191 [.ref 29, .long l] (ab_sJ h 29 24 s) = some (none, ab_sJ h 29 24 (31 * s + l)) := by
  rw [r191, b191_0, zJJ, zj_eq]
set_option maxHeartbeats 1000000 in
theorem cp_digest (X : ab_X) (d : Nat) {h : ab_H} (hI : zInv h) : zCp X (d + 30) 103 190 [] h := by
  obtain ⟨i1, i2, i3, i4, i5, i6, i7⟩ := id hI
  obtain ⟨N, dc, hN, hdc, n0, n1, n2, n3, n4, n5, k1, k2, k3, k4, k5, t1, t2, t3, t4⟩ := znow hI
  -- counts
  obtain ⟨s1, c1, m1⟩ := zdg (fun s k v => ab_ex X (d + 30) 103 6 [.ref 0, .long s, .null, .int (nI k), v] [] h) (fun s k v => ab_ex X (d + 30) 190 9 [.ref 29, .int (nI k), v] [] (ab_sJ h 29 24 s)) 10 (fun k s hk => by
    obtain ⟨v, e1, e2⟩ := zcount_v X (d + 9) hk hI
    refine ⟨31 * s + v.toInt64, fun w => ⟨w, ?_⟩, fun w => ⟨w, ?_⟩⟩
    · rw [l103_6]
      simp (discharger := omega) only [b103_12, b103_22, e1, zpu_s, zpu_n, Option.bind_some, zlit, Bool.false_eq_true, zlt_t, zlt_f, zeq_t, zeq_f, nI_add, pk_mul, zb_0, zb_n0, not_true_eq_false, not_false_eq_true, Classical.not_not, if_true, if_false, ite_true, ite_false, and_self, and_true, true_and, and_false, false_and, or_self, or_true, true_or, or_false, false_or, reduceIte]
    · have e3 := e2 (ab_sJ h 29 24 s) (fun _ _ => rfl)
      rw [l190_9]
      simp (discharger := omega) only [b190_15, b190_21, b190_25, e3, s191, zpu_s, zpu_n, Option.bind_some, zlit, Bool.false_eq_true, zlt_t, zlt_f, zeq_t, zeq_f, nI_add, pk_mul, zb_0, zb_n0, not_true_eq_false, not_false_eq_true, Classical.not_not, if_true, if_false, ite_true, ite_false, and_self, and_true, true_and, and_false, false_and, or_self, or_true, true_or, or_false, false_or, reduceIte]) 17
  -- houses
  obtain ⟨s2, c2, m2⟩ := zdg (fun s k v => ab_ex X (d + 30) 103 33 [.ref 0, .long s, .null, .int (nI k), v] [] h) (fun s k v => ab_ex X (d + 30) 190 33 [.ref 29, .int (nI k), v] [] (ab_sJ h 29 24 s)) N (fun k s hk => by
    obtain ⟨s', a1, a2⟩ := zdg (fun s j v => ab_ex X (d + 30) 103 47 [.ref 0, .long s, .null, .int (nI k), .int (nI j)] [] h) (fun s j v => ab_ex X (d + 30) 190 45 [.ref 29, .int (nI k), .int (nI j)] [] (ab_sJ h 29 24 s)) 5 (fun j s hj => by
      obtain ⟨v, e1, e2⟩ := zhouse_v X (d + 9) hj hN hk (k1 k hk) (k2 k hk) (k3 k hk) (k4 k hk) (k5 k hk) (t1 k hk)
      refine ⟨31 * s + v.toInt64, fun w => ⟨w, ?_⟩, fun w => ⟨w, ?_⟩⟩
      · rw [l103_47]
        simp (discharger := omega) only [b103_53, b103_68, e1, zpu_s, zpu_n, Option.bind_some, zlit, Bool.false_eq_true, zlt_t, zlt_f, zeq_t, zeq_f, nI_add, pk_mul, zb_0, zb_n0, not_true_eq_false, not_false_eq_true, Classical.not_not, if_true, if_false, ite_true, ite_false, and_self, and_true, true_and, and_false, false_and, or_self, or_true, true_or, or_false, false_or, reduceIte]
      · have e3 := e2 (ab_sJ h 29 24 s) (fun _ _ => rfl)
        rw [l190_45]
        simp (discharger := omega) only [b190_50, b190_57, b190_61, e3, s191, zpu_s, zpu_n, Option.bind_some, zlit, Bool.false_eq_true, zlt_t, zlt_f, zeq_t, zeq_f, nI_add, pk_mul, zb_0, zb_n0, not_true_eq_false, not_false_eq_true, Classical.not_not, if_true, if_false, ite_true, ite_false, and_self, and_true, true_and, and_false, false_and, or_self, or_true, true_or, or_false, false_or, reduceIte]) s
    refine ⟨s', fun w => ⟨.int (nI 5), ?_⟩, fun w => ⟨.int (nI 5), ?_⟩⟩
    · obtain ⟨-, e⟩ := a1 .null
      rw [l103_33, n2]
      simp (discharger := omega) only [b103_44, zlit, Bool.false_eq_true, zlt_t, zlt_f, zeq_t, zeq_f, nI_add, pk_mul, zb_0, zb_n0, not_true_eq_false, not_false_eq_true, Classical.not_not, if_true, if_false, ite_true, ite_false, and_self, and_true, true_and, and_false, false_and, or_self, or_true, true_or, or_false, false_or, reduceIte]
      rw [e, l103_47]
      simp (discharger := omega) only [b103_77, zlit, Bool.false_eq_true, zlt_t, zlt_f, zeq_t, zeq_f, nI_add, pk_mul, zb_0, zb_n0, not_true_eq_false, not_false_eq_true, Classical.not_not, if_true, if_false, ite_true, ite_false, and_self, and_true, true_and, and_false, false_and, or_self, or_true, true_or, or_false, false_or, reduceIte]
    · obtain ⟨-, e⟩ := a2 .null
      rw [l190_33]
      simp (discharger := omega) only [zd30, zg_J, n5, b190_43, zlit, Bool.false_eq_true, zlt_t, zlt_f, zeq_t, zeq_f, nI_add, pk_mul, zb_0, zb_n0, not_true_eq_false, not_false_eq_true, Classical.not_not, if_true, if_false, ite_true, ite_false, and_self, and_true, true_and, and_false, false_and, or_self, or_true, true_or, or_false, false_or, reduceIte]
      rw [e, l190_45]
      simp (discharger := omega) only [b190_67, zlit, Bool.false_eq_true, zlt_t, zlt_f, zeq_t, zeq_f, nI_add, pk_mul, zb_0, zb_n0, not_true_eq_false, not_false_eq_true, Classical.not_not, if_true, if_false, ite_true, ite_false, and_self, and_true, true_and, and_false, false_and, or_self, or_true, true_or, or_false, false_or, reduceIte]) s1
  -- what is kept
  obtain ⟨s3, c3, m3⟩ := zdg (fun s k v => ab_ex X (d + 30) 103 85 [.ref 0, .long s, .null, .int (nI k), v] [] h) (fun s k v => ab_ex X (d + 30) 190 75 [.ref 29, .int (nI k), v] [] (ab_sJ h 29 24 s)) 3 (fun k s hk => by
    refine ⟨31 * s + (ab_gI h 31 k).toInt64, fun w => ⟨w, ?_⟩, fun w => ⟨w, ?_⟩⟩
    · rw [l103_85]
      rcases i6 k hk with ⟨a1, a2⟩ | ⟨N', dc', a0, a1, a2⟩
      · have a2' : ab_gI h (49 + 8 * k) 7 = nI 0 := a2
        rw [a1]
        simp (discharger := omega) only [b103_90, b103_119, b103_120, zL_kept, zP_ob, a2', zlit, Bool.false_eq_true, zlt_t, zlt_f, zeq_t, zeq_f, nI_add, pk_mul, zb_0, zb_n0, not_true_eq_false, not_false_eq_true, Classical.not_not, if_true, if_false, ite_true, ite_false, and_self, and_true, true_and, and_false, false_and, or_self, or_true, true_or, or_false, false_or, reduceIte]
      · have h1 := a2.2.2.1
        have h2 := a2.2.2.2.1
        have h3 := a2.1
        rw [a1]
        simp (discharger := omega) only [b103_90, b103_107, b103_120, zL_kept, zP_ob, h1, h2, zlit, Bool.false_eq_true, zlt_t, zlt_f, zeq_t, zeq_f, nI_add, pk_mul, zb_0, zb_n0, not_true_eq_false, not_false_eq_true, Classical.not_not, if_true, if_false, ite_true, ite_false, and_self, and_true, true_and, and_false, false_and, or_self, or_true, true_or, or_false, false_or, reduceIte]
    · rw [l190_75]
      simp (discharger := omega) only [b190_80, b190_91, zd31, zg_J, s191, zpu_s, zpu_n, Option.bind_some, zlit, Bool.false_eq_true, zlt_t, zlt_f, zeq_t, zeq_f, nI_add, pk_mul, zb_0, zb_n0, not_true_eq_false, not_false_eq_true, Classical.not_not, if_true, if_false, ite_true, ite_false, and_self, and_true, true_and, and_false, false_and, or_self, or_true, true_or, or_false, false_or, reduceIte]) s2
  -- rows
  obtain ⟨s4, c4, m4⟩ := zdg (fun s k v => ab_ex X (d + 30) 103 131 [.ref 0, .long s, .null, .int (nI k), v] [] h) (fun s k v => ab_ex X (d + 30) 190 99 [.ref 29, .int (nI k), v] [] (ab_sJ h 29 24 s)) 6 (fun k s hk => by
    obtain ⟨b1, b2, b3⟩ := i3 k hk
    rcases b2 with b2 | ⟨n, hn, b2⟩
    · refine ⟨31 * s + (-nI 1).toInt64, fun w => ⟨.int (nI 0), ?_⟩, fun w => ⟨.int (nI 0), ?_⟩⟩
      · have b1' : ab_gI h 8 k = -nI 1 := b1.trans b2
        have hf : (nI 0 < -nI 1) = False := eq_false (by decide)
        rw [l103_131]
        simp (discharger := omega) only [b103_137, zd8, b1', zlit, Bool.false_eq_true, zlt_t, zlt_f, zeq_t, zeq_f, nI_add, pk_mul, zb_0, zb_n0, not_true_eq_false, not_false_eq_true, Classical.not_not, if_true, if_false, ite_true, ite_false, and_self, and_true, true_and, and_false, false_and, or_self, or_true, true_or, or_false, false_or, reduceIte]
        rw [l103_154]
        simp (discharger := omega) only [b103_188, zd8, b1', hf, zlit, Bool.false_eq_true, zlt_t, zlt_f, zeq_t, zeq_f, nI_add, pk_mul, zb_0, zb_n0, not_true_eq_false, not_false_eq_true, Classical.not_not, if_true, if_false, ite_true, ite_false, and_self, and_true, true_and, and_false, false_and, or_self, or_true, true_or, or_false, false_or, reduceIte]
      · have b2' : ab_gI h 33 k = -nI 1 := b2
        have hf : (nI 0 < -nI 1) = False := eq_false (by decide)
        rw [l190_99]
        simp (discharger := omega) only [b190_105, b190_116, zd33, zg_J, b2', s191, zpu_s, zpu_n, Option.bind_some, zlit, Bool.false_eq_true, zlt_t, zlt_f, zeq_t, zeq_f, nI_add, pk_mul, zb_0, zb_n0, not_true_eq_false, not_false_eq_true, Classical.not_not, if_true, if_false, ite_true, ite_false, and_self, and_true, true_and, and_false, false_and, or_self, or_true, true_or, or_false, false_or, reduceIte]
        rw [l190_118]
        simp (discharger := omega) only [b190_150, zd33, zg_J, b2', hf, zlit, Bool.false_eq_true, zlt_t, zlt_f, zeq_t, zeq_f, nI_add, pk_mul, zb_0, zb_n0, not_true_eq_false, not_false_eq_true, Classical.not_not, if_true, if_false, ite_true, ite_false, and_self, and_true, true_and, and_false, false_and, or_self, or_true, true_or, or_false, false_or, reduceIte]
    · have b1' : ab_gI h 8 k = nI n := b1.trans b2
      obtain ⟨s', a1, a2⟩ := zdg (fun s j v => ab_ex X (d + 30) 103 154 [.ref 0, .long s, .null, .int (nI k), .int (nI j)] [] h) (fun s j v => ab_ex X (d + 30) 190 118 [.ref 29, .int (nI k), .int (nI j)] [] (ab_sJ h 29 24 s)) n (fun j s hj => by
        have b3' := b3 j (by omega)
        refine ⟨31 * s + (ab_gI h 32 (40 * k + j)).toInt64, fun w => ⟨w, ?_⟩, fun w => ⟨w, ?_⟩⟩
        · rw [l103_154]
          simp (discharger := omega) only [b103_165, zd8, b1', zL_rows, zR_ld, b3', zpu_s, zpu_n, Option.bind_some, zlit, Bool.false_eq_true, zlt_t, zlt_f, zeq_t, zeq_f, nI_add, pk_mul, zb_0, zb_n0, not_true_eq_false, not_false_eq_true, Classical.not_not, if_true, if_false, ite_true, ite_false, and_self, and_true, true_and, and_false, false_and, or_self, or_true, true_or, or_false, false_or, reduceIte]
        · rw [l190_118]
          simp (discharger := omega) only [b190_128, b190_144, zd33, zd32, zg_J, b2, s191, zpu_s, zpu_n, Option.bind_some, zlit, Bool.false_eq_true, zlt_t, zlt_f, zeq_t, zeq_f, nI_add, pk_mul, zb_0, zb_n0, not_true_eq_false, not_false_eq_true, Classical.not_not, if_true, if_false, ite_true, ite_false, and_self, and_true, true_and, and_false, false_and, or_self, or_true, true_or, or_false, false_or, reduceIte]) (31 * s + (nI n).toInt64)
      refine ⟨s', fun w => ⟨.int (nI n), ?_⟩, fun w => ⟨.int (nI n), ?_⟩⟩
      · obtain ⟨-, e⟩ := a1 .null
        rw [l103_131]
        simp (discharger := omega) only [b103_137, zd8, b1', zlit, Bool.false_eq_true, zlt_t, zlt_f, zeq_t, zeq_f, nI_add, pk_mul, zb_0, zb_n0, not_true_eq_false, not_false_eq_true, Classical.not_not, if_true, if_false, ite_true, ite_false, and_self, and_true, true_and, and_false, false_and, or_self, or_true, true_or, or_false, false_or, reduceIte]
        rw [e, l103_154]
        simp (discharger := omega) only [b103_188, zd8, b1', zlit, Bool.false_eq_true, zlt_t, zlt_f, zeq_t, zeq_f, nI_add, pk_mul, zb_0, zb_n0, not_true_eq_false, not_false_eq_true, Classical.not_not, if_true, if_false, ite_true, ite_false, and_self, and_true, true_and, and_false, false_and, or_self, or_true, true_or, or_false, false_or, reduceIte]
      · obtain ⟨-, e⟩ := a2 .null
        rw [l190_99]
        simp (discharger := omega) only [b190_105, b190_116, zd33, zg_J, b2, s191, zpu_s, zpu_n, Option.bind_some, zlit, Bool.false_eq_true, zlt_t, zlt_f, zeq_t, zeq_f, nI_add, pk_mul, zb_0, zb_n0, not_true_eq_false, not_false_eq_true, Classical.not_not, if_true, if_false, ite_true, ite_false, and_self, and_true, true_and, and_false, false_and, or_self, or_true, true_or, or_false, false_or, reduceIte]
        rw [e, l190_118]
        simp (discharger := omega) only [b190_150, zd33, zg_J, b2, zlit, Bool.false_eq_true, zlt_t, zlt_f, zeq_t, zeq_f, nI_add, pk_mul, zb_0, zb_n0, not_true_eq_false, not_false_eq_true, Classical.not_not, if_true, if_false, ite_true, ite_false, and_self, and_true, true_and, and_false, false_and, or_self, or_true, true_or, or_false, false_or, reduceIte]) s3
  -- texts
  obtain ⟨s5, c5, m5⟩ := zdg (fun s k v => ab_ex X (d + 30) 103 196 [.ref 0, .long s, .null, .int (nI k), v] [] h) (fun s k v => ab_ex X (d + 30) 190 158 [.ref 29, .int (nI k), v] [] (ab_sJ h 29 24 s)) 4 (fun k s hk => by
    obtain ⟨b1, b2, b3⟩ := i4 k hk
    rcases b2 with b2 | ⟨n, hn, b2⟩
    · refine ⟨31 * s + (-nI 1).toInt64, fun w => ⟨.int (nI 0), ?_⟩, fun w => ⟨.int (nI 0), ?_⟩⟩
      · have b1' : ab_gI h 14 k = -nI 1 := b1.trans b2
        have hf : (nI 0 < -nI 1) = False := eq_false (by decide)
        rw [l103_196]
        simp (discharger := omega) only [b103_201, zd14, b1', zlit, Bool.false_eq_true, zlt_t, zlt_f, zeq_t, zeq_f, nI_add, pk_mul, zb_0, zb_n0, not_true_eq_false, not_false_eq_true, Classical.not_not, if_true, if_false, ite_true, ite_false, and_self, and_true, true_and, and_false, false_and, or_self, or_true, true_or, or_false, false_or, reduceIte]
        rw [l103_218]
        simp (discharger := omega) only [b103_252, zd14, b1', hf, zlit, Bool.false_eq_true, zlt_t, zlt_f, zeq_t, zeq_f, nI_add, pk_mul, zb_0, zb_n0, not_true_eq_false, not_false_eq_true, Classical.not_not, if_true, if_false, ite_true, ite_false, and_self, and_true, true_and, and_false, false_and, or_self, or_true, true_or, or_false, false_or, reduceIte]
      · have b2' : ab_gI h 35 k = -nI 1 := b2
        have hf : (nI 0 < -nI 1) = False := eq_false (by decide)
        rw [l190_158]
        simp (discharger := omega) only [b190_163, b190_174, zd35, zg_J, b2', s191, zpu_s, zpu_n, Option.bind_some, zlit, Bool.false_eq_true, zlt_t, zlt_f, zeq_t, zeq_f, nI_add, pk_mul, zb_0, zb_n0, not_true_eq_false, not_false_eq_true, Classical.not_not, if_true, if_false, ite_true, ite_false, and_self, and_true, true_and, and_false, false_and, or_self, or_true, true_or, or_false, false_or, reduceIte]
        rw [l190_176]
        simp (discharger := omega) only [b190_208, zd35, zg_J, b2', hf, zlit, Bool.false_eq_true, zlt_t, zlt_f, zeq_t, zeq_f, nI_add, pk_mul, zb_0, zb_n0, not_true_eq_false, not_false_eq_true, Classical.not_not, if_true, if_false, ite_true, ite_false, and_self, and_true, true_and, and_false, false_and, or_self, or_true, true_or, or_false, false_or, reduceIte]
    · have b1' : ab_gI h 14 k = nI n := b1.trans b2
      obtain ⟨s', a1, a2⟩ := zdg (fun s j v => ab_ex X (d + 30) 103 218 [.ref 0, .long s, .null, .int (nI k), .int (nI j)] [] h) (fun s j v => ab_ex X (d + 30) 190 176 [.ref 29, .int (nI k), .int (nI j)] [] (ab_sJ h 29 24 s)) n (fun j s hj => by
        have b3' := (b3 j (by omega)).1
        refine ⟨31 * s + (ab_gI h 34 (60 * k + j)).toInt64, fun w => ⟨w, ?_⟩, fun w => ⟨w, ?_⟩⟩
        · rw [l103_218]
          simp (discharger := omega) only [b103_229, zd14, b1', zL_texts, zT_lb, b3', zpu_s, zpu_n, Option.bind_some, zlit, Bool.false_eq_true, zlt_t, zlt_f, zeq_t, zeq_f, nI_add, pk_mul, zb_0, zb_n0, not_true_eq_false, not_false_eq_true, Classical.not_not, if_true, if_false, ite_true, ite_false, and_self, and_true, true_and, and_false, false_and, or_self, or_true, true_or, or_false, false_or, reduceIte]
        · rw [l190_176]
          simp (discharger := omega) only [b190_186, b190_202, zd35, zd34, zg_J, b2, s191, zpu_s, zpu_n, Option.bind_some, zlit, Bool.false_eq_true, zlt_t, zlt_f, zeq_t, zeq_f, nI_add, pk_mul, zb_0, zb_n0, not_true_eq_false, not_false_eq_true, Classical.not_not, if_true, if_false, ite_true, ite_false, and_self, and_true, true_and, and_false, false_and, or_self, or_true, true_or, or_false, false_or, reduceIte]) (31 * s + (nI n).toInt64)
      refine ⟨s', fun w => ⟨.int (nI n), ?_⟩, fun w => ⟨.int (nI n), ?_⟩⟩
      · obtain ⟨-, e⟩ := a1 .null
        rw [l103_196]
        simp (discharger := omega) only [b103_201, zd14, b1', zlit, Bool.false_eq_true, zlt_t, zlt_f, zeq_t, zeq_f, nI_add, pk_mul, zb_0, zb_n0, not_true_eq_false, not_false_eq_true, Classical.not_not, if_true, if_false, ite_true, ite_false, and_self, and_true, true_and, and_false, false_and, or_self, or_true, true_or, or_false, false_or, reduceIte]
        rw [e, l103_218]
        simp (discharger := omega) only [b103_252, zd14, b1', zlit, Bool.false_eq_true, zlt_t, zlt_f, zeq_t, zeq_f, nI_add, pk_mul, zb_0, zb_n0, not_true_eq_false, not_false_eq_true, Classical.not_not, if_true, if_false, ite_true, ite_false, and_self, and_true, true_and, and_false, false_and, or_self, or_true, true_or, or_false, false_or, reduceIte]
      · obtain ⟨-, e⟩ := a2 .null
        rw [l190_158]
        simp (discharger := omega) only [b190_163, b190_174, zd35, zg_J, b2, s191, zpu_s, zpu_n, Option.bind_some, zlit, Bool.false_eq_true, zlt_t, zlt_f, zeq_t, zeq_f, nI_add, pk_mul, zb_0, zb_n0, not_true_eq_false, not_false_eq_true, Classical.not_not, if_true, if_false, ite_true, ite_false, and_self, and_true, true_and, and_false, false_and, or_self, or_true, true_or, or_false, false_or, reduceIte]
        rw [e, l190_176]
        simp (discharger := omega) only [b190_208, zd35, zg_J, b2, zlit, Bool.false_eq_true, zlt_t, zlt_f, zeq_t, zeq_f, nI_add, pk_mul, zb_0, zb_n0, not_true_eq_false, not_false_eq_true, Classical.not_not, if_true, if_false, ite_true, ite_false, and_self, and_true, true_and, and_false, false_and, or_self, or_true, true_or, or_false, false_or, reduceIte]) s4
  refine zCp_mk (v := .long s5) (h1 := h) (h2 := ab_sJ h 29 24 s5) ?_ ?_ ?_
  · obtain ⟨w1, e1⟩ := c1 .null
    obtain ⟨w2, e2⟩ := c2 w1
    obtain ⟨w3, e3⟩ := c3 w2
    obtain ⟨w4, e4⟩ := c4 w3
    obtain ⟨w5, e5⟩ := c5 w4
    rw [r103, b103_0]
    refine Eq.trans e1 ?_
    rw [l103_6]
    simp (discharger := omega) only [b103_31, zlit, Bool.false_eq_true, zlt_t, zlt_f, zeq_t, zeq_f, nI_add, pk_mul, zb_0, zb_n0, not_true_eq_false, not_false_eq_true, Classical.not_not, if_true, if_false, ite_true, ite_false, and_self, and_true, true_and, and_false, false_and, or_self, or_true, true_or, or_false, false_or, reduceIte]
    rw [e2, l103_33, n2]
    simp (discharger := omega) only [b103_83, zlit, Bool.false_eq_true, zlt_t, zlt_f, zeq_t, zeq_f, nI_add, pk_mul, zb_0, zb_n0, not_true_eq_false, not_false_eq_true, Classical.not_not, if_true, if_false, ite_true, ite_false, and_self, and_true, true_and, and_false, false_and, or_self, or_true, true_or, or_false, false_or, reduceIte]
    rw [e3, l103_85]
    simp (discharger := omega) only [b103_129, zlit, Bool.false_eq_true, zlt_t, zlt_f, zeq_t, zeq_f, nI_add, pk_mul, zb_0, zb_n0, not_true_eq_false, not_false_eq_true, Classical.not_not, if_true, if_false, ite_true, ite_false, and_self, and_true, true_and, and_false, false_and, or_self, or_true, true_or, or_false, false_or, reduceIte]
    rw [e4, l103_131]
    simp (discharger := omega) only [b103_194, zlit, Bool.false_eq_true, zlt_t, zlt_f, zeq_t, zeq_f, nI_add, pk_mul, zb_0, zb_n0, not_true_eq_false, not_false_eq_true, Classical.not_not, if_true, if_false, ite_true, ite_false, and_self, and_true, true_and, and_false, false_and, or_self, or_true, true_or, or_false, false_or, reduceIte]
    rw [e5, l103_196]
    simp (discharger := omega) only [b103_258, zlit, Bool.false_eq_true, zlt_t, zlt_f, zeq_t, zeq_f, nI_add, pk_mul, zb_0, zb_n0, not_true_eq_false, not_false_eq_true, Classical.not_not, if_true, if_false, ite_true, ite_false, and_self, and_true, true_and, and_false, false_and, or_self, or_true, true_or, or_false, false_or, reduceIte]
  · obtain ⟨w1, e1⟩ := m1 .null
    obtain ⟨w2, e2⟩ := m2 w1
    obtain ⟨w3, e3⟩ := m3 w2
    obtain ⟨w4, e4⟩ := m4 w3
    obtain ⟨w5, e5⟩ := m5 w4
    rw [r190, b190_0]
    refine Eq.trans e1 ?_
    rw [l190_9]
    simp (discharger := omega) only [b190_31, zlit, Bool.false_eq_true, zlt_t, zlt_f, zeq_t, zeq_f, nI_add, pk_mul, zb_0, zb_n0, not_true_eq_false, not_false_eq_true, Classical.not_not, if_true, if_false, ite_true, ite_false, and_self, and_true, true_and, and_false, false_and, or_self, or_true, true_or, or_false, false_or, reduceIte]
    rw [e2, l190_33]
    simp (discharger := omega) only [zd30, zg_J, n5, b190_73, zlit, Bool.false_eq_true, zlt_t, zlt_f, zeq_t, zeq_f, nI_add, pk_mul, zb_0, zb_n0, not_true_eq_false, not_false_eq_true, Classical.not_not, if_true, if_false, ite_true, ite_false, and_self, and_true, true_and, and_false, false_and, or_self, or_true, true_or, or_false, false_or, reduceIte]
    rw [e3, l190_75]
    simp (discharger := omega) only [b190_97, zlit, Bool.false_eq_true, zlt_t, zlt_f, zeq_t, zeq_f, nI_add, pk_mul, zb_0, zb_n0, not_true_eq_false, not_false_eq_true, Classical.not_not, if_true, if_false, ite_true, ite_false, and_self, and_true, true_and, and_false, false_and, or_self, or_true, true_or, or_false, false_or, reduceIte]
    rw [e4, l190_99]
    simp (discharger := omega) only [b190_156, zlit, Bool.false_eq_true, zlt_t, zlt_f, zeq_t, zeq_f, nI_add, pk_mul, zb_0, zb_n0, not_true_eq_false, not_false_eq_true, Classical.not_not, if_true, if_false, ite_true, ite_false, and_self, and_true, true_and, and_false, false_and, or_self, or_true, true_or, or_false, false_or, reduceIte]
    rw [e5, l190_158]
    simp (discharger := omega) only [b190_214, zj_eq, zlit, Bool.false_eq_true, zlt_t, zlt_f, zeq_t, zeq_f, nI_add, pk_mul, zb_0, zb_n0, not_true_eq_false, not_false_eq_true, Classical.not_not, if_true, if_false, ite_true, ite_false, and_self, and_true, true_and, and_false, false_and, or_self, or_true, true_or, or_false, false_or, reduceIte]
  · refine zInv_fr0 hI (fun c i _ => rfl) rfl (fun _ _ _ => rfl) (fun c i hc => zj_ne (by omega) _ _ _ _) ?_
    unfold zI_ask at i1 ⊢
    refine ⟨i1.1, i1.2.1, ?_, ?_⟩
    · rw [zj_ne (k := 29) (k' := 0) (by omega), zj_nj (by omega)]; exact i1.2.2.1
    · rw [zj_ne (k := 29) (k' := 0) (by omega), zj_nj (by omega)]; exact i1.2.2.2
