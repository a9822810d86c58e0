/-! rows -/
theorem zlt_t {a b : Nat} (h : a < b) (hb : b < 2147483648) : (nI a < nI b) = True := eq_true (nI_lt h (by omega))
theorem zlt_f {a b : Nat} (h : b ≤ a) (hb : a < 2147483648) : (nI a < nI b) = False := eq_false (nI_nlt h (by omega))
theorem zeq_t (a : Nat) : (nI a = nI a) = True := eq_true rfl
theorem zeq_f {a b : Nat} (h : a ≠ b) (ha : a < 2147483648) (hb : b < 2147483648) : (nI a = nI b) = False := eq_false (fun e => h ((nI_eq (by omega) (by omega)).mp e))
/-- an int is below 0, or a number below n, or neither -/
theorem zix (x : Int32) {n : Nat} (hn : n < 2147483648) : x < nI 0 ∨ (¬ x < nI 0 ∧ ¬ x < nI n) ∨ ∃ j : Nat, j < n ∧ x = nI j := by
  rcases pk_ix x (n := n) (by omega) with h | h | h
  · exact Or.inl h
  · refine Or.inr (Or.inl ⟨fun q => ?_, Int32.not_lt.mpr h⟩)
    have h1 := Int32.lt_iff_toInt_lt.mp q
    have h2 := Int32.le_iff_toInt_le.mp h
    rw [nI_toInt (by omega)] at h1 h2
    omega
  · exact Or.inr (Or.inr h)
theorem zix2 {x : Int32} {n : Nat} (hn : n < 2147483648) (h : ¬ (¬ x < nI 0 ∧ x < nI n)) : (¬ x < nI 0 ∧ x < nI n) = False := eq_false h
theorem s109 (X : ab_X) (d : Nat) {r : Nat} (hr : r < 6) (x : Int32) (h : ab_H) : ab_ru X d 109 [.ref 29, .int (nI r), .int x] h = some (none, zf (ab_sI h 33 r x) 32 (40 * r) 40 0) := by
  have key : ∀ (m k : Nat) (h : ab_H), k + m = 40 → ab_ex X d 109 9 [.ref 29, .int (nI r), .int x, .int (nI k)] [] h = some (none, zf h 32 (40 * r + k) m 0) := by
    intro m
    induction m with
    | zero =>
      intro k h hk
      rw [l109_9]
      simp (discharger := omega) only [b109_33, zf_0, zlit, zlt_t, zlt_f, zeq_t, zeq_f, nI_add, pk_mul, zb_0, zb_n0, not_true_eq_false, not_false_eq_true, Classical.not_not, if_true, if_false, ite_true, ite_false, and_self, and_true, true_and, and_false, false_and, or_self, or_true, true_or, or_false, false_or, reduceIte]
    | succ m ih =>
      intro k h hk
      rw [l109_9]
      simp (discharger := omega) only [b109_15, zlit, zlt_t, zlt_f, zeq_t, zeq_f, nI_add, pk_mul, zb_0, zb_n0, not_true_eq_false, not_false_eq_true, Classical.not_not, if_true, if_false, ite_true, ite_false, and_self, and_true, true_and, and_false, false_and, or_self, or_true, true_or, or_false, false_or, reduceIte, zs32]
      rw [ih (k + 1) _ (by omega), ← Nat.add_assoc, ← zlit 0, zf_s]
  simp (discharger := omega) only [r109, b109_0, zs33, zlit]
  rw [key 40 0 _ (by omega), Nat.add_zero]
  rfl
theorem zCp_mk {X : ab_X} {d Mx Mm : Nat} {as : List Value} {h : ab_H} {v : Value} {h1 h2 : ab_H} (e1 : ab_ru X d Mx (.ref 0 :: as) h = some (some v, h1)) (e2 : ab_ru X d Mm (.ref 29 :: as) h1 = some (some v, h2)) (hI : zInv h2) : zCp X d Mx Mm as h := ⟨v, h1, h2, e1, e2, hI⟩
/-- a finding, on both sides -/
theorem zInv_find {h : ab_H} (hI : zInv h) {f : Nat} (hf : f < 6) : zInv (ab_sI (ab_sI (ab_sI (ab_sI h 0 12 (nI f)) 16 f (ab_gI h 16 f + nI 1)) 29 8 (nI f)) 37 f (ab_gI h 37 f + nI 1)) := by
  obtain ⟨i1, i2, i3, i4, i5, i6, i7⟩ := hI
  refine ⟨?_, ?_, (fun r hr => by simpa (discharger := omega) only [zg_ne, zj_ne, zc_ne, zk_ne, zf_ne, zg_J, zj_I, zc_J, zk_I, zf_J, zg_eq, zg_nj, zj_eq, zj_nj, zf_in, zf_out] using i3 r hr), (fun t ht => by simpa (discharger := omega) only [zg_ne, zj_ne, zc_ne, zk_ne, zf_ne, zg_J, zj_I, zc_J, zk_I, zf_J, zg_eq, zg_nj, zj_eq, zj_nj, zf_in, zf_out] using i4 t ht), ((zI_posts (h := h) (by intro c h1 h2 i; simp (discharger := omega) only [zg_ne, zj_ne, zc_ne, zk_ne, zf_ne, zg_J, zj_I, zc_J, zk_I, zf_J, zg_eq, zg_nj, zj_eq, zj_nj, zf_in, zf_out]) (by intro c h1 h2 i; simp (discharger := omega) only [zg_ne, zj_ne, zc_ne, zk_ne, zf_ne, zg_J, zj_I, zc_J, zk_I, zf_J, zg_eq, zg_nj, zj_eq, zj_nj, zf_in, zf_out]) (by intro i; simp (discharger := omega) only [zg_ne, zj_ne, zc_ne, zk_ne, zf_ne, zg_J, zj_I, zc_J, zk_I, zf_J, zg_eq, zg_nj, zj_eq, zj_nj, zf_in, zf_out]) (by intro i; simp (discharger := omega) only [zg_ne, zj_ne, zc_ne, zk_ne, zf_ne, zg_J, zj_I, zc_J, zk_I, zf_J, zg_eq, zg_nj, zj_eq, zj_nj, zf_in, zf_out]) (by simp (discharger := omega) only [zg_ne, zj_ne, zc_ne, zk_ne, zf_ne, zg_J, zj_I, zc_J, zk_I, zf_J, zg_eq, zg_nj, zj_eq, zj_nj, zf_in, zf_out])).1 i5), ((zI_posts (h := h) (by intro c h1 h2 i; simp (discharger := omega) only [zg_ne, zj_ne, zc_ne, zk_ne, zf_ne, zg_J, zj_I, zc_J, zk_I, zf_J, zg_eq, zg_nj, zj_eq, zj_nj, zf_in, zf_out]) (by intro c h1 h2 i; simp (discharger := omega) only [zg_ne, zj_ne, zc_ne, zk_ne, zf_ne, zg_J, zj_I, zc_J, zk_I, zf_J, zg_eq, zg_nj, zj_eq, zj_nj, zf_in, zf_out]) (by intro i; simp (discharger := omega) only [zg_ne, zj_ne, zc_ne, zk_ne, zf_ne, zg_J, zj_I, zc_J, zk_I, zf_J, zg_eq, zg_nj, zj_eq, zj_nj, zf_in, zf_out]) (by intro i; simp (discharger := omega) only [zg_ne, zj_ne, zc_ne, zk_ne, zf_ne, zg_J, zj_I, zc_J, zk_I, zf_J, zg_eq, zg_nj, zj_eq, zj_nj, zf_in, zf_out]) (by simp (discharger := omega) only [zg_ne, zj_ne, zc_ne, zk_ne, zf_ne, zg_J, zj_I, zc_J, zk_I, zf_J, zg_eq, zg_nj, zj_eq, zj_nj, zf_in, zf_out])).2 i6), (by simpa (discharger := omega) only [zI_sea, zg_ne, zj_ne, zc_ne, zk_ne, zf_ne, zg_J, zj_I, zc_J, zk_I, zf_J, zg_eq, zg_nj, zj_eq, zj_nj, zf_in, zf_out] using i7)⟩
  · obtain ⟨a1, a2, a3, a4⟩ := i1
    simp (discharger := omega) only [zI_ask, zg_ne, zj_ne, zc_ne, zk_ne, zf_ne, zg_J, zj_I, zc_J, zk_I, zf_J, zg_eq, zg_nj, zj_eq, zj_nj, zf_in, zf_out]
    exact ⟨a1, trivial, a3, a4⟩
  · intro g hg
    simp (discharger := omega) only [zg_ne, zj_ne, zc_ne, zk_ne, zf_ne, zg_same, zg_J, zj_I, zj_same, zc_same, zc_J, zk_I, zk_same, zf_same, zf_J]
    rw [i2 f hf, i2 g hg]
set_option maxHeartbeats 1000000 in
theorem cp_row (X : ab_X) (d : Nat) (r n : Int32) {h : ab_H} (hI : zInv h) : zCp X (d + 30) 6 105 [.int r, .int n] h := by
  obtain ⟨i1, i2, i3, i4, i5, i6, i7⟩ := id hI
  by_cases hr : ¬ r < nI 0 ∧ r < nI 6
  · rcases zix n (n := 41) (by omega) with hn | hn | ⟨m, hm, rfl⟩
    · have h40 : ¬ nI 40 < n := fun q => by
        have a1 := Int32.lt_iff_toInt_lt.mp q
        have a2 := Int32.lt_iff_toInt_lt.mp hn
        rw [nI_toInt (by omega)] at a1 a2
        omega
      refine ⟨.int (-nI 3), ab_sI (ab_sI h 0 12 (nI 5)) 16 5 (ab_gI h 16 5 + nI 1), ab_sI (ab_sI (ab_sI (ab_sI h 0 12 (nI 5)) 16 5 (ab_gI h 16 5 + nI 1)) 29 8 (nI 5)) 37 5 (ab_gI h 37 5 + nI 1), ?_, ?_, ?_⟩
      · simp (discharger := omega) only [r6, b6_0, b6_4, b6_7, b6_13, b6_15, b6_19, b6_24, b6_25, b6_35, s7, s8, zpu_s, zpu_n, Option.bind_some, zlit, zlt_t, zlt_f, zeq_t, zeq_f, nI_add, pk_mul, zb_0, zb_n0, not_true_eq_false, not_false_eq_true, Classical.not_not, if_true, if_false, ite_true, ite_false, and_self, and_true, true_and, and_false, false_and, or_self, or_true, true_or, or_false, false_or, reduceIte, hr, hn, h40]
      · simp (discharger := omega) only [r105, b105_0, b105_4, b105_7, b105_13, b105_15, b105_19, b105_24, b105_25, b105_31, s106, s108, zpu_s, zpu_n, Option.bind_some, zlit, zlt_t, zlt_f, zeq_t, zeq_f, nI_add, pk_mul, zb_0, zb_n0, not_true_eq_false, not_false_eq_true, Classical.not_not, if_true, if_false, ite_true, ite_false, and_self, and_true, true_and, and_false, false_and, or_self, or_true, true_or, or_false, false_or, reduceIte, hr, hn, h40, zg_ne, zj_ne, zc_ne, zk_ne, zf_ne]
      · exact zInv_find hI (f := 5) (by omega)
    · have h40 : nI 40 < n := by
        have a1 := Int32.not_lt.mp hn.2
        rw [Int32.lt_iff_toInt_lt]
        have a2 := Int32.le_iff_toInt_le.mp a1
        rw [nI_toInt (by omega)] at a2 ⊢
        omega
      refine ⟨.int (-nI 1), h, h, ?_, ?_, hI⟩
      · simp (discharger := omega) only [r6, b6_0, b6_4, b6_7, b6_13, b6_15, b6_19, b6_24, b6_25, b6_35, s7, s8, zpu_s, zpu_n, Option.bind_some, zlit, zlt_t, zlt_f, zeq_t, zeq_f, nI_add, pk_mul, zb_0, zb_n0, not_true_eq_false, not_false_eq_true, Classical.not_not, if_true, if_false, ite_true, ite_false, and_self, and_true, true_and, and_false, false_and, or_self, or_true, true_or, or_false, false_or, reduceIte, hr, h40]
      · simp (discharger := omega) only [r105, b105_0, b105_4, b105_7, b105_13, b105_15, b105_19, b105_24, b105_25, b105_31, s106, s108, zpu_s, zpu_n, Option.bind_some, zlit, zlt_t, zlt_f, zeq_t, zeq_f, nI_add, pk_mul, zb_0, zb_n0, not_true_eq_false, not_false_eq_true, Classical.not_not, if_true, if_false, ite_true, ite_false, and_self, and_true, true_and, and_false, false_and, or_self, or_true, true_or, or_false, false_or, reduceIte, hr, h40]
    · rcases zix r (n := 6) (by omega) with q | q | ⟨j, hj, rfl⟩
      · exact absurd q hr.1
      · exact absurd hr.2 q.2
      · refine ⟨.int (nI m), ab_sI (zf h (2 + j) 0 40 (nI 0)) 8 j (nI m), zf (ab_sI (ab_sI (zf h (2 + j) 0 40 (nI 0)) 8 j (nI m)) 33 j (nI m)) 32 (40 * j) 40 0, ?_, ?_, ?_⟩
        · simp (discharger := omega) only [r6, b6_0, b6_4, b6_7, b6_13, b6_15, b6_19, b6_24, b6_25, b6_35, s7, s8, s2R, zpu_s, zpu_n, Option.bind_some, zlit, zlt_t, zlt_f, zeq_t, zeq_f, nI_add, pk_mul, zb_0, zb_n0, not_true_eq_false, not_false_eq_true, Classical.not_not, if_true, if_false, ite_true, ite_false, and_self, and_true, true_and, and_false, false_and, or_self, or_true, true_or, or_false, false_or, reduceIte, zL_rows, zs8]
        · simp (discharger := omega) only [r105, b105_0, b105_4, b105_7, b105_13, b105_15, b105_19, b105_24, b105_25, b105_31, s106, s108, s109, zpu_s, zpu_n, Option.bind_some, zlit, zlt_t, zlt_f, zeq_t, zeq_f, nI_add, pk_mul, zb_0, zb_n0, not_true_eq_false, not_false_eq_true, Classical.not_not, if_true, if_false, ite_true, ite_false, and_self, and_true, true_and, and_false, false_and, or_self, or_true, true_or, or_false, false_or, reduceIte]
        · refine ⟨(by simpa (discharger := omega) only [zI_ask, zg_ne, zj_ne, zc_ne, zk_ne, zf_ne, zg_J, zj_I, zc_J, zk_I, zf_J, zg_eq, zg_nj, zj_eq, zj_nj, zf_in, zf_out] using i1), (fun f hf => by simpa (discharger := omega) only [zg_ne, zj_ne, zc_ne, zk_ne, zf_ne, zg_J, zj_I, zc_J, zk_I, zf_J, zg_eq, zg_nj, zj_eq, zj_nj, zf_in, zf_out] using i2 f hf), ?_, (fun t ht => by simpa (discharger := omega) only [zg_ne, zj_ne, zc_ne, zk_ne, zf_ne, zg_J, zj_I, zc_J, zk_I, zf_J, zg_eq, zg_nj, zj_eq, zj_nj, zf_in, zf_out] using i4 t ht), ((zI_posts (h := h) (by intro c h1 h2 i; simp (discharger := omega) only [zg_ne, zj_ne, zc_ne, zk_ne, zf_ne, zg_J, zj_I, zc_J, zk_I, zf_J, zg_eq, zg_nj, zj_eq, zj_nj, zf_in, zf_out]) (by intro c h1 h2 i; simp (discharger := omega) only [zg_ne, zj_ne, zc_ne, zk_ne, zf_ne, zg_J, zj_I, zc_J, zk_I, zf_J, zg_eq, zg_nj, zj_eq, zj_nj, zf_in, zf_out]) (by intro i; simp (discharger := omega) only [zg_ne, zj_ne, zc_ne, zk_ne, zf_ne, zg_J, zj_I, zc_J, zk_I, zf_J, zg_eq, zg_nj, zj_eq, zj_nj, zf_in, zf_out]) (by intro i; simp (discharger := omega) only [zg_ne, zj_ne, zc_ne, zk_ne, zf_ne, zg_J, zj_I, zc_J, zk_I, zf_J, zg_eq, zg_nj, zj_eq, zj_nj, zf_in, zf_out]) (by simp (discharger := omega) only [zg_ne, zj_ne, zc_ne, zk_ne, zf_ne, zg_J, zj_I, zc_J, zk_I, zf_J, zg_eq, zg_nj, zj_eq, zj_nj, zf_in, zf_out])).1 i5), ((zI_posts (h := h) (by intro c h1 h2 i; simp (discharger := omega) only [zg_ne, zj_ne, zc_ne, zk_ne, zf_ne, zg_J, zj_I, zc_J, zk_I, zf_J, zg_eq, zg_nj, zj_eq, zj_nj, zf_in, zf_out]) (by intro c h1 h2 i; simp (discharger := omega) only [zg_ne, zj_ne, zc_ne, zk_ne, zf_ne, zg_J, zj_I, zc_J, zk_I, zf_J, zg_eq, zg_nj, zj_eq, zj_nj, zf_in, zf_out]) (by intro i; simp (discharger := omega) only [zg_ne, zj_ne, zc_ne, zk_ne, zf_ne, zg_J, zj_I, zc_J, zk_I, zf_J, zg_eq, zg_nj, zj_eq, zj_nj, zf_in, zf_out]) (by intro i; simp (discharger := omega) only [zg_ne, zj_ne, zc_ne, zk_ne, zf_ne, zg_J, zj_I, zc_J, zk_I, zf_J, zg_eq, zg_nj, zj_eq, zj_nj, zf_in, zf_out]) (by simp (discharger := omega) only [zg_ne, zj_ne, zc_ne, zk_ne, zf_ne, zg_J, zj_I, zc_J, zk_I, zf_J, zg_eq, zg_nj, zj_eq, zj_nj, zf_in, zf_out])).2 i6), (by simpa (discharger := omega) only [zI_sea, zg_ne, zj_ne, zc_ne, zk_ne, zf_ne, zg_J, zj_I, zc_J, zk_I, zf_J, zg_eq, zg_nj, zj_eq, zj_nj, zf_in, zf_out] using i7)⟩
          intro s hs
          obtain ⟨b1, b2, b3⟩ := i3 s hs
          by_cases e : s = j
          · subst e
            simp (discharger := omega) only [zg_ne, zj_ne, zc_ne, zk_ne, zf_ne, zg_J, zj_I, zc_J, zk_I, zf_J, zg_eq, zg_nj, zj_eq, zj_nj, zf_in, zf_out]
            refine ⟨trivial, Or.inr ⟨m, by omega, rfl⟩, fun k hk => ?_⟩
            simp (discharger := omega) only [zg_ne, zj_ne, zc_ne, zk_ne, zf_ne, zg_J, zj_I, zc_J, zk_I, zf_J, zg_eq, zg_nj, zj_eq, zj_nj, zf_in, zf_out]
            rfl
          · refine ⟨?_, ?_, fun k hk => ?_⟩
            · simpa (discharger := omega) only [zg_ne, zj_ne, zc_ne, zk_ne, zf_ne, zg_J, zj_I, zc_J, zk_I, zf_J, zg_eq, zg_nj, zj_eq, zj_nj, zf_in, zf_out] using b1
            · simpa (discharger := omega) only [zg_ne, zj_ne, zc_ne, zk_ne, zf_ne, zg_J, zj_I, zc_J, zk_I, zf_J, zg_eq, zg_nj, zj_eq, zj_nj, zf_in, zf_out] using b2
            · simpa (discharger := omega) only [zg_ne, zj_ne, zc_ne, zk_ne, zf_ne, zg_J, zj_I, zc_J, zk_I, zf_J, zg_eq, zg_nj, zj_eq, zj_nj, zf_in, zf_out] using b3 k hk
  · refine ⟨.int (-nI 1), h, h, ?_, ?_, hI⟩
    · simp (discharger := omega) only [r6, b6_0, b6_4, b6_7, b6_13, b6_15, b6_19, b6_24, b6_25, b6_35, s7, s8, zpu_s, zpu_n, Option.bind_some, zlit, zlt_t, zlt_f, zeq_t, zeq_f, nI_add, pk_mul, zb_0, zb_n0, not_true_eq_false, not_false_eq_true, Classical.not_not, if_true, if_false, ite_true, ite_false, and_self, and_true, true_and, and_false, false_and, or_self, or_true, true_or, or_false, false_or, reduceIte, hr]
    · simp (discharger := omega) only [r105, b105_0, b105_4, b105_7, b105_13, b105_15, b105_19, b105_24, b105_25, b105_31, s106, s108, zpu_s, zpu_n, Option.bind_some, zlit, zlt_t, zlt_f, zeq_t, zeq_f, nI_add, pk_mul, zb_0, zb_n0, not_true_eq_false, not_false_eq_true, Classical.not_not, if_true, if_false, ite_true, ite_false, and_self, and_true, true_and, and_false, false_and, or_self, or_true, true_or, or_false, false_or, reduceIte, hr]
