/-! asked, upper, lower, finding, findings -/
theorem cp_asked (X : ab_X) (d : Nat) {h : ab_H} (hI : zInv h) : zCp X d 94 181 [] h :=
  ⟨_, h, h, (r94 X d h).trans (b94_0 X d h), by rw [r181, b181_0, ← hI.1.1], hI⟩
theorem cp_upper (X : ab_X) (d : Nat) {h : ab_H} (hI : zInv h) : zCp X d 95 182 [] h :=
  ⟨_, h, h, (r95 X d h).trans (b95_0 X d h), by rw [r182, b182_0, ← hI.1.2.2.1], hI⟩
theorem cp_lower (X : ab_X) (d : Nat) {h : ab_H} (hI : zInv h) : zCp X d 96 183 [] h :=
  ⟨_, h, h, (r96 X d h).trans (b96_0 X d h), by rw [r183, b183_0, ← hI.1.2.2.2], hI⟩
theorem cp_finding (X : ab_X) (d : Nat) {h : ab_H} (hI : zInv h) : zCp X d 101 188 [] h :=
  ⟨_, h, h, (r101 X d h).trans (b101_0 X d h), by rw [r188, b188_0, ← hI.1.2.1], hI⟩
theorem zJ1 : (1 : Int64) = (nI 1).toInt64 := rfl
theorem zJ3 : (3 : Int64) = (nI 3).toInt64 := rfl
theorem zJ5 : (5 : Int64) = (nI 5).toInt64 := rfl
theorem znlt {n : Nat} (hn : n < 2147483647) (x : Int32) : (nI n < x) = ¬ (x < nI (n + 1)) := by
  have := znlt_pred x n hn
  apply propext
  constructor
  · intro h q; exact (this.mpr q) h
  · intro h; exact Classical.not_not.mp (fun q => h (this.mp q))
theorem cp_findings (X : ab_X) (d : Nat) (f : Int32) {h : ab_H} (hI : zInv h) : zCp X (d + 30) 102 189 [.int f] h := by
  rcases zix f (n := 6) (by omega) with q | q | ⟨k, hk, rfl⟩
  · have q1 : f < nI 1 := by
      rw [Int32.lt_iff_toInt_lt, nI_toInt (by omega)] at q ⊢
      omega
    apply zCp_mk
    · simp (discharger := omega) only [r102, b102_0, b102_5, b102_10, b102_12, zlit, zlt_t, zlt_f, zeq_t, zeq_f, nI_add, pk_mul, zb_0, zb_n0, not_true_eq_false, not_false_eq_true, Classical.not_not, if_true, if_false, ite_true, ite_false, and_self, and_true, true_and, and_false, false_and, or_self, or_true, true_or, or_false, false_or, reduceIte, q1]; rfl
    · simp (discharger := omega) only [r189, b189_0, b189_9, b189_12, b189_21, b189_22, s107i, zJ1, zJ5, zpu_s, zpu_n, Option.bind_some, zlit, zlt_t, zlt_f, zeq_t, zeq_f, nI_add, pk_mul, zb_0, zb_n0, not_true_eq_false, not_false_eq_true, Classical.not_not, if_true, if_false, ite_true, ite_false, and_self, and_true, true_and, and_false, false_and, or_self, or_true, true_or, or_false, false_or, reduceIte, q1]; rfl
    · exact hI
  · have q1 : ¬ f < nI 1 := fun z => q.1 (by
      rw [Int32.lt_iff_toInt_lt, nI_toInt (by omega)] at z ⊢
      have := q.1
      rw [Int32.lt_iff_toInt_lt, nI_toInt (by omega)] at this
      have e2 := q.2
      rw [Int32.lt_iff_toInt_lt, nI_toInt (by omega)] at e2
      omega)
    have q2 := q.2
    apply zCp_mk
    · simp (discharger := omega) only [r102, b102_0, b102_5, b102_10, b102_12, zlit, zlt_t, zlt_f, zeq_t, zeq_f, nI_add, pk_mul, zb_0, zb_n0, not_true_eq_false, not_false_eq_true, Classical.not_not, if_true, if_false, ite_true, ite_false, and_self, and_true, true_and, and_false, false_and, or_self, or_true, true_or, or_false, false_or, reduceIte, q1, znlt, q2, Nat.reduceAdd]; rfl
    · simp (discharger := omega) only [r189, b189_0, b189_9, b189_12, b189_21, b189_22, s107i, zJ1, zJ5, zpu_s, zpu_n, Option.bind_some, zlit, zlt_t, zlt_f, zeq_t, zeq_f, nI_add, pk_mul, zb_0, zb_n0, not_true_eq_false, not_false_eq_true, Classical.not_not, if_true, if_false, ite_true, ite_false, and_self, and_true, true_and, and_false, false_and, or_self, or_true, true_or, or_false, false_or, reduceIte, q1, znlt, q2, Nat.reduceAdd]; rfl
    · exact hI
  · by_cases h0 : k = 0
    · subst h0
      apply zCp_mk
      · simp (discharger := omega) only [r102, b102_0, b102_5, b102_10, b102_12, zlit, zlt_t, zlt_f, zeq_t, zeq_f, nI_add, pk_mul, zb_0, zb_n0, not_true_eq_false, not_false_eq_true, Classical.not_not, if_true, if_false, ite_true, ite_false, and_self, and_true, true_and, and_false, false_and, or_self, or_true, true_or, or_false, false_or, reduceIte]; rfl
      · simp (discharger := omega) only [r189, b189_0, b189_9, b189_12, b189_21, b189_22, s107i, zJ1, zJ5, zpu_s, zpu_n, Option.bind_some, zlit, zlt_t, zlt_f, zeq_t, zeq_f, nI_add, pk_mul, zb_0, zb_n0, not_true_eq_false, not_false_eq_true, Classical.not_not, if_true, if_false, ite_true, ite_false, and_self, and_true, true_and, and_false, false_and, or_self, or_true, true_or, or_false, false_or, reduceIte]; rfl
      · exact hI
    · apply zCp_mk
      · simp (discharger := omega) only [r102, b102_0, b102_5, b102_10, b102_12, zlit, zlt_t, zlt_f, zeq_t, zeq_f, nI_add, pk_mul, zb_0, zb_n0, not_true_eq_false, not_false_eq_true, Classical.not_not, if_true, if_false, ite_true, ite_false, and_self, and_true, true_and, and_false, false_and, or_self, or_true, true_or, or_false, false_or, reduceIte, zd16]; rfl
      · simp (discharger := omega) only [r189, b189_0, b189_9, b189_12, b189_21, b189_22, s107i, zJ1, zJ5, zpu_s, zpu_n, Option.bind_some, zlit, zlt_t, zlt_f, zeq_t, zeq_f, nI_add, pk_mul, zb_0, zb_n0, not_true_eq_false, not_false_eq_true, Classical.not_not, if_true, if_false, ite_true, ite_false, and_self, and_true, true_and, and_false, false_and, or_self, or_true, true_or, or_false, false_or, reduceIte, zd37]
        rw [hI.2.1 k hk]
      · exact hI
/-! text, put -/
theorem s17 (X : ab_X) (d : Nat) (x : Int32) (h : ab_H) : ab_ru X d 17 [.int x] h = some (some (.int (zb (¬ x < nI 0 ∧ x < nI 4))), h) := by
  simp only [r17, b17_0, b17_4, b17_9, b17_13, b17_14, zlit, zr0, zr1, zrn0, zrn1, zrb, and_self, and_true, true_and, if_true, if_false, ite_true, ite_false]
  unfold zb
  by_cases h1 : x < nI 0 <;> by_cases h2 : x < nI 4 <;> simp [h1, h2, zlit]
theorem s118 (X : ab_X) (d : Nat) (x : Int32) (h : ab_H) : ab_ru X (d + 1) 118 [.int x] h = some (some (.int (zb (¬ x < nI 0 ∧ x < nI 4))), h) := by
  simp (discharger := omega) only [r118, b118_0, b118_9, zJ0, zJ3, s107i, zpu_s, zpu_n, Option.bind_some, zr0, zr1, zrn0, zrn1, zrb, and_self, and_true, true_and, if_true, if_false, ite_true, ite_false, znlt, Nat.reduceAdd, Classical.not_not]
theorem ztxt_cases {h : ab_H} (i4 : zI_txt h) (r : Int32) : (¬ (¬ r < nI 0 ∧ r < nI 4)) ∨ ∃ j, j < 4 ∧ r = nI j ∧ ab_gI h 14 j = ab_gI h 35 j ∧ (∀ k, k < 60 → ab_gI h (10 + j) k = ab_gI h 34 (60 * j + k) ∧ -128 ≤ (ab_gI h 34 (60 * j + k)).toInt ∧ (ab_gI h 34 (60 * j + k)).toInt ≤ 127) ∧ (ab_gI h 35 j = -nI 1 ∨ ∃ n, n ≤ 60 ∧ ab_gI h 35 j = nI n) := by
  rcases zix r (n := 4) (by omega) with q | q | ⟨j, hj, rfl⟩
  · exact Or.inl (fun z => z.1 q)
  · exact Or.inl (fun z => q.2 z.2)
  · obtain ⟨b1, b2, b3⟩ := i4 j hj
    exact Or.inr ⟨j, hj, rfl, b1, b3, b2⟩
theorem s117l (X : ab_X) (d : Nat) {r : Nat} (hr : r < 4) (x : Int32) : ∀ (m k : Nat) (h : ab_H), k + m = 60 → ab_ex X d 117 34 [.ref 29, .int (nI r), .int x, .int (nI k)] [] h = some (some (.int x), zf h 34 (60 * r + k) m (nI 32)) := by
  intro m
  induction m with
  | zero =>
    intro k h hk
    rw [l117_34]
    simp (discharger := omega) only [b117_59, zf_0, zlit, zlt_t, zlt_f, zeq_t, zeq_f, nI_add, pk_mul, zb_0, zb_n0, not_true_eq_false, not_false_eq_true, Classical.not_not, if_true, if_false, ite_true, ite_false, and_self, and_true, true_and, and_false, false_and, or_self, or_true, true_or, or_false, false_or, reduceIte]
  | succ m ih =>
    intro k h hk
    rw [l117_34]
    simp (discharger := omega) only [b117_40, zlit, zlt_t, zlt_f, zeq_t, zeq_f, nI_add, pk_mul, zb_0, zb_n0, not_true_eq_false, not_false_eq_true, Classical.not_not, if_true, if_false, ite_true, ite_false, and_self, and_true, true_and, and_false, false_and, or_self, or_true, true_or, or_false, false_or, reduceIte, zs34]
    rw [ih (k + 1) _ (by omega), ← Nat.add_assoc, zf_s]
set_option maxHeartbeats 1000000 in
theorem cp_text (X : ab_X) (d : Nat) (r n : Int32) {h : ab_H} (hI : zInv h) : zCp X (d + 30) 16 117 [.int r, .int n] h := by
  obtain ⟨i1, i2, i3, i4, i5, i6, i7⟩ := id hI
  by_cases hr : ¬ r < nI 0 ∧ r < nI 4
  · rcases zix n (n := 61) (by omega) with hn | hn | ⟨m, hm, rfl⟩
    · have h60 : n < nI 61 := by
        rw [Int32.lt_iff_toInt_lt, nI_toInt (by omega)] at hn ⊢
        omega
      apply zCp_mk
      · simp (discharger := omega) only [r16, b16_0, b16_4, b16_7, b16_13, b16_15, b16_19, b16_24, b16_25, b16_36, s17, s8, zpu_s, zpu_n, Option.bind_some, zlit, zlt_t, zlt_f, zeq_t, zeq_f, nI_add, pk_mul, zb_0, zb_n0, not_true_eq_false, not_false_eq_true, Classical.not_not, if_true, if_false, ite_true, ite_false, and_self, and_true, true_and, and_false, false_and, or_self, or_true, true_or, or_false, false_or, reduceIte, hr, hn, h60, znlt, Nat.reduceAdd]; rfl
      · simp (discharger := omega) only [r117, b117_0, b117_4, b117_7, b117_13, b117_15, b117_19, b117_24, b117_25, b117_40, b117_59, s118, s108, zpu_s, zpu_n, Option.bind_some, zlit, zlt_t, zlt_f, zeq_t, zeq_f, nI_add, pk_mul, zb_0, zb_n0, not_true_eq_false, not_false_eq_true, Classical.not_not, if_true, if_false, ite_true, ite_false, and_self, and_true, true_and, and_false, false_and, or_self, or_true, true_or, or_false, false_or, reduceIte, hr, hn, h60, znlt, Nat.reduceAdd, zg_ne, zj_ne, zc_ne, zk_ne, zf_ne]; rfl
      · exact zInv_find hI (f := 5) (by omega)
    · have hn2 := hn.2
      apply zCp_mk
      · simp (discharger := omega) only [r16, b16_0, b16_4, b16_7, b16_13, b16_15, b16_19, b16_24, b16_25, b16_36, s17, s8, zpu_s, zpu_n, Option.bind_some, zlit, zlt_t, zlt_f, zeq_t, zeq_f, nI_add, pk_mul, zb_0, zb_n0, not_true_eq_false, not_false_eq_true, Classical.not_not, if_true, if_false, ite_true, ite_false, and_self, and_true, true_and, and_false, false_and, or_self, or_true, true_or, or_false, false_or, reduceIte, hr, hn2, znlt, Nat.reduceAdd]; rfl
      · simp (discharger := omega) only [r117, b117_0, b117_4, b117_7, b117_13, b117_15, b117_19, b117_24, b117_25, b117_40, b117_59, s118, s108, zpu_s, zpu_n, Option.bind_some, zlit, zlt_t, zlt_f, zeq_t, zeq_f, nI_add, pk_mul, zb_0, zb_n0, not_true_eq_false, not_false_eq_true, Classical.not_not, if_true, if_false, ite_true, ite_false, and_self, and_true, true_and, and_false, false_and, or_self, or_true, true_or, or_false, false_or, reduceIte, hr, hn2, znlt, Nat.reduceAdd, zg_ne, zj_ne, zc_ne, zk_ne, zf_ne]; rfl
      · exact hI
    · rcases zix r (n := 4) (by omega) with q | q | ⟨j, hj, rfl⟩
      · exact absurd q hr.1
      · exact absurd hr.2 q.2
      · apply zCp_mk
        · simp (discharger := omega) only [r16, b16_0, b16_4, b16_7, b16_13, b16_15, b16_19, b16_24, b16_25, b16_36, s17, s8, s18T, zpu_s, zpu_n, Option.bind_some, zlit, zlt_t, zlt_f, zeq_t, zeq_f, nI_add, pk_mul, zb_0, zb_n0, not_true_eq_false, not_false_eq_true, Classical.not_not, if_true, if_false, ite_true, ite_false, and_self, and_true, true_and, and_false, false_and, or_self, or_true, true_or, or_false, false_or, reduceIte, zL_texts, zs14]; rfl
        · simp (discharger := omega) only [r117, b117_0, b117_4, b117_7, b117_13, b117_15, b117_19, b117_24, b117_25, b117_40, b117_59, s118, s108, zpu_s, zpu_n, Option.bind_some, zlit, zlt_t, zlt_f, zeq_t, zeq_f, nI_add, pk_mul, zb_0, zb_n0, not_true_eq_false, not_false_eq_true, Classical.not_not, if_true, if_false, ite_true, ite_false, and_self, and_true, true_and, and_false, false_and, or_self, or_true, true_or, or_false, false_or, reduceIte, zs35]
          rw [s117l X _ hj _ 60 0 _ (by omega)]
        · refine ⟨(by simpa (discharger := omega) only [zI_ask, zg_ne, zj_ne, zc_ne, zk_ne, zf_ne, zg_J, zj_I, zc_J, zk_I, zf_J, zg_eq, zg_nj, zj_eq, zj_nj, zf_in, zf_out] using i1), (fun f hf => by simpa (discharger := omega) only [zg_ne, zj_ne, zc_ne, zk_ne, zf_ne, zg_J, zj_I, zc_J, zk_I, zf_J, zg_eq, zg_nj, zj_eq, zj_nj, zf_in, zf_out] using i2 f hf), (fun r hr => by simpa (discharger := omega) only [zg_ne, zj_ne, zc_ne, zk_ne, zf_ne, zg_J, zj_I, zc_J, zk_I, zf_J, zg_eq, zg_nj, zj_eq, zj_nj, zf_in, zf_out] using i3 r hr), ?_, ((zI_posts (h := h) (by intro c h1 h2 i; simp (discharger := omega) only [zg_ne, zj_ne, zc_ne, zk_ne, zf_ne, zg_J, zj_I, zc_J, zk_I, zf_J, zg_eq, zg_nj, zj_eq, zj_nj, zf_in, zf_out]) (by intro c h1 h2 i; simp (discharger := omega) only [zg_ne, zj_ne, zc_ne, zk_ne, zf_ne, zg_J, zj_I, zc_J, zk_I, zf_J, zg_eq, zg_nj, zj_eq, zj_nj, zf_in, zf_out]) (by intro i; simp (discharger := omega) only [zg_ne, zj_ne, zc_ne, zk_ne, zf_ne, zg_J, zj_I, zc_J, zk_I, zf_J, zg_eq, zg_nj, zj_eq, zj_nj, zf_in, zf_out]) (by intro i; simp (discharger := omega) only [zg_ne, zj_ne, zc_ne, zk_ne, zf_ne, zg_J, zj_I, zc_J, zk_I, zf_J, zg_eq, zg_nj, zj_eq, zj_nj, zf_in, zf_out]) (by simp (discharger := omega) only [zg_ne, zj_ne, zc_ne, zk_ne, zf_ne, zg_J, zj_I, zc_J, zk_I, zf_J, zg_eq, zg_nj, zj_eq, zj_nj, zf_in, zf_out])).1 i5), ((zI_posts (h := h) (by intro c h1 h2 i; simp (discharger := omega) only [zg_ne, zj_ne, zc_ne, zk_ne, zf_ne, zg_J, zj_I, zc_J, zk_I, zf_J, zg_eq, zg_nj, zj_eq, zj_nj, zf_in, zf_out]) (by intro c h1 h2 i; simp (discharger := omega) only [zg_ne, zj_ne, zc_ne, zk_ne, zf_ne, zg_J, zj_I, zc_J, zk_I, zf_J, zg_eq, zg_nj, zj_eq, zj_nj, zf_in, zf_out]) (by intro i; simp (discharger := omega) only [zg_ne, zj_ne, zc_ne, zk_ne, zf_ne, zg_J, zj_I, zc_J, zk_I, zf_J, zg_eq, zg_nj, zj_eq, zj_nj, zf_in, zf_out]) (by intro i; simp (discharger := omega) only [zg_ne, zj_ne, zc_ne, zk_ne, zf_ne, zg_J, zj_I, zc_J, zk_I, zf_J, zg_eq, zg_nj, zj_eq, zj_nj, zf_in, zf_out]) (by simp (discharger := omega) only [zg_ne, zj_ne, zc_ne, zk_ne, zf_ne, zg_J, zj_I, zc_J, zk_I, zf_J, zg_eq, zg_nj, zj_eq, zj_nj, zf_in, zf_out])).2 i6), (by simpa (discharger := omega) only [zI_sea, zg_ne, zj_ne, zc_ne, zk_ne, zf_ne, zg_J, zj_I, zc_J, zk_I, zf_J, zg_eq, zg_nj, zj_eq, zj_nj, zf_in, zf_out] using i7)⟩
          intro s hs
          obtain ⟨b1, b2, b3⟩ := i4 s hs
          by_cases e : s = j
          · subst e
            simp (discharger := omega) only [zg_ne, zj_ne, zc_ne, zk_ne, zf_ne, zg_J, zj_I, zc_J, zk_I, zf_J, zg_eq, zg_nj, zj_eq, zj_nj, zf_in, zf_out]
            refine ⟨trivial, Or.inr ⟨m, by omega, rfl⟩, fun k hk => ?_⟩
            simp (discharger := omega) only [zg_ne, zj_ne, zc_ne, zk_ne, zf_ne, zg_J, zj_I, zc_J, zk_I, zf_J, zg_eq, zg_nj, zj_eq, zj_nj, zf_in, zf_out]
            decide
          · exact ⟨by simpa (discharger := omega) only [zg_ne, zj_ne, zc_ne, zk_ne, zf_ne, zg_J, zj_I, zc_J, zk_I, zf_J, zg_eq, zg_nj, zj_eq, zj_nj, zf_in, zf_out] using b1, by simpa (discharger := omega) only [zg_ne, zj_ne, zc_ne, zk_ne, zf_ne, zg_J, zj_I, zc_J, zk_I, zf_J, zg_eq, zg_nj, zj_eq, zj_nj, zf_in, zf_out] using b2, fun k hk => by simpa (discharger := omega) only [zg_ne, zj_ne, zc_ne, zk_ne, zf_ne, zg_J, zj_I, zc_J, zk_I, zf_J, zg_eq, zg_nj, zj_eq, zj_nj, zf_in, zf_out] using b3 k hk⟩
  · apply zCp_mk
    · simp (discharger := omega) only [r16, b16_0, b16_4, b16_7, b16_13, b16_15, b16_19, b16_24, b16_25, b16_36, s17, s8, zpu_s, zpu_n, Option.bind_some, zlit, zlt_t, zlt_f, zeq_t, zeq_f, nI_add, pk_mul, zb_0, zb_n0, not_true_eq_false, not_false_eq_true, Classical.not_not, if_true, if_false, ite_true, ite_false, and_self, and_true, true_and, and_false, false_and, or_self, or_true, true_or, or_false, false_or, reduceIte, hr]; rfl
    · simp (discharger := omega) only [r117, b117_0, b117_4, b117_7, b117_13, b117_15, b117_19, b117_24, b117_25, b117_40, b117_59, s118, s108, zpu_s, zpu_n, Option.bind_some, zlit, zlt_t, zlt_f, zeq_t, zeq_f, nI_add, pk_mul, zb_0, zb_n0, not_true_eq_false, not_false_eq_true, Classical.not_not, if_true, if_false, ite_true, ite_false, and_self, and_true, true_and, and_false, false_and, or_self, or_true, true_or, or_false, false_or, reduceIte, hr]; rfl
    · exact hI
theorem zbyte (x : Int32) : x.toInt8.toInt32.toInt8.toInt32 = x.toInt8.toInt32 ∧ -128 ≤ x.toInt8.toInt32.toInt ∧ x.toInt8.toInt32.toInt ≤ 127 := by
  refine ⟨by simp, ?_⟩
  rw [Int8.toInt_toInt32]
  have h1 := Int8.le_toInt x.toInt8
  have h2 := Int8.toInt_lt x.toInt8
  omega
set_option maxHeartbeats 1000000 in
theorem cp_put (X : ab_X) (d : Nat) (r i v : Int32) {h : ab_H} (hI : zInv h) : zCp X (d + 30) 19 119 [.int r, .int i, .int v] h := by
  obtain ⟨i1, i2, i3, i4, i5, i6, i7⟩ := id hI
  rcases ztxt_cases i4 r with hr | ⟨j, hj, rfl, b1, b3, b2 | ⟨n, hn, b2⟩⟩
  · apply zCp_mk
    · simp (discharger := omega) only [r19, b19_0, b19_4, b19_7, b19_9, b19_18, b19_23, b19_24, b19_28, b19_38, b19_43, b19_44, s17, s8, zpu_s, zpu_n, Option.bind_some, zlit, zlt_t, zlt_f, zeq_t, zeq_f, nI_add, pk_mul, zb_0, zb_n0, not_true_eq_false, not_false_eq_true, Classical.not_not, if_true, if_false, ite_true, ite_false, and_self, and_true, true_and, and_false, false_and, or_self, or_true, true_or, or_false, false_or, reduceIte, hr]; rfl
    · simp (discharger := omega) only [r119, b119_0, b119_4, b119_7, b119_9, b119_18, b119_23, b119_24, b119_39, b119_42, b119_47, b119_48, s118, s108, zpu_s, zpu_n, Option.bind_some, zlit, zlt_t, zlt_f, zeq_t, zeq_f, nI_add, pk_mul, zb_0, zb_n0, not_true_eq_false, not_false_eq_true, Classical.not_not, if_true, if_false, ite_true, ite_false, and_self, and_true, true_and, and_false, false_and, or_self, or_true, true_or, or_false, false_or, reduceIte, hr]; rfl
    · exact hI
  · apply zCp_mk
    · simp (discharger := omega) only [r19, b19_0, b19_4, b19_7, b19_9, b19_18, b19_23, b19_24, b19_28, b19_38, b19_43, b19_44, s17, s8, zpu_s, zpu_n, Option.bind_some, zlit, zlt_t, zlt_f, zeq_t, zeq_f, nI_add, pk_mul, zb_0, zb_n0, not_true_eq_false, not_false_eq_true, Classical.not_not, if_true, if_false, ite_true, ite_false, and_self, and_true, true_and, and_false, false_and, or_self, or_true, true_or, or_false, false_or, reduceIte, zd14, b1, b2, zneg1]; rfl
    · simp (discharger := omega) only [r119, b119_0, b119_4, b119_7, b119_9, b119_18, b119_23, b119_24, b119_39, b119_42, b119_47, b119_48, s118, s108, zpu_s, zpu_n, Option.bind_some, zlit, zlt_t, zlt_f, zeq_t, zeq_f, nI_add, pk_mul, zb_0, zb_n0, not_true_eq_false, not_false_eq_true, Classical.not_not, if_true, if_false, ite_true, ite_false, and_self, and_true, true_and, and_false, false_and, or_self, or_true, true_or, or_false, false_or, reduceIte, zd35, b2, zneg1, zg_ne, zj_ne, zc_ne, zk_ne, zf_ne]; rfl
    · exact zInv_find hI (f := 1) (by omega)
  · rcases zix i (n := n) (by omega) with q | q | ⟨k, hk, rfl⟩
    · apply zCp_mk
      · simp (discharger := omega) only [r19, b19_0, b19_4, b19_7, b19_9, b19_18, b19_23, b19_24, b19_28, b19_38, b19_43, b19_44, s17, s8, zpu_s, zpu_n, Option.bind_some, zlit, zlt_t, zlt_f, zeq_t, zeq_f, nI_add, pk_mul, zb_0, zb_n0, not_true_eq_false, not_false_eq_true, Classical.not_not, if_true, if_false, ite_true, ite_false, and_self, and_true, true_and, and_false, false_and, or_self, or_true, true_or, or_false, false_or, reduceIte, zd14, b1, b2, q]; rfl
      · simp (discharger := omega) only [r119, b119_0, b119_4, b119_7, b119_9, b119_18, b119_23, b119_24, b119_39, b119_42, b119_47, b119_48, s118, s107i, s108, zpu_s, zpu_n, Option.bind_some, zlit, zlt_t, zlt_f, zeq_t, zeq_f, nI_add, pk_mul, zb_0, zb_n0, not_true_eq_false, not_false_eq_true, Classical.not_not, if_true, if_false, ite_true, ite_false, and_self, and_true, true_and, and_false, false_and, or_self, or_true, true_or, or_false, false_or, reduceIte, zd35, b2, q, zg_ne, zj_ne, zc_ne, zk_ne, zf_ne, zJ0, zpred]; rfl
      · exact zInv_find hI (f := 2) (by omega)
    · apply zCp_mk
      · simp (discharger := omega) only [r19, b19_0, b19_4, b19_7, b19_9, b19_18, b19_23, b19_24, b19_28, b19_38, b19_43, b19_44, s17, s8, zpu_s, zpu_n, Option.bind_some, zlit, zlt_t, zlt_f, zeq_t, zeq_f, nI_add, pk_mul, zb_0, zb_n0, not_true_eq_false, not_false_eq_true, Classical.not_not, if_true, if_false, ite_true, ite_false, and_self, and_true, true_and, and_false, false_and, or_self, or_true, true_or, or_false, false_or, reduceIte, zd14, b1, b2, q]; rfl
      · simp (discharger := omega) only [r119, b119_0, b119_4, b119_7, b119_9, b119_18, b119_23, b119_24, b119_39, b119_42, b119_47, b119_48, s118, s107i, s108, zpu_s, zpu_n, Option.bind_some, zlit, zlt_t, zlt_f, zeq_t, zeq_f, nI_add, pk_mul, zb_0, zb_n0, not_true_eq_false, not_false_eq_true, Classical.not_not, if_true, if_false, ite_true, ite_false, and_self, and_true, true_and, and_false, false_and, or_self, or_true, true_or, or_false, false_or, reduceIte, zd35, b2, q, zg_ne, zj_ne, zc_ne, zk_ne, zf_ne, zJ0, zpred]; rfl
      · exact zInv_find hI (f := 2) (by omega)
    · apply zCp_mk
      · simp (discharger := omega) only [r19, b19_0, b19_4, b19_7, b19_9, b19_18, b19_23, b19_24, b19_28, b19_38, b19_43, b19_44, s17, s8, zpu_s, zpu_n, Option.bind_some, zlit, zlt_t, zlt_f, zeq_t, zeq_f, nI_add, pk_mul, zb_0, zb_n0, not_true_eq_false, not_false_eq_true, Classical.not_not, if_true, if_false, ite_true, ite_false, and_self, and_true, true_and, and_false, false_and, or_self, or_true, true_or, or_false, false_or, reduceIte, zd14, b1, b2, zL_texts, zT_lb, zT_sb, (zbyte v).1]; rfl
      · simp (discharger := omega) only [r119, b119_0, b119_4, b119_7, b119_9, b119_18, b119_23, b119_24, b119_39, b119_42, b119_47, b119_48, s118, s107i, s108, zpu_s, zpu_n, Option.bind_some, zlit, zlt_t, zlt_f, zeq_t, zeq_f, nI_add, pk_mul, zb_0, zb_n0, not_true_eq_false, not_false_eq_true, Classical.not_not, if_true, if_false, ite_true, ite_false, and_self, and_true, true_and, and_false, false_and, or_self, or_true, true_or, or_false, false_or, reduceIte, zd35, zd34, zs34, b2, zg_ne, zj_ne, zc_ne, zk_ne, zf_ne, zJ0, zpred]
        rw [(b3 k (by omega)).1]
      · refine ⟨(by simpa (discharger := omega) only [zI_ask, zg_ne, zj_ne, zc_ne, zk_ne, zf_ne, zg_J, zj_I, zc_J, zk_I, zf_J, zg_eq, zg_nj, zj_eq, zj_nj, zf_in, zf_out] using i1), (fun f hf => by simpa (discharger := omega) only [zg_ne, zj_ne, zc_ne, zk_ne, zf_ne, zg_J, zj_I, zc_J, zk_I, zf_J, zg_eq, zg_nj, zj_eq, zj_nj, zf_in, zf_out] using i2 f hf), (fun r hr => by simpa (discharger := omega) only [zg_ne, zj_ne, zc_ne, zk_ne, zf_ne, zg_J, zj_I, zc_J, zk_I, zf_J, zg_eq, zg_nj, zj_eq, zj_nj, zf_in, zf_out] using i3 r hr), ?_, ((zI_posts (h := h) (by intro c h1 h2 i; simp (discharger := omega) only [zg_ne, zj_ne, zc_ne, zk_ne, zf_ne, zg_J, zj_I, zc_J, zk_I, zf_J, zg_eq, zg_nj, zj_eq, zj_nj, zf_in, zf_out]) (by intro c h1 h2 i; simp (discharger := omega) only [zg_ne, zj_ne, zc_ne, zk_ne, zf_ne, zg_J, zj_I, zc_J, zk_I, zf_J, zg_eq, zg_nj, zj_eq, zj_nj, zf_in, zf_out]) (by intro i; simp (discharger := omega) only [zg_ne, zj_ne, zc_ne, zk_ne, zf_ne, zg_J, zj_I, zc_J, zk_I, zf_J, zg_eq, zg_nj, zj_eq, zj_nj, zf_in, zf_out]) (by intro i; simp (discharger := omega) only [zg_ne, zj_ne, zc_ne, zk_ne, zf_ne, zg_J, zj_I, zc_J, zk_I, zf_J, zg_eq, zg_nj, zj_eq, zj_nj, zf_in, zf_out]) (by simp (discharger := omega) only [zg_ne, zj_ne, zc_ne, zk_ne, zf_ne, zg_J, zj_I, zc_J, zk_I, zf_J, zg_eq, zg_nj, zj_eq, zj_nj, zf_in, zf_out])).1 i5), ((zI_posts (h := h) (by intro c h1 h2 i; simp (discharger := omega) only [zg_ne, zj_ne, zc_ne, zk_ne, zf_ne, zg_J, zj_I, zc_J, zk_I, zf_J, zg_eq, zg_nj, zj_eq, zj_nj, zf_in, zf_out]) (by intro c h1 h2 i; simp (discharger := omega) only [zg_ne, zj_ne, zc_ne, zk_ne, zf_ne, zg_J, zj_I, zc_J, zk_I, zf_J, zg_eq, zg_nj, zj_eq, zj_nj, zf_in, zf_out]) (by intro i; simp (discharger := omega) only [zg_ne, zj_ne, zc_ne, zk_ne, zf_ne, zg_J, zj_I, zc_J, zk_I, zf_J, zg_eq, zg_nj, zj_eq, zj_nj, zf_in, zf_out]) (by intro i; simp (discharger := omega) only [zg_ne, zj_ne, zc_ne, zk_ne, zf_ne, zg_J, zj_I, zc_J, zk_I, zf_J, zg_eq, zg_nj, zj_eq, zj_nj, zf_in, zf_out]) (by simp (discharger := omega) only [zg_ne, zj_ne, zc_ne, zk_ne, zf_ne, zg_J, zj_I, zc_J, zk_I, zf_J, zg_eq, zg_nj, zj_eq, zj_nj, zf_in, zf_out])).2 i6), (by simpa (discharger := omega) only [zI_sea, zg_ne, zj_ne, zc_ne, zk_ne, zf_ne, zg_J, zj_I, zc_J, zk_I, zf_J, zg_eq, zg_nj, zj_eq, zj_nj, zf_in, zf_out] using i7)⟩
        intro s hs
        obtain ⟨c1, c2, c3⟩ := i4 s hs
        refine ⟨by simpa (discharger := omega) only [zg_ne, zj_ne, zc_ne, zk_ne, zf_ne, zg_J, zj_I, zc_J, zk_I, zf_J, zg_eq, zg_nj, zj_eq, zj_nj, zf_in, zf_out] using c1, by simpa (discharger := omega) only [zg_ne, zj_ne, zc_ne, zk_ne, zf_ne, zg_J, zj_I, zc_J, zk_I, zf_J, zg_eq, zg_nj, zj_eq, zj_nj, zf_in, zf_out] using c2, fun t ht => ?_⟩
        by_cases e : s = j
        · subst e
          by_cases e2 : t = k
          · subst e2
            simp (discharger := omega) only [zg_ne, zj_ne, zc_ne, zk_ne, zf_ne, zg_J, zj_I, zc_J, zk_I, zf_J, zg_eq, zg_nj, zj_eq, zj_nj, zf_in, zf_out]
            exact ⟨trivial, (zbyte v).2⟩
          · simpa (discharger := omega) only [zg_ne, zj_ne, zc_ne, zk_ne, zf_ne, zg_J, zj_I, zc_J, zk_I, zf_J, zg_eq, zg_nj, zj_eq, zj_nj, zf_in, zf_out] using c3 t ht
        · simpa (discharger := omega) only [zg_ne, zj_ne, zc_ne, zk_ne, zf_ne, zg_J, zj_I, zc_J, zk_I, zf_J, zg_eq, zg_nj, zj_eq, zj_nj, zf_in, zf_out] using c3 t ht
