/-! hour, brings -/
def zpv (q : Nat → Nat) : Nat → Nat
  | 0 => 0
  | k + 1 => q k
def zhr (q : Nat → Nat) : Nat → Nat
  | 0 => 0
  | k + 1 => zhr q k + zdist (zpv q k) (q k)
theorem zpv_lt {q : Nat → Nat} {n : Nat} (hq : ∀ k, k < n → q k < 6) : ∀ k, k ≤ n → zpv q k < 6
  | 0, _ => (by decide : (0 : Nat) < 6)
  | k + 1, hk => hq k (by omega)
theorem zhr_le {q : Nat → Nat} {n : Nat} (hq : ∀ k, k < n → q k < 6) : ∀ k, k ≤ n → zhr q k ≤ 5 * k
  | 0, _ => Nat.le_refl _
  | k + 1, hk => by
    have h1 := zhr_le hq k (by omega)
    have h2 := zdist_lt (zpv_lt hq k (by omega)) (hq k (by omega))
    show zhr q k + zdist (zpv q k) (q k) ≤ _
    omega
theorem s63 (X : ab_X) (d : Nat) {n i : Nat} {q : Nat → Nat} (hn : n ≤ 12) (hi : i < n) {h : ab_H} (e1 : ab_gI h 19 1 = nI n) (e2 : ∀ k, k < n → q k < 6 ∧ ab_gI h 20 k = nI (q k)) : ab_ru X d 63 [.ref 19, .int (nI i)] h = some (some (.int (nI (zhr q (i + 1)))), h) := by
  have hq : ∀ k, k < n → q k < 6 := fun k hk => (e2 k hk).1
  have key : ∀ m k, k + m = i + 1 → ab_ex X d 63 7 [.ref 19, .int (nI i), .int (nI (zhr q k)), .int (nI (zpv q k)), .int (nI k)] [] h = some (some (.int (nI (zhr q (i + 1)))), h) := by
    intro m
    induction m with
    | zero =>
      intro k hk
      have hk' : k = i + 1 := by omega
      subst hk'
      rw [l63_7]
      simp (discharger := omega) only [b63_51, zlit, Bool.false_eq_true, zlt_t, zlt_f, zeq_t, zeq_f, nI_add, pk_mul, zb_0, zb_n0, not_true_eq_false, not_false_eq_true, Classical.not_not, if_true, if_false, ite_true, ite_false, and_self, and_true, true_and, and_false, false_and, or_self, or_true, true_or, or_false, false_or, reduceIte]
    | succ m ih =>
      intro k hk
      have q1 := (e2 k (by omega)).2
      have q2 := (e2 k (by omega)).1
      have q3 := zpv_lt hq k (by omega)
      have q4 := zhr_le hq k (by omega)
      rw [l63_7]
      simp (discharger := omega) only [b63_13, b63_22, e1, zd20, q1, zabs, zlit, Bool.false_eq_true, zlt_t, zlt_f, zeq_t, zeq_f, nI_add, pk_mul, zb_0, zb_n0, not_true_eq_false, not_false_eq_true, Classical.not_not, if_true, if_false, ite_true, ite_false, and_self, and_true, true_and, and_false, false_and, or_self, or_true, true_or, or_false, false_or, reduceIte]
      exact ih (k + 1) (by omega)
  simp (discharger := omega) only [r63, b63_0, zlit]
  exact key (i + 1) 0 (by omega)
theorem s155l (X : ab_X) (d : Nat) {j n i : Nat} {q : Nat → Nat} (hj : j < 6) (hn : n ≤ 12) (hi : i < n) {h : ab_H} (e2 : ∀ k, k < n → q k < 6 ∧ ab_gI h 32 (40 * j + k) = nI (q k)) (v3 : Value) : ∀ m k, k + m = i + 1 → ab_ex X (d + 1) 155 47 [.ref 29, .int (nI j), .int (nI i), v3, .int (nI (zhr q k)), .int (nI k)] [] h = some (some (.int (nI (zhr q (i + 1)))), h) := by
  have hq : ∀ k, k < n → q k < 6 := fun k hk => (e2 k hk).1
  intro m
  induction m with
  | zero =>
    intro k hk
    have hk' : k = i + 1 := by omega
    subst hk'
    rw [l155_47]
    simp (discharger := omega) only [b155_102, zlit, Bool.false_eq_true, zlt_t, zlt_f, zeq_t, zeq_f, nI_add, pk_mul, zb_0, zb_n0, not_true_eq_false, not_false_eq_true, Classical.not_not, if_true, if_false, ite_true, ite_false, and_self, and_true, true_and, and_false, false_and, or_self, or_true, true_or, or_false, false_or, reduceIte]
  | succ m ih =>
    intro k hk
    have q1 := (e2 k (by omega)).2
    have q2 := (e2 k (by omega)).1
    have q3 := zpv_lt hq k (by omega)
    have q4 := zhr_le hq k (by omega)
    rw [l155_47]
    have hw : ab_ex X (d + 1) 155 78 [.ref 29, .int (nI j), .int (nI i), v3, .int (nI (zhr q k)), .int (nI k)] [.int (nI (zpv q k)), .int (nI (zhr q k))] h = some (some (.int (nI (zhr q (i + 1)))), h) := by
      simp (discharger := omega) only [b155_78, b155_93, zd32, q1, s149, zpu_s, zpu_n, Option.bind_some, zlit, Bool.false_eq_true, zlt_t, zlt_f, zeq_t, zeq_f, nI_add, pk_mul, zb_0, zb_n0, not_true_eq_false, not_false_eq_true, Classical.not_not, if_true, if_false, ite_true, ite_false, and_self, and_true, true_and, and_false, false_and, or_self, or_true, true_or, or_false, false_or, reduceIte]
      exact ih (k + 1) (by omega)
    cases k with
    | zero =>
      simp (discharger := omega) only [b155_53, b155_60, zlit, Bool.false_eq_true, zlt_t, zlt_f, zeq_t, zeq_f, nI_add, pk_mul, zb_0, zb_n0, not_true_eq_false, not_false_eq_true, Classical.not_not, if_true, if_false, ite_true, ite_false, and_self, and_true, true_and, and_false, false_and, or_self, or_true, true_or, or_false, false_or, reduceIte]
      exact hw
    | succ k =>
      have q5 := (e2 k (by omega)).2
      have e9 : 40 * j + (k + 1) - 1 = 40 * j + k := by omega
      simp (discharger := omega) only [b155_53, b155_64, zlit, Bool.false_eq_true, zlt_t, zlt_f, zeq_t, zeq_f, nI_add, pk_mul, zb_0, zb_n0, not_true_eq_false, not_false_eq_true, Classical.not_not, if_true, if_false, ite_true, ite_false, and_self, and_true, true_and, and_false, false_and, or_self, or_true, true_or, or_false, false_or, reduceIte, pk_sub, e9, zd32, q5]
      exact hw
set_option maxHeartbeats 1000000 in
theorem cp_hour (X : ab_X) (d : Nat) (r i : Int32) {h : ab_H} (hI : zInv h) : zCp X (d + 30) 62 155 [.int r, .int i] h := by
  obtain ⟨N, dc, hN, hdc, n0, n1, n2, n3, n4, n5, k1, k2, k3, k4, k5, t1, t2, t3, t4⟩ := znow hI
  by_cases hi : i < nI 0
  · apply zCp_mk
    · simp (discharger := omega) only [r62, b62_0, b62_4, zlit, Bool.false_eq_true, zlt_t, zlt_f, zeq_t, zeq_f, nI_add, pk_mul, zb_0, zb_n0, not_true_eq_false, not_false_eq_true, Classical.not_not, if_true, if_false, ite_true, ite_false, and_self, and_true, true_and, and_false, false_and, or_self, or_true, true_or, or_false, false_or, reduceIte, hi]; rfl
    · by_cases hr : ¬ r < nI 0 ∧ r < nI 6
      · simp (discharger := omega) only [r155, b155_0, b155_4, b155_7, b155_11, s106, zpu_s, zpu_n, Option.bind_some, zlit, Bool.false_eq_true, zlt_t, zlt_f, zeq_t, zeq_f, nI_add, pk_mul, zb_0, zb_n0, not_true_eq_false, not_false_eq_true, Classical.not_not, if_true, if_false, ite_true, ite_false, and_self, and_true, true_and, and_false, false_and, or_self, or_true, true_or, or_false, false_or, reduceIte, hi, hr]; try rfl
      · simp (discharger := omega) only [r155, b155_0, b155_4, b155_7, b155_11, s106, zpu_s, zpu_n, Option.bind_some, zlit, Bool.false_eq_true, zlt_t, zlt_f, zeq_t, zeq_f, nI_add, pk_mul, zb_0, zb_n0, not_true_eq_false, not_false_eq_true, Classical.not_not, if_true, if_false, ite_true, ite_false, and_self, and_true, true_and, and_false, false_and, or_self, or_true, true_or, or_false, false_or, reduceIte, hi, hr]; try rfl
    · exact hI
  rcases zround X (d + 9) r hI hN n2 n5 with ⟨v, h1, h2, hv, e1, e2, hI2, hnr⟩ | ⟨j, n, hj, rfl, hN0, hn, b2, b3, hq, e1, e2⟩
  · have hv0 := zv0 hv
    have hvl := zvl hv
    by_cases hr : ¬ r < nI 0 ∧ r < nI 6
    · apply zCp_mk
      · simp (discharger := omega) only [r62, b62_0, b62_6, b62_11, b62_16, e1, zpu_s, zpu_n, Option.bind_some, zlit, Bool.false_eq_true, zlt_t, zlt_f, zeq_t, zeq_f, nI_add, pk_mul, zb_0, zb_n0, not_true_eq_false, not_false_eq_true, Classical.not_not, if_true, if_false, ite_true, ite_false, and_self, and_true, true_and, and_false, false_and, or_self, or_true, true_or, or_false, false_or, reduceIte, hi, hv0]; rfl
      · simp (discharger := omega) only [r155, b155_0, b155_4, b155_7, b155_13, b155_18, b155_23, s106, e2, zpu_s, zpu_n, Option.bind_some, zlit, Bool.false_eq_true, zlt_t, zlt_f, zeq_t, zeq_f, nI_add, pk_mul, zb_0, zb_n0, not_true_eq_false, not_false_eq_true, Classical.not_not, if_true, if_false, ite_true, ite_false, and_self, and_true, true_and, and_false, false_and, or_self, or_true, true_or, or_false, false_or, reduceIte, hi, hr, hvl]; rfl
      · exact hI2
    · obtain ⟨rfl, rfl⟩ := hnr.1 hr
      apply zCp_mk
      · simp (discharger := omega) only [r62, b62_0, b62_6, b62_11, b62_16, e1, zpu_s, zpu_n, Option.bind_some, zlit, Bool.false_eq_true, zlt_t, zlt_f, zeq_t, zeq_f, nI_add, pk_mul, zb_0, zb_n0, not_true_eq_false, not_false_eq_true, Classical.not_not, if_true, if_false, ite_true, ite_false, and_self, and_true, true_and, and_false, false_and, or_self, or_true, true_or, or_false, false_or, reduceIte, hi, hv0]; rfl
      · simp (discharger := omega) only [r155, b155_0, b155_4, b155_7, b155_11, s106, zpu_s, zpu_n, Option.bind_some, zlit, Bool.false_eq_true, zlt_t, zlt_f, zeq_t, zeq_f, nI_add, pk_mul, zb_0, zb_n0, not_true_eq_false, not_false_eq_true, Classical.not_not, if_true, if_false, ite_true, ite_false, and_self, and_true, true_and, and_false, false_and, or_self, or_true, true_or, or_false, false_or, reduceIte, hi, hr]; try rfl
      · exact hI
  · have hq' := zqf_get hN hq
    have f19 := zRd_19 h j n
    have f20 : ∀ k, k < n → zqf h j k < 6 ∧ ab_gI (zRd h j n) 20 k = nI (zqf h j k) := fun k hk => ⟨by have := (hq' k hk).1; omega, by rw [zRd_20 hk (b3 k (by omega)) hj]; exact (hq' k hk).2⟩
    have f32 : ∀ k, ab_gI (zRd h j n) 32 k = ab_gI h 32 k := fun k => (zFc_Rd h j n).1 32 k (by omega) (by omega) (by omega) (by omega)
    have f33 : ab_gI (zRd h j n) 33 j = nI n := ((zFc_Rd h j n).1 33 j (by omega) (by omega) (by omega) (by omega)).trans b2
    rcases zix i (n := n) (by omega) with q | q | ⟨k, hk, rfl⟩
    · exact absurd q hi
    · have hq2 := q.2
      have f30 : ab_gI (zfX (zRd h j n) 2) 30 0 = nI N := by unfold zfX; rw [zg_ne (by omega), zg_ne (by omega)]; exact ((zFc_Rd h j n).1 30 0 (by omega) (by omega) (by omega) (by omega)).trans n5
      have f33' : ab_gI (zfX (zRd h j n) 2) 33 j = nI n := by unfold zfX; rw [zg_ne (by omega), zg_ne (by omega)]; exact f33
      have e2' := f144 X (d + 9) hj hn hN hN0 (q := zqf h j) f30 f33' (fun k hk => ⟨(hq' k hk).1, by unfold zfX; rw [zg_ne (by omega), zg_ne (by omega), f32]; exact (hq' k hk).2⟩)
      apply zCp_mk
      · simp (discharger := omega) only [r62, b62_0, b62_6, b62_11, b62_18, b62_29, b62_34, e1, zpu_s, zpu_n, Option.bind_some, zlit, Bool.false_eq_true, zlt_t, zlt_f, zeq_t, zeq_f, nI_add, pk_mul, zb_0, zb_n0, not_true_eq_false, not_false_eq_true, Classical.not_not, if_true, if_false, ite_true, ite_false, and_self, and_true, true_and, and_false, false_and, or_self, or_true, true_or, or_false, false_or, reduceIte, hi, f19, hq2, s8]; rfl
      · refine Eq.trans ?_ (show some (some (Value.int (-nI 3)), zfM (zfX (zRd h j n) 2) 2) = _ from rfl)
        have e2'' : ab_ru X (d + 29) 144 [.ref 29, .int (nI j)] (ab_sI (ab_sI (zRd h j n) 0 12 (nI 2)) 16 2 (ab_gI (zRd h j n) 16 2 + nI 1)) = some (some (.int (nI 0)), zfX (zRd h j n) 2) := e2'
        simp (discharger := omega) only [r155, b155_0, b155_4, b155_7, b155_13, b155_18, b155_25, b155_35, b155_40, s106, e2'', zpu_s, zpu_n, Option.bind_some, zlit, Bool.false_eq_true, zlt_t, zlt_f, zeq_t, zeq_f, nI_add, pk_mul, zb_0, zb_n0, not_true_eq_false, not_false_eq_true, Classical.not_not, if_true, if_false, ite_true, ite_false, and_self, and_true, true_and, and_false, false_and, or_self, or_true, true_or, or_false, false_or, reduceIte, hi, zd33, f33', hq2, s108]
        try rfl
      · exact zInv_fXM (zInv_Rd hI j n) (by omega)
    · apply zCp_mk
      · simp (discharger := omega) only [r62, b62_0, b62_6, b62_11, b62_18, b62_35, b62_43, e1, zpu_s, zpu_n, Option.bind_some, zlit, Bool.false_eq_true, zlt_t, zlt_f, zeq_t, zeq_f, nI_add, pk_mul, zb_0, zb_n0, not_true_eq_false, not_false_eq_true, Classical.not_not, if_true, if_false, ite_true, ite_false, and_self, and_true, true_and, and_false, false_and, or_self, or_true, true_or, or_false, false_or, reduceIte, f19, s63 X _ hn hk f19 f20]; rfl
      · have e3 := s155l X (d + 29) (q := zqf h j) hj hn hk (h := zRd h j n) (fun k hk => ⟨(f20 k hk).1, by rw [f32]; exact (hq' k hk).2⟩) (.int (nI 0)) (k + 1) 0 (by omega)
        simp (discharger := omega) only [r155, b155_0, b155_4, b155_7, b155_13, b155_18, b155_25, b155_41, s106, e2, zpu_s, zpu_n, Option.bind_some, zlit, Bool.false_eq_true, zlt_t, zlt_f, zeq_t, zeq_f, nI_add, pk_mul, zb_0, zb_n0, not_true_eq_false, not_false_eq_true, Classical.not_not, if_true, if_false, ite_true, ite_false, and_self, and_true, true_and, and_false, false_and, or_self, or_true, true_or, or_false, false_or, reduceIte, zd33, f33]
        exact e3
      · exact zInv_Rd hI j n
