/-! rows that are rounds -/
def zal (f : Nat → Int32) (N : Nat) : Nat → Nat → Bool
  | 0, _ => true
  | m + 1, k => decide (¬ f k < nI 0 ∧ f k < nI N) && zal f N m (k + 1)
theorem zal_congr {f g : Nat → Int32} {N : Nat} : ∀ (m k : Nat), (∀ j, k ≤ j → j < k + m → f j = g j) → zal f N m k = zal g N m k
  | 0, _, _ => rfl
  | m + 1, k, e => by
    unfold zal
    rw [e k (by omega) (by omega), zal_congr m (k + 1) (fun j h1 h2 => e j (by omega) (by omega))]
theorem zal_get {f : Nat → Int32} {N : Nat} (hN : N ≤ 6) : ∀ (m k : Nat), zal f N m k = true → ∀ j, k ≤ j → j < k + m → ∃ q, q < N ∧ f j = nI q
  | 0, k, _, j, h1, h2 => by omega
  | m + 1, k, e, j, h1, h2 => by
    unfold zal at e
    simp only [Bool.and_eq_true, decide_eq_true_eq] at e
    by_cases hj : j = k
    · subst hj
      rcases zix (f j) (n := N) (by omega) with q | q | q
      · exact absurd q e.1.1
      · exact absurd e.1.2 q.2
      · exact q
    · exact zal_get hN m (k + 1) e.2 j (by omega) (by omega)
/-- the round that is taken from a row -/
def zRd (h : ab_H) (r n : Nat) : ab_H := ab_cI (ab_sI h 19 1 (nI n)) (2 + r) 0 20 0 n
theorem zmin {a b : Nat} (h : a ≤ b) (hb : b < 2147483648) : ab_min (nI a) (nI b) = nI a := by
  unfold ab_min
  rw [if_neg (nI_nlt h (by omega))]
theorem s45 (X : ab_X) (d : Nat) {r n : Nat} (hr : r < 6) (hn : n ≤ 12) (h : ab_H) : ab_ru X d 45 [.ref 19, .ref (2 + r), .int (nI n)] h = some (none, zRd h r n) := by
  simp (discharger := omega) only [r45, b45_0, zlit, zmin, zg_eq]
  rw [z_cp (by rw [zR_sh hr]) rfl (by rw [zR_sh hr]; dsimp only; omega) (by show 0 + n ≤ 12; omega)]
  rfl
theorem s44l (X : ab_X) (d : Nat) {r n N : Nat} (hr : r < 6) (hn : n ≤ 12) {h : ab_H} (n2 : ab_gI h 41 7 = nI N) : ∀ (m k : Nat), k + m = n → ab_ex X (d + 1) 44 53 [.ref 0, .int (nI r), .int (nI n), .int (nI k)] [] h = if zal (fun j => ab_gI h (2 + r) j) N m k = true then some (some (.int (nI 0)), zRd h r n) else some (some (.int (-nI 3)), zfX h 3) := by
  intro m
  induction m with
  | zero =>
    intro k hk
    rw [l44_53]
    simp (discharger := omega) only [b44_85, b44_99, s45, zL_rows, zal, zpu_s, zpu_n, Option.bind_some, zlit, Bool.false_eq_true, zlt_t, zlt_f, zeq_t, zeq_f, nI_add, pk_mul, zb_0, zb_n0, not_true_eq_false, not_false_eq_true, Classical.not_not, if_true, if_false, ite_true, ite_false, and_self, and_true, true_and, and_false, false_and, or_self, or_true, true_or, or_false, false_or, reduceIte]
  | succ m ih =>
    intro k hk
    rw [l44_53]
    simp (discharger := omega) only [b44_58, b44_70, s29, n2, zL_rows, zR_ld, zpu_s, zpu_n, Option.bind_some, zlit, Bool.false_eq_true, zlt_t, zlt_f, zeq_t, zeq_f, nI_add, pk_mul, zb_0, zb_n0, not_true_eq_false, not_false_eq_true, Classical.not_not, if_true, if_false, ite_true, ite_false, and_self, and_true, true_and, and_false, false_and, or_self, or_true, true_or, or_false, false_or, reduceIte]
    unfold zal
    by_cases h1 : ¬ ab_gI h (2 + r) k < nI 0 ∧ ab_gI h (2 + r) k < nI N
    · simp (discharger := omega) only [h1, b44_79, zlit, Bool.false_eq_true, zlt_t, zlt_f, zeq_t, zeq_f, nI_add, pk_mul, zb_0, zb_n0, not_true_eq_false, not_false_eq_true, Classical.not_not, if_true, if_false, ite_true, ite_false, and_self, and_true, true_and, and_false, false_and, or_self, or_true, true_or, or_false, false_or, reduceIte, decide_true, Bool.true_and]
      exact ih (k + 1) (by omega)
    · simp (discharger := omega) only [h1, b44_73, b44_78, s8, zpu_s, zpu_n, Option.bind_some, zlit, Bool.false_eq_true, zlt_t, zlt_f, zeq_t, zeq_f, nI_add, pk_mul, zb_0, zb_n0, not_true_eq_false, not_false_eq_true, Classical.not_not, if_true, if_false, ite_true, ite_false, and_self, and_true, true_and, and_false, false_and, or_self, or_true, true_or, or_false, false_or, reduceIte, decide_false, Bool.false_and, Bool.false_eq_true]
theorem s144l (X : ab_X) (d : Nat) {r n N : Nat} (hr : r < 6) (hn : n ≤ 12) (hN : N ≤ 6) {h : ab_H} (n5 : ab_gI h 30 0 = nI N) (hs : ab_gI h 33 r = nI n) : ∀ (m k : Nat), k + m = n → ab_ex X (d + 2) 144 55 [.ref 29, .int (nI r), .int (nI k)] [] h = if zal (fun j => ab_gI h 32 (40 * r + j)) N m k = true then some (some (.int (nI 0)), h) else some (some (.int (-nI 3)), zfM h 3) := by
  intro m
  induction m with
  | zero =>
    intro k hk
    rw [l144_55]
    simp (discharger := omega) only [zd33, hs, b144_95, zal, zlit, Bool.false_eq_true, zlt_t, zlt_f, zeq_t, zeq_f, nI_add, pk_mul, zb_0, zb_n0, not_true_eq_false, not_false_eq_true, Classical.not_not, if_true, if_false, ite_true, ite_false, and_self, and_true, true_and, and_false, false_and, or_self, or_true, true_or, or_false, false_or, reduceIte]
  | succ m ih =>
    intro k hk
    rw [l144_55]
    simp (discharger := omega) only [zd33, hs, zd32, b144_65, b144_80, s131 X _ hN _ n5, zpu_s, zpu_n, Option.bind_some, zlit, Bool.false_eq_true, zlt_t, zlt_f, zeq_t, zeq_f, nI_add, pk_mul, zb_0, zb_n0, not_true_eq_false, not_false_eq_true, Classical.not_not, if_true, if_false, ite_true, ite_false, and_self, and_true, true_and, and_false, false_and, or_self, or_true, true_or, or_false, false_or, reduceIte]
    unfold zal
    by_cases h1 : ¬ ab_gI h 32 (40 * r + k) < nI 0 ∧ ab_gI h 32 (40 * r + k) < nI N
    · simp (discharger := omega) only [h1, b144_89, zlit, Bool.false_eq_true, zlt_t, zlt_f, zeq_t, zeq_f, nI_add, pk_mul, zb_0, zb_n0, not_true_eq_false, not_false_eq_true, Classical.not_not, if_true, if_false, ite_true, ite_false, and_self, and_true, true_and, and_false, false_and, or_self, or_true, true_or, or_false, false_or, reduceIte, decide_true, Bool.true_and]
      exact ih (k + 1) (by omega)
    · simp (discharger := omega) only [h1, b144_83, b144_88, s108, zpu_s, zpu_n, Option.bind_some, zlit, Bool.false_eq_true, zlt_t, zlt_f, zeq_t, zeq_f, nI_add, pk_mul, zb_0, zb_n0, not_true_eq_false, not_false_eq_true, Classical.not_not, if_true, if_false, ite_true, ite_false, and_self, and_true, true_and, and_false, false_and, or_self, or_true, true_or, or_false, false_or, reduceIte, decide_false, Bool.false_and, Bool.false_eq_true]
theorem zInv_Rd {h : ab_H} (hI : zInv h) (r n : Nat) : zInv (zRd h r n) := by
  obtain ⟨i1, i2, i3, i4, i5, i6, i7⟩ := hI
  unfold zRd
  exact ⟨(by simpa (discharger := omega) only [zI_ask, zg_ne, zj_ne, zc_ne, zk_ne, zf_ne, zg_J, zj_I, zc_J, zk_I, zf_J, zg_eq, zg_nj, zj_eq, zj_nj, zf_in, zf_out] using i1), (fun f hf => by simpa (discharger := omega) only [zg_ne, zj_ne, zc_ne, zk_ne, zf_ne, zg_J, zj_I, zc_J, zk_I, zf_J, zg_eq, zg_nj, zj_eq, zj_nj, zf_in, zf_out] using i2 f hf), (fun r hr => by simpa (discharger := omega) only [zg_ne, zj_ne, zc_ne, zk_ne, zf_ne, zg_J, zj_I, zc_J, zk_I, zf_J, zg_eq, zg_nj, zj_eq, zj_nj, zf_in, zf_out] using i3 r hr), (fun t ht => by simpa (discharger := omega) only [zg_ne, zj_ne, zc_ne, zk_ne, zf_ne, zg_J, zj_I, zc_J, zk_I, zf_J, zg_eq, zg_nj, zj_eq, zj_nj, zf_in, zf_out] using i4 t ht), ((zI_posts (h := h) (by intro c h1 h2 i; simp (discharger := omega) only [zg_ne, zj_ne, zc_ne, zk_ne, zf_ne, zg_J, zj_I, zc_J, zk_I, zf_J, zg_eq, zg_nj, zj_eq, zj_nj, zf_in, zf_out]) (by intro c h1 h2 i; simp (discharger := omega) only [zg_ne, zj_ne, zc_ne, zk_ne, zf_ne, zg_J, zj_I, zc_J, zk_I, zf_J, zg_eq, zg_nj, zj_eq, zj_nj, zf_in, zf_out]) (by intro i; simp (discharger := omega) only [zg_ne, zj_ne, zc_ne, zk_ne, zf_ne, zg_J, zj_I, zc_J, zk_I, zf_J, zg_eq, zg_nj, zj_eq, zj_nj, zf_in, zf_out]) (by intro i; simp (discharger := omega) only [zg_ne, zj_ne, zc_ne, zk_ne, zf_ne, zg_J, zj_I, zc_J, zk_I, zf_J, zg_eq, zg_nj, zj_eq, zj_nj, zf_in, zf_out]) (by simp (discharger := omega) only [zg_ne, zj_ne, zc_ne, zk_ne, zf_ne, zg_J, zj_I, zc_J, zk_I, zf_J, zg_eq, zg_nj, zj_eq, zj_nj, zf_in, zf_out])).1 i5), ((zI_posts (h := h) (by intro c h1 h2 i; simp (discharger := omega) only [zg_ne, zj_ne, zc_ne, zk_ne, zf_ne, zg_J, zj_I, zc_J, zk_I, zf_J, zg_eq, zg_nj, zj_eq, zj_nj, zf_in, zf_out]) (by intro c h1 h2 i; simp (discharger := omega) only [zg_ne, zj_ne, zc_ne, zk_ne, zf_ne, zg_J, zj_I, zc_J, zk_I, zf_J, zg_eq, zg_nj, zj_eq, zj_nj, zf_in, zf_out]) (by intro i; simp (discharger := omega) only [zg_ne, zj_ne, zc_ne, zk_ne, zf_ne, zg_J, zj_I, zc_J, zk_I, zf_J, zg_eq, zg_nj, zj_eq, zj_nj, zf_in, zf_out]) (by intro i; simp (discharger := omega) only [zg_ne, zj_ne, zc_ne, zk_ne, zf_ne, zg_J, zj_I, zc_J, zk_I, zf_J, zg_eq, zg_nj, zj_eq, zj_nj, zf_in, zf_out]) (by simp (discharger := omega) only [zg_ne, zj_ne, zc_ne, zk_ne, zf_ne, zg_J, zj_I, zc_J, zk_I, zf_J, zg_eq, zg_nj, zj_eq, zj_nj, zf_in, zf_out])).2 i6), (by simpa (discharger := omega) only [zI_sea, zg_ne, zj_ne, zc_ne, zk_ne, zf_ne, zg_J, zj_I, zc_J, zk_I, zf_J, zg_eq, zg_nj, zj_eq, zj_nj, zf_in, zf_out] using i7)⟩
/-- both sides' tests of a row that is to be a round -/
theorem zround (X : ab_X) (d : Nat) (r : Int32) {h : ab_H} (hI : zInv h) {N : Nat} (hN : N ≤ 6) (n2 : ab_gI h 41 7 = nI N) (n5 : ab_gI h 30 0 = nI N) : (∃ v h1 h2, (v = -nI 1 ∨ v = -nI 3 ∨ v = -nI 4) ∧ ab_ru X (d + 20) 44 [.ref 0, .int r] h = some (some (.int v), h1) ∧ ab_ru X (d + 20) 144 [.ref 29, .int r] h1 = some (some (.int v), h2) ∧ zInv h2 ∧ (¬ (¬ r < nI 0 ∧ r < nI 6) → v = -nI 1 ∧ h1 = h) ∧ ∀ i, ab_gI h1 30 i = ab_gI h 30 i) ∨ (∃ j n, j < 6 ∧ r = nI j ∧ 0 < N ∧ n ≤ 12 ∧ ab_gI h 33 j = nI n ∧ (∀ k, k < 40 → ab_gI h (2 + j) k = ab_gI h 32 (40 * j + k)) ∧ (∀ k, k < n → ∃ q, q < N ∧ ab_gI h 32 (40 * j + k) = nI q) ∧ ab_ru X (d + 20) 44 [.ref 0, .int r] h = some (some (.int (nI 0)), zRd h j n) ∧ ab_ru X (d + 20) 144 [.ref 29, .int r] (zRd h j n) = some (some (.int (nI 0)), zRd h j n)) := by
  obtain ⟨i1, i2, i3, i4, i5, i6, i7⟩ := id hI
  rcases zrow_cases i3 r with hr | ⟨j, hj, rfl, b1, b3, b2⟩
  · refine Or.inl ⟨-nI 1, h, h, Or.inl rfl, ?_, ?_, hI, fun _ => ⟨rfl, rfl⟩, fun _ => rfl⟩
    · simp (discharger := omega) only [r44, b44_0, b44_4, b44_7, s7, zpu_s, zpu_n, Option.bind_some, zlit, Bool.false_eq_true, zlt_t, zlt_f, zeq_t, zeq_f, nI_add, pk_mul, zb_0, zb_n0, not_true_eq_false, not_false_eq_true, Classical.not_not, if_true, if_false, ite_true, ite_false, and_self, and_true, true_and, and_false, false_and, or_self, or_true, true_or, or_false, false_or, reduceIte, hr]
    · simp (discharger := omega) only [r144, b144_0, b144_4, b144_7, s106, zpu_s, zpu_n, Option.bind_some, zlit, Bool.false_eq_true, zlt_t, zlt_f, zeq_t, zeq_f, nI_add, pk_mul, zb_0, zb_n0, not_true_eq_false, not_false_eq_true, Classical.not_not, if_true, if_false, ite_true, ite_false, and_self, and_true, true_and, and_false, false_and, or_self, or_true, true_or, or_false, false_or, reduceIte, hr]
  have hno : ¬ (¬ nI j < nI 0 ∧ nI j < nI 6) → False := fun q => q ⟨nI_nlt (by omega) (by omega), nI_lt hj (by omega)⟩
  by_cases h0 : N = 0
  · subst h0
    refine Or.inl ⟨-nI 4, h, h, Or.inr (Or.inr rfl), ?_, ?_, hI, fun q => (hno q).elim, fun _ => rfl⟩
    · simp (discharger := omega) only [r44, b44_0, b44_4, b44_9, b44_19, s7, zpu_s, zpu_n, Option.bind_some, zlit, Bool.false_eq_true, zlt_t, zlt_f, zeq_t, zeq_f, nI_add, pk_mul, zb_0, zb_n0, not_true_eq_false, not_false_eq_true, Classical.not_not, if_true, if_false, ite_true, ite_false, and_self, and_true, true_and, and_false, false_and, or_self, or_true, true_or, or_false, false_or, reduceIte, n2]
    · simp (discharger := omega) only [r144, b144_0, b144_4, b144_9, b144_18, s106, zpu_s, zpu_n, Option.bind_some, zlit, Bool.false_eq_true, zlt_t, zlt_f, zeq_t, zeq_f, nI_add, pk_mul, zb_0, zb_n0, not_true_eq_false, not_false_eq_true, Classical.not_not, if_true, if_false, ite_true, ite_false, and_self, and_true, true_and, and_false, false_and, or_self, or_true, true_or, or_false, false_or, reduceIte, zd30, n5]
  rcases b2 with b2 | ⟨n, hn, b2⟩
  · refine Or.inl ⟨-nI 3, zfX h 1, zfM (zfX h 1) 1, Or.inr (Or.inl rfl), ?_, ?_, zInv_fXM hI (by omega), fun q => (hno q).elim, fun i => by rw [zg_ne (by omega), zg_ne (by omega)]⟩
    · simp (discharger := omega) only [r44, b44_0, b44_4, b44_9, b44_22, b44_33, b44_38, s7, s8, zpu_s, zpu_n, Option.bind_some, zlit, Bool.false_eq_true, zlt_t, zlt_f, zeq_t, zeq_f, nI_add, pk_mul, zb_0, zb_n0, not_true_eq_false, not_false_eq_true, Classical.not_not, if_true, if_false, ite_true, ite_false, and_self, and_true, true_and, and_false, false_and, or_self, or_true, true_or, or_false, false_or, reduceIte, n2, zd8, b1, b2, zneg1]
    · simp (discharger := omega) only [zfM, zfX, r144, b144_0, b144_4, b144_9, b144_21, b144_30, b144_35, s106, s108, zpu_s, zpu_n, Option.bind_some, zlit, Bool.false_eq_true, zlt_t, zlt_f, zeq_t, zeq_f, nI_add, pk_mul, zb_0, zb_n0, not_true_eq_false, not_false_eq_true, Classical.not_not, if_true, if_false, ite_true, ite_false, and_self, and_true, true_and, and_false, false_and, or_self, or_true, true_or, or_false, false_or, reduceIte, zd30, n5, zd33, b2, zneg1, zg_ne, zj_ne, zc_ne, zk_ne, zf_ne]
  by_cases h12 : n ≤ 12
  · have e1 := s44l X (d + 19) hj h12 n2 n 0 (by omega)
    by_cases hv : zal (fun k => ab_gI h 32 (40 * j + k)) N n 0 = true
    · have hv1 : zal (fun k => ab_gI h (2 + j) k) N n 0 = true := by rw [← hv]; exact zal_congr n 0 (fun k _ h2 => b3 k (by omega))
      have e2 := s144l X (d + 18) hj h12 hN (h := zRd h j n) (by unfold zRd; rw [zc_ne (by omega), zg_ne (by omega)]; exact n5) (by unfold zRd; rw [zc_ne (by omega), zg_ne (by omega)]; exact b2) n 0 (by omega)
      rw [if_pos hv1] at e1
      rw [zal_congr n 0 (g := fun k => ab_gI h 32 (40 * j + k)) (fun k _ _ => by unfold zRd; rw [zc_ne (by omega), zg_ne (by omega)]), if_pos hv] at e2
      refine Or.inr ⟨j, n, hj, rfl, by omega, h12, b2, b3, fun k hk => zal_get hN n 0 hv k (by omega) (by omega), ?_, ?_⟩
      · simp (discharger := omega) only [r44, b44_0, b44_4, b44_9, b44_22, b44_39, b44_51, s7, zpu_s, zpu_n, Option.bind_some, zlit, Bool.false_eq_true, zlt_t, zlt_f, zeq_t, zeq_f, nI_add, pk_mul, zb_0, zb_n0, not_true_eq_false, not_false_eq_true, Classical.not_not, if_true, if_false, ite_true, ite_false, and_self, and_true, true_and, and_false, false_and, or_self, or_true, true_or, or_false, false_or, reduceIte, n2, zd8, b1, b2]
        exact e1
      · have f1 : ab_gI (zRd h j n) 30 0 = nI N := by unfold zRd; rw [zc_ne (by omega), zg_ne (by omega)]; exact n5
        have f2 : ab_gI (zRd h j n) 33 j = nI n := by unfold zRd; rw [zc_ne (by omega), zg_ne (by omega)]; exact b2
        simp (discharger := omega) only [r144, b144_0, b144_4, b144_9, b144_21, b144_36, b144_53, s106, zpu_s, zpu_n, Option.bind_some, zlit, Bool.false_eq_true, zlt_t, zlt_f, zeq_t, zeq_f, nI_add, pk_mul, zb_0, zb_n0, not_true_eq_false, not_false_eq_true, Classical.not_not, if_true, if_false, ite_true, ite_false, and_self, and_true, true_and, and_false, false_and, or_self, or_true, true_or, or_false, false_or, reduceIte, zd30, f1, zd33, f2]
        exact e2
    · have hv1 : ¬ zal (fun k => ab_gI h (2 + j) k) N n 0 = true := by rw [zal_congr n 0 (fun k _ h2 => b3 k (by omega))]; exact hv
      have f1 : ab_gI (zfX h 3) 30 0 = nI N := by rw [zg_ne (by omega), zg_ne (by omega)]; exact n5
      have f2 : ab_gI (zfX h 3) 33 j = nI n := by rw [zg_ne (by omega), zg_ne (by omega)]; exact b2
      have e2 := s144l X (d + 18) hj h12 hN f1 f2 n 0 (by omega)
      rw [if_neg hv1] at e1
      rw [zal_congr n 0 (g := fun k => ab_gI h 32 (40 * j + k)) (fun k _ _ => by rw [zg_ne (by omega), zg_ne (by omega)]), if_neg hv] at e2
      refine Or.inl ⟨-nI 3, zfX h 3, zfM (zfX h 3) 3, Or.inr (Or.inl rfl), ?_, ?_, zInv_fXM hI (by omega), fun q => (hno q).elim, fun i => by rw [zg_ne (by omega), zg_ne (by omega)]⟩
      · simp (discharger := omega) only [r44, b44_0, b44_4, b44_9, b44_22, b44_39, b44_51, s7, zpu_s, zpu_n, Option.bind_some, zlit, Bool.false_eq_true, zlt_t, zlt_f, zeq_t, zeq_f, nI_add, pk_mul, zb_0, zb_n0, not_true_eq_false, not_false_eq_true, Classical.not_not, if_true, if_false, ite_true, ite_false, and_self, and_true, true_and, and_false, false_and, or_self, or_true, true_or, or_false, false_or, reduceIte, n2, zd8, b1, b2]
        exact e1
      · simp (discharger := omega) only [r144, b144_0, b144_4, b144_9, b144_21, b144_36, b144_53, s106, zpu_s, zpu_n, Option.bind_some, zlit, Bool.false_eq_true, zlt_t, zlt_f, zeq_t, zeq_f, nI_add, pk_mul, zb_0, zb_n0, not_true_eq_false, not_false_eq_true, Classical.not_not, if_true, if_false, ite_true, ite_false, and_self, and_true, true_and, and_false, false_and, or_self, or_true, true_or, or_false, false_or, reduceIte, zd30, f1, zd33, f2]
        exact e2
  · refine Or.inl ⟨-nI 3, zfX h 5, zfM (zfX h 5) 5, Or.inr (Or.inl rfl), ?_, ?_, zInv_fXM hI (by omega), fun q => (hno q).elim, fun i => by rw [zg_ne (by omega), zg_ne (by omega)]⟩
    · simp (discharger := omega) only [r44, b44_0, b44_4, b44_9, b44_22, b44_39, b44_45, b44_50, s7, s8, zpu_s, zpu_n, Option.bind_some, zlit, Bool.false_eq_true, zlt_t, zlt_f, zeq_t, zeq_f, nI_add, pk_mul, zb_0, zb_n0, not_true_eq_false, not_false_eq_true, Classical.not_not, if_true, if_false, ite_true, ite_false, and_self, and_true, true_and, and_false, false_and, or_self, or_true, true_or, or_false, false_or, reduceIte, n2, zd8, b1, b2]
    · simp (discharger := omega) only [zfM, zfX, r144, b144_0, b144_4, b144_9, b144_21, b144_36, b144_47, b144_52, s106, s108, zpu_s, zpu_n, Option.bind_some, zlit, Bool.false_eq_true, zlt_t, zlt_f, zeq_t, zeq_f, nI_add, pk_mul, zb_0, zb_n0, not_true_eq_false, not_false_eq_true, Classical.not_not, if_true, if_false, ite_true, ite_false, and_self, and_true, true_and, and_false, false_and, or_self, or_true, true_or, or_false, false_or, reduceIte, zd30, n5, zd33, b2, zg_ne, zj_ne, zc_ne, zk_ne, zf_ne]
