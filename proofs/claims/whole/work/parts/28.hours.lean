/-! houses and hours -/
theorem zd42 {k : Nat} (hk : k < 6) (X : ab_X) (h : ab_H) (K : Int32 → Option ab_R) : ab_ld X h 42 (nI k) K = K (ab_gI h 42 k) := z_ld rfl hk _ _ _
theorem zs42 {k : Nat} (hk : k < 6) (h : ab_H) (x : Int32) (K : ab_H → Option ab_R) : ab_sd h 42 (nI k) x K = K (ab_sI h 42 k x) := z_sd rfl hk _ _ _
theorem zd43 {k : Nat} (hk : k < 6) (X : ab_X) (h : ab_H) (K : Int32 → Option ab_R) : ab_ld X h 43 (nI k) K = K (ab_gI h 43 k) := z_ld rfl hk _ _ _
theorem zs43 {k : Nat} (hk : k < 6) (h : ab_H) (x : Int32) (K : ab_H → Option ab_R) : ab_sd h 43 (nI k) x K = K (ab_sI h 43 k x) := z_sd rfl hk _ _ _
theorem zd44 {k : Nat} (hk : k < 6) (X : ab_X) (h : ab_H) (K : Int32 → Option ab_R) : ab_ld X h 44 (nI k) K = K (ab_gI h 44 k) := z_ld rfl hk _ _ _
theorem zs44 {k : Nat} (hk : k < 6) (h : ab_H) (x : Int32) (K : ab_H → Option ab_R) : ab_sd h 44 (nI k) x K = K (ab_sI h 44 k x) := z_sd rfl hk _ _ _
theorem zd45 {k : Nat} (hk : k < 6) (X : ab_X) (h : ab_H) (K : Int32 → Option ab_R) : ab_ld X h 45 (nI k) K = K (ab_gI h 45 k) := z_ld rfl hk _ _ _
theorem zs45 {k : Nat} (hk : k < 6) (h : ab_H) (x : Int32) (K : ab_H → Option ab_R) : ab_sd h 45 (nI k) x K = K (ab_sI h 45 k x) := z_sd rfl hk _ _ _
theorem zd46 {k : Nat} (hk : k < 6) (X : ab_X) (h : ab_H) (K : Int32 → Option ab_R) : ab_ld X h 46 (nI k) K = K (ab_gI h 46 k) := z_ld rfl hk _ _ _
theorem zs46 {k : Nat} (hk : k < 6) (h : ab_H) (x : Int32) (K : ab_H → Option ab_R) : ab_sd h 46 (nI k) x K = K (ab_sI h 46 k x) := z_sd rfl hk _ _ _
theorem zd47 {k : Nat} (hk : k < 6) (X : ab_X) (h : ab_H) (K : Int32 → Option ab_R) : ab_ld X h 47 (nI k) K = K (ab_gI h 47 k) := z_ld rfl hk _ _ _
theorem zs47 {k : Nat} (hk : k < 6) (h : ab_H) (x : Int32) (K : ab_H → Option ab_R) : ab_sd h 47 (nI k) x K = K (ab_sI h 47 k x) := z_sd rfl hk _ _ _
def zB (x y : Int32) : Bool := decide ((x >>> (y &&& 31)) &&& 1 = 1)
theorem z_and1 (v : Int32) : v &&& 1 = 0 ∨ v &&& 1 = 1 := by
  obtain ⟨j, hj, e⟩ := pk_andE v (m := 1) 1 rfl
  have : j = 0 ∨ j = 1 := by omega
  rcases this with rfl | rfl
  · exact Or.inl e
  · exact Or.inr e
theorem s39 (X : ab_X) (d : Nat) (x y : Int32) (h : ab_H) : ab_ru X d 39 [.int x, .int y] h = some (some (.int (zb (zB x y = true))), h) := by
  simp only [r39, b39_0, b39_8, b39_12, b39_13, zr0, zr1, zrn0, zrn1, zrb, and_self, and_true, true_and, if_true, if_false, ite_true, ite_false]
  unfold zb zB
  rcases z_and1 (x >>> (y &&& 31)) with e | e
  · rw [e]; rfl
  · rw [e]; rfl
theorem s139 (X : ab_X) (d : Nat) (x y : Int32) (h : ab_H) : ab_ru X d 139 [.int x, .int y] h = some (some (.int (zb (zB x y = true))), h) := by
  simp only [r139, b139_0, b139_9, b139_13, b139_14, zr0, zr1, zrn0, zrn1, zrb, and_self, and_true, true_and, if_true, if_false, ite_true, ite_false]
  unfold zb zB
  rcases z_and1 (x >>> (y &&& 31)) with e | e
  · rw [e]; rfl
  · rw [e]; rfl
theorem s33 (X : ab_X) (d : Nat) {k : Nat} (hk : k < 6) (o e : Int32) (h : ab_H) : ab_ru X d 33 [.int (nI k), .int o, .int e] h = some (some (.int (zE (nI k) o e)), h) := by
  have e9 : k = 0 ∨ k = 1 ∨ k = 2 ∨ k = 3 ∨ k = 4 ∨ k = 5 := by omega
  rcases e9 with rfl | rfl | rfl | rfl | rfl | rfl <;> simp only [r33, b33_0, b33_44, b33_46, b33_60, b33_62, b33_64, b33_70, ts33_1, ts33_2, ts33_3, ts33_4, ts33_5, ts33_0, ts33_6] <;> rfl
theorem s135 (X : ab_X) (d : Nat) {k : Nat} (hk : k < 6) (o e : Int32) (h : ab_H) : ab_ru X d 135 [.int (nI k), .int o, .int e] h = some (some (.int (zE (nI k) o e)), h) := by
  have e9 : k = 0 ∨ k = 1 ∨ k = 2 ∨ k = 3 ∨ k = 4 ∨ k = 5 := by omega
  rcases e9 with rfl | rfl | rfl | rfl | rfl | rfl <;> simp only [r135, b135_0, b135_44, b135_46, b135_60, b135_62, b135_64, b135_70, ts135_1, ts135_2, ts135_3, ts135_4, ts135_5, ts135_0, ts135_6] <;> rfl
theorem s31 (X : ab_X) (d : Nat) {a i : Nat} (ha : a = 41 ∨ a = 49 ∨ a = 57 ∨ a = 65) (hi : i < 6) (h : ab_H) : ab_ru X d 31 [.ref a, .int (nI i)] h = some (some (.int (ab_gI h (a + 1 + 1) i ||| ab_gI h (a + 1 + 5) i)), h) := by
  simp (discharger := omega) only [r31, b31_0, zP_ob, zP_rf, zP_ld]
theorem s32 (X : ab_X) (d : Nat) {a i k : Nat} (ha : a = 41 ∨ a = 49 ∨ a = 57 ∨ a = 65) (hi : i < 6) {h : ab_H} (hk : k < 6) (ek : ab_gI h (a + 1 + 0) i = nI k) : ab_ru X (d + 1) 32 [.ref a, .int (nI i)] h = some (some (.int (zE (nI k) (ab_gI h (a + 1 + 1) i ||| ab_gI h (a + 1 + 5) i) (ab_gI h (a + 1 + 5) i))), h) := by
  simp (discharger := omega) only [r32, b32_0, b32_11, b32_20, zP_ob, zP_rf, zP_ld, s31, s33, ek, zpu_s, zpu_n, Option.bind_some]
theorem s133 (X : ab_X) (d : Nat) {i : Nat} (hi : i < 6) (h : ab_H) : ab_ru X d 133 [.ref 29, .int (nI i)] h = some (some (.int (ab_gI h 30 (8 + i) ||| ab_gI h 30 (14 + i))), h) := by
  simp (discharger := omega) only [r133, b133_0, zd30, zlit, Bool.false_eq_true, zlt_t, zlt_f, zeq_t, zeq_f, nI_add, pk_mul, zb_0, zb_n0, not_true_eq_false, not_false_eq_true, Classical.not_not, if_true, if_false, ite_true, ite_false, and_self, and_true, true_and, and_false, false_and, or_self, or_true, true_or, or_false, false_or, reduceIte]
theorem s134 (X : ab_X) (d : Nat) {i k : Nat} (hi : i < 6) {h : ab_H} (hk : k < 6) (ek : ab_gI h 30 (2 + i) = nI k) : ab_ru X (d + 1) 134 [.ref 29, .int (nI i)] h = some (some (.int (zE (nI k) (ab_gI h 30 (8 + i) ||| ab_gI h 30 (14 + i)) (ab_gI h 30 (14 + i)))), h) := by
  simp (discharger := omega) only [r134, b134_0, b134_13, b134_25, s133, s135, zd30, ek, zpu_s, zpu_n, Option.bind_some, zlit, Bool.false_eq_true, zlt_t, zlt_f, zeq_t, zeq_f, nI_add, pk_mul, zb_0, zb_n0, not_true_eq_false, not_false_eq_true, Classical.not_not, if_true, if_false, ite_true, ite_false, and_self, and_true, true_and, and_false, false_and, or_self, or_true, true_or, or_false, false_or, reduceIte]
theorem s29 (X : ab_X) (d : Nat) (x : Int32) (h : ab_H) : ab_ru X d 29 [.ref 0, .int x] h = some (some (.int (zb (¬ x < nI 0 ∧ x < ab_gI h 41 7))), h) := by
  simp only [r29, b29_0, b29_4, b29_15, b29_19, b29_20, zlit, zr0, zr1, zrn0, zrn1, zrb, and_self, and_true, true_and, if_true, if_false, ite_true, ite_false]
  unfold zb
  by_cases h1 : x < nI 0 <;> by_cases h2 : x < ab_gI h 41 7 <;> simp [h1, h2, zlit]
theorem s131 (X : ab_X) (d : Nat) {N : Nat} (hN : N ≤ 6) (x : Int32) {h : ab_H} (hn : ab_gI h 30 0 = nI N) : ab_ru X (d + 1) 131 [.ref 29, .int x] h = some (some (.int (zb (¬ x < nI 0 ∧ x < nI N))), h) := by
  simp (discharger := omega) only [r131, b131_0, b131_15, zlit, zd30, hn, zJ0, s107i, zpu_s, zpu_n, Option.bind_some, zr0, zr1, zrn0, zrn1, zrb, and_self, and_true, true_and, if_true, if_false, ite_true, ite_false, zpred, Classical.not_not]
theorem zJ11 : (11 : Int64) = (nI 11).toInt64 := rfl
theorem s41 (X : ab_X) (d : Nat) (x : Int32) (h : ab_H) : ab_ru X d 41 [.int x] h = some (some (.int (zb (¬ x < nI 0 ∧ x < nI 12))), h) := by
  simp only [r41, b41_0, b41_4, b41_10, b41_14, b41_15, zlit, zr0, zr1, zrn0, zrn1, zrb, and_self, and_true, true_and, if_true, if_false, ite_true, ite_false]
  unfold zb
  by_cases h1 : x < nI 0 <;> by_cases h2 : x < nI 12 <;> simp [h1, h2, zlit]
theorem s141 (X : ab_X) (d : Nat) (x : Int32) (h : ab_H) : ab_ru X (d + 1) 141 [.int x] h = some (some (.int (zb (¬ x < nI 0 ∧ x < nI 12))), h) := by
  simp (discharger := omega) only [r141, b141_0, b141_9, zJ0, zJ11, s107i, zpu_s, zpu_n, Option.bind_some, zr0, zr1, zrn0, zrn1, zrb, and_self, and_true, true_and, if_true, if_false, ite_true, ite_false, znlt, Nat.reduceAdd, Classical.not_not]
/-- the empty hours of a house of the post as it is -/
def zEm (h : ab_H) (i : Nat) : Int32 := zE (ab_gI h 30 (2 + i)) (ab_gI h 30 (8 + i) ||| ab_gI h 30 (14 + i)) (ab_gI h 30 (14 + i))
def zOu (h : ab_H) (i : Nat) : Int32 := ab_gI h 30 (8 + i) ||| ab_gI h 30 (14 + i)
/-- both sides' posts, where only other cells are written -/
theorem s32n (X : ab_X) (d : Nat) {i N : Nat} (hN : N ≤ 6) (hi : i < N) {h h0 : ab_H} (e1 : ab_gI h 42 i = ab_gI h0 30 (2 + i)) (e2 : ab_gI h 43 i = ab_gI h0 30 (8 + i)) (e3 : ab_gI h 47 i = ab_gI h0 30 (14 + i)) (t1 : ∃ k, k < 6 ∧ ab_gI h0 30 (2 + i) = nI k) : ab_ru X (d + 1) 32 [.ref 41, .int (nI i)] h = some (some (.int (zEm h0 i)), h) := by
  obtain ⟨k, hk, ek⟩ := t1
  rw [s32 X d (a := 41) (Or.inl rfl) (by omega) hk (e1.trans ek), show 41 + 1 + 1 = 43 from rfl, show 41 + 1 + 5 = 47 from rfl, e2, e3]
  unfold zEm
  rw [ek]
theorem s134n (X : ab_X) (d : Nat) {i N : Nat} (hN : N ≤ 6) (hi : i < N) {h : ab_H} (t1 : ∃ k, k < 6 ∧ ab_gI h 30 (2 + i) = nI k) : ab_ru X (d + 1) 134 [.ref 29, .int (nI i)] h = some (some (.int (zEm h i)), h) := by
  obtain ⟨k, hk, ek⟩ := t1
  rw [s134 X d (by omega) hk ek]
  unfold zEm
  rw [ek]
theorem s31n (X : ab_X) (d : Nat) {i N : Nat} (hN : N ≤ 6) (hi : i < N) {h h0 : ab_H} (e2 : ab_gI h 43 i = ab_gI h0 30 (8 + i)) (e3 : ab_gI h 47 i = ab_gI h0 30 (14 + i)) : ab_ru X d 31 [.ref 41, .int (nI i)] h = some (some (.int (zOu h0 i)), h) := by
  rw [s31 X d (a := 41) (Or.inl rfl) (by omega), show 41 + 1 + 1 = 43 from rfl, show 41 + 1 + 5 = 47 from rfl, e2, e3]
  rfl
theorem s133n (X : ab_X) (d : Nat) {i : Nat} (hi : i < 6) (h : ab_H) : ab_ru X d 133 [.ref 29, .int (nI i)] h = some (some (.int (zOu h i)), h) := s133 X d hi h
set_option maxHeartbeats 1000000 in
theorem cp_house (X : ab_X) (d : Nat) (x w : Int32) {h : ab_H} (hI : zInv h) : zCp X (d + 30) 28 130 [.int x, .int w] h := by
  obtain ⟨i1, i2, i3, i4, i5, i6, i7⟩ := id hI
  obtain ⟨N, dc, hN, hdc, n0, n1, n2, n3, n4, n5, k1, k2, k3, k4, k5, t1, t2, t3, t4⟩ := znow hI
  have zJ4 : (4 : Int64) = (nI 4).toInt64 := rfl
  by_cases hx : ¬ x < nI 0 ∧ x < nI N
  · by_cases hw : ¬ w < nI 0 ∧ w < nI 5
    · rcases zix x (n := N) (by omega) with q | q | ⟨i, hi, rfl⟩
      · exact absurd q hx.1
      · exact absurd hx.2 q.2
      rcases zix w (n := 5) (by omega) with q | q | ⟨k, hk, rfl⟩
      · exact absurd q hw.1
      · exact absurd hw.2 q.2
      have goal : ∀ v, ab_ru X (d + 29) 30 [.ref 41, .int (nI i), .int (nI k)] h = some (some (.int v), h) → (∀ h', (∀ j, ab_gI h' 30 j = ab_gI h 30 j) → ab_ru X (d + 29) 132 [.ref 29, .int (nI i), .int (nI k)] h' = some (some (.int v), h')) → zCp X (d + 30) 28 130 [.int (nI i), .int (nI k)] h := by
        intro v e1 e2
        apply zCp_mk
        · simp (discharger := omega) only [r28, b28_0, b28_5, b28_8, b28_12, b28_17, b28_19, b28_29, s29, zpu_s, zpu_n, Option.bind_some, zlit, Bool.false_eq_true, zlt_t, zlt_f, zeq_t, zeq_f, nI_add, pk_mul, zb_0, zb_n0, not_true_eq_false, not_false_eq_true, Classical.not_not, if_true, if_false, ite_true, ite_false, and_self, and_true, true_and, and_false, false_and, or_self, or_true, true_or, or_false, false_or, reduceIte, n2, e1]; rfl
        · have e3 := e2 (ab_sI h 0 11 v) (fun j => zg_ne (by omega) _ _ _ _)
          have e4 := s131 X (d + 28) hN (nI i) (h := ab_sI h 0 11 v) (by rw [zg_ne (by omega)]; exact n5)
          simp (discharger := omega) only [r130, b130_0, b130_5, b130_8, b130_17, b130_20, b130_22, b130_29, b130_33, r112, b112_0, zpu_s, zpu_n, Option.bind_some, zlit, Bool.false_eq_true, zlt_t, zlt_f, zeq_t, zeq_f, nI_add, pk_mul, zb_0, zb_n0, not_true_eq_false, not_false_eq_true, Classical.not_not, if_true, if_false, ite_true, ite_false, and_self, and_true, true_and, and_false, false_and, or_self, or_true, true_or, or_false, false_or, reduceIte, zJ0, zJ4, s107i, e4, e3, zg_ne, zj_ne, zc_ne, zk_ne, zf_ne]; rfl
        · refine ⟨?_, (fun f hf => by simpa (discharger := omega) only [zg_ne, zj_ne, zc_ne, zk_ne, zf_ne, zg_J, zj_I, zc_J, zk_I, zf_J, zg_eq, zg_nj, zj_eq, zj_nj, zf_in, zf_out] using i2 f hf), (fun r hr => by simpa (discharger := omega) only [zg_ne, zj_ne, zc_ne, zk_ne, zf_ne, zg_J, zj_I, zc_J, zk_I, zf_J, zg_eq, zg_nj, zj_eq, zj_nj, zf_in, zf_out] using i3 r hr), (fun t ht => by simpa (discharger := omega) only [zg_ne, zj_ne, zc_ne, zk_ne, zf_ne, zg_J, zj_I, zc_J, zk_I, zf_J, zg_eq, zg_nj, zj_eq, zj_nj, zf_in, zf_out] using i4 t ht), ((zI_posts (h := h) (by intro c h1 h2 i; simp (discharger := omega) only [zg_ne, zj_ne, zc_ne, zk_ne, zf_ne, zg_J, zj_I, zc_J, zk_I, zf_J, zg_eq, zg_nj, zj_eq, zj_nj, zf_in, zf_out]) (by intro c h1 h2 i; simp (discharger := omega) only [zg_ne, zj_ne, zc_ne, zk_ne, zf_ne, zg_J, zj_I, zc_J, zk_I, zf_J, zg_eq, zg_nj, zj_eq, zj_nj, zf_in, zf_out]) (by intro i; simp (discharger := omega) only [zg_ne, zj_ne, zc_ne, zk_ne, zf_ne, zg_J, zj_I, zc_J, zk_I, zf_J, zg_eq, zg_nj, zj_eq, zj_nj, zf_in, zf_out]) (by intro i; simp (discharger := omega) only [zg_ne, zj_ne, zc_ne, zk_ne, zf_ne, zg_J, zj_I, zc_J, zk_I, zf_J, zg_eq, zg_nj, zj_eq, zj_nj, zf_in, zf_out]) (by simp (discharger := omega) only [zg_ne, zj_ne, zc_ne, zk_ne, zf_ne, zg_J, zj_I, zc_J, zk_I, zf_J, zg_eq, zg_nj, zj_eq, zj_nj, zf_in, zf_out])).1 i5), ((zI_posts (h := h) (by intro c h1 h2 i; simp (discharger := omega) only [zg_ne, zj_ne, zc_ne, zk_ne, zf_ne, zg_J, zj_I, zc_J, zk_I, zf_J, zg_eq, zg_nj, zj_eq, zj_nj, zf_in, zf_out]) (by intro c h1 h2 i; simp (discharger := omega) only [zg_ne, zj_ne, zc_ne, zk_ne, zf_ne, zg_J, zj_I, zc_J, zk_I, zf_J, zg_eq, zg_nj, zj_eq, zj_nj, zf_in, zf_out]) (by intro i; simp (discharger := omega) only [zg_ne, zj_ne, zc_ne, zk_ne, zf_ne, zg_J, zj_I, zc_J, zk_I, zf_J, zg_eq, zg_nj, zj_eq, zj_nj, zf_in, zf_out]) (by intro i; simp (discharger := omega) only [zg_ne, zj_ne, zc_ne, zk_ne, zf_ne, zg_J, zj_I, zc_J, zk_I, zf_J, zg_eq, zg_nj, zj_eq, zj_nj, zf_in, zf_out]) (by simp (discharger := omega) only [zg_ne, zj_ne, zc_ne, zk_ne, zf_ne, zg_J, zj_I, zc_J, zk_I, zf_J, zg_eq, zg_nj, zj_eq, zj_nj, zf_in, zf_out])).2 i6), (by simpa (discharger := omega) only [zI_sea, zg_ne, zj_ne, zc_ne, zk_ne, zf_ne, zg_J, zj_I, zc_J, zk_I, zf_J, zg_eq, zg_nj, zj_eq, zj_nj, zf_in, zf_out] using i7)⟩
          obtain ⟨a1, a2, a3, a4⟩ := i1
          simp (discharger := omega) only [zI_ask, zg_ne, zj_ne, zc_ne, zk_ne, zf_ne, zg_J, zj_I, zc_J, zk_I, zf_J, zg_eq, zg_nj, zj_eq, zj_nj, zf_in, zf_out]
          exact ⟨trivial, a2, a3, a4⟩
      have e9 : k = 0 ∨ k = 1 ∨ k = 2 ∨ k = 3 ∨ k = 4 := by omega
      rcases e9 with rfl | rfl | rfl | rfl | rfl
      · refine goal (ab_gI h 30 (2 + i)) ?_ (fun h' e => ?_)
        · simp (discharger := omega) only [r30, b30_0, b30_32, b30_39, b30_44, b30_45, b30_52, b30_57, b30_58, ts30_0, ts30_1, ts30_2, ts30_3, ts30_4, zP_ob, zP_rf, Nat.reduceAdd, zd42, k1]
        · simp (discharger := omega) only [r132, b132_0, b132_32, b132_41, b132_46, b132_47, b132_57, b132_62, b132_63, ts132_0, ts132_1, ts132_2, ts132_3, ts132_4, zlit, Bool.false_eq_true, zlt_t, zlt_f, zeq_t, zeq_f, nI_add, pk_mul, zb_0, zb_n0, not_true_eq_false, not_false_eq_true, Classical.not_not, if_true, if_false, ite_true, ite_false, and_self, and_true, true_and, and_false, false_and, or_self, or_true, true_or, or_false, false_or, reduceIte, zd30, e]
      · refine goal (zOu h i) ?_ (fun h' e => ?_)
        · simp (discharger := omega) only [r30, b30_0, b30_32, b30_39, b30_44, b30_45, b30_52, b30_57, b30_58, ts30_0, ts30_1, ts30_2, ts30_3, ts30_4, zP_ob, zP_rf, Nat.reduceAdd, zpu_s, zpu_n, Option.bind_some, s31n X _ hN hi (k2 i hi) (k3 i hi)]
        · simp (discharger := omega) only [r132, b132_0, b132_32, b132_41, b132_46, b132_47, b132_57, b132_62, b132_63, ts132_0, ts132_1, ts132_2, ts132_3, ts132_4, zlit, Bool.false_eq_true, zlt_t, zlt_f, zeq_t, zeq_f, nI_add, pk_mul, zb_0, zb_n0, not_true_eq_false, not_false_eq_true, Classical.not_not, if_true, if_false, ite_true, ite_false, and_self, and_true, true_and, and_false, false_and, or_self, or_true, true_or, or_false, false_or, reduceIte, zpu_s, zpu_n, Option.bind_some, s133n]
          unfold zOu; rw [e, e]
      · refine goal (ab_gI h 30 (20 + i)) ?_ (fun h' e => ?_)
        · simp (discharger := omega) only [r30, b30_0, b30_32, b30_39, b30_44, b30_45, b30_52, b30_57, b30_58, ts30_0, ts30_1, ts30_2, ts30_3, ts30_4, zP_ob, zP_rf, Nat.reduceAdd, zd45, k4]
        · simp (discharger := omega) only [r132, b132_0, b132_32, b132_41, b132_46, b132_47, b132_57, b132_62, b132_63, ts132_0, ts132_1, ts132_2, ts132_3, ts132_4, zlit, Bool.false_eq_true, zlt_t, zlt_f, zeq_t, zeq_f, nI_add, pk_mul, zb_0, zb_n0, not_true_eq_false, not_false_eq_true, Classical.not_not, if_true, if_false, ite_true, ite_false, and_self, and_true, true_and, and_false, false_and, or_self, or_true, true_or, or_false, false_or, reduceIte, zd30, e]
      · refine goal (zEm h i) ?_ (fun h' e => ?_)
        · simp (discharger := omega) only [r30, b30_0, b30_32, b30_39, b30_44, b30_45, b30_52, b30_57, b30_58, ts30_0, ts30_1, ts30_2, ts30_3, ts30_4, zP_ob, zP_rf, Nat.reduceAdd, zpu_s, zpu_n, Option.bind_some, s32n X _ hN hi (k1 i hi) (k2 i hi) (k3 i hi) (t1 i hi)]
        · have ee := s134n X (d + 27) hN hi (h := h') (by rw [e]; exact t1 i hi)
          simp (discharger := omega) only [r132, b132_0, b132_32, b132_41, b132_46, b132_47, b132_57, b132_62, b132_63, ts132_0, ts132_1, ts132_2, ts132_3, ts132_4, zlit, Bool.false_eq_true, zlt_t, zlt_f, zeq_t, zeq_f, nI_add, pk_mul, zb_0, zb_n0, not_true_eq_false, not_false_eq_true, Classical.not_not, if_true, if_false, ite_true, ite_false, and_self, and_true, true_and, and_false, false_and, or_self, or_true, true_or, or_false, false_or, reduceIte, zpu_s, zpu_n, Option.bind_some, ee]
          unfold zEm; rw [e, e, e]
      · refine goal (ab_gI h 30 (26 + i)) ?_ (fun h' e => ?_)
        · simp (discharger := omega) only [r30, b30_0, b30_32, b30_39, b30_44, b30_45, b30_52, b30_57, b30_58, ts30_0, ts30_1, ts30_2, ts30_3, ts30_4, zP_ob, zP_rf, Nat.reduceAdd, zd46, k5]
        · simp (discharger := omega) only [r132, b132_0, b132_32, b132_41, b132_46, b132_47, b132_57, b132_62, b132_63, ts132_0, ts132_1, ts132_2, ts132_3, ts132_4, zlit, Bool.false_eq_true, zlt_t, zlt_f, zeq_t, zeq_f, nI_add, pk_mul, zb_0, zb_n0, not_true_eq_false, not_false_eq_true, Classical.not_not, if_true, if_false, ite_true, ite_false, and_self, and_true, true_and, and_false, false_and, or_self, or_true, true_or, or_false, false_or, reduceIte, zd30, e]
    · apply zCp_mk
      · have hw1 : w < nI 0 ∨ ¬ w < nI 5 := by
          rcases Classical.em (w < nI 0) with a | a
          · exact Or.inl a
          · exact Or.inr (fun b => hw ⟨a, b⟩)
        have e1 : ab_ru X (d + 30) 28 [.ref 0, .int x, .int w] h = some (some (.int (-nI 1)), h) := by
          by_cases hw2 : w < nI 0
          · simp (discharger := omega) only [r28, b28_0, b28_5, b28_8, b28_12, b28_17, b28_19, b28_29, s29, zpu_s, zpu_n, Option.bind_some, zlit, Bool.false_eq_true, zlt_t, zlt_f, zeq_t, zeq_f, nI_add, pk_mul, zb_0, zb_n0, not_true_eq_false, not_false_eq_true, Classical.not_not, if_true, if_false, ite_true, ite_false, and_self, and_true, true_and, and_false, false_and, or_self, or_true, true_or, or_false, false_or, reduceIte, n2, hx, hw2]
          · have hw3 : ¬ w < nI 5 := hw1.resolve_left hw2
            simp (discharger := omega) only [r28, b28_0, b28_5, b28_8, b28_12, b28_17, b28_19, b28_29, s29, zpu_s, zpu_n, Option.bind_some, zlit, Bool.false_eq_true, zlt_t, zlt_f, zeq_t, zeq_f, nI_add, pk_mul, zb_0, zb_n0, not_true_eq_false, not_false_eq_true, Classical.not_not, if_true, if_false, ite_true, ite_false, and_self, and_true, true_and, and_false, false_and, or_self, or_true, true_or, or_false, false_or, reduceIte, n2, hx, hw2, hw3]
        exact e1
      · simp (discharger := omega) only [r130, b130_0, b130_5, b130_8, b130_17, b130_20, b130_22, b130_29, b130_33, zpu_s, zpu_n, Option.bind_some, zlit, Bool.false_eq_true, zlt_t, zlt_f, zeq_t, zeq_f, nI_add, pk_mul, zb_0, zb_n0, not_true_eq_false, not_false_eq_true, Classical.not_not, if_true, if_false, ite_true, ite_false, and_self, and_true, true_and, and_false, false_and, or_self, or_true, true_or, or_false, false_or, reduceIte, zJ0, zJ4, s107i, s131 X _ hN, n5, hx, znlt, Nat.reduceAdd, Classical.not_not, hw]; rfl
      · exact hI
  · apply zCp_mk
    · simp (discharger := omega) only [r28, b28_0, b28_5, b28_8, b28_12, b28_17, b28_19, b28_29, s29, zpu_s, zpu_n, Option.bind_some, zlit, Bool.false_eq_true, zlt_t, zlt_f, zeq_t, zeq_f, nI_add, pk_mul, zb_0, zb_n0, not_true_eq_false, not_false_eq_true, Classical.not_not, if_true, if_false, ite_true, ite_false, and_self, and_true, true_and, and_false, false_and, or_self, or_true, true_or, or_false, false_or, reduceIte, n2, hx]; rfl
    · simp (discharger := omega) only [r130, b130_0, b130_5, b130_8, b130_17, b130_20, b130_22, b130_29, b130_33, zpu_s, zpu_n, Option.bind_some, zlit, Bool.false_eq_true, zlt_t, zlt_f, zeq_t, zeq_f, nI_add, pk_mul, zb_0, zb_n0, not_true_eq_false, not_false_eq_true, Classical.not_not, if_true, if_false, ite_true, ite_false, and_self, and_true, true_and, and_false, false_and, or_self, or_true, true_or, or_false, false_or, reduceIte, s131 X _ hN, n5, hx]; rfl
    · exact hI
