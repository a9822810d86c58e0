/-! loops that gather -/
theorem zloop {β : Type} (E : β → Nat → Option ab_R) (f : Nat → β → β) (n : Nat) (hs : ∀ k a, k < n → E a k = E (f k a) (k + 1)) (a : β) : E a 0 = E (zit f a n) n := by
  have key : ∀ k, k ≤ n → E a 0 = E (zit f a k) k := by
    intro k
    induction k with
    | zero => intro _; rfl
    | succ k ih =>
      intro hk
      rw [ih (by omega), hs k _ (by omega)]
      rfl
  exact key n (Nat.le_refl n)
theorem zit_congr {β : Type} {f g : Nat → β → β} {a : β} : ∀ {n : Nat}, (∀ k b, k < n → f k b = g k b) → zit f a n = zit g a n
  | 0, _ => rfl
  | n + 1, e => by unfold zit; rw [zit_congr (fun k b hk => e k b (by omega)), e n _ (by omega)]
theorem s85 (X : ab_X) (d : Nat) {a b N : Nat} (ha : a = 41 ∨ a = 49 ∨ a = 57 ∨ a = 65) (hb : ab_sh b = (1, 6, 0)) (hN : N ≤ 6) {h : ab_H} (hn : ab_gI h a 7 = nI N) : ab_ru X d 85 [.ref a, .ref b] h = some (some (.int (zit (fun k s => s + ab_gI h b k) (nI 0) N)), h) := by
  have key := zloop (fun s k => ab_ex X d 85 4 [.ref a, .ref b, .int s, .int (nI k)] [] h) (fun k s => s + ab_gI h b k) N (fun k s hk => by
    rw [l85_4, zP_ob ha, hn, if_pos (nI_lt (by omega) (by omega)), b85_12, z_ld (by rw [hb]) (by rw [hb]; dsimp only; omega), zlit 1, nI_add]) (nI 0)
  simp (discharger := omega) only [r85, b85_0, zlit]
  rw [key, l85_4, zP_ob ha, hn, if_neg (nI_nlt (by omega) (by omega)), b85_24]
theorem s185 (X : ab_X) (d : Nat) {N c : Nat} (hN : N ≤ 6) (hc : c < 1000) {h : ab_H} (hn : ab_gI h 30 0 = nI N) : ab_ru X d 185 [.ref 29, .int (nI c)] h = some (some (.int (zit (fun k s => s + ab_gI h 30 (c + k)) (nI 0) N)), h) := by
  have key := zloop (fun s k => ab_ex X d 185 4 [.ref 29, .int (nI c), .int s, .int (nI k)] [] h) (fun k s => s + ab_gI h 30 (c + k)) N (fun k s hk => by
    rw [l185_4]
    simp (discharger := omega) only [zd30, hn, b185_14, zlit, Bool.false_eq_true, zlt_t, zlt_f, zeq_t, zeq_f, nI_add, pk_mul, zb_0, zb_n0, not_true_eq_false, not_false_eq_true, Classical.not_not, if_true, if_false, ite_true, ite_false, and_self, and_true, true_and, and_false, false_and, or_self, or_true, true_or, or_false, false_or, reduceIte]) (nI 0)
  simp (discharger := omega) only [r185, b185_0, zlit]
  rw [key, l185_4]
  simp (discharger := omega) only [zd30, hn, b185_31, zlit, Bool.false_eq_true, zlt_t, zlt_f, zeq_t, zeq_f, nI_add, pk_mul, zb_0, zb_n0, not_true_eq_false, not_false_eq_true, Classical.not_not, if_true, if_false, ite_true, ite_false, and_self, and_true, true_and, and_false, false_and, or_self, or_true, true_or, or_false, false_or, reduceIte]
def zK (k w : Int32) : Bool := decide (k = w) || ((decide (k = nI 4) && decide (w = nI 1)) || (decide (k = nI 5) && decide (w = nI 3)))
theorem s35 (X : ab_X) (d : Nat) (k w : Int32) (h : ab_H) : ab_ru X d 35 [.int k, .int w] h = some (some (.int (zb (zK k w = true))), h) := by
  simp only [r35, b35_0, b35_5, b35_10, b35_15, b35_20, b35_25, b35_29, b35_30, zlit, zr0, zr1, zrn0, zrn1, zrb, and_self, and_true, true_and, if_true, if_false, ite_true, ite_false]
  unfold zb zK
  by_cases h1 : k = w
  · simp [h1, zlit]
  · by_cases h2 : k = nI 4 <;> by_cases h3 : w = nI 1 <;> by_cases h4 : k = nI 5 <;> by_cases h5 : w = nI 3 <;> simp [h1, h2, h3, h4, h5, zlit] <;> simp_all
theorem s98 (X : ab_X) (d : Nat) {a N : Nat} (ha : a = 41 ∨ a = 49 ∨ a = 57 ∨ a = 65) (hN : N ≤ 6) (w : Int32) {h : ab_H} (hn : ab_gI h a 7 = nI N) : ab_ru X (d + 1) 98 [.ref a, .int w] h = some (some (.int (zit (fun k s => s + zb (zK (ab_gI h (a + 1 + 0) k) w = true)) (nI 0) N)), h) := by
  have key := zloop (fun s k => ab_ex X (d + 1) 98 4 [.ref a, .int w, .int s, .int (nI k)] [] h) (fun k s => s + zb (zK (ab_gI h (a + 1 + 0) k) w = true)) N (fun k s hk => by
    rw [l98_4, zP_ob ha, hn, if_pos (nI_lt (by omega) (by omega))]
    simp (discharger := omega) only [b98_12, zP_ob, zP_rf, zP_ld, s35, zpu_s, zpu_n, Option.bind_some, b98_22, zlit, Bool.false_eq_true, zlt_t, zlt_f, zeq_t, zeq_f, nI_add, pk_mul, zb_0, zb_n0, not_true_eq_false, not_false_eq_true, Classical.not_not, if_true, if_false, ite_true, ite_false, and_self, and_true, true_and, and_false, false_and, or_self, or_true, true_or, or_false, false_or, reduceIte]
    by_cases hq : zK (ab_gI h (a + 1 + 0) k) w = true
    · rw [zb_t hq]
      simp (discharger := omega) only [hq, zlit, Bool.false_eq_true, zlt_t, zlt_f, zeq_t, zeq_f, nI_add, pk_mul, zb_0, zb_n0, not_true_eq_false, not_false_eq_true, Classical.not_not, if_true, if_false, ite_true, ite_false, and_self, and_true, true_and, and_false, false_and, or_self, or_true, true_or, or_false, false_or, reduceIte, b98_25, b98_28]
    · rw [zb_f hq]
      simp (discharger := omega) only [hq, zlit, Bool.false_eq_true, zlt_t, zlt_f, zeq_t, zeq_f, nI_add, pk_mul, zb_0, zb_n0, not_true_eq_false, not_false_eq_true, Classical.not_not, if_true, if_false, ite_true, ite_false, and_self, and_true, true_and, and_false, false_and, or_self, or_true, true_or, or_false, false_or, reduceIte, b98_25, b98_28]
      rw [show s + nI 0 = s from Int32.add_zero s]) (nI 0)
  simp (discharger := omega) only [r98, b98_0, zlit]
  rw [key, l98_4, zP_ob ha, hn, if_neg (nI_nlt (by omega) (by omega)), b98_34]
theorem s186 (X : ab_X) (d : Nat) {N : Nat} (hN : N ≤ 6) (w u : Int32) {h : ab_H} (hn : ab_gI h 30 0 = nI N) : ab_ru X d 186 [.ref 29, .int w, .int u] h = some (some (.int (zit (fun k s => s + zb (ab_gI h 30 (2 + k) = w ∨ ab_gI h 30 (2 + k) = u)) (nI 0) N)), h) := by
  have key := zloop (fun s k => ab_ex X d 186 5 [.ref 29, .int w, .int u, .int s, .int (nI k)] [] h) (fun k s => s + zb (ab_gI h 30 (2 + k) = w ∨ ab_gI h 30 (2 + k) = u)) N (fun k s hk => by
    rw [l186_5]
    simp (discharger := omega) only [zd30, hn, zlit, Bool.false_eq_true, zlt_t, zlt_f, zeq_t, zeq_f, nI_add, pk_mul, zb_0, zb_n0, not_true_eq_false, not_false_eq_true, Classical.not_not, if_true, if_false, ite_true, ite_false, and_self, and_true, true_and, and_false, false_and, or_self, or_true, true_or, or_false, false_or, reduceIte, b186_16, b186_30, b186_43, b186_47, b186_48]
    by_cases h1 : ab_gI h 30 (2 + k) = w
    · rw [if_pos h1, zb_t (Or.inl h1)]; rfl
    · rw [if_neg h1]
      by_cases h2 : ab_gI h 30 (2 + k) = u
      · rw [if_pos h2, zb_t (Or.inr h2)]; rfl
      · rw [if_neg h2, zb_f (fun q => q.elim h1 h2)]; rfl) (nI 0)
  simp (discharger := omega) only [r186, b186_0, zlit]
  rw [key, l186_5]
  simp (discharger := omega) only [zd30, hn, b186_56, zlit, Bool.false_eq_true, zlt_t, zlt_f, zeq_t, zeq_f, nI_add, pk_mul, zb_0, zb_n0, not_true_eq_false, not_false_eq_true, Classical.not_not, if_true, if_false, ite_true, ite_false, and_self, and_true, true_and, and_false, false_and, or_self, or_true, true_or, or_false, false_or, reduceIte]
theorem s99 (X : ab_X) (d : Nat) {a n : Nat} (ha : ab_sh a = (1, n, 0)) (h : ab_H) : ab_ru X d 99 [.ref a] h = some (some (.int (zit (fun k s => s + zb (¬ ab_gI h a k < nI 0)) (nI 0) n)), h) := by
  have hl := z_len a
  rw [ha] at hl
  dsimp only at hl
  have hs : ∀ k s v5, k < n → ab_ex X d 99 10 [.ref a, .int s, .ref a, .int (nI n), .int (nI k), v5] [] h = ab_ex X d 99 10 [.ref a, .int (s + zb (¬ ab_gI h a k < nI 0)), .ref a, .int (nI n), .int (nI (k + 1)), .int (ab_gI h a k)] [] h := fun k s v5 hk => by
    rw [l99_10, if_pos (nI_lt (by omega) (by omega)), b99_16, z_ld (by rw [ha]) (by rw [ha]; exact hk)]
    by_cases h1 : ab_gI h a k < nI 0
    · rw [zb_f (fun q => q h1)]
      simp (discharger := omega) only [zlit, Bool.false_eq_true, zlt_t, zlt_f, zeq_t, zeq_f, nI_add, pk_mul, zb_0, zb_n0, not_true_eq_false, not_false_eq_true, Classical.not_not, if_true, if_false, ite_true, ite_false, and_self, and_true, true_and, and_false, false_and, or_self, or_true, true_or, or_false, false_or, reduceIte, h1, b99_30]
      rw [show s + nI 0 = s from Int32.add_zero s]
    · rw [zb_t h1]
      simp (discharger := omega) only [zlit, Bool.false_eq_true, zlt_t, zlt_f, zeq_t, zeq_f, nI_add, pk_mul, zb_0, zb_n0, not_true_eq_false, not_false_eq_true, Classical.not_not, if_true, if_false, ite_true, ite_false, and_self, and_true, true_and, and_false, false_and, or_self, or_true, true_or, or_false, false_or, reduceIte, h1, b99_27, b99_30]
  have key : ∀ m, m ≤ n → ∃ v5, ab_ex X d 99 10 [.ref a, .int (nI 0), .ref a, .int (nI n), .int (nI 0), .null] [] h = ab_ex X d 99 10 [.ref a, .int (zit (fun k s => s + zb (¬ ab_gI h a k < nI 0)) (nI 0) m), .ref a, .int (nI n), .int (nI m), v5] [] h := by
    intro m
    induction m with
    | zero => intro _; exact ⟨.null, rfl⟩
    | succ m ih =>
      intro hm
      obtain ⟨v5, e⟩ := ih (by omega)
      exact ⟨_, e.trans (hs m _ v5 (by omega))⟩
  obtain ⟨v5, e⟩ := key n (Nat.le_refl n)
  rw [r99, b99_0]
  unfold ab_ln
  rw [ha, if_pos (Or.inl rfl)]
  refine Eq.trans (show _ = ab_ex X d 99 10 [.ref a, .int (nI 0), .ref a, .int (nI n), .int (nI 0), .null] [] h from rfl) ?_
  rw [e, l99_10, if_neg (nI_nlt (by omega) (by omega)), b99_36]
theorem s187 (X : ab_X) (d : Nat) {a n : Nat} (ha : ab_sh a = (1, n, 0)) (h : ab_H) : ab_ru X d 187 [.ref a, .int (nI n)] h = some (some (.int (zit (fun k s => s + zb (¬ ab_gI h a k < nI 0)) (nI 0) n)), h) := by
  have hl := z_len a
  rw [ha] at hl
  dsimp only at hl
  have key := zloop (fun s k => ab_ex X d 187 4 [.ref a, .int (nI n), .int s, .int (nI k)] [] h) (fun k s => s + zb (¬ ab_gI h a k < nI 0)) n (fun k s hk => by
    rw [l187_4, if_pos (nI_lt (by omega) (by omega)), b187_9, z_ld (by rw [ha]) (by rw [ha]; exact hk)]
    by_cases h1 : ab_gI h a k < nI 0
    · rw [zb_f (fun q => q h1)]
      simp (discharger := omega) only [zlit, Bool.false_eq_true, zlt_t, zlt_f, zeq_t, zeq_f, nI_add, pk_mul, zb_0, zb_n0, not_true_eq_false, not_false_eq_true, Classical.not_not, if_true, if_false, ite_true, ite_false, and_self, and_true, true_and, and_false, false_and, or_self, or_true, true_or, or_false, false_or, reduceIte, h1, b187_16, b187_21]
    · rw [zb_t h1]
      simp (discharger := omega) only [zlit, Bool.false_eq_true, zlt_t, zlt_f, zeq_t, zeq_f, nI_add, pk_mul, zb_0, zb_n0, not_true_eq_false, not_false_eq_true, Classical.not_not, if_true, if_false, ite_true, ite_false, and_self, and_true, true_and, and_false, false_and, or_self, or_true, true_or, or_false, false_or, reduceIte, h1, b187_20, b187_21]) (nI 0)
  simp (discharger := omega) only [r187, b187_0, zlit]
  rw [key, l187_4, if_neg (nI_nlt (by omega) (by omega)), b187_29]
theorem s100 (X : ab_X) (d : Nat) (h : ab_H) : ab_ru X d 100 [.ref 0] h = some (some (.int (zit (fun k s => s + zb (nI 0 < ab_gI h (49 + 8 * k) 7)) (nI 0) 3)), h) := by
  have key := zloop (fun s k => ab_ex X d 100 4 [.ref 0, .int s, .int (nI k)] [] h) (fun k s => s + zb (nI 0 < ab_gI h (49 + 8 * k) 7)) 3 (fun k s hk => by
    rw [l100_4]
    simp (discharger := omega) only [zlit, Bool.false_eq_true, zlt_t, zlt_f, zeq_t, zeq_f, nI_add, pk_mul, zb_0, zb_n0, not_true_eq_false, not_false_eq_true, Classical.not_not, if_true, if_false, ite_true, ite_false, and_self, and_true, true_and, and_false, false_and, or_self, or_true, true_or, or_false, false_or, reduceIte, b100_9, zL_kept, zP_ob, b100_21, b100_24]
    by_cases h1 : nI 0 < ab_gI h (49 + 8 * k) 7
    · rw [if_pos h1, zb_t h1]; rfl
    · rw [if_neg h1, zb_f h1, show s + 0 = s from Int32.add_zero s]) (nI 0)
  simp (discharger := omega) only [r100, b100_0, zlit]
  rw [key, l100_4]
  simp (discharger := omega) only [zlit, Bool.false_eq_true, zlt_t, zlt_f, zeq_t, zeq_f, nI_add, pk_mul, zb_0, zb_n0, not_true_eq_false, not_false_eq_true, Classical.not_not, if_true, if_false, ite_true, ite_false, and_self, and_true, true_and, and_false, false_and, or_self, or_true, true_or, or_false, false_or, reduceIte, b100_30]
theorem zap_lo {N : Nat} {x : Int64} {S : zS} {j : Nat} (hj : j < 14) (h1 : j ≠ 1) : zap N x S j = S j := by
  unfold zap
  split
  · unfold upd
    rw [if_neg (by omega)]
  · unfold zend
    rw [if_neg h1, if_neg (by omega), if_neg (by omega), if_neg (by omega)]
theorem zH_lo (h : ab_H) (a N : Nat) {j : Nat} (hj : j < 14) (h1 : j ≠ 1) : ∀ dc, zH h a N dc j = zH h a N 0 j
  | 0 => rfl
  | dc + 1 => by
    rw [← zH_lo h a N hj h1 dc]
    exact zap_lo hj h1
/-- the post as it is, on both sides -/
theorem znow {h : ab_H} (hI : zInv h) : ∃ N dc, N ≤ 6 ∧ dc ≤ 40 ∧ (N = 0 → dc = 0) ∧ ab_gI h 29 1 = nI dc ∧ ab_gI h 41 7 = nI N ∧ ab_gI h 41 9 = nI dc ∧ ab_gI h 41 8 = ab_gI h 30 1 ∧ ab_gI h 30 0 = nI N
    ∧ (∀ i, i < N → ab_gI h 42 i = ab_gI h 30 (2 + i)) ∧ (∀ i, i < N → ab_gI h 43 i = ab_gI h 30 (8 + i)) ∧ (∀ i, i < N → ab_gI h 47 i = ab_gI h 30 (14 + i)) ∧ (∀ i, i < N → ab_gI h 45 i = ab_gI h 30 (20 + i)) ∧ (∀ i, i < N → ab_gI h 46 i = ab_gI h 30 (26 + i))
    ∧ (∀ i, i < N → ∃ k, k < 6 ∧ ab_gI h 30 (2 + i) = nI k) ∧ (∀ i, i < N → ∃ o, o < 4096 ∧ ab_gI h 30 (8 + i) = nI o) ∧ (∀ i, i < N → ∃ o, o < 4096 ∧ ab_gI h 30 (14 + i) = nI o) ∧ (∀ i, i < N → ∃ q, q ≤ 99 ∧ ab_gI h 30 (20 + i) = nI q) := by
  obtain ⟨-, -, -, -, ⟨N, dc, n0, n1, pc⟩, -, -⟩ := hI
  obtain ⟨q1, q2, q3, q4, q5, q6, q7, q8, q9, q10⟩ := pc
  have hw := q10 0 (by omega)
  rw [zH_lo h 41 N (by omega) (by omega) dc] at hw
  simp only [Nat.zero_add] at q5 q6 q7 hw
  exact ⟨N, dc, q1, q2, n0, n1, q3, q4, q5, hw, fun i hi => (q6 i hi).1, fun i hi => (q6 i hi).2.1, fun i hi => (q6 i hi).2.2.1, fun i hi => (q6 i hi).2.2.2.1, fun i hi => (q6 i hi).2.2.2.2, fun i hi => (q7 i hi).1, fun i hi => (q7 i hi).2.1, fun i hi => (q7 i hi).2.2.1, fun i hi => (q7 i hi).2.2.2.1⟩
set_option maxHeartbeats 1000000 in
theorem cp_count (X : ab_X) (d : Nat) (w : Int32) {h : ab_H} (hI : zInv h) : zCp X (d + 30) 97 184 [.int w] h := by
  obtain ⟨i1, i2, i3, i4, i5, i6, i7⟩ := id hI
  obtain ⟨N, dc, hN, hdc, n0, n1, n2, n3, n4, n5, k1, k2, k3, k4, k5, t1, t2, t3, t4⟩ := znow hI
  rcases zix w (n := 10) (by omega) with q | q | ⟨k, hk, rfl⟩
  · apply zCp_mk
    · simp (discharger := omega) only [r97, b97_0, b97_4, b97_10, b97_12, b97_64, b97_72, b97_80, b97_88, b97_102, b97_103, b97_117, b97_118, b97_126, b97_127, b97_135, b97_136, b97_143, b97_144, b97_151, b97_152, b97_156, zlit, Bool.false_eq_true, zlt_t, zlt_f, zeq_t, zeq_f, nI_add, pk_mul, zb_0, zb_n0, not_true_eq_false, not_false_eq_true, Classical.not_not, if_true, if_false, ite_true, ite_false, and_self, and_true, true_and, and_false, false_and, or_self, or_true, true_or, or_false, false_or, reduceIte, q]; rfl
    · rw [r184, b184_0, ts184_d (Or.inl (by rw [Int32.lt_iff_toInt_lt, nI_toInt (by omega)] at q; omega)), b184_131]; rfl
    · exact hI
  · apply zCp_mk
    · simp (discharger := omega) only [r97, b97_0, b97_4, b97_10, b97_12, b97_64, b97_72, b97_80, b97_88, b97_102, b97_103, b97_117, b97_118, b97_126, b97_127, b97_135, b97_136, b97_143, b97_144, b97_151, b97_152, b97_156, zlit, Bool.false_eq_true, zlt_t, zlt_f, zeq_t, zeq_f, nI_add, pk_mul, zb_0, zb_n0, not_true_eq_false, not_false_eq_true, Classical.not_not, if_true, if_false, ite_true, ite_false, and_self, and_true, true_and, and_false, false_and, or_self, or_true, true_or, or_false, false_or, reduceIte, q]; rfl
    · rw [r184, b184_0, ts184_d (Or.inr (by have := q.2; rw [Int32.lt_iff_toInt_lt, nI_toInt (by omega)] at this; omega)), b184_131]; rfl
    · exact hI
  · have e : k = 0 ∨ k = 1 ∨ k = 2 ∨ k = 3 ∨ k = 4 ∨ k = 5 ∨ k = 6 ∨ k = 7 ∨ k = 8 ∨ k = 9 := by omega
    rcases e with rfl | rfl | rfl | rfl | rfl | rfl | rfl | rfl | rfl | rfl
    · apply zCp_mk
      · simp (discharger := omega) only [r97, b97_0, b97_4, b97_10, b97_12, b97_64, b97_72, b97_80, b97_88, b97_102, b97_103, b97_117, b97_118, b97_126, b97_127, b97_135, b97_136, b97_143, b97_144, b97_151, b97_152, b97_156, zlit, Bool.false_eq_true, zlt_t, zlt_f, zeq_t, zeq_f, nI_add, pk_mul, zb_0, zb_n0, not_true_eq_false, not_false_eq_true, Classical.not_not, if_true, if_false, ite_true, ite_false, and_self, and_true, true_and, and_false, false_and, or_self, or_true, true_or, or_false, false_or, reduceIte, ts97_0, ts97_1, ts97_2, ts97_3, ts97_4, ts97_5, ts97_6, ts97_7, ts97_8, ts97_9]; rfl
      · simp (discharger := omega) only [r184, b184_0, b184_56, b184_63, b184_70, b184_75, b184_81, b184_82, b184_88, b184_89, b184_95, b184_96, b184_102, b184_103, b184_112, b184_113, b184_121, b184_122, b184_130, b184_131, zlit, Bool.false_eq_true, zlt_t, zlt_f, zeq_t, zeq_f, nI_add, pk_mul, zb_0, zb_n0, not_true_eq_false, not_false_eq_true, Classical.not_not, if_true, if_false, ite_true, ite_false, and_self, and_true, true_and, and_false, false_and, or_self, or_true, true_or, or_false, false_or, reduceIte, ts184_0, ts184_1, ts184_2, ts184_3, ts184_4, ts184_5, ts184_6, ts184_7, ts184_8, ts184_9, ts184_10, zd30, n5, n2]; rfl
      · exact hI
    · apply zCp_mk
      · simp (discharger := omega) only [r97, b97_0, b97_4, b97_10, b97_12, b97_64, b97_72, b97_80, b97_88, b97_102, b97_103, b97_117, b97_118, b97_126, b97_127, b97_135, b97_136, b97_143, b97_144, b97_151, b97_152, b97_156, zlit, Bool.false_eq_true, zlt_t, zlt_f, zeq_t, zeq_f, nI_add, pk_mul, zb_0, zb_n0, not_true_eq_false, not_false_eq_true, Classical.not_not, if_true, if_false, ite_true, ite_false, and_self, and_true, true_and, and_false, false_and, or_self, or_true, true_or, or_false, false_or, reduceIte, ts97_0, ts97_1, ts97_2, ts97_3, ts97_4, ts97_5, ts97_6, ts97_7, ts97_8, ts97_9]; rfl
      · simp (discharger := omega) only [r184, b184_0, b184_56, b184_63, b184_70, b184_75, b184_81, b184_82, b184_88, b184_89, b184_95, b184_96, b184_102, b184_103, b184_112, b184_113, b184_121, b184_122, b184_130, b184_131, zlit, Bool.false_eq_true, zlt_t, zlt_f, zeq_t, zeq_f, nI_add, pk_mul, zb_0, zb_n0, not_true_eq_false, not_false_eq_true, Classical.not_not, if_true, if_false, ite_true, ite_false, and_self, and_true, true_and, and_false, false_and, or_self, or_true, true_or, or_false, false_or, reduceIte, ts184_0, ts184_1, ts184_2, ts184_3, ts184_4, ts184_5, ts184_6, ts184_7, ts184_8, ts184_9, ts184_10, zd30, n4]; rfl
      · exact hI
    · apply zCp_mk
      · simp (discharger := omega) only [r97, b97_0, b97_4, b97_10, b97_12, b97_64, b97_72, b97_80, b97_88, b97_102, b97_103, b97_117, b97_118, b97_126, b97_127, b97_135, b97_136, b97_143, b97_144, b97_151, b97_152, b97_156, zlit, Bool.false_eq_true, zlt_t, zlt_f, zeq_t, zeq_f, nI_add, pk_mul, zb_0, zb_n0, not_true_eq_false, not_false_eq_true, Classical.not_not, if_true, if_false, ite_true, ite_false, and_self, and_true, true_and, and_false, false_and, or_self, or_true, true_or, or_false, false_or, reduceIte, ts97_0, ts97_1, ts97_2, ts97_3, ts97_4, ts97_5, ts97_6, ts97_7, ts97_8, ts97_9]; rfl
      · simp (discharger := omega) only [r184, b184_0, b184_56, b184_63, b184_70, b184_75, b184_81, b184_82, b184_88, b184_89, b184_95, b184_96, b184_102, b184_103, b184_112, b184_113, b184_121, b184_122, b184_130, b184_131, zlit, Bool.false_eq_true, zlt_t, zlt_f, zeq_t, zeq_f, nI_add, pk_mul, zb_0, zb_n0, not_true_eq_false, not_false_eq_true, Classical.not_not, if_true, if_false, ite_true, ite_false, and_self, and_true, true_and, and_false, false_and, or_self, or_true, true_or, or_false, false_or, reduceIte, ts184_0, ts184_1, ts184_2, ts184_3, ts184_4, ts184_5, ts184_6, ts184_7, ts184_8, ts184_9, ts184_10, n1, n3]; rfl
      · exact hI
    · apply zCp_mk
      · simp (discharger := omega) only [r97, b97_0, b97_4, b97_10, b97_12, b97_64, b97_72, b97_80, b97_88, b97_102, b97_103, b97_117, b97_118, b97_126, b97_127, b97_135, b97_136, b97_143, b97_144, b97_151, b97_152, b97_156, zlit, Bool.false_eq_true, zlt_t, zlt_f, zeq_t, zeq_f, nI_add, pk_mul, zb_0, zb_n0, not_true_eq_false, not_false_eq_true, Classical.not_not, if_true, if_false, ite_true, ite_false, and_self, and_true, true_and, and_false, false_and, or_self, or_true, true_or, or_false, false_or, reduceIte, ts97_0, ts97_1, ts97_2, ts97_3, ts97_4, ts97_5, ts97_6, ts97_7, ts97_8, ts97_9]
        rw [s85 X _ (Or.inl rfl) rfl hN n2]
        simp (discharger := omega) only [r97, b97_0, b97_4, b97_10, b97_12, b97_64, b97_72, b97_80, b97_88, b97_102, b97_103, b97_117, b97_118, b97_126, b97_127, b97_135, b97_136, b97_143, b97_144, b97_151, b97_152, b97_156, zpu_s, zpu_n, Option.bind_some]; rfl
      · simp (discharger := omega) only [r184, b184_0, b184_56, b184_63, b184_70, b184_75, b184_81, b184_82, b184_88, b184_89, b184_95, b184_96, b184_102, b184_103, b184_112, b184_113, b184_121, b184_122, b184_130, b184_131, zlit, Bool.false_eq_true, zlt_t, zlt_f, zeq_t, zeq_f, nI_add, pk_mul, zb_0, zb_n0, not_true_eq_false, not_false_eq_true, Classical.not_not, if_true, if_false, ite_true, ite_false, and_self, and_true, true_and, and_false, false_and, or_self, or_true, true_or, or_false, false_or, reduceIte, ts184_0, ts184_1, ts184_2, ts184_3, ts184_4, ts184_5, ts184_6, ts184_7, ts184_8, ts184_9, ts184_10]
        rw [s185 X _ hN (by omega) n5]
        simp (discharger := omega) only [r184, b184_0, b184_56, b184_63, b184_70, b184_75, b184_81, b184_82, b184_88, b184_89, b184_95, b184_96, b184_102, b184_103, b184_112, b184_113, b184_121, b184_122, b184_130, b184_131, zpu_s, zpu_n, Option.bind_some]
        rw [zit_congr (fun k s hk => by rw [← k4 k hk])]
      · exact hI
    · apply zCp_mk
      · simp (discharger := omega) only [r97, b97_0, b97_4, b97_10, b97_12, b97_64, b97_72, b97_80, b97_88, b97_102, b97_103, b97_117, b97_118, b97_126, b97_127, b97_135, b97_136, b97_143, b97_144, b97_151, b97_152, b97_156, zlit, Bool.false_eq_true, zlt_t, zlt_f, zeq_t, zeq_f, nI_add, pk_mul, zb_0, zb_n0, not_true_eq_false, not_false_eq_true, Classical.not_not, if_true, if_false, ite_true, ite_false, and_self, and_true, true_and, and_false, false_and, or_self, or_true, true_or, or_false, false_or, reduceIte, ts97_0, ts97_1, ts97_2, ts97_3, ts97_4, ts97_5, ts97_6, ts97_7, ts97_8, ts97_9]
        rw [s85 X _ (Or.inl rfl) rfl hN n2]
        simp (discharger := omega) only [r97, b97_0, b97_4, b97_10, b97_12, b97_64, b97_72, b97_80, b97_88, b97_102, b97_103, b97_117, b97_118, b97_126, b97_127, b97_135, b97_136, b97_143, b97_144, b97_151, b97_152, b97_156, zpu_s, zpu_n, Option.bind_some]; rfl
      · simp (discharger := omega) only [r184, b184_0, b184_56, b184_63, b184_70, b184_75, b184_81, b184_82, b184_88, b184_89, b184_95, b184_96, b184_102, b184_103, b184_112, b184_113, b184_121, b184_122, b184_130, b184_131, zlit, Bool.false_eq_true, zlt_t, zlt_f, zeq_t, zeq_f, nI_add, pk_mul, zb_0, zb_n0, not_true_eq_false, not_false_eq_true, Classical.not_not, if_true, if_false, ite_true, ite_false, and_self, and_true, true_and, and_false, false_and, or_self, or_true, true_or, or_false, false_or, reduceIte, ts184_0, ts184_1, ts184_2, ts184_3, ts184_4, ts184_5, ts184_6, ts184_7, ts184_8, ts184_9, ts184_10]
        rw [s185 X _ hN (by omega) n5]
        simp (discharger := omega) only [r184, b184_0, b184_56, b184_63, b184_70, b184_75, b184_81, b184_82, b184_88, b184_89, b184_95, b184_96, b184_102, b184_103, b184_112, b184_113, b184_121, b184_122, b184_130, b184_131, zpu_s, zpu_n, Option.bind_some]
        rw [zit_congr (fun k s hk => by rw [← k5 k hk])]
      · exact hI
    · apply zCp_mk
      · simp (discharger := omega) only [r97, b97_0, b97_4, b97_10, b97_12, b97_64, b97_72, b97_80, b97_88, b97_102, b97_103, b97_117, b97_118, b97_126, b97_127, b97_135, b97_136, b97_143, b97_144, b97_151, b97_152, b97_156, zlit, Bool.false_eq_true, zlt_t, zlt_f, zeq_t, zeq_f, nI_add, pk_mul, zb_0, zb_n0, not_true_eq_false, not_false_eq_true, Classical.not_not, if_true, if_false, ite_true, ite_false, and_self, and_true, true_and, and_false, false_and, or_self, or_true, true_or, or_false, false_or, reduceIte, ts97_0, ts97_1, ts97_2, ts97_3, ts97_4, ts97_5, ts97_6, ts97_7, ts97_8, ts97_9]
        rw [s98 X _ (Or.inl rfl) hN _ n2]
        simp (discharger := omega) only [r97, b97_0, b97_4, b97_10, b97_12, b97_64, b97_72, b97_80, b97_88, b97_102, b97_103, b97_117, b97_118, b97_126, b97_127, b97_135, b97_136, b97_143, b97_144, b97_151, b97_152, b97_156, zpu_s, zpu_n, Option.bind_some]; rfl
      · simp (discharger := omega) only [r184, b184_0, b184_56, b184_63, b184_70, b184_75, b184_81, b184_82, b184_88, b184_89, b184_95, b184_96, b184_102, b184_103, b184_112, b184_113, b184_121, b184_122, b184_130, b184_131, zlit, Bool.false_eq_true, zlt_t, zlt_f, zeq_t, zeq_f, nI_add, pk_mul, zb_0, zb_n0, not_true_eq_false, not_false_eq_true, Classical.not_not, if_true, if_false, ite_true, ite_false, and_self, and_true, true_and, and_false, false_and, or_self, or_true, true_or, or_false, false_or, reduceIte, ts184_0, ts184_1, ts184_2, ts184_3, ts184_4, ts184_5, ts184_6, ts184_7, ts184_8, ts184_9, ts184_10]
        rw [s186 X _ hN _ _ n5]
        simp (discharger := omega) only [r184, b184_0, b184_56, b184_63, b184_70, b184_75, b184_81, b184_82, b184_88, b184_89, b184_95, b184_96, b184_102, b184_103, b184_112, b184_113, b184_121, b184_122, b184_130, b184_131, zpu_s, zpu_n, Option.bind_some]
        exact congrArg (fun v => some (some (Value.int v), h)) (zit_congr (fun k s hk => by
          rw [show 41 + 1 + 0 = 42 from rfl, k1 k hk]
          obtain ⟨t, ht, e⟩ := t1 k hk
          rw [e]
          have e9 : t = 0 ∨ t = 1 ∨ t = 2 ∨ t = 3 ∨ t = 4 ∨ t = 5 := by omega
          rcases e9 with rfl | rfl | rfl | rfl | rfl | rfl <;> rfl))
      · exact hI
    · apply zCp_mk
      · simp (discharger := omega) only [r97, b97_0, b97_4, b97_10, b97_12, b97_64, b97_72, b97_80, b97_88, b97_102, b97_103, b97_117, b97_118, b97_126, b97_127, b97_135, b97_136, b97_143, b97_144, b97_151, b97_152, b97_156, zlit, Bool.false_eq_true, zlt_t, zlt_f, zeq_t, zeq_f, nI_add, pk_mul, zb_0, zb_n0, not_true_eq_false, not_false_eq_true, Classical.not_not, if_true, if_false, ite_true, ite_false, and_self, and_true, true_and, and_false, false_and, or_self, or_true, true_or, or_false, false_or, reduceIte, ts97_0, ts97_1, ts97_2, ts97_3, ts97_4, ts97_5, ts97_6, ts97_7, ts97_8, ts97_9]
        rw [s98 X _ (Or.inl rfl) hN _ n2]
        simp (discharger := omega) only [r97, b97_0, b97_4, b97_10, b97_12, b97_64, b97_72, b97_80, b97_88, b97_102, b97_103, b97_117, b97_118, b97_126, b97_127, b97_135, b97_136, b97_143, b97_144, b97_151, b97_152, b97_156, zpu_s, zpu_n, Option.bind_some]; rfl
      · simp (discharger := omega) only [r184, b184_0, b184_56, b184_63, b184_70, b184_75, b184_81, b184_82, b184_88, b184_89, b184_95, b184_96, b184_102, b184_103, b184_112, b184_113, b184_121, b184_122, b184_130, b184_131, zlit, Bool.false_eq_true, zlt_t, zlt_f, zeq_t, zeq_f, nI_add, pk_mul, zb_0, zb_n0, not_true_eq_false, not_false_eq_true, Classical.not_not, if_true, if_false, ite_true, ite_false, and_self, and_true, true_and, and_false, false_and, or_self, or_true, true_or, or_false, false_or, reduceIte, ts184_0, ts184_1, ts184_2, ts184_3, ts184_4, ts184_5, ts184_6, ts184_7, ts184_8, ts184_9, ts184_10]
        rw [s186 X _ hN _ _ n5]
        simp (discharger := omega) only [r184, b184_0, b184_56, b184_63, b184_70, b184_75, b184_81, b184_82, b184_88, b184_89, b184_95, b184_96, b184_102, b184_103, b184_112, b184_113, b184_121, b184_122, b184_130, b184_131, zpu_s, zpu_n, Option.bind_some]
        exact congrArg (fun v => some (some (Value.int v), h)) (zit_congr (fun k s hk => by
          rw [show 41 + 1 + 0 = 42 from rfl, k1 k hk]
          obtain ⟨t, ht, e⟩ := t1 k hk
          rw [e]
          have e9 : t = 0 ∨ t = 1 ∨ t = 2 ∨ t = 3 ∨ t = 4 ∨ t = 5 := by omega
          rcases e9 with rfl | rfl | rfl | rfl | rfl | rfl <;> rfl))
      · exact hI
    · apply zCp_mk
      · simp (discharger := omega) only [r97, b97_0, b97_4, b97_10, b97_12, b97_64, b97_72, b97_80, b97_88, b97_102, b97_103, b97_117, b97_118, b97_126, b97_127, b97_135, b97_136, b97_143, b97_144, b97_151, b97_152, b97_156, zlit, Bool.false_eq_true, zlt_t, zlt_f, zeq_t, zeq_f, nI_add, pk_mul, zb_0, zb_n0, not_true_eq_false, not_false_eq_true, Classical.not_not, if_true, if_false, ite_true, ite_false, and_self, and_true, true_and, and_false, false_and, or_self, or_true, true_or, or_false, false_or, reduceIte, ts97_0, ts97_1, ts97_2, ts97_3, ts97_4, ts97_5, ts97_6, ts97_7, ts97_8, ts97_9]
        rw [s99 X _ (a := 8) (n := 6) rfl]
        simp (discharger := omega) only [r97, b97_0, b97_4, b97_10, b97_12, b97_64, b97_72, b97_80, b97_88, b97_102, b97_103, b97_117, b97_118, b97_126, b97_127, b97_135, b97_136, b97_143, b97_144, b97_151, b97_152, b97_156, zpu_s, zpu_n, Option.bind_some]; rfl
      · simp (discharger := omega) only [r184, b184_0, b184_56, b184_63, b184_70, b184_75, b184_81, b184_82, b184_88, b184_89, b184_95, b184_96, b184_102, b184_103, b184_112, b184_113, b184_121, b184_122, b184_130, b184_131, zlit, Bool.false_eq_true, zlt_t, zlt_f, zeq_t, zeq_f, nI_add, pk_mul, zb_0, zb_n0, not_true_eq_false, not_false_eq_true, Classical.not_not, if_true, if_false, ite_true, ite_false, and_self, and_true, true_and, and_false, false_and, or_self, or_true, true_or, or_false, false_or, reduceIte, ts184_0, ts184_1, ts184_2, ts184_3, ts184_4, ts184_5, ts184_6, ts184_7, ts184_8, ts184_9, ts184_10]
        rw [s187 X _ (a := 33) (n := 6) rfl]
        simp (discharger := omega) only [r184, b184_0, b184_56, b184_63, b184_70, b184_75, b184_81, b184_82, b184_88, b184_89, b184_95, b184_96, b184_102, b184_103, b184_112, b184_113, b184_121, b184_122, b184_130, b184_131, zpu_s, zpu_n, Option.bind_some]
        exact congrArg (fun v => some (some (Value.int v), h)) (zit_congr (fun k s hk => by rw [(i3 k hk).1]))
      · exact hI
    · apply zCp_mk
      · simp (discharger := omega) only [r97, b97_0, b97_4, b97_10, b97_12, b97_64, b97_72, b97_80, b97_88, b97_102, b97_103, b97_117, b97_118, b97_126, b97_127, b97_135, b97_136, b97_143, b97_144, b97_151, b97_152, b97_156, zlit, Bool.false_eq_true, zlt_t, zlt_f, zeq_t, zeq_f, nI_add, pk_mul, zb_0, zb_n0, not_true_eq_false, not_false_eq_true, Classical.not_not, if_true, if_false, ite_true, ite_false, and_self, and_true, true_and, and_false, false_and, or_self, or_true, true_or, or_false, false_or, reduceIte, ts97_0, ts97_1, ts97_2, ts97_3, ts97_4, ts97_5, ts97_6, ts97_7, ts97_8, ts97_9]
        rw [s99 X _ (a := 14) (n := 4) rfl]
        simp (discharger := omega) only [r97, b97_0, b97_4, b97_10, b97_12, b97_64, b97_72, b97_80, b97_88, b97_102, b97_103, b97_117, b97_118, b97_126, b97_127, b97_135, b97_136, b97_143, b97_144, b97_151, b97_152, b97_156, zpu_s, zpu_n, Option.bind_some]; rfl
      · simp (discharger := omega) only [r184, b184_0, b184_56, b184_63, b184_70, b184_75, b184_81, b184_82, b184_88, b184_89, b184_95, b184_96, b184_102, b184_103, b184_112, b184_113, b184_121, b184_122, b184_130, b184_131, zlit, Bool.false_eq_true, zlt_t, zlt_f, zeq_t, zeq_f, nI_add, pk_mul, zb_0, zb_n0, not_true_eq_false, not_false_eq_true, Classical.not_not, if_true, if_false, ite_true, ite_false, and_self, and_true, true_and, and_false, false_and, or_self, or_true, true_or, or_false, false_or, reduceIte, ts184_0, ts184_1, ts184_2, ts184_3, ts184_4, ts184_5, ts184_6, ts184_7, ts184_8, ts184_9, ts184_10]
        rw [s187 X _ (a := 35) (n := 4) rfl]
        simp (discharger := omega) only [r184, b184_0, b184_56, b184_63, b184_70, b184_75, b184_81, b184_82, b184_88, b184_89, b184_95, b184_96, b184_102, b184_103, b184_112, b184_113, b184_121, b184_122, b184_130, b184_131, zpu_s, zpu_n, Option.bind_some]
        exact congrArg (fun v => some (some (Value.int v), h)) (zit_congr (fun k s hk => by rw [(i4 k hk).1]))
      · exact hI
    · apply zCp_mk
      · simp (discharger := omega) only [r97, b97_0, b97_4, b97_10, b97_12, b97_64, b97_72, b97_80, b97_88, b97_102, b97_103, b97_117, b97_118, b97_126, b97_127, b97_135, b97_136, b97_143, b97_144, b97_151, b97_152, b97_156, zlit, Bool.false_eq_true, zlt_t, zlt_f, zeq_t, zeq_f, nI_add, pk_mul, zb_0, zb_n0, not_true_eq_false, not_false_eq_true, Classical.not_not, if_true, if_false, ite_true, ite_false, and_self, and_true, true_and, and_false, false_and, or_self, or_true, true_or, or_false, false_or, reduceIte, ts97_0, ts97_1, ts97_2, ts97_3, ts97_4, ts97_5, ts97_6, ts97_7, ts97_8, ts97_9]
        rw [s100]
        simp (discharger := omega) only [r97, b97_0, b97_4, b97_10, b97_12, b97_64, b97_72, b97_80, b97_88, b97_102, b97_103, b97_117, b97_118, b97_126, b97_127, b97_135, b97_136, b97_143, b97_144, b97_151, b97_152, b97_156, zpu_s, zpu_n, Option.bind_some]; rfl
      · simp (discharger := omega) only [r184, b184_0, b184_56, b184_63, b184_70, b184_75, b184_81, b184_82, b184_88, b184_89, b184_95, b184_96, b184_102, b184_103, b184_112, b184_113, b184_121, b184_122, b184_130, b184_131, zlit, Bool.false_eq_true, zlt_t, zlt_f, zeq_t, zeq_f, nI_add, pk_mul, zb_0, zb_n0, not_true_eq_false, not_false_eq_true, Classical.not_not, if_true, if_false, ite_true, ite_false, and_self, and_true, true_and, and_false, false_and, or_self, or_true, true_or, or_false, false_or, reduceIte, ts184_0, ts184_1, ts184_2, ts184_3, ts184_4, ts184_5, ts184_6, ts184_7, ts184_8, ts184_9, ts184_10]
        rw [s187 X _ (a := 31) (n := 3) rfl]
        simp (discharger := omega) only [r184, b184_0, b184_56, b184_63, b184_70, b184_75, b184_81, b184_82, b184_88, b184_89, b184_95, b184_96, b184_102, b184_103, b184_112, b184_113, b184_121, b184_122, b184_130, b184_131, zpu_s, zpu_n, Option.bind_some]
        exact congrArg (fun v => some (some (Value.int v), h)) (zit_congr (fun k s hk => by
          rcases i6 k hk with ⟨a1, a2⟩ | ⟨N', dc', a0, a1, a2⟩
          · rw [a1, a2]; rfl
          · rw [a1, a2.2.2.1, zb_t (show ¬ nI dc' < nI 0 from nI_nlt (by omega) (by have := a2.2.1; omega)), zb_t (show nI 0 < nI N' from nI_lt a0 (by have := a2.1; omega))]))
      · exact hI
