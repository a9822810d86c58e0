/-! small methods: tests and findings -/
theorem s107 (X : ab_X) (d : Nat) (a b c : Int64) (h : ab_H) : ab_ru X d 107 [.long a, .long b, .long c] h = some (some (.int (zb (¬ a < b ∧ ¬ c < a))), h) := by
  simp only [r107, b107_0, b107_6, b107_13, b107_17, b107_18, lg_cmp_lt, lg_cmp_gt, zr0, zr1, zrn0, zrn1, zrb, and_self, and_true, true_and, if_true, if_false, ite_true, ite_false]
  unfold zb
  by_cases h1 : a < b <;> by_cases h2 : c < a <;> simp [h1, h2]
theorem zwide_lt (a b : Int32) : a.toInt64 < b.toInt64 ↔ a < b := by rw [Int64.lt_iff_toInt_lt, Int32.lt_iff_toInt_lt, Int32.toInt_toInt64, Int32.toInt_toInt64]
theorem zlitJ0 : (0 : Int64) = (nI 0).toInt64 := rfl
theorem zlitJ1 : (1 : Int64) = (nI 1).toInt64 := rfl
/-- the reference's test of a range of ints -/
theorem s107i (X : ab_X) (d : Nat) (a b c : Int32) (h : ab_H) : ab_ru X d 107 [.long a.toInt64, .long b.toInt64, .long c.toInt64] h = some (some (.int (zb (¬ a < b ∧ ¬ c < a))), h) := by
  rw [s107]
  simp only [zwide_lt]
theorem zb_congr {p q : Prop} [Decidable p] [Decidable q] (h : p ↔ q) : zb p = zb q := by
  unfold zb
  by_cases hp : p
  · rw [if_pos hp, if_pos (h.mp hp)]
  · rw [if_neg hp, if_neg (fun z => hp (h.mpr z))]
theorem znlt_pred (x : Int32) (n : Nat) (hn : n < 2147483647) : ¬ nI n < x ↔ x < nI (n + 1) := by
  rw [Int32.lt_iff_toInt_lt, Int32.lt_iff_toInt_lt, nI_toInt (by omega), nI_toInt (by omega)]
  omega
theorem s7 (X : ab_X) (d : Nat) (x : Int32) (h : ab_H) : ab_ru X d 7 [.int x] h = some (some (.int (zb (¬ x < nI 0 ∧ x < nI 6))), h) := by
  simp only [r7, b7_0, b7_4, b7_10, b7_14, b7_15, zlit, zr0, zr1, zrn0, zrn1, zrb, and_self, and_true, true_and, if_true, if_false, ite_true, ite_false]
  unfold zb
  by_cases h1 : x < nI 0 <;> by_cases h2 : x < nI 6 <;> simp [h1, h2, zlit]
theorem s106 (X : ab_X) (d : Nat) (x : Int32) (h : ab_H) : ab_ru X (d + 1) 106 [.int x] h = some (some (.int (zb (¬ x < nI 0 ∧ x < nI 6))), h) := by
  simp only [r106, b106_0, b106_9]
  rw [show (0 : Int64) = (nI 0).toInt64 from rfl, show (5 : Int64) = (nI 5).toInt64 from rfl, s107i]
  simp only [zpu_s, zpu_n, Option.bind_some, r106, b106_0, b106_9, zr0, zr1, zrn0, zrn1, zrb, and_self, and_true, true_and, if_true, if_false, ite_true, ite_false, znlt_pred _ 5 (by omega), Nat.reduceAdd]
theorem s8 (X : ab_X) (d : Nat) {f : Nat} (hf : f < 6) (h : ab_H) : ab_ru X d 8 [.ref 0, .int (nI f)] h = some (some (.int (-3)), ab_sI (ab_sI h 0 12 (nI f)) 16 f (ab_gI h 16 f + 1)) := by
  simp (discharger := omega) only [r8, b8_0, zd16, zs16, zg_ne]
theorem s108 (X : ab_X) (d : Nat) {f : Nat} (hf : f < 6) (h : ab_H) : ab_ru X d 108 [.ref 29, .int (nI f)] h = some (some (.int (-3)), ab_sI (ab_sI h 29 8 (nI f)) 37 f (ab_gI h 37 f + 1)) := by
  simp (discharger := omega) only [r108, b108_0, zd37, zs37, zg_ne]
theorem s2 (X : ab_X) (d : Nat) {a n : Nat} (ha : ab_sh a = (1, n, 0)) (x : Int32) (h : ab_H) : ab_ru X d 2 [.ref a, .int x] h = some (none, zf h a 0 n x) := by
  have hl := z_len a
  rw [ha] at hl
  dsimp only at hl
  have key : ∀ (m k : Nat) (h : ab_H), k + m = n → ab_ex X d 2 5 [.ref a, .int x, .int (nI k), .int (nI n)] [] h = some (none, zf h a k m x) := by
    intro m
    induction m with
    | zero =>
      intro k h hk
      rw [l2_5, if_neg (nI_nlt (by omega) (by omega)), b2_20, zf_0]
    | succ m ih =>
      intro k h hk
      rw [l2_5, if_pos (nI_lt (by omega) (by omega)), b2_10, z_sd (by rw [ha]) (by rw [ha]; dsimp only; omega), nI_1, ih (k + 1) _ (by omega), zf_s]
  have e : ab_ln X a (fun w1 => ab_ex X d 2 5 [.ref a, .int x, .int 0, .int w1] [] h) = ab_ex X d 2 5 [.ref a, .int x, .int (nI 0), .int (nI n)] [] h := by
    unfold ab_ln
    rw [ha, if_pos (Or.inl rfl)]
    rfl
  rw [r2, b2_0, e, key n 0 h (by omega)]
theorem s18 (X : ab_X) (d : Nat) {a n : Nat} (ha : ab_sh a = (2, n, 0)) (x : Int32) (h : ab_H) : ab_ru X d 18 [.ref a, .int x] h = some (none, zf h a 0 n x.toInt8.toInt32) := by
  have hl := z_len a
  rw [ha] at hl
  dsimp only at hl
  have key : ∀ (m k : Nat) (h : ab_H), k + m = n → ab_ex X d 18 5 [.ref a, .int x, .int (nI k), .int (nI n)] [] h = some (none, zf h a k m x.toInt8.toInt32) := by
    intro m
    induction m with
    | zero =>
      intro k h hk
      rw [l18_5, if_neg (nI_nlt (by omega) (by omega)), b18_20, zf_0]
    | succ m ih =>
      intro k h hk
      rw [l18_5, if_pos (nI_lt (by omega) (by omega)), b18_10, z_sb (by rw [ha]) (by rw [ha]; dsimp only; omega), nI_1, ih (k + 1) _ (by omega), zf_s]
  have e : ab_ln X a (fun w1 => ab_ex X d 18 5 [.ref a, .int x, .int 0, .int w1] [] h) = ab_ex X d 18 5 [.ref a, .int x, .int (nI 0), .int (nI n)] [] h := by
    unfold ab_ln
    rw [ha, if_pos (Or.inr rfl)]
    rfl
  rw [r18, b18_0, e, key n 0 h (by omega)]
theorem zR_sh {r : Nat} (hr : r < 6) : ab_sh (2 + r) = (1, 40, 0) := by
  have hs : ∀ r, r < 6 → ab_sh (2 + r) = (1, 40, 0) := by decide
  exact hs r hr
theorem zT_sh {r : Nat} (hr : r < 4) : ab_sh (10 + r) = (2, 60, 0) := by
  have hs : ∀ r, r < 4 → ab_sh (10 + r) = (2, 60, 0) := by decide
  exact hs r hr
theorem s2R (X : ab_X) (d : Nat) {r : Nat} (hr : r < 6) (x : Int32) (h : ab_H) : ab_ru X d 2 [.ref (2 + r), .int x] h = some (none, zf h (2 + r) 0 40 x) := s2 X d (zR_sh hr) x h
theorem s2P (X : ab_X) (d : Nat) {a j : Nat} (ha : a = 41 ∨ a = 49 ∨ a = 57 ∨ a = 65) (hj : j < 6) (x : Int32) (h : ab_H) : ab_ru X d 2 [.ref (a + 1 + j), .int x] h = some (none, zf h (a + 1 + j) 0 6 x) := s2 X d (zP_sh ha hj) x h
theorem s18T (X : ab_X) (d : Nat) {r : Nat} (hr : r < 4) (x : Int32) (h : ab_H) : ab_ru X d 18 [.ref (10 + r), .int x] h = some (none, zf h (10 + r) 0 60 x.toInt8.toInt32) := s18 X d (zT_sh hr) x h
