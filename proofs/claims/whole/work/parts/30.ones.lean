/-! mark -/
def zbc (x0 : Int32) : Int32 := ((((((((x0 - ((Int32.toUInt32 x0 >>> (Int32.toUInt32 1 &&& Int32.toUInt32 31)).toInt32 &&& 1431655765)) &&& 858993459) + ((Int32.toUInt32 (x0 - ((Int32.toUInt32 x0 >>> (Int32.toUInt32 1 &&& Int32.toUInt32 31)).toInt32 &&& 1431655765)) >>> (Int32.toUInt32 2 &&& Int32.toUInt32 31)).toInt32 &&& 858993459)) + (Int32.toUInt32 (((x0 - ((Int32.toUInt32 x0 >>> (Int32.toUInt32 1 &&& Int32.toUInt32 31)).toInt32 &&& 1431655765)) &&& 858993459) + ((Int32.toUInt32 (x0 - ((Int32.toUInt32 x0 >>> (Int32.toUInt32 1 &&& Int32.toUInt32 31)).toInt32 &&& 1431655765)) >>> (Int32.toUInt32 2 &&& Int32.toUInt32 31)).toInt32 &&& 858993459)) >>> (Int32.toUInt32 4 &&& Int32.toUInt32 31)).toInt32) &&& 252645135) + (Int32.toUInt32 (((((x0 - ((Int32.toUInt32 x0 >>> (Int32.toUInt32 1 &&& Int32.toUInt32 31)).toInt32 &&& 1431655765)) &&& 858993459) + ((Int32.toUInt32 (x0 - ((Int32.toUInt32 x0 >>> (Int32.toUInt32 1 &&& Int32.toUInt32 31)).toInt32 &&& 1431655765)) >>> (Int32.toUInt32 2 &&& Int32.toUInt32 31)).toInt32 &&& 858993459)) + (Int32.toUInt32 (((x0 - ((Int32.toUInt32 x0 >>> (Int32.toUInt32 1 &&& Int32.toUInt32 31)).toInt32 &&& 1431655765)) &&& 858993459) + ((Int32.toUInt32 (x0 - ((Int32.toUInt32 x0 >>> (Int32.toUInt32 1 &&& Int32.toUInt32 31)).toInt32 &&& 1431655765)) >>> (Int32.toUInt32 2 &&& Int32.toUInt32 31)).toInt32 &&& 858993459)) >>> (Int32.toUInt32 4 &&& Int32.toUInt32 31)).toInt32) &&& 252645135) >>> (Int32.toUInt32 8 &&& Int32.toUInt32 31)).toInt32) + (Int32.toUInt32 ((((((x0 - ((Int32.toUInt32 x0 >>> (Int32.toUInt32 1 &&& Int32.toUInt32 31)).toInt32 &&& 1431655765)) &&& 858993459) + ((Int32.toUInt32 (x0 - ((Int32.toUInt32 x0 >>> (Int32.toUInt32 1 &&& Int32.toUInt32 31)).toInt32 &&& 1431655765)) >>> (Int32.toUInt32 2 &&& Int32.toUInt32 31)).toInt32 &&& 858993459)) + (Int32.toUInt32 (((x0 - ((Int32.toUInt32 x0 >>> (Int32.toUInt32 1 &&& Int32.toUInt32 31)).toInt32 &&& 1431655765)) &&& 858993459) + ((Int32.toUInt32 (x0 - ((Int32.toUInt32 x0 >>> (Int32.toUInt32 1 &&& Int32.toUInt32 31)).toInt32 &&& 1431655765)) >>> (Int32.toUInt32 2 &&& Int32.toUInt32 31)).toInt32 &&& 858993459)) >>> (Int32.toUInt32 4 &&& Int32.toUInt32 31)).toInt32) &&& 252645135) + (Int32.toUInt32 (((((x0 - ((Int32.toUInt32 x0 >>> (Int32.toUInt32 1 &&& Int32.toUInt32 31)).toInt32 &&& 1431655765)) &&& 858993459) + ((Int32.toUInt32 (x0 - ((Int32.toUInt32 x0 >>> (Int32.toUInt32 1 &&& Int32.toUInt32 31)).toInt32 &&& 1431655765)) >>> (Int32.toUInt32 2 &&& Int32.toUInt32 31)).toInt32 &&& 858993459)) + (Int32.toUInt32 (((x0 - ((Int32.toUInt32 x0 >>> (Int32.toUInt32 1 &&& Int32.toUInt32 31)).toInt32 &&& 1431655765)) &&& 858993459) + ((Int32.toUInt32 (x0 - ((Int32.toUInt32 x0 >>> (Int32.toUInt32 1 &&& Int32.toUInt32 31)).toInt32 &&& 1431655765)) >>> (Int32.toUInt32 2 &&& Int32.toUInt32 31)).toInt32 &&& 858993459)) >>> (Int32.toUInt32 4 &&& Int32.toUInt32 31)).toInt32) &&& 252645135) >>> (Int32.toUInt32 8 &&& Int32.toUInt32 31)).toInt32) >>> (Int32.toUInt32 16 &&& Int32.toUInt32 31)).toInt32) &&& 63)
def zones (x : Int32) : Int32 := zit (fun k s => s + ((x >>> (nI k &&& nI 31)) &&& nI 1)) (nI 0) 12
theorem zbc_ones0 : ∀ a, a < 64 → ∀ b, b < 64 → zbc (nI (64 * a + b)) = zones (nI (64 * a + b)) := by decide +kernel
theorem zbc_ones (n : Nat) (hn : n < 4096) : zbc (nI n) = zones (nI n) := by
  have := zbc_ones0 (n / 64) (by omega) (n % 64) (by omega)
  rwa [show 64 * (n / 64) + n % 64 = n by omega] at this
theorem s37 (X : ab_X) (d : Nat) (x : Int32) (h : ab_H) : ab_ru X d 37 [.int x] h = some (some (.int (zbc x)), h) := (r37 X d x h).trans (b37_0 X d x h)
theorem s138 (X : ab_X) (d : Nat) (x : Int32) (h : ab_H) : ab_ru X d 138 [.int x] h = some (some (.int (zones x)), h) := by
  have key := zloop (fun s k => ab_ex X d 138 4 [.int x, .int s, .int (nI k)] [] h) (fun k s => s + ((x >>> (nI k &&& nI 31)) &&& nI 1)) 12 (fun k s hk => by
    rw [l138_4]
    simp (discharger := omega) only [b138_10, zlit, Bool.false_eq_true, zlt_t, zlt_f, zeq_t, zeq_f, nI_add, pk_mul, zb_0, zb_n0, not_true_eq_false, not_false_eq_true, Classical.not_not, if_true, if_false, ite_true, ite_false, and_self, and_true, true_and, and_false, false_and, or_self, or_true, true_or, or_false, false_or, reduceIte]) (nI 0)
  simp (discharger := omega) only [r138, b138_0, zlit]
  rw [key, l138_4]
  simp (discharger := omega) only [b138_24, zlit, Bool.false_eq_true, zlt_t, zlt_f, zeq_t, zeq_f, nI_add, pk_mul, zb_0, zb_n0, not_true_eq_false, not_false_eq_true, Classical.not_not, if_true, if_false, ite_true, ite_false, and_self, and_true, true_and, and_false, false_and, or_self, or_true, true_or, or_false, false_or, reduceIte]
  rfl
/-- the first hour from k on, m hours left, at which a house isn't empty -/
def zfh (x : Int32) : Nat → Nat → Int32
  | 0, _ => -nI 9
  | m + 1, k => if zB x (nI k) = true then zfh x m (k + 1) else nI k
def zfc (x : Int32) : Nat → Nat → Int32
  | 0, _ => -nI 9
  | m + 1, k => if zB x (nI k) = true then nI k else zfc x m (k + 1)
theorem zfh_c0 : ∀ a, a < 64 → ∀ b, b < 64 → zfc (nI 4095 &&& (nI (64 * a + b) ^^^ (-nI 1))) 12 0 = zfh (nI (64 * a + b)) 12 0 := by decide +kernel
theorem zfh_c (n : Nat) (hn : n < 4096) : zfc (nI 4095 &&& (nI n ^^^ (-nI 1))) 12 0 = zfh (nI n) 12 0 := by
  have := zfh_c0 (n / 64) (by omega) (n % 64) (by omega)
  rwa [show 64 * (n / 64) + n % 64 = n by omega] at this
theorem s38 (X : ab_X) (d : Nat) (x : Int32) (h : ab_H) : ab_ru X (d + 1) 38 [.int x] h = some (some (.int (zfc x 12 0)), h) := by
  have key : ∀ m k, k + m = 12 → ab_ex X (d + 1) 38 2 [.int x, .int (nI k)] [] h = some (some (.int (zfc x m k)), h) := by
    intro m
    induction m with
    | zero =>
      intro k hk
      rw [l38_2]
      simp (discharger := omega) only [b38_24, zlit, Bool.false_eq_true, zlt_t, zlt_f, zeq_t, zeq_f, nI_add, pk_mul, zb_0, zb_n0, not_true_eq_false, not_false_eq_true, Classical.not_not, if_true, if_false, ite_true, ite_false, and_self, and_true, true_and, and_false, false_and, or_self, or_true, true_or, or_false, false_or, reduceIte]
      rfl
    | succ m ih =>
      intro k hk
      rw [l38_2]
      simp (discharger := omega) only [b38_8, b38_13, s39, zpu_s, zpu_n, Option.bind_some, zlit, Bool.false_eq_true, zlt_t, zlt_f, zeq_t, zeq_f, nI_add, pk_mul, zb_0, zb_n0, not_true_eq_false, not_false_eq_true, Classical.not_not, if_true, if_false, ite_true, ite_false, and_self, and_true, true_and, and_false, false_and, or_self, or_true, true_or, or_false, false_or, reduceIte]
      unfold zfc
      by_cases hb : zB x (nI k) = true
      · simp (discharger := omega) only [hb, b38_16, zlit, Bool.false_eq_true, zlt_t, zlt_f, zeq_t, zeq_f, nI_add, pk_mul, zb_0, zb_n0, not_true_eq_false, not_false_eq_true, Classical.not_not, if_true, if_false, ite_true, ite_false, and_self, and_true, true_and, and_false, false_and, or_self, or_true, true_or, or_false, false_or, reduceIte]
      · simp (discharger := omega) only [hb, b38_18, zlit, Bool.false_eq_true, zlt_t, zlt_f, zeq_t, zeq_f, nI_add, pk_mul, zb_0, zb_n0, not_true_eq_false, not_false_eq_true, Classical.not_not, if_true, if_false, ite_true, ite_false, and_self, and_true, true_and, and_false, false_and, or_self, or_true, true_or, or_false, false_or, reduceIte]
        exact ih (k + 1) (by omega)
  simp (discharger := omega) only [r38, b38_0, zlit]
  exact key 12 0 (by omega)
theorem s136l (X : ab_X) (d : Nat) (x : Int32) (h : ab_H) (v0 v1 v2 v3 : Value) : ∀ m k, k + m = 12 → ab_ex X (d + 1) 136 166 [v0, v1, v2, v3, .int x, .int (nI k)] [] h = some (some (.int (zfh x m k)), h) := by
  intro m
  induction m with
  | zero =>
    intro k hk
    rw [l136_166]
    have e : k = 12 := by omega
    subst e
    simp (discharger := omega) only [b136_189, b136_196, b136_203, zlit, Bool.false_eq_true, zlt_t, zlt_f, zeq_t, zeq_f, nI_add, pk_mul, zb_0, zb_n0, not_true_eq_false, not_false_eq_true, Classical.not_not, if_true, if_false, ite_true, ite_false, and_self, and_true, true_and, and_false, false_and, or_self, or_true, true_or, or_false, false_or, reduceIte]
    rfl
  | succ m ih =>
    intro k hk
    rw [l136_166]
    simp (discharger := omega) only [b136_173, b136_180, s139, zpu_s, zpu_n, Option.bind_some, zlit, Bool.false_eq_true, zlt_t, zlt_f, zeq_t, zeq_f, nI_add, pk_mul, zb_0, zb_n0, not_true_eq_false, not_false_eq_true, Classical.not_not, if_true, if_false, ite_true, ite_false, and_self, and_true, true_and, and_false, false_and, or_self, or_true, true_or, or_false, false_or, reduceIte]
    unfold zfh
    by_cases hb : zB x (nI k) = true
    · simp (discharger := omega) only [hb, b136_183, zlit, Bool.false_eq_true, zlt_t, zlt_f, zeq_t, zeq_f, nI_add, pk_mul, zb_0, zb_n0, not_true_eq_false, not_false_eq_true, Classical.not_not, if_true, if_false, ite_true, ite_false, and_self, and_true, true_and, and_false, false_and, or_self, or_true, true_or, or_false, false_or, reduceIte]
      exact ih (k + 1) (by omega)
    · simp (discharger := omega) only [hb, b136_189, b136_201, b136_203, zlit, Bool.false_eq_true, zlt_t, zlt_f, zeq_t, zeq_f, nI_add, pk_mul, zb_0, zb_n0, not_true_eq_false, not_false_eq_true, Classical.not_not, if_true, if_false, ite_true, ite_false, and_self, and_true, true_and, and_false, false_and, or_self, or_true, true_or, or_false, false_or, reduceIte]
theorem zI_and (o : Nat) (ho : o < 4096) (y : Int32) : ∃ m, m < 4096 ∧ nI o &&& y = nI m := by
  refine ⟨o &&& y.toBitVec.toNat, Nat.lt_of_le_of_lt Nat.and_le_left ho, ?_⟩
  apply Int32.toBitVec_inj.mp
  apply BitVec.eq_of_toNat_eq
  rw [Int32.toBitVec_and, BitVec.toNat_and, pk_tn (by omega), pk_tn (by have := Nat.and_le_left (n := o) (m := y.toBitVec.toNat); omega)]
theorem zI_or (a b : Nat) (ha : a < 4096) (hb : b < 4096) : ∃ m, m < 4096 ∧ nI a ||| nI b = nI m := by
  have h1 := Nat.or_lt_two_pow (x := a) (y := b) (n := 12) (by omega) (by omega)
  refine ⟨a ||| b, by omega, ?_⟩
  apply Int32.toBitVec_inj.mp
  apply BitVec.eq_of_toNat_eq
  rw [Int32.toBitVec_or, BitVec.toNat_or, pk_tn (by omega), pk_tn (by omega), pk_tn (by omega)]
theorem zE_lt {k o e : Nat} (hk : k < 6) (ho : o < 4096) (he : e < 4096) : ∃ m, m < 4096 ∧ zE (nI k) (nI o) (nI e) = nI m := by
  have e9 : k = 0 ∨ k = 1 ∨ k = 2 ∨ k = 3 ∨ k = 4 ∨ k = 5 := by omega
  rcases e9 with rfl | rfl | rfl | rfl | rfl | rfl
  · exact ⟨o, ho, rfl⟩
  · exact ⟨e, he, rfl⟩
  · obtain ⟨m, hm, em⟩ := pk_andE (nI o ||| nI o <<< (1 &&& 31) ||| nI o >>> (1 &&& 31)) (m := 4095) 12 rfl
    exact ⟨m, hm, em⟩
  · exact zI_and o ho _
  · exact ⟨0, by omega, rfl⟩
  · obtain ⟨m, hm, em⟩ := zI_and o ho (nI o <<< (1 &&& 31) ||| 1)
    obtain ⟨q, hq, eq⟩ := zI_or m 1365 hm (by omega)
    refine ⟨q, hq, ?_⟩
    show (nI o &&& (nI o <<< (1 &&& 31) ||| 1)) ||| 1365 = nI q
    rw [em]
    exact eq
/-- a house's hours are of twelve bits -/
theorem zEm_lt {h : ab_H} {i : Nat} (t1 : ∃ k, k < 6 ∧ ab_gI h 30 (2 + i) = nI k) (t2 : ∃ o, o < 4096 ∧ ab_gI h 30 (8 + i) = nI o) (t3 : ∃ o, o < 4096 ∧ ab_gI h 30 (14 + i) = nI o) : (∃ m, m < 4096 ∧ zEm h i = nI m) ∧ (∃ m, m < 4096 ∧ zOu h i = nI m) := by
  obtain ⟨k, hk, ek⟩ := t1
  obtain ⟨o, ho, eo⟩ := t2
  obtain ⟨e, he, ee⟩ := t3
  obtain ⟨q, hq, eq⟩ := zI_or o e ho he
  unfold zEm zOu
  rw [ek, eo, ee, eq]
  exact ⟨zE_lt hk hq he, q, hq, rfl⟩
theorem s36 (X : ab_X) (d : Nat) {i N : Nat} (hN : N ≤ 6) (hi : i < N) {h : ab_H} (n2 : ab_gI h 41 7 = nI N) : ab_ru X d 36 [.ref 41, .int (nI i)] h = some (some (.int (ab_gI h 45 i + (if 0 < i then ab_gI h 45 (i - 1) else nI 0) + (if i + 1 < N then ab_gI h 45 (i + 1) else nI 0))), h) := by
  have z0 : ∀ s : Int32, s + nI 0 = s := Int32.add_zero
  by_cases h1 : 0 < i
  · by_cases h2 : i + 1 < N
    · rw [if_pos h1, if_pos h2]
      simp (discharger := omega) only [r36, b36_0, b36_11, b36_22, b36_32, b36_43, zP_ob, zP_rf, Nat.reduceAdd, zd45, zlit, Bool.false_eq_true, zlt_t, zlt_f, zeq_t, zeq_f, nI_add, pk_mul, zb_0, zb_n0, not_true_eq_false, not_false_eq_true, Classical.not_not, if_true, if_false, ite_true, ite_false, and_self, and_true, true_and, and_false, false_and, or_self, or_true, true_or, or_false, false_or, reduceIte, pk_sub, n2]
    · rw [if_pos h1, if_neg h2]
      simp (discharger := omega) only [r36, b36_0, b36_11, b36_22, b36_32, b36_43, zP_ob, zP_rf, Nat.reduceAdd, zd45, zlit, Bool.false_eq_true, zlt_t, zlt_f, zeq_t, zeq_f, nI_add, pk_mul, zb_0, zb_n0, not_true_eq_false, not_false_eq_true, Classical.not_not, if_true, if_false, ite_true, ite_false, and_self, and_true, true_and, and_false, false_and, or_self, or_true, true_or, or_false, false_or, reduceIte, pk_sub, n2, z0]
  · by_cases h2 : i + 1 < N
    · rw [if_neg h1, if_pos h2]
      simp (discharger := omega) only [r36, b36_0, b36_11, b36_22, b36_32, b36_43, zP_ob, zP_rf, Nat.reduceAdd, zd45, zlit, Bool.false_eq_true, zlt_t, zlt_f, zeq_t, zeq_f, nI_add, pk_mul, zb_0, zb_n0, not_true_eq_false, not_false_eq_true, Classical.not_not, if_true, if_false, ite_true, ite_false, and_self, and_true, true_and, and_false, false_and, or_self, or_true, true_or, or_false, false_or, reduceIte, n2, z0]
    · rw [if_neg h1, if_neg h2]
      simp (discharger := omega) only [r36, b36_0, b36_11, b36_22, b36_32, b36_43, zP_ob, zP_rf, Nat.reduceAdd, zd45, zlit, Bool.false_eq_true, zlt_t, zlt_f, zeq_t, zeq_f, nI_add, pk_mul, zb_0, zb_n0, not_true_eq_false, not_false_eq_true, Classical.not_not, if_true, if_false, ite_true, ite_false, and_self, and_true, true_and, and_false, false_and, or_self, or_true, true_or, or_false, false_or, reduceIte, n2, z0]
theorem s137 (X : ab_X) (d : Nat) {i N : Nat} (hN : N ≤ 6) {h : ab_H} (n5 : ab_gI h 30 0 = nI N) (hi : i < 100) : ab_ru X (d + 2) 137 [.ref 29, .int (nI i)] h = some (some (.int (if i < N then ab_gI h 30 (20 + i) else nI 0)), h) := by
  by_cases h1 : i < N
  · rw [if_pos h1]
    simp (discharger := omega) only [r137, b137_0, b137_5, b137_8, b137_20, b137_21, s131 X _ hN _ n5, zpu_s, zpu_n, Option.bind_some, zlit, Bool.false_eq_true, zlt_t, zlt_f, zeq_t, zeq_f, nI_add, pk_mul, zb_0, zb_n0, not_true_eq_false, not_false_eq_true, Classical.not_not, if_true, if_false, ite_true, ite_false, and_self, and_true, true_and, and_false, false_and, or_self, or_true, true_or, or_false, false_or, reduceIte, zd30]
  · rw [if_neg h1]
    simp (discharger := omega) only [r137, b137_0, b137_5, b137_8, b137_20, b137_21, s131 X _ hN _ n5, zpu_s, zpu_n, Option.bind_some, zlit, Bool.false_eq_true, zlt_t, zlt_f, zeq_t, zeq_f, nI_add, pk_mul, zb_0, zb_n0, not_true_eq_false, not_false_eq_true, Classical.not_not, if_true, if_false, ite_true, ite_false, and_self, and_true, true_and, and_false, false_and, or_self, or_true, true_or, or_false, false_or, reduceIte]
theorem s137n (X : ab_X) (d : Nat) {N : Nat} (hN : N ≤ 6) {h : ab_H} (n5 : ab_gI h 30 0 = nI N) : ab_ru X (d + 2) 137 [.ref 29, .int (nI 0 - nI 1)] h = some (some (.int (nI 0)), h) := by
  have e : (nI 0 - nI 1 < nI 0) = True := eq_true (by decide)
  simp (discharger := omega) only [r137, b137_0, b137_5, b137_8, b137_20, b137_21, s131 X _ hN _ n5, zpu_s, zpu_n, Option.bind_some, zlit, Bool.false_eq_true, zlt_t, zlt_f, zeq_t, zeq_f, nI_add, pk_mul, zb_0, zb_n0, not_true_eq_false, not_false_eq_true, Classical.not_not, if_true, if_false, ite_true, ite_false, and_self, and_true, true_and, and_false, false_and, or_self, or_true, true_or, or_false, false_or, reduceIte, e]
