/-! sets of houses -/
theorem zor0 (s : Int32) : s ||| nI 0 = s := Int32.or_zero
def zsb (p : Prop) [Decidable p] (k : Nat) (s : Int32) : Int32 := if p then s ||| (nI 1 <<< (nI k &&& nI 31)) else s
theorem zsb_t {p : Prop} [Decidable p] (h : p) (k : Nat) (s : Int32) : zsb p k s = s ||| (nI 1 <<< (nI k &&& nI 31)) := if_pos h
theorem zsb_f {p : Prop} [Decidable p] (h : ¬ p) (k : Nat) (s : Int32) : zsb p k s = s := if_neg h
theorem cp_empty (X : ab_X) (d : Nat) (x : Int32) {h : ab_H} (hI : zInv h) : zCp X (d + 30) 61 154 [.int x] h := by
  obtain ⟨N, dc, hN, hdc, n0, n1, n2, n3, n4, n5, k1, k2, k3, k4, k5, t1, t2, t3, t4⟩ := znow hI
  by_cases hx : ¬ x < nI 0 ∧ x < nI 12
  · have key1 := zloop (fun s k => ab_ex X (d + 30) 61 13 [.ref 0, .int x, .int s, .int (nI k)] [] h) (fun k s => zsb (zB (zEm h k) x = true) k s) N (fun k s hk => by
      rw [l61_13, n2, if_pos (nI_lt (by omega) (by omega))]
      simp (discharger := omega) only [b61_24, b61_32, b61_36, s32n X _ hN hk (k1 k hk) (k2 k hk) (k3 k hk) (t1 k hk), s39, zpu_s, zpu_n, Option.bind_some, zlit, Bool.false_eq_true, zlt_t, zlt_f, zeq_t, zeq_f, nI_add, pk_mul, zb_0, zb_n0, not_true_eq_false, not_false_eq_true, Classical.not_not, if_true, if_false, ite_true, ite_false, and_self, and_true, true_and, and_false, false_and, or_self, or_true, true_or, or_false, false_or, reduceIte]
      by_cases hb : zB (zEm h k) x = true
      · rw [zsb_t hb]
        simp (discharger := omega) only [hb, b61_39, b61_45, zlit, Bool.false_eq_true, zlt_t, zlt_f, zeq_t, zeq_f, nI_add, pk_mul, zb_0, zb_n0, not_true_eq_false, not_false_eq_true, Classical.not_not, if_true, if_false, ite_true, ite_false, and_self, and_true, true_and, and_false, false_and, or_self, or_true, true_or, or_false, false_or, reduceIte]
      · rw [zsb_f hb]
        simp (discharger := omega) only [hb, b61_39, b61_45, zlit, Bool.false_eq_true, zlt_t, zlt_f, zeq_t, zeq_f, nI_add, pk_mul, zb_0, zb_n0, not_true_eq_false, not_false_eq_true, Classical.not_not, if_true, if_false, ite_true, ite_false, and_self, and_true, true_and, and_false, false_and, or_self, or_true, true_or, or_false, false_or, reduceIte]) (nI 0)
    have key2 := zloop (fun s k => ab_ex X (d + 30) 154 13 [.ref 29, .int x, .int s, .int (nI k)] [] h) (fun k s => zsb (zB (zEm h k) x = true) k s) N (fun k s hk => by
      rw [l154_13]
      simp (discharger := omega) only [zlit, zd30, n5]
      rw [if_pos (nI_lt (by omega) (by omega))]
      simp (discharger := omega) only [b154_23, b154_29, b154_33, s134n X _ hN hk (t1 k hk), s139, zpu_s, zpu_n, Option.bind_some, zlit, Bool.false_eq_true, zlt_t, zlt_f, zeq_t, zeq_f, nI_add, pk_mul, zb_0, zb_n0, not_true_eq_false, not_false_eq_true, Classical.not_not, if_true, if_false, ite_true, ite_false, and_self, and_true, true_and, and_false, false_and, or_self, or_true, true_or, or_false, false_or, reduceIte]
      by_cases hb : zB (zEm h k) x = true
      · rw [zsb_t hb]
        simp (discharger := omega) only [hb, b154_36, b154_42, b154_43, zlit, Bool.false_eq_true, zlt_t, zlt_f, zeq_t, zeq_f, nI_add, pk_mul, zb_0, zb_n0, not_true_eq_false, not_false_eq_true, Classical.not_not, if_true, if_false, ite_true, ite_false, and_self, and_true, true_and, and_false, false_and, or_self, or_true, true_or, or_false, false_or, reduceIte]
      · rw [zsb_f hb]
        simp (discharger := omega) only [hb, b154_36, b154_42, b154_43, zlit, Bool.false_eq_true, zlt_t, zlt_f, zeq_t, zeq_f, nI_add, pk_mul, zb_0, zb_n0, not_true_eq_false, not_false_eq_true, Classical.not_not, if_true, if_false, ite_true, ite_false, and_self, and_true, true_and, and_false, false_and, or_self, or_true, true_or, or_false, false_or, reduceIte, zor0]) (nI 0)
    apply zCp_mk
    · simp (discharger := omega) only [r61, b61_0, b61_4, b61_9, s41, zpu_s, zpu_n, Option.bind_some, zlit, Bool.false_eq_true, zlt_t, zlt_f, zeq_t, zeq_f, nI_add, pk_mul, zb_0, zb_n0, not_true_eq_false, not_false_eq_true, Classical.not_not, if_true, if_false, ite_true, ite_false, and_self, and_true, true_and, and_false, false_and, or_self, or_true, true_or, or_false, false_or, reduceIte, hx]
      rw [key1, l61_13, n2, if_neg (nI_nlt (by omega) (by omega)), b61_51]
    · simp (discharger := omega) only [r154, b154_0, b154_4, b154_9, s141, zpu_s, zpu_n, Option.bind_some, zlit, Bool.false_eq_true, zlt_t, zlt_f, zeq_t, zeq_f, nI_add, pk_mul, zb_0, zb_n0, not_true_eq_false, not_false_eq_true, Classical.not_not, if_true, if_false, ite_true, ite_false, and_self, and_true, true_and, and_false, false_and, or_self, or_true, true_or, or_false, false_or, reduceIte, hx]
      rw [key2, l154_13]
      simp (discharger := omega) only [zlit, zd30, n5]
      rw [if_neg (nI_nlt (by omega) (by omega)), b154_51]
    · exact hI
  · apply zCp_mk
    · simp (discharger := omega) only [r61, b61_0, b61_4, b61_7, b61_9, b61_24, b61_32, b61_36, b61_39, b61_45, b61_51, s41, zpu_s, zpu_n, Option.bind_some, zlit, Bool.false_eq_true, zlt_t, zlt_f, zeq_t, zeq_f, nI_add, pk_mul, zb_0, zb_n0, not_true_eq_false, not_false_eq_true, Classical.not_not, if_true, if_false, ite_true, ite_false, and_self, and_true, true_and, and_false, false_and, or_self, or_true, true_or, or_false, false_or, reduceIte, hx]; rfl
    · simp (discharger := omega) only [r154, b154_0, b154_4, b154_7, b154_9, b154_23, b154_29, b154_33, b154_36, b154_42, b154_43, b154_51, s141, zpu_s, zpu_n, Option.bind_some, zlit, Bool.false_eq_true, zlt_t, zlt_f, zeq_t, zeq_f, nI_add, pk_mul, zb_0, zb_n0, not_true_eq_false, not_false_eq_true, Classical.not_not, if_true, if_false, ite_true, ite_false, and_self, and_true, true_and, and_false, false_and, or_self, or_true, true_or, or_false, false_or, reduceIte, hx]; rfl
    · exact hI
theorem cp_never (X : ab_X) (d : Nat) {h : ab_H} (hI : zInv h) : zCp X (d + 30) 69 158 [] h := by
  obtain ⟨N, dc, hN, hdc, n0, n1, n2, n3, n4, n5, k1, k2, k3, k4, k5, t1, t2, t3, t4⟩ := znow hI
  have key1 := zloop (fun s k => ab_ex X (d + 30) 69 4 [.ref 0, .int s, .int (nI k)] [] h) (fun k s => zsb (zEm h k >>> (nI k &&& nI 31) = nI 0) k s) N (fun k s hk => by
    rw [l69_4, n2, if_pos (nI_lt (by omega) (by omega))]
    simp (discharger := omega) only [b69_15, b69_23, s32n X _ hN hk (k1 k hk) (k2 k hk) (k3 k hk) (t1 k hk), zpu_s, zpu_n, Option.bind_some, zlit, Bool.false_eq_true, zlt_t, zlt_f, zeq_t, zeq_f, nI_add, pk_mul, zb_0, zb_n0, not_true_eq_false, not_false_eq_true, Classical.not_not, if_true, if_false, ite_true, ite_false, and_self, and_true, true_and, and_false, false_and, or_self, or_true, true_or, or_false, false_or, reduceIte]
    by_cases hb : zEm h k >>> (nI k &&& nI 31) = nI 0
    · rw [zsb_t hb]
      simp (discharger := omega) only [hb, b69_28, b69_34, zlit, Bool.false_eq_true, zlt_t, zlt_f, zeq_t, zeq_f, nI_add, pk_mul, zb_0, zb_n0, not_true_eq_false, not_false_eq_true, Classical.not_not, if_true, if_false, ite_true, ite_false, and_self, and_true, true_and, and_false, false_and, or_self, or_true, true_or, or_false, false_or, reduceIte]
    · rw [zsb_f hb]
      simp (discharger := omega) only [hb, b69_28, b69_34, zlit, Bool.false_eq_true, zlt_t, zlt_f, zeq_t, zeq_f, nI_add, pk_mul, zb_0, zb_n0, not_true_eq_false, not_false_eq_true, Classical.not_not, if_true, if_false, ite_true, ite_false, and_self, and_true, true_and, and_false, false_and, or_self, or_true, true_or, or_false, false_or, reduceIte]) (nI 0)
  have key2 := zloop (fun s k => ab_ex X (d + 30) 158 4 [.ref 29, .int s, .int (nI k)] [] h) (fun k s => zsb (zEm h k >>> (nI k &&& nI 31) = nI 0) k s) N (fun k s hk => by
    rw [l158_4]
    simp (discharger := omega) only [zlit, zd30, n5]
    rw [if_pos (nI_lt (by omega) (by omega))]
    simp (discharger := omega) only [b158_14, b158_20, s134n X _ hN hk (t1 k hk), zpu_s, zpu_n, Option.bind_some, zlit, Bool.false_eq_true, zlt_t, zlt_f, zeq_t, zeq_f, nI_add, pk_mul, zb_0, zb_n0, not_true_eq_false, not_false_eq_true, Classical.not_not, if_true, if_false, ite_true, ite_false, and_self, and_true, true_and, and_false, false_and, or_self, or_true, true_or, or_false, false_or, reduceIte]
    by_cases hb : zEm h k >>> (nI k &&& nI 31) = nI 0
    · rw [zsb_t hb]
      simp (discharger := omega) only [hb, b158_25, b158_31, b158_32, zlit, Bool.false_eq_true, zlt_t, zlt_f, zeq_t, zeq_f, nI_add, pk_mul, zb_0, zb_n0, not_true_eq_false, not_false_eq_true, Classical.not_not, if_true, if_false, ite_true, ite_false, and_self, and_true, true_and, and_false, false_and, or_self, or_true, true_or, or_false, false_or, reduceIte]
    · rw [zsb_f hb]
      simp (discharger := omega) only [hb, b158_25, b158_31, b158_32, zlit, Bool.false_eq_true, zlt_t, zlt_f, zeq_t, zeq_f, nI_add, pk_mul, zb_0, zb_n0, not_true_eq_false, not_false_eq_true, Classical.not_not, if_true, if_false, ite_true, ite_false, and_self, and_true, true_and, and_false, false_and, or_self, or_true, true_or, or_false, false_or, reduceIte, zor0]) (nI 0)
  apply zCp_mk
  · simp (discharger := omega) only [r69, b69_0, zlit]
    rw [key1, l69_4, n2, if_neg (nI_nlt (by omega) (by omega)), b69_40]
  · simp (discharger := omega) only [r158, b158_0, zlit]
    rw [key2, l158_4]
    simp (discharger := omega) only [zlit, zd30, n5]
    rw [if_neg (nI_nlt (by omega) (by omega)), b158_40]
  · exact hI
theorem cp_feigned (X : ab_X) (d : Nat) {h : ab_H} (hI : zInv h) : zCp X (d + 30) 83 172 [] h := by
  obtain ⟨N, dc, hN, hdc, n0, n1, n2, n3, n4, n5, k1, k2, k3, k4, k5, t1, t2, t3, t4⟩ := znow hI
  have key1 := zloop (fun s k => ab_ex X (d + 30) 83 4 [.ref 0, .int s, .int (nI k)] [] h) (fun k s => zsb (¬ zEm h k &&& (zOu h k ^^^ (-nI 1)) = nI 0) k s) N (fun k s hk => by
    rw [l83_4, n2, if_pos (nI_lt (by omega) (by omega))]
    simp (discharger := omega) only [b83_15, b83_23, b83_31, s32n X _ hN hk (k1 k hk) (k2 k hk) (k3 k hk) (t1 k hk), s31n X _ hN hk (k2 k hk) (k3 k hk), zpu_s, zpu_n, Option.bind_some, zlit, Bool.false_eq_true, zlt_t, zlt_f, zeq_t, zeq_f, nI_add, pk_mul, zb_0, zb_n0, not_true_eq_false, not_false_eq_true, Classical.not_not, if_true, if_false, ite_true, ite_false, and_self, and_true, true_and, and_false, false_and, or_self, or_true, true_or, or_false, false_or, reduceIte]
    by_cases hb : zEm h k &&& (zOu h k ^^^ (-nI 1)) = nI 0
    · rw [zsb_f (fun q => q hb)]
      simp (discharger := omega) only [hb, b83_37, b83_43, zlit, Bool.false_eq_true, zlt_t, zlt_f, zeq_t, zeq_f, nI_add, pk_mul, zb_0, zb_n0, not_true_eq_false, not_false_eq_true, Classical.not_not, if_true, if_false, ite_true, ite_false, and_self, and_true, true_and, and_false, false_and, or_self, or_true, true_or, or_false, false_or, reduceIte]
    · rw [zsb_t hb]
      simp (discharger := omega) only [hb, b83_37, b83_43, zlit, Bool.false_eq_true, zlt_t, zlt_f, zeq_t, zeq_f, nI_add, pk_mul, zb_0, zb_n0, not_true_eq_false, not_false_eq_true, Classical.not_not, if_true, if_false, ite_true, ite_false, and_self, and_true, true_and, and_false, false_and, or_self, or_true, true_or, or_false, false_or, reduceIte]) (nI 0)
  have key2 := zloop (fun s k => ab_ex X (d + 30) 172 4 [.ref 29, .int s, .int (nI k)] [] h) (fun k s => zsb (¬ zEm h k &&& (zOu h k ^^^ (-nI 1)) = nI 0) k s) N (fun k s hk => by
    rw [l172_4]
    simp (discharger := omega) only [zlit, zd30, n5]
    rw [if_pos (nI_lt (by omega) (by omega))]
    by_cases hb : zEm h k &&& (zOu h k ^^^ (-nI 1)) = nI 0
    · rw [zsb_f (fun q => q hb)]
      simp (discharger := omega) only [r172, b172_0, b172_14, b172_20, b172_25, b172_31, b172_37, b172_38, b172_46, s134n X _ hN hk (t1 k hk), s133n, zpu_s, zpu_n, Option.bind_some, zlit, Bool.false_eq_true, zlt_t, zlt_f, zeq_t, zeq_f, nI_add, pk_mul, zb_0, zb_n0, not_true_eq_false, not_false_eq_true, Classical.not_not, if_true, if_false, ite_true, ite_false, and_self, and_true, true_and, and_false, false_and, or_self, or_true, true_or, or_false, false_or, reduceIte, hb, zor0]
    · rw [zsb_t hb]
      simp (discharger := omega) only [r172, b172_0, b172_14, b172_20, b172_25, b172_31, b172_37, b172_38, b172_46, s134n X _ hN hk (t1 k hk), s133n, zpu_s, zpu_n, Option.bind_some, zlit, Bool.false_eq_true, zlt_t, zlt_f, zeq_t, zeq_f, nI_add, pk_mul, zb_0, zb_n0, not_true_eq_false, not_false_eq_true, Classical.not_not, if_true, if_false, ite_true, ite_false, and_self, and_true, true_and, and_false, false_and, or_self, or_true, true_or, or_false, false_or, reduceIte, hb]) (nI 0)
  apply zCp_mk
  · simp (discharger := omega) only [r83, b83_0, zlit]
    rw [key1, l83_4, n2, if_neg (nI_nlt (by omega) (by omega)), b83_49]
  · simp (discharger := omega) only [r172, b172_0, zlit]
    rw [key2, l172_4]
    simp (discharger := omega) only [zlit, zd30, n5]
    rw [if_neg (nI_nlt (by omega) (by omega))]
    simp (discharger := omega) only [r172, b172_0, b172_14, b172_20, b172_25, b172_31, b172_37, b172_38, b172_46]; rfl
  · exact hI
