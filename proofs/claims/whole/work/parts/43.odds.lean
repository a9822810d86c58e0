/-! odds -/
def zct (f : Nat → Bool) : Nat → Nat
  | 0 => 0
  | k + 1 => zct f k + if f k = true then 1 else 0
theorem zct_le (f : Nat → Bool) : ∀ n, zct f n ≤ n
  | 0 => Nat.le_refl _
  | n + 1 => by
    have := zct_le f n
    unfold zct
    split <;> omega
theorem zct_congr {f g : Nat → Bool} : ∀ {n : Nat}, (∀ i, i < n → f i = g i) → zct f n = zct g n
  | 0, _ => rfl
  | n + 1, e => by unfold zct; rw [zct_congr (fun i hi => e i (by omega)), e n (by omega)]
theorem zct_cut {f : Nat → Bool} {N : Nat} : ∀ m, (∀ i, N ≤ i → i < N + m → f i = false) → zct f (N + m) = zct f N
  | 0, _ => rfl
  | m + 1, e => by
    show zct f (N + m) + (if f (N + m) = true then 1 else 0) = _
    rw [e (N + m) (by omega) (by omega), zct_cut m (fun i h1 h2 => e i h1 (by omega))]
    rfl
theorem zct_it (f : Nat → Bool) : ∀ n, zit (fun k s => s + if f k = true then 1 else 0) 0 n = zct f n
  | 0 => rfl
  | n + 1 => by unfold zit zct; rw [zct_it f n]
theorem zones_ct (x : Int32) : zones x = nI (zct (fun i => zB x (nI i)) 12) := by
  have key : ∀ m, zit (fun k s => s + ((x >>> (nI k &&& nI 31)) &&& nI 1)) (nI 0) m = nI (zct (fun i => zB x (nI i)) m) := by
    intro m
    induction m with
    | zero => rfl
    | succ m ih =>
      unfold zit zct
      rw [ih]
      unfold zB
      have e1 : (x >>> (nI m &&& nI 31)) &&& nI 1 = (x >>> (nI m &&& 31)) &&& 1 := rfl
      rw [e1]
      rcases z_and1 (x >>> (nI m &&& 31)) with e | e
      · rw [e]
        exact Int32.add_zero _
      · rw [e]
        exact nI_1 _
  exact key 12
theorem zpow {a s : Nat} : lN (a ^ s) * lN a = lN (a ^ (s + 1)) := by rw [lN_mul, Nat.pow_succ]
set_option maxHeartbeats 1000000 in
theorem cp_odds (X : ab_X) (d : Nat) (r p : Int32) {h : ab_H} (hI : zInv h) : zCp X (d + 30) 91 179 [.int r, .int p] h := by
  obtain ⟨N, dc, hN, hdc, n0, n1, n2, n3, n4, n5, k1, k2, k3, k4, k5, t1, t2, t3, t4⟩ := znow hI
  by_cases hp : ¬ (¬ p < nI 0 ∧ p < nI 13)
  · have e1 : ab_ru X (d + 30) 91 [.ref 0, .int r, .int p] h = some (some (.int (-nI 1)), h) := by
      by_cases hp0 : p < nI 0
      · simp (discharger := omega) only [r91, b91_0, b91_10, zlit, Bool.false_eq_true, zlt_t, zlt_f, zeq_t, zeq_f, nI_add, pk_mul, zb_0, zb_n0, not_true_eq_false, not_false_eq_true, Classical.not_not, if_true, if_false, ite_true, ite_false, and_self, and_true, true_and, and_false, false_and, or_self, or_true, true_or, or_false, false_or, reduceIte, hp0]
      · have hp2 : ¬ p < nI (12 + 1) := fun q => hp ⟨hp0, q⟩
        simp (discharger := omega) only [r91, b91_0, b91_4, b91_10, zlit, Bool.false_eq_true, zlt_t, zlt_f, zeq_t, zeq_f, nI_add, pk_mul, zb_0, zb_n0, not_true_eq_false, not_false_eq_true, Classical.not_not, if_true, if_false, ite_true, ite_false, and_self, and_true, true_and, and_false, false_and, or_self, or_true, true_or, or_false, false_or, reduceIte, hp0, znlt (n := 12) (by omega) p, hp2]
    refine zCp_mk e1 (v := .int (-nI 1)) (h2 := h) ?_ hI
    have hp3 : ¬ (¬ p < nI 0 ∧ ¬ nI 12 < p) := by rw [znlt (n := 12) (by omega) p, Classical.not_not]; exact hp
    by_cases hr : ¬ r < nI 0 ∧ r < nI 6
    · simp (discharger := omega) only [r179, b179_0, b179_4, b179_7, b179_16, b179_19, s106, s107i, zJ0, zJ12, zpu_s, zpu_n, Option.bind_some, zlit, Bool.false_eq_true, zlt_t, zlt_f, zeq_t, zeq_f, nI_add, pk_mul, zb_0, zb_n0, not_true_eq_false, not_false_eq_true, Classical.not_not, if_true, if_false, ite_true, ite_false, and_self, and_true, true_and, and_false, false_and, or_self, or_true, true_or, or_false, false_or, reduceIte, hr, hp3]
    · simp (discharger := omega) only [r179, b179_0, b179_4, b179_7, b179_16, b179_19, s106, s107i, zJ0, zJ12, zpu_s, zpu_n, Option.bind_some, zlit, Bool.false_eq_true, zlt_t, zlt_f, zeq_t, zeq_f, nI_add, pk_mul, zb_0, zb_n0, not_true_eq_false, not_false_eq_true, Classical.not_not, if_true, if_false, ite_true, ite_false, and_self, and_true, true_and, and_false, false_and, or_self, or_true, true_or, or_false, false_or, reduceIte, hr]
  have hp := Classical.not_not.mp hp
  rcases zix p (n := 13) (by omega) with q | q | ⟨c, hc, rfl⟩
  · exact absurd q hp.1
  · exact absurd hp.2 q.2
  rcases zround X (d + 9) r hI hN n2 n5 with ⟨v, h1, h2, hv, e1, e2, hI2, hnr⟩ | ⟨j, n, hj, rfl, hN0, hn, b2, b3, hq, e1, e2⟩
  · have hv0 := zv0 hv
    have hvl := zvl hv
    have ec : ab_ru X (d + 30) 91 [.ref 0, .int r, .int (nI c)] h = some (some (.int v), h1) := by
      simp (discharger := omega) only [r91, b91_0, b91_4, b91_12, b91_17, b91_22, e1, zpu_s, zpu_n, Option.bind_some, zlit, Bool.false_eq_true, zlt_t, zlt_f, zeq_t, zeq_f, nI_add, pk_mul, zb_0, zb_n0, not_true_eq_false, not_false_eq_true, Classical.not_not, if_true, if_false, ite_true, ite_false, and_self, and_true, true_and, and_false, false_and, or_self, or_true, true_or, or_false, false_or, reduceIte, hv0]
    by_cases hr : ¬ r < nI 0 ∧ r < nI 6
    · refine zCp_mk ec ?_ hI2
      simp (discharger := omega) only [r179, b179_0, b179_4, b179_7, b179_16, b179_21, b179_26, b179_31, s106, s107i, zJ0, zJ12, e2, zpu_s, zpu_n, Option.bind_some, zlit, Bool.false_eq_true, zlt_t, zlt_f, zeq_t, zeq_f, nI_add, pk_mul, zb_0, zb_n0, not_true_eq_false, not_false_eq_true, Classical.not_not, if_true, if_false, ite_true, ite_false, and_self, and_true, true_and, and_false, false_and, or_self, or_true, true_or, or_false, false_or, reduceIte, hr, hvl]
    · obtain ⟨rfl, rfl⟩ := hnr.1 hr
      refine zCp_mk ec ?_ hI
      simp (discharger := omega) only [r179, b179_0, b179_4, b179_19, s106, zpu_s, zpu_n, Option.bind_some, zlit, Bool.false_eq_true, zlt_t, zlt_f, zeq_t, zeq_f, nI_add, pk_mul, zb_0, zb_n0, not_true_eq_false, not_false_eq_true, Classical.not_not, if_true, if_false, ite_true, ite_false, and_self, and_true, true_and, and_false, false_and, or_self, or_true, true_or, or_false, false_or, reduceIte, hr]
  · have hq' := zqf_get hN hq
    obtain ⟨hc1, c1, c2, c3⟩ := c65 X (d + 25) hN hn hj n2 k1 k2 k3 k4 t1 b3 hq'
    have hsv := zserved (e := zEm h) (D := fun i => ab_gI h 30 (20 + i)) hN t4 n (fun k hk => (hq' k hk).1)
    have hno : ∀ i, N ≤ i → i < N + (12 - N) → zB (zgone (zEm h) (fun i => ab_gI h 30 (20 + i)) (zqf h j) n).2.1 (nI i) = false := fun i h1 h2 => by
      rcases hsv i (by omega) with ⟨-, -, -, a4⟩ | ⟨a1, -⟩
      · rw [zmet_no h1 n (fun k hk => (hq' k hk).1)] at a4; cases a4
      · exact a1
    have e12 : (nI 12).toInt64 = lN 12 := rfl
    have ef : (nI (12 - c)).toInt64 = lN (12 - c) := nI_l (by omega)
    generalize hg : zgone (zEm h) (fun i => ab_gI h 30 (20 + i)) (zqf h j) n = g at c1 c3 hsv hno
    have hcut : zct (fun i => zB g.2.1 (nI i)) 12 = zct (fun i => zB g.2.1 (nI i)) N := by
      have := zct_cut (f := fun i => zB g.2.1 (nI i)) (N := N) (12 - N) hno
      rwa [show N + (12 - N) = 12 by omega] at this
    have key1 := zloop (fun s k => ab_ex X (d + 30) 91 38 [.ref 0, .int (nI j), .int (nI c), .int (nI 0), .long (lN ((12 - c) ^ s)), .null, .long (lN (12 ^ s)), .null, .int (nI k)] [] hc1) (fun k s => s + if zB g.2.1 (nI k) = true then 1 else 0) N (fun k s hk => by
      rw [l91_38, c2.1 41 7 (by omega) (by omega) (by omega) (by omega), n2, if_pos (nI_lt (by omega) (by omega))]
      have f45 : ab_gI hc1 45 k = ab_gI h 30 (20 + k) := (c2.1 45 k (by omega) (by omega) (by omega) (by omega)).trans (k4 k hk)
      have hx := hsv k (by omega)
      rcases hx with ⟨a1, a2, a3, a4⟩ | ⟨a1, a2, a3⟩
      · have hlt : g.1.2.2.1 k < ab_gI h 30 (20 + k) := by rw [a2]; exact a3
        simp (discharger := omega) only [b91_50, b91_70, b91_88, zd17, zd45, c3 k hk, f45, hlt, a1, zlit, Bool.false_eq_true, zlt_t, zlt_f, zeq_t, zeq_f, nI_add, pk_mul, zb_0, zb_n0, not_true_eq_false, not_false_eq_true, Classical.not_not, if_true, if_false, ite_true, ite_false, and_self, and_true, true_and, and_false, false_and, or_self, or_true, true_or, or_false, false_or, reduceIte, pk_sub, ef, zJ12, e12, zpow]
      · have hlt : ¬ g.1.2.2.1 k < ab_gI h 30 (20 + k) := by
          rw [a2]
          exact fun q => Int32.lt_irrefl q
        simp (discharger := omega) only [b91_50, b91_88, zd17, zd45, c3 k hk, f45, hlt, a1, zlit, Bool.false_eq_true, zlt_t, zlt_f, zeq_t, zeq_f, nI_add, pk_mul, zb_0, zb_n0, not_true_eq_false, not_false_eq_true, Classical.not_not, if_true, if_false, ite_true, ite_false, and_self, and_true, true_and, and_false, false_and, or_self, or_true, true_or, or_false, false_or, reduceIte]
        rfl) 0
    rw [zct_it (fun k => zB g.2.1 (nI k)) N, ← hcut] at key1
    generalize hct : zct (fun i => zB g.2.1 (nI i)) 12 = C at key1 hcut
    have hC : C ≤ 6 := by rw [hcut]; have := zct_le (fun i => zB g.2.1 (nI i)) N; omega
    have hp1 : 12 ^ C ≤ 12 ^ 6 := Nat.pow_le_pow_right (by omega) hC
    have hp2 : (12 - c) ^ C ≤ 12 ^ C := Nat.pow_le_pow_left (by omega) C
    have hp3 : 0 < 12 ^ C := Nat.pow_pos (by omega)
    have ec : ab_ru X (d + 30) 91 [.ref 0, .int (nI j), .int (nI c)] h = some (some (.int (nI 1)), ab_sJ (ab_sJ hc1 0 13 (lN ((12 - c) ^ C) / lN (Nat.gcd (12 ^ C) ((12 - c) ^ C)))) 0 14 (lN (12 ^ C) / lN (Nat.gcd (12 ^ C) ((12 - c) ^ C)))) := by
      simp (discharger := omega) only [r91, b91_0, b91_4, b91_12, b91_17, b91_24, b91_28, e1, zpu_s, zpu_n, Option.bind_some, zlit, Bool.false_eq_true, zlt_t, zlt_f, zeq_t, zeq_f, nI_add, pk_mul, zb_0, zb_n0, not_true_eq_false, not_false_eq_true, Classical.not_not, if_true, if_false, ite_true, ite_false, and_self, and_true, true_and, and_false, false_and, or_self, or_true, true_or, or_false, false_or, reduceIte, c1]
      refine Eq.trans key1 ?_
      rw [l91_38, c2.1 41 7 (by omega) (by omega) (by omega) (by omega), n2, if_neg (nI_nlt (by omega) (by omega)), b91_94, s90 X _ (by omega) (by omega) hp3]
      simp only [zpu_s, zpu_n, Option.bind_some, b91_102]
      rfl
    generalize hU : lN ((12 - c) ^ C) / lN (Nat.gcd (12 ^ C) ((12 - c) ^ C)) = U at ec
    generalize hW : lN (12 ^ C) / lN (Nat.gcd (12 ^ C) ((12 - c) ^ C)) = W at ec
    have f30 : ∀ c i, c ≠ 17 → c ≠ 18 → c ≠ 19 → c ≠ 20 → ab_gI (ab_sJ (ab_sJ hc1 0 13 U) 0 14 W) c i = ab_gI h c i := fun c i a1 a2 a3 a4 => by rw [zg_J, zg_J, c2.1 c i a1 a2 a3 a4]
    have g30 := fun i => f30 30 i (by omega) (by omega) (by omega) (by omega)
    have g32 := fun i => f30 32 i (by omega) (by omega) (by omega) (by omega)
    have g33 := (f30 33 j (by omega) (by omega) (by omega) (by omega)).trans b2
    have e2' := f144 X (d + 9) hj hn hN hN0 (q := zqf h j) (h := ab_sJ (ab_sJ hc1 0 13 U) 0 14 W) (by rw [g30]; exact n5) g33 (fun k hk => ⟨(hq' k hk).1, by rw [g32]; exact (hq' k hk).2⟩)
    obtain ⟨h2, h3, a1, a2, a3, a4, a5, a6⟩ := f145_7 X (d + 27) hN hn hj (h := h) (h1 := ab_sJ (ab_sJ hc1 0 13 U) 0 14 W) g30 g32 g33 n5 t1 hq'
    rw [hg] at a6
    refine zCp_mk ec (h2 := ab_sJ (ab_sJ h3 29 11 U) 29 12 W) ?_ (zInv_share hI U W c2 a3)
    have hloop : ∀ m k, k + m = C → ab_ex X (d + 30) 179 51 [.ref 29, .int (nI j), .int (nI c), .int (nI 0), .long (lN ((12 - c) ^ k)), .null, .long (lN (12 ^ k)), .null, .int (nI k)] [] h3 = some (some (.int (nI 1)), ab_sJ (ab_sJ h3 29 11 U) 29 12 W) := by
      intro m
      induction m with
      | zero =>
        intro k hk
        have hk' : k = C := by omega
        subst hk'
        rw [l179_51, s138, a6, zones_ct, hct]
        simp (discharger := omega) only [b179_60, b179_87, b179_95, s178, zpu_s, zpu_n, Option.bind_some, zlit, Bool.false_eq_true, zlt_t, zlt_f, zeq_t, zeq_f, nI_add, pk_mul, zb_0, zb_n0, not_true_eq_false, not_false_eq_true, Classical.not_not, if_true, if_false, ite_true, ite_false, and_self, and_true, true_and, and_false, false_and, or_self, or_true, true_or, or_false, false_or, reduceIte, hU, hW]
      | succ m ih =>
        intro k hk
        rw [l179_51, s138, a6, zones_ct, hct]
        simp (discharger := omega) only [b179_60, b179_63, zpu_s, zpu_n, Option.bind_some, zlit, Bool.false_eq_true, zlt_t, zlt_f, zeq_t, zeq_f, nI_add, pk_mul, zb_0, zb_n0, not_true_eq_false, not_false_eq_true, Classical.not_not, if_true, if_false, ite_true, ite_false, and_self, and_true, true_and, and_false, false_and, or_self, or_true, true_or, or_false, false_or, reduceIte, pk_sub, ef, zJ12, e12, zpow]
        exact ih (k + 1) (by omega)
    simp (discharger := omega) only [r179, b179_0, b179_4, b179_7, b179_16, b179_21, b179_26, b179_33, b179_37, b179_42, s106, s107i, zJ0, zJ12, e2', a1, a2, zpu_s, zpu_n, Option.bind_some, zlit, Bool.false_eq_true, zlt_t, zlt_f, zeq_t, zeq_f, nI_add, pk_mul, zb_0, zb_n0, not_true_eq_false, not_false_eq_true, Classical.not_not, if_true, if_false, ite_true, ite_false, and_self, and_true, true_and, and_false, false_and, or_self, or_true, true_or, or_false, false_or, reduceIte]
    exact hloop C 0 (by omega)
