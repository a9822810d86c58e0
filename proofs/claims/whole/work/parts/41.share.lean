/-! shares -/
theorem zdL {n : Nat} (h0 : 0 < n) (hn : n < 2147483648) (k : Option ab_R) : ab_dJ (lN n) k = k := by
  rw [← nI_l (by omega)]
  exact zdJ h0 hn k
theorem zcz {n : Nat} (hn : n < 2147483648) : (lg_cmp (lN n) 0 = 0) ↔ n = 0 := by
  rw [lg_cmp_eq, show (0 : Int64) = lN 0 from rfl, lN_eq (by omega) (by omega)]
theorem zgcd (a b : Nat) : Nat.gcd a b = Nat.gcd b (a % b) := by rw [Nat.gcd_comm a b, Nat.gcd_rec b a, Nat.gcd_comm]
theorem s90l (X : ab_X) (d : Nat) (v0 v1 v2 v3 v4 : Value) (h : ab_H) : ∀ (m a b x : Nat) (v10 v11 : Value), b < 2 ^ m → a < 2147483648 → b < 2147483648 → x + 2 * m + 1 ≤ 1000 → ∃ w7 w9 w10 w11, ab_ex X d 90 9 [v0, v1, v2, v3, v4, .long (lN a), .null, .long (lN b), .null, .int (nI x), v10, v11] [] h = ab_ex X d 90 45 [v0, v1, v2, v3, v4, .long (lN (Nat.gcd a b)), .null, w7, .null, w9, w10, w11] [] h := by
  have hz : ∀ (a x : Nat) (v10 v11 : Value), a < 2147483648 → x < 1000 → ∃ w7 w9 w10 w11, ab_ex X d 90 9 [v0, v1, v2, v3, v4, .long (lN a), .null, .long (lN 0), .null, .int (nI x), v10, v11] [] h = ab_ex X d 90 45 [v0, v1, v2, v3, v4, .long (lN (Nat.gcd a 0)), .null, w7, .null, w9, w10, w11] [] h := by
    intro a x v10 v11 ha hx
    refine ⟨.long (lN 0), .int (nI x), v10, v11, ?_⟩
    rw [l90_9, if_pos (show nI x < (1000 : Int32) from nI_lt (b := 1000) hx (by omega)), b90_17, if_pos ((zcz (by omega)).2 rfl), Nat.gcd_zero_right]
  have hstep : ∀ (a b x : Nat) (v10 v11 : Value), a < 2147483648 → b < 2147483648 → 0 < b → x < 1000 → ab_ex X d 90 9 [v0, v1, v2, v3, v4, .long (lN a), .null, .long (lN b), .null, .int (nI x), v10, v11] [] h = ab_ex X d 90 9 [v0, v1, v2, v3, v4, .long (lN b), .null, .long (lN (a % b)), .null, .int (nI (x + 1)), .long (lN (a % b)), .null] [] h := by
    intro a b x v10 v11 ha hb h0 hx
    rw [l90_9, if_pos (show nI x < (1000 : Int32) from nI_lt (b := 1000) hx (by omega)), b90_17, if_neg (fun e => by have := (zcz hb).1 e; omega), b90_24, zdL h0 hb, pk_lRem (by omega) h0 (by omega), nI_1]
  intro m
  induction m with
  | zero =>
    intro a b x v10 v11 hb ha hb2 hx
    have : b = 0 := by omega
    subst this
    exact hz a x v10 v11 ha (by omega)
  | succ m ih =>
    intro a b x v10 v11 hb ha hb2 hx
    by_cases h0 : b = 0
    · subst h0
      exact hz a x v10 v11 ha (by omega)
    · have hr := Nat.mod_lt a (show 0 < b by omega)
      rw [hstep a b x v10 v11 ha hb2 (by omega) (by omega), zgcd a b]
      by_cases h1 : a % b = 0
      · rw [h1]
        exact hz b (x + 1) _ _ hb2 (by omega)
      · have hr2 := Nat.mod_lt b (show 0 < a % b by omega)
        rw [hstep b (a % b) (x + 1) _ _ hb2 (by omega) (by omega) (by omega), zgcd b (a % b)]
        have h3 : b % (a % b) + (a % b) ≤ b := by
          have e1 := Nat.mod_add_div b (a % b)
          have e2 : 0 < b / (a % b) := Nat.div_pos (by omega) (by omega)
          have e3 : a % b ≤ a % b * (b / (a % b)) := Nat.le_mul_of_pos_right _ e2
          omega
        have hp : 2 ^ (m + 1) = 2 * 2 ^ m := by rw [Nat.pow_succ]; omega
        exact ih (a % b) (b % (a % b)) (x + 1 + 1) _ _ (by omega) (by omega) (by omega) (by omega)
theorem s90 (X : ab_X) (d : Nat) {u w : Nat} (hu : u < 2147483648) (hw : w < 2147483648) (hw0 : 0 < w) (h : ab_H) : ab_ru X d 90 [.ref 0, .long (lN u), .long (lN w)] h = some (none, ab_sJ (ab_sJ h 0 13 (lN u / lN (Nat.gcd w u))) 0 14 (lN w / lN (Nat.gcd w u))) := by
  have hg := Nat.gcd_pos_of_pos_left u hw0
  have hg2 := Nat.le_of_dvd hw0 (Nat.gcd_dvd_left w u)
  obtain ⟨w7, w9, w10, w11, e⟩ := s90l X d (.ref 0) (.long (lN u)) .null (.long (lN w)) .null h 31 w u 0 .null .null (by omega) hw hu (by omega)
  rw [r90, b90_0]
  refine Eq.trans (show _ = ab_ex X d 90 9 [.ref 0, .long (lN u), .null, .long (lN w), .null, .long (lN w), .null, .long (lN u), .null, .int (nI 0), .null, .null] [] h from rfl) ?_
  rw [e, b90_45, if_neg (fun q => by have := (zcz (by omega)).1 q; omega), b90_52, zdL hg (by omega), zdL hg (by omega), b90_68]
theorem s178 (X : ab_X) (d : Nat) {u w : Nat} (hu : u < 2147483648) (hw : w < 2147483648) (hw0 : 0 < w) (h : ab_H) : ab_ru X d 178 [.ref 29, .long (lN u), .long (lN w)] h = some (some (.int (nI 1)), ab_sJ (ab_sJ h 29 11 (lN u / lN (Nat.gcd w u))) 29 12 (lN w / lN (Nat.gcd w u))) := by
  have hg := Nat.gcd_pos_of_pos_left u hw0
  have hg2 := Nat.le_of_dvd hw0 (Nat.gcd_dvd_left w u)
  have key : ∀ (m a b : Nat) (v9 v10 : Value), b < m → a < 2147483648 → b < 2147483648 → ∃ w7 w9 w10, ab_ex X d 178 6 [.ref 29, .long (lN u), .null, .long (lN w), .null, .long (lN a), .null, .long (lN b), .null, v9, v10] [] h = ab_ex X d 178 31 [.ref 29, .long (lN u), .null, .long (lN w), .null, .long (lN (Nat.gcd a b)), .null, w7, .null, w9, w10] [] h := by
    intro m
    induction m with
    | zero => intro a b v9 v10 h0; omega
    | succ m ih =>
      intro a b v9 v10 hb ha hb2
      by_cases h0 : b = 0
      · subst h0
        exact ⟨_, v9, v10, by rw [l178_6, if_pos ((zcz (by omega)).2 rfl), Nat.gcd_zero_right]⟩
      · have hr := Nat.mod_lt a (show 0 < b by omega)
        rw [l178_6, if_neg (fun e => by have := (zcz hb2).1 e; omega), b178_13, zdL (by omega) hb2, pk_lRem (by omega) (by omega) (by omega), zgcd a b]
        exact ih b (a % b) _ _ (by omega) hb2 (by omega)
  obtain ⟨w7, w9, w10, e⟩ := key (w + 1) u w .null .null (by omega) hu hw
  rw [r178, b178_0, e, Nat.gcd_comm u w, b178_31, zdL hg (by omega), zdL hg (by omega)]
  rfl
/-- what a round brings is a small number -/
theorem zgo_n {e : Nat → Int32} {q : Nat → Nat} {D : Nat → Int32} {N : Nat} (hD : ∀ i, i < N → ∃ x, x ≤ 99 ∧ D i = nI x) : ∀ n, (∀ k, k < n → q k < N) → (∃ b, b ≤ 99 * n ∧ (zgo e q n (0, 0, D, 0)).2.2.2 = nI b) ∧ ∀ i, i < N → ∃ x, x ≤ 99 ∧ (zgo e q n (0, 0, D, 0)).2.2.1 i = nI x
  | 0, _ => ⟨⟨0, Nat.le_refl _, rfl⟩, hD⟩
  | n + 1, hq => by
    obtain ⟨⟨b, hb, eb⟩, hi⟩ := zgo_n (e := e) hD n (fun k hk => hq k (by omega))
    obtain ⟨x, hx, ex⟩ := hi (q n) (hq n (by omega))
    show (∃ b, b ≤ 99 * (n + 1) ∧ (zgo1 e (q n) (zgo e q n (0, 0, D, 0))).2.2.2 = nI b) ∧ ∀ i, i < N → ∃ x, x ≤ 99 ∧ (zgo1 e (q n) (zgo e q n (0, 0, D, 0))).2.2.1 i = nI x
    unfold zgo1
    split
    · refine ⟨⟨b + x, by omega, by dsimp only; rw [eb, ex, nI_add]⟩, fun i hiN => ?_⟩
      dsimp only [upd]
      by_cases e1 : i = q n
      · rw [if_pos e1]; exact ⟨0, by omega, rfl⟩
      · rw [if_neg e1]; exact hi i hiN
    · exact ⟨⟨b, by omega, eb⟩, hi⟩
theorem zInv_share {h hc h3 : ab_H} (hI : zInv h) (U W : Int64) (f : zFc h hc) (f3 : zFr (ab_sJ (ab_sJ hc 0 13 U) 0 14 W) h3) : zInv (ab_sJ (ab_sJ h3 29 11 U) 29 12 W) := by
  have a3 := f3
  have c2 := f
  refine zInv_fr0 hI (fun c i hx => ?_) ?_ (fun c h1 h2 => ?_) (fun c i hx => ?_) ?_
  · rw [zg_J, zg_J, a3.1 c i (by omega) (by omega) (by omega), zg_J, zg_J, c2.1 c i (by omega) (by omega) (by omega) (by omega)]
  · rw [zg_J, zg_J, a3.2.1 1 (by omega), zg_J, zg_J, c2.1 29 1 (by omega) (by omega) (by omega) (by omega)]
  · rw [zg_J, zg_J, a3.1 c 0 (by omega) (by omega) (by omega), zg_J, zg_J, c2.1 c 0 (by omega) (by omega) (by omega) (by omega)]
  · rw [zj_ne (by omega), zj_ne (by omega), a3.2.2, zj_ne (by omega), zj_ne (by omega), c2.2]
  · obtain ⟨i1, -, -, -, -, -, -⟩ := id hI
    unfold zI_ask at i1 ⊢
    refine ⟨?_, ?_, ?_, ?_⟩
    · rw [zg_J, zg_J, zg_J, zg_J, a3.1 0 11 (by omega) (by omega) (by omega), a3.2.1 10 (by omega), zg_J, zg_J, zg_J, zg_J, c2.1 0 11 (by omega) (by omega) (by omega) (by omega), c2.1 29 10 (by omega) (by omega) (by omega) (by omega)]; exact i1.1
    · rw [zg_J, zg_J, zg_J, zg_J, a3.1 0 12 (by omega) (by omega) (by omega), a3.2.1 8 (by omega), zg_J, zg_J, zg_J, zg_J, c2.1 0 12 (by omega) (by omega) (by omega) (by omega), c2.1 29 8 (by omega) (by omega) (by omega) (by omega)]; exact i1.2.1
    · rw [zj_ne (by omega), zj_ne (by omega), a3.2.2, zj_nj (by omega), zj_eq, zj_nj (by omega), zj_eq]
    · rw [zj_ne (by omega), zj_ne (by omega), a3.2.2, zj_eq, zj_eq]
theorem zJ12 : (12 : Int64) = (nI 12).toInt64 := rfl
set_option maxHeartbeats 1000000 in
theorem cp_mid (X : ab_X) (d : Nat) (r p : Int32) {h : ab_H} (hI : zInv h) : zCp X (d + 30) 89 177 [.int r, .int p] h := by
  obtain ⟨N, dc, hN, hdc, n0, n1, n2, n3, n4, n5, k1, k2, k3, k4, k5, t1, t2, t3, t4⟩ := znow hI
  by_cases hp : ¬ (¬ p < nI 0 ∧ p < nI 13)
  · have e1 : ab_ru X (d + 30) 89 [.ref 0, .int r, .int p] h = some (some (.int (-nI 1)), h) := by
      by_cases hp0 : p < nI 0
      · simp (discharger := omega) only [r89, b89_0, b89_10, zlit, Bool.false_eq_true, zlt_t, zlt_f, zeq_t, zeq_f, nI_add, pk_mul, zb_0, zb_n0, not_true_eq_false, not_false_eq_true, Classical.not_not, if_true, if_false, ite_true, ite_false, and_self, and_true, true_and, and_false, false_and, or_self, or_true, true_or, or_false, false_or, reduceIte, hp0]
      · have hp2 : ¬ p < nI (12 + 1) := fun q => hp ⟨hp0, q⟩
        simp (discharger := omega) only [r89, b89_0, b89_4, b89_10, zlit, Bool.false_eq_true, zlt_t, zlt_f, zeq_t, zeq_f, nI_add, pk_mul, zb_0, zb_n0, not_true_eq_false, not_false_eq_true, Classical.not_not, if_true, if_false, ite_true, ite_false, and_self, and_true, true_and, and_false, false_and, or_self, or_true, true_or, or_false, false_or, reduceIte, hp0, znlt (n := 12) (by omega) p, hp2]
    refine zCp_mk e1 (v := .int (-nI 1)) (h2 := h) ?_ hI
    have hp3 : ¬ (¬ p < nI 0 ∧ ¬ nI 12 < p) := by rw [znlt (n := 12) (by omega) p, Classical.not_not]; exact hp
    by_cases hr : ¬ r < nI 0 ∧ r < nI 6
    · simp (discharger := omega) only [r177, b177_0, b177_4, b177_7, b177_16, b177_19, s106, s107i, zJ0, zJ12, zpu_s, zpu_n, Option.bind_some, zlit, Bool.false_eq_true, zlt_t, zlt_f, zeq_t, zeq_f, nI_add, pk_mul, zb_0, zb_n0, not_true_eq_false, not_false_eq_true, Classical.not_not, if_true, if_false, ite_true, ite_false, and_self, and_true, true_and, and_false, false_and, or_self, or_true, true_or, or_false, false_or, reduceIte, hr, hp3]
    · simp (discharger := omega) only [r177, b177_0, b177_4, b177_7, b177_16, b177_19, s106, s107i, zJ0, zJ12, zpu_s, zpu_n, Option.bind_some, zlit, Bool.false_eq_true, zlt_t, zlt_f, zeq_t, zeq_f, nI_add, pk_mul, zb_0, zb_n0, not_true_eq_false, not_false_eq_true, Classical.not_not, if_true, if_false, ite_true, ite_false, and_self, and_true, true_and, and_false, false_and, or_self, or_true, true_or, or_false, false_or, reduceIte, hr]
  have hp := Classical.not_not.mp hp
  rcases zix p (n := 13) (by omega) with q | q | ⟨c, hc, rfl⟩
  · exact absurd q hp.1
  · exact absurd hp.2 q.2
  rcases zround X (d + 9) r hI hN n2 n5 with ⟨v, h1, h2, hv, e1, e2, hI2, hnr⟩ | ⟨j, n, hj, rfl, hN0, hn, b2, b3, hq, e1, e2⟩
  · have hv0 := zv0 hv
    have hvl := zvl hv
    have ec : ab_ru X (d + 30) 89 [.ref 0, .int r, .int (nI c)] h = some (some (.int v), h1) := by
      simp (discharger := omega) only [r89, b89_0, b89_4, b89_12, b89_17, b89_22, e1, zpu_s, zpu_n, Option.bind_some, zlit, Bool.false_eq_true, zlt_t, zlt_f, zeq_t, zeq_f, nI_add, pk_mul, zb_0, zb_n0, not_true_eq_false, not_false_eq_true, Classical.not_not, if_true, if_false, ite_true, ite_false, and_self, and_true, true_and, and_false, false_and, or_self, or_true, true_or, or_false, false_or, reduceIte, hv0]
    by_cases hr : ¬ r < nI 0 ∧ r < nI 6
    · refine zCp_mk ec ?_ hI2
      simp (discharger := omega) only [r177, b177_0, b177_4, b177_7, b177_16, b177_21, b177_26, b177_31, s106, s107i, zJ0, zJ12, e2, zpu_s, zpu_n, Option.bind_some, zlit, Bool.false_eq_true, zlt_t, zlt_f, zeq_t, zeq_f, nI_add, pk_mul, zb_0, zb_n0, not_true_eq_false, not_false_eq_true, Classical.not_not, if_true, if_false, ite_true, ite_false, and_self, and_true, true_and, and_false, false_and, or_self, or_true, true_or, or_false, false_or, reduceIte, hr, hvl]
    · obtain ⟨rfl, rfl⟩ := hnr.1 hr
      refine zCp_mk ec ?_ hI
      simp (discharger := omega) only [r177, b177_0, b177_4, b177_19, s106, zpu_s, zpu_n, Option.bind_some, zlit, Bool.false_eq_true, zlt_t, zlt_f, zeq_t, zeq_f, nI_add, pk_mul, zb_0, zb_n0, not_true_eq_false, not_false_eq_true, Classical.not_not, if_true, if_false, ite_true, ite_false, and_self, and_true, true_and, and_false, false_and, or_self, or_true, true_or, or_false, false_or, reduceIte, hr]
  · have hq' := zqf_get hN hq
    obtain ⟨hc1, c1, c2, c3⟩ := c65 X (d + 25) hN hn hj n2 k1 k2 k3 k4 t1 b3 hq'
    obtain ⟨⟨b, hb, eb⟩, -⟩ := zgo_n (e := zEm h) (q := zqf h j) t4 n (fun k hk => (hq' k hk).1)
    rw [← zgone_1] at eb
    rw [eb] at c1
    have hmul : (nI b).toInt64 * (nI (12 - c)).toInt64 = lN (b * (12 - c)) := by rw [nI_l (by omega), nI_l (by omega), lN_mul]
    have hbc : b * (12 - c) ≤ 1188 * 12 := Nat.mul_le_mul (by omega) (by omega)
    have e12 : (nI 12).toInt64 = lN 12 := rfl
    have ec : ab_ru X (d + 30) 89 [.ref 0, .int (nI j), .int (nI c)] h = some (some (.int (nI 1)), ab_sJ (ab_sJ hc1 0 13 (lN (b * (12 - c)) / lN (Nat.gcd 12 (b * (12 - c))))) 0 14 (lN 12 / lN (Nat.gcd 12 (b * (12 - c))))) := by
      simp (discharger := omega) only [r89, b89_0, b89_4, b89_12, b89_17, b89_24, b89_29, b89_42, e1, zpu_s, zpu_n, Option.bind_some, zlit, Bool.false_eq_true, zlt_t, zlt_f, zeq_t, zeq_f, nI_add, pk_mul, zb_0, zb_n0, not_true_eq_false, not_false_eq_true, Classical.not_not, if_true, if_false, ite_true, ite_false, and_self, and_true, true_and, and_false, false_and, or_self, or_true, true_or, or_false, false_or, reduceIte, c1, pk_sub, hmul, zJ12, e12, s90]
    generalize hU : lN (b * (12 - c)) / lN (Nat.gcd 12 (b * (12 - c))) = U at ec
    generalize hW : lN 12 / lN (Nat.gcd 12 (b * (12 - c))) = W at ec
    have f30 : ∀ c i, c ≠ 17 → c ≠ 18 → c ≠ 19 → c ≠ 20 → ab_gI (ab_sJ (ab_sJ hc1 0 13 U) 0 14 W) c i = ab_gI h c i := fun c i a1 a2 a3 a4 => by rw [zg_J, zg_J, c2.1 c i a1 a2 a3 a4]
    have g30 := fun i => f30 30 i (by omega) (by omega) (by omega) (by omega)
    have g32 := fun i => f30 32 i (by omega) (by omega) (by omega) (by omega)
    have g33 := (f30 33 j (by omega) (by omega) (by omega) (by omega)).trans b2
    have e2' := f144 X (d + 9) hj hn hN hN0 (q := zqf h j) (h := ab_sJ (ab_sJ hc1 0 13 U) 0 14 W) (by rw [g30]; exact n5) g33 (fun k hk => ⟨(hq' k hk).1, by rw [g32]; exact (hq' k hk).2⟩)
    obtain ⟨h2, h3, a1, a2, a3, a4, a5, a6⟩ := f145_7 X (d + 27) hN hn hj (h := h) (h1 := ab_sJ (ab_sJ hc1 0 13 U) 0 14 W) g30 g32 g33 n5 t1 hq'
    rw [eb] at a5
    refine zCp_mk ec (h2 := ab_sJ (ab_sJ h3 29 11 U) 29 12 W) ?_ (zInv_share hI U W c2 a3)
    simp (discharger := omega) only [r177, b177_0, b177_4, b177_7, b177_16, b177_21, b177_26, b177_33, b177_37, s106, s107i, zJ0, zJ12, e2', a1, a2, zpu_s, zpu_n, Option.bind_some, zlit, Bool.false_eq_true, zlt_t, zlt_f, zeq_t, zeq_f, nI_add, pk_mul, zb_0, zb_n0, not_true_eq_false, not_false_eq_true, Classical.not_not, if_true, if_false, ite_true, ite_false, and_self, and_true, true_and, and_false, false_and, or_self, or_true, true_or, or_false, false_or, reduceIte]
    simp (discharger := omega) only [b177_42, b177_60, zJ12, a5, zpu_s, zpu_n, Option.bind_some, zlit, Bool.false_eq_true, zlt_t, zlt_f, zeq_t, zeq_f, nI_add, pk_mul, zb_0, zb_n0, not_true_eq_false, not_false_eq_true, Classical.not_not, if_true, if_false, ite_true, ite_false, and_self, and_true, true_and, and_false, false_and, or_self, or_true, true_or, or_false, false_or, reduceIte, pk_sub, hmul, e12, s178, hU, hW]
