/-! should -/
theorem zit_s {β : Type} {f : Nat → β → β} {a : β} {n : Nat} : zit f a (n + 1) = f n (zit f a n) := rfl
theorem zit_const {β : Type} {f : Nat → β → β} {a : β} : ∀ {n : Nat}, (∀ k b, k < n → f k b = b) → zit f a n = a
  | 0, _ => rfl
  | n + 1, e => by unfold zit; rw [zit_const (fun k b hk => e k b (by omega)), e n _ (by omega)]
theorem zmet_mono {x : Int32} {q : Nat → Nat} {i k : Nat} (h : zmet x q i k = true) : ∀ m, zmet x q i (k + m) = true
  | 0 => h
  | m + 1 => by
    show (zmet x q i (k + m) || _) = true
    rw [zmet_mono h m]
    rfl
theorem s67 (X : ab_X) (d : Nat) {n i : Nat} {q : Nat → Nat} (hn : n ≤ 12) (hi : i < 6) (x : Int32) {h : ab_H} (e1 : ab_gI h 19 1 = nI n) (e2 : ∀ k, k < n → q k < 6 ∧ ab_gI h 20 k = nI (q k)) : ab_ru X (d + 1) 67 [.ref 19, .int (nI i), .int x] h = some (some (.int (zb (zmet x q i n = true))), h) := by
  have hq : ∀ k, k < n → q k < 6 := fun k hk => (e2 k hk).1
  have key : ∀ m k v4, k + m = n → zmet x q i k = false → ab_ex X (d + 1) 67 2 [.ref 19, .int (nI i), .int x, .int (nI k), v4] [] h = some (some (.int (zb (zmet x q i n = true))), h) := by
    intro m
    induction m with
    | zero =>
      intro k v4 hk hf
      have hk' : k = n := by omega
      subst hk'
      rw [l67_2, e1]
      rw [if_neg (nI_nlt (by omega) (by omega)), b67_51, zb_f (by rw [hf]; decide)]
    | succ m ih =>
      intro k v4 hk hf
      have q1 := (e2 k (by omega)).2
      have q2 := (e2 k (by omega)).1
      have q4 := zhr_le hq (k + 1) (by omega)
      rw [l67_2, e1, if_pos (nI_lt (by omega) (by omega))]
      have hz : zmet x q i (k + 1) = (zmet x q i k || (decide (q k = i) && (decide (zhr q (k + 1) < 12) && zbit x (zhr q (k + 1))))) := rfl
      rw [hf, Bool.false_or] at hz
      by_cases c1 : q k = i
      · have q1' : ab_gI h 20 k = nI i := by rw [q1, c1]
        by_cases c2 : zhr q (k + 1) < 12
        · by_cases c3 : zB x (nI (zhr q (k + 1))) = true
          · have hz2 : zmet x q i (k + 1) = true := by rw [hz, decide_eq_true c1, decide_eq_true c2, zbit_B, c3]; rfl
            have hz3 := zmet_mono hz2 m
            rw [show k + 1 + m = n by omega] at hz3
            rw [zb_t hz3]
            simp (discharger := omega) only [b67_10, b67_20, b67_25, b67_34, b67_40, b67_43, zd20, q1', s63 X _ hn (show k < n by omega) e1 e2, s39, c3, zpu_s, zpu_n, Option.bind_some, zlit, Bool.false_eq_true, zlt_t, zlt_f, zeq_t, zeq_f, nI_add, pk_mul, zb_0, zb_n0, not_true_eq_false, not_false_eq_true, Classical.not_not, if_true, if_false, ite_true, ite_false, and_self, and_true, true_and, and_false, false_and, or_self, or_true, true_or, or_false, false_or, reduceIte]
          · have hz2 : zmet x q i (k + 1) = false := by rw [hz, zbit_B, Bool.eq_false_iff.mpr c3, Bool.and_false, Bool.and_false]
            simp (discharger := omega) only [b67_10, b67_20, b67_25, b67_34, b67_40, b67_45, zd20, q1', s63 X _ hn (show k < n by omega) e1 e2, s39, c3, zpu_s, zpu_n, Option.bind_some, zlit, Bool.false_eq_true, zlt_t, zlt_f, zeq_t, zeq_f, nI_add, pk_mul, zb_0, zb_n0, not_true_eq_false, not_false_eq_true, Classical.not_not, if_true, if_false, ite_true, ite_false, and_self, and_true, true_and, and_false, false_and, or_self, or_true, true_or, or_false, false_or, reduceIte]
            exact ih (k + 1) _ (by omega) hz2
        · have hz2 : zmet x q i (k + 1) = false := by rw [hz, decide_eq_false c2, Bool.false_and, Bool.and_false]
          simp (discharger := omega) only [b67_10, b67_20, b67_25, b67_45, zd20, q1', s63 X _ hn (show k < n by omega) e1 e2, zpu_s, zpu_n, Option.bind_some, zlit, Bool.false_eq_true, zlt_t, zlt_f, zeq_t, zeq_f, nI_add, pk_mul, zb_0, zb_n0, not_true_eq_false, not_false_eq_true, Classical.not_not, if_true, if_false, ite_true, ite_false, and_self, and_true, true_and, and_false, false_and, or_self, or_true, true_or, or_false, false_or, reduceIte]
          exact ih (k + 1) _ (by omega) hz2
      · have hz2 : zmet x q i (k + 1) = false := by rw [hz, decide_eq_false c1, Bool.false_and]
        simp (discharger := omega) only [b67_10, b67_45, zd20, q1, zlit, Bool.false_eq_true, zlt_t, zlt_f, zeq_t, zeq_f, nI_add, pk_mul, zb_0, zb_n0, not_true_eq_false, not_false_eq_true, Classical.not_not, if_true, if_false, ite_true, ite_false, and_self, and_true, true_and, and_false, false_and, or_self, or_true, true_or, or_false, false_or, reduceIte]
        exact ih (k + 1) _ (by omega) hz2
  rw [r67, b67_0]
  exact key n 0 .null (by omega) rfl
/-- the empty hours with more errands -/
def zEw (h : ab_H) (i : Nat) (y : Int32) : Int32 := zE (ab_gI h 30 (2 + i)) (zOu h i ||| y) (ab_gI h 30 (14 + i) ||| y)
theorem s68 (X : ab_X) (d : Nat) {i N : Nat} (hN : N ≤ 6) (hi : i < N) (y : Int32) {h h0 : ab_H} (e1 : ab_gI h 42 i = ab_gI h0 30 (2 + i)) (e2 : ab_gI h 43 i = ab_gI h0 30 (8 + i)) (e3 : ab_gI h 47 i = ab_gI h0 30 (14 + i)) (t1 : ∃ k, k < 6 ∧ ab_gI h0 30 (2 + i) = nI k) : ab_ru X (d + 1) 68 [.ref 41, .int (nI i), .int y] h = some (some (.int (zEw h0 i y)), h) := by
  obtain ⟨k, hk, ek⟩ := t1
  have e1' := e1.trans ek
  simp (discharger := omega) only [r68, b68_0, b68_11, b68_24, zP_ob, zP_rf, Nat.reduceAdd, zd42, zd47, s31n X _ hN hi e2 e3, e1', e3, s33, zpu_s, zpu_n, Option.bind_some]
  unfold zEw
  rw [ek]
set_option maxHeartbeats 1000000 in
theorem cp_should (X : ab_X) (d : Nat) (x r : Int32) {h : ab_H} (hI : zInv h) : zCp X (d + 30) 66 157 [.int x, .int r] h := by
  obtain ⟨N, dc, hN, hdc, n0, n1, n2, n3, n4, n5, k1, k2, k3, k4, k5, t1, t2, t3, t4⟩ := znow hI
  by_cases hx : ¬ (¬ x < nI 0 ∧ x < nI N)
  · apply zCp_mk
    · simp (discharger := omega) only [r66, b66_0, b66_5, b66_8, s29, zpu_s, zpu_n, Option.bind_some, zlit, Bool.false_eq_true, zlt_t, zlt_f, zeq_t, zeq_f, nI_add, pk_mul, zb_0, zb_n0, not_true_eq_false, not_false_eq_true, Classical.not_not, if_true, if_false, ite_true, ite_false, and_self, and_true, true_and, and_false, false_and, or_self, or_true, true_or, or_false, false_or, reduceIte, n2, hx]; rfl
    · simp (discharger := omega) only [r157, b157_0, b157_5, b157_15, s131 X _ hN _ n5, zpu_s, zpu_n, Option.bind_some, zlit, Bool.false_eq_true, zlt_t, zlt_f, zeq_t, zeq_f, nI_add, pk_mul, zb_0, zb_n0, not_true_eq_false, not_false_eq_true, Classical.not_not, if_true, if_false, ite_true, ite_false, and_self, and_true, true_and, and_false, false_and, or_self, or_true, true_or, or_false, false_or, reduceIte, hx]; rfl
    · exact hI
  have hx := Classical.not_not.mp hx
  rcases zix x (n := N) (by omega) with q | q | ⟨i, hi, rfl⟩
  · exact absurd q hx.1
  · exact absurd hx.2 q.2
  rcases zround X (d + 9) r hI hN n2 n5 with ⟨v, h1, h2, hv, e1, e2, hI2, hnr⟩ | ⟨j, n, hj, rfl, hN0, hn, b2, b3, hq, e1, e2⟩
  · have hv0 := zv0 hv
    have hvl := zvl hv
    have ec : ab_ru X (d + 30) 66 [.ref 0, .int (nI i), .int r] h = some (some (.int v), h1) := by
      simp (discharger := omega) only [r66, b66_0, b66_5, b66_10, b66_15, b66_20, s29, n2, e1, zpu_s, zpu_n, Option.bind_some, zlit, Bool.false_eq_true, zlt_t, zlt_f, zeq_t, zeq_f, nI_add, pk_mul, zb_0, zb_n0, not_true_eq_false, not_false_eq_true, Classical.not_not, if_true, if_false, ite_true, ite_false, and_self, and_true, true_and, and_false, false_and, or_self, or_true, true_or, or_false, false_or, reduceIte, hv0]
    have n5' : ab_gI h1 30 0 = nI N := (hnr.2 0).trans n5
    by_cases hr : ¬ r < nI 0 ∧ r < nI 6
    · refine zCp_mk ec ?_ hI2
      simp (discharger := omega) only [r157, b157_0, b157_5, b157_8, b157_12, b157_17, b157_22, b157_27, s131 X _ hN _ n5', s106, e2, zpu_s, zpu_n, Option.bind_some, zlit, Bool.false_eq_true, zlt_t, zlt_f, zeq_t, zeq_f, nI_add, pk_mul, zb_0, zb_n0, not_true_eq_false, not_false_eq_true, Classical.not_not, if_true, if_false, ite_true, ite_false, and_self, and_true, true_and, and_false, false_and, or_self, or_true, true_or, or_false, false_or, reduceIte, hr, hvl]
    · obtain ⟨rfl, rfl⟩ := hnr.1 hr
      refine zCp_mk ec ?_ hI
      simp (discharger := omega) only [r157, b157_0, b157_5, b157_8, b157_12, b157_15, s131 X _ hN _ n5', s106, zpu_s, zpu_n, Option.bind_some, zlit, Bool.false_eq_true, zlt_t, zlt_f, zeq_t, zeq_f, nI_add, pk_mul, zb_0, zb_n0, not_true_eq_false, not_false_eq_true, Classical.not_not, if_true, if_false, ite_true, ite_false, and_self, and_true, true_and, and_false, false_and, or_self, or_true, true_or, or_false, false_or, reduceIte, hr]
  · have hq' := zqf_get hN hq
    have f := zFc_Rd h j n
    have f19 := zRd_19 h j n
    have f20 : ∀ k, k < n → zqf h j k < 6 ∧ ab_gI (zRd h j n) 20 k = nI (zqf h j k) := fun k hk => ⟨by have := (hq' k hk).1; omega, by rw [zRd_20 hk (b3 k (by omega)) hj]; exact (hq' k hk).2⟩
    have g30 : ∀ i, ab_gI (zRd h j n) 30 i = ab_gI h 30 i := fun i => f.1 30 i (by omega) (by omega) (by omega) (by omega)
    have g32 : ∀ i, ab_gI (zRd h j n) 32 i = ab_gI h 32 i := fun i => f.1 32 i (by omega) (by omega) (by omega) (by omega)
    have g33 : ab_gI (zRd h j n) 33 j = nI n := (f.1 33 j (by omega) (by omega) (by omega) (by omega)).trans b2
    have g42 := (f.1 42 i (by omega) (by omega) (by omega) (by omega)).trans (k1 i hi)
    have g43 := (f.1 43 i (by omega) (by omega) (by omega) (by omega)).trans (k2 i hi)
    have g47 := (f.1 47 i (by omega) (by omega) (by omega) (by omega)).trans (k3 i hi)
    have g45 := (f.1 45 i (by omega) (by omega) (by omega) (by omega)).trans (k4 i hi)
    have g41 := (f.1 41 7 (by omega) (by omega) (by omega) (by omega)).trans n2
    have s32' := fun dd => s32n X dd hN hi (h := zRd h j n) (h0 := h) g42 g43 g47 (t1 i hi)
    have s31' := fun dd => s31n X dd hN hi (h := zRd h j n) (h0 := h) g43 g47
    have s68' := fun dd y => s68 X dd hN hi y (h := zRd h j n) (h0 := h) g42 g43 g47 (t1 i hi)
    have s67' := fun dd y => s67 X dd hn (show i < 6 by omega) y f19 f20
    obtain ⟨h2, h3, a1, a2, a3, a4, a5, a6⟩ := f145_7 X (d + 27) hN hn hj (h := h) (h1 := zRd h j n) g30 g32 g33 n5 t1 hq'
    obtain ⟨kk, hkk, ekk⟩ := t1 i hi
    have e5' : ab_gI (zRd h j n) 30 0 = nI N := (g30 0).trans n5
    -- the reference's loop
    have hloop : ∀ h', zFr (zRd h j n) h' → zB (ab_gI h' 29 19) (nI i) = false → ∃ h'', zFr (zRd h j n) h'' ∧ ab_ex X (d + 30) 157 44 [.ref 29, .int (nI i), .int (nI j), .int (nI 0), .int (nI 0), .int (nI 0), .null, .null] [] h' = some (some (.int (zit (fun k s => zsb (¬ zB (zOu h i) (nI k) = true ∧ nI 0 < ab_gI h 30 (20 + i) ∧ zmet (zEw h i (nI 1 <<< (nI k &&& nI 31))) (zqf h j) i n = true) k s) (nI 0) 12)), h'') := by
      intro h' fh' sh'
      have step : ∀ k, k ≤ 12 → ∃ h'' v6 v7, zFr (zRd h j n) h'' ∧ zB (ab_gI h'' 29 19) (nI i) = false ∧ ab_ex X (d + 30) 157 44 [.ref 29, .int (nI i), .int (nI j), .int (nI 0), .int (nI 0), .int (nI 0), .null, .null] [] h' = ab_ex X (d + 30) 157 44 [.ref 29, .int (nI i), .int (nI j), .int (nI 0), .int (zit (fun k s => zsb (¬ zB (zOu h i) (nI k) = true ∧ nI 0 < ab_gI h 30 (20 + i) ∧ zmet (zEw h i (nI 1 <<< (nI k &&& nI 31))) (zqf h j) i n = true) k s) (nI 0) k), .int (nI k), v6, v7] [] h'' := by
        intro k
        induction k with
        | zero => intro _; exact ⟨h', .null, .null, fh', sh', rfl⟩
        | succ k ih =>
          intro hk
          obtain ⟨h'', v6, v7, w1, w2, w3⟩ := ih (by omega)
          have w2' : ¬ zB (ab_gI h'' 29 19) (nI i) = true := by rw [w2]; decide
          have w30 : ∀ i, ab_gI h'' 30 i = ab_gI h 30 i := fun i => (w1.1 30 i (by omega) (by omega) (by omega)).trans (g30 i)
          have wo : zOu h'' i = zOu h i := zOu_congr w30 i
          rw [w3, l157_44, zit_s (n := k)]
          generalize zit (fun k s => zsb (¬ zB (zOu h i) (nI k) = true ∧ nI 0 < ab_gI h 30 (20 + i) ∧ zmet (zEw h i (nI 1 <<< (nI k &&& nI 31))) (zqf h j) i n = true) k s) (nI 0) k = S at w3 ⊢
          clear w3
          by_cases c1 : zB (zOu h i) (nI k) = true
          · refine ⟨h'', v6, v7, w1, w2, ?_⟩
            rw [zsb_f (fun z => z.1 c1)]
            simp (discharger := omega) only [b157_51, b157_59, b157_62, b157_67, b157_72, b157_162, s139, s133n, wo, c1, w2', zpu_s, zpu_n, Option.bind_some, zlit, Bool.false_eq_true, zlt_t, zlt_f, zeq_t, zeq_f, nI_add, pk_mul, zb_0, zb_n0, not_true_eq_false, not_false_eq_true, Classical.not_not, if_true, if_false, ite_true, ite_false, and_self, and_true, true_and, and_false, false_and, or_self, or_true, true_or, or_false, false_or, reduceIte]
          · obtain ⟨hb, d1, d2, d3, d4⟩ := f145 X (d + 27) hN w1 e5' (fun l hl => by rw [g30]; exact t1 l hl)
            have b30 : ∀ i, ab_gI hb 30 i = ab_gI h 30 i := fun i => (d2.1 30 i (by omega) (by omega) (by omega)).trans (g30 i)
            have ev : zE (nI kk) (zOu h i ||| nI 1 <<< (nI k &&& nI 31)) (ab_gI h 30 (14 + i) ||| nI 1 <<< (nI k &&& nI 31)) = zEw h i (nI 1 <<< (nI k &&& nI 31)) := by unfold zEw; rw [ekk]
            have bo : zOu hb i = zOu h i := zOu_congr b30 i
            have b2i := (b30 (2 + i)).trans ekk
            obtain ⟨h4, p1, p2, p3, p4, p5, p6, p7⟩ := f147 X (d + 27) (N := N) (q := zqf h j) hj hn hN (zFr_s38 d2 i (zEw h i (nI 1 <<< (nI k &&& nI 31)))) g33 (fun k hk => ⟨(hq' k hk).1, by rw [g32]; exact (hq' k hk).2⟩) (e := fun l => if l = i then zEw h i (nI 1 <<< (nI k &&& nI 31)) else zEm h l) (D := fun i => ab_gI h 30 (20 + i)) (fun l hl => by
              rw [zg_same]
              by_cases el : l = i
              · rw [if_pos el, if_pos el]
              · rw [if_neg el, if_neg el, d3 l hl]; exact zEm_congr g30 l) (fun l hl => by rw [zg_ne (by omega), d4 l hl, g30])
            have hs2 := zserved (e := fun l => if l = i then zEw h i (nI 1 <<< (nI k &&& nI 31)) else zEm h l) (D := fun i => ab_gI h 30 (20 + i)) hN t4 n (fun k hk => (hq' k hk).1) i (by omega)
            rw [← p6] at hs2
            rw [if_pos rfl] at hs2
            refine ⟨ab_sI h4 29 19 0, .int (ab_gI h 30 (14 + i) ||| nI 1 <<< (nI k &&& nI 31)), .int (zb (zB (ab_gI h4 29 19) (nI i) = true)), zFr_s29 p2 (by omega) 0, by rw [zg_eq]; exact zB_0 i (by omega), ?_⟩
            rcases hs2 with ⟨u1, u2, u3, u4⟩ | ⟨u1, u2, u3⟩
            · rw [zsb_t ⟨c1, u3, u4⟩]
              simp (discharger := omega) only [b157_51, b157_59, b157_62, b157_67, b157_72, b157_75, b157_79, b157_113, b157_123, b157_129, b157_137, b157_151, b157_159, b157_162, s139, s133n, s135, wo, c1, w2', d1, zd30, zs38, b30, bo, b2i, ekk, ev, p1, u1, zpu_s, zpu_n, Option.bind_some, zlit, Bool.false_eq_true, zlt_t, zlt_f, zeq_t, zeq_f, nI_add, pk_mul, zb_0, zb_n0, not_true_eq_false, not_false_eq_true, Classical.not_not, if_true, if_false, ite_true, ite_false, and_self, and_true, true_and, and_false, false_and, or_self, or_true, true_or, or_false, false_or, reduceIte]
            · have u1' : ¬ zB (ab_gI h4 29 19) (nI i) = true := by rw [u1]; decide
              rw [zsb_f (fun z => u3 z.2)]
              simp (discharger := omega) only [b157_51, b157_59, b157_62, b157_67, b157_72, b157_75, b157_79, b157_113, b157_123, b157_129, b157_137, b157_158, b157_159, b157_162, s139, s133n, s135, wo, c1, w2', d1, zd30, zs38, b30, bo, b2i, ekk, ev, p1, u1', zor0, zpu_s, zpu_n, Option.bind_some, zlit, Bool.false_eq_true, zlt_t, zlt_f, zeq_t, zeq_f, nI_add, pk_mul, zb_0, zb_n0, not_true_eq_false, not_false_eq_true, Classical.not_not, if_true, if_false, ite_true, ite_false, and_self, and_true, true_and, and_false, false_and, or_self, or_true, true_or, or_false, false_or, reduceIte]
      obtain ⟨h'', v6, v7, w1, w2, w3⟩ := step 12 (by omega)
      refine ⟨h'', w1, ?_⟩
      rw [w3, l157_44]
      simp (discharger := omega) only [b157_168, zlit, Bool.false_eq_true, zlt_t, zlt_f, zeq_t, zeq_f, nI_add, pk_mul, zb_0, zb_n0, not_true_eq_false, not_false_eq_true, Classical.not_not, if_true, if_false, ite_true, ite_false, and_self, and_true, true_and, and_false, false_and, or_self, or_true, true_or, or_false, false_or, reduceIte]
    have hs1 := zserved (e := zEm h) (D := fun i => ab_gI h 30 (20 + i)) hN t4 n (fun k hk => (hq' k hk).1) i (by omega)
    rw [← a6] at hs1
    obtain ⟨dd, hdd, edd⟩ := t4 i hi
    have er0 : ∀ w, ab_ex X (d + 30) 157 44 [.ref 29, .int (nI i), .int (nI j), .int (nI 0), .int (nI 0), .int (nI 0), .null, .null] [] h3 = w → ab_ru X (d + 30) 157 [.ref 29, .int (nI i), .int (nI j)] (zRd h j n) = w := by
      intro w ew
      simp (discharger := omega) only [r157, b157_0, b157_5, b157_8, b157_12, b157_17, b157_22, b157_29, b157_33, b157_38, s131 X _ hN _ e5', s106, e2, a1, a2, zpu_s, zpu_n, Option.bind_some, zlit, Bool.false_eq_true, zlt_t, zlt_f, zeq_t, zeq_f, nI_add, pk_mul, zb_0, zb_n0, not_true_eq_false, not_false_eq_true, Classical.not_not, if_true, if_false, ite_true, ite_false, and_self, and_true, true_and, and_false, false_and, or_self, or_true, true_or, or_false, false_or, reduceIte]
      exact ew
    by_cases hd0 : dd = 0
    · subst hd0
      have g45' := g45.trans edd
      have ec : ab_ru X (d + 30) 66 [.ref 0, .int (nI i), .int (nI j)] h = some (some (.int (nI 0)), zRd h j n) := by
        simp (discharger := omega) only [r66, b66_0, b66_5, b66_10, b66_15, b66_22, b66_53, s29, n2, e1, zpu_s, zpu_n, Option.bind_some, zlit, Bool.false_eq_true, zlt_t, zlt_f, zeq_t, zeq_f, nI_add, pk_mul, zb_0, zb_n0, not_true_eq_false, not_false_eq_true, Classical.not_not, if_true, if_false, ite_true, ite_false, and_self, and_true, true_and, and_false, false_and, or_self, or_true, true_or, or_false, false_or, reduceIte, zd45, g45']
      have hf : zB (ab_gI h3 29 19) (nI i) = false := by
        rcases hs1 with ⟨-, -, u3, -⟩ | ⟨u1, -⟩
        · rw [edd] at u3; exact absurd u3 (by decide)
        · exact u1
      obtain ⟨h'', w1, w2⟩ := hloop h3 a3 hf
      rw [zit_const (fun k s _ => zsb_f (fun z => by have := z.2.1; rw [edd] at this; exact absurd this (by decide)) k s)] at w2
      exact zCp_mk ec (er0 _ w2) (zInv_Fr (zInv_Rd hI j n) w1)
    · have g45' := g45.trans edd
      have hpos : nI 0 < ab_gI h 30 (20 + i) := by rw [edd]; exact nI_lt (by omega) (by omega)
      by_cases hm : zmet (zEm h i) (zqf h j) i n = true
      · have ec : ab_ru X (d + 30) 66 [.ref 0, .int (nI i), .int (nI j)] h = some (some (.int (nI 0)), zRd h j n) := by
          simp (discharger := omega) only [r66, b66_0, b66_5, b66_10, b66_15, b66_22, b66_34, b66_47, b66_50, b66_53, s29, n2, e1, zpu_s, zpu_n, Option.bind_some, zlit, Bool.false_eq_true, zlt_t, zlt_f, zeq_t, zeq_f, nI_add, pk_mul, zb_0, zb_n0, not_true_eq_false, not_false_eq_true, Classical.not_not, if_true, if_false, ite_true, ite_false, and_self, and_true, true_and, and_false, false_and, or_self, or_true, true_or, or_false, false_or, reduceIte, zd45, g45', s32', s67', hm]
        have hf : zB (ab_gI h3 29 19) (nI i) = true := by
          rcases hs1 with ⟨u1, -⟩ | ⟨-, -, u3⟩
          · exact u1
          · exact absurd ⟨hpos, hm⟩ u3
        refine zCp_mk ec (er0 (some (some (.int (nI 0)), h3)) ?_) (zInv_Fr (zInv_Rd hI j n) a3)
        rw [l157_44]
        simp (discharger := omega) only [b157_51, b157_59, b157_168, s139, hf, zpu_s, zpu_n, Option.bind_some, zlit, Bool.false_eq_true, zlt_t, zlt_f, zeq_t, zeq_f, nI_add, pk_mul, zb_0, zb_n0, not_true_eq_false, not_false_eq_true, Classical.not_not, if_true, if_false, ite_true, ite_false, and_self, and_true, true_and, and_false, false_and, or_self, or_true, true_or, or_false, false_or, reduceIte]
      · have hf : zB (ab_gI h3 29 19) (nI i) = false := by
          rcases hs1 with ⟨-, -, -, u4⟩ | ⟨u1, -⟩
          · exact absurd u4 hm
          · exact u1
        obtain ⟨h'', w1, w2⟩ := hloop h3 a3 hf
        refine zCp_mk ?_ (er0 _ w2) (zInv_Fr (zInv_Rd hI j n) w1)
        have key := zloop (fun s k => ab_ex X (d + 30) 66 71 [.ref 0, .int (nI i), .int (nI j), .int (nI 0), .int s, .int (zOu h i), .int (nI k)] [] (zRd h j n)) (fun k s => zsb (¬ zB (zOu h i) (nI k) = true ∧ nI 0 < ab_gI h 30 (20 + i) ∧ zmet (zEw h i (nI 1 <<< (nI k &&& nI 31))) (zqf h j) i n = true) k s) 12 (fun k s hk => by
          rw [l66_71]
          by_cases c1 : zB (zOu h i) (nI k) = true
          · rw [zsb_f (fun z => z.1 c1)]
            simp (discharger := omega) only [b66_78, b66_85, b66_120, s39, c1, zpu_s, zpu_n, Option.bind_some, zlit, Bool.false_eq_true, zlt_t, zlt_f, zeq_t, zeq_f, nI_add, pk_mul, zb_0, zb_n0, not_true_eq_false, not_false_eq_true, Classical.not_not, if_true, if_false, ite_true, ite_false, and_self, and_true, true_and, and_false, false_and, or_self, or_true, true_or, or_false, false_or, reduceIte]
          · by_cases c2 : zmet (zEw h i (nI 1 <<< (nI k &&& nI 31))) (zqf h j) i n = true
            · rw [zsb_t ⟨c1, hpos, c2⟩]
              simp (discharger := omega) only [b66_78, b66_85, b66_88, b66_105, b66_108, b66_111, b66_120, s39, c1, s68', s67', c2, zpu_s, zpu_n, Option.bind_some, zlit, Bool.false_eq_true, zlt_t, zlt_f, zeq_t, zeq_f, nI_add, pk_mul, zb_0, zb_n0, not_true_eq_false, not_false_eq_true, Classical.not_not, if_true, if_false, ite_true, ite_false, and_self, and_true, true_and, and_false, false_and, or_self, or_true, true_or, or_false, false_or, reduceIte]
            · rw [zsb_f (fun z => c2 z.2.2)]
              simp (discharger := omega) only [b66_78, b66_85, b66_88, b66_105, b66_108, b66_120, s39, c1, s68', s67', c2, zpu_s, zpu_n, Option.bind_some, zlit, Bool.false_eq_true, zlt_t, zlt_f, zeq_t, zeq_f, nI_add, pk_mul, zb_0, zb_n0, not_true_eq_false, not_false_eq_true, Classical.not_not, if_true, if_false, ite_true, ite_false, and_self, and_true, true_and, and_false, false_and, or_self, or_true, true_or, or_false, false_or, reduceIte]) (nI 0)
        simp (discharger := omega) only [r66, b66_0, b66_5, b66_10, b66_15, b66_22, b66_34, b66_47, b66_50, b66_55, b66_66, s29, n2, e1, zpu_s, zpu_n, Option.bind_some, zlit, Bool.false_eq_true, zlt_t, zlt_f, zeq_t, zeq_f, nI_add, pk_mul, zb_0, zb_n0, not_true_eq_false, not_false_eq_true, Classical.not_not, if_true, if_false, ite_true, ite_false, and_self, and_true, true_and, and_false, false_and, or_self, or_true, true_or, or_false, false_or, reduceIte, zd45, g45', s32', s31', s67', hm, hd0]
        rw [key, l66_71]
        simp (discharger := omega) only [b66_126, zlit, Bool.false_eq_true, zlt_t, zlt_f, zeq_t, zeq_f, nI_add, pk_mul, zb_0, zb_n0, not_true_eq_false, not_false_eq_true, Classical.not_not, if_true, if_false, ite_true, ite_false, and_self, and_true, true_and, and_false, false_and, or_self, or_true, true_or, or_false, false_or, reduceIte]
