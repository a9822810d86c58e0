/-! the race: the reference -/
theorem s176 (X : ab_X) (d : Nat) {N p t x : Nat} (hN : N ≤ 6) (hp : p < 6) (ht : t < 1000) (hx : x < N) {h hm : ab_H} (S G : Int32) (c38 : ab_gI hm 38 x = zEm h x) (c30 : ab_gI hm 30 (20 + x) = nI (zdn h x)) : ab_ru X (d + 1) 176 [.ref 29, .int (nI p), .int (nI t), .int (nI x), .int S, .int G] hm = some (some (.int (nI (zwn h p t (S ||| G) x))), hm) := by
  have hd := zdist_lt hp (show x < 6 by omega)
  have ho := zB_or S G (i := x) (by omega)
  unfold zwn
  rw [ho]
  by_cases c1 : t + zdist p x < 12
  · by_cases c3 : zB (zEm h x) (nI (t + zdist p x)) = true
    · by_cases c2 : zB S (nI x) = true
      · rw [if_neg (fun q => q.2.1 (by rw [c2]; rfl))]
        simp (discharger := omega) only [r176, b176_0, b176_6, b176_16, b176_27, b176_30, b176_36, b176_52, b176_53, b176_72, b176_73, s149, s139, c38, c2, c3, zd38, zpu_s, zpu_n, Option.bind_some, zlit, Bool.false_eq_true, zlt_t, zlt_f, zeq_t, zeq_f, nI_add, pk_mul, zb_0, zb_n0, not_true_eq_false, not_false_eq_true, Classical.not_not, if_true, if_false, ite_true, ite_false, and_self, and_true, true_and, and_false, false_and, or_self, or_true, true_or, or_false, false_or, reduceIte]
      · by_cases c4 : zB G (nI x) = true
        · rw [if_neg (fun q => q.2.1 (by rw [c4]; exact Bool.or_true _))]
          simp (discharger := omega) only [r176, b176_0, b176_6, b176_16, b176_27, b176_30, b176_36, b176_39, b176_45, b176_52, b176_53, b176_72, b176_73, s149, s139, c38, c2, c3, c4, zd38, zpu_s, zpu_n, Option.bind_some, zlit, Bool.false_eq_true, zlt_t, zlt_f, zeq_t, zeq_f, nI_add, pk_mul, zb_0, zb_n0, not_true_eq_false, not_false_eq_true, Classical.not_not, if_true, if_false, ite_true, ite_false, and_self, and_true, true_and, and_false, false_and, or_self, or_true, true_or, or_false, false_or, reduceIte]
        · rw [if_pos ⟨c1, fun q => (Bool.or_eq_true_iff.mp q).elim c2 c4, c3⟩]
          simp (discharger := omega) only [r176, b176_0, b176_6, b176_16, b176_27, b176_30, b176_36, b176_39, b176_45, b176_48, b176_53, b176_60, b176_73, s149, s139, c38, c30, c2, c3, c4, zd38, zd30, zpu_s, zpu_n, Option.bind_some, zlit, Bool.false_eq_true, zlt_t, zlt_f, zeq_t, zeq_f, nI_add, pk_mul, zb_0, zb_n0, not_true_eq_false, not_false_eq_true, Classical.not_not, if_true, if_false, ite_true, ite_false, and_self, and_true, true_and, and_false, false_and, or_self, or_true, true_or, or_false, false_or, reduceIte]
    · rw [if_neg (fun q => c3 q.2.2)]
      simp (discharger := omega) only [r176, b176_0, b176_6, b176_16, b176_27, b176_52, b176_53, b176_72, b176_73, s149, s139, c38, c3, zd38, zpu_s, zpu_n, Option.bind_some, zlit, Bool.false_eq_true, zlt_t, zlt_f, zeq_t, zeq_f, nI_add, pk_mul, zb_0, zb_n0, not_true_eq_false, not_false_eq_true, Classical.not_not, if_true, if_false, ite_true, ite_false, and_self, and_true, true_and, and_false, false_and, or_self, or_true, true_or, or_false, false_or, reduceIte]
  · rw [if_neg (fun q => c1 q.1)]
    simp (discharger := omega) only [r176, b176_0, b176_6, b176_52, b176_53, b176_72, b176_73, s149, zpu_s, zpu_n, Option.bind_some, zlit, Bool.false_eq_true, zlt_t, zlt_f, zeq_t, zeq_f, nI_add, pk_mul, zb_0, zb_n0, not_true_eq_false, not_false_eq_true, Classical.not_not, if_true, if_false, ite_true, ite_false, and_self, and_true, true_and, and_false, false_and, or_self, or_true, true_or, or_false, false_or, reduceIte]
theorem s175 (X : ab_X) (d : Nat) {N p t : Nat} (hN : N ≤ 6) (hp : p < 6) (ht : t < 1000) {h hm : ab_H} (S G : Int32) (n5 : ab_gI hm 30 0 = nI N) (c38 : ∀ x, x < N → ab_gI hm 38 x = zEm h x) (c30 : ∀ x, x < N → ab_gI hm 30 (20 + x) = nI (zdn h x)) (hdn : ∀ x, x < N → zdn h x ≤ 99) : ab_ru X (d + 2) 175 [.ref 29, .int (nI p), .int (nI t), .int S, .int G] hm = some (some (.int (nI (zlm h p t (S ||| G) N))), hm) := by
  have key : ∀ m k v7, k + m = N → ab_ex X (d + 2) 175 6 [.ref 29, .int (nI p), .int (nI t), .int S, .int G, .int (nI (zmx (fun x => zwn h p t (S ||| G) x) k)), .int (nI k), v7] [] hm = some (some (.int (nI (zlm h p t (S ||| G) N))), hm) := by
    intro m
    induction m with
    | zero =>
      intro k v7 hk
      have : k = N := by omega
      subst this
      rw [l175_6]
      simp (discharger := omega) only [zd30, n5, b175_52, zlit, Bool.false_eq_true, zlt_t, zlt_f, zeq_t, zeq_f, nI_add, pk_mul, zb_0, zb_n0, not_true_eq_false, not_false_eq_true, Classical.not_not, if_true, if_false, ite_true, ite_false, and_self, and_true, true_and, and_false, false_and, or_self, or_true, true_or, or_false, false_or, reduceIte]
      rfl
    | succ m ih =>
      intro k v7 hk
      have hx : k < N := by omega
      have h1 : zmx (fun x => zwn h p t (S ||| G) x) k ≤ 99 := zmx_le (fun i hi => zwn_le hdn (show i < N by omega))
      have h2 := zwn_le hdn (p := p) (t := t) (S := S ||| G) hx
      have e := s176 X d hN hp ht hx S G (c38 k hx) (c30 k hx)
      rw [l175_6]
      have hi : zmx (fun x => zwn h p t (S ||| G) x) (k + 1) = if zmx (fun x => zwn h p t (S ||| G) x) k < zwn h p t (S ||| G) k then zwn h p t (S ||| G) k else zmx (fun x => zwn h p t (S ||| G) x) k := rfl
      have ih' := fun v => ih (k + 1) v (by omega)
      rw [hi] at ih'
      by_cases c : zmx (fun x => zwn h p t (S ||| G) x) k < zwn h p t (S ||| G) k
      · rw [if_pos c] at ih'
        simp (discharger := omega) only [zd30, n5, b175_17, b175_28, b175_37, b175_44, e, zpu_s, zpu_n, Option.bind_some, zlit, Bool.false_eq_true, zlt_t, zlt_f, zeq_t, zeq_f, nI_add, pk_mul, zb_0, zb_n0, not_true_eq_false, not_false_eq_true, Classical.not_not, if_true, if_false, ite_true, ite_false, and_self, and_true, true_and, and_false, false_and, or_self, or_true, true_or, or_false, false_or, reduceIte]
        exact ih' _
      · rw [if_neg c] at ih'
        simp (discharger := omega) only [zd30, n5, b175_17, b175_28, b175_42, b175_44, e, zpu_s, zpu_n, Option.bind_some, zlit, Bool.false_eq_true, zlt_t, zlt_f, zeq_t, zeq_f, nI_add, pk_mul, zb_0, zb_n0, not_true_eq_false, not_false_eq_true, Classical.not_not, if_true, if_false, ite_true, ite_false, and_self, and_true, true_and, and_false, false_and, or_self, or_true, true_or, or_false, false_or, reduceIte]
        exact ih' _
  simp (discharger := omega) only [r175, b175_0, zlit, Bool.false_eq_true, zlt_t, zlt_f, zeq_t, zeq_f, nI_add, pk_mul, zb_0, zb_n0, not_true_eq_false, not_false_eq_true, Classical.not_not, if_true, if_false, ite_true, ite_false, and_self, and_true, true_and, and_false, false_and, or_self, or_true, true_or, or_false, false_or, reduceIte]
  exact key N 0 _ (by omega)
/-- a house shut that gives nothing anyway -/
theorem zr_same {h : ab_H} {N x st : Nat} (hN : N ≤ 6) (hx : x < N) (hst : st < N) : zlm h x x ((if 0 + zdist 0 x < 12 ∧ ¬ zB (nI 0) (nI x) = true ∧ zB (zEm h x) (nI (0 + zdist 0 x)) = true then nI 0 ||| (nI 1 <<< (nI x &&& nI 31)) else nI 0) ||| (nI 1 <<< (nI st &&& nI 31))) N = zlm h x x ((nI 1 <<< (nI st &&& nI 31)) ||| (if 0 < zwn h 0 0 (nI 0) x then nI 1 <<< (nI x &&& nI 31) else nI 0)) N := by
  refine zmx_congr (fun y hy => ?_)
  by_cases c : 0 + zdist 0 x < 12 ∧ ¬ zB (nI 0) (nI x) = true ∧ zB (zEm h x) (nI (0 + zdist 0 x)) = true
  · have ew : zwn h 0 0 (nI 0) x = zdn h x := if_pos c
    rw [if_pos c, ew]
    by_cases c0 : 0 < zdn h x
    · rw [if_pos c0, Int32.or_comm (nI 0), zor0, Int32.or_comm]
    · rw [if_neg c0]
      by_cases exy : y = x
      · subst exy
        have h0 : zdn h y = 0 := by omega
        unfold zwn
        rw [h0]
        split <;> split <;> rfl
      · unfold zwn
        rw [zB_or _ _ (show y < 12 by omega), zB_or _ _ (show y < 12 by omega), zB_or _ _ (show y < 12 by omega), z1sh x (by omega) y (by omega), decide_eq_false (fun e => exy e.symm), Bool.or_false, Bool.or_comm]
  · have ew : zwn h 0 0 (nI 0) x = 0 := if_neg c
    rw [if_neg c, ew, if_neg (by omega), Int32.or_comm]
set_option maxHeartbeats 1000000 in
theorem cp_race (X : ab_X) (d : Nat) (p : Int32) {h : ab_H} (hI : zInv h) : zCp X (d + 30) 86 174 [.int p] h := by
  obtain ⟨N, dc, hN, hdc, n0, n1, n2, n3, n4, n5, k1, k2, k3, k4, k5, t1, t2, t3, t4⟩ := znow hI
  by_cases hp : ¬ (¬ p < nI 0 ∧ p < nI 3)
  · have e1 : ab_ru X (d + 30) 86 [.ref 0, .int p] h = some (some (.int (-nI 1)), h) := by
      by_cases hp0 : p < nI 0
      · simp (discharger := omega) only [r86, b86_0, b86_9, zlit, Bool.false_eq_true, zlt_t, zlt_f, zeq_t, zeq_f, nI_add, pk_mul, zb_0, zb_n0, not_true_eq_false, not_false_eq_true, Classical.not_not, if_true, if_false, ite_true, ite_false, and_self, and_true, true_and, and_false, false_and, or_self, or_true, true_or, or_false, false_or, reduceIte, hp0]
      · have hp2 : ¬ p < nI (2 + 1) := fun q => hp ⟨hp0, q⟩
        simp (discharger := omega) only [r86, b86_0, b86_4, b86_9, zlit, Bool.false_eq_true, zlt_t, zlt_f, zeq_t, zeq_f, nI_add, pk_mul, zb_0, zb_n0, not_true_eq_false, not_false_eq_true, Classical.not_not, if_true, if_false, ite_true, ite_false, and_self, and_true, true_and, and_false, false_and, or_self, or_true, true_or, or_false, false_or, reduceIte, hp0, znlt (n := 2) (by omega) p, hp2]
    refine zCp_mk e1 (v := .int (-nI 1)) (h2 := h) ?_ hI
    have hp3 : ¬ (¬ p < nI 0 ∧ ¬ nI 2 < p) := by rw [znlt (n := 2) (by omega) p, Classical.not_not]; exact hp
    simp (discharger := omega) only [r174, b174_0, b174_9, b174_12, s107i, zJ0, zJ2, zpu_s, zpu_n, Option.bind_some, zlit, Bool.false_eq_true, zlt_t, zlt_f, zeq_t, zeq_f, nI_add, pk_mul, zb_0, zb_n0, not_true_eq_false, not_false_eq_true, Classical.not_not, if_true, if_false, ite_true, ite_false, and_self, and_true, true_and, and_false, false_and, or_self, or_true, true_or, or_false, false_or, reduceIte, hp3]
  have hp := Classical.not_not.mp hp
  rcases zix p (n := 3) (by omega) with q | q | ⟨c, hc, rfl⟩
  · exact absurd q hp.1
  · exact absurd hp.2 q.2
  by_cases hN0 : N = 0
  · subst hN0
    apply zCp_mk
    · simp (discharger := omega) only [r86, b86_0, b86_4, b86_11, b86_21, n2, zlit, Bool.false_eq_true, zlt_t, zlt_f, zeq_t, zeq_f, nI_add, pk_mul, zb_0, zb_n0, not_true_eq_false, not_false_eq_true, Classical.not_not, if_true, if_false, ite_true, ite_false, and_self, and_true, true_and, and_false, false_and, or_self, or_true, true_or, or_false, false_or, reduceIte]; rfl
    · simp (discharger := omega) only [r174, b174_0, b174_9, b174_14, b174_23, s107i, zJ0, zJ2, zd30, n5, zpu_s, zpu_n, Option.bind_some, zlit, Bool.false_eq_true, zlt_t, zlt_f, zeq_t, zeq_f, nI_add, pk_mul, zb_0, zb_n0, not_true_eq_false, not_false_eq_true, Classical.not_not, if_true, if_false, ite_true, ite_false, and_self, and_true, true_and, and_false, false_and, or_self, or_true, true_or, or_false, false_or, reduceIte]; rfl
    · exact hI
  have hd := zdn_get t4
  have hdn := fun x hx => (hd x hx).1
  have ef := s48 X (d + 27) hN (B := 18) rfl (by omega) (nI 1) rfl (h := h) (h0 := h) n2 k1 k2 k3 t1
  generalize hE : (fun i => if i < N then zEm h i else ab_gI h 18 i) = E at ef
  have fc := zFc_18 (zFc_refl h) E
  have c18 : ∀ x, x < N → ab_gI (zput h 18 E) 18 x = zEm h x := fun x hx => by rw [zput_same, ← hE]; exact if_pos hx
  have c45 : ∀ x, x < N → ab_gI (zput h 18 E) 45 x = nI (zdn h x) := fun x hx => by rw [zput_ne (by omega), k4 x hx]; exact (hd x hx).2
  have c41 : ab_gI (zput h 18 E) 41 7 = nI N := by rw [zput_ne (by omega)]; exact n2
  obtain ⟨hb, m1, m2, m3, m4⟩ := f145 X (d + 27) hN (zFr_refl (zput h 18 E)) (by rw [zput_ne (by omega)]; exact n5) (fun i hi => by rw [zput_ne (by omega)]; exact t1 i hi)
  have b30 : ∀ i, ab_gI hb 30 i = ab_gI h 30 i := fun i => by rw [m2.1 30 i (by omega) (by omega) (by omega), zput_ne (by omega)]
  have b38 : ∀ x, x < N → ab_gI hb 38 x = zEm h x := fun x hx => (m3 x hx).trans (zEm_congr (fun i => zput_ne (by omega) _ _ _) x)
  have b20 : ∀ x, x < N → ab_gI hb 30 (20 + x) = nI (zdn h x) := fun x hx => (b30 _).trans (hd x hx).2
  have b0 := (b30 0).trans n5
  have hz := zInv_Fr (zInv_Fc hI fc) m2
  have e9 : c = 0 ∨ c = 1 ∨ c = 2 := by omega
  have fin0 : ∀ (v : Value) (M : Nat) (w4 w5 w6 w7 : Value), (c = 2 → False) → ab_ex X (d + 30) 174 50 [.ref 29, .int (nI c), .int (nI M), .int (nI 0), w4, w5, w6, w7] [] hb = some (some (.int (nI M)), hb) := by
    intro v M w4 w5 w6 w7 hc2
    rw [l174_50]
    simp (discharger := omega) only [zd30, b0, b174_60, b174_165, zlit, Bool.false_eq_true, zlt_t, zlt_f, zeq_t, zeq_f, nI_add, pk_mul, zb_0, zb_n0, not_true_eq_false, not_false_eq_true, Classical.not_not, if_true, if_false, ite_true, ite_false, and_self, and_true, true_and, and_false, false_and, or_self, or_true, true_or, or_false, false_or, reduceIte]
  rcases e9 with rfl | rfl | rfl
  · have ec : ab_ru X (d + 30) 86 [.ref 0, .int (nI 0)] h = some (some (.int (nI 0)), zput h 18 E) := by
      simp (discharger := omega) only [r86, b86_0, b86_4, b86_11, b86_24, b86_36, b86_44, n2, ef, r87, b87_0, b87_5, zpu_s, zpu_n, Option.bind_some, zlit, Bool.false_eq_true, zlt_t, zlt_f, zeq_t, zeq_f, nI_add, pk_mul, zb_0, zb_n0, not_true_eq_false, not_false_eq_true, Classical.not_not, if_true, if_false, ite_true, ite_false, and_self, and_true, true_and, and_false, false_and, or_self, or_true, true_or, or_false, false_or, reduceIte]
    refine zCp_mk ec ?_ hz
    simp (discharger := omega) only [r174, b174_0, b174_9, b174_14, b174_26, b174_30, b174_46, b174_47, s107i, zJ0, zJ2, zd30, zput_ne, n5, m1, zpu_s, zpu_n, Option.bind_some, zlit, Bool.false_eq_true, zlt_t, zlt_f, zeq_t, zeq_f, nI_add, pk_mul, zb_0, zb_n0, not_true_eq_false, not_false_eq_true, Classical.not_not, if_true, if_false, ite_true, ite_false, and_self, and_true, true_and, and_false, false_and, or_self, or_true, true_or, or_false, false_or, reduceIte]
    exact fin0 .null 0 _ _ _ _ (by omega)
  · have s1 := s87_1 X (d + 27) hN (p := 0) (by omega) (t := 0) (by omega) (h := h) (hc := zput h 18 E) (nI 0) c41 c18 c45 hdn
    have ec : ab_ru X (d + 30) 86 [.ref 0, .int (nI 1)] h = some (some (.int (nI (zlm h 0 0 (nI 0) N))), zput h 18 E) := by
      simp (discharger := omega) only [r86, b86_0, b86_4, b86_11, b86_24, b86_36, b86_44, n2, ef, s1, zpu_s, zpu_n, Option.bind_some, zlit, Bool.false_eq_true, zlt_t, zlt_f, zeq_t, zeq_f, nI_add, pk_mul, zb_0, zb_n0, not_true_eq_false, not_false_eq_true, Classical.not_not, if_true, if_false, ite_true, ite_false, and_self, and_true, true_and, and_false, false_and, or_self, or_true, true_or, or_false, false_or, reduceIte]
    refine zCp_mk ec ?_ hz
    have s2 := s175 X (d + 27) hN (p := 0) (by omega) (t := 0) (by omega) (h := h) (hm := hb) (nI 0) (nI 0) b0 b38 b20 hdn
    rw [zor0] at s2
    simp (discharger := omega) only [r174, b174_0, b174_9, b174_14, b174_26, b174_30, b174_35, b174_43, b174_47, s107i, zJ0, zJ2, zd30, zput_ne, n5, m1, s2, zpu_s, zpu_n, Option.bind_some, zlit, Bool.false_eq_true, zlt_t, zlt_f, zeq_t, zeq_f, nI_add, pk_mul, zb_0, zb_n0, not_true_eq_false, not_false_eq_true, Classical.not_not, if_true, if_false, ite_true, ite_false, and_self, and_true, true_and, and_false, false_and, or_self, or_true, true_or, or_false, false_or, reduceIte]
    exact fin0 .null _ _ _ _ _ (by omega)
  · have s1 := s87_2 X (d + 25) hN (by omega) (h := h) (hc := zput h 18 E) c41 c18 c45 hdn
    have ec : ab_ru X (d + 30) 86 [.ref 0, .int (nI 2)] h = some (some (.int (nI (zmx (zr2 h N) N))), zput h 18 E) := by
      simp (discharger := omega) only [r86, b86_0, b86_4, b86_11, b86_24, b86_36, b86_44, n2, ef, s1, zpu_s, zpu_n, Option.bind_some, zlit, Bool.false_eq_true, zlt_t, zlt_f, zeq_t, zeq_f, nI_add, pk_mul, zb_0, zb_n0, not_true_eq_false, not_false_eq_true, Classical.not_not, if_true, if_false, ite_true, ite_false, and_self, and_true, true_and, and_false, false_and, or_self, or_true, true_or, or_false, false_or, reduceIte]
    refine zCp_mk ec ?_ hz
    have hb2 : ∀ x, x < N → zr2 h N x ≤ 199 := fun x hx => by
      have h1 := zwn_le hdn (p := 0) (t := 0) (S := nI 0) hx
      have h2 := zmi_le (fun st => zlm h x x ((if 0 + zdist 0 x < 12 ∧ ¬ zB (nI 0) (nI x) = true ∧ zB (zEm h x) (nI (0 + zdist 0 x)) = true then nI 0 ||| (nI 1 <<< (nI x &&& nI 31)) else nI 0) ||| (nI 1 <<< (nI st &&& nI 31))) N) N
      unfold zr2
      omega
    have inner : ∀ x, x < N → ∀ (M : Nat) m k w7, k + m = N → ∃ u7, ab_ex X (d + 30) 174 83 [.ref 29, .int (nI 2), .int (nI M), .int (nI x), .int (nI (zwn h 0 0 (nI 0) x)), .int (nI (zmi (fun st => zlm h x x ((nI 1 <<< (nI st &&& nI 31)) ||| (if 0 < zwn h 0 0 (nI 0) x then nI 1 <<< (nI x &&& nI 31) else nI 0)) N) k)), .int (nI k), w7] [] hb = ab_ex X (d + 30) 174 140 [.ref 29, .int (nI 2), .int (nI M), .int (nI x), .int (nI (zwn h 0 0 (nI 0) x)), .int (nI (zmi (fun st => zlm h x x ((nI 1 <<< (nI st &&& nI 31)) ||| (if 0 < zwn h 0 0 (nI 0) x then nI 1 <<< (nI x &&& nI 31) else nI 0)) N) N)), .int (nI N), u7] [] hb := by
      intro x hx M m
      induction m with
      | zero =>
        intro k w7 hk
        have : k = N := by omega
        subst this
        refine ⟨w7, ?_⟩
        rw [l174_83]
        simp (discharger := omega) only [zd30, b0, zlit, Bool.false_eq_true, zlt_t, zlt_f, zeq_t, zeq_f, nI_add, pk_mul, zb_0, zb_n0, not_true_eq_false, not_false_eq_true, Classical.not_not, if_true, if_false, ite_true, ite_false, and_self, and_true, true_and, and_false, false_and, or_self, or_true, true_or, or_false, false_or, reduceIte]
      | succ m ih =>
        intro k w7 hk
        have hwl := zwn_le hdn (p := 0) (t := 0) (S := nI 0) hx
        have s2 := s175 X (d + 27) hN (p := x) (by omega) (t := x) (by omega) (h := h) (hm := hb) (nI 1 <<< (nI k &&& nI 31)) (if 0 < zwn h 0 0 (nI 0) x then nI 1 <<< (nI x &&& nI 31) else nI 0) b0 b38 b20 hdn
        have h1 := zmi_le (fun st => zlm h x x ((nI 1 <<< (nI st &&& nI 31)) ||| (if 0 < zwn h 0 0 (nI 0) x then nI 1 <<< (nI x &&& nI 31) else nI 0)) N) k
        have h2 := zlm_le hdn (p := x) (t := x) (S := (nI 1 <<< (nI k &&& nI 31)) ||| (if 0 < zwn h 0 0 (nI 0) x then nI 1 <<< (nI x &&& nI 31) else nI 0))
        obtain ⟨u7, e⟩ := ih (k + 1) (.int (nI (zlm h x x ((nI 1 <<< (nI k &&& nI 31)) ||| (if 0 < zwn h 0 0 (nI 0) x then nI 1 <<< (nI x &&& nI 31) else nI 0)) N))) (by omega)
        refine ⟨u7, Eq.trans ?_ e⟩
        rw [l174_83]
        generalize zmi (fun st => zlm h x x ((nI 1 <<< (nI st &&& nI 31)) ||| (if 0 < zwn h 0 0 (nI 0) x then nI 1 <<< (nI x &&& nI 31) else nI 0)) N) N = Z
        have hk1 : zmi (fun st => zlm h x x ((nI 1 <<< (nI st &&& nI 31)) ||| (if 0 < zwn h 0 0 (nI 0) x then nI 1 <<< (nI x &&& nI 31) else nI 0)) N) (k + 1) = if zlm h x x ((nI 1 <<< (nI k &&& nI 31)) ||| (if 0 < zwn h 0 0 (nI 0) x then nI 1 <<< (nI x &&& nI 31) else nI 0)) N < zmi (fun st => zlm h x x ((nI 1 <<< (nI st &&& nI 31)) ||| (if 0 < zwn h 0 0 (nI 0) x then nI 1 <<< (nI x &&& nI 31) else nI 0)) N) k then zlm h x x ((nI 1 <<< (nI k &&& nI 31)) ||| (if 0 < zwn h 0 0 (nI 0) x then nI 1 <<< (nI x &&& nI 31) else nI 0)) N else zmi (fun st => zlm h x x ((nI 1 <<< (nI st &&& nI 31)) ||| (if 0 < zwn h 0 0 (nI 0) x then nI 1 <<< (nI x &&& nI 31) else nI 0)) N) k := rfl
        rw [hk1]
        generalize zmi (fun st => zlm h x x ((nI 1 <<< (nI st &&& nI 31)) ||| (if 0 < zwn h 0 0 (nI 0) x then nI 1 <<< (nI x &&& nI 31) else nI 0)) N) k = A at h1 ⊢
        generalize zlm h x x ((nI 1 <<< (nI k &&& nI 31)) ||| (if 0 < zwn h 0 0 (nI 0) x then nI 1 <<< (nI x &&& nI 31) else nI 0)) N = B at h2 s2 ⊢
        by_cases cw : 0 < zwn h 0 0 (nI 0) x
        · rw [if_pos cw] at s2
          by_cases cb : B < A
          · simp (discharger := omega) only [zd30, b0, b174_94, b174_106, b174_113, b174_116, b174_125, b174_132, s2, cw, cb, zpu_s, zpu_n, Option.bind_some, zlit, Bool.false_eq_true, zlt_t, zlt_f, zeq_t, zeq_f, nI_add, pk_mul, zb_0, zb_n0, not_true_eq_false, not_false_eq_true, Classical.not_not, if_true, if_false, ite_true, ite_false, and_self, and_true, true_and, and_false, false_and, or_self, or_true, true_or, or_false, false_or, reduceIte]
          · simp (discharger := omega) only [zd30, b0, b174_94, b174_106, b174_113, b174_116, b174_130, b174_132, s2, cw, cb, zpu_s, zpu_n, Option.bind_some, zlit, Bool.false_eq_true, zlt_t, zlt_f, zeq_t, zeq_f, nI_add, pk_mul, zb_0, zb_n0, not_true_eq_false, not_false_eq_true, Classical.not_not, if_true, if_false, ite_true, ite_false, and_self, and_true, true_and, and_false, false_and, or_self, or_true, true_or, or_false, false_or, reduceIte]
        · rw [if_neg cw] at s2
          by_cases cb : B < A
          · simp (discharger := omega) only [zd30, b0, b174_94, b174_112, b174_113, b174_116, b174_125, b174_132, s2, cb, zpu_s, zpu_n, Option.bind_some, zlit, Bool.false_eq_true, zlt_t, zlt_f, zeq_t, zeq_f, nI_add, pk_mul, zb_0, zb_n0, not_true_eq_false, not_false_eq_true, Classical.not_not, if_true, if_false, ite_true, ite_false, and_self, and_true, true_and, and_false, false_and, or_self, or_true, true_or, or_false, false_or, reduceIte]
          · simp (discharger := omega) only [zd30, b0, b174_94, b174_112, b174_113, b174_116, b174_130, b174_132, s2, cb, zpu_s, zpu_n, Option.bind_some, zlit, Bool.false_eq_true, zlt_t, zlt_f, zeq_t, zeq_f, nI_add, pk_mul, zb_0, zb_n0, not_true_eq_false, not_false_eq_true, Classical.not_not, if_true, if_false, ite_true, ite_false, and_self, and_true, true_and, and_false, false_and, or_self, or_true, true_or, or_false, false_or, reduceIte]
    have outer : ∀ m k w4 w5 w6 w7, k + m = N → ab_ex X (d + 30) 174 50 [.ref 29, .int (nI 2), .int (nI (zmx (zr2 h N) k)), .int (nI k), w4, w5, w6, w7] [] hb = some (some (.int (nI (zmx (zr2 h N) N))), hb) := by
      intro m
      induction m with
      | zero =>
        intro k w4 w5 w6 w7 hk
        have : k = N := by omega
        subst this
        rw [l174_50]
        simp (discharger := omega) only [zd30, b0, b174_165, zlit, Bool.false_eq_true, zlt_t, zlt_f, zeq_t, zeq_f, nI_add, pk_mul, zb_0, zb_n0, not_true_eq_false, not_false_eq_true, Classical.not_not, if_true, if_false, ite_true, ite_false, and_self, and_true, true_and, and_false, false_and, or_self, or_true, true_or, or_false, false_or, reduceIte]
      | succ m ih =>
        intro k w4 w5 w6 w7 hk
        have hx : k < N := by omega
        have hM : zmx (zr2 h N) k ≤ 199 := zmx_le (fun i hi => hb2 i (by omega))
        have hwl := zwn_le hdn (p := 0) (t := 0) (S := nI 0) hx
        have hr := hb2 k hx
        have s2 := s176 X (d + 28) hN (p := 0) (by omega) (t := 0) (by omega) hx (h := h) (hm := hb) (nI 0) (nI 0) (b38 k hx) (b20 k hx)
        rw [zor0] at s2
        obtain ⟨u7, e⟩ := inner k hx (zmx (zr2 h N) k) N 0 w7 (by omega)
        have hrr : zwn h 0 0 (nI 0) k + zmi (fun st => zlm h k k ((nI 1 <<< (nI st &&& nI 31)) ||| (if 0 < zwn h 0 0 (nI 0) k then nI 1 <<< (nI k &&& nI 31) else nI 0)) N) N = zr2 h N k := by
          unfold zr2
          rw [zmi_congr (fun st hst => zr_same hN hx hst)]
        generalize zmi (fun st => zlm h k k ((nI 1 <<< (nI st &&& nI 31)) ||| (if 0 < zwn h 0 0 (nI 0) k then nI 1 <<< (nI k &&& nI 31) else nI 0)) N) N = Z at e hrr
        rw [l174_50]
        simp (discharger := omega) only [zd30, b0, b174_60, b174_65, b174_74, s2, zpu_s, zpu_n, Option.bind_some, zlit, Bool.false_eq_true, zlt_t, zlt_f, zeq_t, zeq_f, nI_add, pk_mul, zb_0, zb_n0, not_true_eq_false, not_false_eq_true, Classical.not_not, if_true, if_false, ite_true, ite_false, and_self, and_true, true_and, and_false, false_and, or_self, or_true, true_or, or_false, false_or, reduceIte]
        refine Eq.trans (Eq.trans (show _ = _ from rfl) e) ?_
        have hk1 : zmx (zr2 h N) (k + 1) = if zmx (zr2 h N) k < zr2 h N k then zr2 h N k else zmx (zr2 h N) k := rfl
        have ih' := fun w4 w5 w6 w7 => ih (k + 1) w4 w5 w6 w7 (by omega)
        rw [hk1] at ih'
        by_cases cb : zmx (zr2 h N) k < zr2 h N k
        · rw [if_pos cb] at ih'
          simp (discharger := omega) only [b174_140, b174_149, b174_158, hrr, zpu_s, zpu_n, Option.bind_some, zlit, Bool.false_eq_true, zlt_t, zlt_f, zeq_t, zeq_f, nI_add, pk_mul, zb_0, zb_n0, not_true_eq_false, not_false_eq_true, Classical.not_not, if_true, if_false, ite_true, ite_false, and_self, and_true, true_and, and_false, false_and, or_self, or_true, true_or, or_false, false_or, reduceIte]
          exact ih' _ _ _ _
        · rw [if_neg cb] at ih'
          simp (discharger := omega) only [b174_140, b174_157, b174_158, hrr, zpu_s, zpu_n, Option.bind_some, zlit, Bool.false_eq_true, zlt_t, zlt_f, zeq_t, zeq_f, nI_add, pk_mul, zb_0, zb_n0, not_true_eq_false, not_false_eq_true, Classical.not_not, if_true, if_false, ite_true, ite_false, and_self, and_true, true_and, and_false, false_and, or_self, or_true, true_or, or_false, false_or, reduceIte]
          exact ih' _ _ _ _
    simp (discharger := omega) only [r174, b174_0, b174_9, b174_14, b174_26, b174_30, b174_46, b174_47, s107i, zJ0, zJ2, zd30, zput_ne, n5, m1, zpu_s, zpu_n, Option.bind_some, zlit, Bool.false_eq_true, zlt_t, zlt_f, zeq_t, zeq_f, nI_add, pk_mul, zb_0, zb_n0, not_true_eq_false, not_false_eq_true, Classical.not_not, if_true, if_false, ite_true, ite_false, and_self, and_true, true_and, and_false, false_and, or_self, or_true, true_or, or_false, false_or, reduceIte]
    exact outer N 0 _ _ _ _ (by omega)
