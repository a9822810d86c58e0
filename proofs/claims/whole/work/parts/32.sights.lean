/-! what was seen: kinds, outs -/
def zpr (f : Nat → Int32) : Nat → Nat → Bool
  | 0, _ => true
  | m + 1, k => (decide (¬ f k < nI 0 ∧ f k < nI 12) && decide (¬ f (k + 1) < nI 0 ∧ f (k + 1) < nI 2)) && zpr f m (k + 2)
theorem zpr_congr {f g : Nat → Int32} : ∀ (m k : Nat), (∀ j, k ≤ j → j < k + 2 * m → f j = g j) → zpr f m k = zpr g m k
  | 0, _, _ => rfl
  | m + 1, k, e => by
    unfold zpr
    rw [e k (by omega) (by omega), e (k + 1) (by omega) (by omega), zpr_congr m (k + 2) (fun j h1 h2 => e j (by omega) (by omega))]
abbrev zfX (h : ab_H) (f : Nat) : ab_H := ab_sI (ab_sI h 0 12 (nI f)) 16 f (ab_gI h 16 f + nI 1)
abbrev zfM (h : ab_H) (f : Nat) : ab_H := ab_sI (ab_sI h 29 8 (nI f)) 37 f (ab_gI h 37 f + nI 1)
theorem s80l (X : ab_X) (d : Nat) {r n : Nat} (hr : r < 6) (hn : n ≤ 40) (h : ab_H) : ∀ (m k : Nat) (v4 : Value), k + 2 * m = n → ab_ex X (d + 1) 80 40 [.ref 0, .int (nI r), .int (nI n), .int (nI k), v4] [] h = if zpr (fun j => ab_gI h (2 + r) j) m k = true then some (some (.int (nI 0)), h) else some (some (.int (-nI 3)), zfX h 3) := by
  intro m
  induction m with
  | zero =>
    intro k v4 hk
    rw [l80_40]
    simp (discharger := omega) only [b80_96, zpr, zlit, Bool.false_eq_true, zlt_t, zlt_f, zeq_t, zeq_f, nI_add, pk_mul, zb_0, zb_n0, not_true_eq_false, not_false_eq_true, Classical.not_not, if_true, if_false, ite_true, ite_false, and_self, and_true, true_and, and_false, false_and, or_self, or_true, true_or, or_false, false_or, reduceIte]
  | succ m ih =>
    intro k v4 hk
    rw [l80_40]
    simp (discharger := omega) only [b80_47, b80_70, s41, zL_rows, zR_ld, zpu_s, zpu_n, Option.bind_some, zlit, Bool.false_eq_true, zlt_t, zlt_f, zeq_t, zeq_f, nI_add, pk_mul, zb_0, zb_n0, not_true_eq_false, not_false_eq_true, Classical.not_not, if_true, if_false, ite_true, ite_false, and_self, and_true, true_and, and_false, false_and, or_self, or_true, true_or, or_false, false_or, reduceIte]
    unfold zpr
    by_cases h1 : ¬ ab_gI h (2 + r) k < nI 0 ∧ ab_gI h (2 + r) k < nI 12
    · simp (discharger := omega) only [h1, b80_73, zlit, Bool.false_eq_true, zlt_t, zlt_f, zeq_t, zeq_f, nI_add, pk_mul, zb_0, zb_n0, not_true_eq_false, not_false_eq_true, Classical.not_not, if_true, if_false, ite_true, ite_false, and_self, and_true, true_and, and_false, false_and, or_self, or_true, true_or, or_false, false_or, reduceIte]
      by_cases h2 : ab_gI h (2 + r) (k + 1) < nI 0
      · simp (discharger := omega) only [h2, b80_84, b80_89, s8, zpu_s, zpu_n, Option.bind_some, zlit, Bool.false_eq_true, zlt_t, zlt_f, zeq_t, zeq_f, nI_add, pk_mul, zb_0, zb_n0, not_true_eq_false, not_false_eq_true, Classical.not_not, if_true, if_false, ite_true, ite_false, and_self, and_true, true_and, and_false, false_and, or_self, or_true, true_or, or_false, false_or, reduceIte, decide_false, Bool.and_false, Bool.false_and, Bool.false_eq_true]
      · simp (discharger := omega) only [h2, b80_78, zlit, Bool.false_eq_true, zlt_t, zlt_f, zeq_t, zeq_f, nI_add, pk_mul, zb_0, zb_n0, not_true_eq_false, not_false_eq_true, Classical.not_not, if_true, if_false, ite_true, ite_false, and_self, and_true, true_and, and_false, false_and, or_self, or_true, true_or, or_false, false_or, reduceIte, znlt (n := 1) (by omega), Nat.reduceAdd]
        by_cases h3 : ab_gI h (2 + r) (k + 1) < nI 2
        · simp (discharger := omega) only [h3, b80_90, zlit, Bool.false_eq_true, zlt_t, zlt_f, zeq_t, zeq_f, nI_add, pk_mul, zb_0, zb_n0, not_true_eq_false, not_false_eq_true, Classical.not_not, if_true, if_false, ite_true, ite_false, and_self, and_true, true_and, and_false, false_and, or_self, or_true, true_or, or_false, false_or, reduceIte, decide_true, Bool.true_and]
          exact ih (k + 2) _ (by omega)
        · simp (discharger := omega) only [h3, b80_84, b80_89, s8, zpu_s, zpu_n, Option.bind_some, zlit, Bool.false_eq_true, zlt_t, zlt_f, zeq_t, zeq_f, nI_add, pk_mul, zb_0, zb_n0, not_true_eq_false, not_false_eq_true, Classical.not_not, if_true, if_false, ite_true, ite_false, and_self, and_true, true_and, and_false, false_and, or_self, or_true, true_or, or_false, false_or, reduceIte, decide_false, Bool.and_false, Bool.false_and, Bool.false_eq_true]
    · simp (discharger := omega) only [h1, b80_84, b80_89, s8, zpu_s, zpu_n, Option.bind_some, zlit, Bool.false_eq_true, zlt_t, zlt_f, zeq_t, zeq_f, nI_add, pk_mul, zb_0, zb_n0, not_true_eq_false, not_false_eq_true, Classical.not_not, if_true, if_false, ite_true, ite_false, and_self, and_true, true_and, and_false, false_and, or_self, or_true, true_or, or_false, false_or, reduceIte, decide_false, Bool.and_false, Bool.false_and, Bool.false_eq_true]
theorem zJ2 : (2 : Int64) = (nI 2).toInt64 := rfl
theorem s169l (X : ab_X) (d : Nat) {r n : Nat} (hr : r < 6) (hn : n ≤ 40) {h : ab_H} (hs : ab_gI h 33 r = nI n) : ∀ (m k : Nat), k + 2 * m = n → ab_ex X (d + 2) 169 34 [.ref 29, .int (nI r), .int (nI k)] [] h = if zpr (fun j => ab_gI h 32 (40 * r + j)) m k = true then some (some (.int (nI 0)), h) else some (some (.int (-nI 3)), zfM h 3) := by
  intro m
  induction m with
  | zero =>
    intro k hk
    rw [l169_34]
    simp (discharger := omega) only [zd33, hs, b169_95, zpr, zlit, Bool.false_eq_true, zlt_t, zlt_f, zeq_t, zeq_f, nI_add, pk_mul, zb_0, zb_n0, not_true_eq_false, not_false_eq_true, Classical.not_not, if_true, if_false, ite_true, ite_false, and_self, and_true, true_and, and_false, false_and, or_self, or_true, true_or, or_false, false_or, reduceIte]
  | succ m ih =>
    intro k hk
    rw [l169_34]
    simp (discharger := omega) only [zd33, hs, zd32, b169_44, b169_58, s141, zpu_s, zpu_n, Option.bind_some, zlit, Bool.false_eq_true, zlt_t, zlt_f, zeq_t, zeq_f, nI_add, pk_mul, zb_0, zb_n0, not_true_eq_false, not_false_eq_true, Classical.not_not, if_true, if_false, ite_true, ite_false, and_self, and_true, true_and, and_false, false_and, or_self, or_true, true_or, or_false, false_or, reduceIte]
    unfold zpr
    by_cases h1 : ¬ ab_gI h 32 (40 * r + k) < nI 0 ∧ ab_gI h 32 (40 * r + k) < nI 12
    · simp (discharger := omega) only [h1, b169_61, b169_80, zJ0, zJ1, s107i, zd32, zpu_s, zpu_n, Option.bind_some, zlit, Bool.false_eq_true, zlt_t, zlt_f, zeq_t, zeq_f, nI_add, pk_mul, zb_0, zb_n0, not_true_eq_false, not_false_eq_true, Classical.not_not, if_true, if_false, ite_true, ite_false, and_self, and_true, true_and, and_false, false_and, or_self, or_true, true_or, or_false, false_or, reduceIte, znlt (n := 1) (by omega), Nat.reduceAdd, Nat.add_assoc]
      by_cases h2 : ¬ ab_gI h 32 (40 * r + (k + 1)) < nI 0 ∧ ab_gI h 32 (40 * r + (k + 1)) < nI 2
      · simp (discharger := omega) only [h2, b169_89, zlit, Bool.false_eq_true, zlt_t, zlt_f, zeq_t, zeq_f, nI_add, pk_mul, zb_0, zb_n0, not_true_eq_false, not_false_eq_true, Classical.not_not, if_true, if_false, ite_true, ite_false, and_self, and_true, true_and, and_false, false_and, or_self, or_true, true_or, or_false, false_or, reduceIte, decide_true, Bool.true_and]
        exact ih (k + 2) (by omega)
      · simp (discharger := omega) only [h2, b169_83, b169_88, s108, zpu_s, zpu_n, Option.bind_some, zlit, Bool.false_eq_true, zlt_t, zlt_f, zeq_t, zeq_f, nI_add, pk_mul, zb_0, zb_n0, not_true_eq_false, not_false_eq_true, Classical.not_not, if_true, if_false, ite_true, ite_false, and_self, and_true, true_and, and_false, false_and, or_self, or_true, true_or, or_false, false_or, reduceIte, decide_false, Bool.and_false, Bool.false_and, Bool.false_eq_true]
    · simp (discharger := omega) only [h1, b169_83, b169_88, s108, zpu_s, zpu_n, Option.bind_some, zlit, Bool.false_eq_true, zlt_t, zlt_f, zeq_t, zeq_f, nI_add, pk_mul, zb_0, zb_n0, not_true_eq_false, not_false_eq_true, Classical.not_not, if_true, if_false, ite_true, ite_false, and_self, and_true, true_and, and_false, false_and, or_self, or_true, true_or, or_false, false_or, reduceIte, decide_false, Bool.and_false, Bool.false_and, Bool.false_eq_true]
def zag (f : Nat → Int32) (e : Int32) : Nat → Nat → Bool
  | 0, _ => true
  | m + 1, k => (zB e (f k) == decide (f (k + 1) = nI 1)) && zag f e m (k + 2)
theorem zag_congr {f g : Nat → Int32} {e : Int32} : ∀ (m k : Nat), (∀ j, k ≤ j → j < k + 2 * m → f j = g j) → zag f e m k = zag g e m k
  | 0, _, _ => rfl
  | m + 1, k, q => by
    unfold zag
    rw [q k (by omega) (by omega), q (k + 1) (by omega) (by omega), zag_congr m (k + 2) (fun j h1 h2 => q j (by omega) (by omega))]
theorem s81 (X : ab_X) (d : Nat) {r m : Nat} (hr : r < 6) (hn : 2 * m ≤ 40) (e : Int32) {h : ab_H} (hs : ab_gI h 8 r = nI (2 * m)) : ab_ru X (d + 1) 81 [.ref 0, .int (nI r), .int e] h = some (some (.int (zb (zag (fun j => ab_gI h (2 + r) j) e m 0 = true))), h) := by
  have key : ∀ (q k : Nat), k + 2 * q = 2 * m → ab_ex X (d + 1) 81 2 [.ref 0, .int (nI r), .int e, .int (nI k)] [] h = some (some (.int (zb (zag (fun j => ab_gI h (2 + r) j) e q k = true))), h) := by
    intro q
    induction q with
    | zero =>
      intro k hk
      rw [l81_2]
      simp (discharger := omega) only [zd8, hs, b81_56, zag, zlit, Bool.false_eq_true, zlt_t, zlt_f, zeq_t, zeq_f, nI_add, pk_mul, zb_0, zb_n0, not_true_eq_false, not_false_eq_true, Classical.not_not, if_true, if_false, ite_true, ite_false, and_self, and_true, true_and, and_false, false_and, or_self, or_true, true_or, or_false, false_or, reduceIte]
      rfl
    | succ q ih =>
      intro k hk
      rw [l81_2]
      simp (discharger := omega) only [zd8, hs, b81_14, b81_26, s39, zL_rows, zR_ld, zpu_s, zpu_n, Option.bind_some, zlit, Bool.false_eq_true, zlt_t, zlt_f, zeq_t, zeq_f, nI_add, pk_mul, zb_0, zb_n0, not_true_eq_false, not_false_eq_true, Classical.not_not, if_true, if_false, ite_true, ite_false, and_self, and_true, true_and, and_false, false_and, or_self, or_true, true_or, or_false, false_or, reduceIte]
      unfold zag
      by_cases h1 : ab_gI h (2 + r) (k + 1) = nI 1
      · simp (discharger := omega) only [h1, b81_40, b81_45, zlit, Bool.false_eq_true, zlt_t, zlt_f, zeq_t, zeq_f, nI_add, pk_mul, zb_0, zb_n0, not_true_eq_false, not_false_eq_true, Classical.not_not, if_true, if_false, ite_true, ite_false, and_self, and_true, true_and, and_false, false_and, or_self, or_true, true_or, or_false, false_or, reduceIte, decide_true]
        by_cases h2 : zB e (ab_gI h (2 + r) k) = true
        · simp (discharger := omega) only [h2, b81_50, zlit, Bool.false_eq_true, zlt_t, zlt_f, zeq_t, zeq_f, nI_add, pk_mul, zb_0, zb_n0, not_true_eq_false, not_false_eq_true, Classical.not_not, if_true, if_false, ite_true, ite_false, and_self, and_true, true_and, and_false, false_and, or_self, or_true, true_or, or_false, false_or, reduceIte, zb_t, beq_self_eq_true, Bool.true_and]
          exact ih (k + 2) (by omega)
        · rw [zb_f h2]
          simp only [Bool.not_eq_true] at h2
          simp (discharger := omega) only [h2, b81_48, zlit, Bool.false_eq_true, zlt_t, zlt_f, zeq_t, zeq_f, nI_add, pk_mul, zb_0, zb_n0, not_true_eq_false, not_false_eq_true, Classical.not_not, if_true, if_false, ite_true, ite_false, and_self, and_true, true_and, and_false, false_and, or_self, or_true, true_or, or_false, false_or, reduceIte]
          rfl
      · simp (discharger := omega) only [h1, b81_44, b81_45, zlit, Bool.false_eq_true, zlt_t, zlt_f, zeq_t, zeq_f, nI_add, pk_mul, zb_0, zb_n0, not_true_eq_false, not_false_eq_true, Classical.not_not, if_true, if_false, ite_true, ite_false, and_self, and_true, true_and, and_false, false_and, or_self, or_true, true_or, or_false, false_or, reduceIte, decide_false]
        by_cases h2 : zB e (ab_gI h (2 + r) k) = true
        · simp (discharger := omega) only [h2, b81_48, zlit, Bool.false_eq_true, zlt_t, zlt_f, zeq_t, zeq_f, nI_add, pk_mul, zb_0, zb_n0, not_true_eq_false, not_false_eq_true, Classical.not_not, if_true, if_false, ite_true, ite_false, and_self, and_true, true_and, and_false, false_and, or_self, or_true, true_or, or_false, false_or, reduceIte]
          rfl
        · simp only [Bool.not_eq_true] at h2
          simp (discharger := omega) only [h2, b81_50, zlit, Bool.false_eq_true, zlt_t, zlt_f, zeq_t, zeq_f, nI_add, pk_mul, zb_0, zb_n0, not_true_eq_false, not_false_eq_true, Classical.not_not, if_true, if_false, ite_true, ite_false, and_self, and_true, true_and, and_false, false_and, or_self, or_true, true_or, or_false, false_or, reduceIte, beq_self_eq_true, Bool.true_and]
          exact ih (k + 2) (by omega)
  simp (discharger := omega) only [r81, b81_0, zlit]
  exact key m 0 (by omega)
theorem s170 (X : ab_X) (d : Nat) {r m : Nat} (hr : r < 6) (hn : 2 * m ≤ 40) (e : Int32) {h : ab_H} (hs : ab_gI h 33 r = nI (2 * m)) (hv : zpr (fun j => ab_gI h 32 (40 * r + j)) m 0 = true) : ab_ru X d 170 [.ref 29, .int (nI r), .int e] h = some (some (.int (zb (zag (fun j => ab_gI h 32 (40 * r + j)) e m 0 = true))), h) := by
  have key : ∀ (q k : Nat) (b : Bool), k + 2 * q = 2 * m → zpr (fun j => ab_gI h 32 (40 * r + j)) q k = true → ab_ex X d 170 5 [.ref 29, .int (nI r), .int e, .int (zb (b = true)), .int (nI k)] [] h = some (some (.int (zb ((b && zag (fun j => ab_gI h 32 (40 * r + j)) e q k) = true))), h) := by
    intro q
    induction q with
    | zero =>
      intro k b hk _
      rw [l170_5]
      simp (discharger := omega) only [zd33, hs, b170_65, zag, zlit, Bool.false_eq_true, zlt_t, zlt_f, zeq_t, zeq_f, nI_add, pk_mul, zb_0, zb_n0, not_true_eq_false, not_false_eq_true, Classical.not_not, if_true, if_false, ite_true, ite_false, and_self, and_true, true_and, and_false, false_and, or_self, or_true, true_or, or_false, false_or, reduceIte, zr0, zr1, zrn0, zrn1, zrb, and_self, and_true, true_and, if_true, if_false, ite_true, ite_false, Bool.and_true]
    | succ q ih =>
      intro k b hk hp
      unfold zpr at hp
      simp only [Bool.and_eq_true, decide_eq_true_eq] at hp
      obtain ⟨⟨p1, p2⟩, p3⟩ := hp
      rw [l170_5]
      simp (discharger := omega) only [zd33, hs, b170_16, zlit, Bool.false_eq_true, zlt_t, zlt_f, zeq_t, zeq_f, nI_add, pk_mul, zb_0, zb_n0, not_true_eq_false, not_false_eq_true, Classical.not_not, if_true, if_false, ite_true, ite_false, and_self, and_true, true_and, and_false, false_and, or_self, or_true, true_or, or_false, false_or, reduceIte]
      unfold zag
      cases b with
      | false =>
        simp (discharger := omega) only [b170_57, b170_58, zlit, Bool.false_eq_true, zlt_t, zlt_f, zeq_t, zeq_f, nI_add, pk_mul, zb_0, zb_n0, not_true_eq_false, not_false_eq_true, Classical.not_not, if_true, if_false, ite_true, ite_false, and_self, and_true, true_and, and_false, false_and, or_self, or_true, true_or, or_false, false_or, reduceIte]
        exact ih (k + 2) false (by omega) p3
      | true =>
        simp (discharger := omega) only [b170_20, zd32, zlit, Bool.false_eq_true, zlt_t, zlt_f, zeq_t, zeq_f, nI_add, pk_mul, zb_0, zb_n0, not_true_eq_false, not_false_eq_true, Classical.not_not, if_true, if_false, ite_true, ite_false, and_self, and_true, true_and, and_false, false_and, or_self, or_true, true_or, or_false, false_or, reduceIte, Nat.add_assoc]
        have e9 : ab_gI h 32 (40 * r + (k + 1)) = nI 0 ∨ ab_gI h 32 (40 * r + (k + 1)) = nI 1 := by
          rcases zix (ab_gI h 32 (40 * r + (k + 1))) (n := 2) (by omega) with z | z | ⟨j, hj, z⟩
          · exact absurd z p2.1
          · exact absurd p2.2 z.2
          · have : j = 0 ∨ j = 1 := by omega
            rcases this with rfl | rfl
            · exact Or.inl z
            · exact Or.inr z
        have e8 := z_and1 (e >>> (ab_gI h 32 (40 * r + k) &&& 31))
        have eB : zB e (ab_gI h 32 (40 * r + k)) = decide (e >>> (ab_gI h 32 (40 * r + k) &&& 31) &&& 1 = 1) := rfl
        have hif : (e >>> (ab_gI h 32 (40 * r + k) &&& nI 31) &&& nI 1 = ab_gI h 32 (40 * r + (k + 1))) ↔ (zB e (ab_gI h 32 (40 * r + k)) == decide (ab_gI h 32 (40 * r + (k + 1)) = nI 1)) = true := by
          rw [show (nI 31) = (31 : Int32) from rfl, show (nI 1) = (1 : Int32) from rfl, eB]
          rcases e8 with e8 | e8 <;> rcases e9 with e9 | e9 <;> rw [e8, e9] <;> decide
        by_cases hc : (zB e (ab_gI h 32 (40 * r + k)) == decide (ab_gI h 32 (40 * r + (k + 1)) = nI 1)) = true
        · have hd := hif.mpr hc
          simp (discharger := omega) only [hd, b170_53, b170_58, zlit, Bool.false_eq_true, zlt_t, zlt_f, zeq_t, zeq_f, nI_add, pk_mul, zb_0, zb_n0, not_true_eq_false, not_false_eq_true, Classical.not_not, if_true, if_false, ite_true, ite_false, and_self, and_true, true_and, and_false, false_and, or_self, or_true, true_or, or_false, false_or, reduceIte, hc, Bool.true_and]
          exact ih (k + 2) true (by omega) p3
        · have hd : ¬ _ := fun q => hc (hif.mp q)
          simp only [Bool.not_eq_true] at hc
          simp (discharger := omega) only [hd, b170_57, b170_58, zlit, Bool.false_eq_true, zlt_t, zlt_f, zeq_t, zeq_f, nI_add, pk_mul, zb_0, zb_n0, not_true_eq_false, not_false_eq_true, Classical.not_not, if_true, if_false, ite_true, ite_false, and_self, and_true, true_and, and_false, false_and, or_self, or_true, true_or, or_false, false_or, reduceIte, hc, Bool.true_and, Bool.false_and]
          exact ih (k + 2) false (by omega) p3
  have := key m 0 true (by omega) hv
  simp (discharger := omega) only [r170, b170_0, zlit]
  exact this
/-- both sides' tests of a row of sights -/
theorem zsights (X : ab_X) (d : Nat) (r : Int32) {h : ab_H} (hI : zInv h) : (¬ (¬ r < nI 0 ∧ r < nI 6) ∧ ab_ru X (d + 20) 80 [.ref 0, .int r] h = some (some (.int (-nI 1)), h)) ∨ (∃ j, j < 6 ∧ r = nI j ∧ ((∃ f, f < 6 ∧ ab_ru X (d + 20) 80 [.ref 0, .int r] h = some (some (.int (-nI 3)), zfX h f) ∧ ab_ru X (d + 20) 169 [.ref 29, .int r] (zfX h f) = some (some (.int (-nI 3)), zfM (zfX h f) f)) ∨ (∃ m, 2 * m ≤ 40 ∧ ab_gI h 8 j = nI (2 * m) ∧ ab_gI h 33 j = nI (2 * m) ∧ (∀ k, k < 40 → ab_gI h (2 + j) k = ab_gI h 32 (40 * j + k)) ∧ zpr (fun k => ab_gI h 32 (40 * j + k)) m 0 = true ∧ ab_ru X (d + 20) 80 [.ref 0, .int r] h = some (some (.int (nI 0)), h) ∧ ab_ru X (d + 20) 169 [.ref 29, .int r] h = some (some (.int (nI 0)), h)))) := by
  obtain ⟨i1, i2, i3, i4, i5, i6, i7⟩ := id hI
  rcases zrow_cases i3 r with hr | ⟨j, hj, rfl, b1, b3, b2 | ⟨n, hn, b2⟩⟩
  · exact Or.inl ⟨hr, by simp (discharger := omega) only [r80, b80_0, b80_4, b80_7, s7, zpu_s, zpu_n, Option.bind_some, zlit, Bool.false_eq_true, zlt_t, zlt_f, zeq_t, zeq_f, nI_add, pk_mul, zb_0, zb_n0, not_true_eq_false, not_false_eq_true, Classical.not_not, if_true, if_false, ite_true, ite_false, and_self, and_true, true_and, and_false, false_and, or_self, or_true, true_or, or_false, false_or, reduceIte, hr]⟩
  · refine Or.inr ⟨j, hj, rfl, Or.inl ⟨1, by omega, ?_, ?_⟩⟩
    · simp (discharger := omega) only [r80, b80_0, b80_4, b80_9, b80_20, b80_25, s7, s8, zpu_s, zpu_n, Option.bind_some, zlit, Bool.false_eq_true, zlt_t, zlt_f, zeq_t, zeq_f, nI_add, pk_mul, zb_0, zb_n0, not_true_eq_false, not_false_eq_true, Classical.not_not, if_true, if_false, ite_true, ite_false, and_self, and_true, true_and, and_false, false_and, or_self, or_true, true_or, or_false, false_or, reduceIte, zd8, b1, b2, zneg1]
    · simp (discharger := omega) only [zfM, zfX, r169, b169_0, b169_9, b169_14, s108, zpu_s, zpu_n, Option.bind_some, zlit, Bool.false_eq_true, zlt_t, zlt_f, zeq_t, zeq_f, nI_add, pk_mul, zb_0, zb_n0, not_true_eq_false, not_false_eq_true, Classical.not_not, if_true, if_false, ite_true, ite_false, and_self, and_true, true_and, and_false, false_and, or_self, or_true, true_or, or_false, false_or, reduceIte, zd33, b2, zneg1, zg_ne, zj_ne, zc_ne, zk_ne, zf_ne]
  · by_cases h2 : n % 2 = 0
    · obtain ⟨m, rfl⟩ : ∃ m, n = 2 * m := ⟨n / 2, by omega⟩
      have e1 := s80l X (d + 19) hj hn h m 0 .null (by omega)
      by_cases hv : zpr (fun k => ab_gI h 32 (40 * j + k)) m 0 = true
      · have hv1 : zpr (fun k => ab_gI h (2 + j) k) m 0 = true := by rw [← hv]; exact zpr_congr m 0 (fun k _ h2 => b3 k (by omega))
        have e2 := s169l X (d + 18) hj hn b2 m 0 (by omega)
        rw [if_pos hv1] at e1
        rw [if_pos hv] at e2
        refine Or.inr ⟨j, hj, rfl, Or.inr ⟨m, hn, by rw [b1]; exact b2, b2, b3, hv, ?_, ?_⟩⟩
        · simp (discharger := omega) only [r80, b80_0, b80_4, b80_9, b80_26, b80_38, s7, zpu_s, zpu_n, Option.bind_some, zlit, Bool.false_eq_true, zlt_t, zlt_f, zeq_t, zeq_f, nI_add, pk_mul, zb_0, zb_n0, not_true_eq_false, not_false_eq_true, Classical.not_not, if_true, if_false, ite_true, ite_false, and_self, and_true, true_and, and_false, false_and, or_self, or_true, true_or, or_false, false_or, reduceIte, zd8, b1, b2, pk_rem, h2]
          exact e1
        · simp (discharger := omega) only [r169, b169_0, b169_15, b169_32, zpu_s, zpu_n, Option.bind_some, zlit, Bool.false_eq_true, zlt_t, zlt_f, zeq_t, zeq_f, nI_add, pk_mul, zb_0, zb_n0, not_true_eq_false, not_false_eq_true, Classical.not_not, if_true, if_false, ite_true, ite_false, and_self, and_true, true_and, and_false, false_and, or_self, or_true, true_or, or_false, false_or, reduceIte, zd33, b2, pk_rem, h2]
          exact e2
      · have hv1 : ¬ zpr (fun k => ab_gI h (2 + j) k) m 0 = true := by rw [zpr_congr m 0 (fun k _ h2 => b3 k (by omega))]; exact hv
        have e2 := s169l X (d + 18) hj hn (h := zfX h 3) (by rw [zg_ne (by omega), zg_ne (by omega)]; exact b2) m 0 (by omega)
        rw [if_neg hv1] at e1
        rw [zpr_congr m 0 (g := fun k => ab_gI h 32 (40 * j + k)) (fun k _ _ => by rw [zg_ne (by omega), zg_ne (by omega)]), if_neg hv] at e2
        refine Or.inr ⟨j, hj, rfl, Or.inl ⟨3, by omega, ?_, ?_⟩⟩
        · simp (discharger := omega) only [r80, b80_0, b80_4, b80_9, b80_26, b80_38, s7, zpu_s, zpu_n, Option.bind_some, zlit, Bool.false_eq_true, zlt_t, zlt_f, zeq_t, zeq_f, nI_add, pk_mul, zb_0, zb_n0, not_true_eq_false, not_false_eq_true, Classical.not_not, if_true, if_false, ite_true, ite_false, and_self, and_true, true_and, and_false, false_and, or_self, or_true, true_or, or_false, false_or, reduceIte, zd8, b1, b2, pk_rem, h2]
          exact e1
        · simp (discharger := omega) only [r169, b169_0, b169_15, b169_32, zpu_s, zpu_n, Option.bind_some, zlit, Bool.false_eq_true, zlt_t, zlt_f, zeq_t, zeq_f, nI_add, pk_mul, zb_0, zb_n0, not_true_eq_false, not_false_eq_true, Classical.not_not, if_true, if_false, ite_true, ite_false, and_self, and_true, true_and, and_false, false_and, or_self, or_true, true_or, or_false, false_or, reduceIte, zd33, b2, pk_rem, h2, zg_ne, zj_ne, zc_ne, zk_ne, zf_ne]
          exact e2
    · refine Or.inr ⟨j, hj, rfl, Or.inl ⟨5, by omega, ?_, ?_⟩⟩
      · simp (discharger := omega) only [r80, b80_0, b80_4, b80_9, b80_26, b80_32, b80_37, s7, s8, zpu_s, zpu_n, Option.bind_some, zlit, Bool.false_eq_true, zlt_t, zlt_f, zeq_t, zeq_f, nI_add, pk_mul, zb_0, zb_n0, not_true_eq_false, not_false_eq_true, Classical.not_not, if_true, if_false, ite_true, ite_false, and_self, and_true, true_and, and_false, false_and, or_self, or_true, true_or, or_false, false_or, reduceIte, zd8, b1, b2, pk_rem, h2]
      · simp (discharger := omega) only [zfM, zfX, r169, b169_0, b169_15, b169_26, b169_31, s108, zpu_s, zpu_n, Option.bind_some, zlit, Bool.false_eq_true, zlt_t, zlt_f, zeq_t, zeq_f, nI_add, pk_mul, zb_0, zb_n0, not_true_eq_false, not_false_eq_true, Classical.not_not, if_true, if_false, ite_true, ite_false, and_self, and_true, true_and, and_false, false_and, or_self, or_true, true_or, or_false, false_or, reduceIte, zd33, b2, pk_rem, h2, zg_ne, zj_ne, zc_ne, zk_ne, zf_ne]
