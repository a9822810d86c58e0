/-! the fewest errands -/
def zan (f : Nat → Bool) : Nat → Nat → Bool
  | 0, _ => false
  | m + 1, k => f k || zan f m (k + 1)
theorem zan_iff {f : Nat → Bool} : ∀ {m k : Nat}, zan f m k = true ↔ ∃ j, k ≤ j ∧ j < k + m ∧ f j = true
  | 0, k => ⟨fun h => (by cases h), fun ⟨j, h1, h2, _⟩ => by omega⟩
  | m + 1, k => by
    unfold zan
    rw [Bool.or_eq_true, zan_iff (m := m) (k := k + 1)]
    constructor
    · rintro (h | ⟨j, h1, h2, h3⟩)
      · exact ⟨k, by omega, by omega, h⟩
      · exact ⟨j, by omega, by omega, h3⟩
    · rintro ⟨j, h1, h2, h3⟩
      by_cases e : j = k
      · subst e; exact Or.inl h3
      · exact Or.inr ⟨j, by omega, by omega, h3⟩
theorem zan_r {f : Nat → Bool} {k m : Nat} : zan f (m + 1) k = (zan f m k || f (k + m)) := by
  rw [Bool.eq_iff_iff, Bool.or_eq_true, zan_iff, zan_iff]
  constructor
  · rintro ⟨j, h1, h2, h3⟩
    by_cases e : j = k + m
    · subst e; exact Or.inr h3
    · exact Or.inl ⟨j, h1, by omega, h3⟩
  · rintro (⟨j, h1, h2, h3⟩ | h)
    · exact ⟨j, h1, by omega, h3⟩
    · exact ⟨k + m, by omega, by omega, h⟩
def zPe (h : ab_H) (i t a b : Nat) : Bool := (!zB (zOu h i) (nI a) && !zB (zOu h i) (nI b)) && zB (zEw h i ((nI 1 <<< (nI a &&& nI 31)) ||| (nI 1 <<< (nI b &&& nI 31)))) (nI t)
theorem zPe_comm (h : ab_H) (i t a b : Nat) : zPe h i t a b = zPe h i t b a := by
  unfold zPe
  rw [Int32.or_comm, Bool.and_comm (!zB (zOu h i) (nI a))]
def zfe (h : ab_H) (i t : Nat) : Nat := if zB (zEm h i) (nI t) = true then 0 else if zan (fun a => zPe h i t a a) 12 0 = true then 1 else if zan (fun a => zan (fun b => zPe h i t a b) a 0) 12 0 = true then 2 else 3
theorem zPe_out {h : ab_H} {i t a : Nat} (ho : zB (zOu h i) (nI a) = true) (b : Nat) : zPe h i t a b = false := by
  unfold zPe
  rw [ho]
  rfl
theorem zan_f {f : Nat → Bool} (hf : ∀ j, f j = false) (m k : Nat) : zan f m k = false := by
  cases e : zan f m k
  · rfl
  · obtain ⟨j, -, -, h3⟩ := zan_iff.mp e
    rw [hf j] at h3
    cases h3
theorem zan_sym (h : ab_H) (i t : Nat) : zan (fun a => zan (fun b => zPe h i t a b) (11 - a) (a + 1)) 12 0 = zan (fun a => zan (fun b => zPe h i t a b) a 0) 12 0 := by
  rw [Bool.eq_iff_iff, zan_iff, zan_iff]
  constructor
  · rintro ⟨a, -, h2, h3⟩
    obtain ⟨b, g1, g2, g3⟩ := zan_iff.mp h3
    exact ⟨b, by omega, by omega, zan_iff.mpr ⟨a, by omega, by omega, by rw [zPe_comm]; exact g3⟩⟩
  · rintro ⟨a, -, h2, h3⟩
    obtain ⟨b, g1, g2, g3⟩ := zan_iff.mp h3
    exact ⟨b, by omega, by omega, zan_iff.mpr ⟨a, by omega, by omega, by rw [zPe_comm]; exact g3⟩⟩
theorem zor_self (x : Int32) : x ||| x = x := Int32.or_self
theorem s78 (X : ab_X) (d : Nat) {i t N : Nat} (hN : N ≤ 6) (hi : i < N) (ht : t < 12) {h : ab_H} (e1 : ab_gI h 42 i = ab_gI h 30 (2 + i)) (e2 : ab_gI h 43 i = ab_gI h 30 (8 + i)) (e3 : ab_gI h 47 i = ab_gI h 30 (14 + i)) (t1 : ∃ k, k < 6 ∧ ab_gI h 30 (2 + i) = nI k) : ab_ru X (d + 2) 78 [.ref 41, .int (nI i), .int (nI t)] h = some (some (.int (if zfe h i t = 3 then -nI 9 else nI (zfe h i t))), h) := by
  have s68' := fun dd y => s68 X dd hN hi y (h := h) (h0 := h) e1 e2 e3 t1
  have inner : ∀ a, zB (zOu h i) (nI a) = false → ∀ m b F, b + m = 12 → ab_ex X (d + 2) 78 70 [.ref 41, .int (nI i), .int (nI t), .int (zOu h i), .int F, .int (nI a), .int (nI b)] [] h = ab_ex X (d + 2) 78 116 [.ref 41, .int (nI i), .int (nI t), .int (zOu h i), .int (if zan (fun b => zPe h i t a b) m b = true then nI 2 else F), .int (nI a), .int (nI 12)] [] h := by
    intro a ha m
    induction m with
    | zero =>
      intro b F hb
      have : b = 12 := by omega
      subst this
      rw [l78_70]
      simp (discharger := omega) only [zlit, Bool.false_eq_true, zlt_t, zlt_f, zeq_t, zeq_f, nI_add, pk_mul, zb_0, zb_n0, not_true_eq_false, not_false_eq_true, Classical.not_not, if_true, if_false, ite_true, ite_false, and_self, and_true, true_and, and_false, false_and, or_self, or_true, true_or, or_false, false_or, reduceIte, zan]
    | succ m ih =>
      intro b F hb
      rw [l78_70]
      unfold zan
      by_cases c1 : zB (zOu h i) (nI b) = true
      · have hp : zPe h i t a b = false := by rw [zPe_comm]; exact zPe_out c1 a
        rw [hp, Bool.false_or]
        simp (discharger := omega) only [b78_77, b78_83, b78_110, s39, c1, zpu_s, zpu_n, Option.bind_some, zlit, Bool.false_eq_true, zlt_t, zlt_f, zeq_t, zeq_f, nI_add, pk_mul, zb_0, zb_n0, not_true_eq_false, not_false_eq_true, Classical.not_not, if_true, if_false, ite_true, ite_false, and_self, and_true, true_and, and_false, false_and, or_self, or_true, true_or, or_false, false_or, reduceIte]
        exact ih (b + 1) F (by omega)
      · by_cases c2 : zB (zEw h i ((nI 1 <<< (nI a &&& nI 31)) ||| (nI 1 <<< (nI b &&& nI 31)))) (nI t) = true
        · have hp : zPe h i t a b = true := by unfold zPe; rw [ha, Bool.eq_false_iff.mpr c1, c2]; rfl
          rw [hp, Bool.true_or, if_pos rfl]
          simp (discharger := omega) only [b78_77, b78_83, b78_86, b78_100, b78_104, b78_107, b78_110, s39, c1, c2, s68', zP_ob, zpu_s, zpu_n, Option.bind_some, zlit, Bool.false_eq_true, zlt_t, zlt_f, zeq_t, zeq_f, nI_add, pk_mul, zb_0, zb_n0, not_true_eq_false, not_false_eq_true, Classical.not_not, if_true, if_false, ite_true, ite_false, and_self, and_true, true_and, and_false, false_and, or_self, or_true, true_or, or_false, false_or, reduceIte]
          rw [ih (b + 1) (nI 2) (by omega)]
          split <;> rfl
        · have hp : zPe h i t a b = false := by unfold zPe; rw [Bool.eq_false_iff.mpr c2, Bool.and_false]
          rw [hp, Bool.false_or]
          simp (discharger := omega) only [b78_77, b78_83, b78_86, b78_100, b78_104, b78_110, s39, c1, c2, s68', zP_ob, zpu_s, zpu_n, Option.bind_some, zlit, Bool.false_eq_true, zlt_t, zlt_f, zeq_t, zeq_f, nI_add, pk_mul, zb_0, zb_n0, not_true_eq_false, not_false_eq_true, Classical.not_not, if_true, if_false, ite_true, ite_false, and_self, and_true, true_and, and_false, false_and, or_self, or_true, true_or, or_false, false_or, reduceIte]
          exact ih (b + 1) F (by omega)
  have outer : ∀ m a F v6, a + m = 12 → ab_ex X (d + 2) 78 27 [.ref 41, .int (nI i), .int (nI t), .int (zOu h i), .int F, .int (nI a), v6] [] h = some (some (.int (if zan (fun a => zPe h i t a a) m a = true then nI 1 else if zan (fun a => zan (fun b => zPe h i t a b) (11 - a) (a + 1)) m a = true then nI 2 else F)), h) := by
    intro m
    induction m with
    | zero =>
      intro a F v6 ha
      have : a = 12 := by omega
      subst this
      rw [l78_27]
      simp (discharger := omega) only [b78_122, zan, zlit, Bool.false_eq_true, zlt_t, zlt_f, zeq_t, zeq_f, nI_add, pk_mul, zb_0, zb_n0, not_true_eq_false, not_false_eq_true, Classical.not_not, if_true, if_false, ite_true, ite_false, and_self, and_true, true_and, and_false, false_and, or_self, or_true, true_or, or_false, false_or, reduceIte]
    | succ m ih =>
      intro a F v6 ha
      rw [l78_27]
      unfold zan
      by_cases c1 : zB (zOu h i) (nI a) = true
      · rw [zPe_out c1 a, Bool.false_or, zan_f (fun b => zPe_out c1 b) (11 - a) (a + 1), Bool.false_or]
        simp (discharger := omega) only [b78_34, b78_40, b78_43, b78_116, s39, c1, zpu_s, zpu_n, Option.bind_some, zlit, Bool.false_eq_true, zlt_t, zlt_f, zeq_t, zeq_f, nI_add, pk_mul, zb_0, zb_n0, not_true_eq_false, not_false_eq_true, Classical.not_not, if_true, if_false, ite_true, ite_false, and_self, and_true, true_and, and_false, false_and, or_self, or_true, true_or, or_false, false_or, reduceIte]
        exact ih (a + 1) F v6 (by omega)
      · by_cases c2 : zB (zEw h i (nI 1 <<< (nI a &&& nI 31))) (nI t) = true
        · have hp : zPe h i t a a = true := by unfold zPe; rw [zor_self, Bool.eq_false_iff.mpr c1, c2]; rfl
          rw [hp, Bool.true_or, if_pos rfl]
          simp (discharger := omega) only [b78_34, b78_40, b78_46, b78_55, b78_59, b78_62, s39, c1, c2, s68', zP_ob, zpu_s, zpu_n, Option.bind_some, zlit, Bool.false_eq_true, zlt_t, zlt_f, zeq_t, zeq_f, nI_add, pk_mul, zb_0, zb_n0, not_true_eq_false, not_false_eq_true, Classical.not_not, if_true, if_false, ite_true, ite_false, and_self, and_true, true_and, and_false, false_and, or_self, or_true, true_or, or_false, false_or, reduceIte]
        · have hp : zPe h i t a a = false := by unfold zPe; rw [zor_self, Bool.eq_false_iff.mpr c2, Bool.and_false]
          rw [hp, Bool.false_or]
          simp (discharger := omega) only [b78_34, b78_40, b78_46, b78_55, b78_59, b78_64, s39, c1, c2, s68', zP_ob, zpu_s, zpu_n, Option.bind_some, zlit, Bool.false_eq_true, zlt_t, zlt_f, zeq_t, zeq_f, nI_add, pk_mul, zb_0, zb_n0, not_true_eq_false, not_false_eq_true, Classical.not_not, if_true, if_false, ite_true, ite_false, and_self, and_true, true_and, and_false, false_and, or_self, or_true, true_or, or_false, false_or, reduceIte]
          rw [inner a (Bool.eq_false_iff.mpr c1) (11 - a) (a + 1) F (by omega), b78_116, nI_1, ih (a + 1) _ _ (by omega)]
          cases zan (fun b => zPe h i t a b) (11 - a) (a + 1)
          · rfl
          · rw [Bool.true_or]
            simp only [if_true]
            split
            · rfl
            · split <;> rfl
  unfold zfe
  by_cases c0 : zB (zEm h i) (nI t) = true
  · rw [if_pos c0]
    simp (discharger := omega) only [r78, b78_0, b78_5, b78_9, b78_12, s32n X _ hN hi e1 e2 e3 t1, s39, c0, zP_ob, zpu_s, zpu_n, Option.bind_some, zlit, Bool.false_eq_true, zlt_t, zlt_f, zeq_t, zeq_f, nI_add, pk_mul, zb_0, zb_n0, not_true_eq_false, not_false_eq_true, Classical.not_not, if_true, if_false, ite_true, ite_false, and_self, and_true, true_and, and_false, false_and, or_self, or_true, true_or, or_false, false_or, reduceIte]
    rfl
  · rw [if_neg c0]
    simp (discharger := omega) only [r78, b78_0, b78_5, b78_9, b78_14, b78_19, s32n X _ hN hi e1 e2 e3 t1, s31n X _ hN hi e2 e3, s39, c0, zP_ob, zpu_s, zpu_n, Option.bind_some, zlit, Bool.false_eq_true, zlt_t, zlt_f, zeq_t, zeq_f, nI_add, pk_mul, zb_0, zb_n0, not_true_eq_false, not_false_eq_true, Classical.not_not, if_true, if_false, ite_true, ite_false, and_self, and_true, true_and, and_false, false_and, or_self, or_true, true_or, or_false, false_or, reduceIte]
    rw [outer 12 0 _ _ (by omega), zan_sym]
    cases zan (fun a => zPe h i t a a) 12 0
    · cases zan (fun a => zan (fun b => zPe h i t a b) a 0) 12 0
      · rfl
      · rfl
    · rfl
/-- the reference's -/
theorem zEw_ref {h : ab_H} {i kk : Nat} (ekk : ab_gI h 30 (2 + i) = nI kk) (y z : Int32) : zE (nI kk) (zOu h i ||| (ab_gI h 30 (14 + i) ||| y ||| z)) (ab_gI h 30 (14 + i) ||| y ||| z) = zEw h i (y ||| z) := by
  unfold zEw zOu
  rw [ekk, Int32.or_assoc (ab_gI h 30 (14 + i)) y z, Int32.or_assoc (ab_gI h 30 (8 + i)), ← Int32.or_assoc (ab_gI h 30 (14 + i)) (ab_gI h 30 (14 + i)), zor_self, ← Int32.or_assoc]
theorem s167 (X : ab_X) (d : Nat) {i t N : Nat} (hN : N ≤ 6) (hi : i < N) (ht : t < 12) {h : ab_H} (t1 : ∃ k, k < 6 ∧ ab_gI h 30 (2 + i) = nI k) : ab_ru X (d + 2) 167 [.ref 29, .int (nI i), .int (nI t)] h = some (some (.int (nI (zfe h i t))), h) := by
  obtain ⟨kk, hkk, ekk⟩ := id t1
  have ew := fun y z => zEw_ref (h := h) (i := i) ekk y z
  have inner : ∀ a, a < 12 → ∀ m b F v7 v8 v9 v10, F ≤ 3 → b + m = a + 1 → ∃ w7 w8 w9 w10, ab_ex X (d + 2) 167 38 [.ref 29, .int (nI i), .int (nI t), .int (zOu h i), .int (nI F), .int (nI a), .int (nI b), v7, v8, v9, v10] [] h = ab_ex X (d + 2) 167 168 [.ref 29, .int (nI i), .int (nI t), .int (zOu h i), .int (nI (if zPe h i t a a = true ∧ 1 < F ∧ b ≤ a then 1 else if zan (fun b => zPe h i t a b) (a - b) b = true ∧ 2 < F then 2 else F)), .int (nI a), .int (nI (a + 1)), w7, w8, w9, w10] [] h := by
    intro a ha m
    induction m with
    | zero =>
      intro b F v7 v8 v9 v10 hF hb
      have : b = a + 1 := by omega
      subst this
      rw [l167_38, if_pos (nI_lt (by omega) (by omega)), if_neg (fun q => by omega), show a - (a + 1) = 0 by omega, if_neg (fun q => by cases q.1)]
      exact ⟨_, _, _, _, rfl⟩
    | succ m ih =>
      intro b F v7 v8 v9 v10 hF hb
      rw [l167_38, if_neg (nI_nlt (by omega) (by omega))]
      have step : ∃ w7 w8 w9 w10, ab_ex X (d + 2) 167 45 [.ref 29, .int (nI i), .int (nI t), .int (zOu h i), .int (nI F), .int (nI a), .int (nI b), v7, v8, v9, v10] [] h = ab_ex X (d + 2) 167 38 [.ref 29, .int (nI i), .int (nI t), .int (zOu h i), .int (nI (if zPe h i t a b = true ∧ (if a = b then 1 else 2) < F then (if a = b then 1 else 2) else F)), .int (nI a), .int (nI (b + 1)), w7, w8, w9, w10] [] h := by
        have tail : ∀ (y : Nat) (v7 v8 v10 : Value), y ≤ 1 → ∃ w7 w8 w9 w10, ab_ex X (d + 2) 167 125 [.ref 29, .int (nI i), .int (nI t), .int (zOu h i), .int (nI F), .int (nI a), .int (nI b), v7, v8, v9, v10] [.int (nI y)] h = ab_ex X (d + 2) 167 38 [.ref 29, .int (nI i), .int (nI t), .int (zOu h i), .int (nI (if y = 1 ∧ (if a = b then 1 else 2) < F then (if a = b then 1 else 2) else F)), .int (nI a), .int (nI (b + 1)), w7, w8, w9, w10] [] h := by
          intro y v7 v8 v10 hy
          by_cases hab : a = b
          · subst hab
            rw [if_pos rfl]
            by_cases hy0 : y = 0
            · subst hy0
              refine ⟨v7, v8, .int (nI 0), .int (nI 1), ?_⟩
              simp (discharger := omega) only [b167_125, b167_134, b167_139, b167_158, b167_160, zlit, Bool.false_eq_true, zlt_t, zlt_f, zeq_t, zeq_f, nI_add, pk_mul, zb_0, zb_n0, not_true_eq_false, not_false_eq_true, Classical.not_not, if_true, if_false, ite_true, ite_false, and_self, and_true, true_and, and_false, false_and, or_self, or_true, true_or, or_false, false_or, reduceIte, show ((0 : Nat) = 1) = False from eq_false (by omega)]
            · have hy1 : y = 1 := by omega
              subst hy1
              refine ⟨v7, v8, .int (nI 1), .int (nI 1), ?_⟩
              by_cases hf : 1 < F
              · simp (discharger := omega) only [b167_125, b167_134, b167_139, b167_146, b167_153, b167_160, zlit, Bool.false_eq_true, zlt_t, zlt_f, zeq_t, zeq_f, nI_add, pk_mul, zb_0, zb_n0, not_true_eq_false, not_false_eq_true, Classical.not_not, if_true, if_false, ite_true, ite_false, and_self, and_true, true_and, and_false, false_and, or_self, or_true, true_or, or_false, false_or, reduceIte, hf]
              · simp (discharger := omega) only [b167_125, b167_134, b167_139, b167_146, b167_158, b167_160, zlit, Bool.false_eq_true, zlt_t, zlt_f, zeq_t, zeq_f, nI_add, pk_mul, zb_0, zb_n0, not_true_eq_false, not_false_eq_true, Classical.not_not, if_true, if_false, ite_true, ite_false, and_self, and_true, true_and, and_false, false_and, or_self, or_true, true_or, or_false, false_or, reduceIte, hf]
          · rw [if_neg hab]
            by_cases hy0 : y = 0
            · subst hy0
              refine ⟨v7, v8, .int (nI 0), .int (nI 2), ?_⟩
              simp (discharger := omega) only [b167_125, b167_138, b167_139, b167_158, b167_160, zlit, Bool.false_eq_true, zlt_t, zlt_f, zeq_t, zeq_f, nI_add, pk_mul, zb_0, zb_n0, not_true_eq_false, not_false_eq_true, Classical.not_not, if_true, if_false, ite_true, ite_false, and_self, and_true, true_and, and_false, false_and, or_self, or_true, true_or, or_false, false_or, reduceIte, show ((0 : Nat) = 1) = False from eq_false (by omega)]
            · have hy1 : y = 1 := by omega
              subst hy1
              refine ⟨v7, v8, .int (nI 1), .int (nI 2), ?_⟩
              by_cases hf : 2 < F
              · simp (discharger := omega) only [b167_125, b167_138, b167_139, b167_146, b167_153, b167_160, zlit, Bool.false_eq_true, zlt_t, zlt_f, zeq_t, zeq_f, nI_add, pk_mul, zb_0, zb_n0, not_true_eq_false, not_false_eq_true, Classical.not_not, if_true, if_false, ite_true, ite_false, and_self, and_true, true_and, and_false, false_and, or_self, or_true, true_or, or_false, false_or, reduceIte, hf]
              · simp (discharger := omega) only [b167_125, b167_138, b167_139, b167_146, b167_158, b167_160, zlit, Bool.false_eq_true, zlt_t, zlt_f, zeq_t, zeq_f, nI_add, pk_mul, zb_0, zb_n0, not_true_eq_false, not_false_eq_true, Classical.not_not, if_true, if_false, ite_true, ite_false, and_self, and_true, true_and, and_false, false_and, or_self, or_true, true_or, or_false, false_or, reduceIte, hf]
        by_cases c1 : zB (zOu h i) (nI a) = true
        · have hp : zPe h i t a b = false := zPe_out c1 b
          rw [hp]
          obtain ⟨w7, w8, w9, w10, e⟩ := tail 0 (.int (nI 0)) (.int (ab_gI h 30 (14 + i) ||| nI 1 <<< (nI a &&& nI 31) ||| nI 1 <<< (nI b &&& nI 31))) v10 (by omega)
          refine ⟨w7, w8, w9, w10, ?_⟩
          simp (discharger := omega) only [b167_45, b167_51, b167_67, b167_68, b167_124, s139, c1, zd30, zpu_s, zpu_n, Option.bind_some, zlit, Bool.false_eq_true, zlt_t, zlt_f, zeq_t, zeq_f, nI_add, pk_mul, zb_0, zb_n0, not_true_eq_false, not_false_eq_true, Classical.not_not, if_true, if_false, ite_true, ite_false, and_self, and_true, true_and, and_false, false_and, or_self, or_true, true_or, or_false, false_or, reduceIte]
          exact e
        · by_cases c2 : zB (zOu h i) (nI b) = true
          · have hp : zPe h i t a b = false := by rw [zPe_comm]; exact zPe_out c2 a
            rw [hp]
            obtain ⟨w7, w8, w9, w10, e⟩ := tail 0 (.int (nI 0)) (.int (ab_gI h 30 (14 + i) ||| nI 1 <<< (nI a &&& nI 31) ||| nI 1 <<< (nI b &&& nI 31))) v10 (by omega)
            refine ⟨w7, w8, w9, w10, ?_⟩
            simp (discharger := omega) only [b167_45, b167_51, b167_54, b167_60, b167_67, b167_68, b167_124, s139, c1, c2, zd30, zpu_s, zpu_n, Option.bind_some, zlit, Bool.false_eq_true, zlt_t, zlt_f, zeq_t, zeq_f, nI_add, pk_mul, zb_0, zb_n0, not_true_eq_false, not_false_eq_true, Classical.not_not, if_true, if_false, ite_true, ite_false, and_self, and_true, true_and, and_false, false_and, or_self, or_true, true_or, or_false, false_or, reduceIte]
            exact e
          · by_cases c3 : zB (zEw h i ((nI 1 <<< (nI a &&& nI 31)) ||| (nI 1 <<< (nI b &&& nI 31)))) (nI t) = true
            · have hp : zPe h i t a b = true := by unfold zPe; rw [Bool.eq_false_iff.mpr c1, Bool.eq_false_iff.mpr c2, c3]; rfl
              rw [hp]
              obtain ⟨w7, w8, w9, w10, e⟩ := tail 1 (.int (nI 1)) (.int (ab_gI h 30 (14 + i) ||| nI 1 <<< (nI a &&& nI 31) ||| nI 1 <<< (nI b &&& nI 31))) v10 (by omega)
              refine ⟨w7, w8, w9, w10, ?_⟩
              simp (discharger := omega) only [b167_45, b167_51, b167_54, b167_60, b167_63, b167_68, b167_96, b167_113, b167_117, b167_120, s139, s135, c1, c2, c3, ew, ekk, zd30, zpu_s, zpu_n, Option.bind_some, zlit, Bool.false_eq_true, zlt_t, zlt_f, zeq_t, zeq_f, nI_add, pk_mul, zb_0, zb_n0, not_true_eq_false, not_false_eq_true, Classical.not_not, if_true, if_false, ite_true, ite_false, and_self, and_true, true_and, and_false, false_and, or_self, or_true, true_or, or_false, false_or, reduceIte]
              rw [e]
              simp only [true_and]
            · have hp : zPe h i t a b = false := by unfold zPe; rw [Bool.eq_false_iff.mpr c3, Bool.and_false]
              rw [hp]
              obtain ⟨w7, w8, w9, w10, e⟩ := tail 0 (.int (nI 1)) (.int (ab_gI h 30 (14 + i) ||| nI 1 <<< (nI a &&& nI 31) ||| nI 1 <<< (nI b &&& nI 31))) v10 (by omega)
              refine ⟨w7, w8, w9, w10, ?_⟩
              simp (discharger := omega) only [b167_45, b167_51, b167_54, b167_60, b167_63, b167_68, b167_96, b167_113, b167_117, b167_124, s139, s135, c1, c2, c3, ew, ekk, zd30, zpu_s, zpu_n, Option.bind_some, zlit, Bool.false_eq_true, zlt_t, zlt_f, zeq_t, zeq_f, nI_add, pk_mul, zb_0, zb_n0, not_true_eq_false, not_false_eq_true, Classical.not_not, if_true, if_false, ite_true, ite_false, and_self, and_true, true_and, and_false, false_and, or_self, or_true, true_or, or_false, false_or, reduceIte]
              exact e
      obtain ⟨w7, w8, w9, w10, e⟩ := step
      rw [e]
      have hF' : (if zPe h i t a b = true ∧ (if a = b then 1 else 2) < F then (if a = b then 1 else 2) else F) ≤ 3 := by split <;> (try split) <;> omega
      obtain ⟨u7, u8, u9, u10, e'⟩ := ih (b + 1) _ w7 w8 w9 w10 hF' (by omega)
      rw [e']
      refine ⟨u7, u8, u9, u10, ?_⟩
      refine congrArg (fun z => ab_ex X (d + 2) 167 168 [.ref 29, .int (nI i), .int (nI t), .int (zOu h i), .int (nI z), .int (nI a), .int (nI (a + 1)), u7, u8, u9, u10] [] h) ?_
      by_cases hab : a = b
      · subst hab
        rw [if_pos rfl, show a - (a + 1) = 0 by omega, Nat.sub_self]
        rw [if_neg (fun q => by omega), if_neg (fun q => by cases q.1)]
        by_cases hc : zPe h i t a a = true ∧ 1 < F
        · rw [if_pos hc, if_pos ⟨hc.1, hc.2, Nat.le_refl a⟩]
        · rw [if_neg hc, if_neg (fun q => hc ⟨q.1, q.2.1⟩), if_neg (fun q => by cases q.1)]
      · rw [if_neg hab]
        have e4 : zan (fun b => zPe h i t a b) (a - b) b = (zPe h i t a b || zan (fun b => zPe h i t a b) (a - (b + 1)) (b + 1)) := by
          rw [show a - b = (a - (b + 1)) + 1 by omega]
          rfl
        rw [e4]
        have hb1 : b + 1 ≤ a := by omega
        have hb2 : b ≤ a := by omega
        have hF4 : F = 0 ∨ F = 1 ∨ F = 2 ∨ F = 3 := by omega
        simp only [hb1, hb2, and_true]
        cases zPe h i t a a <;> cases zPe h i t a b <;> cases zan (fun b => zPe h i t a b) (a - (b + 1)) (b + 1) <;> rcases hF4 with rfl | rfl | rfl | rfl <;> rfl
  have outer : ∀ m a v6 v7 v8 v9 v10, a + m = 12 → ab_ex X (d + 2) 167 28 [.ref 29, .int (nI i), .int (nI t), .int (zOu h i), .int (nI (if zB (zEm h i) (nI t) = true then 0 else if zan (fun a => zPe h i t a a) a 0 = true then 1 else if zan (fun a => zan (fun b => zPe h i t a b) a 0) a 0 = true then 2 else 3)), .int (nI a), v6, v7, v8, v9, v10] [] h = some (some (.int (nI (zfe h i t))), h) := by
    intro m
    induction m with
    | zero =>
      intro a v6 v7 v8 v9 v10 ha
      have : a = 12 := by omega
      subst this
      rw [l167_28]
      simp (discharger := omega) only [b167_174, zlit, Bool.false_eq_true, zlt_t, zlt_f, zeq_t, zeq_f, nI_add, pk_mul, zb_0, zb_n0, not_true_eq_false, not_false_eq_true, Classical.not_not, if_true, if_false, ite_true, ite_false, and_self, and_true, true_and, and_false, false_and, or_self, or_true, true_or, or_false, false_or, reduceIte]
      rfl
    | succ m ih =>
      intro a v6 v7 v8 v9 v10 ha
      have hF : (if zB (zEm h i) (nI t) = true then 0 else if zan (fun a => zPe h i t a a) a 0 = true then 1 else if zan (fun a => zan (fun b => zPe h i t a b) a 0) a 0 = true then 2 else 3) ≤ 3 := by
        split <;> (try split) <;> (try split) <;> omega
      obtain ⟨w7, w8, w9, w10, e⟩ := inner a (by omega) (a + 1) 0 _ v7 v8 v9 v10 hF (by omega)
      rw [l167_28, if_pos (show nI a < (12 : Int32) from nI_lt (b := 12) (by omega) (by omega)), b167_35]
      refine Eq.trans (Eq.trans (show _ = _ from rfl) e) ?_
      rw [b167_168, nI_1]
      refine Eq.trans ?_ (ih (a + 1) (.int (nI (a + 1))) w7 w8 w9 w10 (by omega))
      refine congrArg (fun z => ab_ex X (d + 2) 167 28 [.ref 29, .int (nI i), .int (nI t), .int (zOu h i), .int (nI z), .int (nI (a + 1)), .int (nI (a + 1)), w7, w8, w9, w10] [] h) ?_
      rw [zan_r (f := fun a => zPe h i t a a), zan_r (f := fun a => zan (fun b => zPe h i t a b) a 0), Nat.zero_add, Nat.sub_zero]
      have h0 : 0 ≤ a := by omega
      simp only [h0, and_true]
      cases zB (zEm h i) (nI t) <;> cases zan (fun a => zPe h i t a a) a 0 <;> cases zan (fun a => zan (fun b => zPe h i t a b) a 0) a 0 <;> cases zPe h i t a a <;> cases zan (fun b => zPe h i t a b) a 0 <;> rfl
  have e0 := outer 12 0 .null .null .null .null .null (by omega)
  by_cases c0 : zB (zEm h i) (nI t) = true
  · rw [if_pos c0] at e0
    simp (discharger := omega) only [r167, b167_0, b167_5, b167_11, b167_15, b167_18, b167_23, s133n, s134n X _ hN hi t1, s139, c0, zpu_s, zpu_n, Option.bind_some, zlit, Bool.false_eq_true, zlt_t, zlt_f, zeq_t, zeq_f, nI_add, pk_mul, zb_0, zb_n0, not_true_eq_false, not_false_eq_true, Classical.not_not, if_true, if_false, ite_true, ite_false, and_self, and_true, true_and, and_false, false_and, or_self, or_true, true_or, or_false, false_or, reduceIte]
    exact e0
  · rw [if_neg c0] at e0
    simp (discharger := omega) only [r167, b167_0, b167_5, b167_11, b167_15, b167_22, b167_23, s133n, s134n X _ hN hi t1, s139, c0, zpu_s, zpu_n, Option.bind_some, zlit, Bool.false_eq_true, zlt_t, zlt_f, zeq_t, zeq_f, nI_add, pk_mul, zb_0, zb_n0, not_true_eq_false, not_false_eq_true, Classical.not_not, if_true, if_false, ite_true, ite_false, and_self, and_true, true_and, and_false, false_and, or_self, or_true, true_or, or_false, false_or, reduceIte]
    exact e0
/-- the errands of all houses from k on -/
def zer (h : ab_H) : Nat → Nat → Nat → Int32
  | 0, _, s => nI s
  | m + 1, k, s => if ab_gI h 30 (20 + k) = nI 0 then zer h m (k + 1) (s + 0) else if zfe h k k = 3 then -nI 9 else zer h m (k + 1) (s + zfe h k k)
theorem zfe_le (h : ab_H) (i t : Nat) : zfe h i t ≤ 3 := by
  unfold zfe
  split <;> (try split) <;> (try split) <;> omega
theorem zneg9 {n : Nat} (hn : n < 2147483648) : (nI n = -nI 9) = False := eq_false (fun e => by
  have := congrArg Int32.toInt e
  rw [nI_toInt (by omega), show (-nI 9).toInt = -9 from by decide] at this
  omega)
set_option maxHeartbeats 1000000 in
theorem cp_errands (X : ab_X) (d : Nat) {h : ab_H} (hI : zInv h) : zCp X (d + 30) 77 166 [] h := by
  obtain ⟨N, dc, hN, hdc, n0, n1, n2, n3, n4, n5, k1, k2, k3, k4, k5, t1, t2, t3, t4⟩ := znow hI
  by_cases hN0 : N = 0
  · subst hN0
    apply zCp_mk
    · simp (discharger := omega) only [r77, b77_0, b77_10, n2, zlit, Bool.false_eq_true, zlt_t, zlt_f, zeq_t, zeq_f, nI_add, pk_mul, zb_0, zb_n0, not_true_eq_false, not_false_eq_true, Classical.not_not, if_true, if_false, ite_true, ite_false, and_self, and_true, true_and, and_false, false_and, or_self, or_true, true_or, or_false, false_or, reduceIte]; rfl
    · simp (discharger := omega) only [r166, b166_0, b166_9, zd30, n5, zlit, Bool.false_eq_true, zlt_t, zlt_f, zeq_t, zeq_f, nI_add, pk_mul, zb_0, zb_n0, not_true_eq_false, not_false_eq_true, Classical.not_not, if_true, if_false, ite_true, ite_false, and_self, and_true, true_and, and_false, false_and, or_self, or_true, true_or, or_false, false_or, reduceIte]; rfl
    · exact hI
  · have key1 : ∀ m k s v3, k + m = N → s ≤ 3 * k → ab_ex X (d + 30) 77 17 [.ref 0, .int (nI s), .int (nI k), v3] [] h = some (some (.int (zer h m k s)), h) := by
      intro m
      induction m with
      | zero =>
        intro k s v3 hk hs
        rw [l77_17, n2]
        simp (discharger := omega) only [b77_73, zer, zlit, Bool.false_eq_true, zlt_t, zlt_f, zeq_t, zeq_f, nI_add, pk_mul, zb_0, zb_n0, not_true_eq_false, not_false_eq_true, Classical.not_not, if_true, if_false, ite_true, ite_false, and_self, and_true, true_and, and_false, false_and, or_self, or_true, true_or, or_false, false_or, reduceIte]
      | succ m ih =>
        intro k s v3 hk hs
        have hk' : k < N := by omega
        rw [l77_17, n2]
        unfold zer
        by_cases c0 : ab_gI h 30 (20 + k) = nI 0
        · have c0' := (k4 k hk').trans c0
          rw [if_pos c0]
          simp (discharger := omega) only [b77_28, b77_40, b77_53, b77_63, zd45, c0', zneg9, zlit, Bool.false_eq_true, zlt_t, zlt_f, zeq_t, zeq_f, nI_add, pk_mul, zb_0, zb_n0, not_true_eq_false, not_false_eq_true, Classical.not_not, if_true, if_false, ite_true, ite_false, and_self, and_true, true_and, and_false, false_and, or_self, or_true, true_or, or_false, false_or, reduceIte]
          exact ih (k + 1) (s + 0) _ (by omega) (by omega)
        · have c0' : ¬ ab_gI h 45 k = nI 0 := by rw [k4 k hk']; exact c0
          have e := s78 X (d + 27) hN hk' (show k < 12 by omega) (k1 k hk') (k2 k hk') (k3 k hk') (t1 k hk')
          have hz := zfe_le h k k
          rw [if_neg c0]
          by_cases c3 : zfe h k k = 3
          · rw [if_pos c3] at e ⊢
            simp (discharger := omega) only [b77_28, b77_44, b77_53, b77_60, zd45, c0', e, zpu_s, zpu_n, Option.bind_some, zlit, Bool.false_eq_true, zlt_t, zlt_f, zeq_t, zeq_f, nI_add, pk_mul, zb_0, zb_n0, not_true_eq_false, not_false_eq_true, Classical.not_not, if_true, if_false, ite_true, ite_false, and_self, and_true, true_and, and_false, false_and, or_self, or_true, true_or, or_false, false_or, reduceIte]
          · rw [if_neg c3] at e ⊢
            simp (discharger := omega) only [b77_28, b77_44, b77_53, b77_63, zd45, c0', e, zneg9, zpu_s, zpu_n, Option.bind_some, zlit, Bool.false_eq_true, zlt_t, zlt_f, zeq_t, zeq_f, nI_add, pk_mul, zb_0, zb_n0, not_true_eq_false, not_false_eq_true, Classical.not_not, if_true, if_false, ite_true, ite_false, and_self, and_true, true_and, and_false, false_and, or_self, or_true, true_or, or_false, false_or, reduceIte]
            exact ih (k + 1) (s + zfe h k k) _ (by omega) (by omega)
    have key2 : ∀ m k s v3, k + m = N → s ≤ 3 * k → ab_ex X (d + 30) 166 16 [.ref 29, .int (nI s), .int (nI k), v3] [] h = some (some (.int (zer h m k s)), h) := by
      intro m
      induction m with
      | zero =>
        intro k s v3 hk hs
        rw [l166_16]
        simp (discharger := omega) only [b166_73, zd30, n5, zer, zlit, Bool.false_eq_true, zlt_t, zlt_f, zeq_t, zeq_f, nI_add, pk_mul, zb_0, zb_n0, not_true_eq_false, not_false_eq_true, Classical.not_not, if_true, if_false, ite_true, ite_false, and_self, and_true, true_and, and_false, false_and, or_self, or_true, true_or, or_false, false_or, reduceIte]
      | succ m ih =>
        intro k s v3 hk hs
        have hk' : k < N := by omega
        rw [l166_16]
        unfold zer
        obtain ⟨x, hx, ex⟩ := t4 k hk'
        by_cases c0 : ab_gI h 30 (20 + k) = nI 0
        · rw [if_pos c0]
          simp (discharger := omega) only [b166_26, b166_30, b166_51, b166_52, b166_63, b166_66, zd30, n5, c0, zlit, Bool.false_eq_true, zlt_t, zlt_f, zeq_t, zeq_f, nI_add, pk_mul, zb_0, zb_n0, not_true_eq_false, not_false_eq_true, Classical.not_not, if_true, if_false, ite_true, ite_false, and_self, and_true, true_and, and_false, false_and, or_self, or_true, true_or, or_false, false_or, reduceIte]
          exact ih (k + 1) (s + 0) _ (by omega) (by omega)
        · have c1 : nI 0 < ab_gI h 30 (20 + k) := by
            rw [ex] at c0 ⊢
            exact nI_lt (by have : x ≠ 0 := (fun e => c0 (by rw [e])); omega) (by omega)
          have e := s167 X (d + 27) hN hk' (show k < 12 by omega) (t1 k hk')
          have hz := zfe_le h k k
          rw [if_neg c0]
          by_cases c3 : zfe h k k = 3
          · rw [if_pos c3]
            rw [c3] at e
            simp (discharger := omega) only [b166_26, b166_30, b166_42, b166_48, b166_52, b166_58, b166_66, zd30, n5, c1, e, zpu_s, zpu_n, Option.bind_some, zlit, Bool.false_eq_true, zlt_t, zlt_f, zeq_t, zeq_f, nI_add, pk_mul, zb_0, zb_n0, not_true_eq_false, not_false_eq_true, Classical.not_not, if_true, if_false, ite_true, ite_false, and_self, and_true, true_and, and_false, false_and, or_self, or_true, true_or, or_false, false_or, reduceIte]
            rw [l166_16]
            have hn : (-nI 9 < nI 0) = True := eq_true (by decide)
            by_cases c4 : k + 1 < N
            · simp (discharger := omega) only [zd30, n5, b166_26, b166_73, hn, zlit, Bool.false_eq_true, zlt_t, zlt_f, zeq_t, zeq_f, nI_add, pk_mul, zb_0, zb_n0, not_true_eq_false, not_false_eq_true, Classical.not_not, if_true, if_false, ite_true, ite_false, and_self, and_true, true_and, and_false, false_and, or_self, or_true, true_or, or_false, false_or, reduceIte]
            · simp (discharger := omega) only [zd30, n5, b166_73, zlit, Bool.false_eq_true, zlt_t, zlt_f, zeq_t, zeq_f, nI_add, pk_mul, zb_0, zb_n0, not_true_eq_false, not_false_eq_true, Classical.not_not, if_true, if_false, ite_true, ite_false, and_self, and_true, true_and, and_false, false_and, or_self, or_true, true_or, or_false, false_or, reduceIte]
          · rw [if_neg c3]
            simp (discharger := omega) only [b166_26, b166_30, b166_42, b166_48, b166_52, b166_63, b166_66, zd30, n5, c1, e, zpu_s, zpu_n, Option.bind_some, zlit, Bool.false_eq_true, zlt_t, zlt_f, zeq_t, zeq_f, nI_add, pk_mul, zb_0, zb_n0, not_true_eq_false, not_false_eq_true, Classical.not_not, if_true, if_false, ite_true, ite_false, and_self, and_true, true_and, and_false, false_and, or_self, or_true, true_or, or_false, false_or, reduceIte]
            exact ih (k + 1) (s + zfe h k k) _ (by omega) (by omega)
    apply zCp_mk
    · simp (discharger := omega) only [r77, b77_0, b77_13, n2, zlit, Bool.false_eq_true, zlt_t, zlt_f, zeq_t, zeq_f, nI_add, pk_mul, zb_0, zb_n0, not_true_eq_false, not_false_eq_true, Classical.not_not, if_true, if_false, ite_true, ite_false, and_self, and_true, true_and, and_false, false_and, or_self, or_true, true_or, or_false, false_or, reduceIte]
      exact key1 N 0 0 _ (by omega) (by omega)
    · simp (discharger := omega) only [r166, b166_0, b166_12, zd30, n5, zlit, Bool.false_eq_true, zlt_t, zlt_f, zeq_t, zeq_f, nI_add, pk_mul, zb_0, zb_n0, not_true_eq_false, not_false_eq_true, Classical.not_not, if_true, if_false, ite_true, ite_false, and_self, and_true, true_and, and_false, false_and, or_self, or_true, true_or, or_false, false_or, reduceIte]
      exact key2 N 0 0 _ (by omega) (by omega)
    · exact hI
