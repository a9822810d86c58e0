/-! the race -/
def zdn (h : ab_H) (i : Nat) : Nat := (ab_gI h 30 (20 + i)).toNatClampNeg
theorem zdn_get {h : ab_H} {N : Nat} (t4 : ∀ i, i < N → ∃ q, q ≤ 99 ∧ ab_gI h 30 (20 + i) = nI q) : ∀ i, i < N → zdn h i ≤ 99 ∧ ab_gI h 30 (20 + i) = nI (zdn h i) := by
  intro i hi
  obtain ⟨q, h1, h2⟩ := t4 i hi
  unfold zdn
  rw [h2, z_cl (by omega)]
  exact ⟨h1, rfl⟩
def zwn (h : ab_H) (p t : Nat) (S : Int32) (x : Nat) : Nat := if t + zdist p x < 12 ∧ ¬ zB S (nI x) = true ∧ zB (zEm h x) (nI (t + zdist p x)) = true then zdn h x else 0
def zmx (f : Nat → Nat) : Nat → Nat
  | 0 => 0
  | k + 1 => if zmx f k < f k then f k else zmx f k
def zmi (f : Nat → Nat) : Nat → Nat
  | 0 => 100
  | k + 1 => if f k < zmi f k then f k else zmi f k
theorem zmx_congr {f g : Nat → Nat} : ∀ {n : Nat}, (∀ i, i < n → f i = g i) → zmx f n = zmx g n
  | 0, _ => rfl
  | n + 1, e => by unfold zmx; rw [zmx_congr (fun i hi => e i (by omega)), e n (by omega)]
theorem zmi_congr {f g : Nat → Nat} : ∀ {n : Nat}, (∀ i, i < n → f i = g i) → zmi f n = zmi g n
  | 0, _ => rfl
  | n + 1, e => by unfold zmi; rw [zmi_congr (fun i hi => e i (by omega)), e n (by omega)]
theorem zmx_le {f : Nat → Nat} {b : Nat} : ∀ {n : Nat}, (∀ i, i < n → f i ≤ b) → zmx f n ≤ b
  | 0, _ => Nat.zero_le b
  | n + 1, e => by
    have h1 := zmx_le (n := n) (fun i hi => e i (by omega))
    have h2 := e n (by omega)
    unfold zmx
    split <;> omega
theorem zmi_le (f : Nat → Nat) : ∀ n, zmi f n ≤ 100
  | 0 => Nat.le_refl _
  | n + 1 => by
    have h1 := zmi_le f n
    unfold zmi
    split <;> omega
def zlm (h : ab_H) (p t : Nat) (S : Int32) (N : Nat) : Nat := zmx (fun x => zwn h p t S x) N
theorem zwn_le {h : ab_H} {N : Nat} (hd : ∀ i, i < N → zdn h i ≤ 99) {p t : Nat} {S : Int32} {x : Nat} (hx : x < N) : zwn h p t S x ≤ 99 := by
  have := hd x hx
  unfold zwn
  split <;> omega
theorem zlm_le {h : ab_H} {N : Nat} (hd : ∀ i, i < N → zdn h i ≤ 99) {p t : Nat} {S : Int32} : zlm h p t S N ≤ 99 := zmx_le (fun i hi => zwn_le hd hi)
theorem zmaxn {a b : Nat} (ha : a < 1000000) (hb : b < 1000000) : ab_max (nI a) (nI b) = nI (if a < b then b else a) := by
  unfold ab_max
  by_cases h1 : a < b
  · rw [if_pos h1]
    first
      | rw [if_pos (nI_lt h1 (by omega))]
      | rw [if_neg (nI_nlt (by omega) (by omega))]
  · rw [if_neg h1]
    first
      | rw [if_neg (nI_nlt (by omega) (by omega))]
      | (by_cases h2 : a = b
         · subst h2; split <;> rfl
         · rw [if_pos (nI_lt (by omega) (by omega))])
theorem zminn {a b : Nat} (ha : a < 1000000) (hb : b < 1000000) : ab_min (nI a) (nI b) = nI (if b < a then b else a) := by
  unfold ab_min
  by_cases h1 : b < a
  · rw [if_pos h1, if_pos (nI_lt h1 (by omega))]
  · rw [if_neg h1, if_neg (nI_nlt (by omega) (by omega))]
/-- one house of the postman's turn: the class -/
theorem c87s (X : ab_X) (d : Nat) {N p t x T : Nat} (hN : N ≤ 6) (hp : p < 6) (ht : t < 1000) (hx : x < N) {h hc : ab_H} (S : Int32) (n2 : ab_gI hc 41 7 = nI N) (c18 : ab_gI hc 18 x = zEm h x) (c45 : ab_gI hc 45 x = nI (zdn h x)) {M R : Nat} (v7 v8 v9 : Value) (hM : M < 1000) (hR : R < 1000) (hdn : zdn h x ≤ 99) (hw : ab_ru X (d + 1) 88 [.ref 0, .int (nI x), .int (nI (t + zdist p x)), .int (if t + zdist p x < 12 ∧ ¬ zB S (nI x) = true ∧ zB (zEm h x) (nI (t + zdist p x)) = true then S ||| (nI 1 <<< (nI x &&& nI 31)) else S), .int (nI T)] hc = some (some (.int (nI R)), hc)) : ∃ w7 w8 w9, ab_ex X (d + 2) 87 25 [.ref 0, .int (nI p), .int (nI t), .int S, .int (nI T), .int (nI M), .int (nI x), v7, v8, v9] [] hc = ab_ex X (d + 2) 87 13 [.ref 0, .int (nI p), .int (nI t), .int S, .int (nI T), .int (nI (if M < zwn h p t S x + R then zwn h p t S x + R else M)), .int (nI (x + 1)), w7, w8, w9] [] hc := by
  have hd := zdist_lt hp (show x < 6 by omega)
  have no : ∀ v7' : Value, ¬ (t + zdist p x < 12 ∧ ¬ zB S (nI x) = true ∧ zB (zEm h x) (nI (t + zdist p x)) = true) → ∀ w, w = ab_ex X (d + 2) 87 71 [.ref 0, .int (nI p), .int (nI t), .int S, .int (nI T), .int (nI M), .int (nI x), .int (nI (t + zdist p x)), v8, v9] [] hc → ∃ w7 w8 w9, w = ab_ex X (d + 2) 87 13 [.ref 0, .int (nI p), .int (nI t), .int S, .int (nI T), .int (nI (if M < zwn h p t S x + R then zwn h p t S x + R else M)), .int (nI (x + 1)), w7, w8, w9] [] hc := by
    intro v7' hc' w ew
    rw [if_neg hc'] at hw
    have ez : zwn h p t S x = 0 := if_neg hc'
    rw [ez, ew]
    refine ⟨.int (nI (t + zdist p x)), .int (nI 0), .int (nI (0 + R)), ?_⟩
    simp (discharger := omega) only [b87_71, b87_72, b87_92, b87_93, b87_116, b87_117, b87_122, hw, zmaxn, zpu_s, zpu_n, Option.bind_some, zlit, Bool.false_eq_true, zlt_t, zlt_f, zeq_t, zeq_f, nI_add, pk_mul, zb_0, zb_n0, not_true_eq_false, not_false_eq_true, Classical.not_not, if_true, if_false, ite_true, ite_false, and_self, and_true, true_and, and_false, false_and, or_self, or_true, true_or, or_false, false_or, reduceIte]
  by_cases c1 : t + zdist p x < 12
  · by_cases c2 : zB S (nI x) = true
    · refine no .null (fun q => q.2.1 c2) _ ?_
      simp (discharger := omega) only [b87_25, b87_43, b87_49, zabs, s39, c2, zpu_s, zpu_n, Option.bind_some, zlit, Bool.false_eq_true, zlt_t, zlt_f, zeq_t, zeq_f, nI_add, pk_mul, zb_0, zb_n0, not_true_eq_false, not_false_eq_true, Classical.not_not, if_true, if_false, ite_true, ite_false, and_self, and_true, true_and, and_false, false_and, or_self, or_true, true_or, or_false, false_or, reduceIte]
    · by_cases c3 : zB (zEm h x) (nI (t + zdist p x)) = true
      · rw [if_pos ⟨c1, c2, c3⟩] at hw
        have ez : zwn h p t S x = zdn h x := if_pos ⟨c1, c2, c3⟩
        rw [ez]
        refine ⟨.int (nI (t + zdist p x)), .int (nI 1), .int (nI (zdn h x + R)), ?_⟩
        simp (discharger := omega) only [b87_25, b87_43, b87_49, b87_52, b87_64, b87_67, b87_72, b87_79, b87_93, b87_107, b87_117, b87_122, zabs, s39, c2, c3, c18, c45, zd18, zd45, hw, zmaxn, zpu_s, zpu_n, Option.bind_some, zlit, Bool.false_eq_true, zlt_t, zlt_f, zeq_t, zeq_f, nI_add, pk_mul, zb_0, zb_n0, not_true_eq_false, not_false_eq_true, Classical.not_not, if_true, if_false, ite_true, ite_false, and_self, and_true, true_and, and_false, false_and, or_self, or_true, true_or, or_false, false_or, reduceIte]
      · refine no .null (fun q => c3 q.2.2) _ ?_
        simp (discharger := omega) only [b87_25, b87_43, b87_49, b87_52, b87_64, zabs, s39, c2, c3, c18, zd18, zpu_s, zpu_n, Option.bind_some, zlit, Bool.false_eq_true, zlt_t, zlt_f, zeq_t, zeq_f, nI_add, pk_mul, zb_0, zb_n0, not_true_eq_false, not_false_eq_true, Classical.not_not, if_true, if_false, ite_true, ite_false, and_self, and_true, true_and, and_false, false_and, or_self, or_true, true_or, or_false, false_or, reduceIte]
  · refine no .null (fun q => c1 q.1) _ ?_
    simp (discharger := omega) only [b87_25, zabs, zpu_s, zpu_n, Option.bind_some, zlit, Bool.false_eq_true, zlt_t, zlt_f, zeq_t, zeq_f, nI_add, pk_mul, zb_0, zb_n0, not_true_eq_false, not_false_eq_true, Classical.not_not, if_true, if_false, ite_true, ite_false, and_self, and_true, true_and, and_false, false_and, or_self, or_true, true_or, or_false, false_or, reduceIte]
theorem s88_1 (X : ab_X) (d : Nat) (p t S : Int32) (h : ab_H) : ab_ru X d 88 [.ref 0, .int p, .int t, .int S, .int (nI 1)] h = some (some (.int (nI 0)), h) := by
  simp (discharger := omega) only [r88, b88_0, b88_6, zlit, Bool.false_eq_true, zlt_t, zlt_f, zeq_t, zeq_f, nI_add, pk_mul, zb_0, zb_n0, not_true_eq_false, not_false_eq_true, Classical.not_not, if_true, if_false, ite_true, ite_false, and_self, and_true, true_and, and_false, false_and, or_self, or_true, true_or, or_false, false_or, reduceIte]
theorem s87_1 (X : ab_X) (d : Nat) {N p t : Nat} (hN : N ≤ 6) (hp : p < 6) (ht : t < 1000) {h hc : ab_H} (S : Int32) (n2 : ab_gI hc 41 7 = nI N) (c18 : ∀ x, x < N → ab_gI hc 18 x = zEm h x) (c45 : ∀ x, x < N → ab_gI hc 45 x = nI (zdn h x)) (hdn : ∀ x, x < N → zdn h x ≤ 99) : ab_ru X (d + 2) 87 [.ref 0, .int (nI p), .int (nI t), .int S, .int (nI 1)] hc = some (some (.int (nI (zlm h p t S N))), hc) := by
  have key : ∀ k, k ≤ N → ∃ w7 w8 w9, ab_ex X (d + 2) 87 13 [.ref 0, .int (nI p), .int (nI t), .int S, .int (nI 1), .int (nI 0), .int (nI 0), .null, .null, .null] [] hc = ab_ex X (d + 2) 87 13 [.ref 0, .int (nI p), .int (nI t), .int S, .int (nI 1), .int (nI (zmx (fun x => zwn h p t S x) k)), .int (nI k), w7, w8, w9] [] hc := by
    intro k
    induction k with
    | zero => intro _; exact ⟨_, _, _, rfl⟩
    | succ k ih =>
      intro hk
      obtain ⟨w7, w8, w9, e⟩ := ih (by omega)
      have hm : zmx (fun x => zwn h p t S x) k ≤ 99 := zmx_le (fun i hi => zwn_le hdn (show i < N by omega))
      obtain ⟨u7, u8, u9, e'⟩ := c87s X d hN hp ht (show k < N by omega) S n2 (c18 k (by omega)) (c45 k (by omega)) (M := zmx (fun x => zwn h p t S x) k) (R := 0) w7 w8 w9 (by omega) (by omega) (hdn k (by omega)) (s88_1 X (d + 1) _ _ _ hc)
      refine ⟨u7, u8, u9, ?_⟩
      rw [e, l87_13, n2, if_pos (nI_lt (by omega) (by omega)), e']
      rfl
  obtain ⟨w7, w8, w9, e⟩ := key N (Nat.le_refl N)
  simp (discharger := omega) only [r87, b87_0, b87_7, zlit, Bool.false_eq_true, zlt_t, zlt_f, zeq_t, zeq_f, nI_add, pk_mul, zb_0, zb_n0, not_true_eq_false, not_false_eq_true, Classical.not_not, if_true, if_false, ite_true, ite_false, and_self, and_true, true_and, and_false, false_and, or_self, or_true, true_or, or_false, false_or, reduceIte]
  refine Eq.trans e ?_
  rw [l87_13, n2, if_neg (nI_nlt (by omega) (by omega)), b87_140]
  rfl
theorem s88_2 (X : ab_X) (d : Nat) {N p t : Nat} (hN : N ≤ 6) (hN0 : 0 < N) (hp : p < 6) (ht : t < 1000) {h hc : ab_H} (S : Int32) (n2 : ab_gI hc 41 7 = nI N) (c18 : ∀ x, x < N → ab_gI hc 18 x = zEm h x) (c45 : ∀ x, x < N → ab_gI hc 45 x = nI (zdn h x)) (hdn : ∀ x, x < N → zdn h x ≤ 99) : ab_ru X (d + 3) 88 [.ref 0, .int (nI p), .int (nI t), .int S, .int (nI 2)] hc = some (some (.int (nI (zmi (fun st => zlm h p t (S ||| (nI 1 <<< (nI st &&& nI 31))) N) N))), hc) := by
  have s1 := fun S => s87_1 X d hN hp ht (h := h) (hc := hc) S n2 c18 c45 hdn
  have hl := fun S => zlm_le (h := h) (N := N) hdn (p := p) (t := t) (S := S)
  have key : ∀ m k, 0 < k → k + m = N → ab_ex X (d + 3) 88 26 [.ref 0, .int (nI p), .int (nI t), .int S, .int (nI 2), .int (nI (zmi (fun st => zlm h p t (S ||| (nI 1 <<< (nI st &&& nI 31))) N) k)), .int (nI k)] [] hc = some (some (.int (nI (zmi (fun st => zlm h p t (S ||| (nI 1 <<< (nI st &&& nI 31))) N) N))), hc) := by
    intro m
    induction m with
    | zero =>
      intro k h0 hk
      have : k = N := by omega
      subst this
      rw [l88_26, n2, if_neg (nI_nlt (by omega) (by omega)), b88_67]
    | succ m ih =>
      intro k h0 hk
      have h1 := zmi_le (fun st => zlm h p t (S ||| (nI 1 <<< (nI st &&& nI 31))) N) k
      have h2 := hl (S ||| (nI 1 <<< (nI k &&& nI 31)))
      rw [l88_26, n2, if_pos (nI_lt (by omega) (by omega))]
      simp (discharger := omega) only [b88_38, b88_56, s1, pk_sub, Nat.reduceSub, zminn, zpu_s, zpu_n, Option.bind_some, zlit, Bool.false_eq_true, zlt_t, zlt_f, zeq_t, zeq_f, nI_add, pk_mul, zb_0, zb_n0, not_true_eq_false, not_false_eq_true, Classical.not_not, if_true, if_false, ite_true, ite_false, and_self, and_true, true_and, and_false, false_and, or_self, or_true, true_or, or_false, false_or, reduceIte]
      exact ih (k + 1) (by omega) (by omega)
  have e0 : (nI 1 : Int32) = nI 1 <<< (nI 0 &&& nI 31) := by decide
  have hs : (S ||| nI 1) = S ||| (nI 1 <<< (nI 0 &&& nI 31)) := congrArg (S ||| ·) e0
  have hk := key (N - 1) 1 (by omega) (by omega)
  have h2 := hl (S ||| (nI 1 <<< (nI 0 &&& nI 31)))
  have hz : zmi (fun st => zlm h p t (S ||| (nI 1 <<< (nI st &&& nI 31))) N) 1 = zlm h p t (S ||| nI 1) N := by
    show (if zlm h p t (S ||| (nI 1 <<< (nI 0 &&& nI 31))) N < 100 then _ else _) = _
    rw [if_pos (by omega), hs]
  rw [hz] at hk
  simp (discharger := omega) only [r88, b88_0, b88_8, b88_21, s1, pk_sub, Nat.reduceSub, zpu_s, zpu_n, Option.bind_some, zlit, Bool.false_eq_true, zlt_t, zlt_f, zeq_t, zeq_f, nI_add, pk_mul, zb_0, zb_n0, not_true_eq_false, not_false_eq_true, Classical.not_not, if_true, if_false, ite_true, ite_false, and_self, and_true, true_and, and_false, false_and, or_self, or_true, true_or, or_false, false_or, reduceIte]
  exact hk
/-- what the class's race of two turns answers -/
def zr2 (h : ab_H) (N x : Nat) : Nat := zwn h 0 0 (nI 0) x + zmi (fun st => zlm h x x ((if 0 + zdist 0 x < 12 ∧ ¬ zB (nI 0) (nI x) = true ∧ zB (zEm h x) (nI (0 + zdist 0 x)) = true then nI 0 ||| (nI 1 <<< (nI x &&& nI 31)) else nI 0) ||| (nI 1 <<< (nI st &&& nI 31))) N) N
theorem s87_2 (X : ab_X) (d : Nat) {N : Nat} (hN : N ≤ 6) (hN0 : 0 < N) {h hc : ab_H} (n2 : ab_gI hc 41 7 = nI N) (c18 : ∀ x, x < N → ab_gI hc 18 x = zEm h x) (c45 : ∀ x, x < N → ab_gI hc 45 x = nI (zdn h x)) (hdn : ∀ x, x < N → zdn h x ≤ 99) : ab_ru X (d + 4) 87 [.ref 0, .int (nI 0), .int (nI 0), .int (nI 0), .int (nI 2)] hc = some (some (.int (nI (zmx (zr2 h N) N))), hc) := by
  have hb : ∀ x, x < N → zr2 h N x ≤ 199 := fun x hx => by
    have h1 := zwn_le hdn (p := 0) (t := 0) (S := nI 0) hx
    have h2 := zmi_le (fun st => zlm h x x ((if 0 + zdist 0 x < 12 ∧ ¬ zB (nI 0) (nI x) = true ∧ zB (zEm h x) (nI (0 + zdist 0 x)) = true then nI 0 ||| (nI 1 <<< (nI x &&& nI 31)) else nI 0) ||| (nI 1 <<< (nI st &&& nI 31))) N) N
    unfold zr2
    omega
  have key : ∀ k, k ≤ N → ∃ w7 w8 w9, ab_ex X (d + 4) 87 13 [.ref 0, .int (nI 0), .int (nI 0), .int (nI 0), .int (nI 2), .int (nI 0), .int (nI 0), .null, .null, .null] [] hc = ab_ex X (d + 4) 87 13 [.ref 0, .int (nI 0), .int (nI 0), .int (nI 0), .int (nI 2), .int (nI (zmx (zr2 h N) k)), .int (nI k), w7, w8, w9] [] hc := by
    intro k
    induction k with
    | zero => intro _; exact ⟨_, _, _, rfl⟩
    | succ k ih =>
      intro hk
      obtain ⟨w7, w8, w9, e⟩ := ih (by omega)
      have hm : zmx (zr2 h N) k ≤ 199 := zmx_le (fun i hi => hb i (by omega))
      have hx : k < N := by omega
      have h2 := zmi_le (fun st => zlm h k k ((if 0 + zdist 0 k < 12 ∧ ¬ zB (nI 0) (nI k) = true ∧ zB (zEm h k) (nI (0 + zdist 0 k)) = true then nI 0 ||| (nI 1 <<< (nI k &&& nI 31)) else nI 0) ||| (nI 1 <<< (nI st &&& nI 31))) N) N
      have ez : zdist 0 k = k := by unfold zdist; split <;> omega
      have hw := s88_2 X d hN hN0 (show k < 6 by omega) (t := k) (by omega) (h := h) (hc := hc) (if 0 + zdist 0 k < 12 ∧ ¬ zB (nI 0) (nI k) = true ∧ zB (zEm h k) (nI (0 + zdist 0 k)) = true then nI 0 ||| (nI 1 <<< (nI k &&& nI 31)) else nI 0) n2 c18 c45 hdn
      obtain ⟨u7, u8, u9, e'⟩ := c87s X (d + 2) hN (p := 0) (by omega) (t := 0) (by omega) hx (nI 0) n2 (c18 k hx) (c45 k hx) (T := 2) (M := zmx (zr2 h N) k) (R := zmi (fun st => zlm h k k ((if 0 + zdist 0 k < 12 ∧ ¬ zB (nI 0) (nI k) = true ∧ zB (zEm h k) (nI (0 + zdist 0 k)) = true then nI 0 ||| (nI 1 <<< (nI k &&& nI 31)) else nI 0) ||| (nI 1 <<< (nI st &&& nI 31))) N) N) w7 w8 w9 (by omega) (by omega) (hdn k hx) (by rw [show nI (0 + zdist 0 k) = nI k by rw [ez, Nat.zero_add]] at hw ⊢; exact hw)
      refine ⟨u7, u8, u9, ?_⟩
      rw [e, l87_13, n2, if_pos (nI_lt (by omega) (by omega)), e']
      rfl
  obtain ⟨w7, w8, w9, e⟩ := key N (Nat.le_refl N)
  simp (discharger := omega) only [r87, b87_0, b87_7, zlit, Bool.false_eq_true, zlt_t, zlt_f, zeq_t, zeq_f, nI_add, pk_mul, zb_0, zb_n0, not_true_eq_false, not_false_eq_true, Classical.not_not, if_true, if_false, ite_true, ite_false, and_self, and_true, true_and, and_false, false_and, or_self, or_true, true_or, or_false, false_or, reduceIte]
  refine Eq.trans e ?_
  rw [l87_13, n2, if_neg (nI_nlt (by omega) (by omega)), b87_140]
