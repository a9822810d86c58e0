/-! a postman goes: the class -/
def zput (h : ab_H) (a : Nat) (D : Nat → Int32) : ab_H := (fun c => if c = a then D else h.1 c, h.2)
theorem zput_same (h : ab_H) (a : Nat) (D : Nat → Int32) (i : Nat) : ab_gI (zput h a D) a i = D i := by unfold ab_gI zput; simp
theorem zput_ne {a c : Nat} (hc : c ≠ a) (h : ab_H) (D : Nat → Int32) (i : Nat) : ab_gI (zput h a D) c i = ab_gI h c i := by unfold ab_gI zput; simp [hc]
theorem zput_J (h : ab_H) (a : Nat) (D : Nat → Int32) (c i : Nat) : ab_gJ (zput h a D) c i = ab_gJ h c i := rfl
theorem zput_self (h : ab_H) (a : Nat) : zput h a (fun i => ab_gI h a i) = h := by
  refine zh_ext (fun c i => ?_) (fun _ _ => rfl)
  by_cases e : c = a
  · subst e; rw [zput_same]
  · rw [zput_ne e]
theorem zput_s (h : ab_H) (a : Nat) (D : Nat → Int32) (q : Nat) (x : Int32) : ab_sI (zput h a D) a q x = zput h a (upd D q x) := by
  refine zh_ext (fun c i => ?_) (fun _ _ => rfl)
  by_cases e : c = a
  · subst e; rw [zg_same, zput_same, zput_same]; rfl
  · rw [zg_ne e, zput_ne e, zput_ne e]
theorem zloopI {β : Type} (P : Nat → β → Prop) (E : β → Nat → Option ab_R) (f : Nat → β → β) (n : Nat) (hs : ∀ k a, k < n → P k a → E a k = E (f k a) (k + 1) ∧ P (k + 1) (f k a)) (a : β) (h0 : P 0 a) : E a 0 = E (zit f a n) n ∧ P n (zit f a n) := by
  have key : ∀ k, k ≤ n → E a 0 = E (zit f a k) k ∧ P k (zit f a k) := by
    intro k
    induction k with
    | zero => intro _; exact ⟨rfl, h0⟩
    | succ k ih =>
      intro hk
      obtain ⟨e1, e2⟩ := ih (by omega)
      obtain ⟨g1, g2⟩ := hs k _ (by omega) e2
      exact ⟨e1.trans g1, g2⟩
  exact key n (Nat.le_refl n)
theorem zabs {a b : Nat} (ha : a < 1000000) (hb : b < 1000000) : ab_abs (nI a - nI b) = nI (zdist b a) := by
  have e : (nI a - nI b).toInt = (a : Int) - b := pk_sub_toInt (by omega) (by omega)
  unfold ab_abs zdist
  by_cases h1 : b < a
  · rw [if_pos h1, if_pos (by rw [Int32.le_iff_toInt_le, e]; have : (0 : Int32).toInt = 0 := rfl; omega), pk_sub (by omega)]
  · rw [if_neg h1]
    by_cases h2 : a = b
    · subst h2
      rw [if_pos (by rw [Int32.le_iff_toInt_le, e]; have : (0 : Int32).toInt = 0 := rfl; omega), pk_sub (by omega)]
    · rw [if_neg (by rw [Int32.le_iff_toInt_le, e]; have : (0 : Int32).toInt = 0 := rfl; omega)]
      apply Int32.toInt_inj.mp
      rw [Int32.toInt_sub, e, nI_toInt (by omega), show (0 : Int32).toInt = 0 from rfl, Int.bmod_def]
      omega
theorem zbit_B (x : Int32) (k : Nat) : zbit x k = zB x (nI k) := rfl
theorem zdist_lt {a b : Nat} (ha : a < 6) (hb : b < 6) : zdist a b ≤ 5 := by unfold zdist; split <;> omega
theorem zgo1_b {e : Nat → Int32} {q k : Nat} {g : zG} (hq : q < 6) (h1 : g.1 ≤ 5 * k) (h2 : g.2.1 < 6) : (zgo1 e q g).1 ≤ 5 * (k + 1) ∧ (zgo1 e q g).2.1 < 6 := by
  have := zdist_lt h2 hq
  unfold zgo1
  split <;> exact ⟨by dsimp only; omega, hq⟩
theorem s49 (X : ab_X) (d : Nat) {A B n : Nat} {q : Nat → Nat} (hA : ab_sh A = (1, 6, 0)) (hB : ab_sh B = (1, 6, 0)) (hAB : B ≠ A) (hA9 : A ≠ 19 ∧ A ≠ 20) (hn : n ≤ 12) {h : ab_H} (e1 : ab_gI h 19 1 = nI n) (e2 : ∀ k, k < n → q k < 6 ∧ ab_gI h 20 k = nI (q k)) : ab_ru X (d + 1) 49 [.ref 19, .ref A, .ref B] h = some (some (.int (zgo (fun i => ab_gI h B i) q n (0, 0, fun i => ab_gI h A i, 0)).2.2.2), zput h A (zgo (fun i => ab_gI h B i) q n (0, 0, fun i => ab_gI h A i, 0)).2.2.1) := by
  have key := zloopI (fun k (s : zG × Value) => s.1.1 ≤ 5 * k ∧ s.1.2.1 < 6) (fun s k => ab_ex X (d + 1) 49 11 [.ref 19, .ref A, .ref B, .int s.1.2.2.2, .int (nI s.1.1), .int (nI s.1.2.1), .int (nI k), s.2] [] (zput h A s.1.2.2.1)) (fun k s => (zgo1 (fun i => ab_gI h B i) (q k) s.1, .int (nI (q k)))) n (fun k s hk hP => by
    obtain ⟨⟨t, p, D, b⟩, v7⟩ := s
    obtain ⟨p1, p2⟩ := hP
    dsimp only at p1 p2 ⊢
    obtain ⟨q1, q2⟩ := e2 k hk
    refine ⟨?_, zgo1_b q1 p1 p2⟩
    have hd := zdist_lt p2 q1
    rw [l49_11, zput_ne (by omega), e1, if_pos (nI_lt (by omega) (by omega))]
    have r1 : ab_gI (zput h A D) 20 k = nI (q k) := by rw [zput_ne (by omega)]; exact q2
    have r2 : ab_gI (zput h A D) B (q k) = ab_gI h B (q k) := zput_ne hAB _ _ _
    have l1 : ∀ (K : Int32 → Option ab_R), ab_ld X (zput h A D) B (nI (q k)) K = K (ab_gI h B (q k)) := fun K => by rw [z_ld (by rw [hB]) (by rw [hB]; exact q1), r2]
    have l2 : ∀ (K : Int32 → Option ab_R), ab_ld X (zput h A D) A (nI (q k)) K = K (D (q k)) := fun K => by rw [z_ld (by rw [hA]) (by rw [hA]; exact q1), zput_same]
    have l3 : ∀ (x : Int32) (K : ab_H → Option ab_R), ab_sd (zput h A D) A (nI (q k)) x K = K (zput h A (upd D (q k) x)) := fun x K => by rw [z_sd (by rw [hA]) (by rw [hA]; exact q1), zput_s]
    simp (discharger := omega) only [b49_20, zd20, r1, zabs, zlit, Bool.false_eq_true, zlt_t, zlt_f, zeq_t, zeq_f, nI_add, pk_mul, zb_0, zb_n0, not_true_eq_false, not_false_eq_true, Classical.not_not, if_true, if_false, ite_true, ite_false, and_self, and_true, true_and, and_false, false_and, or_self, or_true, true_or, or_false, false_or, reduceIte]
    unfold zgo1
    dsimp only
    by_cases ht : t + zdist p (q k) < 12
    · simp (discharger := omega) only [b49_53, b49_62, l1, s39, zpu_s, zpu_n, Option.bind_some, zlit, Bool.false_eq_true, zlt_t, zlt_f, zeq_t, zeq_f, nI_add, pk_mul, zb_0, zb_n0, not_true_eq_false, not_false_eq_true, Classical.not_not, if_true, if_false, ite_true, ite_false, and_self, and_true, true_and, and_false, false_and, or_self, or_true, true_or, or_false, false_or, reduceIte]
      by_cases hb : zB (ab_gI h B (q k)) (nI (t + zdist p (q k))) = true
      · simp (discharger := omega) only [hb, b49_65, l2, l3, b49_77, zbit_B, zlit, Bool.false_eq_true, zlt_t, zlt_f, zeq_t, zeq_f, nI_add, pk_mul, zb_0, zb_n0, not_true_eq_false, not_false_eq_true, Classical.not_not, if_true, if_false, ite_true, ite_false, and_self, and_true, true_and, and_false, false_and, or_self, or_true, true_or, or_false, false_or, reduceIte, ht]
      · simp (discharger := omega) only [hb, b49_77, zbit_B, zlit, Bool.false_eq_true, zlt_t, zlt_f, zeq_t, zeq_f, nI_add, pk_mul, zb_0, zb_n0, not_true_eq_false, not_false_eq_true, Classical.not_not, if_true, if_false, ite_true, ite_false, and_self, and_true, true_and, and_false, false_and, or_self, or_true, true_or, or_false, false_or, reduceIte]
    · simp (discharger := omega) only [b49_77, zlit, Bool.false_eq_true, zlt_t, zlt_f, zeq_t, zeq_f, nI_add, pk_mul, zb_0, zb_n0, not_true_eq_false, not_false_eq_true, Classical.not_not, if_true, if_false, ite_true, ite_false, and_self, and_true, true_and, and_false, false_and, or_self, or_true, true_or, or_false, false_or, reduceIte, ht]) ((0, 0, fun i => ab_gI h A i, 0), .null) ⟨Nat.zero_le _, (by decide : (0 : Nat) < 6)⟩
  have hz : ∀ m, (zit (fun k (s : zG × Value) => (zgo1 (fun i => ab_gI h B i) (q k) s.1, Value.int (nI (q k)))) ((0, 0, fun i => ab_gI h A i, 0), .null) m).1 = zgo (fun i => ab_gI h B i) q m (0, 0, fun i => ab_gI h A i, 0) := by
    intro m
    induction m with
    | zero => rfl
    | succ m ih =>
      show zgo1 _ (q m) _ = zgo1 _ (q m) _
      rw [ih]
      rfl
  obtain ⟨key, -⟩ := key
  dsimp only at key
  rw [zput_self, hz] at key
  rw [r49, b49_0]
  refine Eq.trans (show _ = ab_ex X (d + 1) 49 11 [.ref 19, .ref A, .ref B, .int 0, .int (nI 0), .int (nI 0), .int (nI 0), .null] [] h from rfl) ?_
  rw [key, l49_11, zput_ne (by omega), e1, if_neg (nI_nlt (by omega) (by omega)), b49_83]
/-- the hours at which the houses are empty, laid into a row of the class -/
theorem s48 (X : ab_X) (d : Nat) {N B : Nat} (hN : N ≤ 6) (hB : ab_sh B = (1, 6, 0)) (hB1 : B < 41) (w : Int32) (hw : w = nI 1) {h h0 : ab_H} (n2 : ab_gI h 41 7 = nI N) (k1 : ∀ i, i < N → ab_gI h 42 i = ab_gI h0 30 (2 + i)) (k2 : ∀ i, i < N → ab_gI h 43 i = ab_gI h0 30 (8 + i)) (k3 : ∀ i, i < N → ab_gI h 47 i = ab_gI h0 30 (14 + i)) (t1 : ∀ i, i < N → ∃ k, k < 6 ∧ ab_gI h0 30 (2 + i) = nI k) : ab_ru X (d + 2) 48 [.ref 41, .ref B, .int w] h = some (none, zput h B (fun i => if i < N then zEm h0 i else ab_gI h B i)) := by
  subst hw
  have key := zloop (fun D k => ab_ex X (d + 2) 48 2 [.ref 41, .ref B, .int (nI 1), .int (nI k)] [] (zput h B D)) (fun k D => upd D k (zEm h0 k)) N (fun k D hk => by
    rw [l48_2, zP_ob (Or.inl rfl), zput_ne (by omega), n2, if_pos (nI_lt (by omega) (by omega))]
    have ee := s32n X d hN hk (h := zput h B D) (h0 := h0) (by rw [zput_ne (by omega)]; exact k1 k hk) (by rw [zput_ne (by omega)]; exact k2 k hk) (by rw [zput_ne (by omega)]; exact k3 k hk) (t1 k hk)
    have l3 : ∀ (x : Int32) (K : ab_H → Option ab_R), ab_sd (zput h B D) B (nI k) x K = K (zput h B (upd D k x)) := fun x K => by rw [z_sd (by rw [hB]) (by rw [hB]; dsimp only; omega), zput_s]
    simp (discharger := omega) only [b48_10, b48_16, b48_21, b48_40, zP_ob, ee, l3, zpu_s, zpu_n, Option.bind_some, zlit, Bool.false_eq_true, zlt_t, zlt_f, zeq_t, zeq_f, nI_add, pk_mul, zb_0, zb_n0, not_true_eq_false, not_false_eq_true, Classical.not_not, if_true, if_false, ite_true, ite_false, and_self, and_true, true_and, and_false, false_and, or_self, or_true, true_or, or_false, false_or, reduceIte]) (fun i => ab_gI h B i)
  have hz : ∀ m, m ≤ N → zit (fun k D => upd D k (zEm h0 k)) (fun i => ab_gI h B i) m = fun i => if i < m then zEm h0 i else ab_gI h B i := by
    intro m
    induction m with
    | zero => intro _; rfl
    | succ m ih =>
      intro hm
      show upd (zit _ _ m) m (zEm h0 m) = _
      rw [ih (by omega)]
      funext i
      unfold upd
      by_cases e : i = m
      · subst e; rw [if_pos rfl, if_pos (by omega)]
      · rw [if_neg e]
        dsimp only
        by_cases e2 : i < m
        · rw [if_pos e2, if_pos (by omega)]
        · rw [if_neg e2, if_neg (by omega)]
  rw [zput_self, hz N (Nat.le_refl N)] at key
  rw [r48, b48_0]
  refine Eq.trans (show _ = ab_ex X (d + 2) 48 2 [.ref 41, .ref B, .int (nI 1), .int (nI 0)] [] h from rfl) ?_
  rw [key, l48_2, zP_ob (Or.inl rfl), zput_ne (by omega), n2, if_neg (nI_nlt (by omega) (by omega)), b48_47]
