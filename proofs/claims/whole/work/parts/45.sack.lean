/-! the sack -/
/-- a day more: one letter more, but for the snowed-in, and 99 at most -/
def zad (k x : Int32) : Int32 := x + (if k ≠ 4 ∧ x < 99 then 1 else 0)
theorem zad_n {k : Int32} {x : Nat} (hx : x ≤ 99) : ∃ y, y ≤ 99 ∧ zad k (nI x) = nI y := by
  unfold zad
  by_cases h1 : k ≠ 4 ∧ nI x < 99
  · rw [if_pos h1, nI_1]
    refine ⟨x + 1, ?_, rfl⟩
    have := (nI_ltI (a := x) (b := 99) (by omega) (by omega)).mp h1.2
    omega
  · rw [if_neg h1]
    exact ⟨x, hx, Int32.add_zero _⟩
theorem zad_min {k : Int32} (hk : k ≠ 4) {x : Nat} (hx : x ≤ 99) : ab_min (nI x + 1) 99 = zad k (nI x) := by
  unfold zad ab_min
  by_cases h1 : x < 99
  · rw [if_neg (show ¬ (99 : Int32) < nI x + 1 from by rw [nI_1]; exact nI_nlt (a := 99) (b := x + 1) (by omega) (by omega)), if_pos (show k ≠ 4 ∧ nI x < 99 from ⟨hk, nI_lt (b := 99) h1 (by omega)⟩)]
  · have : x = 99 := by omega
    subst this
    rw [if_neg (show ¬ (k ≠ 4 ∧ nI 99 < 99) from fun q => nI_nlt (a := 99) (b := 99) (by omega) (by omega) q.2), if_pos (show (99 : Int32) < nI 99 + 1 from nI_lt (a := 99) (b := 100) (by omega) (by omega))]
    rfl
theorem zad_4 (x : Int32) : zad 4 x = x := by
  unfold zad
  rw [if_neg (fun q => q.1 rfl)]
  exact Int32.add_zero x
theorem s51 (X : ab_X) (d : Nat) {N A : Nat} (hN : N ≤ 6) (hA : ab_sh A = (1, 6, 0)) (hA1 : A ≠ 41 ∧ A ≠ 42) {h : ab_H} {kd : Nat → Int32} (n2 : ab_gI h 41 7 = nI N) (k1 : ∀ i, i < N → ab_gI h 42 i = kd i) (hv : ∀ i, i < N → ∃ x, x ≤ 99 ∧ ab_gI h A i = nI x) : ab_ru X d 51 [.ref 41, .ref A] h = some (none, zput h A (fun i => if i < N then zad (kd i) (ab_gI h A i) else ab_gI h A i)) := by
  have key := zloopI (fun k (D : Nat → Int32) => D = fun i => if i < k then zad (kd i) (ab_gI h A i) else ab_gI h A i) (fun D k => ab_ex X d 51 2 [.ref 41, .ref A, .int (nI k)] [] (zput h A D)) (fun k D => upd D k (zad (kd k) (D k))) N (fun k D hk hP => by
    have hDk : D k = ab_gI h A k := by rw [hP]; exact if_neg (by omega)
    obtain ⟨x, hx, ex⟩ := hv k hk
    refine ⟨?_, ?_⟩
    · rw [l51_2, zP_ob (Or.inl rfl), zput_ne (by omega), n2, if_pos (nI_lt (by omega) (by omega)), b51_10, zP_ob (Or.inl rfl)]
      have l1 : ab_ld X (zput h A D) (ab_rf 41 0) (nI k) = fun K => K (kd k) := funext fun K => by rw [zP_rf (Or.inl rfl), zP_ld (Or.inl rfl) (by omega) (by omega), zput_ne (by omega)]; exact congrArg K (k1 k hk)
      have l2 : ∀ (K : Int32 → Option ab_R), ab_ld X (zput h A D) A (nI k) K = K (nI x) := fun K => by rw [z_ld (by rw [hA]) (by rw [hA]; dsimp only; omega), zput_same, hDk, ex]
      have l3 : ∀ (x : Int32) (K : ab_H → Option ab_R), ab_sd (zput h A D) A (nI k) x K = K (zput h A (upd D k x)) := fun x K => by rw [z_sd (by rw [hA]) (by rw [hA]; dsimp only; omega), zput_s]
      rw [l1]
      dsimp only
      by_cases h4 : kd k = 4
      · rw [if_pos h4, b51_33, nI_1, h4, zad_4]
        have : upd D k (D k) = D := by
          funext i
          unfold upd
          by_cases e : i = k
          · rw [if_pos e, e]
          · rw [if_neg e]
        rw [this]
      · rw [if_neg h4, b51_20, l2, l3, b51_33, nI_1, zad_min h4 hx, hDk, ex]
    · rw [hP]
      funext i
      unfold upd
      dsimp only
      by_cases e : i = k
      · subst e; rw [if_pos rfl, if_neg (by omega), if_pos (by omega)]
      · rw [if_neg e]
        by_cases e2 : i < k
        · rw [if_pos e2, if_pos (by omega)]
        · rw [if_neg e2, if_neg (by omega)]) (fun i => ab_gI h A i) (funext fun i => by rw [if_neg (by omega)])
  obtain ⟨key, hP⟩ := key
  rw [zput_self, hP] at key
  rw [r51, b51_0]
  refine Eq.trans (show _ = ab_ex X d 51 2 [.ref 41, .ref A, .int (nI 0)] [] h from rfl) ?_
  refine Eq.trans key ?_
  rw [l51_2, zP_ob (Or.inl rfl), zput_ne (by omega), n2, if_neg (nI_nlt (by omega) (by omega)), b51_39]
/-- without errands -/
def zE0 (h : ab_H) (i : Nat) : Int32 := zE (ab_gI h 30 (2 + i)) (ab_gI h 30 (8 + i)) 0
theorem s48z (X : ab_X) (d : Nat) {N B : Nat} (hN : N ≤ 6) (hB : ab_sh B = (1, 6, 0)) (hB1 : B < 41) {h h0 : ab_H} (n2 : ab_gI h 41 7 = nI N) (k1 : ∀ i, i < N → ab_gI h 42 i = ab_gI h0 30 (2 + i)) (k2 : ∀ i, i < N → ab_gI h 43 i = ab_gI h0 30 (8 + i)) (t1 : ∀ i, i < N → ∃ k, k < 6 ∧ ab_gI h0 30 (2 + i) = nI k) : ab_ru X (d + 2) 48 [.ref 41, .ref B, .int (nI 0)] h = some (none, zput h B (fun i => if i < N then zE0 h0 i else ab_gI h B i)) := by
  have key := zloop (fun D k => ab_ex X (d + 2) 48 2 [.ref 41, .ref B, .int (nI 0), .int (nI k)] [] (zput h B D)) (fun k D => upd D k (zE0 h0 k)) N (fun k D hk => by
    rw [l48_2, zP_ob (Or.inl rfl), zput_ne (by omega), n2, if_pos (nI_lt (by omega) (by omega))]
    obtain ⟨kk, hkk, ekk⟩ := t1 k hk
    have l1 : ab_gI (zput h B D) 42 k = nI kk := by rw [zput_ne (by omega), k1 k hk]; exact ekk
    have l2 : ab_gI (zput h B D) 43 k = ab_gI h0 30 (8 + k) := by rw [zput_ne (by omega)]; exact k2 k hk
    have l3 : ∀ (x : Int32) (K : ab_H → Option ab_R), ab_sd (zput h B D) B (nI k) x K = K (zput h B (upd D k x)) := fun x K => by rw [z_sd (by rw [hB]) (by rw [hB]; dsimp only; omega), zput_s]
    have l4 : zE (nI kk) (ab_gI h0 30 (8 + k)) (nI 0) = zE0 h0 k := by unfold zE0; rw [ekk]; rfl
    simp (discharger := omega) only [b48_10, b48_24, b48_40, zP_ob, zP_rf, Nat.reduceAdd, zd42, zd43, l1, l2, s33, l4, l3, zpu_s, zpu_n, Option.bind_some, zlit, Bool.false_eq_true, zlt_t, zlt_f, zeq_t, zeq_f, nI_add, pk_mul, zb_0, zb_n0, not_true_eq_false, not_false_eq_true, Classical.not_not, if_true, if_false, ite_true, ite_false, and_self, and_true, true_and, and_false, false_and, or_self, or_true, true_or, or_false, false_or, reduceIte]) (fun i => ab_gI h B i)
  have hz : ∀ m, m ≤ N → zit (fun k D => upd D k (zE0 h0 k)) (fun i => ab_gI h B i) m = fun i => if i < m then zE0 h0 i else ab_gI h B i := by
    intro m
    induction m with
    | zero => intro _; rfl
    | succ m ih =>
      intro hm
      unfold zit
      rw [ih (by omega)]
      funext i
      unfold upd
      dsimp only
      by_cases e : i = m
      · subst e; rw [if_pos rfl, if_pos (by omega)]
      · rw [if_neg e]
        by_cases e2 : i < m
        · rw [if_pos e2, if_pos (by omega)]
        · rw [if_neg e2, if_neg (by omega)]
  rw [zput_self, hz N (Nat.le_refl N)] at key
  rw [r48, b48_0]
  refine Eq.trans (show _ = ab_ex X (d + 2) 48 2 [.ref 41, .ref B, .int (nI 0), .int (nI 0)] [] h from rfl) ?_
  rw [key, l48_2, zP_ob (Or.inl rfl), zput_ne (by omega), n2, if_neg (nI_nlt (by omega) (by omega)), b48_47]
/-- a day: hours and letters -/
def zday (h : ab_H) (q : Nat → Nat) (n : Nat) (s : (Nat → Int32) × (Nat → Int32)) : (Nat → Int32) × (Nat → Int32) := (zE0 h, fun i => zad (ab_gI h 30 (2 + i)) ((zgone s.1 s.2 q n).1.2.2.1 i))
theorem zday_n {h : ab_H} {q : Nat → Nat} {n N : Nat} (hq : ∀ k, k < n → q k < N) {s : (Nat → Int32) × (Nat → Int32)} (hs : ∀ i, i < N → ∃ x, x ≤ 99 ∧ s.2 i = nI x) : ∀ i, i < N → ∃ x, x ≤ 99 ∧ (zday h q n s).2 i = nI x := by
  intro i hi
  obtain ⟨-, h2⟩ := zgo_n (e := s.1) (q := q) hs n hq
  obtain ⟨x, hx, ex⟩ := h2 i hi
  rw [← zgone_1] at ex
  show ∃ y, y ≤ 99 ∧ zad _ ((zgone s.1 s.2 q n).1.2.2.1 i) = nI y
  rw [ex]
  exact zad_n hx
/-- alike but for the class's two rows aside -/
def zF2 (h h' : ab_H) : Prop := (∀ c i, c ≠ 17 → c ≠ 18 → ab_gI h' c i = ab_gI h c i) ∧ ∀ c i, ab_gJ h' c i = ab_gJ h c i
theorem zF2_17 {h h' : ab_H} (a : zF2 h h') (D : Nat → Int32) : zF2 h (zput h' 17 D) := ⟨fun c i h1 h2 => (zput_ne h1 _ _ _).trans (a.1 c i h1 h2), fun c i => a.2 c i⟩
theorem zF2_18 {h h' : ab_H} (a : zF2 h h') (D : Nat → Int32) : zF2 h (zput h' 18 D) := ⟨fun c i h1 h2 => (zput_ne h2 _ _ _).trans (a.1 c i h1 h2), fun c i => a.2 c i⟩
theorem zF2_Fc {h h1 h2 : ab_H} (a : zFc h h1) (b : zF2 h1 h2) : zFc h h2 := ⟨fun c i a1 a2 a3 a4 => (b.1 c i a1 a2).trans (a.1 c i a1 a2 a3 a4), fun c i => (b.2 c i).trans (a.2 c i)⟩
/-- the class's day -/
theorem c84d (X : ab_X) (d : Nat) {N n : Nat} {q : Nat → Nat} (hN : N ≤ 6) (hn : n ≤ 12) {h h1 h' : ab_H} {s : (Nat → Int32) × (Nat → Int32)} (f : zF2 h1 h') (n2 : ab_gI h1 41 7 = nI N) (k1 : ∀ i, i < N → ab_gI h1 42 i = ab_gI h 30 (2 + i)) (k2 : ∀ i, i < N → ab_gI h1 43 i = ab_gI h 30 (8 + i)) (t1 : ∀ i, i < N → ∃ k, k < 6 ∧ ab_gI h 30 (2 + i) = nI k) (e1 : ab_gI h1 19 1 = nI n) (e2 : ∀ k, k < n → q k < N ∧ ab_gI h1 20 k = nI (q k)) (hs : ∀ i, i < N → ∃ x, x ≤ 99 ∧ s.2 i = nI x) (s1 : ∀ i, i < N → ab_gI h' 18 i = s.1 i) (s2 : ∀ i, i < N → ab_gI h' 17 i = s.2 i) (v1 v2 v3 : Value) (k : Nat) : ∃ h'', zF2 h1 h'' ∧ (∀ i, i < N → ab_gI h'' 18 i = (zday h q n s).1 i) ∧ (∀ i, i < N → ab_gI h'' 17 i = (zday h q n s).2 i) ∧ ab_ex X (d + 3) 84 63 [.ref 0, v1, v2, v3, .int (nI k)] [] h' = ab_ex X (d + 3) 84 57 [.ref 0, v1, v2, v3, .int (nI (k + 1))] [] h'' := by
  have eb := s49 X (d + 1) (A := 17) (B := 18) (n := n) (q := q) rfl rfl (by omega) (by omega) hn (h := h') (by rw [f.1 19 1 (by omega) (by omega)]; exact e1) (fun k hk => ⟨by have := (e2 k hk).1; omega, by rw [f.1 20 k (by omega) (by omega)]; exact (e2 k hk).2⟩)
  have hz := zgo_eq (N := N) (e := fun i => ab_gI h' 18 i) (e' := s.1) (q := q) (g := (0, 0, fun i => ab_gI h' 17 i, 0)) (g' := (0, 0, s.2, 0)) s1 ⟨rfl, rfl, s2, rfl⟩ n (fun k hk => (e2 k hk).1)
  rw [← zgone_1 s.1 s.2] at hz
  generalize zgo (fun i => ab_gI h' 18 i) q n (0, 0, fun i => ab_gI h' 17 i, 0) = G at eb hz
  obtain ⟨-, hb⟩ := zgo_n (e := s.1) (q := q) hs n (fun k hk => (e2 k hk).1)
  rw [← zgone_1] at hb
  have f1 : zF2 h1 (zput h' 17 G.2.2.1) := zF2_17 f _
  have ea := s51 X (d + 2) hN (A := 17) rfl (by omega) (h := zput h' 17 G.2.2.1) (kd := fun i => ab_gI h 30 (2 + i)) (by rw [f1.1 41 7 (by omega) (by omega)]; exact n2) (fun i hi => by rw [f1.1 42 i (by omega) (by omega)]; exact k1 i hi) (fun i hi => by rw [zput_same, hz.2.2.1 i hi]; exact hb i hi)
  generalize hD : (fun i => if i < N then zad (ab_gI h 30 (2 + i)) (ab_gI (zput h' 17 G.2.2.1) 17 i) else ab_gI (zput h' 17 G.2.2.1) 17 i) = D at ea
  have f2 : zF2 h1 (zput (zput h' 17 G.2.2.1) 17 D) := zF2_17 f1 _
  have ef := s48z X d hN (B := 18) rfl (by omega) (h := zput (zput h' 17 G.2.2.1) 17 D) (h0 := h) (by rw [f2.1 41 7 (by omega) (by omega)]; exact n2) (fun i hi => by rw [f2.1 42 i (by omega) (by omega)]; exact k1 i hi) (fun i hi => by rw [f2.1 43 i (by omega) (by omega)]; exact k2 i hi) t1
  refine ⟨_, zF2_18 f2 (fun i => if i < N then zE0 h i else ab_gI (zput (zput h' 17 G.2.2.1) 17 D) 18 i), fun i hi => ?_, fun i hi => ?_, ?_⟩
  · rw [zput_same, if_pos hi]; rfl
  · rw [zput_ne (by omega), zput_same, ← hD]
    dsimp only
    rw [if_pos hi, zput_same, hz.2.2.1 i hi]
    rfl
  · simp (discharger := omega) only [b84_63, b84_78, b84_90, b84_102, eb, ea, ef, zpu_s, zpu_n, Option.bind_some, zlit, Bool.false_eq_true, zlt_t, zlt_f, zeq_t, zeq_f, nI_add, pk_mul, zb_0, zb_n0, not_true_eq_false, not_false_eq_true, Classical.not_not, if_true, if_false, ite_true, ite_false, and_self, and_true, true_and, and_false, false_and, or_self, or_true, true_or, or_false, false_or, reduceIte]
/-- the reference's day -/
theorem m173d (X : ab_X) (d : Nat) {N n j : Nat} {q : Nat → Nat} (hN : N ≤ 6) (hn : n ≤ 12) (hj : j < 6) {h h1 h' : ab_H} {s : (Nat → Int32) × (Nat → Int32)} (f : zFr h1 h') (e30 : ∀ i, ab_gI h1 30 i = ab_gI h 30 i) (n5 : ab_gI h 30 0 = nI N) (t1 : ∀ i, i < N → ∃ k, k < 6 ∧ ab_gI h 30 (2 + i) = nI k) (hss : ab_gI h1 33 j = nI n) (e2 : ∀ k, k < n → q k < N ∧ ab_gI h1 32 (40 * j + k) = nI (q k)) (s1 : ∀ i, i < N → ab_gI h' 38 i = s.1 i) (s2 : ∀ i, i < N → ab_gI h' 39 i = s.2 i) (v2 v3 v5 : Value) (k : Nat) : ∃ h'' w5, zFr h1 h'' ∧ (∀ i, i < N → ab_gI h'' 38 i = (zday h q n s).1 i) ∧ (∀ i, i < N → ab_gI h'' 39 i = (zday h q n s).2 i) ∧ ab_ex X (d + 3) 173 46 [.ref 29, .int (nI j), v2, v3, .int (nI k), v5] [] h' = ab_ex X (d + 3) 173 40 [.ref 29, .int (nI j), v2, v3, .int (nI (k + 1)), w5] [] h'' := by
  obtain ⟨h3, p1, p2, p3, p4, p5, p6, p7⟩ := f147 X d (N := N) (q := q) hj hn hN f hss e2 (e := s.1) (D := s.2) s1 s2
  have step : ∀ m, m ≤ N → ∃ h'', zFr h1 h'' ∧ (∀ i, i < m → ab_gI h'' 38 i = (zday h q n s).1 i) ∧ (∀ i, i < m → ab_gI h'' 39 i = (zday h q n s).2 i) ∧ (∀ i, m ≤ i → i < N → ab_gI h'' 39 i = (zgone s.1 s.2 q n).1.2.2.1 i) ∧ ab_ex X (d + 3) 173 54 [.ref 29, .int (nI j), v2, v3, .int (nI k), .int (nI 0)] [] h3 = ab_ex X (d + 3) 173 54 [.ref 29, .int (nI j), v2, v3, .int (nI k), .int (nI m)] [] h'' := by
    intro m
    induction m with
    | zero => intro _; exact ⟨h3, p2, fun i hi => by omega, fun i hi => by omega, fun i _ hi => p4 i hi, rfl⟩
    | succ m ih =>
      intro hm
      obtain ⟨h'', a1, a2, a3, a4, a5⟩ := ih (by omega)
      have g30 : ∀ i, ab_gI h'' 30 i = ab_gI h 30 i := fun i => (a1.1 30 i (by omega) (by omega) (by omega)).trans (e30 i)
      obtain ⟨kk, hkk, ekk⟩ := t1 m (by omega)
      have gk := (g30 (2 + m)).trans ekk
      have g0 := (g30 0).trans n5
      have g9 := a4 m (Nat.le_refl m) (by omega)
      have el : zE (nI kk) (ab_gI h 30 (8 + m)) (nI 0) = zE0 h m := by unfold zE0; rw [ekk]; rfl
      rw [a5, l173_54]
      refine ⟨ab_sI (ab_sI h'' 39 m (zad (nI kk) ((zgone s.1 s.2 q n).1.2.2.1 m))) 38 m (zE0 h m), zFr_s38 (zFr_s39 a1 _ _) _ _, fun i hi => ?_, fun i hi => ?_, fun i h1 h2 => ?_, ?_⟩
      · rw [zg_same]
        by_cases e : i = m
        · rw [if_pos e, e]; rfl
        · rw [if_neg e, zg_ne (by omega)]; exact a2 i (by omega)
      · rw [zg_ne (by omega), zg_same]
        by_cases e : i = m
        · subst e; rw [if_pos rfl]
          show zad (nI kk) _ = zad (ab_gI h 30 (2 + i)) _
          rw [ekk]
        · rw [if_neg e]; exact a3 i (by omega)
      · rw [zg_ne (by omega), zg_nj (by omega)]; exact a4 i (by omega) h2
      · generalize (zgone s.1 s.2 q n).1.2.2.1 m = x at g9 ⊢
        by_cases c4 : kk = 4
        · subst c4
          have ez : zad (nI 4) x = x + nI 0 := by rw [show nI 4 = (4 : Int32) from rfl, zad_4]; exact (Int32.add_zero x).symm
          rw [ez]
          simp (discharger := omega) only [b173_65, b173_102, b173_103, b173_134, zd30, zd39, zs39, zs38, g0, gk, g9, g30, zg_ne, zj_ne, zc_ne, zk_ne, zf_ne, s135, el, zpu_s, zpu_n, Option.bind_some, zlit, Bool.false_eq_true, zlt_t, zlt_f, zeq_t, zeq_f, nI_add, pk_mul, zb_0, zb_n0, not_true_eq_false, not_false_eq_true, Classical.not_not, if_true, if_false, ite_true, ite_false, and_self, and_true, true_and, and_false, false_and, or_self, or_true, true_or, or_false, false_or, reduceIte]
        · by_cases c9 : x < nI 99
          · have ez : zad (nI kk) x = x + nI 1 := by unfold zad; rw [if_pos ⟨fun e => c4 ((nI_eq (b := 4) (by omega) (by omega)).mp e), c9⟩]; rfl
            rw [ez]
            simp (discharger := omega) only [b173_65, b173_86, b173_98, b173_103, b173_134, zd30, zd39, zs39, zs38, g0, gk, g9, g30, c9, zg_ne, zj_ne, zc_ne, zk_ne, zf_ne, s135, el, zpu_s, zpu_n, Option.bind_some, zlit, Bool.false_eq_true, zlt_t, zlt_f, zeq_t, zeq_f, nI_add, pk_mul, zb_0, zb_n0, not_true_eq_false, not_false_eq_true, Classical.not_not, if_true, if_false, ite_true, ite_false, and_self, and_true, true_and, and_false, false_and, or_self, or_true, true_or, or_false, false_or, reduceIte]
          · have ez : zad (nI kk) x = x + nI 0 := by unfold zad; rw [if_neg (fun q => c9 q.2)]; rfl
            rw [ez]
            simp (discharger := omega) only [b173_65, b173_86, b173_102, b173_103, b173_134, zd30, zd39, zs39, zs38, g0, gk, g9, g30, c9, zg_ne, zj_ne, zc_ne, zk_ne, zf_ne, s135, el, zpu_s, zpu_n, Option.bind_some, zlit, Bool.false_eq_true, zlt_t, zlt_f, zeq_t, zeq_f, nI_add, pk_mul, zb_0, zb_n0, not_true_eq_false, not_false_eq_true, Classical.not_not, if_true, if_false, ite_true, ite_false, and_self, and_true, true_and, and_false, false_and, or_self, or_true, true_or, or_false, false_or, reduceIte]
  obtain ⟨h'', a1, a2, a3, a4, a5⟩ := step N (Nat.le_refl N)
  have g0 : ab_gI h'' 30 0 = nI N := ((a1.1 30 0 (by omega) (by omega) (by omega)).trans (e30 0)).trans n5
  refine ⟨h'', .int (nI N), a1, a2, a3, ?_⟩
  simp (discharger := omega) only [b173_46, b173_51, p1, zpu_s, zpu_n, Option.bind_some, zlit, Bool.false_eq_true, zlt_t, zlt_f, zeq_t, zeq_f, nI_add, pk_mul, zb_0, zb_n0, not_true_eq_false, not_false_eq_true, Classical.not_not, if_true, if_false, ite_true, ite_false, and_self, and_true, true_and, and_false, false_and, or_self, or_true, true_or, or_false, false_or, reduceIte]
  rw [a5, l173_54]
  simp (discharger := omega) only [zd30, g0, b173_141, zlit, Bool.false_eq_true, zlt_t, zlt_f, zeq_t, zeq_f, nI_add, pk_mul, zb_0, zb_n0, not_true_eq_false, not_false_eq_true, Classical.not_not, if_true, if_false, ite_true, ite_false, and_self, and_true, true_and, and_false, false_and, or_self, or_true, true_or, or_false, false_or, reduceIte]
theorem zJ30 : (30 : Int64) = (nI 30).toInt64 := rfl
set_option maxHeartbeats 1000000 in
theorem cp_sack (X : ab_X) (d : Nat) (r p : Int32) {h : ab_H} (hI : zInv h) : zCp X (d + 30) 84 173 [.int r, .int p] h := by
  obtain ⟨N, dc, hN, hdc, n0, n1, n2, n3, n4, n5, k1, k2, k3, k4, k5, t1, t2, t3, t4⟩ := znow hI
  by_cases hp : ¬ (¬ p < nI 0 ∧ p < nI 31)
  · have e1 : ab_ru X (d + 30) 84 [.ref 0, .int r, .int p] h = some (some (.int (-nI 1)), h) := by
      by_cases hp0 : p < nI 0
      · simp (discharger := omega) only [r84, b84_0, b84_10, zlit, Bool.false_eq_true, zlt_t, zlt_f, zeq_t, zeq_f, nI_add, pk_mul, zb_0, zb_n0, not_true_eq_false, not_false_eq_true, Classical.not_not, if_true, if_false, ite_true, ite_false, and_self, and_true, true_and, and_false, false_and, or_self, or_true, true_or, or_false, false_or, reduceIte, hp0]
      · have hp2 : ¬ p < nI (30 + 1) := fun q => hp ⟨hp0, q⟩
        simp (discharger := omega) only [r84, b84_0, b84_4, b84_10, zlit, Bool.false_eq_true, zlt_t, zlt_f, zeq_t, zeq_f, nI_add, pk_mul, zb_0, zb_n0, not_true_eq_false, not_false_eq_true, Classical.not_not, if_true, if_false, ite_true, ite_false, and_self, and_true, true_and, and_false, false_and, or_self, or_true, true_or, or_false, false_or, reduceIte, hp0, znlt (n := 30) (by omega) p, hp2]
    refine zCp_mk e1 (v := .int (-nI 1)) (h2 := h) ?_ hI
    have hp3 : ¬ (¬ p < nI 0 ∧ ¬ nI 30 < p) := by rw [znlt (n := 30) (by omega) p, Classical.not_not]; exact hp
    by_cases hr : ¬ r < nI 0 ∧ r < nI 6
    · simp (discharger := omega) only [r173, b173_0, b173_4, b173_7, b173_16, b173_19, s106, s107i, zJ0, zJ30, zpu_s, zpu_n, Option.bind_some, zlit, Bool.false_eq_true, zlt_t, zlt_f, zeq_t, zeq_f, nI_add, pk_mul, zb_0, zb_n0, not_true_eq_false, not_false_eq_true, Classical.not_not, if_true, if_false, ite_true, ite_false, and_self, and_true, true_and, and_false, false_and, or_self, or_true, true_or, or_false, false_or, reduceIte, hr, hp3]
    · simp (discharger := omega) only [r173, b173_0, b173_4, b173_7, b173_16, b173_19, s106, s107i, zJ0, zJ30, zpu_s, zpu_n, Option.bind_some, zlit, Bool.false_eq_true, zlt_t, zlt_f, zeq_t, zeq_f, nI_add, pk_mul, zb_0, zb_n0, not_true_eq_false, not_false_eq_true, Classical.not_not, if_true, if_false, ite_true, ite_false, and_self, and_true, true_and, and_false, false_and, or_self, or_true, true_or, or_false, false_or, reduceIte, hr]
  have hp := Classical.not_not.mp hp
  rcases zix p (n := 31) (by omega) with q | q | ⟨c, hc, rfl⟩
  · exact absurd q hp.1
  · exact absurd hp.2 q.2
  rcases zround X (d + 9) r hI hN n2 n5 with ⟨v, h1, h2, hv, e1, e2, hI2, hnr⟩ | ⟨j, n, hj, rfl, hN0, hn, b2, b3, hq, e1, e2⟩
  · have hv0 := zv0 hv
    have hvl := zvl hv
    have ec : ab_ru X (d + 30) 84 [.ref 0, .int r, .int (nI c)] h = some (some (.int v), h1) := by
      simp (discharger := omega) only [r84, b84_0, b84_4, b84_12, b84_17, b84_22, e1, zpu_s, zpu_n, Option.bind_some, zlit, Bool.false_eq_true, zlt_t, zlt_f, zeq_t, zeq_f, nI_add, pk_mul, zb_0, zb_n0, not_true_eq_false, not_false_eq_true, Classical.not_not, if_true, if_false, ite_true, ite_false, and_self, and_true, true_and, and_false, false_and, or_self, or_true, true_or, or_false, false_or, reduceIte, hv0]
    by_cases hr : ¬ r < nI 0 ∧ r < nI 6
    · refine zCp_mk ec ?_ hI2
      simp (discharger := omega) only [r173, b173_0, b173_4, b173_7, b173_16, b173_21, b173_26, b173_31, s106, s107i, zJ0, zJ30, e2, zpu_s, zpu_n, Option.bind_some, zlit, Bool.false_eq_true, zlt_t, zlt_f, zeq_t, zeq_f, nI_add, pk_mul, zb_0, zb_n0, not_true_eq_false, not_false_eq_true, Classical.not_not, if_true, if_false, ite_true, ite_false, and_self, and_true, true_and, and_false, false_and, or_self, or_true, true_or, or_false, false_or, reduceIte, hr, hvl]
    · obtain ⟨rfl, rfl⟩ := hnr.1 hr
      refine zCp_mk ec ?_ hI
      simp (discharger := omega) only [r173, b173_0, b173_4, b173_19, s106, zpu_s, zpu_n, Option.bind_some, zlit, Bool.false_eq_true, zlt_t, zlt_f, zeq_t, zeq_f, nI_add, pk_mul, zb_0, zb_n0, not_true_eq_false, not_false_eq_true, Classical.not_not, if_true, if_false, ite_true, ite_false, and_self, and_true, true_and, and_false, false_and, or_self, or_true, true_or, or_false, false_or, reduceIte, hr]
  · have hq' := zqf_get hN hq
    have f := zFc_Rd h j n
    have f19 := zRd_19 h j n
    have f20 : ∀ k, k < n → zqf h j k < N ∧ ab_gI (zRd h j n) 20 k = nI (zqf h j k) := fun k hk => ⟨(hq' k hk).1, by rw [zRd_20 hk (b3 k (by omega)) hj]; exact (hq' k hk).2⟩
    have g41 := (f.1 41 7 (by omega) (by omega) (by omega) (by omega)).trans n2
    have g42 := fun i (hi : i < N) => (f.1 42 i (by omega) (by omega) (by omega) (by omega)).trans (k1 i hi)
    have g43 := fun i (hi : i < N) => (f.1 43 i (by omega) (by omega) (by omega) (by omega)).trans (k2 i hi)
    have g47 := fun i (hi : i < N) => (f.1 47 i (by omega) (by omega) (by omega) (by omega)).trans (k3 i hi)
    have g45 := fun i (hi : i < N) => (f.1 45 i (by omega) (by omega) (by omega) (by omega)).trans (k4 i hi)
    have cc : ab_cp (zRd h j n) 45 0 17 0 6 = fun K => K (ab_cI (zRd h j n) 45 0 17 0 6) := funext fun K => z_cp (a := 45) (b := 17) (sp := 0) (dp := 0) (n := 6) rfl rfl (by decide) (by decide) (zRd h j n) K
    have fA : zF2 (zRd h j n) (ab_cI (zRd h j n) 45 0 17 0 6) := ⟨fun c i h1 _ => zc_ne h1 _ _ _ _ _ _, fun _ _ => rfl⟩
    have ef := s48 X (d + 27) hN (B := 18) rfl (by omega) (nI 1) rfl (h := ab_cI (zRd h j n) 45 0 17 0 6) (h0 := h) (by rw [fA.1 _ _ (by omega) (by omega)]; exact g41) (fun i hi => by rw [fA.1 _ _ (by omega) (by omega)]; exact g42 i hi) (fun i hi => by rw [fA.1 _ _ (by omega) (by omega)]; exact g43 i hi) (fun i hi => by rw [fA.1 _ _ (by omega) (by omega)]; exact g47 i hi) t1
    have fB := zF2_18 fA (fun i => if i < N then zEm h i else ab_gI (ab_cI (zRd h j n) 45 0 17 0 6) 18 i)
    have c18 : ∀ i, i < N → ab_gI (zput (ab_cI (zRd h j n) 45 0 17 0 6) 18 (fun i => if i < N then zEm h i else ab_gI (ab_cI (zRd h j n) 45 0 17 0 6) 18 i)) 18 i = zEm h i := fun i hi => by rw [zput_same, if_pos hi]
    have c17 : ∀ i, i < N → ab_gI (zput (ab_cI (zRd h j n) 45 0 17 0 6) 18 (fun i => if i < N then zEm h i else ab_gI (ab_cI (zRd h j n) 45 0 17 0 6) 18 i)) 17 i = ab_gI h 30 (20 + i) := fun i hi => by
      rw [zput_ne (by omega), zc_same, if_pos (by omega), show 0 + (i - 0) = i by omega]
      exact g45 i hi
    generalize zput (ab_cI (zRd h j n) 45 0 17 0 6) 18 (fun i => if i < N then zEm h i else ab_gI (ab_cI (zRd h j n) 45 0 17 0 6) 18 i) = hB at ef fB c18 c17
    have hbd : ∀ k, ∀ i, i < N → ∃ x, x ≤ 99 ∧ (zit (fun _ s => zday h (zqf h j) n s) (zEm h, fun i => ab_gI h 30 (20 + i)) k).2 i = nI x := by
      intro k
      induction k with
      | zero => exact t4
      | succ k ih => exact zday_n (fun k hk => (hq' k hk).1) ih
    have hcl : ∀ k, k ≤ c → ∃ h'', zF2 (zRd h j n) h'' ∧ (∀ i, i < N → ab_gI h'' 18 i = (zit (fun _ s => zday h (zqf h j) n s) (zEm h, fun i => ab_gI h 30 (20 + i)) k).1 i) ∧ (∀ i, i < N → ab_gI h'' 17 i = (zit (fun _ s => zday h (zqf h j) n s) (zEm h, fun i => ab_gI h 30 (20 + i)) k).2 i) ∧ ab_ex X (d + 30) 84 57 [.ref 0, .int (nI j), .int (nI c), .int (nI 0), .int (nI 0)] [] hB = ab_ex X (d + 30) 84 57 [.ref 0, .int (nI j), .int (nI c), .int (nI 0), .int (nI k)] [] h'' := by
      intro k
      induction k with
      | zero => intro _; exact ⟨hB, fB, c18, c17, rfl⟩
      | succ k ih =>
        intro hk
        obtain ⟨h'', a1, a2, a3, a4⟩ := ih (by omega)
        obtain ⟨h3, p1, p2, p3, p4⟩ := c84d X (d + 27) hN hn (h := h) a1 g41 g42 g43 t1 f19 f20 (hbd k) a2 a3 (.int (nI j)) (.int (nI c)) (.int (nI 0)) k
        refine ⟨h3, p1, p2, p3, ?_⟩
        rw [a4, l84_57, if_pos (nI_lt (by omega) (by omega))]
        exact p4
    obtain ⟨hc1, a1, a2, a3, a4⟩ := hcl c (Nat.le_refl c)
    have ec : ab_ru X (d + 30) 84 [.ref 0, .int (nI j), .int (nI c)] h = some (some (.int (zit (fun k s => s + (zit (fun _ s => zday h (zqf h j) n s) (zEm h, fun i => ab_gI h 30 (20 + i)) c).2 k) (nI 0) N)), hc1) := by
      simp (discharger := omega) only [r84, b84_0, b84_4, b84_12, b84_17, e1, zpu_s, zpu_n, Option.bind_some, zlit, Bool.false_eq_true, zlt_t, zlt_f, zeq_t, zeq_f, nI_add, pk_mul, zb_0, zb_n0, not_true_eq_false, not_false_eq_true, Classical.not_not, if_true, if_false, ite_true, ite_false, and_self, and_true, true_and, and_false, false_and, or_self, or_true, true_or, or_false, false_or, reduceIte]
      rw [b84_24, cc]
      dsimp only
      rw [show (1 : Int32) = nI 1 from rfl, ef]
      simp only [zpu_s, zpu_n, Option.bind_some, b84_54, zlit]
      rw [a4, l84_57, if_neg (nI_nlt (by omega) (by omega)), b84_108, s85 X _ (Or.inl rfl) rfl hN (by rw [a1.1 41 7 (by omega) (by omega)]; exact g41)]
      simp only [zpu_s, zpu_n, Option.bind_some, b84_119]
      exact congrArg (fun v => some (some (Value.int v), hc1)) (zit_congr (fun k s hk => by rw [a3 k hk]))
    have fC := zF2_Fc f a1
    have g30 : ∀ i, ab_gI hc1 30 i = ab_gI h 30 i := fun i => fC.1 30 i (by omega) (by omega) (by omega) (by omega)
    have g32 : ∀ i, ab_gI hc1 32 i = ab_gI h 32 i := fun i => fC.1 32 i (by omega) (by omega) (by omega) (by omega)
    have g33 : ab_gI hc1 33 j = nI n := (fC.1 33 j (by omega) (by omega) (by omega) (by omega)).trans b2
    have e2' := f144 X (d + 9) hj hn hN hN0 (q := zqf h j) (h := hc1) (by rw [g30]; exact n5) g33 (fun k hk => ⟨(hq' k hk).1, by rw [g32]; exact (hq' k hk).2⟩)
    obtain ⟨hb, m1, m2, m3, m4⟩ := f145 X (d + 27) hN (zFr_refl hc1) (by rw [g30]; exact n5) (fun i hi => by rw [g30]; exact t1 i hi)
    have hml : ∀ k, k ≤ c → ∃ h'' w5, zFr hc1 h'' ∧ (∀ i, i < N → ab_gI h'' 38 i = (zit (fun _ s => zday h (zqf h j) n s) (zEm h, fun i => ab_gI h 30 (20 + i)) k).1 i) ∧ (∀ i, i < N → ab_gI h'' 39 i = (zit (fun _ s => zday h (zqf h j) n s) (zEm h, fun i => ab_gI h 30 (20 + i)) k).2 i) ∧ ab_ex X (d + 30) 173 40 [.ref 29, .int (nI j), .int (nI c), .int (nI 0), .int (nI 0), .null] [] hb = ab_ex X (d + 30) 173 40 [.ref 29, .int (nI j), .int (nI c), .int (nI 0), .int (nI k), w5] [] h'' := by
      intro k
      induction k with
      | zero => intro _; exact ⟨hb, .null, m2, fun i hi => (m3 i hi).trans (zEm_congr g30 i), fun i hi => by rw [m4 i hi, g30]; rfl, rfl⟩
      | succ k ih =>
        intro hk
        obtain ⟨h'', w5, u1, u2, u3, u4⟩ := ih (by omega)
        obtain ⟨h3, w6, p1, p2, p3, p4⟩ := m173d X (d + 27) (q := zqf h j) hN hn hj (h := h) u1 g30 n5 t1 g33 (fun k hk => ⟨(hq' k hk).1, by rw [g32]; exact (hq' k hk).2⟩) u2 u3 (.int (nI c)) (.int (nI 0)) w5 k
        refine ⟨h3, w6, p1, p2, p3, ?_⟩
        rw [u4, l173_40, if_pos (nI_lt (by omega) (by omega))]
        exact p4
    obtain ⟨hm, w5, u1, u2, u3, u4⟩ := hml c (Nat.le_refl c)
    have gm : ab_gI hm 30 0 = nI N := ((u1.1 30 0 (by omega) (by omega) (by omega)).trans (g30 0)).trans n5
    refine zCp_mk ec (h2 := hm) ?_ (zInv_Fr (zInv_Fc hI fC) u1)
    have key := zloop (fun s k => ab_ex X (d + 30) 173 153 [.ref 29, .int (nI j), .int (nI c), .int (nI 0), .int s, .int (nI k)] [] hm) (fun k s => s + (zit (fun _ s => zday h (zqf h j) n s) (zEm h, fun i => ab_gI h 30 (20 + i)) c).2 k) N (fun k s hk => by
      rw [l173_153]
      simp (discharger := omega) only [zd30, gm, b173_164, zd39, u3 k hk, zlit, Bool.false_eq_true, zlt_t, zlt_f, zeq_t, zeq_f, nI_add, pk_mul, zb_0, zb_n0, not_true_eq_false, not_false_eq_true, Classical.not_not, if_true, if_false, ite_true, ite_false, and_self, and_true, true_and, and_false, false_and, or_self, or_true, true_or, or_false, false_or, reduceIte]) (nI 0)
    simp (discharger := omega) only [r173, b173_0, b173_4, b173_7, b173_16, b173_21, b173_26, b173_33, b173_37, s106, s107i, zJ0, zJ30, e2', m1, zpu_s, zpu_n, Option.bind_some, zlit, Bool.false_eq_true, zlt_t, zlt_f, zeq_t, zeq_f, nI_add, pk_mul, zb_0, zb_n0, not_true_eq_false, not_false_eq_true, Classical.not_not, if_true, if_false, ite_true, ite_false, and_self, and_true, true_and, and_false, false_and, or_self, or_true, true_or, or_false, false_or, reduceIte]
    rw [u4, l173_40, if_neg (nI_nlt (by omega) (by omega)), b173_147]
    refine Eq.trans key ?_
    rw [l173_153]
    simp (discharger := omega) only [zd30, gm, b173_182, zlit, Bool.false_eq_true, zlt_t, zlt_f, zeq_t, zeq_f, nI_add, pk_mul, zb_0, zb_n0, not_true_eq_false, not_false_eq_true, Classical.not_not, if_true, if_false, ite_true, ite_false, and_self, and_true, true_and, and_false, false_and, or_self, or_true, true_or, or_false, false_or, reduceIte]
