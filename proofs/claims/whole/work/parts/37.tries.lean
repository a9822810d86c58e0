/-! rounds gone aside, on both sides -/
def zgom (e : Nat → Int32) (q : Nat → Nat) (n : Nat) (s : zM) : zM := zit (fun k s => zgm1 e (q k) s) s n
theorem zgom_1 (e : Nat → Int32) (q : Nat → Nat) (s : zM) : ∀ n, (zgom e q n s).1 = zgo e q n s.1
  | 0 => rfl
  | n + 1 => by
    show zgo1 e (q n) (zgom e q n s).1 = zgo1 e (q n) (zgo e q n s.1)
    rw [zgom_1 e q s n]
theorem zgo_b {e : Nat → Int32} {q : Nat → Nat} {g : zG} (h1 : g.1 = 0) (h2 : g.2.1 < 6) : ∀ n, (∀ k, k < n → q k < 6) → (zgo e q n g).1 ≤ 5 * n ∧ (zgo e q n g).2.1 < 6
  | 0, _ => ⟨by show g.1 ≤ _; omega, h2⟩
  | n + 1, hq => by
    obtain ⟨a, b⟩ := zgo_b (e := e) h1 h2 n (fun k hk => hq k (by omega))
    exact zgo1_b (hq n (by omega)) a b
theorem s147 (X : ab_X) (d : Nat) {r n : Nat} {q : Nat → Nat} (hr : r < 6) (hn : n ≤ 12) {h : ab_H} (hs : ab_gI h 33 r = nI n) (hq : ∀ k, k < n → q k < 6 ∧ ab_gI h 32 (40 * r + k) = nI (q k)) : ab_ru X (d + 2) 147 [.ref 29, .int (nI r)] h = some (none, zmh h (zgom (fun i => ab_gI h 38 i) q n ((0, 0, fun i => ab_gI h 39 i, 0), 0, 0))) := by
  have key := zloopI (fun k (s : zM) => s.1.1 ≤ 5 * k ∧ s.1.2.1 < 6) (fun s k => ab_ex X (d + 2) 147 6 [.ref 29, .int (nI r), .int (nI k)] [] (zmh h s)) (fun k s => zgm1 (fun i => ab_gI h 38 i) (q k) s) n (fun k s hk hP => by
    obtain ⟨q1, q2⟩ := hq k hk
    refine ⟨?_, zgo1_b q1 hP.1 hP.2⟩
    have hP1 := hP.1
    rw [l147_6]
    simp (discharger := omega) only [zd33, zmh_ne, hs, zlit, Bool.false_eq_true, zlt_t, zlt_f, zeq_t, zeq_f, nI_add, pk_mul, zb_0, zb_n0, not_true_eq_false, not_false_eq_true, Classical.not_not, if_true, if_false, ite_true, ite_false, and_self, and_true, true_and, and_false, false_and, or_self, or_true, true_or, or_false, false_or, reduceIte, b147_16, zd32, q2, b147_31, s148 X _ q1 h (by omega) hP.2, zpu_s, zpu_n, Option.bind_some]) ((0, 0, fun i => ab_gI h 39 i, 0), 0, 0) ⟨Nat.zero_le _, (by decide : (0 : Nat) < 6)⟩
  rw [r147, b147_0, s146]
  simp only [zpu_s, zpu_n, Option.bind_some]
  rw [b147_4]
  refine Eq.trans (show _ = ab_ex X (d + 2) 147 6 [.ref 29, .int (nI r), .int (nI 0)] [] (zmh h ((0, 0, fun i => ab_gI h 39 i, 0), 0, 0)) from rfl) ?_
  refine Eq.trans key.1 ?_
  rw [l147_6]
  simp (discharger := omega) only [zd33, zmh_ne, hs, zlit, Bool.false_eq_true, zlt_t, zlt_f, zeq_t, zeq_f, nI_add, pk_mul, zb_0, zb_n0, not_true_eq_false, not_false_eq_true, Classical.not_not, if_true, if_false, ite_true, ite_false, and_self, and_true, true_and, and_false, false_and, or_self, or_true, true_or, or_false, false_or, reduceIte, b147_38]
  rfl
theorem s145 (X : ab_X) (d : Nat) {N : Nat} (hN : N ≤ 6) {h : ab_H} (n5 : ab_gI h 30 0 = nI N) (t1 : ∀ i, i < N → ∃ k, k < 6 ∧ ab_gI h 30 (2 + i) = nI k) : ab_ru X (d + 2) 145 [.ref 29] h = some (none, zmh (zput h 38 (fun i => if i < N then zEm h i else ab_gI h 38 i)) ((0, 0, fun i => if i < N then ab_gI h 30 (20 + i) else ab_gI h 39 i, 0), 0, 0)) := by
  have key := zloop (fun (D : (Nat → Int32) × (Nat → Int32)) k => ab_ex X (d + 2) 145 2 [.ref 29, .int (nI k)] [] (zput (zput h 38 D.1) 39 D.2)) (fun k D => (upd D.1 k (zEm h k), upd D.2 k (ab_gI h 30 (20 + k)))) N (fun k D hk => by
    have e30 : ∀ i, ab_gI (zput (zput h 38 D.1) 39 D.2) 30 i = ab_gI h 30 i := fun i => by rw [zput_ne (by omega), zput_ne (by omega)]
    have ee := s134n X d hN hk (h := zput (zput h 38 D.1) 39 D.2) (by rw [e30]; exact t1 k hk)
    have em : zEm (zput (zput h 38 D.1) 39 D.2) k = zEm h k := by unfold zEm; rw [e30, e30, e30]
    rw [em] at ee
    have es1 : ∀ x, ab_sI (zput (zput h 38 D.1) 39 D.2) 38 k x = zput (zput h 38 (upd D.1 k x)) 39 D.2 := fun x => by
      refine zh_ext (fun c i => ?_) (fun _ _ => rfl)
      by_cases c1 : c = 38
      · subst c1; rw [zg_same, zput_ne (by omega), zput_same, zput_ne (by omega), zput_same]; rfl
      · by_cases c2 : c = 39
        · subst c2; rw [zg_ne c1, zput_same, zput_same]
        · rw [zg_ne c1, zput_ne c2, zput_ne c1, zput_ne c2, zput_ne c1]
    have e30' : ∀ i x, ab_gI (zput (zput h 38 (upd D.1 k x)) 39 D.2) 30 i = ab_gI h 30 i := fun i x => by rw [zput_ne (by omega), zput_ne (by omega)]
    rw [l145_2]
    simp (discharger := omega) only [zd30, e30, n5, zlit, Bool.false_eq_true, zlt_t, zlt_f, zeq_t, zeq_f, nI_add, pk_mul, zb_0, zb_n0, not_true_eq_false, not_false_eq_true, Classical.not_not, if_true, if_false, ite_true, ite_false, and_self, and_true, true_and, and_false, false_and, or_self, or_true, true_or, or_false, false_or, reduceIte, b145_12, ee, zpu_s, zpu_n, Option.bind_some, b145_22, zs38, es1, e30', zs39, zput_s]) ((fun i => ab_gI h 38 i), (fun i => ab_gI h 39 i))
  have hz : ∀ m, m ≤ N → zit (fun k (D : (Nat → Int32) × (Nat → Int32)) => (upd D.1 k (zEm h k), upd D.2 k (ab_gI h 30 (20 + k)))) ((fun i => ab_gI h 38 i), (fun i => ab_gI h 39 i)) m = ((fun i => if i < m then zEm h i else ab_gI h 38 i), (fun i => if i < m then ab_gI h 30 (20 + i) else ab_gI h 39 i)) := by
    intro m
    induction m with
    | zero => intro _; rfl
    | succ m ih =>
      intro hm
      unfold zit
      rw [ih (by omega)]
      refine Prod.ext (funext fun i => ?_) (funext fun i => ?_)
      all_goals
        dsimp only [upd]
        by_cases e : i = m
        · subst e; rw [if_pos rfl, if_pos (by omega)]
        · rw [if_neg e]
          by_cases e2 : i < m
          · rw [if_pos e2, if_pos (by omega)]
          · rw [if_neg e2, if_neg (by omega)]
  rw [hz N (Nat.le_refl N)] at key
  dsimp only at key
  have e0 : zput (zput h 38 (fun i => ab_gI h 38 i)) 39 (fun i => ab_gI h 39 i) = h := by
    rw [zput_self, zput_self]
  rw [e0] at key
  simp (discharger := omega) only [r145, b145_0, zlit]
  rw [key, l145_2]
  have e30 : ab_gI (zput (zput h 38 (fun i => if i < N then zEm h i else ab_gI h 38 i)) 39 (fun i => if i < N then ab_gI h 30 (20 + i) else ab_gI h 39 i)) 30 0 = nI N := by rw [zput_ne (by omega), zput_ne (by omega)]; exact n5
  simp (discharger := omega) only [zd30, e30, zlit, Bool.false_eq_true, zlt_t, zlt_f, zeq_t, zeq_f, nI_add, pk_mul, zb_0, zb_n0, not_true_eq_false, not_false_eq_true, Classical.not_not, if_true, if_false, ite_true, ite_false, and_self, and_true, true_and, and_false, false_and, or_self, or_true, true_or, or_false, false_or, reduceIte, b145_44, b145_48, s146, zpu_s, zpu_n, Option.bind_some]
  refine congrArg (fun z => some (none, z)) (zext29 (fun i => ?_) rfl rfl rfl rfl rfl (fun i hi => ?_) (fun c i h1 h2 => ?_) (fun c i => rfl))
  · rw [zmh_39]
    dsimp only
    rw [zput_same]
  · rw [zmh_29 hi, zput_ne (by omega)]
  · rw [zmh_ne h1 h2, zput_ne h1]
/-- goings that are alike for the first N houses -/
def zgEq (N : Nat) (g g' : zG) : Prop := g.1 = g'.1 ∧ g.2.1 = g'.2.1 ∧ (∀ i, i < N → g.2.2.1 i = g'.2.2.1 i) ∧ g.2.2.2 = g'.2.2.2
theorem zgo1_eq {N : Nat} {e e' : Nat → Int32} {q : Nat} {g g' : zG} (hq : q < N) (he : ∀ i, i < N → e i = e' i) (hg : zgEq N g g') : zgEq N (zgo1 e q g) (zgo1 e' q g') := by
  obtain ⟨a1, a2, a3, a4⟩ := hg
  unfold zgo1
  rw [a1, a2, he q hq]
  split
  · refine ⟨rfl, rfl, fun i hi => ?_, by rw [a4, a3 q hq]⟩
    dsimp only [upd]
    by_cases e : i = q
    · rw [if_pos e, if_pos e]
    · rw [if_neg e, if_neg e, a3 i hi]
  · exact ⟨rfl, rfl, a3, a4⟩
theorem zgo_eq {N : Nat} {e e' : Nat → Int32} {q : Nat → Nat} {g g' : zG} (he : ∀ i, i < N → e i = e' i) (hg : zgEq N g g') : ∀ n, (∀ k, k < n → q k < N) → zgEq N (zgo e q n g) (zgo e' q n g')
  | 0, _ => hg
  | n + 1, hq => zgo1_eq (hq n (by omega)) he (zgo_eq he hg n (fun k hk => hq k (by omega)))
/-- the round as both sides mean it -/
def zW (h : ab_H) (q : Nat → Nat) (n : Nat) : zG := zgo (zEm h) q n (0, 0, fun i => ab_gI h 30 (20 + i), 0)
/-- the class's round gone aside: what it brings, what is left -/
theorem s65 (X : ab_X) (d : Nat) {N n : Nat} {q : Nat → Nat} (hN : N ≤ 6) (hn : n ≤ 12) {h h0 : ab_H} (n2 : ab_gI h 41 7 = nI N) (k1 : ∀ i, i < N → ab_gI h 42 i = ab_gI h0 30 (2 + i)) (k2 : ∀ i, i < N → ab_gI h 43 i = ab_gI h0 30 (8 + i)) (k3 : ∀ i, i < N → ab_gI h 47 i = ab_gI h0 30 (14 + i)) (k4 : ∀ i, i < N → ab_gI h 45 i = ab_gI h0 30 (20 + i)) (t1 : ∀ i, i < N → ∃ k, k < 6 ∧ ab_gI h0 30 (2 + i) = nI k) (e1 : ab_gI h 19 1 = nI n) (e2 : ∀ k, k < n → q k < N ∧ ab_gI h 20 k = nI (q k)) :
    ∃ D E, ab_ru X (d + 4) 65 [.ref 0] h = some (some (.int (zW h0 q n).2.2.2), zput (zput h 18 E) 17 D) ∧ ∀ i, i < N → D i = (zW h0 q n).2.2.1 i := by
  have c1 : ab_cp h 45 0 17 0 6 = fun K => K (ab_cI h 45 0 17 0 6) := funext fun K => z_cp (a := 45) (b := 17) (sp := 0) (dp := 0) (n := 6) rfl rfl (by decide) (by decide) h K
  have f2 : ∀ c i, c ≠ 17 → ab_gI (ab_cI h 45 0 17 0 6) c i = ab_gI h c i := fun c i hc => zc_ne hc _ _ _ _ _ _
  have ef := s48 X (d + 1) hN (B := 18) rfl (by omega) (nI 1) rfl (h := ab_cI h 45 0 17 0 6) (h0 := h0) (by rw [f2 _ _ (by omega)]; exact n2) (fun i hi => by rw [f2 _ _ (by omega)]; exact k1 i hi) (fun i hi => by rw [f2 _ _ (by omega)]; exact k2 i hi) (fun i hi => by rw [f2 _ _ (by omega)]; exact k3 i hi) t1
  have eb := s49 X (d + 2) (A := 17) (B := 18) (n := n) (q := q) rfl rfl (by omega) (by omega) hn (h := zput (ab_cI h 45 0 17 0 6) 18 (fun i => if i < N then zEm h0 i else ab_gI (ab_cI h 45 0 17 0 6) 18 i)) (by rw [zput_ne (by omega), f2 _ _ (by omega)]; exact e1) (fun k hk => ⟨by have := (e2 k hk).1; omega, by rw [zput_ne (by omega), f2 _ _ (by omega)]; exact (e2 k hk).2⟩)
  have hE := zgo_eq (N := N) (e := fun i => ab_gI (zput (ab_cI h 45 0 17 0 6) 18 (fun i => if i < N then zEm h0 i else ab_gI (ab_cI h 45 0 17 0 6) 18 i)) 18 i) (e' := zEm h0) (q := q) (g := (0, 0, fun i => ab_gI (zput (ab_cI h 45 0 17 0 6) 18 (fun i => if i < N then zEm h0 i else ab_gI (ab_cI h 45 0 17 0 6) 18 i)) 17 i, 0)) (g' := (0, 0, fun i => ab_gI h0 30 (20 + i), 0)) (fun i hi => by rw [zput_same, if_pos hi]) ⟨rfl, rfl, fun i hi => by dsimp only; rw [zput_ne (by omega), zc_same, if_pos (by omega), show 0 + (i - 0) = i by omega]; exact k4 i hi, rfl⟩ n (fun k hk => (e2 k hk).1)
  refine ⟨_, fun i => if i < N then zEm h0 i else ab_gI (ab_cI h 45 0 17 0 6) 18 i, ?_, hE.2.2.1⟩
  rw [r65, b65_0, c1]
  dsimp only
  rw [show (1 : Int32) = nI 1 from rfl, ef]
  simp only [zpu_s, zpu_n, Option.bind_some, b65_30]
  rw [eb]
  simp only [zpu_s, zpu_n, Option.bind_some, b65_45]
  rw [hE.2.2.2]
  refine congrArg (fun z => some (some (Value.int (zgo (zEm h0) q n (0, 0, fun i => ab_gI h0 30 (20 + i), 0)).2.2.2), z)) (zh_ext (fun c i => ?_) (fun _ _ => rfl))
  by_cases c17 : c = 17
  · subst c17; rw [zput_same, zput_same]
  · by_cases c18 : c = 18
    · subst c18; rw [zput_ne c17, zput_same, zput_ne c17, zput_same]
    · rw [zput_ne c17, zput_ne c18, zput_ne c17, zput_ne c18, f2 _ _ c17]
