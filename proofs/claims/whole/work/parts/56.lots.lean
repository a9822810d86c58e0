/-! days by lots -/
def zlot (s : Nat) : Nat → Nat
  | 0 => s
  | k + 1 => zlot s k * 48271 % 2147483647
theorem zlot_lt {s : Nat} (hs : s < 2147483647) : ∀ k, zlot s k < 2147483647
  | 0 => hs
  | k + 1 => Nat.mod_lt _ (by decide)
/-- how a day by lot goes -/
def zla (N s k : Nat) : Nat := zlot s (k + 1) % N
def zsl (Hs : Nat → zS) (dc N s : Nat) : Nat → Int32
  | 0 => nI 0
  | k + 1 => zsl Hs dc N s k + (zwalk (Hs (dc + k)) (fun i => zla N s k + i) (N - zla N s k)).2.2.2
theorem zsl_congr {Hs Hs' : Nat → zS} {dc N s : Nat} : ∀ {k : Nat}, (∀ j, j < k → Hs (dc + j) = Hs' (dc + j)) → zsl Hs dc N s k = zsl Hs' dc N s k
  | 0, _ => rfl
  | k + 1, e => by unfold zsl; rw [zsl_congr (fun j hj => e j (by omega)), e k (by omega)]
theorem s93 (X : ab_X) (d : Nat) {a N : Nat} (ha : a < N) (hN : N ≤ 6) (h : ab_H) : ∃ h', ab_ru X d 93 [.ref 19, .int (nI a), .int (nI N)] h = some (none, h') ∧ ab_gI h' 19 1 = nI (N - a) ∧ (∀ k, k < N - a → ab_gI h' 20 k = nI (a + k)) ∧ (∀ c i, c ≠ 19 → c ≠ 20 → ab_gI h' c i = ab_gI h c i) ∧ ∀ c i, ab_gJ h' c i = ab_gJ h c i := by
  obtain ⟨h', e, p1, p2, p3, p4⟩ := zloopP (fun k (hh : ab_H) => ab_gI hh 19 1 = nI k ∧ (∀ i, i < k → ab_gI hh 20 i = nI (a + i)) ∧ (∀ c i, c ≠ 19 → c ≠ 20 → ab_gI hh c i = ab_gI h c i) ∧ ∀ c i, ab_gJ hh c i = ab_gJ h c i) (fun hh k => ab_ex X d 93 7 [.ref 19, .int (nI a), .int (nI N), .int (nI (a + k))] [] hh) (N - a) (fun k hh hk hP => by
    obtain ⟨p1, p2, p3, p4⟩ := hP
    refine ⟨ab_sI (ab_sI hh 19 1 (nI (k + 1))) 20 k (nI (a + k)), ?_, ?_, fun i hi => ?_, fun c i h1 h2 => ?_, fun c i => p4 c i⟩
    · rw [l93_7]
      simp (discharger := omega) only [b93_12, b93_21, p1, zs20, zlit, Bool.false_eq_true, zlt_t, zlt_f, zeq_t, zeq_f, nI_add, pk_mul, zb_0, zb_n0, not_true_eq_false, not_false_eq_true, Classical.not_not, if_true, if_false, ite_true, ite_false, and_self, and_true, true_and, and_false, false_and, or_self, or_true, true_or, or_false, false_or, reduceIte]
      rfl
    · rw [zg_ne (by omega), zg_eq]
    · rw [zg_same]
      by_cases e : i = k
      · rw [if_pos e, e]
      · rw [if_neg e, zg_ne (by omega)]; exact p2 i (by omega)
    · rw [zg_ne h2, zg_ne h1]; exact p3 c i h1 h2) (ab_sI h 19 1 (nI 0)) ⟨zg_eq _ _ _ _, fun i hi => by omega, fun c i h1 h2 => zg_ne h1 _ _ _ _, fun _ _ => rfl⟩
  refine ⟨h', ?_, p1, p2, p3, p4⟩
  rw [r93, b93_0]
  refine Eq.trans (show _ = ab_ex X d 93 7 [.ref 19, .int (nI a), .int (nI N), .int (nI (a + 0))] [] (ab_sI h 19 1 (nI 0)) from rfl) ?_
  rw [e, l93_7]
  simp (discharger := omega) only [b93_44, zlit, Bool.false_eq_true, zlt_t, zlt_f, zeq_t, zeq_f, nI_add, pk_mul, zb_0, zb_n0, not_true_eq_false, not_false_eq_true, Classical.not_not, if_true, if_false, ite_true, ite_false, and_self, and_true, true_and, and_false, false_and, or_self, or_true, true_or, or_false, false_or, reduceIte]
theorem zJm : (2147483647 : Int64) = lN 2147483647 := rfl
theorem zJf : (48271 : Int64) = lN 48271 := rfl
theorem zlot_w {s : Nat} (hs : s < 2147483647) (k : Nat) : lN (zlot s k) * 48271 - lN (zlot s k) * 48271 / 2147483647 * 2147483647 = lN (zlot s (k + 1)) := by
  have := zlot_lt hs k
  rw [zJf, lN_mul, zJm, pk_lRem (by omega) (by omega) (by omega)]
  rfl
theorem zlot_a {s N : Nat} (hs : s < 2147483647) (hN : 0 < N) (hN6 : N ≤ 6) (k : Nat) : Int64.toInt32 (lN (zlot s (k + 1)) - lN (zlot s (k + 1)) / (nI N).toInt64 * (nI N).toInt64) = nI (zla N s k) := by
  have := zlot_lt hs (k + 1)
  rw [nI_l (by omega), pk_lRem (by omega) hN (by omega), lN_i]
  rfl
theorem zla_lt {N s : Nat} (hN : 0 < N) (k : Nat) : zla N s k < N := Nat.mod_lt _ hN
set_option maxHeartbeats 1000000 in
theorem c92 (X : ab_X) (d : Nat) {N dc s m : Nat} {h : ab_H} (a : zA h N dc) (hN0 : 0 < N) (hs : s < 2147483647) (hm : dc + m ≤ 40) (v1 v2 : Value) (hv1 : v1 = .int (nI m)) : ∃ h1, zA h1 N (dc + m) ∧ (∀ j, j ≤ dc → zH h1 41 N j = zH h 41 N j) ∧ (∀ j, j ≤ m → zBd N (zH h1 41 N (dc + j))) ∧ (∀ j, j < m → zH h1 41 N (dc + j + 1) = zap N (zrd (fun i => zla N s j + i) (N - zla N s j)) (zH h1 41 N (dc + j))) ∧ (∀ c i, c ≠ 18 → c ≠ 19 → c ≠ 20 → c ≠ 41 → c ≠ 45 → c ≠ 46 → c ≠ 47 → ab_gI h1 c i = ab_gI h c i) ∧ (∀ c i, c ≠ 48 → ab_gJ h1 c i = ab_gJ h c i) ∧ ab_ex X (d + 5) 92 66 [.ref 0, v1, v2, .long (lN s), .null, .int (nI 0), .int (nI 0)] [] h = some (some (.int (zsl (zH h1 41 N) dc N s m)), h1) := by
  subst hv1
  have hN := a.1
  obtain ⟨h1, e, p1, p2, p3, p4, p5, p6, p7⟩ := zloopP (fun k (z : ab_H × Int32) => zA z.1 N (dc + k) ∧ (∀ j, j ≤ dc → zH z.1 41 N j = zH h 41 N j) ∧ (∀ j, j ≤ k → zBd N (zH z.1 41 N (dc + j))) ∧ (∀ j, j < k → zH z.1 41 N (dc + j + 1) = zap N (zrd (fun i => zla N s j + i) (N - zla N s j)) (zH z.1 41 N (dc + j))) ∧ (∀ c i, c ≠ 18 → c ≠ 19 → c ≠ 20 → c ≠ 41 → c ≠ 45 → c ≠ 46 → c ≠ 47 → ab_gI z.1 c i = ab_gI h c i) ∧ (∀ c i, c ≠ 48 → ab_gJ z.1 c i = ab_gJ h c i) ∧ z.2 = zsl (zH z.1 41 N) dc N s k) (fun z k => ab_ex X (d + 5) 92 66 [.ref 0, .int (nI m), v2, .long (lN (zlot s k)), .null, .int z.2, .int (nI k)] [] z.1) m (fun k z hk hP => by
    obtain ⟨p1, p2, p3, p4, p5, p6, p7⟩ := hP
    obtain ⟨hh, sum⟩ := z
    dsimp only at p1 p2 p3 p4 p5 p6 p7 ⊢
    have hla := zla_lt (s := s) hN0 k
    obtain ⟨hg, g1, g2, g3, g4, g5⟩ := s93 X (d + 4) hla hN hh
    have n7 : ab_gI hh 41 7 = nI N := p1.2.2.2.1.1
    have eHg : ∀ j, zH hg 41 N j = zH hh 41 N j := fun j => zH_frame (fun i _ => g4 42 i (by omega) (by omega)) (fun i _ => g4 43 i (by omega) (by omega)) (fun i _ => g4 44 i (by omega) (by omega)) hN j (fun i _ => g5 48 i)
    have ag : zA hg N (dc + k) := by
      obtain ⟨q1, q2, q4, ⟨q3, q5, q6⟩, q7, q7', q8⟩ := p1
      refine ⟨q1, q2, ?_, ⟨?_, ?_, fun i hi => ?_⟩, ?_, fun i hi => ?_, fun j hj => ?_⟩
      · rw [g4 41 9 (by omega) (by omega)]; exact q4
      · rw [g4 41 7 (by omega) (by omega)]; exact q3
      · rw [eHg, g4 41 8 (by omega) (by omega)]; exact q5
      · rw [eHg, g4 42 i (by omega) (by omega), g4 43 i (by omega) (by omega), g4 47 i (by omega) (by omega), g4 45 i (by omega) (by omega), g4 46 i (by omega) (by omega)]; exact q6 i hi
      · rw [eHg]; exact q7
      · rw [g4 44 i (by omega) (by omega)]; exact q7' i hi
      · rw [g5]; exact q8 j hj
    obtain ⟨h', c0, a', x1, x2, hH, hS, c1, c2, c3⟩ := cW X d ag (by omega) (q := fun i => zla N s k + i) (n := N - zla N s k) (by omega) g2 (fun i hi => ⟨by omega, g3 i hi⟩)
    have eHH : ∀ j, j ≤ dc + k → zH h' 41 N j = zH hh 41 N j := fun j hj => (hH j hj).trans (eHg j)
    refine ⟨(h', sum + (zwalk (zH hg 41 N (dc + k)) (fun i => zla N s k + i) (N - zla N s k)).2.2.2), ?_, ?_⟩
    · dsimp only
      have hd : ab_dJ (nI N).toInt64 = fun K => K := funext fun K => zdJ hN0 (by omega) K
      rw [l92_66, if_pos (nI_lt hk (by omega)), b92_72, n7, zlot_w hs, zlot_a hs hN0 hN, hd]
      dsimp only
      rw [g1]
      simp (discharger := omega) only [zpu_s, zpu_n, Option.bind_some, b92_107, b92_124, c0, zlit, Bool.false_eq_true, zlt_t, zlt_f, zeq_t, zeq_f, nI_add, pk_mul, zb_0, zb_n0, not_true_eq_false, not_false_eq_true, Classical.not_not, if_true, if_false, ite_true, ite_false, and_self, and_true, true_and, and_false, false_and, or_self, or_true, true_or, or_false, false_or, reduceIte]
    · refine ⟨a', fun j hj => (eHH j (by omega)).trans (p2 j hj), fun j hj => ?_, fun j hj => ?_, fun c i b1 b2 b3 b4 b5 b6 b7 => ?_, fun c i hc => ?_, ?_⟩
      · dsimp only
        by_cases e : j = k + 1
        · subst e; exact a'.2.2.2.2.1
        · rw [eHH _ (by omega)]; exact p3 j (by omega)
      · dsimp only
        by_cases e : j = k
        · subst e; rw [hS, eHH _ (by omega), eHg]
        · rw [eHH _ (by omega), eHH _ (by omega)]; exact p4 j (by omega)
      · dsimp only
        rw [c1 c i b1 b4 b5 b6 b7, g4 c i b2 b3]; exact p5 c i b1 b2 b3 b4 b5 b6 b7
      · dsimp only
        rw [c2 c i hc, g5]; exact p6 c i hc
      · dsimp only
        rw [p7]
        show _ = zsl (zH h' 41 N) dc N s k + (zwalk (zH h' 41 N (dc + k)) (fun i => zla N s k + i) (N - zla N s k)).2.2.2
        rw [eHH (dc + k) (Nat.le_refl _), eHg, zsl_congr (Hs := zH h' 41 N) (Hs' := zH hh 41 N) (fun j hj => eHH _ (by omega))]) (h, nI 0) ⟨a, fun _ _ => rfl, fun j hj => by
      have : j = 0 := by omega
      subst this
      exact a.2.2.2.2.1, fun j hj => by omega, fun _ _ _ _ _ _ _ _ _ => rfl, fun _ _ _ => rfl, rfl⟩
  refine ⟨h1.1, p1, p2, p3, p4, p5, p6, ?_⟩
  refine Eq.trans e ?_
  rw [l92_66, if_neg (nI_nlt (by omega) (by omega)), b92_133, p7]
theorem zgo1_got (e : Nat → Int32) (q : Nat) (g : zG) : (zgo1 e q g).2.2.2 = g.2.2.2 + zgot e q g := by
  unfold zgo1 zgot
  split
  · rfl
  · exact (Int32.add_zero _).symm
set_option maxHeartbeats 1000000 in
theorem m180 (X : ab_X) (d : Nat) {N dc s m : Nat} {Hs : Nat → zS} {h : ab_H} (hN : N ≤ 6) (hN0 : 0 < N) (hs : s < 2147483647) (hm : dc + m ≤ 40) (h0 : ∀ j, Hs j 0 = nI N) (bd : ∀ j, j ≤ m → zBd N (Hs (dc + j))) (hw : ∀ j, j < m → Hs (dc + j + 1) = zap N (zrd (fun i => zla N s j + i) (N - zla N s j)) (Hs (dc + j))) (r : zR h Hs dc) (v2 : Value) : ∃ h1, zR h1 Hs (dc + m) ∧ zFw h h1 ∧ ab_ex X (d + 3) 180 61 [.ref 29, .int (nI m), v2, .long (lN s), .null, .int (nI 0), .int (nI 0), .null] [] h = some (some (.int (zsl Hs dc N s m)), h1) := by
  obtain ⟨h1, e, p1, p2⟩ := zloopP (fun k (z : ab_H × Value) => zR z.1 Hs (dc + k) ∧ zFw h z.1) (fun z k => ab_ex X (d + 3) 180 61 [.ref 29, .int (nI m), v2, .long (lN (zlot s k)), .null, .int (zsl Hs dc N s k), .int (nI k), z.2] [] z.1) m (fun k z hk hP => by
    obtain ⟨hh, v7⟩ := z
    obtain ⟨p1, p2⟩ := hP
    dsimp only at p1 p2 ⊢
    have hla := zla_lt (s := s) hN0 k
    have hd : ab_dJ (nI N).toInt64 = fun K => K := funext fun K => zdJ hN0 (by omega) K
    obtain ⟨g, e1, e2, e3, e4, e5⟩ := mM X (d + 1) (by omega) p1
    have bd' := bd k (by omega)
    have e145 := s145 X d hN (h := g) ((e5 0 (by omega)).trans (h0 _)) (fun i hi => by rw [e5 _ (by omega)]; exact (bd' i hi).1)
    generalize hE : (fun i => if i < N then zEm g i else ab_gI g 38 i) = E at e145
    generalize hD : (fun i => if i < N then ab_gI g 30 (20 + i) else ab_gI g 39 i) = D at e145
    have E1 : ∀ i, i < N → E i = zSe (Hs (dc + k)) i := fun i hi => by rw [← hE]; exact (if_pos hi).trans (zEm_S e5 (by omega))
    have D1 : ∀ i, i < N → D i = Hs (dc + k) (20 + i) := fun i hi => by rw [← hD]; exact (if_pos hi).trans (e5 _ (by omega))
    have g30 : ∀ (z : zM) i, ab_gI (zmh (zput g 38 E) z) 30 i = ab_gI g 30 i := fun z i => by rw [zmh_ne (by omega) (by omega), zput_ne (by omega)]
    have g300 : ∀ (z : zM), ab_gI (zmh (zput g 38 E) z) 30 0 = nI N := fun z => (g30 z 0).trans ((e5 0 (by omega)).trans (h0 _))
    have key := zloopI (fun i (z : zM) => z = zgom E (fun i => zla N s k + i) i ((0, 0, D, 0), 0, 0)) (fun z i => ab_ex X (d + 3) 180 97 [.ref 29, .int (nI m), v2, .long (lN (zlot s (k + 1))), .null, .int (zsl Hs dc N s k + z.1.2.2.2), .int (nI k), .int (nI (zla N s k + i))] [] (zmh (zput g 38 E) z)) (fun i z => zgm1 E (zla N s k + i) z) (N - zla N s k) (fun i z hi hP => by
      have hb := zgo_b (e := E) (q := fun i => zla N s k + i) (g := (0, 0, D, 0)) rfl (show (0 : Nat) < 6 by decide) i (fun j hj => by omega)
      rw [← zgom_1 E (fun i => zla N s k + i) ((0, 0, D, 0), 0, 0) i, ← hP] at hb
      have e148 := s148 X (d + 1) (q := zla N s k + i) (by omega) (zput g 38 E) (s := z) (by omega) hb.2
      have e38 : (fun i => ab_gI (zput g 38 E) 38 i) = E := funext fun i => zput_same _ _ _ _
      rw [e38] at e148
      refine ⟨?_, ?_⟩
      · rw [l180_97]
        simp (discharger := omega) only [zd30, g300, b180_108, b180_116, e148, zpu_s, zpu_n, Option.bind_some, zlit, Bool.false_eq_true, zlt_t, zlt_f, zeq_t, zeq_f, nI_add, pk_mul, zb_0, zb_n0, not_true_eq_false, not_false_eq_true, Classical.not_not, if_true, if_false, ite_true, ite_false, and_self, and_true, true_and, and_false, false_and, or_self, or_true, true_or, or_false, false_or, reduceIte]
        rw [Int32.add_assoc, ← zgo1_got]
        rfl
      · rw [hP]; rfl) ((0, 0, D, 0), 0, 0) rfl
    obtain ⟨key, hZ⟩ := key
    have hzE : zmEq N (zgom E (fun i => zla N s k + i) (N - zla N s k) ((0, 0, D, 0), 0, 0)) (zgom (zSe (Hs (dc + k))) (fun i => zla N s k + i) (N - zla N s k) ((0, 0, fun i => Hs (dc + k) (20 + i), 0), 0, 0)) := zgom_eq (s := ((0, 0, D, 0), 0, 0)) (s' := ((0, 0, fun i => Hs (dc + k) (20 + i), 0), 0, 0)) E1 ⟨⟨rfl, rfl, D1, rfl⟩, rfl⟩ _ (fun i hi => by omega)
    rw [hZ] at key
    generalize zgom E (fun i => zla N s k + i) (N - zla N s k) ((0, 0, D, 0), 0, 0) = Z at key hzE
    have hz1 : zgEq N Z.1 (zwalk (Hs (dc + k)) (fun i => zla N s k + i) (N - zla N s k)) := by
      have := hzE.1
      rw [zgom_1] at this
      exact this
    obtain ⟨h4, q1, q2, q3, q4, q5⟩ := mD X (d + 2) (h := zmh (zput g 38 E) Z) (N := N) (dc := dc + k) (q := fun i => zla N s k + i) (n := N - zla N s k) (Hs := Hs) hN (by omega) (by omega) (fun i hi => by omega) (h0 _) (hw k hk) (by rw [zmh_29 (by omega), zput_ne (by omega)]; exact e3) (fun j hj i hi => by rw [g30]; exact e4 j hj i hi) (fun i hi => by rw [g30]; exact e5 i hi) (fun i hi => by rw [zmh_39]; exact hz1.2.2.1 i hi)
    refine ⟨(h4, .int (nI (zla N s k + (N - zla N s k)))), ?_, q2, ?_⟩
    · dsimp only
      rw [l180_61, if_pos (nI_lt hk (by omega)), b180_67, e1, zlot_w hs]
      simp only [zpu_s, zpu_n, Option.bind_some]
      rw [b180_81, e145]
      simp only [zpu_s, zpu_n, Option.bind_some]
      rw [b180_85, show (0 : Int32) = nI 0 from rfl, zd30 (by omega), g300, hd, zlot_a hs hN0 hN]
      dsimp only
      have k0 : zsl Hs dc N s k + 0 = zsl Hs dc N s k := Int32.add_zero _
      dsimp only at key
      rw [k0, Nat.add_zero] at key
      refine Eq.trans key ?_
      rw [l180_97, show (0 : Int32) = nI 0 from rfl, zd30 (by omega), g300, if_neg (nI_nlt (by omega) (by omega)), b180_125, q1]
      simp only [zpu_s, zpu_n, Option.bind_some]
      rw [b180_129, nI_1]
      show _ = ab_ex X (d + 3) 180 61 [.ref 29, .int (nI m), v2, .long (lN (zlot s (k + 1))), .null, .int (zsl Hs dc N s k + (zwalk (Hs (dc + k)) (fun i => zla N s k + i) (N - zla N s k)).2.2.2), .int (nI (k + 1)), .int (nI (zla N s k + (N - zla N s k)))] [] h4
      rw [hz1.2.2.2]
    · refine zFw_trans p2 (zFw_trans e2 ⟨fun c i a1 a2 a3 a4 => ?_, fun i a1 a2 => ?_, fun i hi => ?_, fun c i => q5 c i⟩)
      · rw [q3 c i a1, zmh_ne a3 a4, zput_ne a2]
      · rw [q3 29 i (by omega), zmh_29 a2, zput_ne (by omega)]
      · rw [q4 i (by omega), g30]) (h, .null) ⟨r, zFw_refl h⟩
  refine ⟨h1.1, p1, p2, ?_⟩
  refine Eq.trans e ?_
  rw [l180_61, if_neg (nI_nlt (by omega) (by omega)), b180_135]
theorem zJ20 : (20 : Int64) = (nI 20).toInt64 := rfl
theorem zJs : (2147483646 : Int64) = (nI 2147483646).toInt64 := rfl
theorem zJt : (2147483647 : Int64) = (nI 2147483647).toInt64 := rfl
theorem znlt1 (x : Int32) {m : Nat} (hm : m < 2147483647) : (¬ x < nI 1 ∧ ¬ nI m < x) ↔ ∃ j, 1 ≤ j ∧ j ≤ m ∧ x = nI j := by
  constructor
  · rintro ⟨h1, h2⟩
    rcases zix x (n := m + 1) (by omega) with q | q | ⟨j, hj, rfl⟩
    · exact absurd (Int32.lt_trans q (by decide)) h1
    · rw [znlt (n := m) (by omega)] at h2
      exact absurd (Classical.not_not.mp h2) q.2
    · refine ⟨j, ?_, by omega, rfl⟩
      rcases Nat.eq_zero_or_pos j with e | e
      · subst e; exact absurd (by decide) h1
      · exact e
  · rintro ⟨j, h1, h2, rfl⟩
    exact ⟨nI_nlt h1 (by omega), nI_nlt h2 (by omega)⟩
set_option maxHeartbeats 1000000 in
theorem cp_lots (X : ab_X) (d : Nat) (x w : Int32) {h : ab_H} (hI : zInv h) : zCp X (d + 30) 92 180 [.int x, .int w] h := by
  obtain ⟨N0, dc0, n0', n1', pc⟩ := id hI.2.2.2.2.1
  obtain ⟨N, dc, hN, hdc, n0, n1, n2, n3, n4, n5, k1, k2, k3, k4, k5, t1, t2, t3, t4⟩ := znow hI
  have eN : N0 = N := (nI_eq (by have := pc.1; omega) (by omega)).mp (pc.2.2.1.symm.trans n2)
  have eD : dc0 = dc := (nI_eq (by have := pc.2.1; omega) (by omega)).mp (n1'.symm.trans n1)
  subst eN eD
  obtain ⟨a, r⟩ := zA_of pc n1'
  by_cases hx : ¬ (¬ x < nI 1 ∧ ¬ nI 20 < x)
  · have e1 : ab_ru X (d + 30) 92 [.ref 0, .int x, .int w] h = some (some (.int (-nI 1)), h) := by
      by_cases h1 : x < nI 1
      · simp (discharger := omega) only [r92, b92_0, b92_25, h1, zlit, Bool.false_eq_true, zlt_t, zlt_f, zeq_t, zeq_f, nI_add, pk_mul, zb_0, zb_n0, not_true_eq_false, not_false_eq_true, Classical.not_not, if_true, if_false, ite_true, ite_false, and_self, and_true, true_and, and_false, false_and, or_self, or_true, true_or, or_false, false_or, reduceIte]
      · have h2 : nI 20 < x := Classical.not_not.mp (fun q => hx ⟨h1, q⟩)
        simp (discharger := omega) only [r92, b92_0, b92_5, b92_25, h1, h2, zlit, Bool.false_eq_true, zlt_t, zlt_f, zeq_t, zeq_f, nI_add, pk_mul, zb_0, zb_n0, not_true_eq_false, not_false_eq_true, Classical.not_not, if_true, if_false, ite_true, ite_false, and_self, and_true, true_and, and_false, false_and, or_self, or_true, true_or, or_false, false_or, reduceIte]
    refine zCp_mk e1 (h2 := h) ?_ hI
    simp (discharger := omega) only [r180, b180_0, b180_9, b180_24, s107i, zJ1, zJ20, hx, zpu_s, zpu_n, Option.bind_some, zlit, Bool.false_eq_true, zlt_t, zlt_f, zeq_t, zeq_f, nI_add, pk_mul, zb_0, zb_n0, not_true_eq_false, not_false_eq_true, Classical.not_not, if_true, if_false, ite_true, ite_false, and_self, and_true, true_and, and_false, false_and, or_self, or_true, true_or, or_false, false_or, reduceIte]
  have hx := Classical.not_not.mp hx
  by_cases hw : ¬ (¬ w < nI 1 ∧ ¬ nI 2147483646 < w)
  · have e1 : ab_ru X (d + 30) 92 [.ref 0, .int x, .int w] h = some (some (.int (-nI 1)), h) := by
      by_cases h1 : w < nI 1
      · simp (discharger := omega) only [r92, b92_0, b92_5, b92_11, b92_25, h1, hx, zlit, Bool.false_eq_true, zlt_t, zlt_f, zeq_t, zeq_f, nI_add, pk_mul, zb_0, zb_n0, not_true_eq_false, not_false_eq_true, Classical.not_not, if_true, if_false, ite_true, ite_false, and_self, and_true, true_and, and_false, false_and, or_self, or_true, true_or, or_false, false_or, reduceIte]
      · have h2 : nI 2147483646 < w := Classical.not_not.mp (fun q => hw ⟨h1, q⟩)
        have h3 : ¬ w < nI 2147483647 := by
          rw [znlt (n := 2147483646) (by omega)] at h2
          exact h2
        have h4 : ¬ lg_cmp w.toInt64 (nI 2147483647).toInt64 < nI 0 := fun q => h3 ((zwide_lt _ _).mp ((zcmp_lt _ _).mp q))
        simp (discharger := omega) only [r92, b92_0, b92_5, b92_11, b92_16, b92_25, h1, hx, zJt, h4, zlit, Bool.false_eq_true, zlt_t, zlt_f, zeq_t, zeq_f, nI_add, pk_mul, zb_0, zb_n0, not_true_eq_false, not_false_eq_true, Classical.not_not, if_true, if_false, ite_true, ite_false, and_self, and_true, true_and, and_false, false_and, or_self, or_true, true_or, or_false, false_or, reduceIte]
    refine zCp_mk e1 (h2 := h) ?_ hI
    simp (discharger := omega) only [r180, b180_0, b180_9, b180_12, b180_21, b180_24, s107i, zJ1, zJ20, zJs, hx, hw, zpu_s, zpu_n, Option.bind_some, zlit, Bool.false_eq_true, zlt_t, zlt_f, zeq_t, zeq_f, nI_add, pk_mul, zb_0, zb_n0, not_true_eq_false, not_false_eq_true, Classical.not_not, if_true, if_false, ite_true, ite_false, and_self, and_true, true_and, and_false, false_and, or_self, or_true, true_or, or_false, false_or, reduceIte]
  have hw := Classical.not_not.mp hw
  have hw3 : w < nI 2147483647 := by
    have := hw.2
    rw [znlt (n := 2147483646) (by omega)] at this
    exact Classical.not_not.mp this
  have hw4 : lg_cmp w.toInt64 (nI 2147483647).toInt64 < nI 0 := (zcmp_lt _ _).mpr ((zwide_lt _ _).mpr hw3)
  obtain ⟨m, hm1, hm2, rfl⟩ := (znlt1 x (by omega)).mp hx
  obtain ⟨s, hs1, hs2, rfl⟩ := (znlt1 w (by omega)).mp hw
  by_cases hN0 : N0 = 0
  · subst hN0
    apply zCp_mk
    · simp (discharger := omega) only [r92, b92_0, b92_5, b92_11, b92_16, b92_27, b92_37, zJt, hw4, n2, zlit, Bool.false_eq_true, zlt_t, zlt_f, zeq_t, zeq_f, nI_add, pk_mul, zb_0, zb_n0, not_true_eq_false, not_false_eq_true, Classical.not_not, if_true, if_false, ite_true, ite_false, and_self, and_true, true_and, and_false, false_and, or_self, or_true, true_or, or_false, false_or, reduceIte]; rfl
    · simp (discharger := omega) only [r180, b180_0, b180_9, b180_12, b180_21, b180_26, b180_35, s107i, zJ1, zJ20, zJs, zd30, n5, zpu_s, zpu_n, Option.bind_some, zlit, Bool.false_eq_true, zlt_t, zlt_f, zeq_t, zeq_f, nI_add, pk_mul, zb_0, zb_n0, not_true_eq_false, not_false_eq_true, Classical.not_not, if_true, if_false, ite_true, ite_false, and_self, and_true, true_and, and_false, false_and, or_self, or_true, true_or, or_false, false_or, reduceIte]; rfl
    · exact hI
  by_cases hf : 40 < dc0 + m
  · apply zCp_mk
    · simp (discharger := omega) only [r92, b92_0, b92_5, b92_11, b92_16, b92_27, b92_40, b92_54, zJt, hw4, n2, n3, zlit, Bool.false_eq_true, zlt_t, zlt_f, zeq_t, zeq_f, nI_add, pk_mul, zb_0, zb_n0, not_true_eq_false, not_false_eq_true, Classical.not_not, if_true, if_false, ite_true, ite_false, and_self, and_true, true_and, and_false, false_and, or_self, or_true, true_or, or_false, false_or, reduceIte]; rfl
    · simp (discharger := omega) only [r180, b180_0, b180_9, b180_12, b180_21, b180_26, b180_38, b180_49, s107i, zJ1, zJ20, zJs, zd30, n5, n1, zpu_s, zpu_n, Option.bind_some, zlit, Bool.false_eq_true, zlt_t, zlt_f, zeq_t, zeq_f, nI_add, pk_mul, zb_0, zb_n0, not_true_eq_false, not_false_eq_true, Classical.not_not, if_true, if_false, ite_true, ite_false, and_self, and_true, true_and, and_false, false_and, or_self, or_true, true_or, or_false, false_or, reduceIte]; rfl
    · exact hI
  obtain ⟨h1, a', hH, bd', hw', c1, c2, ec'⟩ := c92 X (d + 25) a (by omega) (s := s) (by omega) (m := m) (by omega) (.int (nI m)) (.int (nI s)) rfl
  have el : (nI s).toInt64 = lN s := nI_l (by omega)
  have ec : ab_ru X (d + 30) 92 [.ref 0, .int (nI m), .int (nI s)] h = some (some (.int (zsl (zH h1 41 N0) dc0 N0 s m)), h1) := by
    simp (discharger := omega) only [r92, b92_0, b92_5, b92_11, b92_16, b92_27, b92_40, b92_57, zJt, hw4, n2, n3, zlit, Bool.false_eq_true, zlt_t, zlt_f, zeq_t, zeq_f, nI_add, pk_mul, zb_0, zb_n0, not_true_eq_false, not_false_eq_true, Classical.not_not, if_true, if_false, ite_true, ite_false, and_self, and_true, true_and, and_false, false_and, or_self, or_true, true_or, or_false, false_or, reduceIte]
    rw [el]
    exact ec'
  have cc : ∀ c i, c < 41 → c ≠ 18 → c ≠ 19 → c ≠ 20 → ab_gI h1 c i = ab_gI h c i := fun c i b1 b2 b3 b4 => c1 c i b2 b3 b4 (by omega) (by omega) (by omega) (by omega)
  have s30 : ∀ l, ab_gI h1 30 l = ab_gI h 30 l := fun l => cc 30 l (by omega) (by omega) (by omega) (by omega)
  have n5' := (s30 0).trans n5
  have n1'' : ab_gI h1 29 1 = nI dc0 := (cc 29 1 (by omega) (by omega) (by omega) (by omega)).trans n1
  have r' : zR h1 (zH h1 41 N0) dc0 := by
    obtain ⟨r1, r2, r3⟩ := r
    refine ⟨n1'', fun l hl i hi => ?_, fun i hi => ?_⟩
    · rw [s30, hH l (by omega)]; exact r2 l hl i hi
    · rw [s30, hH dc0 (Nat.le_refl dc0)]; exact r3 i hi
  obtain ⟨h2, q1, q2, q3⟩ := m180 X (d + 27) (Hs := zH h1 41 N0) hN (by omega) (s := s) (by omega) (m := m) (by omega) (fun j => zH_0 j) bd' hw' r' (.int (nI s))
  have er : ab_ru X (d + 30) 180 [.ref 29, .int (nI m), .int (nI s)] h1 = some (some (.int (zsl (zH h1 41 N0) dc0 N0 s m)), h2) := by
    simp (discharger := omega) only [r180, b180_0, b180_9, b180_12, b180_21, b180_26, b180_38, b180_52, s107i, zJ1, zJ20, zJs, zd30, n5', n1'', zpu_s, zpu_n, Option.bind_some, zlit, Bool.false_eq_true, zlt_t, zlt_f, zeq_t, zeq_f, nI_add, pk_mul, zb_0, zb_n0, not_true_eq_false, not_false_eq_true, Classical.not_not, if_true, if_false, ite_true, ite_false, and_self, and_true, true_and, and_false, false_and, or_self, or_true, true_or, or_false, false_or, reduceIte]
    rw [el]
    exact q3
  exact zCp_mk ec er (zInv_deed hI (by omega) a' q1 (fun c i b1 b2 b3 b4 b5 => cc c i b1 b3 b4 b5) (fun c i hc => c1 c i (by omega) (by omega) (by omega) (by omega) (by omega) (by omega) (by omega)) c2 q2)
