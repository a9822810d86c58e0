/-! a round done: the class -/
theorem zloopP {β : Type} (P : Nat → β → Prop) (E : β → Nat → Option ab_R) (n : Nat) (hs : ∀ k a, k < n → P k a → ∃ b, E a k = E b (k + 1) ∧ P (k + 1) b) (a : β) (h0 : P 0 a) : ∃ b, E a 0 = E b n ∧ P n b := by
  have key : ∀ k, k ≤ n → ∃ b, E a 0 = E b k ∧ P k b := by
    intro k
    induction k with
    | zero => intro _; exact ⟨a, rfl, h0⟩
    | succ k ih =>
      intro hk
      obtain ⟨b, e1, e2⟩ := ih (by omega)
      obtain ⟨c, g1, g2⟩ := hs k b (by omega) e2
      exact ⟨c, e1.trans g1, g2⟩
  exact key n (Nat.le_refl n)
def zS41 : (41 : Nat) = 41 ∨ 41 = 49 ∨ 41 = 57 ∨ 41 = 65 := Or.inl rfl
theorem zadd_sub (a b c : Int32) : a + b - c = a + (b - c) := by
  rw [Int32.sub_eq_add_neg, Int32.sub_eq_add_neg, Int32.add_assoc]
set_option maxHeartbeats 2000000 in
theorem cW (X : ab_X) (d : Nat) {N dc n : Nat} {q : Nat → Nat} {h : ab_H} (a : zA h N dc) (hdc : dc < 40) (hn : n ≤ 12) (e1 : ab_gI h 19 1 = nI n) (e2 : ∀ k, k < n → q k < N ∧ ab_gI h 20 k = nI (q k)) : ∃ h', ab_ru X (d + 4) 47 [.ref 41, .ref 19, .ref 18] h = some (some (.int (zwalk (zH h 41 N dc) q n).2.2.2), h') ∧ zA h' N (dc + 1) ∧ ab_gJ h' 48 dc = zrd q n ∧ (∀ j, j ≠ dc → ab_gJ h' 48 j = ab_gJ h 48 j) ∧ (∀ j, j ≤ dc → zH h' 41 N j = zH h 41 N j) ∧ zH h' 41 N (dc + 1) = zap N (zrd q n) (zH h 41 N dc) ∧ (∀ c i, c ≠ 18 → c ≠ 41 → c ≠ 45 → c ≠ 46 → c ≠ 47 → ab_gI h' c i = ab_gI h c i) ∧ (∀ c i, c ≠ 48 → ab_gJ h' c i = ab_gJ h c i) ∧ (∀ i, i ≠ 8 → i ≠ 9 → ab_gI h' 41 i = ab_gI h 41 i) := by
  have hN := a.1
  obtain ⟨-, -, a3, ⟨m1, m2, m3⟩, bd, -⟩ := id a
  have hq8 : ∀ k, k < n → q k < 8 := fun k hk => by have := (e2 k hk).1; omega
  have hz := zap_rd (N := N) hn hq8 (zH h 41 N dc)
  generalize hS : zH h 41 N dc = S at m2 m3 bd hz
  -- the hours
  have ef := s48 X (d + 1) hN (B := 18) rfl (by omega) (nI 1) rfl (h := h) (h0 := zput h 30 S) m1 (fun i hi => by rw [zput_same]; exact (m3 i hi).1) (fun i hi => by rw [zput_same]; exact (m3 i hi).2.1) (fun i hi => by rw [zput_same]; exact (m3 i hi).2.2.1) (fun i hi => by rw [zput_same]; exact (bd i hi).1)
  have hEm : ∀ i, zEm (zput h 30 S) i = zSe S i := fun i => by unfold zEm zSe; rw [zput_same, zput_same, zput_same]
  generalize hE : (fun i => if i < N then zEm (zput h 30 S) i else ab_gI h 18 i) = E at ef
  have E1 : ∀ i, i < N → E i = zSe S i := fun i hi => by rw [← hE]; exact (if_pos hi).trans (hEm i)
  -- what they had, with what is due
  obtain ⟨h2, u1, ⟨u2, u3, u4, u5⟩⟩ := zloopP (fun k (hh : ab_H) => (∀ c i, c ≠ 46 → ab_gI hh c i = ab_gI (zput h 18 E) c i) ∧ (∀ c i, ab_gJ hh c i = ab_gJ h c i) ∧ (∀ i, i < k → ab_gI hh 46 i = S (26 + i) + S (20 + i)) ∧ (∀ i, k ≤ i → i < N → ab_gI hh 46 i = S (26 + i))) (fun hh k => ab_ex X (d + 4) 47 8 [.ref 41, .ref 19, .ref 18, .int (nI k), .null] [] hh) N (fun k hh hk hP => by
    obtain ⟨p1, p2, p3, p4⟩ := hP
    obtain ⟨g1, g2, g3, g4, g5⟩ := m3 k hk
    have r7 : ab_gI hh 41 7 = nI N := by rw [p1 41 7 (by omega), zput_ne (by omega)]; exact m1
    have r45 : ab_gI hh 45 k = S (20 + k) := by rw [p1 45 k (by omega), zput_ne (by omega)]; exact g4
    have r46 := p4 k (Nat.le_refl k) hk
    refine ⟨ab_sI hh 46 k (S (26 + k) + S (20 + k)), ?_, fun c i hc => ?_, fun c i => ?_, fun i hi => ?_, fun i h1 h2 => ?_⟩
    · rw [l47_8, zP_ob zS41, r7, if_pos (nI_lt (by omega) (by omega))]
      simp (discharger := omega) only [b47_16, zP_ob zS41, zP_rf zS41, Nat.reduceAdd, zd46, zd45, zs46, r45, r46, zlit, Bool.false_eq_true, zlt_t, zlt_f, zeq_t, zeq_f, nI_add, pk_mul, zb_0, zb_n0, not_true_eq_false, not_false_eq_true, Classical.not_not, if_true, if_false, ite_true, ite_false, and_self, and_true, true_and, and_false, false_and, or_self, or_true, true_or, or_false, false_or, reduceIte]
    · rw [zg_ne hc]; exact p1 c i hc
    · rw [zj_I]; exact p2 c i
    · rw [zg_same]
      by_cases e : i = k
      · rw [if_pos e, e]
      · rw [if_neg e]; exact p3 i (by omega)
    · rw [zg_nj (by omega)]; exact p4 i (by omega) h2) (zput h 18 E) ⟨fun _ _ _ => rfl, fun _ _ => rfl, fun i hi => by omega, fun i _ hi => by rw [zput_ne (by omega)]; exact (m3 i hi).2.2.2.2⟩
  -- the round
  have eb := s49 X (d + 2) (A := 45) (B := 18) (n := n) (q := q) rfl rfl (by omega) (by omega) hn (h := h2) (by rw [u2 19 1 (by omega), zput_ne (by omega)]; exact e1) (fun k hk => ⟨by have := (e2 k hk).1; omega, by rw [u2 20 k (by omega), zput_ne (by omega)]; exact (e2 k hk).2⟩)
  have hzE : zgEq N (zgo (fun i => ab_gI h2 18 i) q n (0, 0, fun i => ab_gI h2 45 i, 0)) (zwalk S q n) := zgo_eq (N := N) (e := fun i => ab_gI h2 18 i) (e' := zSe S) (q := q) (g := (0, 0, fun i => ab_gI h2 45 i, 0)) (g' := (0, 0, fun i => S (20 + i), 0)) (fun i hi => by rw [u2 18 i (by omega), zput_same]; exact E1 i hi) ⟨rfl, rfl, fun i hi => by dsimp only; rw [u2 45 i (by omega), zput_ne (by omega)]; exact (m3 i hi).2.2.2.1, rfl⟩ n (fun k hk => (e2 k hk).1)
  generalize zgo (fun i => ab_gI h2 18 i) q n (0, 0, fun i => ab_gI h2 45 i, 0) = G at eb hzE
  obtain ⟨-, hb⟩ := zgo_n (e := zSe S) (q := q) (D := fun i => S (20 + i)) (N := N) (fun i hi => (bd i hi).2.2.2) n (fun k hk => (e2 k hk).1)
  have hb : ∀ i, i < N → ∃ x, x ≤ 99 ∧ (zwalk S q n).2.2.1 i = nI x := hb
  -- what they have now
  obtain ⟨h3, v1, ⟨v2, v3, v4, v5⟩⟩ := zloopP (fun k (hh : ab_H) => (∀ c i, c ≠ 46 → ab_gI hh c i = ab_gI (zput h2 45 G.2.2.1) c i) ∧ (∀ c i, ab_gJ hh c i = ab_gJ h c i) ∧ (∀ i, i < k → ab_gI hh 46 i = S (26 + i) + (S (20 + i) - (zwalk S q n).2.2.1 i)) ∧ (∀ i, k ≤ i → i < N → ab_gI hh 46 i = S (26 + i) + S (20 + i))) (fun hh k => ab_ex X (d + 4) 47 50 [.ref 41, .ref 19, .ref 18, .int G.2.2.2, .int (nI k)] [] hh) N (fun k hh hk hP => by
    obtain ⟨p1, p2, p3, p4⟩ := hP
    have r7 : ab_gI hh 41 7 = nI N := by rw [p1 41 7 (by omega), zput_ne (by omega), u2 41 7 (by omega), zput_ne (by omega)]; exact m1
    have r45 : ab_gI hh 45 k = (zwalk S q n).2.2.1 k := by rw [p1 45 k (by omega), zput_same]; exact hzE.2.2.1 k hk
    have r46 := p4 k (Nat.le_refl k) hk
    refine ⟨ab_sI hh 46 k (S (26 + k) + (S (20 + k) - (zwalk S q n).2.2.1 k)), ?_, fun c i hc => ?_, fun c i => ?_, fun i hi => ?_, fun i h1 h2 => ?_⟩
    · rw [l47_50, zP_ob zS41, r7, if_pos (nI_lt (by omega) (by omega))]
      simp (discharger := omega) only [b47_59, zP_ob zS41, zP_rf zS41, Nat.reduceAdd, zd46, zd45, zs46, r45, r46, zadd_sub, zlit, Bool.false_eq_true, zlt_t, zlt_f, zeq_t, zeq_f, nI_add, pk_mul, zb_0, zb_n0, not_true_eq_false, not_false_eq_true, Classical.not_not, if_true, if_false, ite_true, ite_false, and_self, and_true, true_and, and_false, false_and, or_self, or_true, true_or, or_false, false_or, reduceIte]
    · rw [zg_ne hc]; exact p1 c i hc
    · rw [zj_I]; exact p2 c i
    · rw [zg_same]
      by_cases e : i = k
      · rw [if_pos e, e]
      · rw [if_neg e]; exact p3 i (by omega)
    · rw [zg_nj (by omega)]; exact p4 i (by omega) h2) (zput h2 45 G.2.2.1) ⟨fun _ _ _ => rfl, fun c i => u3 c i, fun i hi => by omega, fun i _ hi => by rw [zput_ne (by omega)]; exact u4 i hi⟩
  -- a letter more a house
  have r7 : ab_gI h3 41 7 = nI N := by rw [v2 41 7 (by omega), zput_ne (by omega), u2 41 7 (by omega), zput_ne (by omega)]; exact m1
  have r42 : ∀ i, ab_gI h3 42 i = ab_gI h 42 i := fun i => by rw [v2 42 i (by omega), zput_ne (by omega), u2 42 i (by omega), zput_ne (by omega)]
  have r45 : ∀ i, i < N → ab_gI h3 45 i = (zwalk S q n).2.2.1 i := fun i hi => by rw [v2 45 i (by omega), zput_same]; exact hzE.2.2.1 i hi
  have ea := s51 X (d + 3) hN (A := 45) rfl (by omega) (h := h3) (kd := fun i => S (2 + i)) r7 (fun i hi => by rw [r42]; exact (m3 i hi).1) (fun i hi => by rw [r45 i hi]; exact hb i hi)
  generalize hD : (fun i => if i < N then zad (S (2 + i)) (ab_gI h3 45 i) else ab_gI h3 45 i) = D at ea
  have D1 : ∀ i, i < N → D i = zad (S (2 + i)) ((zwalk S q n).2.2.1 i) := fun i hi => by rw [← hD]; exact (if_pos hi).trans (by rw [r45 i hi])
  -- no errands, the next day, the deed
  have eh : ab_ru X (d + 3) 2 [.ref 47, .int (nI 0)] (zput h3 45 D) = some (none, zf (zput h3 45 D) 47 0 6 (nI 0)) := s2 X (d + 3) (a := 47) (n := 6) rfl (nI 0) (zput h3 45 D)
  generalize hh5 : zf (zput h3 45 D) 47 0 6 (nI 0) = h5 at eh
  have w : ∀ c i, c ≠ 18 → c ≠ 45 → c ≠ 46 → c ≠ 47 → ab_gI h5 c i = ab_gI h c i := fun c i c1 c2 c3 c4 => by rw [← hh5, zf_ne c4, zput_ne c2, v2 c i c3, zput_ne c2, u2 c i c3, zput_ne c1]
  have wJ : ∀ c i, ab_gJ h5 c i = ab_gJ h c i := fun c i => by rw [← hh5]; exact v3 c i
  have w8 : ab_gI h5 41 8 = S 1 := (w 41 8 (by omega) (by omega) (by omega) (by omega)).trans m2
  have w9 : ab_gI h5 41 9 = nI dc := (w 41 9 (by omega) (by omega) (by omega) (by omega)).trans a3
  have ep := s52 X (d + 3) hn (q := q) (h := ab_sI h5 41 8 (S 1 + nI 1)) (by rw [zg_ne (by omega), w 19 1 (by omega) (by omega) (by omega) (by omega)]; exact e1) (fun k hk => ⟨by have := (e2 k hk).1; omega, by rw [zg_ne (by omega), w 20 k (by omega) (by omega) (by omega) (by omega)]; exact (e2 k hk).2⟩)
  have w9' : ab_gI (ab_sI h5 41 8 (S 1 + nI 1)) 41 9 = nI dc := by rw [zg_nj (by omega)]; exact w9
  have ed := s192 X (d + 3) hdc w9' (zrd q n)
  have er : ab_ru X (d + 4) 47 [.ref 41, .ref 19, .ref 18] h = some (some (.int (zwalk S q n).2.2.2), ab_sJ (ab_sI (ab_sI h5 41 8 (S 1 + nI 1)) 41 9 (nI (dc + 1))) 48 dc (zrd q n)) := by
    rw [r47, b47_0, zP_ob zS41, show (1 : Int32) = nI 1 from rfl, ef]
    simp only [zpu_s, zpu_n, Option.bind_some, b47_6, zlit]
    refine Eq.trans u1 ?_
    rw [l47_8, zP_ob zS41, u2 41 7 (by omega), zput_ne (by omega), m1, if_neg (nI_nlt (by omega) (by omega)), b47_37, zP_ob zS41, zP_rf zS41, show 41 + 1 + 3 = 45 from rfl, eb]
    simp only [zpu_s, zpu_n, Option.bind_some, b47_46, zlit]
    refine Eq.trans v1 ?_
    rw [l47_50, zP_ob zS41, r7, if_neg (nI_nlt (by omega) (by omega)), b47_82, zP_ob zS41, zP_ob zS41, zP_rf zS41, show 41 + 1 + 3 = 45 from rfl, ea]
    simp only [zpu_s, zpu_n, Option.bind_some]
    rw [b47_90, zP_ob zS41, zP_rf zS41, show 41 + 1 + 5 = 47 from rfl]
    simp only [zlit]
    rw [eh]
    simp only [zpu_s, zpu_n, Option.bind_some]
    rw [b47_98, zP_ob zS41, zP_ob zS41, w8, show (1 : Int32) = nI 1 from rfl, ep]
    simp only [zpu_s, zpu_n, Option.bind_some]
    rw [b47_113, zP_ob zS41, ed]
    simp only [zpu_s, zpu_n, Option.bind_some]
    rw [b47_116, hzE.2.2.2]
  subst hS
  generalize hh : ab_sJ (ab_sI (ab_sI h5 41 8 (zH h 41 N dc 1 + nI 1)) 41 9 (nI (dc + 1))) 48 dc (zrd q n) = h' at er
  have g41 : ∀ j, j ≠ 8 → j ≠ 9 → ab_gI h' 41 j = ab_gI h 41 j := fun j h8 h9 => by rw [← hh, zg_J, zg_nj h9, zg_nj h8, w 41 j (by omega) (by omega) (by omega) (by omega)]
  have gc : ∀ c j, c ≠ 18 → c ≠ 41 → c ≠ 45 → c ≠ 46 → c ≠ 47 → ab_gI h' c j = ab_gI h c j := fun c j c1 c2 c3 c4 c5 => by rw [← hh, zg_J, zg_ne c2, zg_ne c2, w c j c1 c3 c4 c5]
  have gj : ∀ j, j ≠ dc → ab_gJ h' 48 j = ab_gJ h 48 j := fun j hj => by rw [← hh, zj_nj hj, zj_I, zj_I, wJ]
  have gjx : ab_gJ h' 48 dc = zrd q n := by rw [← hh, zj_eq]
  have gJ : ∀ c j, c ≠ 48 → ab_gJ h' c j = ab_gJ h c j := fun c j hc => by rw [← hh, zj_ne hc, zj_I, zj_I, wJ]
  have g419 : ab_gI h' 41 9 = nI (dc + 1) := by rw [← hh, zg_J, zg_eq]
  have g418 : ab_gI h' 41 8 = zH h 41 N dc 1 + nI 1 := by rw [← hh, zg_J, zg_nj (by omega), zg_eq]
  have z14 : ∀ i, i < N → zap N (zrd q n) (zH h 41 N dc) (14 + i) = 0 := fun i hi => by rw [hz]; unfold zend; rw [if_neg (by omega), if_pos (by omega)]
  have z20 : ∀ i, i < N → zap N (zrd q n) (zH h 41 N dc) (20 + i) = zad (zH h 41 N dc (2 + i)) ((zwalk (zH h 41 N dc) q n).2.2.1 i) := fun i hi => by rw [hz]; unfold zend; rw [if_neg (by omega), if_neg (by omega), if_pos (by omega), show 20 + i - 20 = i by omega]; rfl
  have z26 : ∀ i, i < N → zap N (zrd q n) (zH h 41 N dc) (26 + i) = zH h 41 N dc (26 + i) + (zH h 41 N dc (20 + i) - (zwalk (zH h 41 N dc) q n).2.2.1 i) := fun i hi => by rw [hz]; unfold zend; rw [if_neg (by omega), if_neg (by omega), if_neg (by omega), if_pos (by omega), show 26 + i - 26 = i by omega]
  have st := zA_step (h' := h') a hdc (zDk_rd hn (fun k hk => (e2 k hk).1)) (g41 7 (by omega) (by omega)) g419 (fun j _ => gc 42 j (by omega) (by omega) (by omega) (by omega) (by omega)) (fun j _ => gc 43 j (by omega) (by omega) (by omega) (by omega) (by omega)) (fun j _ => gc 44 j (by omega) (by omega) (by omega) (by omega) (by omega)) (fun j hj => gj j (by omega)) gjx (by rw [hz, g418]; rfl) (fun j hj => by
    rw [z14 j hj, z20 j hj, z26 j hj]
    refine ⟨?_, ?_, ?_⟩
    · rw [← hh, zg_J, zg_ne (by omega), zg_ne (by omega), ← hh5, zf_in (by omega) (by omega)]; rfl
    · rw [← hh, zg_J, zg_ne (by omega), zg_ne (by omega), ← hh5, zf_ne (by omega), zput_same]; exact D1 j hj
    · rw [← hh, zg_J, zg_ne (by omega), zg_ne (by omega), ← hh5, zf_ne (by omega), zput_ne (by omega)]; exact v4 j hj) (fun j hj => by
    rw [z14 j hj, z20 j hj]
    obtain ⟨x, hx, ex⟩ := hb j hj
    rw [ex]
    exact ⟨⟨0, by omega, rfl⟩, zad_n hx⟩)
  exact ⟨h', er, st.1, gjx, gj, st.2.2, st.2.1, gc, gJ, g41⟩
