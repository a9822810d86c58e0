/-! deeds done: the class -/
theorem zed_word {i t : Nat} (hi : i < 6) (ht : t < 12) : Int32.toInt64 (-(((nI i * 12) + nI t) + 1)) = zed i t := by
  rw [show (12 : Int32) = nI 12 from rfl, pk_mul, nI_add, nI_1, show i * 12 + t + 1 = 12 * i + t + 1 by omega]
  apply Int64.toInt_inj.mp
  rw [Int32.toInt_toInt64, sb_negT (by omega), zed_toInt hi ht]
theorem zb2 : ∀ t, t < 12 → nI 1 <<< (nI t &&& nI 31) = nI (2 ^ t) := by decide
theorem z2t : ∀ t, t < 12 → 2 ^ t < 4096 := by decide
theorem zs41 {h : ab_H} {a : Nat} (x : Int32) : ab_sI h 41 a x = ab_sI h 41 a x := rfl
/-- a deed written down -/
theorem s192 (X : ab_X) (d : Nat) {dc : Nat} (hdc : dc < 40) {h : ab_H} (e9 : ab_gI h 41 9 = nI dc) (x : Int64) : ab_ru X d 192 [.ref 41, .long x] h = some (none, ab_sJ (ab_sI h 41 9 (nI (dc + 1))) 48 dc x) := by
  have lj : ∀ (h : ab_H) (x : Int64) (K : ab_H → Option ab_R), ab_sj h 48 (nI dc) x K = K (ab_sJ h 48 dc x) := fun h x K => z_sj (a := 48) rfl hdc h x K
  have hS : (41 : Nat) = 41 ∨ 41 = 49 ∨ 41 = 57 ∨ 41 = 65 := Or.inl rfl
  rw [r192, b192_0, zP_ob hS, e9, show (40 : Int32) = nI 40 from rfl, if_pos (nI_lt (by omega) (by omega)), b192_9, zP_ob hS, zP_ob hS, zP_ob hS, zP_rf hS, e9, show 41 + 1 + 6 = 48 from rfl, lj, b192_26, show (1 : Int32) = nI 1 from rfl, nI_add]
theorem s42 (X : ab_X) (d : Nat) {i t dc : Nat} (hi : i < 6) (ht : t < 12) (hdc : dc < 40) {h : ab_H} (e9 : ab_gI h 41 9 = nI dc) : ab_ru X (d + 1) 42 [.ref 41, .int (nI i), .int (nI t)] h = some (none, ab_sJ (ab_sI (ab_sI h 47 i (ab_gI h 47 i ||| (nI 1 <<< (nI t &&& nI 31)))) 41 9 (nI (dc + 1))) 48 dc (zed i t)) := by
  have ew := zed_word hi ht
  have e9' : ab_gI (ab_sI h 47 i (ab_gI h 47 i ||| (nI 1 <<< (nI t &&& nI 31)))) 41 9 = nI dc := by rw [zg_ne (by omega)]; exact e9
  have ed := s192 X d hdc e9' (zed i t)
  rw [r42, b42_0, ew]
  simp (discharger := omega) only [zP_ob (Or.inl rfl : (41 : Nat) = 41 ∨ 41 = 49 ∨ 41 = 57 ∨ 41 = 65), zP_rf (Or.inl rfl : (41 : Nat) = 41 ∨ 41 = 49 ∨ 41 = 57 ∨ 41 = 65), Nat.reduceAdd, zd47, zs47, zlit, ed, zpu_s, zpu_n, Option.bind_some, b42_26]
/-- an errand, at the class -/
theorem cE (X : ab_X) (d : Nat) {N dc i t : Nat} {h : ab_H} (a : zA h N dc) (hdc : dc < 40) (hi : i < N) (ht : t < 12) : ∃ h', ab_ru X (d + 1) 42 [.ref 41, .int (nI i), .int (nI t)] h = some (none, h') ∧ zA h' N (dc + 1) ∧ ab_gJ h' 48 dc = zed i t ∧ (∀ j, j ≠ dc → ab_gJ h' 48 j = ab_gJ h 48 j) ∧ (∀ j, j ≤ dc → zH h' 41 N j = zH h 41 N j) ∧ zH h' 41 N (dc + 1) = zap N (zed i t) (zH h 41 N dc) ∧ (∀ c i, c ≠ 41 → c ≠ 47 → ab_gI h' c i = ab_gI h c i) ∧ (∀ c i, c ≠ 48 → ab_gJ h' c i = ab_gJ h c i) ∧ (∀ i, i ≠ 9 → ab_gI h' 41 i = ab_gI h 41 i) := by
  have hN := a.1
  have e := s42 X d (i := i) (t := t) (dc := dc) (by omega) ht hdc (h := h) a.2.2.1
  have hz := zap_ed (N := N) (show i < 6 by omega) ht (zH h 41 N dc)
  obtain ⟨-, -, a3, ⟨m1, m2, m3⟩, bd, -⟩ := id a
  generalize hh : ab_sJ (ab_sI (ab_sI h 47 i (ab_gI h 47 i ||| (nI 1 <<< (nI t &&& nI 31)))) 41 9 (nI (dc + 1))) 48 dc (zed i t) = h' at e
  have g47 : ∀ j, ab_gI h' 47 j = if j = i then ab_gI h 47 i ||| (nI 1 <<< (nI t &&& nI 31)) else ab_gI h 47 j := fun j => by rw [← hh, zg_J, zg_ne (by omega), zg_same]
  have gc : ∀ c j, c ≠ 41 → c ≠ 47 → ab_gI h' c j = ab_gI h c j := fun c j h1 h2 => by rw [← hh, zg_J, zg_ne h1, zg_ne h2]
  have g41 : ∀ j, j ≠ 9 → ab_gI h' 41 j = ab_gI h 41 j := fun j hj => by rw [← hh, zg_J, zg_nj hj, zg_ne (by omega)]
  have g419 : ab_gI h' 41 9 = nI (dc + 1) := by rw [← hh, zg_J, zg_eq]
  have gj : ∀ j, j ≠ dc → ab_gJ h' 48 j = ab_gJ h 48 j := fun j hj => by rw [← hh, zj_nj hj]; rfl
  have gjx : ab_gJ h' 48 dc = zed i t := by rw [← hh, zj_eq]
  have gJ : ∀ c j, c ≠ 48 → ab_gJ h' c j = ab_gJ h c j := fun c j hc => by rw [← hh, zj_ne hc]; rfl
  have st := zA_step (h' := h') a hdc (zDk_ed hi ht) (g41 7 (by omega)) g419 (fun j _ => gc 42 j (by omega) (by omega)) (fun j _ => gc 43 j (by omega) (by omega)) (fun j _ => gc 44 j (by omega) (by omega)) (fun j hj => gj j (by omega)) gjx (by rw [hz, g41 8 (by omega)]; unfold upd; rw [if_neg (by omega)]; exact m2) (fun j hj => by
    obtain ⟨p1, p2, p3, p4, p5⟩ := m3 j hj
    rw [hz, g47, gc 45 j (by omega) (by omega), gc 46 j (by omega) (by omega)]
    unfold upd
    refine ⟨?_, ?_, ?_⟩
    · by_cases ej : j = i
      · subst ej; rw [if_pos rfl, if_pos rfl, p3]; rfl
      · rw [if_neg ej, if_neg (by omega)]; exact p3
    · rw [if_neg (by omega)]; exact p4
    · rw [if_neg (by omega)]; exact p5) (fun j hj => by
    obtain ⟨b1, b2, ⟨o, ho, eo⟩, b4⟩ := bd j hj
    rw [hz]
    unfold upd
    refine ⟨?_, ?_⟩
    · by_cases ej : j = i
      · subst ej
        rw [if_pos rfl, eo]
        obtain ⟨m, hm, em⟩ := zI_or o (2 ^ t) ho (z2t t ht)
        refine ⟨m, hm, ?_⟩
        rw [← em, ← zb2 t ht]
        rfl
      · rw [if_neg (by omega)]; exact ⟨o, ho, eo⟩
    · rw [if_neg (by omega)]; exact b4)
  exact ⟨h', e, st.1, gjx, gj, st.2.2, st.2.1, gc, gJ, g41⟩
/-- a round packed -/
theorem s52 (X : ab_X) (d : Nat) {n : Nat} {q : Nat → Nat} (hn : n ≤ 12) {h : ab_H} (e1 : ab_gI h 19 1 = nI n) (e2 : ∀ k, k < n → q k < 6 ∧ ab_gI h 20 k = nI (q k)) : ab_ru X d 52 [.ref 19] h = some (some (.long (zrd q n)), h) := by
  have hq : ∀ k, k < n → q k < 8 := fun k hk => by have := (e2 k hk).1; omega
  have hb := zpk_12 hn hq
  have key : ∀ j P, j ≤ n → zpk q j + 8 ^ j * P = zpk q n → ab_ex X d 52 9 [.ref 19, .long (lN P), .null, .int (nI j - nI 1)] [] h = some (some (.long (zrd q n)), h) := by
    intro j
    induction j with
    | zero =>
      intro P hj hP
      have hP' : P = zpk q n := by
        rw [← hP]
        show P = 0 + 1 * P
        omega
      subst hP'
      have hneg : (nI 0 - nI 1 < nI 0) = True := eq_true (by decide)
      have hneg' : nI 0 - nI 1 < (0 : Int32) := by decide
      rw [l52_9, if_pos hneg', b52_31, e1, nI_1, nI_l (by omega), show Int32.toInt64 4 = (nI 4).toInt64 from rfl, zL_shl (by omega) (by omega), zL_or (by omega) (by omega)]
      unfold zrd
      rw [show zpk q n * 2 ^ 4 + (n + 1) = 16 * zpk q n + (n + 1) by omega]
    | succ j ih =>
      intro P hj hP
      have q1 := (e2 j (by omega)).2
      have q2 := (e2 j (by omega)).1
      have hp8 : 0 < 8 ^ j := Nat.pow_pos (by decide)
      have hPb : P ≤ zpk q n := by
        have h1 : P ≤ 8 ^ (j + 1) * P := Nat.le_mul_of_pos_left P (Nat.pow_pos (by decide))
        omega
      have hnn : ¬ nI (j + 1) - nI 1 < (0 : Int32) := by rw [pk_sub (by omega)]; exact nI_pos (by omega)
      rw [l52_9, if_neg hnn, b52_13, pk_sub (by omega), show j + 1 - 1 = j by omega, zd20 (by omega), q1, nI_l (by omega), show Int32.toInt64 3 = (nI 3).toInt64 from rfl, zL_shl (by omega) (by omega), zL_or (k := 3) (by omega) (by omega)]
      refine Eq.trans (show _ = ab_ex X d 52 9 [.ref 19, .long (lN (P * 2 ^ 3 + q j)), .null, .int (nI j - nI 1)] [] h from ?_) (ih (P * 2 ^ 3 + q j) (by omega) ?_)
      · rw [show nI j + -1 = nI j - nI 1 from (Int32.sub_eq_add_neg (nI j) (nI 1)).symm]
      · rw [← hP]
        show zpk q j + 8 ^ j * (P * 2 ^ 3 + q j) = zpk q j + q j * 8 ^ j + 8 ^ (j + 1) * P
        rw [show (2 : Nat) ^ 3 = 8 from rfl, Nat.pow_succ, Nat.mul_add, Nat.mul_comm (8 ^ j) (q j), Nat.mul_comm P 8, ← Nat.mul_assoc]
        omega
  rw [r52, b52_0, e1]
  exact key n 0 (Nat.le_refl n) (by omega)
