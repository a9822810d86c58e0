/-! posts kept, gone on from -/
theorem s129 (X : ab_X) (d : Nat) {a b n : Nat} (ha : a + n ≤ 5280) (hb : b + n ≤ 5280) (hab : a + n ≤ b ∨ b + n ≤ a) (h : ab_H) : ab_ru X d 129 [.ref 29, .int (nI a), .int (nI b), .int (nI n)] h = some (none, ab_cI h 30 a 30 b n) := by
  have key := zloopI (fun k (D : Nat → Int32) => D = fun i => if b ≤ i ∧ i < b + k then ab_gI h 30 (a + (i - b)) else ab_gI h 30 i) (fun D k => ab_ex X d 129 3 [.ref 29, .int (nI a), .int (nI b), .int (nI n), .int (nI k)] [] (zput h 30 D)) (fun k D => upd D (b + k) (D (a + k))) n (fun k D hk hP => by
    refine ⟨?_, ?_⟩
    · rw [l129_3, if_pos (nI_lt (by omega) (by omega)), b129_9, nI_add, nI_add, zd30 (by omega), zs30 (by omega), zput_same, zput_s, nI_1]
    · rw [hP]
      funext i
      unfold upd
      dsimp only
      by_cases e : i = b + k
      · subst e; rw [if_pos rfl, if_neg (show ¬ (b ≤ a + k ∧ a + k < b + k) by omega), if_pos (show b ≤ b + k ∧ b + k < b + (k + 1) by omega), show a + (b + k - b) = a + k by omega]
      · rw [if_neg e]
        by_cases e2 : b ≤ i ∧ i < b + k
        · rw [if_pos e2, if_pos (by omega)]
        · rw [if_neg e2, if_neg (by omega)]) (fun i => ab_gI h 30 i) (funext fun i => by rw [if_neg (by omega)])
  obtain ⟨key, hP⟩ := key
  rw [zput_self, hP] at key
  rw [r129, b129_0]
  refine Eq.trans (show _ = ab_ex X d 129 3 [.ref 29, .int (nI a), .int (nI b), .int (nI n), .int (nI 0)] [] h from rfl) ?_
  refine Eq.trans key ?_
  rw [l129_3, if_neg (nI_nlt (by omega) (by omega)), b129_33]
  refine congrArg (fun z => some (none, z)) (zh_ext (fun c i => ?_) (fun _ _ => rfl))
  by_cases e : c = 30
  · subst e; rw [zput_same, zc_same]
  · rw [zput_ne e, zc_ne e]
theorem zH_tr {h h' : ab_H} {a a' N : Nat} (e1 : ∀ i, i < 6 → ab_gI h' (a' + 1) i = ab_gI h (a + 1) i) (e2 : ∀ i, i < 6 → ab_gI h' (a' + 2) i = ab_gI h (a + 2) i) (e3 : ∀ i, i < 6 → ab_gI h' (a' + 3) i = ab_gI h (a + 3) i) (hN : N ≤ 6) : ∀ (j : Nat), (∀ i, i < j → ab_gJ h' (a' + 7) i = ab_gJ h (a + 7) i) → zH h' a' N j = zH h a N j
  | 0, _ => by
    funext j
    unfold zH
    split
    · rfl
    · split
      · exact e1 _ (by omega)
      · split
        · exact e2 _ (by omega)
        · split
          · exact e3 _ (by omega)
          · rfl
  | j + 1, e7 => by
    unfold zH
    rw [zH_tr e1 e2 e3 hN j (fun i hi => e7 i (by omega)), e7 j (by omega)]
theorem zPC_tr {h h' : ab_H} {a a' b b' dc N : Nat} (e : ∀ j i, j < 6 → i < 6 → ab_gI h' (a' + 1 + j) i = ab_gI h (a + 1 + j) i) (ej : ∀ i, i < 40 → ab_gJ h' (a' + 7) i = ab_gJ h (a + 7) i) (f7 : ab_gI h' a' 7 = ab_gI h a 7) (f8 : ab_gI h' a' 8 = ab_gI h a 8) (f9 : ab_gI h' a' 9 = ab_gI h a 9) (ew : ∀ i, i < 1312 → ab_gI h' 30 (b' + i) = ab_gI h 30 (b + i)) (q : zPC h a b dc N) : zPC h' a' b' dc N := by
  obtain ⟨q1, q2, q3, q4, q5, q6, q7, q8, q9, q10⟩ := q
  have hH : ∀ j, j ≤ dc → zH h' a' N j = zH h a N j := fun j hj => zH_tr (fun i hi => e 0 i (by omega) hi) (fun i hi => e 1 i (by omega) hi) (fun i hi => e 2 i (by omega) hi) q1 j (fun i hi => ej i (by omega))
  refine ⟨q1, q2, f7.trans q3, f9.trans q4, ?_, fun i hi => ?_, fun i hi => ?_, fun j hj => ?_, fun j hj i hi => ?_, fun i hi => ?_⟩
  · rw [f8, ew 1 (by omega)]; exact q5
  · have g1 := e 0 i (by omega) (by omega)
    have g2 := e 1 i (by omega) (by omega)
    have g3 := e 5 i (by omega) (by omega)
    have g4 := e 3 i (by omega) (by omega)
    have g5 := e 4 i (by omega) (by omega)
    rw [ew (2 + i) (by omega), ew (8 + i) (by omega), ew (14 + i) (by omega), ew (20 + i) (by omega), ew (26 + i) (by omega)]
    obtain ⟨p1, p2, p3, p4, p5⟩ := q6 i hi
    exact ⟨g1.trans p1, g2.trans p2, g3.trans p3, g4.trans p4, g5.trans p5⟩
  · rw [ew (2 + i) (by omega), ew (8 + i) (by omega), ew (14 + i) (by omega), ew (20 + i) (by omega)]
    obtain ⟨p1, p2, p3, p4, p5⟩ := q7 i hi
    refine ⟨p1, p2, p3, p4, ?_⟩
    obtain ⟨x, hx, ex⟩ := p5
    exact ⟨x, hx, (e 2 i (by omega) (by omega)).trans ex⟩
  · rw [ej j (by omega)]; exact q8 j hj
  · rw [hH j (by omega), show b' + 32 * (j + 1) + i = b' + (32 * (j + 1) + i) by omega, ew _ (by omega), ← show b + 32 * (j + 1) + i = b + (32 * (j + 1) + i) by omega]
    exact q9 j hj i hi
  · rw [hH dc (Nat.le_refl dc), ew i (by omega)]; exact q10 i hi
theorem zInv_fr1 {h h' : ab_H} (hI : zInv h) (e : ∀ c i, ((1 ≤ c ∧ c ≤ 16) ∨ (32 ≤ c ∧ c ≤ 35) ∨ c = 37) → ab_gI h' c i = ab_gI h c i) (es : ∀ c, 25 ≤ c → c ≤ 28 → ab_gI h' c 0 = ab_gI h c 0) (ea : zI_ask h') (hn : zI_now h') (hk : zI_kep h') : zInv h' := by
  obtain ⟨i1, i2, i3, i4, i5, i6, i7⟩ := hI
  refine ⟨ea, fun f hf => ?_, fun r hr => ?_, fun t ht => ?_, hn, hk, ?_⟩
  · rw [e 16 f (by omega), e 37 f (by omega)]; exact i2 f hf
  · obtain ⟨b1, b2, b3⟩ := i3 r hr
    refine ⟨?_, ?_, fun k hk => ?_⟩
    · rw [e 8 r (by omega), e 33 r (by omega)]; exact b1
    · rw [e 33 r (by omega)]; exact b2
    · rw [e (2 + r) k (by omega), e 32 _ (by omega)]; exact b3 k hk
  · obtain ⟨b1, b2, b3⟩ := i4 t ht
    refine ⟨?_, ?_, fun k hk => ?_⟩
    · rw [e 14 t (by omega), e 35 t (by omega)]; exact b1
    · rw [e 35 t (by omega)]; exact b2
    · rw [e (10 + t) k (by omega), e 34 _ (by omega)]; exact b3 k hk
  · obtain ⟨c1, c2, c3, c4⟩ := i7
    refine ⟨?_, ?_, ?_, ?_⟩
    · rw [es 25 (by omega) (by omega)]; exact c1
    · rw [es 26 (by omega) (by omega)]; exact c2
    · rw [es 27 (by omega) (by omega)]; exact c3
    · rw [es 28 (by omega) (by omega)]; exact c4
theorem zP_cp {a b j : Nat} (ha : a = 41 ∨ a = 49 ∨ a = 57 ∨ a = 65) (hb : b = 41 ∨ b = 49 ∨ b = 57 ∨ b = 65) (hj : j < 6) (h : ab_H) (K : ab_H → Option ab_R) : ab_cp h (a + 1 + j) (nI 0) (b + 1 + j) (nI 0) (nI 6) K = K (ab_cI h (a + 1 + j) 0 (b + 1 + j) 0 6) := z_cp (by rw [zP_sh ha hj]) (by rw [zP_sh hb hj]) (by rw [zP_sh ha hj]; decide) (by rw [zP_sh hb hj]; decide) _ _
theorem zP_cpJ {a b : Nat} (ha : a = 41 ∨ a = 49 ∨ a = 57 ∨ a = 65) (hb : b = 41 ∨ b = 49 ∨ b = 57 ∨ b = 65) (h : ab_H) (K : ab_H → Option ab_R) : ab_cp h (a + 1 + 6) (nI 0) (b + 1 + 6) (nI 0) (nI 40) K = K (ab_cJ h (a + 1 + 6) 0 (b + 1 + 6) 0 40) := z_cpJ (by rw [zP_shJ ha]) (by rw [zP_shJ hb]) (by rw [zP_shJ ha]; decide) (by rw [zP_shJ hb]; decide) _ _
theorem zc_in {b dp n j : Nat} (h1 : dp ≤ j) (h2 : j < dp + n) (h : ab_H) (a sp : Nat) : ab_gI (ab_cI h a sp b dp n) b j = ab_gI h a (sp + (j - dp)) := by rw [zc_same, if_pos ⟨h1, h2⟩]
theorem zc_out {b dp n j : Nat} (h1 : j < dp ∨ dp + n ≤ j) (h : ab_H) (a sp : Nat) : ab_gI (ab_cI h a sp b dp n) b j = ab_gI h b j := by rw [zc_same, if_neg (by omega)]
theorem zk_in {b dp n j : Nat} (h1 : dp ≤ j) (h2 : j < dp + n) (h : ab_H) (a sp : Nat) : ab_gJ (ab_cJ h a sp b dp n) b j = ab_gJ h a (sp + (j - dp)) := by rw [zk_same, if_pos ⟨h1, h2⟩]
set_option maxHeartbeats 1000000 in
theorem s59 (X : ab_X) (d : Nat) {a b : Nat} (ha : a = 41 ∨ a = 49 ∨ a = 57 ∨ a = 65) (hb : b = 41 ∨ b = 49 ∨ b = 57 ∨ b = 65) (hab : a + 8 ≤ b ∨ b + 8 ≤ a) (h : ab_H) : ∃ h', ab_ru X d 59 [.ref a, .ref b] h = some (none, h') ∧ (∀ c i, (c < a ∨ a + 7 < c) → ab_gI h' c i = ab_gI h c i) ∧ (∀ c i, c ≠ a + 7 → ab_gJ h' c i = ab_gJ h c i) ∧ (∀ j i, j < 6 → i < 6 → ab_gI h' (a + 1 + j) i = ab_gI h (b + 1 + j) i) ∧ (∀ i, i < 40 → ab_gJ h' (a + 7) i = ab_gJ h (b + 7) i) ∧ ab_gI h' a 7 = ab_gI h b 7 ∧ ab_gI h' a 8 = ab_gI h b 8 ∧ ab_gI h' a 9 = ab_gI h b 9 := by
  have e : ab_ru X d 59 [.ref a, .ref b] h = some (none, ab_sI (ab_sI (ab_sI (ab_cJ (ab_cI (ab_cI (ab_cI (ab_cI (ab_cI (ab_cI h (b + 1 + 0) 0 (a + 1 + 0) 0 6) (b + 1 + 1) 0 (a + 1 + 1) 0 6) (b + 1 + 2) 0 (a + 1 + 2) 0 6) (b + 1 + 3) 0 (a + 1 + 3) 0 6) (b + 1 + 4) 0 (a + 1 + 4) 0 6) (b + 1 + 5) 0 (a + 1 + 5) 0 6) (b + 1 + 6) 0 (a + 1 + 6) 0 40) a 7 (ab_gI h b 7)) a 8 (ab_gI h b 8)) a 9 (ab_gI h b 9)) := by
    simp (discharger := omega) only [r59, b59_0, zP_ob ha, zP_ob hb, zP_rf ha, zP_rf hb, zlit, zP_cp hb ha, zP_cpJ hb ha, zg_ne, zc_ne, zc_J]
  refine ⟨_, e, fun c i hc => ?_, fun c i hc => ?_, fun j i hj hi => ?_, fun i hi => ?_, ?_, ?_, ?_⟩
  · simp (discharger := omega) only [zg_ne, zc_ne, zc_J]
  · simp (discharger := omega) only [zj_I, zk_ne, zk_I]
  · have e9 : j = 0 ∨ j = 1 ∨ j = 2 ∨ j = 3 ∨ j = 4 ∨ j = 5 := by omega
    rcases e9 with rfl | rfl | rfl | rfl | rfl | rfl
    all_goals simp (discharger := omega) only [zg_ne, zc_ne, zc_J, zc_in, Nat.zero_add, Nat.sub_zero]
  · rw [show a + 7 = a + 1 + 6 by omega, show b + 7 = b + 1 + 6 by omega]
    simp (discharger := omega) only [zj_I, zk_in, zk_I, Nat.zero_add, Nat.sub_zero]
  · simp (discharger := omega) only [zg_eq, zg_nj]
  · simp (discharger := omega) only [zg_eq, zg_nj]
  · simp (discharger := omega) only [zg_eq, zg_nj]
theorem s58 (X : ab_X) (d : Nat) (x : Int32) (h : ab_H) : ab_ru X d 58 [.int x] h = some (some (.int (zb (¬ x < nI 0 ∧ x < nI 3))), h) := by
  simp only [r58, b58_0, b58_4, b58_9, b58_13, b58_14, zlit, zr0, zr1, zrn0, zrn1, zrb, and_self, and_true, true_and, if_true, if_false, ite_true, ite_false]
  unfold zb
  by_cases h1 : x < nI 0 <;> by_cases h2 : x < nI 3 <;> simp [h1, h2, zlit]
theorem zkp {k : Nat} (hk : k < 3) : 49 + 8 * k = 41 ∨ 49 + 8 * k = 49 ∨ 49 + 8 * k = 57 ∨ 49 + 8 * k = 65 := by omega
set_option maxHeartbeats 1000000 in
theorem cp_keep (X : ab_X) (d : Nat) (x : Int32) {h : ab_H} (hI : zInv h) : zCp X (d + 30) 57 152 [.int x] h := by
  obtain ⟨i1, i2, i3, i4, i5, i6, i7⟩ := id hI
  obtain ⟨N, dc, n0, n1, pc⟩ := id i5
  have hN := pc.1
  have hdc := pc.2.1
  have n2 := pc.2.2.1
  have n3 := pc.2.2.2.1
  obtain ⟨N', dc', hN', hdc', -, -, n2', -, -, n5, -⟩ := znow hI
  have eN : N' = N := by
    have := n2'.symm.trans n2
    exact (nI_eq (by omega) (by omega)).mp this
  subst eN
  by_cases hx : ¬ (¬ x < nI 0 ∧ x < nI 3)
  · apply zCp_mk
    · simp (discharger := omega) only [r57, b57_0, b57_4, b57_7, s58, zpu_s, zpu_n, Option.bind_some, zlit, Bool.false_eq_true, zlt_t, zlt_f, zeq_t, zeq_f, nI_add, pk_mul, zb_0, zb_n0, not_true_eq_false, not_false_eq_true, Classical.not_not, if_true, if_false, ite_true, ite_false, and_self, and_true, true_and, and_false, false_and, or_self, or_true, true_or, or_false, false_or, reduceIte, hx]; rfl
    · have hp3 : ¬ (¬ x < nI 0 ∧ ¬ nI 2 < x) := by rw [znlt (n := 2) (by omega) x, Classical.not_not]; exact hx
      simp (discharger := omega) only [r152, b152_0, b152_9, b152_12, s107i, zJ0, zJ2, zpu_s, zpu_n, Option.bind_some, zlit, Bool.false_eq_true, zlt_t, zlt_f, zeq_t, zeq_f, nI_add, pk_mul, zb_0, zb_n0, not_true_eq_false, not_false_eq_true, Classical.not_not, if_true, if_false, ite_true, ite_false, and_self, and_true, true_and, and_false, false_and, or_self, or_true, true_or, or_false, false_or, reduceIte, hp3]; rfl
    · exact hI
  have hx := Classical.not_not.mp hx
  rcases zix x (n := 3) (by omega) with q | q | ⟨k, hk, rfl⟩
  · exact absurd q hx.1
  · exact absurd hx.2 q.2
  by_cases hN0 : N' = 0
  · subst hN0
    apply zCp_mk
    · simp (discharger := omega) only [r57, b57_0, b57_4, b57_9, b57_19, s58, n2, zpu_s, zpu_n, Option.bind_some, zlit, Bool.false_eq_true, zlt_t, zlt_f, zeq_t, zeq_f, nI_add, pk_mul, zb_0, zb_n0, not_true_eq_false, not_false_eq_true, Classical.not_not, if_true, if_false, ite_true, ite_false, and_self, and_true, true_and, and_false, false_and, or_self, or_true, true_or, or_false, false_or, reduceIte]; rfl
    · simp (discharger := omega) only [r152, b152_0, b152_9, b152_14, b152_23, s107i, zJ0, zJ2, zd30, n5, zpu_s, zpu_n, Option.bind_some, zlit, Bool.false_eq_true, zlt_t, zlt_f, zeq_t, zeq_f, nI_add, pk_mul, zb_0, zb_n0, not_true_eq_false, not_false_eq_true, Classical.not_not, if_true, if_false, ite_true, ite_false, and_self, and_true, true_and, and_false, false_and, or_self, or_true, true_or, or_false, false_or, reduceIte]; rfl
    · exact hI
  obtain ⟨h1, e1, f1, f2, f3, f4, f5, f6, f7⟩ := s59 X (d + 29) (a := 49 + 8 * k) (b := 41) (zkp hk) (Or.inl rfl) (by omega) h
  have n3' : ab_gI h1 41 9 = nI dc := (f1 41 9 (by omega)).trans n3
  have n1' : ab_gI h1 29 1 = nI dc := (f1 29 1 (by omega)).trans n1
  have n5' : ab_gI h1 30 0 = nI N' := (f1 30 0 (by omega)).trans n5
  have ec : ab_ru X (d + 30) 57 [.ref 0, .int (nI k)] h = some (some (.int (nI dc)), h1) := by
    simp (discharger := omega) only [r57, b57_0, b57_4, b57_9, b57_22, b57_35, s58, n2, zL_kept, zP_ob, e1, n3', zpu_s, zpu_n, Option.bind_some, zlit, Bool.false_eq_true, zlt_t, zlt_f, zeq_t, zeq_f, nI_add, pk_mul, zb_0, zb_n0, not_true_eq_false, not_false_eq_true, Classical.not_not, if_true, if_false, ite_true, ite_false, and_self, and_true, true_and, and_false, false_and, or_self, or_true, true_or, or_false, false_or, reduceIte]
  have g29 : ab_gI (ab_cI h1 30 0 30 (1312 * (k + 1)) 1312) 29 1 = nI dc := by rw [zc_ne (by omega)]; exact n1'
  have em : ab_ru X (d + 30) 152 [.ref 29, .int (nI k)] h1 = some (some (.int (nI dc)), ab_sI (ab_cI h1 30 0 30 (1312 * (k + 1)) 1312) 31 k (nI dc)) := by
    simp (discharger := omega) only [r152, b152_0, b152_9, b152_14, b152_26, b152_41, s107i, zJ0, zJ2, zd30, n5', s129, zs31, g29, zg_ne, zpu_s, zpu_n, Option.bind_some, zlit, Bool.false_eq_true, zlt_t, zlt_f, zeq_t, zeq_f, nI_add, pk_mul, zb_0, zb_n0, not_true_eq_false, not_false_eq_true, Classical.not_not, if_true, if_false, ite_true, ite_false, and_self, and_true, true_and, and_false, false_and, or_self, or_true, true_or, or_false, false_or, reduceIte]
  refine zCp_mk ec em (zInv_fr1 hI (fun c i hc => ?_) (fun c h1 h2 => ?_) ?_ ⟨N', dc, n0, ?_, ?_⟩ (fun k' hk' => ?_))
  · rw [zg_ne (by omega), zc_ne (by omega), f1 c i (by omega)]
  · rw [zg_ne (by omega), zc_ne (by omega), f1 c 0 (by omega)]
  · unfold zI_ask at i1 ⊢
    simp (discharger := omega) only [zg_ne, zc_ne, zj_I, zk_I, f1, f2]
    exact i1
  · rw [zg_ne (by omega)]; exact g29
  · refine zPC_frame (h := h) (fun c h1 h2 i => ?_) (fun i => ?_) (fun i hi => ?_) pc
    · rw [zg_ne (by omega), zc_ne (by omega), f1 c i (by omega)]
    · rw [zj_I, zk_I, f2 _ _ (by omega)]
    · rw [zg_ne (by omega), zc_out (by omega), f1 30 _ (by omega)]
  · by_cases ek : k' = k
    · subst ek
      refine Or.inr ⟨N', dc, by omega, zg_eq _ _ _ _, zPC_tr (h := h) (a := 41) (b := 0) (fun j i hj hi => ?_) (fun i hi => ?_) ?_ ?_ ?_ (fun i hi => ?_) pc⟩
      · rw [zg_ne (by omega), zc_ne (by omega)]; exact f3 j i hj hi
      · rw [zj_I, zk_I]; exact f4 i hi
      · rw [zg_ne (by omega), zc_ne (by omega)]; exact f5
      · rw [zg_ne (by omega), zc_ne (by omega)]; exact f6
      · rw [zg_ne (by omega), zc_ne (by omega)]; exact f7
      · rw [zg_ne (by omega), zc_in (by omega) (by omega), f1 30 _ (by omega), show 1312 * (k' + 1) + i - 1312 * (k' + 1) = i by omega]
    · rcases i6 k' hk' with ⟨a1, a2⟩ | ⟨M, dm, a0, a1, a2⟩
      · refine Or.inl ⟨?_, ?_⟩
        · rw [zg_nj (by omega), zc_ne (by omega), f1 31 _ (by omega)]; exact a1
        · rw [zg_ne (by omega), zc_ne (by omega), f1 _ _ (by omega)]; exact a2
      · refine Or.inr ⟨M, dm, a0, ?_, zPC_frame (h := h) (fun c h1 h2 i => ?_) (fun i => ?_) (fun i hi => ?_) a2⟩
        · rw [zg_nj (by omega), zc_ne (by omega), f1 31 _ (by omega)]; exact a1
        · rw [zg_ne (by omega), zc_ne (by omega), f1 c i (by omega)]
        · rw [zj_I, zk_I, f2 _ _ (by omega)]
        · rw [zg_ne (by omega), zc_out (by omega), f1 30 _ (by omega)]
set_option maxHeartbeats 1000000 in
theorem cp_on (X : ab_X) (d : Nat) (x : Int32) {h : ab_H} (hI : zInv h) : zCp X (d + 30) 60 153 [.int x] h := by
  obtain ⟨i1, i2, i3, i4, i5, i6, i7⟩ := id hI
  by_cases hx : ¬ (¬ x < nI 0 ∧ x < nI 3)
  · apply zCp_mk
    · simp (discharger := omega) only [r60, b60_0, b60_4, b60_7, s58, zpu_s, zpu_n, Option.bind_some, zlit, Bool.false_eq_true, zlt_t, zlt_f, zeq_t, zeq_f, nI_add, pk_mul, zb_0, zb_n0, not_true_eq_false, not_false_eq_true, Classical.not_not, if_true, if_false, ite_true, ite_false, and_self, and_true, true_and, and_false, false_and, or_self, or_true, true_or, or_false, false_or, reduceIte, hx]; rfl
    · have hp3 : ¬ (¬ x < nI 0 ∧ ¬ nI 2 < x) := by rw [znlt (n := 2) (by omega) x, Classical.not_not]; exact hx
      simp (discharger := omega) only [r153, b153_0, b153_9, b153_12, s107i, zJ0, zJ2, zpu_s, zpu_n, Option.bind_some, zlit, Bool.false_eq_true, zlt_t, zlt_f, zeq_t, zeq_f, nI_add, pk_mul, zb_0, zb_n0, not_true_eq_false, not_false_eq_true, Classical.not_not, if_true, if_false, ite_true, ite_false, and_self, and_true, true_and, and_false, false_and, or_self, or_true, true_or, or_false, false_or, reduceIte, hp3]; rfl
    · exact hI
  have hx := Classical.not_not.mp hx
  rcases zix x (n := 3) (by omega) with q | q | ⟨k, hk, rfl⟩
  · exact absurd q hx.1
  · exact absurd hx.2 q.2
  rcases i6 k hk with ⟨a1, a2⟩ | ⟨M, dm, a0, a1, a2⟩
  · have a2' : ab_gI h (49 + 8 * k) 7 = nI 0 := a2
    have a1' : ab_gI h 31 k = -nI 1 := a1
    apply zCp_mk
    · simp (discharger := omega) only [r60, b60_0, b60_4, b60_9, b60_21, b60_26, s58, s8, zL_kept, zP_ob, a2', zpu_s, zpu_n, Option.bind_some, zlit, Bool.false_eq_true, zlt_t, zlt_f, zeq_t, zeq_f, nI_add, pk_mul, zb_0, zb_n0, not_true_eq_false, not_false_eq_true, Classical.not_not, if_true, if_false, ite_true, ite_false, and_self, and_true, true_and, and_false, false_and, or_self, or_true, true_or, or_false, false_or, reduceIte]; rfl
    · simp (discharger := omega) only [r153, b153_0, b153_9, b153_14, b153_23, b153_28, s107i, s108, zJ0, zJ2, zd31, zg_ne, zj_ne, zc_ne, zk_ne, zf_ne, a1', zneg1, zpu_s, zpu_n, Option.bind_some, zlit, Bool.false_eq_true, zlt_t, zlt_f, zeq_t, zeq_f, nI_add, pk_mul, zb_0, zb_n0, not_true_eq_false, not_false_eq_true, Classical.not_not, if_true, if_false, ite_true, ite_false, and_self, and_true, true_and, and_false, false_and, or_self, or_true, true_or, or_false, false_or, reduceIte]; rfl
    · exact zInv_find hI (f := 1) (by omega)
  have hM := a2.1
  have hdm := a2.2.1
  have m2 := a2.2.2.1
  have m3 := a2.2.2.2.1
  obtain ⟨h1, e1, f1, f2, f3, f4, f5, f6, f7⟩ := s59 X (d + 29) (a := 41) (b := 49 + 8 * k) (Or.inl rfl) (zkp hk) (by omega) h
  have m3' : ab_gI h1 41 9 = nI dm := f7.trans m3
  have a1' : ab_gI h1 31 k = nI dm := (f1 31 k (by omega)).trans a1
  have ec : ab_ru X (d + 30) 60 [.ref 0, .int (nI k)] h = some (some (.int (nI dm)), h1) := by
    simp (discharger := omega) only [r60, b60_0, b60_4, b60_9, b60_27, b60_40, s58, m2, zL_kept, zP_ob, e1, m3', zpu_s, zpu_n, Option.bind_some, zlit, Bool.false_eq_true, zlt_t, zlt_f, zeq_t, zeq_f, nI_add, pk_mul, zb_0, zb_n0, not_true_eq_false, not_false_eq_true, Classical.not_not, if_true, if_false, ite_true, ite_false, and_self, and_true, true_and, and_false, false_and, or_self, or_true, true_or, or_false, false_or, reduceIte]
  have em : ab_ru X (d + 30) 153 [.ref 29, .int (nI k)] h1 = some (some (.int (nI dm)), ab_sI (ab_cI h1 30 (1312 * (k + 1)) 30 0 1312) 29 1 (nI dm)) := by
    simp (discharger := omega) only [r153, b153_0, b153_9, b153_14, b153_29, b153_44, s107i, zJ0, zJ2, zd31, a1', s129, zc_ne, zg_eq, zpu_s, zpu_n, Option.bind_some, zlit, Bool.false_eq_true, zlt_t, zlt_f, zeq_t, zeq_f, nI_add, pk_mul, zb_0, zb_n0, not_true_eq_false, not_false_eq_true, Classical.not_not, if_true, if_false, ite_true, ite_false, and_self, and_true, true_and, and_false, false_and, or_self, or_true, true_or, or_false, false_or, reduceIte]
  refine zCp_mk ec em (zInv_fr1 hI (fun c i hc => ?_) (fun c h1 h2 => ?_) ?_ ⟨M, dm, by omega, zg_eq _ _ _ _, ?_⟩ (fun k' hk' => ?_))
  · rw [zg_ne (by omega), zc_ne (by omega), f1 c i (by omega)]
  · rw [zg_ne (by omega), zc_ne (by omega), f1 c 0 (by omega)]
  · unfold zI_ask at i1 ⊢
    simp (discharger := omega) only [zg_ne, zg_nj, zc_ne, zj_I, zk_I, f1, f2]
    exact i1
  · refine zPC_tr (h := h) (a := 49 + 8 * k) (b := 1312 * (k + 1)) (fun j i hj hi => ?_) (fun i hi => ?_) ?_ ?_ ?_ (fun i hi => ?_) a2
    · rw [zg_ne (by omega), zc_ne (by omega)]; exact f3 j i hj hi
    · rw [zj_I, zk_I]; exact f4 i hi
    · rw [zg_ne (by omega), zc_ne (by omega)]; exact f5
    · rw [zg_ne (by omega), zc_ne (by omega)]; exact f6
    · rw [zg_ne (by omega), zc_ne (by omega)]; exact f7
    · rw [zg_ne (by omega), zc_in (by omega) (by omega), f1 30 _ (by omega), show 0 + i - 0 = i by omega]
  · rcases i6 k' hk' with ⟨p1, p2⟩ | ⟨M', dm', p0, p1, p2⟩
    · refine Or.inl ⟨?_, ?_⟩
      · rw [zg_ne (by omega), zc_ne (by omega), f1 31 _ (by omega)]; exact p1
      · rw [zg_ne (by omega), zc_ne (by omega), f1 _ _ (by omega)]; exact p2
    · refine Or.inr ⟨M', dm', p0, ?_, zPC_frame (h := h) (fun c h1 h2 i => ?_) (fun i => ?_) (fun i hi => ?_) p2⟩
      · rw [zg_ne (by omega), zc_ne (by omega), f1 31 _ (by omega)]; exact p1
      · rw [zg_ne (by omega), zc_ne (by omega), f1 c i (by omega)]
      · rw [zj_I, zk_I, f2 _ _ (by omega)]
      · rw [zg_ne (by omega), zc_out (by omega), f1 30 _ (by omega)]
