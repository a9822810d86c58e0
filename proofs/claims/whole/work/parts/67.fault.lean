/-! fault, post -/
theorem zInv_Fp {h h' : ab_H} (hI : zInv h) (f : zFp h h') : zInv h' := by
  obtain ⟨i1, i2, i3, i4, i5, i6, i7⟩ := id hI
  have e : ∀ c i, c ≠ 29 → c ≠ 30 → ab_gI h' c i = ab_gI h c i := f.1
  refine zInv_fr1 hI (fun c i hc => e c i (by omega) (by omega)) (fun c h1 h2 => e c 0 (by omega) (by omega)) ?_ ?_ (fun k hk => ?_)
  · unfold zI_ask at i1 ⊢
    rw [e 0 11 (by omega) (by omega), e 0 12 (by omega) (by omega), f.2.1 10 (by omega), f.2.1 8 (by omega), f.2.2.2, f.2.2.2, f.2.2.2, f.2.2.2]
    exact i1
  · obtain ⟨N, dc, q1, q2, q3⟩ := i5
    exact ⟨N, dc, q1, (f.2.1 1 (by omega)).trans q2, zPC_frame (fun c h1 h2 i => e c i (by omega) (by omega)) (fun i => f.2.2.2 _ i) (fun i hi => f.2.2.1 _ (by omega)) q3⟩
  · rcases i6 k hk with ⟨q1, q2⟩ | ⟨N, dc, q1, q2, q3⟩
    · exact Or.inl ⟨(e 31 k (by omega) (by omega)).trans q1, (e _ _ (by omega) (by omega)).trans q2⟩
    · exact Or.inr ⟨N, dc, q1, (e 31 k (by omega) (by omega)).trans q2, zPC_frame (fun c h1 h2 i => e c i (by omega) (by omega)) (fun i => f.2.2.2 _ i) (fun i hi => f.2.2.1 _ (by omega)) q3⟩
theorem cp_fault (X : ab_X) (d : Nat) (r : Int32) {h : ab_H} (hI : zInv h) : zCp X (d + 30) 20 120 [.int r] h := by
  obtain ⟨i1, i2, i3, i4, i5, i6, i7⟩ := id hI
  rcases ztxt_cases i4 r with hr | ⟨j, hj, rfl, b1, b2, b3 | ⟨n, hn, b3⟩⟩
  · apply zCp_mk
    · simp (discharger := omega) only [r20, b20_0, b20_4, b20_7, s17, zpu_s, zpu_n, Option.bind_some, zlit, Bool.false_eq_true, zlt_t, zlt_f, zeq_t, zeq_f, nI_add, pk_mul, zb_0, zb_n0, not_true_eq_false, not_false_eq_true, Classical.not_not, if_true, if_false, ite_true, ite_false, and_self, and_true, true_and, and_false, false_and, or_self, or_true, true_or, or_false, false_or, reduceIte, hr]; rfl
    · simp (discharger := omega) only [r120, b120_0, b120_4, b120_7, s118, zpu_s, zpu_n, Option.bind_some, zlit, Bool.false_eq_true, zlt_t, zlt_f, zeq_t, zeq_f, nI_add, pk_mul, zb_0, zb_n0, not_true_eq_false, not_false_eq_true, Classical.not_not, if_true, if_false, ite_true, ite_false, and_self, and_true, true_and, and_false, false_and, or_self, or_true, true_or, or_false, false_or, reduceIte, hr]; rfl
    · exact hI
  · have b1' : ab_gI h 14 j = -nI 1 := b1.trans b3
    apply zCp_mk
    · simp (discharger := omega) only [r20, b20_0, b20_4, b20_9, b20_18, b20_23, s17, s8, zd14, b1', zneg1, zpu_s, zpu_n, Option.bind_some, zlit, Bool.false_eq_true, zlt_t, zlt_f, zeq_t, zeq_f, nI_add, pk_mul, zb_0, zb_n0, not_true_eq_false, not_false_eq_true, Classical.not_not, if_true, if_false, ite_true, ite_false, and_self, and_true, true_and, and_false, false_and, or_self, or_true, true_or, or_false, false_or, reduceIte]; rfl
    · simp (discharger := omega) only [r120, b120_0, b120_4, b120_9, b120_18, b120_23, b120_31, s118, s108, zd35, b3, zneg1, zpu_s, zpu_n, Option.bind_some, zlit, Bool.false_eq_true, zlt_t, zlt_f, zeq_t, zeq_f, nI_add, pk_mul, zb_0, zb_n0, not_true_eq_false, not_false_eq_true, Classical.not_not, if_true, if_false, ite_true, ite_false, and_self, and_true, true_and, and_false, false_and, or_self, or_true, true_or, or_false, false_or, reduceIte, zg_ne, zj_ne, zc_ne, zk_ne, zf_ne]; rfl
    · exact zInv_find hI (f := 1) (by omega)
  · have b1' : ab_gI h 14 j = nI n := b1.trans b3
    have hb : ∀ k, k < n → -128 ≤ (ab_gI h (10 + j) k).toInt ∧ (ab_gI h (10 + j) k).toInt ≤ 127 := fun k hk => by rw [(b2 k (by omega)).1]; exact (b2 k (by omega)).2
    have e21 : ab_ru X (d + 29) 21 [.ref (10 + j), .int (nI n)] h = _ := s21 X (d + 28) hj hn hb
    have x : zTx h j n (fun k => ab_gI h (10 + j) k) := ⟨b3, fun k hk => (b2 k (by omega)).1.symm⟩
    obtain ⟨h1, a1, a2, -⟩ := s121 X (d + 26) hj hn hb x
    have a1' : ab_ru X (d + 29) 121 [.ref 29, .int (nI j)] h = _ := a1
    refine zCp_mk (v := .int (zff (fun k => ab_gI h (10 + j) k) n n 0 0 0 0)) (h1 := h) (h2 := h1) ?_ ?_ (zInv_Fp hI a2)
    · simp (discharger := omega) only [r20, b20_0, b20_4, b20_9, b20_24, s17, zd14, b1', zL_texts, e21, b20_39, zpu_s, zpu_n, Option.bind_some, zlit, Bool.false_eq_true, zlt_t, zlt_f, zeq_t, zeq_f, nI_add, pk_mul, zb_0, zb_n0, not_true_eq_false, not_false_eq_true, Classical.not_not, if_true, if_false, ite_true, ite_false, and_self, and_true, true_and, and_false, false_and, or_self, or_true, true_or, or_false, false_or, reduceIte]
    · simp (discharger := omega) only [r120, b120_0, b120_4, b120_9, b120_26, s118, zd35, b3, a1', b120_31, zpu_s, zpu_n, Option.bind_some, zlit, Bool.false_eq_true, zlt_t, zlt_f, zeq_t, zeq_f, nI_add, pk_mul, zb_0, zb_n0, not_true_eq_false, not_false_eq_true, Classical.not_not, if_true, if_false, ite_true, ite_false, and_self, and_true, true_and, and_false, false_and, or_self, or_true, true_or, or_false, false_or, reduceIte]
def zSk (k : Nat) (S : zS) : Prop := S 0 = nI k ∧ (∀ j, j ≠ 0 → ¬ (2 ≤ j ∧ j < 2 + k) → ¬ (8 ≤ j ∧ j < 8 + k) → ¬ (20 ≤ j ∧ j < 20 + k) → S j = 0) ∧ ∀ q, q < k → (∃ a, a < 6 ∧ S (2 + q) = nI a) ∧ (∃ o, o < 4096 ∧ S (8 + q) = nI o) ∧ ∃ x, x ≤ 9 ∧ S (20 + q) = nI x
theorem zSk_i {b : Nat → Int32} {n p k : Nat} {S : zS} (hk : k < 6) (g : zgd b n p) (s : zSk k S) : zSk (k + 1) (zitm b p k S) := by
  obtain ⟨s1, s2, s3⟩ := s
  refine ⟨?_, fun j j0 j2 j8 j20 => ?_, fun q hq => ?_⟩
  · unfold zitm upd; rw [if_pos rfl]
  · unfold zitm upd
    rw [if_neg j0, if_neg (by omega), if_neg (by omega), if_neg (by omega)]
    exact s2 j j0 (by omega) (by omega) (by omega)
  · unfold zitm upd
    by_cases e : q = k
    · subst e
      refine ⟨⟨zkd (b p), ?_, ?_⟩, ?_, ⟨zvf (b (p + 4)), zvf_le g.2.2.2.2.2.2, ?_⟩⟩
      · have := zkd_le (b p)
        have := g.2.2.1
        omega
      · rw [if_neg (by omega), if_neg (by omega), if_neg (by omega), if_pos rfl]
      · rw [if_neg (by omega), if_neg (by omega), if_pos rfl]
        unfold zhw
        rw [Int32.and_comm]
        exact zI_and 4095 (by omega) _
      · rw [if_neg (by omega), if_pos rfl]
    · obtain ⟨t1, t2, t3⟩ := s3 q (by omega)
      refine ⟨?_, ?_, ?_⟩
      · rw [if_neg (by omega), if_neg (by omega), if_neg (by omega), if_neg (by omega)]; exact t1
      · rw [if_neg (by omega), if_neg (by omega), if_neg (by omega), if_neg (by omega)]; exact t2
      · rw [if_neg (by omega), if_neg (by omega), if_neg (by omega), if_neg (by omega)]; exact t3
theorem zSk_f {b : Nat → Int32} {n : Nat} : ∀ (L : List Nat) (i k : Nat) (S : zS), zIs b n L i → k + L.length ≤ 6 → zSk k S → zSk (k + L.length) (zfo b L k S)
  | [], _, _, _, _, _, s => s
  | p :: L, i, k, S, hI, hk, s => by
    rw [List.length_cons] at hk
    have := zSk_f L (p + 5) (k + 1) (zitm b p k S) hI.2.2.2 (by omega) (zSk_i (by omega) hI.2.2.1 s)
    rw [List.length_cons, show k + (L.length + 1) = k + 1 + L.length by omega]
    exact this
theorem zIs_u {b : Nat → Int32} {n : Nat} : ∀ (L L' : List Nat) {i : Nat}, zIs b n L i → zIs b n L' i → L = L'
  | [], [], _, _, _ => rfl
  | [], p :: L', i, q, q' => absurd (q p q'.1 (by have := q'.2.2.1.1; omega)) q'.2.2.1.2.1
  | p :: L, [], i, q, q' => absurd (q' p q.1 (by have := q.2.2.1.1; omega)) q.2.2.1.2.1
  | p :: L, p' :: L', i, q, q' => by
    have e : p = p' := by
      rcases Nat.lt_trichotomy p p' with h | h | h
      · exact absurd (q'.2.1 p q.1 h) q.2.2.1.2.1
      · exact h
      · exact absurd (q.2.1 p' q'.1 h) q'.2.2.1.2.1
    subst e
    rw [zIs_u L L' q.2.2.2 q'.2.2.2]
set_option maxHeartbeats 2000000 in
theorem cp_post (X : ab_X) (d : Nat) (r : Int32) {h : ab_H} (hI : zInv h) : zCp X (d + 30) 24 128 [.int r] h := by
  obtain ⟨i1, i2, i3, i4, i5, i6, i7⟩ := id hI
  rcases ztxt_cases i4 r with hr | ⟨j, hj, rfl, b1, b2, b3 | ⟨n, hn, b3⟩⟩
  · apply zCp_mk
    · simp (discharger := omega) only [r24, b24_0, b24_4, b24_7, s17, zpu_s, zpu_n, Option.bind_some, zlit, Bool.false_eq_true, zlt_t, zlt_f, zeq_t, zeq_f, nI_add, pk_mul, zb_0, zb_n0, not_true_eq_false, not_false_eq_true, Classical.not_not, if_true, if_false, ite_true, ite_false, and_self, and_true, true_and, and_false, false_and, or_self, or_true, true_or, or_false, false_or, reduceIte, hr]; rfl
    · simp (discharger := omega) only [r128, b128_0, b128_4, b128_7, s118, zpu_s, zpu_n, Option.bind_some, zlit, Bool.false_eq_true, zlt_t, zlt_f, zeq_t, zeq_f, nI_add, pk_mul, zb_0, zb_n0, not_true_eq_false, not_false_eq_true, Classical.not_not, if_true, if_false, ite_true, ite_false, and_self, and_true, true_and, and_false, false_and, or_self, or_true, true_or, or_false, false_or, reduceIte, hr]; rfl
    · exact hI
  · have b1' : ab_gI h 14 j = -nI 1 := b1.trans b3
    apply zCp_mk
    · simp (discharger := omega) only [r24, b24_0, b24_4, b24_9, b24_18, b24_23, s17, s8, zd14, b1', zneg1, zpu_s, zpu_n, Option.bind_some, zlit, Bool.false_eq_true, zlt_t, zlt_f, zeq_t, zeq_f, nI_add, pk_mul, zb_0, zb_n0, not_true_eq_false, not_false_eq_true, Classical.not_not, if_true, if_false, ite_true, ite_false, and_self, and_true, true_and, and_false, false_and, or_self, or_true, true_or, or_false, false_or, reduceIte]; rfl
    · simp (discharger := omega) only [r128, b128_0, b128_4, b128_9, b128_18, b128_23, s118, s108, zd35, b3, zneg1, zpu_s, zpu_n, Option.bind_some, zlit, Bool.false_eq_true, zlt_t, zlt_f, zeq_t, zeq_f, nI_add, pk_mul, zb_0, zb_n0, not_true_eq_false, not_false_eq_true, Classical.not_not, if_true, if_false, ite_true, ite_false, and_self, and_true, true_and, and_false, false_and, or_self, or_true, true_or, or_false, false_or, reduceIte, zg_ne, zj_ne, zc_ne, zk_ne, zf_ne]; rfl
    · exact zInv_find hI (f := 1) (by omega)
  have b1' : ab_gI h 14 j = nI n := b1.trans b3
  have hb : ∀ k, k < n → -128 ≤ (ab_gI h (10 + j) k).toInt ∧ (ab_gI h (10 + j) k).toInt ≤ 127 := fun k hk => by rw [(b2 k (by omega)).1]; exact (b2 k (by omega)).2
  have e21 : ab_ru X (d + 29) 21 [.ref (10 + j), .int (nI n)] h = _ := s21 X (d + 28) hj hn hb
  have x : zTx h j n (fun k => ab_gI h (10 + j) k) := ⟨b3, fun k hk => (b2 k (by omega)).1.symm⟩
  generalize hbb : (fun k => ab_gI h (10 + j) k) = b at e21 x
  have ebb : ∀ k, ab_gI h (10 + j) k = b k := fun k => by rw [← hbb]
  have hb' : ∀ k, k < n → -128 ≤ (b k).toInt ∧ (b k).toInt ≤ 127 := fun k hk => by rw [← ebb]; exact hb k hk
  by_cases hz : zff b n n 0 0 0 0 = -nI 9
  rotate_left
  · obtain ⟨h1, a1, a2, -⟩ := s121 X (d + 26) hj hn hb' x
    have a1' : ab_ru X (d + 29) 121 [.ref 29, .int (nI j)] h = _ := a1
    refine zCp_mk (v := .int (-nI 4)) (h1 := h) (h2 := h1) ?_ ?_ (zInv_Fp hI a2)
    · simp (discharger := omega) only [r24, b24_0, b24_4, b24_9, b24_24, s17, zd14, b1', zL_texts, e21, b24_39, b24_44, hz, zpu_s, zpu_n, Option.bind_some, zlit, Bool.false_eq_true, zlt_t, zlt_f, zeq_t, zeq_f, nI_add, pk_mul, zb_0, zb_n0, not_true_eq_false, not_false_eq_true, Classical.not_not, if_true, if_false, ite_true, ite_false, and_self, and_true, true_and, and_false, false_and, or_self, or_true, true_or, or_false, false_or, reduceIte]
    · simp (discharger := omega) only [r128, b128_0, b128_4, b128_9, b128_24, s118, zd35, b3, a1', b128_29, b128_34, hz, zpu_s, zpu_n, Option.bind_some, zlit, Bool.false_eq_true, zlt_t, zlt_f, zeq_t, zeq_f, nI_add, pk_mul, zb_0, zb_n0, not_true_eq_false, not_false_eq_true, Classical.not_not, if_true, if_false, ite_true, ite_false, and_self, and_true, true_and, and_false, false_and, or_self, or_true, true_or, or_false, false_or, reduceIte]
  obtain ⟨_, _, _, aL⟩ := s121 X (d + 26) hj hn hb' x
  obtain ⟨L, L1, L2, L3, -⟩ := aL hz
  have sk := zSk_f L 0 0 (fun _ => 0) L1 (by omega) ⟨rfl, fun _ _ _ _ _ => rfl, fun q hq => by omega⟩
  rw [Nat.zero_add] at sk
  obtain ⟨h2, v3, v4', c1, c2, c3, c4, c5, c6⟩ := s25l X (d + 28) hj hn hb' L 0 0 (fun _ => 0) (ab_sI h 41 7 (nI 0)) .null L1 (by omega) (by omega) (zg_eq _ _ _ _) (fun q _ => by rw [zg_ne (by omega)]; exact ebb q) (fun q hq => by omega)
  rw [Nat.zero_add] at c2 c3
  have e27 : ab_ru X (d + 28) 27 [.ref 41] h2 = _ := s27 X (d + 27) h2
  generalize hh3 : ab_sI (ab_sI (zf (zf (ab_cI h2 44 0 45 0 6) 46 0 6 (nI 0)) 47 0 6 (nI 0)) 41 8 (nI 0)) 41 9 (nI 0) = h3 at e27
  have g3 : ∀ c i, c ≠ 41 → c ≠ 45 → c ≠ 46 → c ≠ 47 → ab_gI h3 c i = ab_gI h2 c i := fun c i d1 d2 d3 d4 => by rw [← hh3, zg_ne d1, zg_ne d1, zf_ne d4, zf_ne d3, zc_ne d2]
  have g3J : ∀ c i, ab_gJ h3 c i = ab_gJ h c i := fun c i => by rw [← hh3]; exact c6 c i
  have g37 : ab_gI h3 41 7 = nI L.length := by rw [← hh3, zg_nj (by omega), zg_nj (by omega), zf_ne (by omega), zf_ne (by omega), zc_ne (by omega)]; exact c2
  have e25 : ab_ru X (d + 29) 25 [.ref 41, .ref (10 + j), .int (nI n)] h = some (none, h3) := by
    rw [r25, b25_0, zP_ob zS41]
    refine Eq.trans (show _ = ab_ex X (d + 28 + 1) 25 7 [.ref 41, .ref (10 + j), .int (nI n), .int (nI 0), .null] [] (ab_sI h 41 7 (nI 0)) from rfl) ?_
    refine Eq.trans c1 ?_
    rw [b25_129, zP_ob zS41, e27]
    simp only [zpu_s, zpu_n, Option.bind_some, b25_133]
  obtain ⟨hc, w1, w2, w3, w4⟩ := zloopP (fun k (z : ab_H) => (∀ q, q < k → ab_gI z (49 + 8 * q) 7 = nI 0) ∧ (∀ c i, c ≠ 49 → c ≠ 57 → c ≠ 65 → ab_gI z c i = ab_gI h3 c i) ∧ ∀ c i, ab_gJ z c i = ab_gJ h3 c i) (fun z k => ab_ex X (d + 30) 24 68 [.ref 0, .int (nI j), .int (nI k)] [] z) 3 (fun k z hk hP => by
    obtain ⟨q1, q2, q3⟩ := hP
    refine ⟨ab_sI z (49 + 8 * k) 7 (nI 0), ?_, fun q hq => ?_, fun c i d1 d2 d3 => ?_, fun c i => q3 c i⟩
    · rw [l24_68, zlit 3, if_pos (nI_lt hk (by omega)), b24_73, zL_kept hk, zP_ob (by omega), nI_1]
      rfl
    · by_cases e : q = k
      · subst e; rw [zg_eq]
      · rw [zg_ne (by omega)]; exact q1 q (by omega)
    · rw [zg_ne (by omega)]; exact q2 c i d1 d2 d3) h3 ⟨fun q hq => by omega, fun _ _ _ _ _ => rfl, fun _ _ => rfl⟩
  have ec : ab_ru X (d + 30) 24 [.ref 0, .int (nI j)] h = some (some (.int (nI L.length)), hc) := by
    simp (discharger := omega) only [r24, b24_0, b24_4, b24_9, b24_24, s17, zd14, b1', zL_texts, e21, b24_39, hz, zpu_s, zpu_n, Option.bind_some, zlit, Bool.false_eq_true, zlt_t, zlt_f, zeq_t, zeq_f, nI_add, pk_mul, zb_0, zb_n0, not_true_eq_false, not_false_eq_true, Classical.not_not, if_true, if_false, ite_true, ite_false, and_self, and_true, true_and, and_false, false_and, or_self, or_true, true_or, or_false, false_or, reduceIte]
    rw [b24_47, zL_texts hj, zd14 hj, b1', e25]
    simp only [zpu_s, zpu_n, Option.bind_some]
    rw [b24_66]
    refine Eq.trans (show _ = ab_ex X (d + 30) 24 68 [.ref 0, .int (nI j), .int (nI 0)] [] h3 from rfl) ?_
    refine Eq.trans w1 ?_
    rw [l24_68, zlit 3, if_neg (nI_nlt (by omega) (by omega)), b24_89, w3 41 7 (by omega) (by omega) (by omega), g37]
  have fc : ∀ c i, c < 41 → ab_gI hc c i = ab_gI h c i := fun c i hc' => by
    rw [w3 c i (by omega) (by omega) (by omega), g3 c i (by omega) (by omega) (by omega) (by omega), c4 c i (by omega) (by omega) (by omega) (by omega), zg_ne (by omega)]
  have x' : zTx hc j n b := ⟨(fc 35 j (by omega)).trans x.1, fun k hk => (fc 34 _ (by omega)).trans (x.2 k hk)⟩
  obtain ⟨h4, a1, a2, a3⟩ := s121 X (d + 26) hj hn hb' x'
  obtain ⟨L', M1, M2, M3, M4⟩ := a3 hz
  have eL := zIs_u L' L M1 L1
  subst eL
  have a1' : ab_ru X (d + 29) 121 [.ref 29, .int (nI j)] hc = some (some (.int (zff b n n 0 0 0 0)), h4) := a1
  have e129 : ab_ru X (d + 29) 129 [.ref 29, .int 5248, .int 0, .int 32] h4 = some (none, ab_cI h4 30 5248 30 0 32) := s129 X (d + 29) (a := 5248) (b := 0) (n := 32) (by omega) (by omega) (by omega) h4
  generalize hh5 : ab_sI (ab_cI h4 30 5248 30 0 32) 29 1 (nI 0) = h5
  obtain ⟨z, y1, y2, y3, y4⟩ := zloopP (fun k (z : ab_H) => (∀ q, q < k → ab_gI z 31 q = -1) ∧ (∀ c i, c ≠ 31 → ab_gI z c i = ab_gI h5 c i) ∧ ∀ c i, ab_gJ z c i = ab_gJ h5 c i) (fun z k => ab_ex X (d + 30) 128 54 [.ref 29, .int (nI j), .int (nI k)] [] z) 3 (fun k z hk hP => by
    obtain ⟨q1, q2, q3⟩ := hP
    refine ⟨ab_sI z 31 k (-1), ?_, fun q hq => ?_, fun c i d1 => ?_, fun c i => q3 c i⟩
    · rw [l128_54, zlit 3, if_pos (nI_lt hk (by omega)), b128_59, zs31 hk, nI_1]
    · by_cases e : q = k
      · subst e; rw [zg_eq]
      · rw [zg_nj e]; exact q1 q (by omega)
    · rw [zg_ne d1]; exact q2 c i d1) h5 ⟨fun q hq => by omega, fun _ _ _ => rfl, fun _ _ => rfl⟩
  have z30 : ∀ q, q < 32 → ab_gI z 30 q = zfo b L' 0 (fun _ => 0) q := fun q hq => by
    rw [y3 30 q (by omega), ← hh5, zg_ne (by omega), zc_in (by omega) (by omega), show 5248 + (q - 0) = 5248 + q by omega]
    exact M4 q hq
  have er : ab_ru X (d + 30) 128 [.ref 29, .int (nI j)] hc = some (some (.int (nI L'.length)), z) := by
    have hc35 : ab_gI hc 35 j = nI n := x'.1
    simp (discharger := omega) only [r128, b128_0, b128_4, b128_9, b128_24, s118, zd35, hc35, a1', b128_29, hz, zpu_s, zpu_n, Option.bind_some, zlit, Bool.false_eq_true, zlt_t, zlt_f, zeq_t, zeq_f, nI_add, pk_mul, zb_0, zb_n0, not_true_eq_false, not_false_eq_true, Classical.not_not, if_true, if_false, ite_true, ite_false, and_self, and_true, true_and, and_false, false_and, or_self, or_true, true_or, or_false, false_or, reduceIte]
    rw [b128_37, e129]
    simp only [zpu_s, zpu_n, Option.bind_some]
    rw [b128_47]
    refine Eq.trans (show _ = ab_ex X (d + 30) 128 54 [.ref 29, .int (nI j), .int (nI 0)] [] h5 by rw [← hh5]; rfl) ?_
    refine Eq.trans y1 ?_
    rw [l128_54, zlit 3, if_neg (nI_nlt (by omega) (by omega)), b128_72, zd30', z30 0 (by omega), sk.1]
  have tt : ∀ c i, c ≠ 29 → c ≠ 30 → c ≠ 31 → ab_gI z c i = ab_gI hc c i := fun c i d1 d2 d3 => by
    rw [y3 c i d3, ← hh5, zg_ne d1, zc_ne d2]; exact a2.1 c i d1 d2
  have t9 : ∀ i, i ≠ 1 → i ≠ 13 → ab_gI z 29 i = ab_gI h 29 i := fun i d1 d2 => by
    rw [y3 29 i (by omega), ← hh5, zg_nj d1, zc_ne (by omega), a2.2.1 i d2]; exact fc 29 i (by omega)
  have tJ : ∀ c i, ab_gJ z c i = ab_gJ h c i := fun c i => by
    rw [y4, ← hh5, zj_I, zk_I, a2.2.2.2, w4, g3J]
  have tp : ∀ c i, 41 ≤ c → c ≤ 48 → ab_gI z c i = ab_gI h3 c i := fun c i d1 d2 => (tt c i (by omega) (by omega) (by omega)).trans (w3 c i (by omega) (by omega) (by omega))
  have a0 : zA z L'.length 0 := by
    refine zA_0 (h := z) L3 ?_ ?_ ?_ (fun i hi => ?_)
    · rw [tp 41 7 (by omega) (by omega)]; exact g37
    · rw [tp 41 8 (by omega) (by omega), ← hh3, zg_nj (by omega), zg_eq]
    · rw [tp 41 9 (by omega) (by omega), ← hh3, zg_eq]
    · obtain ⟨r1, r2, r3⟩ := c3 i hi
      obtain ⟨u1, u2, u3⟩ := sk.2.2 i hi
      refine ⟨?_, ?_, ?_, ?_, ?_, ?_⟩
      · rw [tp 42 i (by omega) (by omega), g3 42 i (by omega) (by omega) (by omega) (by omega), r1]; exact u1
      · rw [tp 43 i (by omega) (by omega), g3 43 i (by omega) (by omega) (by omega) (by omega), r2]; exact u2
      · rw [tp 44 i (by omega) (by omega), g3 44 i (by omega) (by omega) (by omega) (by omega), r3]; exact u3
      · rw [tp 47 i (by omega) (by omega), ← hh3, zg_ne (by omega), zg_ne (by omega), zf_in (by omega) (by omega)]
      · rw [tp 45 i (by omega) (by omega), tp 44 i (by omega) (by omega), ← hh3, zg_ne (by omega), zg_ne (by omega), zf_ne (by omega), zf_ne (by omega), zc_in (by omega) (by omega), zg_ne (by omega), zg_ne (by omega), zf_ne (by omega), zf_ne (by omega), zc_ne (by omega), show 0 + (i - 0) = i by omega]
      · rw [tp 46 i (by omega) (by omega), ← hh3, zg_ne (by omega), zg_ne (by omega), zf_ne (by omega), zf_in (by omega) (by omega)]
  have z1 : ab_gI z 29 1 = nI 0 := by rw [y3 29 1 (by omega), ← hh5, zg_eq]
  have r0 : zR z (zH z 41 L'.length) 0 := by
    refine ⟨z1, fun l hl => by omega, fun i hi => ?_⟩
    rw [z30 i hi]
    unfold zH
    have e42 : ∀ q, ab_gI z 42 q = ab_gI h2 42 q := fun q => (tp 42 q (by omega) (by omega)).trans (g3 42 q (by omega) (by omega) (by omega) (by omega))
    have e43 : ∀ q, ab_gI z 43 q = ab_gI h2 43 q := fun q => (tp 43 q (by omega) (by omega)).trans (g3 43 q (by omega) (by omega) (by omega) (by omega))
    have e44 : ∀ q, ab_gI z 44 q = ab_gI h2 44 q := fun q => (tp 44 q (by omega) (by omega)).trans (g3 44 q (by omega) (by omega) (by omega) (by omega))
    by_cases j0 : i = 0
    · subst j0; rw [if_pos rfl]; exact sk.1
    rw [if_neg j0]
    by_cases j2 : 2 ≤ i ∧ i < 2 + L'.length
    · rw [if_pos j2, e42, (c3 (i - 2) (by omega)).1, show 2 + (i - 2) = i by omega]
    rw [if_neg j2]
    by_cases j8 : 8 ≤ i ∧ i < 8 + L'.length
    · rw [if_pos j8, e43, (c3 (i - 8) (by omega)).2.1, show 8 + (i - 8) = i by omega]
    rw [if_neg j8]
    by_cases j20 : 20 ≤ i ∧ i < 20 + L'.length
    · rw [if_pos j20, e44, (c3 (i - 20) (by omega)).2.2, show 20 + (i - 20) = i by omega]
    rw [if_neg j20]
    exact sk.2.1 i j0 j2 j8 j20
  refine zCp_mk ec er (zInv_fr1 hI (fun c i hc' => (tt c i (by omega) (by omega) (by omega)).trans (fc c i (by omega))) (fun c d1 d2 => (tt c 0 (by omega) (by omega) (by omega)).trans (fc c 0 (by omega))) ?_ ⟨L'.length, 0, fun _ => rfl, z1, zA_to a0 r0⟩ (fun k hk => Or.inl ⟨y2 k hk, ?_⟩))
  · unfold zI_ask at i1 ⊢
    rw [tt 0 11 (by omega) (by omega) (by omega), tt 0 12 (by omega) (by omega) (by omega), fc 0 11 (by omega), fc 0 12 (by omega), t9 10 (by omega) (by omega), t9 8 (by omega) (by omega), tJ, tJ, tJ, tJ]
    exact i1
  · rw [tt _ _ (by omega) (by omega) (by omega)]; exact w2 k hk
