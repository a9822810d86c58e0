/-! deeds done: the reference -/
theorem s142 (X : ab_X) (d : Nat) {dc : Nat} (hdc : dc < 40) {h : ab_H} (e : ab_gI h 29 1 = nI dc) : ab_ru X (d + 1) 142 [.ref 29] h = some (none, ab_sI (ab_cI h 30 0 30 (32 * (dc + 1)) 32) 29 1 (nI (dc + 1))) := by
  have e' : ab_gI (ab_cI h 30 0 30 (32 * (dc + 1)) 32) 29 1 = nI dc := by rw [zc_ne (by omega)]; exact e
  simp (discharger := omega) only [r142, b142_0, b142_16, e, e', s129, zpu_s, zpu_n, Option.bind_some, zlit, Bool.false_eq_true, zlt_t, zlt_f, zeq_t, zeq_f, nI_add, pk_mul, zb_0, zb_n0, not_true_eq_false, not_false_eq_true, Classical.not_not, if_true, if_false, ite_true, ite_false, and_self, and_true, true_and, and_false, false_and, or_self, or_true, true_or, or_false, false_or, reduceIte]
def zen0 (k : Nat) (S : zS) (D : Nat → Int32) : zS := fun j => if j = 1 then S 1 else zend k S D j
theorem zen0_0 (S : zS) (D : Nat → Int32) : zen0 0 S D = S := by
  funext j
  unfold zen0 zend
  by_cases h1 : j = 1
  · rw [if_pos h1, h1]
  · rw [if_neg h1, if_neg h1, if_neg (by omega), if_neg (by omega), if_neg (by omega)]
theorem zen0_s {k : Nat} (hk : k < 6) (S : zS) (D : Nat → Int32) : upd (upd (upd (zen0 k S D) (26 + k) (S (26 + k) + (S (20 + k) - D k))) (20 + k) (zad (S (2 + k)) (D k))) (14 + k) 0 = zen0 (k + 1) S D := by
  funext j
  unfold upd zen0 zend
  by_cases a1 : j = 14 + k
  · rw [if_pos a1, if_neg (by omega), if_neg (by omega), if_pos (by omega)]
  · rw [if_neg a1]
    by_cases a2 : j = 20 + k
    · subst a2
      rw [if_pos rfl, if_neg (by omega), if_neg (by omega), if_neg (by omega), if_pos (by omega), show 20 + k - 20 = k by omega]
      rfl
    · rw [if_neg a2]
      by_cases a3 : j = 26 + k
      · subst a3
        rw [if_pos rfl, if_neg (by omega), if_neg (by omega), if_neg (by omega), if_neg (by omega), if_pos (by omega), show 26 + k - 26 = k by omega]
      · rw [if_neg a3]
        by_cases b1 : j = 1
        · rw [if_pos b1, if_pos b1]
        · rw [if_neg b1, if_neg b1, if_neg b1, if_neg b1]
          by_cases b2 : 14 ≤ j ∧ j < 14 + k
          · rw [if_pos b2, if_pos (by omega)]
          · rw [if_neg b2, if_neg (show ¬ (14 ≤ j ∧ j < 14 + (k + 1)) by omega)]
            by_cases b3 : 20 ≤ j ∧ j < 20 + k
            · rw [if_pos b3, if_pos (show 20 ≤ j ∧ j < 20 + (k + 1) by omega)]
            · rw [if_neg b3, if_neg (show ¬ (20 ≤ j ∧ j < 20 + (k + 1)) by omega)]
              by_cases b4 : 26 ≤ j ∧ j < 26 + k
              · rw [if_pos b4, if_pos (show 26 ≤ j ∧ j < 26 + (k + 1) by omega)]
              · rw [if_neg b4, if_neg (show ¬ (26 ≤ j ∧ j < 26 + (k + 1)) by omega)]
theorem zen0_n {N : Nat} (S : zS) (D : Nat → Int32) : upd (zen0 N S D) 1 (S 1 + 1) = zend N S D := by
  funext j
  unfold upd zen0 zend
  by_cases h1 : j = 1
  · rw [if_pos h1, if_pos h1]
  · rw [if_neg h1, if_neg h1]
theorem zen0_get {k j : Nat} (S : zS) (D : Nat → Int32) (h1 : j < 14 ∨ (14 + k ≤ j ∧ j < 20) ∨ (20 + k ≤ j ∧ j < 26) ∨ 26 + k ≤ j) : zen0 k S D j = S j := by
  unfold zen0 zend
  by_cases e : j = 1
  · rw [if_pos e, e]
  · rw [if_neg e, if_neg e, if_neg (by omega), if_neg (by omega), if_neg (by omega)]
set_option maxHeartbeats 1000000 in
theorem s150 (X : ab_X) (d : Nat) {N : Nat} (hN : N ≤ 6) {h : ab_H} (n5 : ab_gI h 30 0 = nI N) : ab_ru X d 150 [.ref 29] h = some (none, zput h 30 (zend N (fun j => ab_gI h 30 j) (fun i => ab_gI h 39 i))) := by
  obtain ⟨F, e, hF⟩ := zloopP (fun k (F : zS) => F = zen0 k (fun j => ab_gI h 30 j) (fun i => ab_gI h 39 i)) (fun F k => ab_ex X d 150 2 [.ref 29, .int (nI k)] [] (zput h 30 F)) N (fun k F hk hP => by
    have f26 : F (26 + k) = ab_gI h 30 (26 + k) := by rw [hP]; exact zen0_get _ _ (by omega)
    have f20 : F (20 + k) = ab_gI h 30 (20 + k) := by rw [hP]; exact zen0_get _ _ (by omega)
    have f2 : F (2 + k) = ab_gI h 30 (2 + k) := by rw [hP]; exact zen0_get _ _ (by omega)
    have f0 : F 0 = nI N := by rw [hP]; exact (zen0_get _ _ (by omega)).trans n5
    have g39 : ∀ F : zS, ab_gI (zput h 30 F) 39 k = ab_gI h 39 k := fun F => zput_ne (by omega) _ _ _
    have hu2 : ∀ x, upd F (26 + k) x (2 + k) = ab_gI h 30 (2 + k) := fun x => by unfold upd; rw [if_neg (by omega)]; exact f2
    refine ⟨upd (upd (upd F (26 + k) (ab_gI h 30 (26 + k) + (ab_gI h 30 (20 + k) - ab_gI h 39 k))) (20 + k) (zad (ab_gI h 30 (2 + k)) (ab_gI h 39 k))) (14 + k) 0, ?_, ?_⟩
    · rw [l150_2]
      by_cases c4 : ab_gI h 30 (2 + k) = nI 4
      · have ez : zad (ab_gI h 30 (2 + k)) (ab_gI h 39 k) = ab_gI h 39 k + nI 0 := by rw [c4, show nI 4 = (4 : Int32) from rfl, zad_4]; exact (Int32.add_zero _).symm
        rw [ez]
        simp (discharger := omega) only [b150_12, b150_81, b150_82, zd30, zd39, zs30, zput_same, zput_s, f26, f20, f0, g39, hu2, c4, zlit, Bool.false_eq_true, zlt_t, zlt_f, zeq_t, zeq_f, nI_add, pk_mul, zb_0, zb_n0, not_true_eq_false, not_false_eq_true, Classical.not_not, if_true, if_false, ite_true, ite_false, and_self, and_true, true_and, and_false, false_and, or_self, or_true, true_or, or_false, false_or, reduceIte]
      · by_cases c9 : ab_gI h 39 k < nI 99
        · have ez : zad (ab_gI h 30 (2 + k)) (ab_gI h 39 k) = ab_gI h 39 k + nI 1 := by unfold zad; rw [if_pos ⟨c4, c9⟩]; rfl
          rw [ez]
          simp (discharger := omega) only [b150_12, b150_66, b150_77, b150_82, zd30, zd39, zs30, zput_same, zput_s, f26, f20, f0, g39, hu2, c4, c9, zlit, Bool.false_eq_true, zlt_t, zlt_f, zeq_t, zeq_f, nI_add, pk_mul, zb_0, zb_n0, not_true_eq_false, not_false_eq_true, Classical.not_not, if_true, if_false, ite_true, ite_false, and_self, and_true, true_and, and_false, false_and, or_self, or_true, true_or, or_false, false_or, reduceIte]
        · have ez : zad (ab_gI h 30 (2 + k)) (ab_gI h 39 k) = ab_gI h 39 k + nI 0 := by unfold zad; rw [if_neg (fun q => c9 q.2)]; rfl
          rw [ez]
          simp (discharger := omega) only [b150_12, b150_66, b150_81, b150_82, zd30, zd39, zs30, zput_same, zput_s, f26, f20, f0, g39, hu2, c4, c9, zlit, Bool.false_eq_true, zlt_t, zlt_f, zeq_t, zeq_f, nI_add, pk_mul, zb_0, zb_n0, not_true_eq_false, not_false_eq_true, Classical.not_not, if_true, if_false, ite_true, ite_false, and_self, and_true, true_and, and_false, false_and, or_self, or_true, true_or, or_false, false_or, reduceIte]
    · rw [hP]
      exact zen0_s (by omega) _ _) (fun j => ab_gI h 30 j) (zen0_0 _ _).symm
  have f0 : F 0 = nI N := by rw [hF]; exact (zen0_get _ _ (by omega)).trans n5
  have f1 : F 1 = ab_gI h 30 1 := by rw [hF]; exact zen0_get _ _ (by omega)
  rw [zput_self] at e
  simp (discharger := omega) only [r150, b150_0, zlit]
  refine Eq.trans e ?_
  rw [l150_2]
  simp (discharger := omega) only [b150_100, zd30, zs30, zput_same, zput_s, f0, f1, zlit, Bool.false_eq_true, zlt_t, zlt_f, zeq_t, zeq_f, nI_add, pk_mul, zb_0, zb_n0, not_true_eq_false, not_false_eq_true, Classical.not_not, if_true, if_false, ite_true, ite_false, and_self, and_true, true_and, and_false, false_and, or_self, or_true, true_or, or_false, false_or, reduceIte]
  rw [hF, ← zen0_n]
  rfl
/-- alike but for the reference's store, its scratch, its deeds -/
def zFw (h h' : ab_H) : Prop := (∀ c i, c ≠ 30 → c ≠ 38 → c ≠ 39 → c ≠ 29 → ab_gI h' c i = ab_gI h c i) ∧ (∀ i, i ≠ 1 → (i < 16 ∨ 20 < i) → ab_gI h' 29 i = ab_gI h 29 i) ∧ (∀ i, 1312 ≤ i → ab_gI h' 30 i = ab_gI h 30 i) ∧ ∀ c i, ab_gJ h' c i = ab_gJ h c i
theorem zFw_trans {h h' h'' : ab_H} (a : zFw h h') (b : zFw h' h'') : zFw h h'' := ⟨fun c i h1 h2 h3 h4 => (b.1 c i h1 h2 h3 h4).trans (a.1 c i h1 h2 h3 h4), fun i h1 h2 => (b.2.1 i h1 h2).trans (a.2.1 i h1 h2), fun i hi => (b.2.2.1 i hi).trans (a.2.2.1 i hi), fun c i => (b.2.2.2 c i).trans (a.2.2.2 c i)⟩
theorem zFw_refl (h : ab_H) : zFw h h := ⟨fun _ _ _ _ _ _ => rfl, fun _ _ _ => rfl, fun _ _ => rfl, fun _ _ => rfl⟩
theorem zFw_Fr {h h' : ab_H} (a : zFr h h') : zFw h h' := ⟨fun c i _ h2 h3 h4 => a.1 c i h2 h3 h4, fun i _ h2 => a.2.1 i h2, fun i _ => a.1 30 i (by omega) (by omega) (by omega), fun c i => a.2.2 c i⟩
/-- the reference minds what is -/
theorem mM (X : ab_X) (d : Nat) {Hs : Nat → zS} {dc : Nat} (hdc : dc < 40) {h : ab_H} (r : zR h Hs dc) : ∃ h', ab_ru X (d + 1) 142 [.ref 29] h = some (none, h') ∧ zFw h h' ∧ ab_gI h' 29 1 = nI (dc + 1) ∧ (∀ j, j < dc + 1 → ∀ i, i < 32 → ab_gI h' 30 (32 * (j + 1) + i) = Hs j i) ∧ (∀ i, i < 32 → ab_gI h' 30 i = Hs dc i) := by
  obtain ⟨r1, r2, r3⟩ := r
  refine ⟨_, s142 X d hdc r1, ⟨fun c i h1 h2 h3 h4 => ?_, fun i h1 h2 => ?_, fun i hi => ?_, fun c i => rfl⟩, zg_eq _ _ _ _, fun j hj i hi => ?_, fun i hi => ?_⟩
  · rw [zg_ne h4, zc_ne h1]
  · rw [zg_nj h1, zc_ne (by omega)]
  · rw [zg_ne (by omega), zc_out (by omega)]
  · rw [zg_ne (by omega)]
    by_cases e : j = dc
    · subst e
      rw [zc_in (by omega) (by omega), show 0 + (32 * (j + 1) + i - 32 * (j + 1)) = i by omega]
      exact r3 i hi
    · rw [zc_out (by omega)]; exact r2 j (by omega) i hi
  · rw [zg_ne (by omega), zc_out (by omega)]; exact r3 i hi
/-- the reference ends a day -/
theorem mD (X : ab_X) (d : Nat) {N dc n : Nat} {q : Nat → Nat} {Hs : Nat → zS} (hN : N ≤ 6) (hdc : dc < 40) (hn : n ≤ 12) (hq : ∀ k, k < n → q k < N) {h : ab_H} (h0 : Hs dc 0 = nI N) (hw : Hs (dc + 1) = zap N (zrd q n) (Hs dc)) (e1 : ab_gI h 29 1 = nI (dc + 1)) (e2 : ∀ j, j < dc + 1 → ∀ i, i < 32 → ab_gI h 30 (32 * (j + 1) + i) = Hs j i) (e3 : ∀ i, i < 32 → ab_gI h 30 i = Hs dc i) (e4 : ∀ i, i < N → ab_gI h 39 i = (zwalk (Hs dc) q n).2.2.1 i) : ∃ h', ab_ru X d 150 [.ref 29] h = some (none, h') ∧ zR h' Hs (dc + 1) ∧ (∀ c i, c ≠ 30 → ab_gI h' c i = ab_gI h c i) ∧ (∀ i, 32 ≤ i → ab_gI h' 30 i = ab_gI h 30 i) ∧ ∀ c i, ab_gJ h' c i = ab_gJ h c i := by
  have hq8 : ∀ k, k < n → q k < 8 := fun k hk => by have := hq k hk; omega
  have hz := zap_rd (N := N) hn hq8 (Hs dc)
  have hi : ∀ i, 32 ≤ i → zend N (fun j => ab_gI h 30 j) (fun i => ab_gI h 39 i) i = ab_gI h 30 i := fun i hi => by
    unfold zend
    rw [if_neg (by omega), if_neg (by omega), if_neg (by omega), if_neg (by omega)]
  refine ⟨_, s150 X d hN ((e3 0 (by omega)).trans h0), ⟨?_, fun j hj i hi2 => ?_, fun i hi2 => ?_⟩, fun c i hc => zput_ne hc _ _ _, fun i hi2 => ?_, fun _ _ => rfl⟩
  · rw [zput_ne (by omega)]; exact e1
  · rw [zput_same, hi _ (by omega)]; exact e2 j hj i hi2
  · rw [zput_same, hw, hz]
    unfold zend
    dsimp only
    by_cases b1 : i = 1
    · rw [if_pos b1, if_pos b1, e3 1 (by omega)]
    · rw [if_neg b1, if_neg b1]
      by_cases b2 : 14 ≤ i ∧ i < 14 + N
      · rw [if_pos b2, if_pos b2]
      · rw [if_neg b2, if_neg b2]
        by_cases b3 : 20 ≤ i ∧ i < 20 + N
        · rw [if_pos b3, if_pos b3]
          show zad (ab_gI h 30 (2 + (i - 20))) (ab_gI h 39 (i - 20)) = zad (Hs dc (2 + (i - 20))) ((zwalk (Hs dc) q n).2.2.1 (i - 20))
          rw [e4 _ (by omega), e3 _ (by omega)]
        · rw [if_neg b3, if_neg b3]
          by_cases b4 : 26 ≤ i ∧ i < 26 + N
          · rw [if_pos b4, if_pos b4, e4 _ (by omega), e3 _ (by omega), e3 _ (by omega)]
          · rw [if_neg b4, if_neg b4, e3 _ hi2]
  · rw [zput_same]; exact hi i hi2
theorem zEm_S {h : ab_H} {S : zS} (e : ∀ i, i < 32 → ab_gI h 30 i = S i) {i : Nat} (hi : i < 6) : zEm h i = zSe S i := by
  unfold zEm zSe
  rw [e _ (by omega), e _ (by omega), e _ (by omega)]
theorem zOu_S {h : ab_H} {S : zS} (e : ∀ i, i < 32 → ab_gI h 30 i = S i) {i : Nat} (hi : i < 6) : zOu h i = S (8 + i) ||| S (14 + i) := by
  unfold zOu
  rw [e _ (by omega), e _ (by omega)]
theorem zH_0 {h : ab_H} {N : Nat} (dc : Nat) : zH h 41 N dc 0 = nI N := by
  rw [zH_lo h 41 N (by omega) (by omega) dc]
  rfl
/-- both sides' posts after a deed, and all the rest -/
theorem zInv_deed {h h1 h2 : ab_H} (hI : zInv h) {N dc : Nat} (hN0 : N = 0 → dc = 0) (a : zA h1 N dc) (r : zR h2 (zH h1 41 N) dc) (c1 : ∀ c i, c < 41 → c ≠ 17 → c ≠ 18 → c ≠ 19 → c ≠ 20 → ab_gI h1 c i = ab_gI h c i) (c2 : ∀ c i, 49 ≤ c → ab_gI h1 c i = ab_gI h c i) (c3 : ∀ c i, c ≠ 48 → ab_gJ h1 c i = ab_gJ h c i) (f : zFw h1 h2) : zInv h2 := by
  obtain ⟨i1, i2, i3, i4, i5, i6, i7⟩ := id hI
  have t : ∀ c i, c < 41 → c ≠ 17 → c ≠ 18 → c ≠ 19 → c ≠ 20 → c ≠ 30 → c ≠ 38 → c ≠ 39 → c ≠ 29 → ab_gI h2 c i = ab_gI h c i := fun c i a1 a2 a3 a4 a5 a6 a7 a8 a9 => (f.1 c i a6 a7 a8 a9).trans (c1 c i a1 a2 a3 a4 a5)
  have hf : zPC h1 41 0 dc N → True := fun _ => trivial
  refine zInv_fr1 hI (fun c i hc => t c i (by omega) (by omega) (by omega) (by omega) (by omega) (by omega) (by omega) (by omega) (by omega)) (fun c h1 h2 => t c 0 (by omega) (by omega) (by omega) (by omega) (by omega) (by omega) (by omega) (by omega) (by omega)) ?_ ⟨N, dc, hN0, r.1, ?_⟩ (fun k hk => ?_)
  · unfold zI_ask at i1 ⊢
    rw [t 0 11 (by omega) (by omega) (by omega) (by omega) (by omega) (by omega) (by omega) (by omega) (by omega), t 0 12 (by omega) (by omega) (by omega) (by omega) (by omega) (by omega) (by omega) (by omega) (by omega), f.2.1 10 (by omega) (by omega), f.2.1 8 (by omega) (by omega), c1 29 10 (by omega) (by omega) (by omega) (by omega) (by omega), c1 29 8 (by omega) (by omega) (by omega) (by omega) (by omega), f.2.2.2, f.2.2.2, f.2.2.2, f.2.2.2, c3 _ _ (by omega), c3 _ _ (by omega), c3 _ _ (by omega), c3 _ _ (by omega)]
    exact i1
  · obtain ⟨q1, q2, q4, ⟨q3, q5, q6⟩, q7, q7', q8⟩ := a
    have eH : zH h2 41 N = zH h1 41 N := funext fun j => zH_frame (fun i _ => f.1 42 i (by omega) (by omega) (by omega) (by omega)) (fun i _ => f.1 43 i (by omega) (by omega) (by omega) (by omega)) (fun i _ => f.1 44 i (by omega) (by omega) (by omega) (by omega)) q1 j (fun i _ => f.2.2.2 48 i)
    refine zA_to ⟨q1, q2, ?_, ⟨?_, ?_, fun i hi => ?_⟩, ?_, fun i hi => ?_, fun j hj => ?_⟩ ?_
    · rw [f.1 41 9 (by omega) (by omega) (by omega) (by omega)]; exact q4
    · rw [f.1 41 7 (by omega) (by omega) (by omega) (by omega)]; exact q3
    · rw [eH, f.1 41 8 (by omega) (by omega) (by omega) (by omega)]; exact q5
    · rw [eH, f.1 42 i (by omega) (by omega) (by omega) (by omega), f.1 43 i (by omega) (by omega) (by omega) (by omega), f.1 47 i (by omega) (by omega) (by omega) (by omega), f.1 45 i (by omega) (by omega) (by omega) (by omega), f.1 46 i (by omega) (by omega) (by omega) (by omega)]; exact q6 i hi
    · rw [eH]; exact q7
    · rw [f.1 44 i (by omega) (by omega) (by omega) (by omega)]; exact q7' i hi
    · rw [f.2.2.2]; exact q8 j hj
    · rw [eH]; exact r
  · rcases i6 k hk with ⟨p1, p2⟩ | ⟨M, dm, p0, p1, p2⟩
    · refine Or.inl ⟨?_, ?_⟩
      · rw [t 31 k (by omega) (by omega) (by omega) (by omega) (by omega) (by omega) (by omega) (by omega) (by omega)]; exact p1
      · rw [f.1 _ _ (by omega) (by omega) (by omega) (by omega), c2 _ _ (by omega)]; exact p2
    · refine Or.inr ⟨M, dm, p0, ?_, zPC_frame (h := h) (fun c h1 h2 i => ?_) (fun i => ?_) (fun i hi => ?_) p2⟩
      · rw [t 31 k (by omega) (by omega) (by omega) (by omega) (by omega) (by omega) (by omega) (by omega) (by omega)]; exact p1
      · rw [f.1 _ _ (by omega) (by omega) (by omega) (by omega), c2 _ _ (by omega)]
      · rw [f.2.2.2, c3 _ _ (by omega)]
      · rw [f.2.2.1 _ (by omega), c1 30 _ (by omega) (by omega) (by omega) (by omega) (by omega)]
