/-! the small language: faults, posts -/
def zIs (b : Nat → Int32) (n : Nat) : List Nat → Nat → Prop
  | [], i => ∀ k, i ≤ k → k < n → b k = 32
  | p :: L, i => i ≤ p ∧ (∀ k, i ≤ k → k < p → b k = 32) ∧ zgd b n p ∧ zIs b n L (p + 5)
theorem zIs_bl {b : Nat → Int32} {n a c : Nat} (h1 : a ≤ c) (h2 : ∀ k, a ≤ k → k < c → b k = 32) : ∀ {L : List Nat}, zIs b n L c → zIs b n L a
  | [], q => fun k k1 k2 => by
    by_cases e : k < c
    · exact h2 k k1 e
    · exact q k (by omega) k2
  | p :: L, q => ⟨by have := q.1; omega, fun k k1 k2 => by
    by_cases e : k < c
    · exact h2 k k1 e
    · exact q.2.1 k (by omega) k2, q.2.2⟩
def zfo (b : Nat → Int32) : List Nat → Nat → zS → zS
  | [], _, S => S
  | p :: L, k, S => zfo b L (k + 1) (zitm b p k S)
theorem s121l (X : ab_X) (d : Nat) {j n : Nat} {b : Nat → Int32} (hj : j < 4) (hn : n ≤ 60) (hb : ∀ k, k < n → -128 ≤ (b k).toInt ∧ (b k).toInt ≤ 127) (v2 : Value) : ∀ (m i k t : Nat) (h : ab_H) (S : zS), i + m = n → k ≤ 6 → zTx h j n b → ab_gI h 29 13 = nI i → (∀ q, q < 32 → ab_gI h 30 (5248 + q) = S q) → S 0 = nI k → (m = 0 ∨ b i ≠ 32) → ∃ h', ab_ex X (d + 3) 121 35 [.ref 29, .int (nI j), v2] [] h = some (some (.int (zff b n m i k 0 t)), h') ∧ zFp h h' ∧ (zff b n m i k 0 t = -nI 9 → ∃ L, zIs b n L i ∧ 0 < k + L.length ∧ k + L.length ≤ 6 ∧ ∀ q, q < 32 → ab_gI h' 30 (5248 + q) = zfo b L k S q) := by
  intro m
  induction m using Nat.strongRecOn with
  | ind m ih =>
  intro i k t h S hi hk x e13 hS hS0 h32
  have eN : ab_gI h 30 5248 = nI k := (hS 0 (by omega)).trans hS0
  by_cases hx : m = 0 ∧ k ≠ 0
  · obtain ⟨m0, k0⟩ := hx
    subst m0
    have ez : zff b n 0 i k 0 t = -nI 9 := if_pos ⟨rfl, k0⟩
    refine ⟨h, ?_, zFp_refl h, fun _ => ⟨[], fun k' h1 h2 => by omega, by rw [List.length_nil]; omega, by rw [List.length_nil]; omega, hS⟩⟩
    rw [ez, l121_35, zd35 (by omega), x.1, e13, if_neg (nI_nlt (by omega) (by omega)), b121_48, zd52, eN, zlit 0, if_neg (fun z => k0 ((nI_eq (by omega) (by omega)).mp z)), b121_80]
    rfl
  have e59 : ab_ex X (d + 3) 121 35 [.ref 29, .int (nI j), v2] [] h = ab_ex X (d + 3) 121 59 [.ref 29, .int (nI j), v2] [] h := by
    rw [l121_35, zd35 (by omega), x.1, e13]
    by_cases m0 : m = 0
    · have k0 : k = 0 := by
        by_cases q : k = 0
        · exact q
        · exact absurd ⟨m0, q⟩ hx
      subst k0
      rw [if_neg (nI_nlt (by omega) (by omega)), b121_48, zd52, eN, zlit 0, if_pos rfl]
    · rw [if_pos (nI_lt (by omega) (by omega))]
  rcases s124 X d (t := t) hj hn hi hk hb x e13 eN h32 (fun m0 => by
      by_cases q : k = 0
      · exact q
      · exact absurd ⟨m0, q⟩ hx) with ⟨h1, p, a1, a2, a3, a4, a5⟩ | ⟨h1, t', a1, a2, a3, a4, a5, a6, a7⟩
  · refine ⟨h1, ?_, a4, fun q => ?_⟩
    · rw [e59, b121_59, a1]
      simp only [zpu_s, zpu_n, Option.bind_some]
      rw [b121_64, zlit 0, if_pos rfl, b121_67, a2, a5]
    · rw [a5, zneg9 (by omega)] at q
      exact q.elim
  · have h5 : 5 ≤ m := by have := a4.1; omega
    obtain ⟨i', m', h2, c1, c2, c3, c4, c5, c6, c7, c8, c9⟩ := s122 X (d + 1) hj hn (m - 5) (i + 5) h1 (by omega) (zTx_fr a5 x) a2
    have F2 := zFp_trans a5 c8
    obtain ⟨h3, g1, g2, g3⟩ := ih m' (by omega) i' (k + 1) t' h2 (zitm b i k S) c1 (by omega) (zTx_fr F2 x) c6 (fun q hq => (c7 _).trans (a6 S hS q hq)) (by unfold zitm upd; rw [if_pos rfl]) c4
    have ez : zff b n m i k 0 t = zff b n m' i' (k + 1) 0 t' := a7.trans (c9 _ _)
    refine ⟨h3, ?_, zFp_trans F2 g2, fun q => ?_⟩
    · rw [e59, b121_59, a1]
      simp only [zpu_s, zpu_n, Option.bind_some]
      rw [b121_64, if_neg zn10, b121_72, r122, c5]
      simp only [zpu_s, zpu_n, Option.bind_some]
      rw [b121_77, g1, ez]
    · obtain ⟨L, w1, w2, w3, w4⟩ := g3 (ez.symm.trans q)
      exact ⟨i :: L, ⟨Nat.le_refl _, fun k' h1 h2 => by omega, a4, zIs_bl c2 c3 w1⟩, by rw [List.length_cons]; omega, by rw [List.length_cons]; omega, w4⟩
theorem s121 (X : ab_X) (d : Nat) {j n : Nat} {b : Nat → Int32} (hj : j < 4) (hn : n ≤ 60) (hb : ∀ k, k < n → -128 ≤ (b k).toInt ∧ (b k).toInt ≤ 127) {h : ab_H} (x : zTx h j n b) : ∃ h', ab_ru X (d + 3) 121 [.ref 29, .int (nI j)] h = some (some (.int (zff b n n 0 0 0 0)), h') ∧ zFp h h' ∧ (zff b n n 0 0 0 0 = -nI 9 → ∃ L, zIs b n L 0 ∧ 0 < L.length ∧ L.length ≤ 6 ∧ ∀ q, q < 32 → ab_gI h' 30 (5248 + q) = zfo b L 0 (fun _ => 0) q) := by
  have key : ∀ (m k : Nat) (h : ab_H), k + m = 32 → ab_ex X (d + 3) 121 2 [.ref 29, .int (nI j), .int (nI k)] [] h = ab_ex X (d + 3) 121 25 [.ref 29, .int (nI j), .int (nI 32)] [] (zf h 30 (5248 + k) m 0) := by
    intro m
    induction m with
    | zero =>
      intro k h hk
      rw [l121_2, zlit 32, if_neg (nI_nlt (by omega) (by omega)), zf_0, show k = 32 by omega]
    | succ m ih =>
      intro k h hk
      rw [l121_2, zlit 32, if_pos (nI_lt (by omega) (by omega)), b121_8, show (5248 : Int32) + nI k = nI (5248 + k) from nI_add 5248 k, zs30 (by omega), nI_1, ih (k + 1) _ (by omega), ← Nat.add_assoc, zf_s]
  generalize hh1 : ab_sI (zf h 30 5248 32 0) 29 13 (nI 0) = h1
  have F1 : zFp h h1 := ⟨fun c i c1 c2 => by rw [← hh1, zg_ne c1, zf_ne c2], fun i hi => by rw [← hh1, zg_nj hi, zf_ne (by omega)], fun i hi => by rw [← hh1, zg_ne (by omega), zf_out (by omega)], fun c i => by rw [← hh1]; rfl⟩
  obtain ⟨i', m', h2, c1, c2, c3, c4, c5, c6, c7, c8, c9⟩ := s122 X (d + 1) hj hn n 0 h1 (by omega) (zTx_fr F1 x) (by rw [← hh1, zg_eq])
  have F2 := zFp_trans F1 c8
  obtain ⟨h3, g1, g2, g3⟩ := s121l X d hj hn hb (.int (nI 32)) m' i' 0 0 h2 (fun _ => 0) c1 (by omega) (zTx_fr F2 x) c6 (fun q hq => by rw [c7, ← hh1, zg_ne (by omega), zf_in (by omega) (by omega)]) rfl c4
  refine ⟨h3, ?_, zFp_trans F2 g2, fun q => ?_⟩
  · rw [r121, b121_0]
    refine Eq.trans (key 32 0 h (by omega)) ?_
    have c5' : ab_ru X (d + 2) 122 [.ref 29, .int (nI j)] h1 = some (none, h2) := c5
    rw [b121_25, Nat.add_zero, zlit 0, show zf h 30 5248 32 (nI 0) = zf h 30 5248 32 0 from rfl, hh1, c5']
    simp only [zpu_s, zpu_n, Option.bind_some]
    rw [g1, c9 0 0]
  · obtain ⟨L, w1, w2, w3, w4⟩ := g3 ((c9 0 0).symm.trans q)
    exact ⟨L, zIs_bl c2 c3 w1, by omega, by omega, w4⟩
/-! the class reads -/
theorem s25b (X : ab_X) (d : Nat) {j n p k : Nat} {b : Nat → Int32} (hj : j < 4) (hn : n ≤ 60) {h : ab_H} (hp : p + 5 ≤ n) (hk : k < 6) (e7 : ab_gI h 41 7 = nI k) (eb : ∀ q, q < n → ab_gI h (10 + j) q = b q) (v4 : Value) : ∀ m i, i + m = p → (∀ k, i ≤ k → k < p → b k = 32) → ab_ex X d 25 7 [.ref 41, .ref (10 + j), .int (nI n), .int (nI i), v4] [] h = ab_ex X d 25 7 [.ref 41, .ref (10 + j), .int (nI n), .int (nI p), v4] [] h := by
  intro m
  induction m with
  | zero =>
    intro i hi _
    rw [show i = p by omega]
  | succ m ih =>
    intro i hi hbl
    rw [l25_7, zlit 5, nI_add, if_neg (nI_nlt (by omega) (by omega)), b25_14, zP_ob zS41, e7, zlit 6, if_pos (nI_lt (by omega) (by omega)), b25_23, zT_lb hj (by omega), eb i (by omega), if_pos (hbl i (by omega) (by omega)), b25_31, nI_1]
    exact ih (i + 1) (by omega) (fun k h1 h2 => hbl k (by omega) h2)
theorem s25e (X : ab_X) (d : Nat) {j n k : Nat} {b : Nat → Int32} (hj : j < 4) (hn : n ≤ 60) {h : ab_H} (hk : k ≤ 6) (e7 : ab_gI h 41 7 = nI k) (eb : ∀ q, q < n → ab_gI h (10 + j) q = b q) (v4 : Value) : ∀ m i, n ≤ i + m → i ≤ 100 → (∀ k, i ≤ k → k < n → b k = 32) → ∃ v3, ab_ex X d 25 7 [.ref 41, .ref (10 + j), .int (nI n), .int (nI i), v4] [] h = ab_ex X d 25 129 [.ref 41, .ref (10 + j), .int (nI n), v3, v4] [] h := by
  intro m
  induction m with
  | zero =>
    intro i hi hi2 _
    refine ⟨.int (nI i), ?_⟩
    rw [l25_7, zlit 5, nI_add, if_pos (nI_lt (by omega) (by omega))]
  | succ m ih =>
    intro i hi hi2 hbl
    by_cases q : n < i + 5
    · refine ⟨.int (nI i), ?_⟩
      rw [l25_7, zlit 5, nI_add, if_pos (nI_lt q (by omega))]
    · by_cases qk : k < 6
      · obtain ⟨v3, e⟩ := ih (i + 1) (by omega) (by omega) (fun k h1 h2 => hbl k (by omega) h2)
        refine ⟨v3, ?_⟩
        rw [l25_7, zlit 5, nI_add, if_neg (nI_nlt (by omega) (by omega)), b25_14, zP_ob zS41, e7, zlit 6, if_pos (nI_lt qk (by omega)), b25_23, zT_lb hj (by omega), eb i (by omega), if_pos (hbl i (by omega) (by omega)), b25_31, nI_1]
        exact e
      · refine ⟨.int (nI i), ?_⟩
        rw [l25_7, zlit 5, nI_add, if_neg (nI_nlt (by omega) (by omega)), b25_14, zP_ob zS41, e7, zlit 6, if_neg (nI_nlt (by omega) (by omega))]
def zFk (h h' : ab_H) : Prop := (∀ c i, c ≠ 41 → c ≠ 42 → c ≠ 43 → c ≠ 44 → ab_gI h' c i = ab_gI h c i) ∧ (∀ i, i ≠ 7 → ab_gI h' 41 i = ab_gI h 41 i) ∧ ∀ c i, ab_gJ h' c i = ab_gJ h c i
set_option maxHeartbeats 2000000 in
theorem s25l (X : ab_X) (d : Nat) {j n : Nat} {b : Nat → Int32} (hj : j < 4) (hn : n ≤ 60) (hb : ∀ k, k < n → -128 ≤ (b k).toInt ∧ (b k).toInt ≤ 127) : ∀ (L : List Nat) (i k : Nat) (S : zS) (h : ab_H) (v4 : Value), zIs b n L i → i ≤ n → k + L.length ≤ 6 → ab_gI h 41 7 = nI k → (∀ q, q < n → ab_gI h (10 + j) q = b q) → (∀ q, q < k → ab_gI h 42 q = S (2 + q) ∧ ab_gI h 43 q = S (8 + q) ∧ ab_gI h 44 q = S (20 + q)) → ∃ h' v3 v4', ab_ex X (d + 1) 25 7 [.ref 41, .ref (10 + j), .int (nI n), .int (nI i), v4] [] h = ab_ex X (d + 1) 25 129 [.ref 41, .ref (10 + j), .int (nI n), v3, v4'] [] h' ∧ ab_gI h' 41 7 = nI (k + L.length) ∧ (∀ q, q < k + L.length → ab_gI h' 42 q = zfo b L k S (2 + q) ∧ ab_gI h' 43 q = zfo b L k S (8 + q) ∧ ab_gI h' 44 q = zfo b L k S (20 + q)) ∧ zFk h h' := by
  intro L
  induction L with
  | nil =>
    intro i k S h v4 hI hin hk e7 eb hS
    rw [List.length_nil] at hk
    obtain ⟨v3, e⟩ := s25e X (d + 1) hj hn (by omega) e7 eb v4 n i (by omega) (by omega) hI
    exact ⟨h, v3, v4, e, e7, hS, fun _ _ _ _ _ _ => rfl, fun _ _ => rfl, fun _ _ => rfl⟩
  | cons p L ih =>
    intro i k S h v4 hI hin hk e7 eb hS
    rw [List.length_cons] at hk
    obtain ⟨i1, i2, i3, i4⟩ := hI
    obtain ⟨g0, g1, g2, g3, g4, g5, g6⟩ := id i3
    have hk6 : k < 6 := by omega
    have eb0 := s25b X (d + 1) hj hn g0 hk6 e7 eb v4 (p - i) i (by omega) i2
    have w1 := zvf_eq g3 (by omega)
    have u1 := zvf_le g3
    have w2 := zvf_eq g4 (by split <;> omega)
    have u2 : zvf (b (p + 2)) ≤ 9 := by
      have := zvf_le g4
      split at this <;> omega
    have w3 := zvf_eq g5 (by omega)
    have w4 := zvf_eq g6 (by omega)
    have efr : ((b (p + 1) - 48) * 10 + b (p + 2)) - 48 = nI (10 * zvf (b (p + 1)) + zvf (b (p + 2))) := by
      rw [zadd_sub, w1, w2, zlit 10, pk_mul, nI_add, Nat.mul_comm]
    have hkd := zkd_le (b p)
    generalize hh1 : ab_sI h 42 k (nI (zkd (b p))) = h1
    generalize hh2 : ab_sI h1 43 k (zhw b p) = h2
    generalize hh3 : ab_sI (ab_sI h2 44 k (nI (zvf (b (p + 4))))) 41 7 (nI (k + 1)) = h3
    have eb1 : ∀ q, q < n → ab_gI h1 (10 + j) q = b q := fun q hq => by rw [← hh1, zg_ne (by omega)]; exact eb q hq
    have eb2 : ∀ q, q < n → ab_gI h2 (10 + j) q = b q := fun q hq => by rw [← hh2, zg_ne (by omega)]; exact eb1 q hq
    have eb3 : ∀ q, q < n → ab_gI h3 (10 + j) q = b q := fun q hq => by rw [← hh3, zg_ne (by omega), zg_ne (by omega)]; exact eb2 q hq
    have e71 : ab_gI h1 41 7 = nI k := by rw [← hh1, zg_ne (by omega)]; exact e7
    have e72 : ab_gI h2 41 7 = nI k := by rw [← hh2, zg_ne (by omega)]; exact e71
    have f3 : ∀ c q, c ≠ 41 → c ≠ 42 → c ≠ 43 → c ≠ 44 → ab_gI h3 c q = ab_gI h c q := fun c q c1 c2 c3 c4 => by rw [← hh3, zg_ne c1, zg_ne c4, ← hh2, zg_ne c3, ← hh1, zg_ne c2]
    have step : ab_ex X (d + 1) 25 7 [.ref 41, .ref (10 + j), .int (nI n), .int (nI p), v4] [] h = ab_ex X (d + 1) 25 7 [.ref 41, .ref (10 + j), .int (nI n), .int (nI (p + 5)), .int (nI (10 * zvf (b (p + 1)) + zvf (b (p + 2))))] [] h3 := by
      rw [l25_7, zlit 5, nI_add, if_neg (nI_nlt (by omega) (by omega)), b25_14, zP_ob zS41, e7, zlit 6, if_pos (nI_lt hk6 (by omega)), b25_23, zT_lb hj (by omega), eb p (by omega), if_neg g1, b25_37]
      rw [nI_1, zT_lb hj (by omega), eb (p + 1) (by omega), show nI p + 2 = nI (p + 2) from nI_add p 2, zT_lb hj (by omega), eb (p + 2) (by omega), zP_ob zS41, zP_ob zS41, zT_lb hj (by omega), eb p (by omega), s22, if_neg g2, efr, e7, zP_rf zS41]
      simp only [zpu_s, zpu_n, Option.bind_some]
      rw [b25_73, show 41 + 1 + 0 = 42 from rfl, zs42 (by omega), hh1, zP_ob zS41, zP_ob zS41, show nI p + 3 = nI (p + 3) from nI_add p 3, zT_lb hj (by omega), eb1 (p + 3) (by omega), w3, r26, b26_0, e71, zP_rf zS41]
      simp only [zpu_s, zpu_n, Option.bind_some]
      rw [b25_95, show 41 + 1 + 1 = 43 from rfl, zs43 (by omega), show ab_sI h1 43 k ((((1 <<< (nI (zvf (b (p + 3))) &&& 31)) - 1) <<< (nI (10 * zvf (b (p + 1)) + zvf (b (p + 2))) &&& 31)) &&& 4095) = h2 from hh2, zP_ob zS41, zP_ob zS41, show nI p + 4 = nI (p + 4) from nI_add p 4, zT_lb hj (by omega), eb2 (p + 4) (by omega), w4, e72, zP_rf zS41, show 41 + 1 + 2 = 44 from rfl, zs44 (by omega), zP_ob zS41, zP_ob zS41, zg_ne (by omega), e72, nI_1, hh3, show nI p + 5 = nI (p + 5) from nI_add p 5]
    have hS3 : ∀ q, q < k + 1 → ab_gI h3 42 q = zitm b p k S (2 + q) ∧ ab_gI h3 43 q = zitm b p k S (8 + q) ∧ ab_gI h3 44 q = zitm b p k S (20 + q) := by
      intro q hq
      have r42 : ab_gI h3 42 q = ab_gI (ab_sI h 42 k (nI (zkd (b p)))) 42 q := by rw [← hh3, zg_ne (by omega), zg_ne (by omega), ← hh2, zg_ne (by omega), ← hh1]
      have r43 : ab_gI h3 43 q = ab_gI (ab_sI h1 43 k (zhw b p)) 43 q := by rw [← hh3, zg_ne (by omega), zg_ne (by omega), ← hh2]
      have r44 : ab_gI h3 44 q = ab_gI (ab_sI h2 44 k (nI (zvf (b (p + 4))))) 44 q := by rw [← hh3, zg_ne (by omega)]
      rw [r42, r43, r44]
      unfold zitm upd
      by_cases e : q = k
      · subst e
        refine ⟨?_, ?_, ?_⟩
        · rw [zg_eq, if_neg (by omega), if_neg (by omega), if_neg (by omega), if_pos rfl]
        · rw [zg_eq, if_neg (by omega), if_neg (by omega), if_pos rfl]
        · rw [zg_eq, if_neg (by omega), if_pos rfl]
      · obtain ⟨s1, s2, s3⟩ := hS q (by omega)
        refine ⟨?_, ?_, ?_⟩
        · rw [zg_nj e, if_neg (by omega), if_neg (by omega), if_neg (by omega), if_neg (by omega)]; exact s1
        · rw [zg_nj e, ← hh1, zg_ne (by omega), if_neg (by omega), if_neg (by omega), if_neg (by omega), if_neg (by omega)]; exact s2
        · rw [zg_nj e, ← hh2, zg_ne (by omega), ← hh1, zg_ne (by omega), if_neg (by omega), if_neg (by omega), if_neg (by omega), if_neg (by omega)]; exact s3
    obtain ⟨h', v3, v4', c1, c2, c3, c4, c5, c6⟩ := ih (p + 5) (k + 1) (zitm b p k S) h3 (.int (nI (10 * zvf (b (p + 1)) + zvf (b (p + 2))))) i4 (by omega) (by omega) (by rw [← hh3, zg_eq]) eb3 hS3
    refine ⟨h', v3, v4', (eb0.trans step).trans c1, ?_, fun q hq => c3 q (by rw [List.length_cons] at hq; omega), fun c q d1 d2 d3 d4 => (c4 c q d1 d2 d3 d4).trans (f3 c q d1 d2 d3 d4), fun q hq => (c5 q hq).trans ?_, fun c q => (c6 c q).trans ?_⟩
    · rw [c2, List.length_cons]; congr 1; omega
    · rw [← hh3, zg_nj hq, zg_ne (by omega), ← hh2, zg_ne (by omega), ← hh1, zg_ne (by omega)]
    · rw [← hh3, ← hh2, ← hh1]; rfl
