/-! the best round: the reference goes through all rounds -/
/-- alike but for what the reference lays aside for its rounds -/
def zFs (h h' : ab_H) : Prop := (∀ c i, c ≠ 38 → c ≠ 39 → c ≠ 40 → c ≠ 29 → ab_gI h' c i = ab_gI h c i) ∧ (∀ i, (i < 16 ∨ 23 < i) → ab_gI h' 29 i = ab_gI h 29 i) ∧ ∀ c i, ab_gJ h' c i = ab_gJ h c i
theorem zFs_refl (h : ab_H) : zFs h h := ⟨fun _ _ _ _ _ _ => rfl, fun _ _ => rfl, fun _ _ => rfl⟩
theorem zFs_trans {h h' h'' : ab_H} (a : zFs h h') (b : zFs h' h'') : zFs h h'' := ⟨fun c i h1 h2 h3 h4 => (b.1 c i h1 h2 h3 h4).trans (a.1 c i h1 h2 h3 h4), fun i hi => (b.2.1 i hi).trans (a.2.1 i hi), fun c i => (b.2.2 c i).trans (a.2.2 c i)⟩
theorem zFs_Fr {h h' : ab_H} (a : zFr h h') : zFs h h' := ⟨fun c i h1 h2 _ h4 => a.1 c i h1 h2 h4, fun i hi => a.2.1 i (by omega), fun c i => a.2.2 c i⟩
def zLn (h : ab_H) (r : List Nat) : Prop := ab_gI h 29 22 = nI r.length ∧ ab_gI h 29 23 = nI (zmk r) ∧ zPa h 40 r
theorem s161 (X : ab_X) (d : Nat) (h : ab_H) : ∃ h', ab_ru X d 161 [.ref 29] h = some (none, h') ∧ zLn h' [] ∧ zFs h h' ∧ ∀ i, ab_gI h' 38 i = ab_gI h 38 i := by
  refine ⟨ab_sI (ab_sI (ab_sI h 29 22 (nI 0)) 29 23 (nI 0)) 40 0 (-nI 1), ?_, ⟨?_, ?_, trivial⟩, ⟨fun c i c1 c2 c3 c4 => ?_, fun i hi => ?_, fun c i => rfl⟩, fun i => ?_⟩
  · simp (discharger := omega) only [r161, b161_0, zs40, zlit]
  · rw [zg_ne (by omega), zg_nj (by omega), zg_eq]; rfl
  · rw [zg_ne (by omega), zg_eq]; rfl
  · rw [zg_ne c3, zg_ne c4, zg_ne c4]
  · rw [zg_ne (by omega), zg_nj (by omega), zg_nj (by omega)]
  · rw [zg_ne (by omega), zg_ne (by omega), zg_ne (by omega)]
theorem zd30' (X : ab_X) (h : ab_H) (K : Int32 → Option ab_R) : ab_ld X h 30 0 K = K (ab_gI h 30 0) := zd30 (k := 0) (by omega) X h K
theorem zfu_le (r : List Nat) : ∀ m k, zfu r m k ≤ k + m
  | 0, k => Nat.le_refl _
  | m + 1, k => by
    unfold zfu
    split
    · have := zfu_le r m (k + 1); omega
    · omega
theorem s162a (X : ab_X) (d : Nat) {N : Nat} {r : List Nat} (hN : N ≤ 6) (hk : zok N r = true) {h : ab_H} (n5 : ab_gI h 30 0 = nI N) (e23 : ab_gI h 29 23 = nI (zmk r)) : ∀ m k, k + m = N → ab_ex X (d + 1) 162 2 [.ref 29, .int (nI k)] [] h = ab_ex X (d + 1) 162 29 [.ref 29, .int (nI (zfu r m k))] [] h := by
  intro m
  induction m with
  | zero =>
    intro k hkm
    rw [l162_2, zd30', n5, if_neg (nI_nlt (by omega) (by omega))]
    rfl
  | succ m ih =>
    intro k hkm
    have hB := zmk_B hN hk (show k < 6 by omega)
    rw [l162_2, zd30', n5, if_pos (nI_lt (by omega) (by omega)), b162_12, e23, s139, hB]
    unfold zfu
    by_cases hm : zmem k r = true
    · simp only [zpu_s, zpu_n, Option.bind_some, b162_20, zb_0, hm, not_true_eq_false, if_false, b162_23, nI_1, if_true]
      exact ih (k + 1) (by omega)
    · simp only [zpu_s, zpu_n, Option.bind_some, b162_20, zb_0, hm, Bool.false_eq_true, not_false_eq_true, if_true, if_false]
theorem s162b (X : ab_X) (d : Nat) {N : Nat} {r : List Nat} (hN : N ≤ 6) (hk : zok N r = true) {h : ab_H} (n5 : ab_gI h 30 0 = nI N) (e23 : ab_gI h 29 23 = nI (zmk r)) : ∀ m k, k + m = N → ab_ex X (d + 1) 162 90 [.ref 29, .int (nI k)] [] h = ab_ex X (d + 1) 162 29 [.ref 29, .int (nI (zfu r m k))] [] h := by
  intro m
  induction m with
  | zero =>
    intro k hkm
    rw [l162_90, zd30', n5, if_neg (nI_nlt (by omega) (by omega))]
    rfl
  | succ m ih =>
    intro k hkm
    have hB := zmk_B hN hk (show k < 6 by omega)
    rw [l162_90, zd30', n5, if_pos (nI_lt (by omega) (by omega)), b162_100, e23, s139, hB]
    unfold zfu
    by_cases hm : zmem k r = true
    · simp only [zpu_s, zpu_n, Option.bind_some, b162_108, zb_0, hm, not_true_eq_false, if_false, b162_111, nI_1, if_true]
      exact ih (k + 1) (by omega)
    · simp only [zpu_s, zpu_n, Option.bind_some, b162_108, zb_0, hm, Bool.false_eq_true, not_false_eq_true, if_true, if_false]
theorem zmk_u : ∀ m, m < 64 → ∀ a, a < 6 → m.testBit a = false → nI (m ||| 2 ^ a) &&& ((1 <<< (nI a &&& 31)) ^^^ (-1)) = nI m := by decide +kernel
set_option maxHeartbeats 1000000 in
/-- a house is looked for; if there is none, the last stop is taken back -/
theorem s162c (X : ab_X) (d : Nat) {N : Nat} (hN : N ≤ 6) : ∀ (r : List Nat) (x : Nat) (h : ab_H), x ≤ N → r.length ≤ 6 → zok N r = true → ab_gI h 30 0 = nI N → zLn h r →
    (∀ r', (if x < N then some (x :: r) else zbk N r) = some r' → ∃ h', ab_ex X (d + 1) 162 29 [.ref 29, .int (nI x)] [] h = some (some (.int (nI 1)), h') ∧ zLn h' r' ∧ zFs h h' ∧ ∀ i, ab_gI h' 38 i = ab_gI h 38 i) ∧ ((if x < N then some (x :: r) else zbk N r) = none → ∃ h', ab_ex X (d + 1) 162 29 [.ref 29, .int (nI x)] [] h = some (some (.int (nI 0)), h') ∧ zFs h h' ∧ ∀ i, ab_gI h' 38 i = ab_gI h 38 i) := by
  intro r
  induction r with
  | nil =>
    intro x h hx hl hk n5 ln
    obtain ⟨l1, l2, l3⟩ := ln
    by_cases q : x < N
    · rw [if_pos q]
      refine ⟨fun r' er => ?_, fun en => by cases en⟩
      cases er
      refine ⟨ab_sI (ab_sI (ab_sI h 40 0 (nI x)) 29 23 (nI (zmk [x]))) 29 22 (nI 1), ?_, ⟨?_, ?_, ?_, trivial⟩, ⟨fun c i c1 c2 c3 c4 => ?_, fun i hi => ?_, fun c i => rfl⟩, fun i => ?_⟩
      · have e1 : ab_gI h 29 22 = nI 0 := l1
        have e2 : ab_gI h 29 23 = nI 0 := l2
        have hm : nI 0 ||| (nI 1 <<< (nI x &&& nI 31)) = nI (zmk [x]) := zmk_s 0 (by omega) x (by omega)
        simp (discharger := omega) only [l162_29, b162_117, b162_129, zd30, zs40, n5, e1, e2, hm, zg_ne, zj_ne, zc_ne, zk_ne, zf_ne, zg_J, zj_I, zc_J, zk_I, zf_J, zg_eq, zg_nj, zj_eq, zj_nj, zf_in, zf_out, zlit, Bool.false_eq_true, zlt_t, zlt_f, zeq_t, zeq_f, nI_add, pk_mul, zb_0, zb_n0, not_true_eq_false, not_false_eq_true, Classical.not_not, if_true, if_false, ite_true, ite_false, and_self, and_true, true_and, and_false, false_and, or_self, or_true, true_or, or_false, false_or, reduceIte, Nat.zero_add]
      · rw [zg_eq]; rfl
      · rw [zg_nj (by omega), zg_eq]
      · rw [zg_ne (by omega), zg_ne (by omega)]; exact zg_eq _ _ _ _
      · rw [zg_ne c4, zg_ne c4, zg_ne c3]
      · rw [zg_nj (by omega), zg_nj (by omega), zg_ne (by omega)]
      · rw [zg_ne (by omega), zg_ne (by omega), zg_ne (by omega)]
    · have ex : x = N := by omega
      subst ex
      rw [if_neg q]
      refine ⟨fun r' er => (by cases er), fun _ => ⟨h, ?_, zFs_refl h, fun i => rfl⟩⟩
      have e1 : ab_gI h 29 22 = nI 0 := l1
      simp (discharger := omega) only [l162_29, b162_39, b162_117, b162_127, zd30, n5, e1, zlit, Bool.false_eq_true, zlt_t, zlt_f, zeq_t, zeq_f, nI_add, pk_mul, zb_0, zb_n0, not_true_eq_false, not_false_eq_true, Classical.not_not, if_true, if_false, ite_true, ite_false, and_self, and_true, true_and, and_false, false_and, or_self, or_true, true_or, or_false, false_or, reduceIte]
  | cons a r ih =>
    intro x h hx hl hk n5 ln
    obtain ⟨l1, l2, l3⟩ := ln
    rw [List.length_cons] at hl
    obtain ⟨k1, k2, k3⟩ := zok_c.mp hk
    by_cases q : x < N
    · rw [if_pos q]
      refine ⟨fun r' er => ?_, fun en => by cases en⟩
      cases er
      refine ⟨ab_sI (ab_sI (ab_sI h 40 (r.length + 1) (nI x)) 29 23 (nI (zmk (x :: a :: r)))) 29 22 (nI (r.length + 1 + 1)), ?_, ⟨?_, ?_, ?_, ?_⟩, ⟨fun c i c1 c2 c3 c4 => ?_, fun i hi => ?_, fun c i => rfl⟩, fun i => ?_⟩
      · have e1 : ab_gI h 29 22 = nI (r.length + 1) := l1
        have hm : nI (zmk (a :: r)) ||| (nI 1 <<< (nI x &&& nI 31)) = nI (zmk (x :: a :: r)) := zmk_s _ (zmk_lt hN _ hk) x (by omega)
        simp (discharger := omega) only [l162_29, b162_117, b162_129, zd30, zs40, n5, e1, l2, hm, zg_ne, zj_ne, zc_ne, zk_ne, zf_ne, zg_J, zj_I, zc_J, zk_I, zf_J, zg_eq, zg_nj, zj_eq, zj_nj, zf_in, zf_out, zlit, Bool.false_eq_true, zlt_t, zlt_f, zeq_t, zeq_f, nI_add, pk_mul, zb_0, zb_n0, not_true_eq_false, not_false_eq_true, Classical.not_not, if_true, if_false, ite_true, ite_false, and_self, and_true, true_and, and_false, false_and, or_self, or_true, true_or, or_false, false_or, reduceIte]
      · rw [zg_eq]; rfl
      · rw [zg_nj (by omega), zg_eq]
      · rw [zg_ne (by omega), zg_ne (by omega)]; exact zg_eq _ _ _ _
      · refine zPa_fr (h := h) (c := 40) (a :: r) (fun k hk => ?_) l3
        rw [List.length_cons] at hk
        rw [zg_ne (by omega), zg_ne (by omega), zg_nj (by omega)]
      · rw [zg_ne c4, zg_ne c4, zg_ne c3]
      · rw [zg_nj (by omega), zg_nj (by omega), zg_ne (by omega)]
      · rw [zg_ne (by omega), zg_ne (by omega), zg_ne (by omega)]
    · have ex : x = N := by omega
      subst ex
      rw [if_neg q]
      have hm : nI (zmk (a :: r)) &&& ((1 <<< (nI a &&& 31)) ^^^ (-1)) = nI (zmk r) := zmk_u _ (zmk_lt hN r k3) a (by omega) (by rw [zmk_b]; exact k2)
      generalize hh : ab_sI (ab_sI h 29 22 (nI r.length)) 29 23 (nI (zmk r)) = h1
      have f1 : zFs h h1 := ⟨fun c i c1 c2 c3 c4 => by rw [← hh, zg_ne c4, zg_ne c4], fun i hi => by rw [← hh, zg_nj (by omega), zg_nj (by omega)], fun c i => by rw [← hh]; rfl⟩
      have f38 : ∀ i, ab_gI h1 38 i = ab_gI h 38 i := fun i => by rw [← hh, zg_ne (by omega), zg_ne (by omega)]
      have n5' : ab_gI h1 30 0 = nI x := (f1.1 30 0 (by omega) (by omega) (by omega) (by omega)).trans n5
      have ln1 : zLn h1 r := ⟨by rw [← hh, zg_nj (by omega), zg_eq], by rw [← hh, zg_eq], zPa_fr (h := h) (c := 40) r (fun k hk => by rw [← hh, zg_ne (by omega), zg_ne (by omega)]) l3.2⟩
      have e1 : ab_gI h 29 22 = nI (r.length + 1) := l1
      have e40 : ab_gI h 40 r.length = nI a := l3.1
      have step : ab_ex X (d + 1) 162 29 [.ref 29, .int (nI x)] [] h = ab_ex X (d + 1) 162 29 [.ref 29, .int (nI (zfu r (x - (a + 1)) (a + 1)))] [] h1 := by
        rw [l162_29, zd30', n5, if_pos rfl, b162_39, e1, zlit 0, if_pos (nI_lt (by omega) (by omega)), b162_46, e1, nI_pred]
        have r40 : ab_gI (ab_sI h 29 22 (nI r.length)) 40 r.length = nI a := by rw [zg_ne (by omega)]; exact e40
        have r23 : ab_gI (ab_sI h 29 22 (nI r.length)) 29 23 = nI (zmk (a :: r)) := by rw [zg_nj (by omega)]; exact l2
        rw [zg_eq, zd40 (by omega), r40, zd40 (by omega), r40, r23, hm, nI_1, hh]
        exact s162b X d hN k3 n5' ln1.2.1 (x - (a + 1)) (a + 1) (by omega)
      have hle := zfu_le r (x - (a + 1)) (a + 1)
      obtain ⟨i1, i2⟩ := ih (zfu r (x - (a + 1)) (a + 1)) h1 (by omega) (by omega) k3 n5' ln1
      refine ⟨fun r' er => ?_, fun en => ?_⟩
      · obtain ⟨h', a1, a2, a3, a4⟩ := i1 r' er
        exact ⟨h', step.trans a1, a2, zFs_trans f1 a3, fun i => (a4 i).trans (f38 i)⟩
      · obtain ⟨h', a1, a3, a4⟩ := i2 en
        exact ⟨h', step.trans a1, zFs_trans f1 a3, fun i => (a4 i).trans (f38 i)⟩
theorem s162 (X : ab_X) (d : Nat) {N : Nat} (hN : N ≤ 6) {r : List Nat} {h : ab_H} (hl : r.length ≤ 6) (hk : zok N r = true) (n5 : ab_gI h 30 0 = nI N) (ln : zLn h r) :
    (∀ r', znx N r = some r' → ∃ h', ab_ru X (d + 1) 162 [.ref 29] h = some (some (.int (nI 1)), h') ∧ zLn h' r' ∧ zFs h h' ∧ ∀ i, ab_gI h' 38 i = ab_gI h 38 i) ∧ (znx N r = none → ∃ h', ab_ru X (d + 1) 162 [.ref 29] h = some (some (.int (nI 0)), h') ∧ zFs h h' ∧ ∀ i, ab_gI h' 38 i = ab_gI h 38 i) := by
  have e0 : ab_ru X (d + 1) 162 [.ref 29] h = ab_ex X (d + 1) 162 29 [.ref 29, .int (nI (zfu r N 0))] [] h := by
    rw [r162, b162_0]
    exact s162a X d hN hk n5 ln.2.1 N 0 (by omega)
  have hle := zfu_le r N 0
  obtain ⟨i1, i2⟩ := s162c X d hN r (zfu r N 0) h (by omega) hl hk n5 ln
  rw [e0]
  exact ⟨i1, i2⟩
/-- the stop at a place of a round -/
def zat : List Nat → Nat → Nat
  | [], _ => 0
  | a :: r, k => if k = r.length then a else zat r k
theorem zat_lt {N : Nat} : ∀ {r : List Nat}, zok N r = true → ∀ k, k < r.length → zat r k < N
  | [], _, k, hk => by cases hk
  | a :: r, ho, k, hk => by
    obtain ⟨k1, k2, k3⟩ := zok_c.mp ho
    rw [List.length_cons] at hk
    unfold zat
    split
    · exact k1
    · exact zat_lt k3 k (by omega)
theorem zat_Pa {h : ab_H} {c : Nat} : ∀ {r : List Nat}, zPa h c r → ∀ k, k < r.length → ab_gI h c k = nI (zat r k)
  | [], _, k, hk => by cases hk
  | a :: r, p, k, hk => by
    rw [List.length_cons] at hk
    unfold zat
    split
    · rename_i e; subst e; exact p.1
    · exact zat_Pa p.2 k (by omega)
theorem zgom_qc {e : Nat → Int32} {q q' : Nat → Nat} {s : zM} : ∀ n, (∀ k, k < n → q k = q' k) → zgom e q n s = zgom e q' n s
  | 0, _ => rfl
  | n + 1, hq => by
    show zgm1 e (q n) (zgom e q n s) = zgm1 e (q' n) (zgom e q' n s)
    rw [hq n (by omega), zgom_qc n (fun k hk => hq k (by omega))]
theorem zon1 : ∀ m, m < 64 → ∀ a, a < 6 → m.testBit a = false → zones (nI (m ||| 2 ^ a)) = zones (nI m) + nI 1 := by decide +kernel
theorem zon0 : zones (nI 0) = nI 0 := by decide +kernel
theorem zvv_bits {e : Nat → Int32} {D : Nat → Nat} {N : Nat} (hN : N ≤ 6) : ∀ r, zok N r = true → (zvv e D r).2.2.2.2.2 < 64 ∧ (∀ i, (zvv e D r).2.2.2.2.2.testBit i = true → zmem i r = true) ∧ zones (nI (zvv e D r).2.2.2.2.2) = nI (zvv e D r).2.2.2.1
  | [], _ => ⟨(by decide : (0 : Nat) < 64), fun i hi => (by rw [show (zvv e D []).2.2.2.2.2 = 0 from rfl, Nat.zero_testBit] at hi; cases hi), zon0⟩
  | a :: r, ho => by
    obtain ⟨k1, k2, k3⟩ := zok_c.mp ho
    obtain ⟨b1, b2, b3⟩ := zvv_bits (e := e) (D := D) hN r k3
    have nb : (zvv e D r).2.2.2.2.2.testBit a = false := by
      cases q : (zvv e D r).2.2.2.2.2.testBit a with
      | false => rfl
      | true => rw [b2 a q] at k2; cases k2
    have mm : ∀ i, zmem i (a :: r) = (Nat.beq i a || zmem i r) := fun i => rfl
    show (zv1 e D a (zvv e D r)).2.2.2.2.2 < 64 ∧ (∀ i, (zv1 e D a (zvv e D r)).2.2.2.2.2.testBit i = true → zmem i (a :: r) = true) ∧ zones (nI (zv1 e D a (zvv e D r)).2.2.2.2.2) = nI (zv1 e D a (zvv e D r)).2.2.2.1
    unfold zv1
    split
    · refine ⟨?_, fun i hi => ?_, ?_⟩
      · have h4 : 2 ^ a < 2 ^ 6 := Nat.pow_lt_pow_right (by omega) (by omega)
        exact Nat.or_lt_two_pow (n := 6) b1 h4
      · dsimp only at hi
        rw [Nat.testBit_or, Nat.testBit_two_pow, Bool.or_eq_true] at hi
        rw [mm, Bool.or_eq_true]
        rcases hi with hi | hi
        · exact Or.inr (b2 i hi)
        · left
          have := of_decide_eq_true hi
          subst this
          exact Nat.beq_refl a
      · dsimp only
        rw [zon1 _ b1 a (by omega) nb, b3, nI_add]
    · refine ⟨b1, fun i hi => ?_, b3⟩
      rw [mm, Bool.or_eq_true]
      exact Or.inr (b2 i hi)
/-- the reference along a round with each house once -/
theorem zgom_vl {e : Nat → Int32} {D : Nat → Nat} {D' : Nat → Int32} {N : Nat} (hN : N ≤ 6) (hD : ∀ i, i < N → D i ≤ 99 ∧ D' i = nI (D i)) : ∀ r, zok N r = true → (zgom e (zat r) r.length ((0, 0, D', 0), 0, 0)).1.1 = (zvv e D r).1 ∧ (zgom e (zat r) r.length ((0, 0, D', 0), 0, 0)).1.2.1 = (zvv e D r).2.1 ∧ (∀ i, zmem i r = false → (zgom e (zat r) r.length ((0, 0, D', 0), 0, 0)).1.2.2.1 i = D' i) ∧ (zgom e (zat r) r.length ((0, 0, D', 0), 0, 0)).1.2.2.2 = nI (zvv e D r).2.2.1 ∧ (zgom e (zat r) r.length ((0, 0, D', 0), 0, 0)).2.1 = nI (zvv e D r).2.2.2.2.2 ∧ (zgom e (zat r) r.length ((0, 0, D', 0), 0, 0)).2.2 = nI (zvv e D r).2.2.2.2.1
  | [], _ => ⟨rfl, rfl, fun i _ => rfl, rfl, rfl, rfl⟩
  | a :: r, ho => by
    obtain ⟨k1, k2, k3⟩ := zok_c.mp ho
    obtain ⟨i1, i2, i3, i4, i5, i6⟩ := zgom_vl (e := e) hN hD r k3
    obtain ⟨b1, -, -⟩ := zvv_bits (e := e) (D := D) hN r k3
    have eg : zgom e (zat (a :: r)) (a :: r).length ((0, 0, D', 0), 0, 0) = zgm1 e a (zgom e (zat r) r.length ((0, 0, D', 0), 0, 0)) := by
      rw [List.length_cons]
      show zgm1 e (zat (a :: r) r.length) (zgom e (zat (a :: r)) r.length ((0, 0, D', 0), 0, 0)) = _
      rw [show zat (a :: r) r.length = a from if_pos rfl, zgom_qc (q := zat (a :: r)) (q' := zat r) r.length (fun k hk => (if_neg (by omega) : zat (a :: r) k = zat r k))]
    rw [eg, show zvv e D (a :: r) = zv1 e D a (zvv e D r) from rfl]
    have hDa := i3 a k2
    rw [(hD a k1).2] at hDa
    generalize zgom e (zat r) r.length ((0, 0, D', 0), 0, 0) = s at i1 i2 i3 i4 i5 i6 hDa
    generalize zvv e D r = v at i1 i2 i3 i4 i5 i6 b1
    obtain ⟨⟨t, p, E, b⟩, sv, lt⟩ := s
    obtain ⟨t', p', L, c, la, bt⟩ := v
    dsimp only at i1 i2 i3 i4 i5 i6 b1 hDa
    subst i1 i2 i4 i5 i6
    have mm : ∀ i, zmem i (a :: r) = false → i ≠ a ∧ zmem i r = false := fun i hi => by
      rw [show zmem i (a :: r) = (Nat.beq i a || zmem i r) from rfl, Bool.or_eq_false_iff] at hi
      exact ⟨fun q => (by subst q; rw [Nat.beq_refl] at hi; cases hi.1), hi.2⟩
    have hbit := zmk_s bt b1 a (by omega)
    have h99 := (hD a k1).1
    unfold zgm1 zgo1 zgot zv1
    dsimp only
    by_cases hc : t + zdist p a < 12 ∧ zbit (e a) (t + zdist p a) = true
    · simp only [if_pos hc, hDa]
      by_cases h0 : 0 < D a
      · have hs : zsm e D a (t + zdist p a) = true := zsm_t.mpr ⟨h0, hc.1, hc.2⟩
        have h0' : nI 0 < nI (D a) := nI_lt h0 (by omega)
        simp only [if_pos hs, if_pos h0', hbit]
        refine ⟨trivial, trivial, fun i hi => ?_, nI_add _ _, trivial, trivial⟩
        obtain ⟨m1, m2⟩ := mm i hi
        unfold upd
        rw [if_neg m1]
        exact i3 i m2
      · have e0 : D a = 0 := by omega
        have hs : ¬ zsm e D a (t + zdist p a) = true := fun z => h0 (zsm_t.mp z).1
        have h0' : ¬ nI 0 < nI (D a) := nI_nlt (by omega) (by omega)
        simp only [if_neg hs, if_neg h0']
        refine ⟨trivial, trivial, fun i hi => ?_, (by rw [e0]; exact Int32.add_zero _), Int32.or_zero, trivial⟩
        obtain ⟨m1, m2⟩ := mm i hi
        unfold upd
        rw [if_neg m1]
        exact i3 i m2
    · have hs : ¬ zsm e D a (t + zdist p a) = true := fun z => hc (zsm_t.mp z).2
      have h0' : ¬ nI 0 < nI 0 := nI_nlt (Nat.le_refl 0) (by omega)
      simp only [if_neg hc, if_neg hs, if_neg h0']
      exact ⟨trivial, trivial, fun i hi => i3 i (mm i hi).2, trivial, Int32.or_zero, trivial⟩
