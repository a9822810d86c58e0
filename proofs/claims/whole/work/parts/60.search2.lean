/-! the best round: weighed, and gone on from -/
/-- the richest round, its letters, the soonest hour, the most houses, in how many ways -/
abbrev zT : Type := List Nat × Nat × Nat × Nat × Nat
def zw0 (T : zT) (r : List Nat) (L c la : Nat) : zT :=
  (if T.2.1 < L then r else T.1, if T.2.1 < L then L else T.2.1, if T.2.1 < L then la else if L = T.2.1 then (if la < T.2.2.1 then la else T.2.2.1) else T.2.2.1, if T.2.2.2.1 < c then c else T.2.2.2.1, if T.2.2.2.1 < c then 1 else if c = T.2.2.2.1 then T.2.2.2.2 + 1 else T.2.2.2.2)
def zw1 (e : Nat → Int32) (D : Nat → Nat) (T : zT) (r : List Nat) : zT := zw0 T r (zvv e D r).2.2.1 (zvv e D r).2.2.2.1 (zvv e D r).2.2.2.2.1
def zSt (h : ab_H) (T : zT) : Prop := ab_gI h 21 7 = nI T.1.length ∧ ab_gI h 21 8 = nI T.2.1 ∧ ab_gI h 21 9 = nI T.2.2.1 ∧ ab_gI h 21 10 = nI T.2.2.2.1 ∧ ab_gI h 21 11 = nI T.2.2.2.2 ∧ zPa h 24 T.1
def zTb (N : Nat) (T : zT) : Prop := zok N T.1 = true ∧ T.1.length ≤ 6 ∧ T.2.1 ≤ 600 ∧ T.2.2.1 ≤ 12 ∧ T.2.2.2.1 ≤ 6
theorem zw0_b {N : Nat} {T : zT} {r : List Nat} {L c la : Nat} (b : zTb N T) (hk : zok N r = true) (h1 : r.length ≤ 6) (h2 : L ≤ 600) (h3 : c ≤ 6) (h4 : la ≤ 12) : zTb N (zw0 T r L c la) := by
  obtain ⟨b0, b1, b2, b3, b4⟩ := b
  unfold zw0
  refine ⟨?_, ?_, ?_, ?_, ?_⟩
  · dsimp only
    split
    · exact hk
    · exact b0
  · dsimp only
    split <;> omega
  · dsimp only
    split <;> omega
  · dsimp only
    split
    · omega
    · split
      · split <;> omega
      · omega
  · dsimp only
    split <;> omega
set_option maxHeartbeats 1000000 in
theorem s73 (X : ab_X) (d : Nat) {N : Nat} {r : List Nat} {T : zT} {L c la : Nat} (hl : r.length ≤ 6) (hL : L ≤ 600) (hc : c ≤ 6) (hla : la ≤ 12) (b : zTb N T) {h : ab_H} (v2 : ab_gI h 26 r.length = nI L) (v3 : ab_gI h 27 r.length = nI c) (v4 : ab_gI h 28 r.length = nI la) (p : zPa h 23 r) (st : zSt h T) :
    ∃ h', ab_ru X d 73 [.ref 21, .int (nI r.length)] h = some (none, h') ∧ zSt h' (zw0 T r L c la) ∧ (∀ c i, c ≠ 21 → c ≠ 24 → ab_gI h' c i = ab_gI h c i) ∧ ∀ c i, ab_gJ h' c i = ab_gJ h c i := by
  obtain ⟨Tr, TL, Ts, Tm, Tw⟩ := T
  obtain ⟨b0, b1, b2, b3, b4⟩ := b
  obtain ⟨s7, s8', s9, s10, s11, sp⟩ := st
  dsimp only at b0 b1 b2 b3 b4 s7 s8' s9 s10 s11 sp
  have ph1 : ∃ h1, ab_ru X d 73 [.ref 21, .int (nI r.length)] h = ab_ex X d 73 85 [.ref 21, .int (nI r.length)] [] h1 ∧ ab_gI h1 21 7 = nI (if TL < L then r else Tr).length ∧ ab_gI h1 21 8 = nI (if TL < L then L else TL) ∧ ab_gI h1 21 9 = nI (if TL < L then la else if L = TL then (if la < Ts then la else Ts) else Ts) ∧ ab_gI h1 21 10 = nI Tm ∧ ab_gI h1 21 11 = nI Tw ∧ zPa h1 24 (if TL < L then r else Tr) ∧ (∀ c i, c ≠ 21 → c ≠ 24 → ab_gI h1 c i = ab_gI h c i) ∧ ∀ c i, ab_gJ h1 c i = ab_gJ h c i := by
    by_cases q1 : TL < L
    · have cp : ∀ (h : ab_H) (K : ab_H → Option ab_R), ab_cp h 23 (nI 0) 24 (nI 0) (nI r.length) K = K (ab_cI h 23 0 24 0 r.length) := fun h K => z_cp (a := 23) (b := 24) (sp := 0) (dp := 0) (n := r.length) rfl rfl (show 0 + r.length ≤ 6 by omega) (show 0 + r.length ≤ 6 by omega) h K
      simp only [if_pos q1]
      refine ⟨ab_cI (ab_sI (ab_sI (ab_sI h 21 8 (nI L)) 21 9 (nI la)) 21 7 (nI r.length)) 23 0 24 0 r.length, ?_, ?_, ?_, ?_, ?_, ?_, zPa_fr r (fun k hk => ?_) p, fun c i c1 c2 => ?_, fun c i => rfl⟩
      · simp (discharger := omega) only [r73, b73_0, b73_13, zd26, zd28, s8', v2, v4, cp, zg_ne, zj_ne, zc_ne, zk_ne, zf_ne, zg_J, zj_I, zc_J, zk_I, zf_J, zg_eq, zg_nj, zj_eq, zj_nj, zf_in, zf_out, zlit, Bool.false_eq_true, zlt_t, zlt_f, zeq_t, zeq_f, nI_add, pk_mul, zb_0, zb_n0, not_true_eq_false, not_false_eq_true, Classical.not_not, if_true, if_false, ite_true, ite_false, and_self, and_true, true_and, and_false, false_and, or_self, or_true, true_or, or_false, false_or, reduceIte]
      · rw [zc_ne (by omega), zg_eq]
      · rw [zc_ne (by omega), zg_nj (by omega), zg_nj (by omega), zg_eq]
      · rw [zc_ne (by omega), zg_nj (by omega), zg_eq]
      · rw [zc_ne (by omega), zg_nj (by omega), zg_nj (by omega), zg_nj (by omega)]; exact s10
      · rw [zc_ne (by omega), zg_nj (by omega), zg_nj (by omega), zg_nj (by omega)]; exact s11
      · rw [zc_in (by omega) (by omega), zg_ne (by omega), zg_ne (by omega), zg_ne (by omega), show 0 + (k - 0) = k by omega]
      · rw [zc_ne c2, zg_ne c1, zg_ne c1, zg_ne c1]
    · simp only [if_neg q1]
      by_cases q2 : L = TL
      · subst q2
        simp only [if_true]
        refine ⟨ab_sI h 21 9 (nI (if la < Ts then la else Ts)), ?_, ?_, ?_, ?_, ?_, ?_, zPa_fr Tr (fun k hk => ?_) sp, fun c i c1 c2 => ?_, fun c i => rfl⟩
        · simp (discharger := omega) only [r73, b73_0, b73_55, b73_68, zd26, zd28, s8', s9, v2, v4, zminn, zg_ne, zj_ne, zc_ne, zk_ne, zf_ne, zg_J, zj_I, zc_J, zk_I, zf_J, zg_eq, zg_nj, zj_eq, zj_nj, zf_in, zf_out, zlit, Bool.false_eq_true, zlt_t, zlt_f, zeq_t, zeq_f, nI_add, pk_mul, zb_0, zb_n0, not_true_eq_false, not_false_eq_true, Classical.not_not, if_true, if_false, ite_true, ite_false, and_self, and_true, true_and, and_false, false_and, or_self, or_true, true_or, or_false, false_or, reduceIte]
        · rw [zg_nj (by omega)]; exact s7
        · rw [zg_nj (by omega)]; exact s8'
        · rw [zg_eq]
        · rw [zg_nj (by omega)]; exact s10
        · rw [zg_nj (by omega)]; exact s11
        · rw [zg_ne (by omega)]
        · rw [zg_ne c1]
      · simp only [if_neg q2]
        refine ⟨h, ?_, s7, s8', s9, s10, s11, sp, fun c i c1 c2 => rfl, fun c i => rfl⟩
        simp (discharger := omega) only [r73, b73_0, b73_55, zd26, s8', v2, zg_ne, zj_ne, zc_ne, zk_ne, zf_ne, zg_J, zj_I, zc_J, zk_I, zf_J, zg_eq, zg_nj, zj_eq, zj_nj, zf_in, zf_out, zlit, Bool.false_eq_true, zlt_t, zlt_f, zeq_t, zeq_f, nI_add, pk_mul, zb_0, zb_n0, not_true_eq_false, not_false_eq_true, Classical.not_not, if_true, if_false, ite_true, ite_false, and_self, and_true, true_and, and_false, false_and, or_self, or_true, true_or, or_false, false_or, reduceIte]
  obtain ⟨h1, e1, t7, t8, t9, t10, t11, tp, f1, fJ⟩ := ph1
  have w3 : ab_gI h1 27 r.length = nI c := (f1 27 _ (by omega) (by omega)).trans v3
  rw [e1]
  unfold zw0
  by_cases q1 : Tm < c
  · refine ⟨ab_sI (ab_sI (ab_sI h1 21 10 (nI c)) 21 11 (nI 0)) 21 11 (nI (0 + 1)), ?_, ⟨?_, ?_, ?_, ?_, ?_, zPa_fr _ (fun k hk => ?_) tp⟩, fun c i c1 c2 => ?_, fun c i => fJ c i⟩
    · simp (discharger := omega) only [b73_85, b73_98, b73_113, b73_126, b73_136, zd27, w3, t10, zg_ne, zj_ne, zc_ne, zk_ne, zf_ne, zg_J, zj_I, zc_J, zk_I, zf_J, zg_eq, zg_nj, zj_eq, zj_nj, zf_in, zf_out, zlit, Bool.false_eq_true, zlt_t, zlt_f, zeq_t, zeq_f, nI_add, pk_mul, zb_0, zb_n0, not_true_eq_false, not_false_eq_true, Classical.not_not, if_true, if_false, ite_true, ite_false, and_self, and_true, true_and, and_false, false_and, or_self, or_true, true_or, or_false, false_or, reduceIte]
    · dsimp only; rw [zg_nj (by omega), zg_nj (by omega), zg_nj (by omega)]; exact t7
    · dsimp only; rw [zg_nj (by omega), zg_nj (by omega), zg_nj (by omega)]; exact t8
    · dsimp only; rw [zg_nj (by omega), zg_nj (by omega), zg_nj (by omega)]; exact t9
    · dsimp only; rw [zg_nj (by omega), zg_nj (by omega), zg_eq, if_pos q1]
    · dsimp only; rw [zg_eq, if_pos q1]
    · rw [zg_ne (by omega), zg_ne (by omega), zg_ne (by omega)]
    · rw [zg_ne c1, zg_ne c1, zg_ne c1]; exact f1 c i c1 c2
  · by_cases q2 : c = Tm
    · subst q2
      refine ⟨ab_sI h1 21 11 (nI (Tw + 1)), ?_, ⟨?_, ?_, ?_, ?_, ?_, zPa_fr _ (fun k hk => ?_) tp⟩, fun c i c1 c2 => ?_, fun c i => fJ c i⟩
      · simp (discharger := omega) only [b73_85, b73_113, b73_126, b73_136, zd27, w3, t10, t11, zg_ne, zj_ne, zc_ne, zk_ne, zf_ne, zg_J, zj_I, zc_J, zk_I, zf_J, zg_eq, zg_nj, zj_eq, zj_nj, zf_in, zf_out, zlit, Bool.false_eq_true, zlt_t, zlt_f, zeq_t, zeq_f, nI_add, pk_mul, zb_0, zb_n0, not_true_eq_false, not_false_eq_true, Classical.not_not, if_true, if_false, ite_true, ite_false, and_self, and_true, true_and, and_false, false_and, or_self, or_true, true_or, or_false, false_or, reduceIte]
      · dsimp only; rw [zg_nj (by omega)]; exact t7
      · dsimp only; rw [zg_nj (by omega)]; exact t8
      · dsimp only; rw [zg_nj (by omega)]; exact t9
      · dsimp only; rw [zg_nj (by omega), if_neg q1]; exact t10
      · dsimp only; rw [zg_eq, if_neg q1, if_pos rfl]
      · rw [zg_ne (by omega)]
      · rw [zg_ne c1]; exact f1 c i c1 c2
    · refine ⟨h1, ?_, ⟨t7, t8, t9, ?_, ?_, tp⟩, f1, fJ⟩
      · simp (discharger := omega) only [b73_85, b73_113, b73_136, zd27, w3, t10, zg_ne, zj_ne, zc_ne, zk_ne, zf_ne, zg_J, zj_I, zc_J, zk_I, zf_J, zg_eq, zg_nj, zj_eq, zj_nj, zf_in, zf_out, zlit, Bool.false_eq_true, zlt_t, zlt_f, zeq_t, zeq_f, nI_add, pk_mul, zb_0, zb_n0, not_true_eq_false, not_false_eq_true, Classical.not_not, if_true, if_false, ite_true, ite_false, and_self, and_true, true_and, and_false, false_and, or_self, or_true, true_or, or_false, false_or, reduceIte]
      · dsimp only; rw [if_neg q1]; exact t10
      · dsimp only; rw [if_neg q1, if_neg q2]; exact t11
/-- the houses of a round as bits -/
def zmk : List Nat → Nat
  | [] => 0
  | a :: r => zmk r ||| 2 ^ a
theorem zmk_s : ∀ m, m < 64 → ∀ a, a < 6 → nI m ||| (nI 1 <<< (nI a &&& nI 31)) = nI (m ||| 2 ^ a) := by decide +kernel
theorem zmk_t : ∀ m, m < 64 → ∀ a, a < 6 → zB (nI m) (nI a) = m.testBit a := by decide +kernel
theorem zmk_lt {N : Nat} (hN : N ≤ 6) : ∀ r, zok N r = true → zmk r < 64
  | [], _ => by decide
  | a :: r, hk => by
    obtain ⟨h1, h2, h3⟩ := zok_c.mp hk
    have h4 : 2 ^ a < 2 ^ 6 := Nat.pow_lt_pow_right (by omega) (by omega)
    exact Nat.or_lt_two_pow (n := 6) (zmk_lt hN r h3) h4
theorem zmk_b : ∀ (r : List Nat) (a : Nat), (zmk r).testBit a = zmem a r
  | [], a => Nat.zero_testBit a
  | b :: r, a => by
    show (zmk r ||| 2 ^ b).testBit a = (Nat.beq a b || zmem a r)
    rw [Nat.testBit_or, zmk_b r a, Nat.testBit_two_pow, Bool.or_comm]
    congr 1
    by_cases e : b = a
    · subst e; rw [Nat.beq_refl]; exact decide_eq_true rfl
    · rw [decide_eq_false e]
      cases q : Nat.beq a b with
      | false => rfl
      | true => exact absurd (Nat.eq_of_beq_eq_true q).symm e
theorem zmk_B {N a : Nat} {r : List Nat} (hN : N ≤ 6) (hr : zok N r = true) (ha : a < 6) : zB (nI (zmk r)) (nI a) = zmem a r := by
  rw [zmk_t _ (zmk_lt hN r hr) a ha, zmk_b]
/-- what the search reads and never writes -/
def zFx (h : ab_H) (N : Nat) (e : Nat → Int32) (D : Nat → Nat) : Prop := ab_gI h 41 7 = nI N ∧ (∀ i, i < N → ab_gI h 22 i = e i) ∧ ∀ i, i < N → ab_gI h 45 i = nI (D i)
theorem zFx_fr {n N : Nat} {h h' : ab_H} {e : Nat → Int32} {D : Nat → Nat} (f : zFg n h h') (x : zFx h N e D) : zFx h' N e D := ⟨(f.1 41 7 (by omega)).trans x.1, fun i hi => (f.1 22 i (by omega)).trans (x.2.1 i hi), fun i hi => (f.1 45 i (by omega)).trans (x.2.2 i hi)⟩
theorem s73v (X : ab_X) (d : Nat) {N : Nat} {e : Nat → Int32} {D : Nat → Nat} (hN : N ≤ 6) (hD : ∀ i, i < N → D i ≤ 99) {r : List Nat} {T : zT} (hl : r.length ≤ 6) (hk : zok N r = true) (b : zTb N T) {h : ab_H} (v : zAv h e D r) (p : zPa h 23 r) (st : zSt h T) :
    ∃ h', ab_ru X d 73 [.ref 21, .int (nI r.length)] h = some (none, h') ∧ zSt h' (zw1 e D T r) ∧ zTb N (zw1 e D T r) ∧ zFg r.length h h' := by
  obtain ⟨v1, v2, v3, v4⟩ := zAv_top v
  obtain ⟨b1, b2, b3, b4, b5⟩ := zvv_b (e := e) hN hD r hk
  obtain ⟨h', e1, e2, e3, e4⟩ := s73 X d hl (show (zvv e D r).2.2.1 ≤ 600 by omega) (show (zvv e D r).2.2.2.1 ≤ 6 by omega) (show (zvv e D r).2.2.2.2.1 ≤ 12 by omega) b v2 v3 v4 p st
  exact ⟨h', e1, e2, zw0_b b hk hl (by omega) (by omega) (by omega), fun c i hc => e3 c i (by omega) (by omega), fun k _ => e3 23 k (by omega) (by omega), fun c k h1 h2 _ => e3 c k (by omega) (by omega), e4⟩
set_option maxHeartbeats 1000000 in
theorem s72 (X : ab_X) (d : Nat) {N : Nat} {e : Nat → Int32} {D : Nat → Nat} (hN : N ≤ 6) (hD : ∀ i, i < N → D i ≤ 99) : ∀ (f : Nat) (r : List Nat) (T : zT) (h : ab_H), r.length + f = 6 → zok N r = true → zFx h N e D → zPa h 23 r → zAv h e D r → zSt h T → zTb N T → ∃ h', ab_ru X (d + f + 2) 72 [.ref 21, .ref 41, .int (nI r.length), .int (nI (zmk r))] h = some (none, h') ∧ zSt h' ((zpre N f r).foldl (zw1 e D) T) ∧ zTb N ((zpre N f r).foldl (zw1 e D) T) ∧ zFg r.length h h' := by
  intro f
  induction f with
  | zero =>
    intro r T h hl hk x p v st b
    obtain ⟨h1, e1, st1, b1, f1⟩ := s73v X (d + 1) hN hD (by omega) hk b v p st
    refine ⟨h1, ?_, st1, b1, f1⟩
    show ab_ru X (d + 1 + 1) 72 _ h = _
    rw [r72, b72_0, e1]
    simp only [zpu_s, zpu_n, Option.bind_some]
    rw [b72_5, zlit 6, if_neg (nI_nlt (b := 6) (by omega) (by omega)), b72_11]
  | succ f ih =>
    intro r T h hl hk x p v st b
    obtain ⟨h1, e1, st1, b1, f1⟩ := s73v X (d + f + 2) hN hD (by omega) hk b v p st
    obtain ⟨z, e, p1, p2, p3⟩ := zloopP (fun k (z : ab_H) => zSt z ((zchl (fun x => zpre N f (x :: r)) r k).foldl (zw1 e D) (zw1 e D T r)) ∧ zTb N ((zchl (fun x => zpre N f (x :: r)) r k).foldl (zw1 e D) (zw1 e D T r)) ∧ zFg r.length h z) (fun z k => ab_ex X (d + f + 2 + 1) 72 15 [.ref 21, .ref 41, .int (nI r.length), .int (nI (zmk r)), .int (nI k)] [] z) N (fun k z hk' hP => by
      obtain ⟨p1, p2, p3⟩ := hP
      have x' := zFx_fr p3 x
      have hB := zmk_B hN hk (show k < 6 by omega)
      show ∃ b, _ = _ ∧ zSt b ((zchl (fun x => zpre N f (x :: r)) r k ++ (if zmem k r = true then [] else zpre N f (k :: r))).foldl (zw1 e D) (zw1 e D T r)) ∧ zTb N ((zchl (fun x => zpre N f (x :: r)) r k ++ (if zmem k r = true then [] else zpre N f (k :: r))).foldl (zw1 e D) (zw1 e D T r)) ∧ zFg r.length h b
      by_cases hm : zmem k r = true
      · refine ⟨z, ?_, ?_, ?_, p3⟩
        · rw [l72_15, x'.1, if_pos (nI_lt hk' (by omega)), b72_24, s39, hB]
          simp only [zpu_s, zpu_n, Option.bind_some, b72_30, zb_0, hm, not_true_eq_false, if_false, b72_61, nI_1]
        · rw [if_pos hm, List.append_nil]; exact p1
        · rw [if_pos hm, List.append_nil]; exact p2
      · have hm' : zmem k r = false := by simpa using hm
        have pz := zPa_fr (h' := z) (c' := 23) r (fun i hi => p3.2.1 i hi) p
        have vz := zAv_fr (h' := z) r (fun c i h1 h2 h3 => p3.2.2.1 c i h1 h2 h3) v
        obtain ⟨z1, a1, a2, a3, a4, a5, a6⟩ := s74 X (d + f + 1) hN hD hk (by omega) hk' (x'.2.1 k hk') pz vz
        have a1' : ab_ru X (d + f + 2) 74 [.ref 21, .int (nI r.length), .int (nI k), .int (nI (D k))] z = some (none, z1) := a1
        have st2 : zSt z1 ((zchl (fun x => zpre N f (x :: r)) r k).foldl (zw1 e D) (zw1 e D T r)) := by
          obtain ⟨s7, s8', s9, s10, s11, sp⟩ := p1
          exact ⟨(a5 _).trans s7, (a5 _).trans s8', (a5 _).trans s9, (a5 _).trans s10, (a5 _).trans s11, zPa_fr _ (fun i _ => a6 i) sp⟩
        obtain ⟨z2, c1, c2, c3, c4⟩ := ih (k :: r) _ z1 (by rw [List.length_cons]; omega) (zok_c.mpr ⟨hk', hm', hk⟩) (zFx_fr a4 x') a2 a3 st2 p2
        refine ⟨z2, ?_, ?_, ?_, ?_⟩
        · have c1' : ab_ru X (d + f + 2) 72 [.ref 21, .ref 41, .int (nI (r.length + 1)), .int (nI (zmk r) ||| (1 <<< (nI k &&& 31)))] z1 = some (none, z2) := by
            rw [show nI (zmk r) ||| (1 <<< (nI k &&& 31)) = nI (zmk (k :: r)) from zmk_s _ (zmk_lt hN r hk) k (by omega)]
            exact c1
          rw [l72_15, x'.1, if_pos (nI_lt hk' (by omega)), b72_24, s39, hB]
          simp only [zpu_s, zpu_n, Option.bind_some, b72_30, zb_0, hm, Bool.false_eq_true, not_false_eq_true, if_true]
          rw [b72_33, zd45 (by omega), x'.2.2 k hk', a1']
          simp only [zpu_s, zpu_n, Option.bind_some]
          rw [b72_47, nI_1, c1']
          simp only [zpu_s, zpu_n, Option.bind_some, b72_61, nI_1]
        · rw [if_neg hm, List.foldl_append]; exact c2
        · rw [if_neg hm, List.foldl_append]; exact c3
        · exact zFg_trans (Nat.le_refl _) p3 (zFg_trans (Nat.le_refl _) a4 ⟨c4.1, fun i hi => c4.2.1 i (by rw [List.length_cons]; omega), fun c i h1 h2 h3 => c4.2.2.1 c i h1 h2 (by rw [List.length_cons]; omega), c4.2.2.2⟩)) h1 ⟨st1, b1, f1⟩
    refine ⟨z, ?_, p1, p2, p3⟩
    show ab_ru X (d + f + 2 + 1) 72 _ h = _
    rw [r72, b72_0, e1]
    simp only [zpu_s, zpu_n, Option.bind_some]
    rw [b72_5, zlit 6, if_pos (nI_lt (b := 6) (by omega) (by omega)), b72_12]
    refine Eq.trans (show _ = ab_ex X (d + f + 2 + 1) 72 15 [.ref 21, .ref 41, .int (nI r.length), .int (nI (zmk r)), .int (nI 0)] [] h1 from rfl) ?_
    refine Eq.trans e ?_
    rw [l72_15, (zFx_fr p3 x).1, if_neg (nI_nlt (by omega) (by omega)), b72_67]
/-- all rounds weighed -/
def zTT (h : ab_H) (N : Nat) : zT := (zpre N 6 []).foldl (zw1 (zEm h) (zdn h)) ([], 0, 0, 0, 0)
theorem s71 (X : ab_X) (d : Nat) {N : Nat} (hN : N ≤ 6) {h : ab_H} (n2 : ab_gI h 41 7 = nI N) (k1 : ∀ i, i < N → ab_gI h 42 i = ab_gI h 30 (2 + i)) (k2 : ∀ i, i < N → ab_gI h 43 i = ab_gI h 30 (8 + i)) (k3 : ∀ i, i < N → ab_gI h 47 i = ab_gI h 30 (14 + i)) (k4 : ∀ i, i < N → ab_gI h 45 i = ab_gI h 30 (20 + i)) (t1 : ∀ i, i < N → ∃ k, k < 6 ∧ ab_gI h 30 (2 + i) = nI k) (t4 : ∀ i, i < N → ∃ q, q ≤ 99 ∧ ab_gI h 30 (20 + i) = nI q) (sea : zI_sea h) :
    ∃ h', ab_ru X (d + 10) 71 [.ref 21, .ref 41] h = some (none, h') ∧ zSt h' (zTT h N) ∧ zTb N (zTT h N) ∧ (∀ c i, (c < 21 ∨ 28 < c) → ab_gI h' c i = ab_gI h c i) ∧ (∀ c, 25 ≤ c → c ≤ 28 → ab_gI h' c 0 = ab_gI h c 0) ∧ ∀ c i, ab_gJ h' c i = ab_gJ h c i := by
  have e48 := s48 X (d + 7) hN (B := 22) rfl (by omega) (nI 1) rfl (h := h) (h0 := h) n2 k1 k2 k3 t1
  generalize hh : zput h 22 (fun i => if i < N then zEm h i else ab_gI h 22 i) = h1 at e48
  have g : ∀ c i, c ≠ 22 → ab_gI h1 c i = ab_gI h c i := fun c i hc => by rw [← hh, zput_ne hc]
  have gJ : ∀ c i, ab_gJ h1 c i = ab_gJ h c i := fun c i => by rw [← hh]; rfl
  generalize hh2 : ab_sI (ab_sI (ab_sI (ab_sI (ab_sI h1 21 7 (nI 0)) 21 8 (nI 0)) 21 9 (nI 0)) 21 10 (nI 0)) 21 11 (nI 0) = h2
  have g2 : ∀ c i, c ≠ 21 → ab_gI h2 c i = ab_gI h1 c i := fun c i hc => by rw [← hh2, zg_ne hc, zg_ne hc, zg_ne hc, zg_ne hc, zg_ne hc]
  have gJ2 : ∀ c i, ab_gJ h2 c i = ab_gJ h1 c i := fun c i => by rw [← hh2]; rfl
  have hdn := zdn_get t4
  obtain ⟨q1, q2, q3, q4⟩ := sea
  obtain ⟨h3, a1, a2, a3, a4⟩ := s72 X (d + 1) (e := zEm h) (D := zdn h) hN (fun i hi => (hdn i hi).1) 6 [] ([], 0, 0, 0, 0) h2 rfl rfl ⟨by rw [g2 _ _ (by omega), g _ _ (by omega)]; exact n2, fun i hi => by rw [g2 _ _ (by omega), ← hh, zput_same, if_pos hi], fun i hi => by rw [g2 _ _ (by omega), g _ _ (by omega), k4 i hi]; exact (hdn i hi).2⟩ trivial ⟨by rw [g2 _ _ (by omega), g _ _ (by omega)]; exact q1, by rw [g2 _ _ (by omega), g _ _ (by omega)]; exact q2, by rw [g2 _ _ (by omega), g _ _ (by omega)]; exact q3, by rw [g2 _ _ (by omega), g _ _ (by omega)]; exact q4⟩ ⟨by rw [← hh2, zg_nj (by omega), zg_nj (by omega), zg_nj (by omega), zg_nj (by omega), zg_eq]; rfl, by rw [← hh2, zg_nj (by omega), zg_nj (by omega), zg_nj (by omega), zg_eq], by rw [← hh2, zg_nj (by omega), zg_nj (by omega), zg_eq], by rw [← hh2, zg_nj (by omega), zg_eq], by rw [← hh2, zg_eq], trivial⟩ ⟨rfl, Nat.zero_le _, Nat.zero_le _, Nat.zero_le _, Nat.zero_le _⟩
  refine ⟨h3, ?_, a2, a3, fun c i hc => ?_, fun c b1 b2 => ?_, fun c i => ?_⟩
  · have a1' : ab_ru X (d + 9) 72 [.ref 21, .ref 41, .int (nI 0), .int (nI 0)] h2 = some (none, h3) := a1
    have e48' : ab_ru X (d + 9) 48 [.ref 41, .ref 22, .int (nI 1)] h = some (none, h1) := e48
    simp only [r71, b71_0, b71_9, b71_41, zlit, e48', hh2, a1', zpu_s, zpu_n, Option.bind_some]
  · rw [a4.1 c i (by omega), g2 c i (by omega), g c i (by omega)]
  · rw [a4.2.2.1 c 0 b1 b2 (Nat.zero_le _), g2 c 0 (by omega), g c 0 (by omega)]
  · rw [a4.2.2.2, gJ2, gJ]
