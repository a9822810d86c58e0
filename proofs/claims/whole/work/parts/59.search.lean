/-! the best round: along a round, at the class -/
/-- hour, place, letters, houses that got some, the last hour of some, those houses as bits -/
abbrev zV : Type := Nat × Nat × Nat × Nat × Nat × Nat
def zsm (e : Nat → Int32) (D : Nat → Nat) (a t : Nat) : Bool := decide (0 < D a) && (decide (t < 12) && zB (e a) (nI t))
theorem zsm_t {e : Nat → Int32} {D : Nat → Nat} {a t : Nat} : zsm e D a t = true ↔ 0 < D a ∧ t < 12 ∧ zB (e a) (nI t) = true := by
  unfold zsm
  rw [Bool.and_eq_true, Bool.and_eq_true, decide_eq_true_iff, decide_eq_true_iff]
def zv1 (e : Nat → Int32) (D : Nat → Nat) (a : Nat) (s : zV) : zV :=
  if zsm e D a (s.1 + zdist s.2.1 a) = true then (s.1 + zdist s.2.1 a, a, s.2.2.1 + D a, s.2.2.2.1 + 1, s.1 + zdist s.2.1 a, s.2.2.2.2.2 ||| 2 ^ a) else (s.1 + zdist s.2.1 a, a, s.2.2)
def zvv (e : Nat → Int32) (D : Nat → Nat) : List Nat → zV
  | [] => (0, 0, 0, 0, 0, 0)
  | a :: r => zv1 e D a (zvv e D r)
theorem zok_c {N a : Nat} {r : List Nat} : zok N (a :: r) = true ↔ a < N ∧ zmem a r = false ∧ zok N r = true := by
  show (Nat.blt a N && (!zmem a r && zok N r)) = true ↔ _
  rw [Bool.and_eq_true, Bool.and_eq_true, Nat.blt_eq, Bool.not_eq_true']
theorem zvv_b {e : Nat → Int32} {D : Nat → Nat} {N : Nat} (hN : N ≤ 6) (hD : ∀ i, i < N → D i ≤ 99) : ∀ r, zok N r = true → (zvv e D r).1 ≤ 5 * r.length ∧ (zvv e D r).2.1 < 6 ∧ (zvv e D r).2.2.1 ≤ 99 * r.length ∧ (zvv e D r).2.2.2.1 ≤ r.length ∧ (zvv e D r).2.2.2.2.1 < 12
  | [], _ => ⟨Nat.le_refl _, (by decide : (0 : Nat) < 6), Nat.le_refl _, Nat.le_refl _, (by decide : (0 : Nat) < 12)⟩
  | a :: r, hk => by
    obtain ⟨h1, h2, h3⟩ := zok_c.mp hk
    obtain ⟨b1, b2, b3, b4, b5⟩ := zvv_b (e := e) hN hD r h3
    have hd := zdist_lt b2 (show a < 6 by omega)
    have hDa := hD a h1
    show (zv1 e D a (zvv e D r)).1 ≤ _ ∧ (zv1 e D a (zvv e D r)).2.1 < 6 ∧ (zv1 e D a (zvv e D r)).2.2.1 ≤ _ ∧ (zv1 e D a (zvv e D r)).2.2.2.1 ≤ _ ∧ (zv1 e D a (zvv e D r)).2.2.2.2.1 < 12
    rw [List.length_cons]
    unfold zv1
    split
    · rename_i hs
      have hs2 := (zsm_t.mp hs).2.1
      refine ⟨?_, ?_, ?_, ?_, ?_⟩ <;> dsimp only <;> omega
    · refine ⟨?_, ?_, ?_, ?_, ?_⟩ <;> dsimp only <;> omega
theorem zvv_pl (e : Nat → Int32) (D : Nat → Nat) (a : Nat) (r : List Nat) : (zvv e D (a :: r)).2.1 = a := by
  show (zv1 e D a (zvv e D r)).2.1 = a
  unfold zv1
  split <;> rfl
/-- a row that holds a round, whose last stop is the list's first -/
def zPa (h : ab_H) (c : Nat) : List Nat → Prop
  | [] => True
  | a :: r => ab_gI h c r.length = nI a ∧ zPa h c r
theorem zPa_fr {h h' : ab_H} {c c' : Nat} : ∀ r : List Nat, (∀ k, k < r.length → ab_gI h' c' k = ab_gI h c k) → zPa h c r → zPa h' c' r
  | [], _, _ => trivial
  | a :: r, e, p => ⟨(e r.length (by rw [List.length_cons]; omega)).trans p.1, zPa_fr r (fun k hk => e k (by rw [List.length_cons]; omega)) p.2⟩
/-- what the search holds of the rounds that lead to this one -/
def zAv (h : ab_H) (e : Nat → Int32) (D : Nat → Nat) : List Nat → Prop
  | [] => ab_gI h 25 0 = nI 0 ∧ ab_gI h 26 0 = nI 0 ∧ ab_gI h 27 0 = nI 0 ∧ ab_gI h 28 0 = nI 0
  | a :: r => (ab_gI h 25 (r.length + 1) = nI (zvv e D (a :: r)).1 ∧ ab_gI h 26 (r.length + 1) = nI (zvv e D (a :: r)).2.2.1 ∧ ab_gI h 27 (r.length + 1) = nI (zvv e D (a :: r)).2.2.2.1 ∧ ab_gI h 28 (r.length + 1) = nI (zvv e D (a :: r)).2.2.2.2.1) ∧ zAv h e D r
theorem zAv_top {h : ab_H} {e : Nat → Int32} {D : Nat → Nat} : ∀ {r : List Nat}, zAv h e D r → ab_gI h 25 r.length = nI (zvv e D r).1 ∧ ab_gI h 26 r.length = nI (zvv e D r).2.2.1 ∧ ab_gI h 27 r.length = nI (zvv e D r).2.2.2.1 ∧ ab_gI h 28 r.length = nI (zvv e D r).2.2.2.2.1
  | [], p => p
  | _ :: _, p => p.1
theorem zAv_fr {h h' : ab_H} {e : Nat → Int32} {D : Nat → Nat} : ∀ r : List Nat, (∀ c k, 25 ≤ c → c ≤ 28 → k ≤ r.length → ab_gI h' c k = ab_gI h c k) → zAv h e D r → zAv h' e D r
  | [], g, p => by
    obtain ⟨p1, p2, p3, p4⟩ := p
    exact ⟨(g 25 0 (by omega) (by omega) (Nat.zero_le _)).trans p1, (g 26 0 (by omega) (by omega) (Nat.zero_le _)).trans p2, (g 27 0 (by omega) (by omega) (Nat.zero_le _)).trans p3, (g 28 0 (by omega) (by omega) (Nat.zero_le _)).trans p4⟩
  | a :: r, g, p => by
    obtain ⟨⟨p1, p2, p3, p4⟩, p5⟩ := p
    exact ⟨⟨(g 25 _ (by omega) (by omega) (Nat.le_refl _)).trans p1, (g 26 _ (by omega) (by omega) (Nat.le_refl _)).trans p2, (g 27 _ (by omega) (by omega) (Nat.le_refl _)).trans p3, (g 28 _ (by omega) (by omega) (Nat.le_refl _)).trans p4⟩, zAv_fr r (fun c k h1 h2 h3 => g c k h1 h2 (by rw [List.length_cons]; omega)) p5⟩
/-- alike but for what the search writes behind n stops -/
def zFg (n : Nat) (h h' : ab_H) : Prop := (∀ c i, (c < 21 ∨ c = 22 ∨ 28 < c) → ab_gI h' c i = ab_gI h c i) ∧ (∀ k, k < n → ab_gI h' 23 k = ab_gI h 23 k) ∧ (∀ c k, 25 ≤ c → c ≤ 28 → k ≤ n → ab_gI h' c k = ab_gI h c k) ∧ ∀ c i, ab_gJ h' c i = ab_gJ h c i
theorem zFg_trans {n m : Nat} {h h' h'' : ab_H} (hm : n ≤ m) (a : zFg n h h') (b : zFg m h' h'') : zFg n h h'' := ⟨fun c i hc => (b.1 c i hc).trans (a.1 c i hc), fun k hk => (b.2.1 k (by omega)).trans (a.2.1 k hk), fun c k h1 h2 h3 => (b.2.2.1 c k h1 h2 (by omega)).trans (a.2.2.1 c k h1 h2 h3), fun c i => (b.2.2.2 c i).trans (a.2.2.2 c i)⟩
theorem zFg_refl (n : Nat) (h : ab_H) : zFg n h h := ⟨fun _ _ _ => rfl, fun _ _ => rfl, fun _ _ _ _ _ => rfl, fun _ _ => rfl⟩
theorem zg_no {i j : Nat} (hj : j ≠ i) (h : ab_H) (k c : Nat) (x : Int32) : ab_gI (ab_sI h k i x) c j = ab_gI h c j := by
  by_cases e : c = k
  · subst e; exact zg_nj hj _ _ _
  · exact zg_ne e _ _ _ _
/-- one stop more: the numbers alone -/
theorem s74g (X : ab_X) (d : Nat) {e : Nat → Int32} {D : Nat → Nat} {a n t p L c la t' : Nat} (hn : n < 6) (ha : a < 6) (hp : p < 6) (ht : t ≤ 30) (hL : L ≤ 600) (hc : c ≤ 6) (hDa : D a ≤ 99) (ht' : t' = t + zdist p a) {h : ab_H} (he : ab_gI h 22 a = e a) (v1 : ab_gI h 25 n = nI t) (v2 : ab_gI h 26 n = nI L) (v3 : ab_gI h 27 n = nI c) (v4 : ab_gI h 28 n = nI la) :
    ab_ex X (d + 1) 74 16 [.ref 21, .int (nI n), .int (nI a), .int (nI (D a)), .null, .null, .null] [.int (nI p)] h = some (none, ab_sI (ab_sI (ab_sI (ab_sI (ab_sI h 23 n (nI a)) 25 (n + 1) (nI t')) 26 (n + 1) (nI (if zsm e D a t' = true then L + D a else L))) 27 (n + 1) (nI (if zsm e D a t' = true then c + 1 else c))) 28 (n + 1) (nI (if zsm e D a t' = true then t' else la))) := by
  have hd := zdist_lt hp ha
  have ha1 : ab_abs (nI a - nI p) = nI (zdist p a) := zabs (by omega) (by omega)
  have w64 : ∀ (v4' : Value) (y : Nat), y = (if zsm e D a t' = true then 1 else 0) → ab_ex X (d + 1) 74 64 [.ref 21, .int (nI n), .int (nI a), .int (nI (D a)), v4', .int (nI t'), .null] [.int (nI y)] h = some (none, ab_sI (ab_sI (ab_sI (ab_sI (ab_sI h 23 n (nI a)) 25 (n + 1) (nI t')) 26 (n + 1) (nI (if zsm e D a t' = true then L + D a else L))) 27 (n + 1) (nI (if zsm e D a t' = true then c + 1 else c))) 28 (n + 1) (nI (if zsm e D a t' = true then t' else la))) := by
    intro v4' y hy
    subst hy
    by_cases hs : zsm e D a t' = true
    · simp only [if_pos hs]
      simp (discharger := omega) only [b74_64, zs23, zs25, b74_95, zd26, b74_112, zs26, b74_125, zd27, b74_142, zs27, b74_155, b74_166, zs28, zg_ne, zj_ne, zc_ne, zk_ne, zf_ne, zg_J, zj_I, zc_J, zk_I, zf_J, zg_eq, zg_nj, zj_eq, zj_nj, zf_in, zf_out, zlit, Bool.false_eq_true, zlt_t, zlt_f, zeq_t, zeq_f, nI_add, pk_mul, zb_0, zb_n0, not_true_eq_false, not_false_eq_true, Classical.not_not, if_true, if_false, ite_true, ite_false, and_self, and_true, true_and, and_false, false_and, or_self, or_true, true_or, or_false, false_or, reduceIte, v2, v3]
    · simp only [if_neg hs]
      simp (discharger := omega) only [b74_64, zs23, zs25, b74_106, zd26, b74_112, zs26, b74_136, zd27, b74_142, zs27, b74_160, zd28, b74_166, zs28, zg_ne, zj_ne, zc_ne, zk_ne, zf_ne, zg_J, zj_I, zc_J, zk_I, zf_J, zg_eq, zg_nj, zj_eq, zj_nj, zf_in, zf_out, zlit, Bool.false_eq_true, zlt_t, zlt_f, zeq_t, zeq_f, nI_add, pk_mul, zb_0, zb_n0, not_true_eq_false, not_false_eq_true, Classical.not_not, if_true, if_false, ite_true, ite_false, and_self, and_true, true_and, and_false, false_and, or_self, or_true, true_or, or_false, false_or, reduceIte, v2, v3, v4]
  rw [b74_16, zd25 (by omega), v1, ha1, nI_add, ← ht', zlit 0]
  by_cases h0 : 0 < D a
  · rw [if_pos (nI_lt (a := 0) h0 (by omega)), b74_38, zlit 12]
    by_cases h1 : t' < 12
    · rw [if_pos (nI_lt (b := 12) h1 (by omega)), b74_45, zd22 (by omega), s39, he]
      simp only [zpu_s, zpu_n, Option.bind_some, b74_56, zb_0]
      by_cases h2 : zB (e a) (nI t') = true
      · rw [if_neg (fun z => z h2), b74_59]
        exact w64 _ 1 (by rw [if_pos (zsm_t.mpr ⟨h0, h1, h2⟩)])
      · rw [if_pos h2, b74_63]
        exact w64 _ 0 (by rw [if_neg (fun z => h2 (zsm_t.mp z).2.2)])
    · rw [if_neg (nI_nlt (b := 12) (by omega) (by omega)), b74_63]
      exact w64 _ 0 (by rw [if_neg (fun z => h1 (zsm_t.mp z).2.1)])
  · rw [if_neg (nI_nlt (b := D a) (a := 0) (by omega) (by omega)), b74_63]
    exact w64 _ 0 (by rw [if_neg (fun z => h0 (zsm_t.mp z).1)])
theorem s74 (X : ab_X) (d : Nat) {e : Nat → Int32} {D : Nat → Nat} {N a : Nat} {r : List Nat} (hN : N ≤ 6) (hD : ∀ i, i < N → D i ≤ 99) (hr : zok N r = true) (hl : r.length < 6) (ha : a < N) {h : ab_H} (he : ab_gI h 22 a = e a) (p : zPa h 23 r) (v : zAv h e D r) :
    ∃ h', ab_ru X (d + 1) 74 [.ref 21, .int (nI r.length), .int (nI a), .int (nI (D a))] h = some (none, h') ∧ zPa h' 23 (a :: r) ∧ zAv h' e D (a :: r) ∧ zFg r.length h h' ∧ (∀ i, ab_gI h' 21 i = ab_gI h 21 i) ∧ ∀ i, ab_gI h' 24 i = ab_gI h 24 i := by
  obtain ⟨v1, v2, v3, v4⟩ := zAv_top v
  obtain ⟨b1, b2, b3, b4, b5⟩ := zvv_b (e := e) hN hD r hr
  have hDa := hD a ha
  have key := s74g X d (e := e) (D := D) (a := a) (p := (zvv e D r).2.1) (L := (zvv e D r).2.2.1) hl (by omega) b2 (show (zvv e D r).1 ≤ 30 by omega) (by omega) (by omega) hDa rfl he v1 v2 v3 v4
  have e0 : ab_ru X (d + 1) 74 [.ref 21, .int (nI r.length), .int (nI a), .int (nI (D a))] h = ab_ex X (d + 1) 74 16 [.ref 21, .int (nI r.length), .int (nI a), .int (nI (D a)), .null, .null, .null] [.int (nI (zvv e D r).2.1)] h := by
    cases r with
    | nil => rw [r74, b74_0, zlit 0, List.length_nil, if_pos rfl, b74_4]; rfl
    | cons b r =>
      rw [List.length_cons] at hl
      rw [r74, b74_0, List.length_cons, zlit 0, if_neg (fun z => by have := (nI_eq (b := 0) (by omega) (by omega)).mp z; omega), b74_8, nI_pred, zd23 (by omega), p.1, zvv_pl]
  rw [key] at e0
  have g1 : (zvv e D (a :: r)).1 = (zvv e D r).1 + zdist (zvv e D r).2.1 a := by
    show (zv1 e D a (zvv e D r)).1 = _
    unfold zv1
    split <;> rfl
  have g2 : (zvv e D (a :: r)).2.2.1 = if zsm e D a ((zvv e D r).1 + zdist (zvv e D r).2.1 a) = true then (zvv e D r).2.2.1 + D a else (zvv e D r).2.2.1 := by
    show (zv1 e D a (zvv e D r)).2.2.1 = _
    unfold zv1
    split <;> rfl
  have g3 : (zvv e D (a :: r)).2.2.2.1 = if zsm e D a ((zvv e D r).1 + zdist (zvv e D r).2.1 a) = true then (zvv e D r).2.2.2.1 + 1 else (zvv e D r).2.2.2.1 := by
    show (zv1 e D a (zvv e D r)).2.2.2.1 = _
    unfold zv1
    split <;> rfl
  have g4 : (zvv e D (a :: r)).2.2.2.2.1 = if zsm e D a ((zvv e D r).1 + zdist (zvv e D r).2.1 a) = true then (zvv e D r).1 + zdist (zvv e D r).2.1 a else (zvv e D r).2.2.2.2.1 := by
    show (zv1 e D a (zvv e D r)).2.2.2.2.1 = _
    unfold zv1
    split <;> rfl
  rw [← g2, ← g3, ← g4, ← g1] at e0
  refine ⟨_, e0, ⟨?_, zPa_fr r (fun k hk => ?_) p⟩, ⟨⟨?_, ?_, ?_, ?_⟩, zAv_fr r (fun c k h1 h2 h3 => ?_) v⟩, ⟨fun c i hc => ?_, fun k hk => ?_, fun c k h1 h2 h3 => ?_, fun c i => ?_⟩, fun i => ?_, fun i => ?_⟩
  · rw [zg_ne (by omega), zg_ne (by omega), zg_ne (by omega), zg_ne (by omega), zg_eq]
  · rw [zg_ne (by omega), zg_ne (by omega), zg_ne (by omega), zg_ne (by omega), zg_nj (by omega)]
  · rw [zg_ne (by omega), zg_ne (by omega), zg_ne (by omega), zg_eq]
  · rw [zg_ne (by omega), zg_ne (by omega), zg_eq]
  · rw [zg_ne (by omega), zg_eq]
  · rw [zg_eq]
  · rw [zg_no (by omega), zg_no (by omega), zg_no (by omega), zg_no (by omega), zg_ne (by omega)]
  · rw [zg_ne (by omega), zg_ne (by omega), zg_ne (by omega), zg_ne (by omega), zg_ne (by omega)]
  · rw [zg_ne (by omega), zg_ne (by omega), zg_ne (by omega), zg_ne (by omega), zg_nj (by omega)]
  · rw [zg_no (by omega), zg_no (by omega), zg_no (by omega), zg_no (by omega), zg_ne (by omega)]
  · rfl
  · rw [zg_ne (by omega), zg_ne (by omega), zg_ne (by omega), zg_ne (by omega), zg_ne (by omega)]
  · rw [zg_ne (by omega), zg_ne (by omega), zg_ne (by omega), zg_ne (by omega), zg_ne (by omega)]
