/-! the best round: each round tried by the reference -/
theorem s163 (X : ab_X) (d : Nat) {N : Nat} (hN : N ≤ 6) {r : List Nat} (hl : r.length ≤ 6) (hk : zok N r = true) {h : ab_H} {e : Nat → Int32} {D : Nat → Nat} (n5 : ab_gI h 30 0 = nI N) (ln : zLn h r) (he : ∀ i, i < N → ab_gI h 38 i = e i) (hD : ∀ i, i < N → D i ≤ 99 ∧ ab_gI h 30 (20 + i) = nI (D i)) :
    ∃ h', ab_ru X (d + 2) 163 [.ref 29] h = some (none, h') ∧ zLn h' r ∧ zFs h h' ∧ (∀ i, ab_gI h' 38 i = ab_gI h 38 i) ∧ ab_gI h' 29 18 = nI (zvv e D r).2.2.1 ∧ ab_gI h' 29 19 = nI (zvv e D r).2.2.2.2.2 ∧ ab_gI h' 29 20 = nI (zvv e D r).2.2.2.2.1 := by
  obtain ⟨l1, l2, l3⟩ := ln
  obtain ⟨E, e1, hE⟩ := zloopP (fun k (E : Nat → Int32) => ∀ i, i < k → E i = ab_gI h 30 (20 + i)) (fun E k => ab_ex X (d + 2) 163 2 [.ref 29, .int (nI k)] [] (zput h 39 E)) N (fun k E hk hP => by
    refine ⟨upd E k (ab_gI h 30 (20 + k)), ?_, fun i hi => ?_⟩
    · rw [l163_2, zd30', zput_ne (by omega), n5, if_pos (nI_lt hk (by omega)), b163_12, show (20 : Int32) + nI k = nI (20 + k) from nI_add 20 k, zd30 (by omega), zput_ne (by omega), zs39 (by omega), zput_s, nI_1]
    · unfold upd
      by_cases q : i = k
      · rw [if_pos q, q]
      · rw [if_neg q]; exact hP i (by omega)) (fun i => ab_gI h 39 i) (fun i hi => by omega)
  generalize hh : zput h 39 E = h1 at e1
  have g : ∀ c i, c ≠ 39 → ab_gI h1 c i = ab_gI h c i := fun c i hc => by rw [← hh, zput_ne hc]
  have g39 : ∀ i, ab_gI h1 39 i = E i := fun i => by rw [← hh, zput_same]
  have key := zloopI (fun k (s : zM) => s.1.1 ≤ 5 * k ∧ s.1.2.1 < 6) (fun s k => ab_ex X (d + 2) 163 39 [.ref 29, .int (nI k)] [] (zmh h1 s)) (fun k s => zgm1 (fun i => ab_gI h1 38 i) (zat r k) s) r.length (fun k s hk' hP => by
    have q1 : zat r k < 6 := by have := zat_lt hk k hk'; omega
    refine ⟨?_, zgo1_b q1 hP.1 hP.2⟩
    have hP1 := hP.1
    have e40 : ab_gI (zmh h1 s) 40 k = nI (zat r k) := by rw [zmh_ne (by omega) (by omega), g _ _ (by omega)]; exact zat_Pa l3 k hk'
    have e22 : ab_gI (zmh h1 s) 29 22 = nI r.length := by rw [zmh_29 (by omega), g _ _ (by omega)]; exact l1
    have e148 : ab_ru X (d + 1) 148 [.ref 29, .int (nI (zat r k))] (zmh h1 s) = _ := s148 X d q1 h1 (by omega) hP.2
    rw [l163_39, e22, if_pos (nI_lt hk' (by omega)), b163_47, zd40 (by omega), e40, e148]
    simp only [zpu_s, zpu_n, Option.bind_some, b163_57, nI_1]) ((0, 0, fun i => ab_gI h1 39 i, 0), 0, 0) ⟨Nat.zero_le _, (by decide : (0 : Nat) < 6)⟩
  obtain ⟨key, -⟩ := key
  have hz : zmEq N (zgom (fun i => ab_gI h1 38 i) (zat r) r.length ((0, 0, fun i => ab_gI h1 39 i, 0), 0, 0)) (zgom e (zat r) r.length ((0, 0, fun i => ab_gI h1 39 i, 0), 0, 0)) := zgom_eq (fun i hi => by rw [g _ _ (by omega)]; exact he i hi) ⟨⟨rfl, rfl, fun i _ => rfl, rfl⟩, rfl⟩ r.length (zat_lt hk)
  obtain ⟨v1, v2, v3, v4, v5, v6⟩ := zgom_vl (e := e) (D := D) (D' := fun i => ab_gI h1 39 i) hN (fun i hi => ⟨(hD i hi).1, by rw [g39, hE i hi]; exact (hD i hi).2⟩) r hk
  refine ⟨zmh h1 (zgom (fun i => ab_gI h1 38 i) (zat r) r.length ((0, 0, fun i => ab_gI h1 39 i, 0), 0, 0)), ?_, ⟨?_, ?_, zPa_fr r (fun k hk => ?_) l3⟩, ⟨fun c i c1 c2 c3 c4 => ?_, fun i hi => ?_, fun c i => ?_⟩, fun i => ?_, ?_, ?_, ?_⟩
  · have e0 : ab_ru X (d + 2) 163 [.ref 29] h = ab_ex X (d + 2) 163 2 [.ref 29, .int (nI 0)] [] (zput h 39 (fun i => ab_gI h 39 i)) := by rw [zput_self, r163, b163_0]; rfl
    rw [e0, e1, l163_2, zd30', g _ _ (by omega), n5, if_neg (nI_nlt (by omega) (by omega)), b163_33, s146]
    simp only [zpu_s, zpu_n, Option.bind_some, b163_37]
    refine Eq.trans key ?_
    have e22 : ∀ s, ab_gI (zmh h1 s) 29 22 = nI r.length := fun s => by rw [zmh_29 (by omega), g _ _ (by omega)]; exact l1
    rw [l163_39, e22, if_neg (nI_nlt (by omega) (by omega)), b163_64]
    rfl
  · rw [zmh_29 (by omega), g _ _ (by omega)]; exact l1
  · rw [zmh_29 (by omega), g _ _ (by omega)]; exact l2
  · rw [zmh_ne (by omega) (by omega), g _ _ (by omega)]
  · rw [zmh_ne c2 c4, g _ _ c2]
  · rw [zmh_29 (by omega), g _ _ (by omega)]
  · rw [zmh_J, ← hh]; rfl
  · rw [zmh_ne (by omega) (by omega), g _ _ (by omega)]
  · rw [zmh_18, hz.1.2.2.2]; exact v4
  · rw [zmh_19, hz.2]; exact v5
  · rw [zmh_20, hz.2]; exact v6
theorem zn10 : ¬ (nI 1 = (0 : Int32)) := by decide
/-- what the reference's rounds rest on -/
def zCx (h : ab_H) (N : Nat) (e : Nat → Int32) (D : Nat → Nat) : Prop := ab_gI h 30 0 = nI N ∧ (∀ i, i < N → ab_gI h 38 i = e i) ∧ ∀ i, i < N → D i ≤ 99 ∧ ab_gI h 30 (20 + i) = nI (D i)
theorem zCx_fr {h h' : ab_H} {N : Nat} {e : Nat → Int32} {D : Nat → Nat} (f : zFs h h') (f38 : ∀ i, ab_gI h' 38 i = ab_gI h 38 i) (x : zCx h N e D) : zCx h' N e D := ⟨(f.1 30 0 (by omega) (by omega) (by omega) (by omega)).trans x.1, fun i hi => (f38 i).trans (x.2.1 i hi), fun i hi => ⟨(x.2.2 i hi).1, (f.1 30 _ (by omega) (by omega) (by omega) (by omega)).trans (x.2.2 i hi).2⟩⟩
theorem zchk_c {N : Nat} {a b : List Nat} {t : List (List Nat)} (q : zchk N a (b :: t) = true) : znx N a = some b ∧ zchk N b t = true := by
  have q' : (znxB N a b && zchk N b t) = true := q
  rw [Bool.and_eq_true] at q'
  refine ⟨?_, q'.2⟩
  have q1 := q'.1
  unfold znxB at q1
  split at q1
  · rename_i c hc
    rw [hc, zlEq_iff q1]
  · cases q1
theorem zchk_n {N : Nat} {a : List Nat} (q : zchk N a [] = true) : znx N a = none := by
  have q' : (znx N a).isNone = true := q
  cases hz : znx N a with
  | none => rfl
  | some c => rw [hz] at q'; cases q'
theorem zall_c {N : Nat} {r : List Nat} {t : List (List Nat)} (q : zall N (r :: t) = true) : zok N r = true ∧ r.length ≤ 6 ∧ zall N t = true := by
  have q' : (zok N r && (Nat.ble r.length 6 && zall N t)) = true := q
  rw [Bool.and_eq_true, Bool.and_eq_true] at q'
  exact ⟨q'.1, Nat.le_of_ble_eq_true q'.2.1, q'.2.2⟩
theorem zgo_on (X : ab_X) (d : Nat) {N : Nat} (hN : N ≤ 6) {a b : List Nat} {t : List (List Nat)} {e : Nat → Int32} {D : Nat → Nat} {h : ab_H} (x : zCx h N e D) (ln : zLn h a) (ha : zok N a = true) (hla : a.length ≤ 6) (hc : zchk N a (b :: t) = true) (hl : zall N (b :: t) = true) :
    ∃ h1 h2, ab_ru X (d + 2) 162 [.ref 29] h = some (some (.int (nI 1)), h1) ∧ ab_ru X (d + 2) 163 [.ref 29] h1 = some (none, h2) ∧ zLn h2 b ∧ zFs h h2 ∧ zCx h2 N e D ∧ ab_gI h2 29 18 = nI (zvv e D b).2.2.1 ∧ ab_gI h2 29 19 = nI (zvv e D b).2.2.2.2.2 ∧ ab_gI h2 29 20 = nI (zvv e D b).2.2.2.2.1 := by
  obtain ⟨c1, -⟩ := zchk_c hc
  obtain ⟨b1, b2, -⟩ := zall_c hl
  obtain ⟨h1, a1, a2, a3, a4⟩ := (s162 X (d + 1) hN hla ha x.1 ln).1 b c1
  have x1 := zCx_fr a3 a4 x
  obtain ⟨h2, d1, d2, d3, d4, d5, d6, d7⟩ := s163 X d hN b2 b1 x1.1 a2 x1.2.1 x1.2.2
  exact ⟨h1, h2, a1, d1, d2, zFs_trans a3 d3, zCx_fr d3 d4 x1, d5, d6, d7⟩
theorem zgo_end (X : ab_X) (d : Nat) {N : Nat} (hN : N ≤ 6) {a : List Nat} {e : Nat → Int32} {D : Nat → Nat} {h : ab_H} (x : zCx h N e D) (ln : zLn h a) (ha : zok N a = true) (hla : a.length ≤ 6) (hc : zchk N a [] = true) :
    ∃ h1, ab_ru X (d + 2) 162 [.ref 29] h = some (some (.int (nI 0)), h1) ∧ zFs h h1 ∧ zCx h1 N e D := by
  obtain ⟨h1, a1, a3, a4⟩ := (s162 X (d + 1) hN hla ha x.1 ln).2 (zchk_n hc)
  exact ⟨h1, a1, a3, zCx_fr a3 a4 x⟩
def zfX2 (e : Nat → Int32) (D : Nat → Nat) (m : Nat) (l : List (List Nat)) : Nat := l.foldl (fun m r => if m < (zvv e D r).2.2.1 then (zvv e D r).2.2.1 else m) m
theorem l160 (X : ab_X) (d : Nat) {N : Nat} (hN : N ≤ 6) {e : Nat → Int32} {D : Nat → Nat} : ∀ (l : List (List Nat)) (a : List Nat) (m : Nat) (h : ab_H), m ≤ 600 → zCx h N e D → zLn h a → zok N a = true → a.length ≤ 6 → zchk N a l = true → zall N l = true → ∃ h', ab_ex X (d + 3) 160 10 [.ref 29, .int (nI m)] [] h = some (some (.int (nI (zfX2 e D m l))), h') ∧ zFs h h' ∧ zCx h' N e D := by
  intro l
  induction l with
  | nil =>
    intro a m h hm x ln ha hla hc hl
    obtain ⟨h1, a1, a2, a3⟩ := zgo_end X d hN x ln ha hla hc
    refine ⟨h1, ?_, a2, a3⟩
    rw [l160_10, a1]
    simp only [zpu_s, zpu_n, Option.bind_some, b160_14, zlit, if_true, b160_41]
    rfl
  | cons b t ih =>
    intro a m h hm x ln ha hla hc hl
    obtain ⟨h1, h2, a1, a2, a3, a4, a5, a6, a7, a8⟩ := zgo_on X d hN x ln ha hla hc hl
    obtain ⟨b1, b2, b3⟩ := zall_c hl
    obtain ⟨-, -, v3, -, -⟩ := zvv_b (e := e) hN (fun i hi => (x.2.2 i hi).1) b b1
    have hL : (zvv e D b).2.2.1 ≤ 600 := by omega
    obtain ⟨h', c1, c2, c3⟩ := ih b (if m < (zvv e D b).2.2.1 then (zvv e D b).2.2.1 else m) h2 (by split <;> omega) a5 a3 b1 b2 (zchk_c hc).2 b3
    refine ⟨h', ?_, zFs_trans a4 c2, c3⟩
    refine Eq.trans ?_ c1
    rw [l160_10, a1]
    simp only [zpu_s, zpu_n, Option.bind_some, b160_14]
    rw [if_neg zn10, b160_17, a2]
    simp only [zpu_s, zpu_n, Option.bind_some]
    rw [b160_21, a6]
    by_cases q : m < (zvv e D b).2.2.1
    · rw [if_pos (nI_lt q (by omega)), b160_29, b160_37, a6, if_pos q]
    · rw [if_neg (nI_nlt (by omega) (by omega)), b160_36, b160_37, if_neg q]
def zfS (e : Nat → Int32) (D : Nat → Nat) (M s : Nat) (l : List (List Nat)) : Nat := l.foldl (fun s r => if (zvv e D r).2.2.1 = M ∧ (zvv e D r).2.2.2.2.1 < s then (zvv e D r).2.2.2.2.1 else s) s
theorem l165 (X : ab_X) (d : Nat) {N M : Nat} (hN : N ≤ 6) (hM : M ≤ 600) {e : Nat → Int32} {D : Nat → Nat} : ∀ (l : List (List Nat)) (a : List Nat) (s : Nat) (h : ab_H), s ≤ 12 → zCx h N e D → zLn h a → zok N a = true → a.length ≤ 6 → zchk N a l = true → zall N l = true → ∃ h', ab_ex X (d + 3) 165 32 [.ref 29, .int (nI M), .int (nI s)] [] h = some (some (.int (nI (zfS e D M s l))), h') ∧ zFs h h' := by
  intro l
  induction l with
  | nil =>
    intro a s h hs x ln ha hla hc hl
    obtain ⟨h1, a1, a2, a3⟩ := zgo_end X d hN x ln ha hla hc
    refine ⟨h1, ?_, a2⟩
    rw [l165_32, a1]
    simp only [zpu_s, zpu_n, Option.bind_some, b165_36, zlit, if_true, b165_71]
    rfl
  | cons b t ih =>
    intro a s h hs x ln ha hla hc hl
    obtain ⟨h1, h2, a1, a2, a3, a4, a5, a6, a7, a8⟩ := zgo_on X d hN x ln ha hla hc hl
    obtain ⟨b1, b2, b3⟩ := zall_c hl
    obtain ⟨-, -, v3, -, v5⟩ := zvv_b (e := e) hN (fun i hi => (x.2.2 i hi).1) b b1
    have hL : (zvv e D b).2.2.1 ≤ 600 := by omega
    obtain ⟨h', c1, c2⟩ := ih b (if (zvv e D b).2.2.1 = M ∧ (zvv e D b).2.2.2.2.1 < s then (zvv e D b).2.2.2.2.1 else s) h2 (by split <;> omega) a5 a3 b1 b2 (zchk_c hc).2 b3
    refine ⟨h', ?_, zFs_trans a4 c2⟩
    refine Eq.trans ?_ c1
    rw [l165_32, a1]
    simp only [zpu_s, zpu_n, Option.bind_some, b165_36]
    rw [if_neg zn10, b165_39, a2]
    simp only [zpu_s, zpu_n, Option.bind_some]
    rw [b165_43, a6]
    by_cases q : (zvv e D b).2.2.1 = M
    · rw [if_pos (by rw [q]), b165_51, a8]
      by_cases q2 : (zvv e D b).2.2.2.2.1 < s
      · rw [if_pos (nI_lt q2 (by omega)), b165_59, b165_67, a8, if_pos ⟨q, q2⟩]
      · rw [if_neg (nI_nlt (by omega) (by omega)), b165_66, b165_67, if_neg (fun z => q2 z.2)]
    · rw [if_neg (fun z => q ((nI_eq (by omega) (by omega)).mp z)), b165_66, b165_67, if_neg (fun z => q z.1)]
def zfC (e : Nat → Int32) (D : Nat → Nat) (s : Nat × Nat) (l : List (List Nat)) : Nat × Nat := l.foldl (fun s r => (if s.1 < (zvv e D r).2.2.2.1 then (zvv e D r).2.2.2.1 else s.1, if s.1 < (zvv e D r).2.2.2.1 then 1 else if (zvv e D r).2.2.2.1 = s.1 then s.2 + 1 else s.2)) s
theorem l164 (X : ab_X) (d : Nat) {N : Nat} (hN : N ≤ 6) {e : Nat → Int32} {D : Nat → Nat} : ∀ (l : List (List Nat)) (a : List Nat) (m w : Nat) (v3 : Value) (h : ab_H), m ≤ 600 → zCx h N e D → zLn h a → zok N a = true → a.length ≤ 6 → zchk N a l = true → zall N l = true → ∃ h', ab_ex X (d + 3) 164 24 [.ref 29, .int (nI m), .int (nI w), v3] [] h = some (some (.int (nI (zfC e D (m, w) l).1)), ab_sI h' 29 10 (nI (zfC e D (m, w) l).2)) ∧ zFs h h' := by
  intro l
  induction l with
  | nil =>
    intro a m w v3 h hm x ln ha hla hc hl
    obtain ⟨h1, a1, a2, a3⟩ := zgo_end X d hN x ln ha hla hc
    refine ⟨h1, ?_, a2⟩
    rw [l164_24, a1]
    simp only [zpu_s, zpu_n, Option.bind_some, b164_28, zlit, if_true, b164_79, r112, b112_0, b164_85]
    rfl
  | cons b t ih =>
    intro a m w v3 h hm x ln ha hla hc hl
    obtain ⟨h1, h2, a1, a2, a3, a4, a5, a6, a7, a8⟩ := zgo_on X d hN x ln ha hla hc hl
    obtain ⟨b1, b2, b3⟩ := zall_c hl
    obtain ⟨-, -, -, v4, -⟩ := zvv_b (e := e) hN (fun i hi => (x.2.2 i hi).1) b b1
    obtain ⟨-, -, w3⟩ := zvv_bits (e := e) (D := D) hN b b1
    have hL : (zvv e D b).2.2.2.1 ≤ 600 := by omega
    have e138 : ab_ru X (d + 2) 138 [.int (ab_gI h2 29 19)] h2 = some (some (.int (nI (zvv e D b).2.2.2.1)), h2) := by rw [s138, a7, w3]
    obtain ⟨h', c1, c2⟩ := ih b (if m < (zvv e D b).2.2.2.1 then (zvv e D b).2.2.2.1 else m) (if m < (zvv e D b).2.2.2.1 then 1 else if (zvv e D b).2.2.2.1 = m then w + 1 else w) (.int (nI (zvv e D b).2.2.2.1)) h2 (by split <;> omega) a5 a3 b1 b2 (zchk_c hc).2 b3
    refine ⟨h', ?_, zFs_trans a4 c2⟩
    refine Eq.trans ?_ c1
    rw [l164_24, a1]
    simp only [zpu_s, zpu_n, Option.bind_some, b164_28]
    rw [if_neg zn10, b164_31, a2]
    simp only [zpu_s, zpu_n, Option.bind_some]
    rw [b164_35, e138]
    simp only [zpu_s, zpu_n, Option.bind_some]
    rw [b164_42]
    by_cases q : m < (zvv e D b).2.2.2.1
    · rw [if_pos (nI_lt q (by omega)), b164_48, b164_64, if_pos (nI_lt q (by omega)), b164_70, b164_75, if_pos q, if_pos q]
      rfl
    · rw [if_neg (nI_nlt (by omega) (by omega)), b164_52, if_neg q, if_neg q]
      by_cases q2 : (zvv e D b).2.2.2.1 = m
      · rw [if_pos (by rw [q2]), b164_57, b164_64, if_neg (nI_nlt (by omega) (by omega)), b164_74, b164_75, if_pos q2, nI_1]
      · rw [if_neg (fun z => q2 ((nI_eq (by omega) (by omega)).mp z)), b164_63, b164_64, if_neg (nI_nlt (by omega) (by omega)), b164_74, b164_75, if_neg q2]
/-- the first round with so many letters -/
def zfst (e : Nat → Int32) (D : Nat → Nat) (M : Nat) : List (List Nat) → List Nat
  | [] => []
  | x :: t => if (zvv e D x).2.2.1 < M then zfst e D M t else x
theorem l159 (X : ab_X) (d : Nat) {N M : Nat} (hN : N ≤ 6) (hM : M ≤ 600) {e : Nat → Int32} {D : Nat → Nat} (v1 v4 : Value) : ∀ (l : List (List Nat)) (a : List Nat) (h : ab_H), zCx h N e D → zLn h a → zok N a = true → a.length ≤ 6 → zchk N a l = true → zall N l = true → (¬ (zvv e D a).2.2.1 < M ∨ ∃ x, x ∈ l ∧ ¬ (zvv e D x).2.2.1 < M) → ∃ h', ab_ex X (d + 3) 159 48 [.ref 29, v1, .int (nI M), .int (if (zvv e D a).2.2.1 < M then nI 1 else nI 0), v4] [] h = ab_ex X (d + 3) 159 82 [.ref 29, v1, .int (nI M), .int (nI 0), v4] [] h' ∧ zFs h h' ∧ zLn h' (zfst e D M (a :: l)) := by
  intro l
  induction l with
  | nil =>
    intro a h x ln ha hla hc hl hex
    have q : ¬ (zvv e D a).2.2.1 < M := by
      rcases hex with q | ⟨y, hy, q⟩
      · exact q
      · cases hy
    refine ⟨h, ?_, zFs_refl h, ?_⟩
    · rw [if_neg q, l159_48, zlit 0, if_pos rfl]
    · unfold zfst; rw [if_neg q]; exact ln
  | cons b t ih =>
    intro a h x ln ha hla hc hl hex
    by_cases q : (zvv e D a).2.2.1 < M
    · obtain ⟨h1, h2, a1, a2, a3, a4, a5, a6, a7, a8⟩ := zgo_on X d hN x ln ha hla hc hl
      obtain ⟨b1, b2, b3⟩ := zall_c hl
      obtain ⟨-, -, w3, -, -⟩ := zvv_b (e := e) hN (fun i hi => (x.2.2 i hi).1) b b1
      have hL : (zvv e D b).2.2.1 ≤ 600 := by omega
      have hex' : ¬ (zvv e D b).2.2.1 < M ∨ ∃ x, x ∈ t ∧ ¬ (zvv e D x).2.2.1 < M := by
        rcases hex with z | ⟨y, hy, z⟩
        · exact absurd q z
        · rcases List.mem_cons.mp hy with e | hy
          · subst e; exact Or.inl z
          · exact Or.inr ⟨y, hy, z⟩
      obtain ⟨h', c1, c2, c3⟩ := ih b h2 a5 a3 b1 b2 (zchk_c hc).2 b3 hex'
      refine ⟨h', ?_, zFs_trans a4 c2, ?_⟩
      · refine Eq.trans ?_ c1
        rw [if_pos q, l159_48, if_neg zn10, b159_52, a1]
        simp only [zpu_s, zpu_n, Option.bind_some]
        rw [b159_56, a2]
        simp only [zpu_s, zpu_n, Option.bind_some]
        rw [b159_61, if_neg zn10, b159_65, a6]
        by_cases q2 : (zvv e D b).2.2.1 < M
        · rw [if_pos (nI_lt q2 (by omega)), b159_73, b159_78, if_pos q2]
          rfl
        · rw [if_neg (nI_nlt (by omega) (by omega)), b159_77, b159_78, if_neg q2]
          rfl
      · show zLn h' (if (zvv e D a).2.2.1 < M then zfst e D M (b :: t) else a)
        rw [if_pos q]; exact c3
    · refine ⟨h, ?_, zFs_refl h, ?_⟩
      · rw [if_neg q, l159_48, zlit 0, if_pos rfl]
      · unfold zfst; rw [if_neg q]; exact ln
