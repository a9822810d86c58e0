/-! a postman goes: the reference -/
abbrev zM : Type := zG × Int32 × Int32
/-- the reference's store with a postman under way: place, time, brought, served, last time; what is due -/
def zmh (h : ab_H) (s : zM) : ab_H := (fun c i => if c = 39 then s.1.2.2.1 i else if c = 29 then (if i = 16 then nI s.1.2.1 else if i = 17 then nI s.1.1 else if i = 18 then s.1.2.2.2 else if i = 19 then s.2.1 else if i = 20 then s.2.2 else h.1 29 i) else h.1 c i, h.2)
theorem zmh_39 (h : ab_H) (s : zM) (i : Nat) : ab_gI (zmh h s) 39 i = s.1.2.2.1 i := rfl
theorem zmh_16 (h : ab_H) (s : zM) : ab_gI (zmh h s) 29 16 = nI s.1.2.1 := rfl
theorem zmh_17 (h : ab_H) (s : zM) : ab_gI (zmh h s) 29 17 = nI s.1.1 := rfl
theorem zmh_18 (h : ab_H) (s : zM) : ab_gI (zmh h s) 29 18 = s.1.2.2.2 := rfl
theorem zmh_19 (h : ab_H) (s : zM) : ab_gI (zmh h s) 29 19 = s.2.1 := rfl
theorem zmh_20 (h : ab_H) (s : zM) : ab_gI (zmh h s) 29 20 = s.2.2 := rfl
theorem zmh_ne {c : Nat} (h1 : c ≠ 39) (h2 : c ≠ 29) (h : ab_H) (s : zM) (i : Nat) : ab_gI (zmh h s) c i = ab_gI h c i := by unfold ab_gI zmh; simp [h1, h2]
theorem zmh_29 {i : Nat} (h1 : i < 16 ∨ 20 < i) (h : ab_H) (s : zM) : ab_gI (zmh h s) 29 i = ab_gI h 29 i := by
  unfold ab_gI zmh
  simp [show i ≠ 16 by omega, show i ≠ 17 by omega, show i ≠ 18 by omega, show i ≠ 19 by omega, show i ≠ 20 by omega]
theorem zmh_J (h : ab_H) (s : zM) (c i : Nat) : ab_gJ (zmh h s) c i = ab_gJ h c i := rfl
theorem zmh_zmh (h : ab_H) (s s' : zM) : zmh (zmh h s) s' = zmh h s' := by
  refine zh_ext (fun c i => ?_) (fun _ _ => rfl)
  by_cases e1 : c = 39
  · subst e1; rfl
  · by_cases e2 : c = 29
    · subst e2
      unfold ab_gI zmh
      simp only [if_true, if_neg (show ¬ (29 = 39) by omega)]
      repeat' split
      all_goals rfl
    · rw [zmh_ne e1 e2, zmh_ne e1 e2, zmh_ne e1 e2]
/-- the reference's sets() -/
theorem s146 (X : ab_X) (d : Nat) (h : ab_H) : ab_ru X d 146 [.ref 29] h = some (none, zmh h ((0, 0, fun i => ab_gI h 39 i, 0), 0, 0)) := by
  rw [r146, b146_0]
  refine congrArg (fun z => some (none, z)) (zh_ext (fun c i => ?_) (fun _ _ => rfl))
  by_cases e1 : c = 39
  · subst e1
    simp (discharger := omega) only [zg_ne, zmh_39]
  · by_cases e2 : c = 29
    · subst e2
      simp only [zg_same]
      unfold ab_gI zmh
      simp only [if_true, if_neg (show ¬ (29 = 39) by omega)]
      by_cases a16 : i = 16
      · subst a16; rfl
      · by_cases a17 : i = 17
        · subst a17; rfl
        · by_cases a18 : i = 18
          · subst a18; rfl
          · by_cases a19 : i = 19
            · subst a19; rfl
            · by_cases a20 : i = 20
              · subst a20; rfl
              · simp only [if_neg a16, if_neg a17, if_neg a18, if_neg a19, if_neg a20]
    · rw [zmh_ne e1 e2]
      simp (discharger := omega) only [zg_ne]
/-- how many letters a house gets -/
def zgot (e : Nat → Int32) (q : Nat) (g : zG) : Int32 := if g.1 + zdist g.2.1 q < 12 ∧ zbit (e q) (g.1 + zdist g.2.1 q) = true then g.2.2.1 q else nI 0
def zgm1 (e : Nat → Int32) (q : Nat) (s : zM) : zM :=
  (zgo1 e q s.1, s.2.1 ||| (if nI 0 < zgot e q s.1 then nI 1 <<< (nI q &&& nI 31) else nI 0), if nI 0 < zgot e q s.1 then nI (s.1.1 + zdist s.1.2.1 q) else s.2.2)
theorem s149 (X : ab_X) (d : Nat) {a b : Nat} (ha : a < 1000000) (hb : b < 1000000) (h : ab_H) : ab_ru X d 149 [.int (nI a), .int (nI b)] h = some (some (.int (nI (zdist a b))), h) := by
  unfold zdist
  by_cases h1 : a < b
  · rw [if_pos h1]
    simp (discharger := omega) only [r149, b149_0, b149_5, b149_11, b149_14, zlit, Bool.false_eq_true, zlt_t, zlt_f, zeq_t, zeq_f, nI_add, pk_mul, zb_0, zb_n0, not_true_eq_false, not_false_eq_true, Classical.not_not, if_true, if_false, ite_true, ite_false, and_self, and_true, true_and, and_false, false_and, or_self, or_true, true_or, or_false, false_or, reduceIte, pk_sub]
  · rw [if_neg h1]
    simp (discharger := omega) only [r149, b149_0, b149_5, b149_11, b149_14, zlit, Bool.false_eq_true, zlt_t, zlt_f, zeq_t, zeq_f, nI_add, pk_mul, zb_0, zb_n0, not_true_eq_false, not_false_eq_true, Classical.not_not, if_true, if_false, ite_true, ite_false, and_self, and_true, true_and, and_false, false_and, or_self, or_true, true_or, or_false, false_or, reduceIte, pk_sub]
theorem zext29 {h h' : ab_H} {s : zM} (e39 : ∀ i, ab_gI h' 39 i = s.1.2.2.1 i) (e16 : ab_gI h' 29 16 = nI s.1.2.1) (e17 : ab_gI h' 29 17 = nI s.1.1) (e18 : ab_gI h' 29 18 = s.1.2.2.2) (e19 : ab_gI h' 29 19 = s.2.1) (e20 : ab_gI h' 29 20 = s.2.2) (eo : ∀ i, (i < 16 ∨ 20 < i) → ab_gI h' 29 i = ab_gI h 29 i) (ec : ∀ c i, c ≠ 39 → c ≠ 29 → ab_gI h' c i = ab_gI h c i) (ej : ∀ c i, ab_gJ h' c i = ab_gJ h c i) : h' = zmh h s := by
  refine zh_ext (fun c i => ?_) ej
  by_cases e1 : c = 39
  · subst e1; rw [e39]; rfl
  · by_cases e2 : c = 29
    · subst e2
      by_cases a16 : i = 16
      · subst a16; rw [e16]; rfl
      · by_cases a17 : i = 17
        · subst a17; rw [e17]; rfl
        · by_cases a18 : i = 18
          · subst a18; rw [e18]; rfl
          · by_cases a19 : i = 19
            · subst a19; rw [e19]; rfl
            · by_cases a20 : i = 20
              · subst a20; rw [e20]; rfl
              · rw [eo i (by omega), zmh_29 (by omega)]
    · rw [ec c i e1 e2, zmh_ne e1 e2]
set_option maxHeartbeats 1000000 in
theorem s148 (X : ab_X) (d : Nat) {q : Nat} (hq : q < 6) (h : ab_H) {s : zM} (ht : s.1.1 < 1000) (hp : s.1.2.1 < 6) : ab_ru X (d + 1) 148 [.ref 29, .int (nI q)] (zmh h s) = some (some (.int (zgot (fun i => ab_gI h 38 i) q s.1)), zmh h (zgm1 (fun i => ab_gI h 38 i) q s)) := by
  obtain ⟨⟨t, p, D, b⟩, sv, lt⟩ := s
  dsimp only at ht hp
  have hd := zdist_lt hp hq
  have hsub0 : ∀ x : Int32, x - nI 0 = x := Int32.sub_zero
  have hadd0 : ∀ x : Int32, x + nI 0 = x := Int32.add_zero
  have fin : ∀ n : Int32, zgot (fun i => ab_gI h 38 i) q (t, p, D, b) = n → (∀ h', h' = zmh h ((t + zdist p q, q, upd D q (D q - n), b + n), sv ||| (if nI 0 < n then nI 1 <<< (nI q &&& nI 31) else nI 0), if nI 0 < n then nI (t + zdist p q) else lt) → some (some (Value.int n), h') = some (some (Value.int (zgot (fun i => ab_gI h 38 i) q (t, p, D, b))), zmh h (zgm1 (fun i => ab_gI h 38 i) q ((t, p, D, b), sv, lt)))) := by
    intro n hn h' e
    rw [e, ← hn]
    unfold zgm1 zgo1 zgot
    dsimp only
    by_cases hc : t + zdist p q < 12 ∧ zbit (ab_gI h 38 q) (t + zdist p q) = true
    · simp only [if_pos hc, Int32.sub_self]
    · simp only [if_neg hc, hsub0, hadd0]
      have : upd D q (D q) = D := by
        funext i
        unfold upd
        by_cases e : i = q
        · rw [if_pos e, e]
        · rw [if_neg e]
      rw [this]
  have w67 : ∀ (n : Int32) (h1 : ab_H) (v2 v3 : Value), h1 = ab_sI (ab_sI (zmh h ((t, p, D, b), sv, lt)) 29 17 (nI (t + zdist p q))) 29 16 (nI q) → zgot (fun i => ab_gI h 38 i) q (t, p, D, b) = n → ab_ex X (d + 1) 148 67 [.ref 29, .int (nI q), v2, v3] [.int n] h1 = some (some (Value.int (zgot (fun i => ab_gI h 38 i) q (t, p, D, b))), zmh h (zgm1 (fun i => ab_gI h 38 i) q ((t, p, D, b), sv, lt))) := by
    intro n h1 v2 v3 eh hn
    subst eh
    by_cases h0 : nI 0 < n
    · simp (discharger := omega) only [b148_67, zd39, zs39, zlit, h0, if_true, b148_97, b148_104, b148_113, b148_124, zg_ne, zj_ne, zc_ne, zk_ne, zf_ne, zg_J, zj_I, zc_J, zk_I, zf_J, zg_eq, zg_nj, zj_eq, zj_nj, zf_in, zf_out, zmh_39, zmh_18, zmh_19]
      refine fin n hn _ (zext29 (fun i => ?_) ?_ ?_ ?_ ?_ ?_ (fun i hi => ?_) (fun c i h1 h2 => ?_) (fun c i => ?_))
      · simp (discharger := omega) only [zg_ne, zj_ne, zc_ne, zk_ne, zf_ne, zg_same, zmh_39, upd]
      · simp (discharger := omega) only [zg_ne, zj_ne, zc_ne, zk_ne, zf_ne, zg_J, zj_I, zc_J, zk_I, zf_J, zg_eq, zg_nj, zj_eq, zj_nj, zf_in, zf_out]
      · simp (discharger := omega) only [zg_ne, zj_ne, zc_ne, zk_ne, zf_ne, zg_J, zj_I, zc_J, zk_I, zf_J, zg_eq, zg_nj, zj_eq, zj_nj, zf_in, zf_out]
      · simp (discharger := omega) only [zg_ne, zj_ne, zc_ne, zk_ne, zf_ne, zg_J, zj_I, zc_J, zk_I, zf_J, zg_eq, zg_nj, zj_eq, zj_nj, zf_in, zf_out]
      · simp (discharger := omega) only [zg_ne, zj_ne, zc_ne, zk_ne, zf_ne, zg_J, zj_I, zc_J, zk_I, zf_J, zg_eq, zg_nj, zj_eq, zj_nj, zf_in, zf_out, h0, if_true]
      · simp (discharger := omega) only [zg_ne, zj_ne, zc_ne, zk_ne, zf_ne, zg_J, zj_I, zc_J, zk_I, zf_J, zg_eq, zg_nj, zj_eq, zj_nj, zf_in, zf_out, h0, if_true]
      · simp (discharger := omega) only [zg_ne, zj_ne, zc_ne, zk_ne, zf_ne, zg_J, zj_I, zc_J, zk_I, zf_J, zg_eq, zg_nj, zj_eq, zj_nj, zf_in, zf_out, zmh_29]
      · simp (discharger := omega) only [zg_ne, zj_ne, zc_ne, zk_ne, zf_ne, zg_J, zj_I, zc_J, zk_I, zf_J, zg_eq, zg_nj, zj_eq, zj_nj, zf_in, zf_out, zmh_ne]
      · rfl
    · simp (discharger := omega) only [b148_67, zd39, zs39, zlit, h0, if_false, b148_103, b148_104, b148_120, b148_124, zg_ne, zj_ne, zc_ne, zk_ne, zf_ne, zg_J, zj_I, zc_J, zk_I, zf_J, zg_eq, zg_nj, zj_eq, zj_nj, zf_in, zf_out, zmh_39, zmh_18, zmh_19, zmh_20]
      refine fin n hn _ (zext29 (fun i => ?_) ?_ ?_ ?_ ?_ ?_ (fun i hi => ?_) (fun c i h1 h2 => ?_) (fun c i => ?_))
      · simp (discharger := omega) only [zg_ne, zj_ne, zc_ne, zk_ne, zf_ne, zg_same, zmh_39, upd]
      · simp (discharger := omega) only [zg_ne, zj_ne, zc_ne, zk_ne, zf_ne, zg_J, zj_I, zc_J, zk_I, zf_J, zg_eq, zg_nj, zj_eq, zj_nj, zf_in, zf_out]
      · simp (discharger := omega) only [zg_ne, zj_ne, zc_ne, zk_ne, zf_ne, zg_J, zj_I, zc_J, zk_I, zf_J, zg_eq, zg_nj, zj_eq, zj_nj, zf_in, zf_out]
      · simp (discharger := omega) only [zg_ne, zj_ne, zc_ne, zk_ne, zf_ne, zg_J, zj_I, zc_J, zk_I, zf_J, zg_eq, zg_nj, zj_eq, zj_nj, zf_in, zf_out]
      · simp (discharger := omega) only [zg_ne, zj_ne, zc_ne, zk_ne, zf_ne, zg_J, zj_I, zc_J, zk_I, zf_J, zg_eq, zg_nj, zj_eq, zj_nj, zf_in, zf_out, h0, if_false]
      · simp (discharger := omega) only [zg_ne, zj_ne, zc_ne, zk_ne, zf_ne, zg_J, zj_I, zc_J, zk_I, zf_J, zg_eq, zg_nj, zj_eq, zj_nj, zf_in, zf_out, h0, if_false]
      · simp (discharger := omega) only [zg_ne, zj_ne, zc_ne, zk_ne, zf_ne, zg_J, zj_I, zc_J, zk_I, zf_J, zg_eq, zg_nj, zj_eq, zj_nj, zf_in, zf_out, zmh_29]
      · simp (discharger := omega) only [zg_ne, zj_ne, zc_ne, zk_ne, zf_ne, zg_J, zj_I, zc_J, zk_I, zf_J, zg_eq, zg_nj, zj_eq, zj_nj, zf_in, zf_out, zmh_ne]
      · rfl
  by_cases h12 : t + zdist p q < 12
  · by_cases hb : zB (ab_gI h 38 q) (nI (t + zdist p q)) = true
    · have hg : zgot (fun i => ab_gI h 38 i) q (t, p, D, b) = D q := if_pos ⟨h12, hb⟩
      simp (discharger := omega) only [r148, b148_0, b148_13, b148_31, b148_44, b148_47, b148_52, b148_57, zmh_16, zmh_17, s149, s139, zpu_s, zpu_n, Option.bind_some, zlit, Bool.false_eq_true, zlt_t, zlt_f, zeq_t, zeq_f, nI_add, pk_mul, zb_0, zb_n0, not_true_eq_false, not_false_eq_true, Classical.not_not, if_true, if_false, ite_true, ite_false, and_self, and_true, true_and, and_false, false_and, or_self, or_true, true_or, or_false, false_or, reduceIte, zg_ne, zj_ne, zc_ne, zk_ne, zf_ne, zg_J, zj_I, zc_J, zk_I, zf_J, zg_eq, zg_nj, zj_eq, zj_nj, zf_in, zf_out, zd38, zd39, zmh_ne, zmh_39, hb]
      exact w67 (D q) _ _ _ rfl hg
    · have hg : zgot (fun i => ab_gI h 38 i) q (t, p, D, b) = nI 0 := if_neg (fun z => hb z.2)
      simp (discharger := omega) only [r148, b148_0, b148_13, b148_31, b148_44, b148_51, b148_52, b148_66, zmh_16, zmh_17, s149, s139, zpu_s, zpu_n, Option.bind_some, zlit, Bool.false_eq_true, zlt_t, zlt_f, zeq_t, zeq_f, nI_add, pk_mul, zb_0, zb_n0, not_true_eq_false, not_false_eq_true, Classical.not_not, if_true, if_false, ite_true, ite_false, and_self, and_true, true_and, and_false, false_and, or_self, or_true, true_or, or_false, false_or, reduceIte, zg_ne, zj_ne, zc_ne, zk_ne, zf_ne, zg_J, zj_I, zc_J, zk_I, zf_J, zg_eq, zg_nj, zj_eq, zj_nj, zf_in, zf_out, zd38, zd39, zmh_ne, zmh_39, hb]
      exact w67 (nI 0) _ _ _ rfl hg
  · have hg : zgot (fun i => ab_gI h 38 i) q (t, p, D, b) = nI 0 := if_neg (fun z => h12 z.1)
    simp (discharger := omega) only [r148, b148_0, b148_13, b148_51, b148_52, b148_66, zmh_16, zmh_17, s149, zpu_s, zpu_n, Option.bind_some, zlit, Bool.false_eq_true, zlt_t, zlt_f, zeq_t, zeq_f, nI_add, pk_mul, zb_0, zb_n0, not_true_eq_false, not_false_eq_true, Classical.not_not, if_true, if_false, ite_true, ite_false, and_self, and_true, true_and, and_false, false_and, or_self, or_true, true_or, or_false, false_or, reduceIte, zg_ne, zj_ne, zc_ne, zk_ne, zf_ne, zg_J, zj_I, zc_J, zk_I, zf_J, zg_eq, zg_nj, zj_eq, zj_nj, zf_in, zf_out]
    exact w67 (nI 0) _ _ _ rfl hg
