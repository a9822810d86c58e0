/-! the small language: signs, and the class's first fault -/
def zkd (c : Int32) : Nat := if c = 104 then 0 else if c = 105 then 1 else if c = 102 then 2 else if c = 116 then 3 else if c = 115 then 4 else if c = 100 then 5 else 6
theorem zkd_le (c : Int32) : zkd c ≤ 6 := by
  unfold zkd
  repeat' split
  all_goals omega
theorem zd80 {k : Nat} (hk : k < 6) (X : ab_X) (h : ab_H) (K : Int32 → Option ab_R) : ab_ld X h 80 (nI k) K = K (ab_kl k) := by
  have hs : k = 0 ∨ k = 1 ∨ k = 2 ∨ k = 3 ∨ k = 4 ∨ k = 5 := by omega
  rcases hs with rfl | rfl | rfl | rfl | rfl | rfl <;> rfl
def zkl (c : Int32) : Nat → Nat → Int32
  | 0, _ => -nI 9
  | m + 1, k => if ab_kl k = c then nI k else zkl c m (k + 1)
theorem zkl_kd (c : Int32) : zkl c 6 0 = if zkd c = 6 then -nI 9 else nI (zkd c) := by
  have e : ∀ x : Int32, (x = c) = (c = x) := fun x => propext ⟨fun q => q.symm, fun q => q.symm⟩
  show (if (104 : Int32) = c then nI 0 else if (105 : Int32) = c then nI 1 else if (102 : Int32) = c then nI 2 else if (116 : Int32) = c then nI 3 else if (115 : Int32) = c then nI 4 else if (100 : Int32) = c then nI 5 else -nI 9) = _
  unfold zkd
  by_cases q0 : c = 104
  · rw [if_pos q0.symm, if_pos q0, if_neg (by omega)]
  rw [if_neg (fun z => q0 z.symm), if_neg q0]
  by_cases q1 : c = 105
  · rw [if_pos q1.symm, if_pos q1, if_neg (by omega)]
  rw [if_neg (fun z => q1 z.symm), if_neg q1]
  by_cases q2 : c = 102
  · rw [if_pos q2.symm, if_pos q2, if_neg (by omega)]
  rw [if_neg (fun z => q2 z.symm), if_neg q2]
  by_cases q3 : c = 116
  · rw [if_pos q3.symm, if_pos q3, if_neg (by omega)]
  rw [if_neg (fun z => q3 z.symm), if_neg q3]
  by_cases q4 : c = 115
  · rw [if_pos q4.symm, if_pos q4, if_neg (by omega)]
  rw [if_neg (fun z => q4 z.symm), if_neg q4]
  by_cases q5 : c = 100
  · rw [if_pos q5.symm, if_pos q5, if_neg (by omega)]
  rw [if_neg (fun z => q5 z.symm), if_neg q5, if_pos rfl]
theorem s22 (X : ab_X) (d : Nat) (c : Int32) (h : ab_H) : ab_ru X d 22 [.int c] h = some (some (.int (if zkd c = 6 then -nI 9 else nI (zkd c))), h) := by
  have key : ∀ m k, k + m = 6 → ab_ex X d 22 2 [.int c, .int (nI k)] [] h = some (some (.int (zkl c m k)), h) := by
    intro m
    induction m with
    | zero =>
      intro k hk
      rw [l22_2, zlit 6, if_neg (nI_nlt (by omega) (by omega)), b22_25]
      rfl
    | succ m ih =>
      intro k hk
      rw [l22_2, zlit 6, if_pos (nI_lt (by omega) (by omega)), b22_8, zd80 (by omega)]
      unfold zkl
      by_cases q : ab_kl k = c
      · rw [if_pos q, if_pos q, b22_17]
      · rw [if_neg q, if_neg q, b22_19, nI_1, ih (k + 1) (by omega)]
  rw [r22, b22_0, ← zkl_kd]
  exact key 6 0 (by omega)
theorem s125 (X : ab_X) (d : Nat) (c : Int32) (h : ab_H) : ab_ru X d 125 [.int c] h = some (some (.int (if zkd c = 6 then -nI 1 else nI (zkd c))), h) := by
  rw [r125]
  unfold zkd
  by_cases q0 : c = 104
  · rw [b125_0, if_pos q0, b125_6, b125_61, if_pos q0, if_neg (by omega)]; rfl
  rw [b125_0, if_neg q0, if_neg q0]
  by_cases q1 : c = 105
  · rw [b125_10, if_pos q1, b125_16, b125_61, if_pos q1, if_neg (by omega)]; rfl
  rw [b125_10, if_neg q1, if_neg q1]
  by_cases q2 : c = 102
  · rw [b125_20, if_pos q2, b125_26, b125_61, if_pos q2, if_neg (by omega)]; rfl
  rw [b125_20, if_neg q2, if_neg q2]
  by_cases q3 : c = 116
  · rw [b125_30, if_pos q3, b125_36, b125_61, if_pos q3, if_neg (by omega)]; rfl
  rw [b125_30, if_neg q3, if_neg q3]
  by_cases q4 : c = 115
  · rw [b125_40, if_pos q4, b125_46, b125_61, if_pos q4, if_neg (by omega)]; rfl
  rw [b125_40, if_neg q4, if_neg q4]
  by_cases q5 : c = 100
  · rw [b125_50, if_pos q5, b125_56, b125_61, if_pos q5, if_neg (by omega)]; rfl
  rw [b125_50, if_neg q5, if_neg q5, b125_60, b125_61, if_pos rfl]; rfl
/-- a figure that is m at most, and its value -/
def zfg (c : Int32) (m : Nat) : Bool := decide (48 ≤ c.toInt ∧ c.toInt ≤ 48 + (m : Int))
def zvf (c : Int32) : Nat := (c.toInt - 48).toNat
theorem zfg_t {c : Int32} {m : Nat} : zfg c m = true ↔ 48 ≤ c.toInt ∧ c.toInt ≤ 48 + (m : Int) := by
  unfold zfg
  exact decide_eq_true_iff
theorem zvf_le {c : Int32} {m : Nat} (h : zfg c m = true) : zvf c ≤ m := by
  have := zfg_t.mp h
  unfold zvf
  omega
theorem zs48 {c : Int32} (h1 : -2000 ≤ c.toInt) (h2 : c.toInt ≤ 2000) : (c - 48).toInt = c.toInt - 48 := by
  rw [Int32.toInt_sub, show (48 : Int32).toInt = 48 from rfl, Int.bmod_def]
  omega
theorem zvf_eq {c : Int32} {m : Nat} (h : zfg c m = true) (hm : m ≤ 9) : c - 48 = nI (zvf c) := by
  have h1 := zfg_t.mp h
  apply Int32.toInt_inj.mp
  rw [zs48 (by omega) (by omega), nI_toInt (by have := zvf_le h; omega)]
  unfold zvf
  omega
/-- how large figure g of an item may be, behind the tens t -/
def zmxf (g t : Nat) : Nat := if g = 1 then 1 else if g = 2 then (if t = 1 then 1 else 9) else 9
theorem zmxf_le (g t : Nat) : zmxf g t ≤ 9 := by
  unfold zmxf
  repeat' split
  all_goals omega
set_option maxHeartbeats 1000000 in
theorem s23 (X : ab_X) (d : Nat) {c : Int32} (h1 : -2000 ≤ c.toInt) (h2 : c.toInt ≤ 2000) {g t : Nat} (hg : 1 ≤ g ∧ g ≤ 4) (ht : t ≤ 1) (h : ab_H) : ab_ru X d 23 [.int c, .int (nI g), .int (nI t)] h = some (some (.int (zb (zfg c (zmxf g t) = true))), h) := by
  have i48 : (c < (48 : Int32)) ↔ c.toInt < 48 := by rw [Int32.lt_iff_toInt_lt]; rfl
  have i57 : ((57 : Int32) < c) ↔ 57 < c.toInt := by rw [Int32.lt_iff_toInt_lt]; rfl
  have hm := zmxf_le g t
  rw [r23, b23_0]
  by_cases q1 : c.toInt < 48
  · rw [if_pos (i48.mpr q1), b23_12, zb_f (fun z => by have := zfg_t.mp z; omega)]
  rw [if_neg (fun z => q1 (i48.mp z)), b23_6]
  by_cases q2 : 57 < c.toInt
  · rw [if_pos (i57.mpr q2), b23_12, zb_f (fun z => by have := zfg_t.mp z; omega)]
  have h9 : zfg c 9 = true := zfg_t.mpr ⟨by omega, by omega⟩
  have hv := zvf_le h9
  have hvc : (zvf c : Int) = c.toInt - 48 := by unfold zvf; omega
  rw [if_neg (fun z => q2 (i57.mp z)), b23_14, zvf_eq h9 (Nat.le_refl _), zlit 1]
  by_cases g1 : g = 1
  · subst g1
    rw [if_pos rfl, b23_24, zlit 1]
    have hz : zmxf 1 t = 1 := rfl
    rw [hz]
    by_cases q3 : 1 < zvf c
    · rw [if_pos (nI_lt q3 (by omega)), b23_33, b23_34, if_pos ⟨rfl, rfl⟩, zb_f (fun z => by have := zvf_le z; omega)]
    · rw [if_neg (nI_nlt (by omega) (by omega)), b23_29, b23_34, if_pos ⟨rfl, rfl⟩, zb_t (zfg_t.mpr ⟨by omega, by omega⟩)]
  · rw [if_neg (fun z => g1 ((nI_eq (by omega) (by omega)).mp z)), b23_35, zlit 2]
    by_cases g2 : g = 2
    · subst g2
      have hz : zmxf 2 t = if t = 1 then 1 else 9 := rfl
      rw [if_pos rfl, b23_40, zlit 10, pk_mul, nI_add, zlit 12, hz]
      have hlt : t * 10 + zvf c < 12 ↔ zfg c (if t = 1 then 1 else 9) = true := by
        by_cases t1 : t = 1
        · rw [if_pos t1, zfg_t]; omega
        · rw [if_neg t1, zfg_t]; omega
      by_cases q3 : t * 10 + zvf c < 12
      · rw [if_pos (nI_lt q3 (by omega)), b23_51, b23_56, if_pos ⟨rfl, rfl⟩, zb_t (hlt.mp q3)]
      · rw [if_neg (nI_nlt (by omega) (by omega)), b23_55, b23_56, if_pos ⟨rfl, rfl⟩, zb_f (fun z => q3 (hlt.mpr z))]
    · have hz : zmxf g t = 9 := by unfold zmxf; rw [if_neg g1, if_neg g2]
      rw [if_neg (fun z => g2 ((nI_eq (by omega) (by omega)).mp z)), b23_51, b23_56, if_pos ⟨rfl, rfl⟩, hz, zb_t h9]
/-- the class's road through the signs b, from i on, n of them: m are left, k items, figure g, tens t -/
def zff (b : Nat → Int32) (n : Nat) : Nat → Nat → Nat → Nat → Nat → Int32
  | 0, _, k, g, _ => if g = 0 ∧ k ≠ 0 then -nI 9 else nI n
  | m + 1, i, k, g, t => if g = 0 then (if b i = 32 then zff b n m (i + 1) k 0 t else if k = 6 ∨ zkd (b i) = 6 then nI i else zff b n m (i + 1) (k + 1) 1 t) else if zfg (b i) (zmxf g t) = true then zff b n m (i + 1) k ((g + 1) % 5) (if g = 1 then zvf (b i) else t) else nI i
set_option maxHeartbeats 1000000 in
theorem s21 (X : ab_X) (d : Nat) {j n : Nat} (hj : j < 4) (hn : n ≤ 60) {h : ab_H} (hb : ∀ k, k < n → -128 ≤ (ab_gI h (10 + j) k).toInt ∧ (ab_gI h (10 + j) k).toInt ≤ 127) : ab_ru X (d + 1) 21 [.ref (10 + j), .int (nI n)] h = some (some (.int (zff (fun k => ab_gI h (10 + j) k) n n 0 0 0 0)), h) := by
  have key : ∀ m i k g t (v6 : Value), i + m = n → k ≤ 6 → g ≤ 4 → t ≤ 1 → ab_ex X (d + 1) 21 10 [.ref (10 + j), .int (nI n), .int (nI k), .int (nI g), .int (nI t), .int (nI i), v6] [] h = some (some (.int (zff (fun k => ab_gI h (10 + j) k) n m i k g t)), h) := by
    intro m
    induction m with
    | zero =>
      intro i k g t v6 hi hk hg ht
      rw [l21_10, if_neg (nI_nlt (by omega) (by omega)), b21_101, zlit 0]
      unfold zff
      by_cases g0 : g = 0
      · subst g0
        rw [if_pos rfl, b21_105, zlit 0]
        by_cases k0 : k = 0
        · subst k0
          rw [if_pos rfl, b21_109, b21_115, if_neg (fun z => z.2 rfl)]
        · rw [if_neg (fun z => k0 ((nI_eq (by omega) (by omega)).mp z)), b21_113, b21_115, if_pos ⟨rfl, k0⟩]
          rfl
      · rw [if_neg (fun z => g0 ((nI_eq (by omega) (by omega)).mp z)), b21_109, b21_115, if_neg (fun z => g0 z.1)]
    | succ m ih =>
      intro i k g t v6 hi hk hg ht
      rw [l21_10, if_pos (nI_lt (by omega) (by omega)), b21_16, zT_lb hj (by omega), zlit 0]
      unfold zff
      have hbi := hb i (by omega)
      by_cases g0 : g = 0
      · subst g0
        rw [if_pos rfl, if_pos rfl, b21_26]
        by_cases q1 : ab_gI h (10 + j) i = 32
        · rw [if_pos q1, if_pos q1, b21_33, b21_95, nI_1]
          exact ih (i + 1) k 0 t _ (by omega) hk (by omega) ht
        · rw [if_neg q1, if_neg q1, b21_36, zlit 6]
          by_cases q2 : k = 6
          · subst q2
            rw [if_pos rfl, b21_52, if_pos (Or.inl rfl)]
          · rw [if_neg (fun z => q2 ((nI_eq (by omega) (by omega)).mp z)), b21_42, s22]
            simp only [zpu_s, zpu_n, Option.bind_some]
            rw [b21_47, zlit 9]
            have hk9 := zkd_le (ab_gI h (10 + j) i)
            by_cases q3 : zkd (ab_gI h (10 + j) i) = 6
            · rw [if_pos q3, if_pos rfl, b21_52, if_pos (Or.inr q3)]
            · rw [if_neg q3, if_neg (fun z => by have := zneg9 (n := zkd (ab_gI h (10 + j) i)) (by omega); rw [this] at z; exact z), b21_55, b21_95, nI_1, nI_1, if_neg (fun z => z.elim q2 q3)]
              exact ih (i + 1) (k + 1) 1 t _ (by omega) (by omega) (by omega) ht
      · rw [if_neg (fun z => g0 ((nI_eq (by omega) (by omega)).mp z)), if_neg g0, b21_63, s23 X d (by omega) (by omega) (by omega) ht]
        simp only [zpu_s, zpu_n, Option.bind_some]
        rw [b21_71]
        simp only [zb_0]
        by_cases q1 : zfg (ab_gI h (10 + j) i) (zmxf g t) = true
        · rw [if_neg (fun z => z q1), if_pos q1, b21_77, zlit 1]
          have hm5 : ∀ g, g ≤ 4 → (nI g + 1) - (nI g + 1) / 5 * 5 = nI ((g + 1) % 5) := by
            intro g hg
            rw [nI_1, zlit 5, pk_rem (by omega) (by omega) (by omega)]
          have hlt : (g + 1) % 5 ≤ 4 := by omega
          by_cases g1 : g = 1
          · subst g1
            rw [if_pos rfl, if_pos rfl, b21_82, b21_89, hm5 1 (by omega), b21_95, nI_1, zvf_eq q1 (zmxf_le _ _)]
            exact ih (i + 1) k _ _ _ (by omega) hk hlt (zvf_le (m := 1) q1)
          · rw [if_neg (fun z => g1 ((nI_eq (by omega) (by omega)).mp z)), if_neg g1, b21_89, hm5 g hg, b21_95, nI_1]
            exact ih (i + 1) k _ _ _ (by omega) hk hlt ht
        · rw [if_pos q1, if_neg q1, b21_74]
  rw [r21, b21_0]
  exact key n 0 0 0 0 .null (by omega) (by omega) (by omega) (by omega)
