/-! the small language: the reference reads -/
theorem zd52 (X : ab_X) (h : ab_H) (K : Int32 → Option ab_R) : ab_ld X h 30 5248 K = K (ab_gI h 30 5248) := zd30 (k := 5248) (by omega) X h K
theorem zs52 (h : ab_H) (x : Int32) (K : ab_H → Option ab_R) : ab_sd h 30 5248 x K = K (ab_sI h 30 5248 x) := zs30 (k := 5248) (by omega) h x K
def zby (b : Nat → Int32) (n p : Nat) : Int32 := if p < n then b p else -nI 1000
/-- what the reference needs of a text -/
def zTx (h : ab_H) (j n : Nat) (b : Nat → Int32) : Prop := ab_gI h 35 j = nI n ∧ ∀ k, k < n → ab_gI h 34 (60 * j + k) = b k
/-- alike but for what the reference reads into -/
def zFp (h h' : ab_H) : Prop := (∀ c i, c ≠ 29 → c ≠ 30 → ab_gI h' c i = ab_gI h c i) ∧ (∀ i, i ≠ 13 → ab_gI h' 29 i = ab_gI h 29 i) ∧ (∀ i, i < 5248 → ab_gI h' 30 i = ab_gI h 30 i) ∧ ∀ c i, ab_gJ h' c i = ab_gJ h c i
theorem zFp_refl (h : ab_H) : zFp h h := ⟨fun _ _ _ _ => rfl, fun _ _ => rfl, fun _ _ => rfl, fun _ _ => rfl⟩
theorem zFp_trans {h h' h'' : ab_H} (a : zFp h h') (b : zFp h' h'') : zFp h h'' := ⟨fun c i h1 h2 => (b.1 c i h1 h2).trans (a.1 c i h1 h2), fun i hi => (b.2.1 i hi).trans (a.2.1 i hi), fun i hi => (b.2.2.1 i hi).trans (a.2.2.1 i hi), fun c i => (b.2.2.2 c i).trans (a.2.2.2 c i)⟩
theorem zFp_13 (h : ab_H) (x : Int32) : zFp h (ab_sI h 29 13 x) := ⟨fun c i h1 _ => zg_ne h1 _ _ _ _, fun i hi => zg_nj hi _ _ _, fun i _ => zg_ne (by omega) _ _ _ _, fun _ _ => rfl⟩
theorem zTx_fr {h h' : ab_H} {j n : Nat} {b : Nat → Int32} (f : zFp h h') (x : zTx h j n b) : zTx h' j n b := ⟨(f.1 35 j (by omega) (by omega)).trans x.1, fun k hk => (f.1 34 _ (by omega) (by omega)).trans (x.2 k hk)⟩
theorem s123 (X : ab_X) (d : Nat) {j n p : Nat} {b : Nat → Int32} (hj : j < 4) (hn : n ≤ 60) (hp : p < 1000) {h : ab_H} (x : zTx h j n b) : ab_ru X d 123 [.ref 29, .int (nI j), .int (nI p)] h = some (some (.int (zby b n p)), h) := by
  unfold zby
  by_cases q : p < n
  · have e := x.2 p q
    have em : (60 : Int32) * nI j + nI p = nI (60 * j + p) := by
      simp (discharger := omega) only [zlit, Bool.false_eq_true, zlt_t, zlt_f, zeq_t, zeq_f, nI_add, pk_mul, zb_0, zb_n0, not_true_eq_false, not_false_eq_true, Classical.not_not, if_true, if_false, ite_true, ite_false, and_self, and_true, true_and, and_false, false_and, or_self, or_true, true_or, or_false, false_or, reduceIte]
    rw [if_pos q, r123, b123_0, zd35 (by omega), x.1, if_pos (nI_lt q (by omega)), b123_10, em, zd34 (by omega), e, b123_27]
  · rw [if_neg q, r123, b123_0, zd35 (by omega), x.1, if_neg (nI_nlt (by omega) (by omega)), b123_24, b123_27]
    rfl
theorem zby_r {b : Nat → Int32} {n : Nat} (hb : ∀ k, k < n → -128 ≤ (b k).toInt ∧ (b k).toInt ≤ 127) (p : Nat) : -2000 ≤ (zby b n p).toInt ∧ (zby b n p).toInt ≤ 2000 := by
  unfold zby
  split
  · rename_i q
    have := hb p q
    omega
  · exact ⟨by decide, by decide⟩
theorem s126 (X : ab_X) (d : Nat) {j n p m : Nat} {b : Nat → Int32} (hj : j < 4) (hn : n ≤ 60) (hp : p < 1000) (hm : m ≤ 9) (hb : ∀ k, k < n → -128 ≤ (b k).toInt ∧ (b k).toInt ≤ 127) {h : ab_H} (x : zTx h j n b) (e13 : ab_gI h 29 13 = nI p) : ab_ru X (d + 1) 126 [.ref 29, .int (nI j), .int (nI m)] h = if zfg (zby b n p) m = true then some (some (.int (nI (zvf (zby b n p)))), ab_sI h 29 13 (nI (p + 1))) else some (some (.int (-nI 1)), h) := by
  obtain ⟨r1, r2⟩ := zby_r hb p
  rw [r126, b126_0, e13, s123 X d hj hn hp x]
  simp only [zpu_s, zpu_n, Option.bind_some]
  rw [b126_9, zJ0, s107i]
  have hi : (¬ zby b n p - 48 < nI 0 ∧ ¬ nI m < zby b n p - 48) ↔ zfg (zby b n p) m = true := by
    rw [zfg_t, Int32.lt_iff_toInt_lt, Int32.lt_iff_toInt_lt, zs48 r1 r2, nI_toInt (by omega), nI_toInt (by omega)]
    omega
  simp only [zpu_s, zpu_n, Option.bind_some]
  rw [b126_21]
  simp only [zb_0]
  by_cases q : zfg (zby b n p) m = true
  · rw [if_pos q, if_neg (fun z => z (hi.mpr q)), b126_26, e13, nI_1, zvf_eq q hm]
  · rw [if_neg q, if_pos (fun z => q (hi.mp z)), b126_24]
    rfl
theorem zff_g {b : Nat → Int32} {n m i k g t : Nat} (hg : g ≠ 0) (hi : i + m = n) : zff b n m i k g t = if zfg (zby b n i) (zmxf g t) = true then zff b n (m - 1) (i + 1) k ((g + 1) % 5) (if g = 1 then zvf (zby b n i) else t) else nI i := by
  cases m with
  | zero =>
    have e : zby b n i = -nI 1000 := by unfold zby; rw [if_neg (by omega)]
    have e2 : zfg (-nI 1000) (zmxf g t) = false := by
      have : ∀ x, x ≤ 9 → zfg (-nI 1000) x = false := by decide
      exact this _ (zmxf_le g t)
    rw [e, e2, if_neg (by decide)]
    unfold zff
    rw [if_neg (fun z => hg z.1), show i = n by omega]
  | succ m =>
    have e : zby b n i = b i := by unfold zby; rw [if_pos (by omega)]
    rw [e]
    show (if g = 0 then _ else _) = _
    rw [if_neg hg, Nat.add_sub_cancel]
/-- blanks are gone over -/
theorem s122 (X : ab_X) (d : Nat) {j n : Nat} {b : Nat → Int32} (hj : j < 4) (hn : n ≤ 60) : ∀ (m i : Nat) (h : ab_H), i + m = n → zTx h j n b → ab_gI h 29 13 = nI i → ∃ i' m' h', i' + m' = n ∧ i ≤ i' ∧ (∀ k, i ≤ k → k < i' → b k = 32) ∧ (m' = 0 ∨ b i' ≠ 32) ∧ ab_ex X (d + 1) 122 0 [.ref 29, .int (nI j)] [] h = some (none, h') ∧ ab_gI h' 29 13 = nI i' ∧ (∀ k, ab_gI h' 30 k = ab_gI h 30 k) ∧ zFp h h' ∧ ∀ k t, zff b n m i k 0 t = zff b n m' i' k 0 t := by
  intro m
  induction m with
  | zero =>
    intro i h hi x e13
    refine ⟨i, 0, h, hi, Nat.le_refl _, fun k h1 h2 => by omega, Or.inl rfl, ?_, e13, fun _ => rfl, zFp_refl h, fun _ _ => rfl⟩
    rw [l122_0, e13, s123 X d hj hn (by omega) x]
    have e : zby b n i = -nI 1000 := by unfold zby; rw [if_neg (by omega)]
    simp only [zpu_s, zpu_n, Option.bind_some, e]
    rw [b122_9, if_neg (by decide), b122_27]
  | succ m ih =>
    intro i h hi x e13
    have e : zby b n i = b i := by unfold zby; rw [if_pos (by omega)]
    by_cases q : b i = 32
    · obtain ⟨i', m', h', p1, p2, p3, p4, p5, p6, p7, p8, p9⟩ := ih (i + 1) (ab_sI h 29 13 (nI (i + 1))) (by omega) (zTx_fr (zFp_13 h _) x) (zg_eq _ _ _ _)
      refine ⟨i', m', h', p1, by omega, fun k h1 h2 => ?_, p4, ?_, p6, fun k => (p7 k).trans (zg_ne (by omega) _ _ _ _), zFp_trans (zFp_13 h _) p8, fun k t => ?_⟩
      · by_cases qk : k = i
        · subst qk; exact q
        · exact p3 k (by omega) h2
      · rw [l122_0, e13, s123 X d hj hn (by omega) x, e]
        simp only [zpu_s, zpu_n, Option.bind_some]
        rw [b122_9, if_pos q, b122_14, e13, nI_1]
        exact p5
      · rw [← p9 k t]
        show (if 0 = 0 then (if b i = 32 then _ else _) else _) = _
        rw [if_pos rfl, if_pos q]
    · refine ⟨i, m + 1, h, hi, Nat.le_refl _, fun k h1 h2 => by omega, Or.inr q, ?_, e13, fun _ => rfl, zFp_refl h, fun _ _ => rfl⟩
      rw [l122_0, e13, s123 X d hj hn (by omega) x, e]
      simp only [zpu_s, zpu_n, Option.bind_some]
      rw [b122_9, if_neg q, b122_27]
/-- an item read into the reference's store -/
def zhw (b : Nat → Int32) (p : Nat) : Int32 := (((1 <<< (nI (zvf (b (p + 3))) &&& 31)) - 1) <<< (nI (10 * zvf (b (p + 1)) + zvf (b (p + 2))) &&& 31)) &&& 4095
def zitm (b : Nat → Int32) (p k : Nat) (S : zS) : zS := upd (upd (upd (upd S (2 + k) (nI (zkd (b p)))) (8 + k) (zhw b p)) (20 + k) (nI (zvf (b (p + 4))))) 0 (nI (k + 1))
/-- an item whole and right -/
def zgd (b : Nat → Int32) (n p : Nat) : Prop := p + 5 ≤ n ∧ b p ≠ 32 ∧ zkd (b p) ≠ 6 ∧ zfg (b (p + 1)) 1 = true ∧ zfg (b (p + 2)) (if zvf (b (p + 1)) = 1 then 1 else 9) = true ∧ zfg (b (p + 3)) 9 = true ∧ zfg (b (p + 4)) 9 = true
theorem zfg_by {b : Nat → Int32} {n p m : Nat} (hm : m ≤ 9) (h : zfg (zby b n p) m = true) : p < n ∧ zby b n p = b p := by
  by_cases q : p < n
  · exact ⟨q, if_pos q⟩
  · have e : zby b n p = -nI 1000 := if_neg q
    rw [e] at h
    have : ∀ x, x ≤ 9 → zfg (-nI 1000) x = false := by decide
    rw [this m hm] at h
    cases h
set_option maxHeartbeats 2000000 in
/-- a house is taken, or there is a fault -/
theorem s124 (X : ab_X) (d : Nat) {j n i m k t : Nat} {b : Nat → Int32} (hj : j < 4) (hn : n ≤ 60) (hi : i + m = n) (hk : k ≤ 6) (hb : ∀ k, k < n → -128 ≤ (b k).toInt ∧ (b k).toInt ≤ 127) {h : ab_H} (x : zTx h j n b) (e13 : ab_gI h 29 13 = nI i) (eN : ab_gI h 30 5248 = nI k) (h32 : m = 0 ∨ b i ≠ 32) (hmk : m = 0 → k = 0) :
    (∃ h' p, ab_ru X (d + 2) 124 [.ref 29, .int (nI j)] h = some (some (.int (nI 0)), h') ∧ ab_gI h' 29 13 = nI p ∧ p ≤ n ∧ zFp h h' ∧ zff b n m i k 0 t = nI p) ∨ (∃ h' t', ab_ru X (d + 2) 124 [.ref 29, .int (nI j)] h = some (some (.int (nI 1)), h') ∧ ab_gI h' 29 13 = nI (i + 5) ∧ k < 6 ∧ zgd b n i ∧ zFp h h' ∧ (∀ S : zS, (∀ q, q < 32 → ab_gI h 30 (5248 + q) = S q) → ∀ q, q < 32 → ab_gI h' 30 (5248 + q) = zitm b i k S q) ∧ zff b n m i k 0 t = zff b n (m - 5) (i + 5) (k + 1) 0 t') := by
  have e0 : ab_ru X (d + 2) 124 [.ref 29, .int (nI j)] h = ab_ex X (d + 2) 124 12 [.ref 29, .int (nI j), .null, .null, .null, .null, .null, .null] [.int (if zkd (zby b n i) = 6 then -nI 1 else nI (zkd (zby b n i)))] h := by
    rw [r124, b124_0, e13, s123 X (d + 1) hj hn (by omega) x]
    simp only [zpu_s, zpu_n, Option.bind_some]
    rw [b124_9, s125]
    simp only [zpu_s, zpu_n, Option.bind_some]
  have hkd := zkd_le (zby b n i)
  by_cases q1 : zkd (zby b n i) = 6
  · left
    refine ⟨h, i, ?_, e13, by omega, zFp_refl h, ?_⟩
    · rw [e0, if_pos q1, b124_12, zd52, eN, if_pos (by decide), b124_32]
      rfl
    · cases m with
      | zero =>
        have := hmk rfl
        subst this
        unfold zff
        rw [if_neg (fun z => z.2 rfl), show i = n by omega]
      | succ m =>
        have e : zby b n i = b i := if_pos (by omega)
        rw [e] at q1
        show (if 0 = 0 then (if b i = 32 then _ else if k = 6 ∨ zkd (b i) = 6 then nI i else _) else _) = _
        rw [if_pos rfl, if_neg (h32.resolve_left (by omega)), if_pos (Or.inr q1)]
  rw [if_neg q1, b124_12, zd52, eN, zlit 0, if_neg (nI_nlt (by omega) (by omega))] at e0
  cases m with
  | zero =>
    exfalso
    have e : zby b n i = -nI 1000 := if_neg (by omega)
    rw [e] at q1
    exact q1 (by decide)
  | succ m =>
  have eby : zby b n i = b i := if_pos (by omega)
  rw [eby] at q1 e0 hkd
  have h32' : b i ≠ 32 := h32.resolve_left (by omega)
  by_cases q2 : k = 6
  · left
    subst q2
    refine ⟨h, i, ?_, e13, by omega, zFp_refl h, ?_⟩
    · rw [e0, b124_26, zlit 6, if_pos rfl, b124_32]
      rfl
    · show (if 0 = 0 then (if b i = 32 then _ else if 6 = 6 ∨ zkd (b i) = 6 then nI i else _) else _) = _
      rw [if_pos rfl, if_neg h32', if_pos (Or.inl rfl)]
  rw [b124_26, zlit 6, if_neg (fun z => q2 ((nI_eq (by omega) (by omega)).mp z)), b124_34, e13, nI_1] at e0
  have f0 : zff b n (m + 1) i k 0 t = zff b n m (i + 1) (k + 1) 1 t := by
    show (if 0 = 0 then (if b i = 32 then _ else if k = 6 ∨ zkd (b i) = 6 then nI i else _) else _) = _
    rw [if_pos rfl, if_neg h32', if_neg (fun z => z.elim q2 q1)]
  rw [zff_g (g := 1) (by omega) (by omega)] at f0
  have F1 := zFp_13 h (nI (i + 1))
  have x1 := zTx_fr F1 x
  have a1 := s126 X d hj hn (p := i + 1) (m := 1) (by omega) (by omega) hb x1 (zg_eq _ _ _ _)
  have a1' : ab_ru X (d + 1) 126 [.ref 29, .int (nI j), .int 1] (ab_sI h 29 13 (nI (i + 1))) = _ := a1
  rw [a1'] at e0
  have m1 : zmxf 1 t = 1 := rfl
  rw [m1] at f0
  generalize hh1 : ab_sI h 29 13 (nI (i + 1)) = h1 at e0 F1 x1
  have g1 : ab_gI h1 29 13 = nI (i + 1) := by rw [← hh1, zg_eq]
  have g1w : ∀ q, ab_gI h1 30 q = ab_gI h 30 q := fun q => by rw [← hh1, zg_ne (by omega)]
  by_cases p1 : zfg (zby b n (i + 1)) 1 = true
  rotate_left
  · left
    rw [if_neg p1] at e0 f0
    refine ⟨h1, i + 1, ?_, g1, by omega, F1, f0⟩
    rw [e0]
    simp only [zpu_s, zpu_n, Option.bind_some]
    rw [b124_50, if_pos (by decide), b124_57, b124_78, if_pos (by decide), b124_85, b124_96, if_pos (by decide), b124_103, b124_114, if_pos (by decide), b124_121]
    rfl
  obtain ⟨l1, y1⟩ := zfg_by (by omega) p1
  rw [if_pos p1] at e0 f0
  rw [y1] at e0 f0 p1
  have v1 := zvf_le p1
  simp only [zpu_s, zpu_n, Option.bind_some] at e0
  rw [b124_50, zlit 0, if_neg (nI_nlt (by omega) (by omega))] at e0
  have f0' : zff b n (m + 1) i k 0 t = zff b n (m - 1) (i + 1 + 1) (k + 1) 2 (zvf (b (i + 1))) := f0
  clear f0
  rw [zff_g (g := 2) (by omega) (by omega)] at f0'
  have F2 := zFp_trans F1 (zFp_13 h1 (nI (i + 1 + 1)))
  have x2 := zTx_fr F2 x
  generalize hh2 : ab_sI h1 29 13 (nI (i + 1 + 1)) = h2 at e0 F2 x2
  have g2 : ab_gI h2 29 13 = nI (i + 2) := by rw [← hh2, zg_eq]
  have g2w : ∀ q, ab_gI h2 30 q = ab_gI h 30 q := fun q => by rw [← hh2, zg_ne (by omega)]; exact g1w q
  have mx2 : zmxf 2 (zvf (b (i + 1))) = if zvf (b (i + 1)) = 1 then 1 else 9 := rfl
  have a2 := s126 X d hj hn (p := i + 2) (m := zmxf 2 (zvf (b (i + 1)))) (by omega) (zmxf_le _ _) hb x2 g2
  have e2 : ab_ru X (d + 2) 124 [.ref 29, .int (nI j)] h = (ab_ru X (d + 1) 126 [.ref 29, .int (nI j), .int (nI (zmxf 2 (zvf (b (i + 1)))))] h2).bind (fun z => ab_ex X (d + 2) 124 78 [.ref 29, .int (nI j), .int (nI (zkd (b i))), .int (nI k), .int (nI (zvf (b (i + 1)))), .null, .null, .null] (ab_pu z.1 []) z.2) := by
    rw [e0, b124_61, zlit 1, mx2]
    by_cases qt : zvf (b (i + 1)) = 1
    · rw [qt, if_pos rfl, if_pos rfl, b124_69, b124_75]
      rfl
    · rw [if_neg (fun z => qt ((nI_eq (by omega) (by omega)).mp z)), if_neg qt, b124_73, b124_75]
      rfl
  clear e0
  rw [a2] at e2
  by_cases p2 : zfg (zby b n (i + 2)) (zmxf 2 (zvf (b (i + 1)))) = true
  rotate_left
  · left
    have f1 : zff b n (m + 1) i k 0 t = nI (i + 2) := f0'.trans (if_neg p2)
    rw [if_neg p2] at e2
    refine ⟨h2, i + 2, ?_, g2, by omega, F2, f1⟩
    rw [e2]
    simp only [zpu_s, zpu_n, Option.bind_some]
    rw [b124_78, if_pos (by decide), b124_85, b124_96, if_pos (by decide), b124_103, b124_114, if_pos (by decide), b124_121]
    rfl
  obtain ⟨l2, y2⟩ := zfg_by (zmxf_le _ _) p2
  have f1 : zff b n (m + 1) i k 0 t = zff b n (m - 1 - 1) (i + 3) (k + 1) 3 (zvf (b (i + 1))) := f0'.trans (if_pos p2)
  clear f0'
  rw [if_pos p2, y2] at e2
  rw [y2] at p2
  have v2 := zvf_le p2
  have v2' := zmxf_le 2 (zvf (b (i + 1)))
  simp only [zpu_s, zpu_n, Option.bind_some] at e2
  rw [b124_78, zlit 0, if_neg (nI_nlt (by omega) (by omega))] at e2
  rw [zff_g (g := 3) (by omega) (by omega)] at f1
  have F3 := zFp_trans F2 (zFp_13 h2 (nI (i + 2 + 1)))
  have x3 := zTx_fr F3 x
  generalize hh3 : ab_sI h2 29 13 (nI (i + 2 + 1)) = h3 at e2 F3 x3
  have g3 : ab_gI h3 29 13 = nI (i + 3) := by rw [← hh3, zg_eq]
  have g3w : ∀ q, ab_gI h3 30 q = ab_gI h 30 q := fun q => by rw [← hh3, zg_ne (by omega)]; exact g2w q
  have a3 := s126 X d hj hn (p := i + 3) (m := 9) (by omega) (by omega) hb x3 g3
  have a3' : ab_ru X (d + 1) 126 [.ref 29, .int (nI j), .int 9] h3 = _ := a3
  rw [b124_89, a3'] at e2
  have m3 : zmxf 3 (zvf (b (i + 1))) = 9 := rfl
  rw [m3] at f1
  by_cases p3 : zfg (zby b n (i + 3)) 9 = true
  rotate_left
  · left
    rw [if_neg p3] at e2 f1
    refine ⟨h3, i + 3, ?_, g3, by omega, F3, f1⟩
    rw [e2]
    simp only [zpu_s, zpu_n, Option.bind_some]
    rw [b124_96, if_pos (by decide), b124_103, b124_114, if_pos (by decide), b124_121]
    rfl
  obtain ⟨l3, y3⟩ := zfg_by (by omega) p3
  rw [if_pos p3] at e2 f1
  have f2 : zff b n (m + 1) i k 0 t = zff b n (m - 1 - 1 - 1) (i + 4) (k + 1) 4 (zvf (b (i + 1))) := f1
  clear f1
  rw [y3] at e2 p3
  have v3 := zvf_le p3
  simp only [zpu_s, zpu_n, Option.bind_some] at e2
  rw [b124_96, zlit 0, if_neg (nI_nlt (by omega) (by omega))] at e2
  rw [zff_g (g := 4) (by omega) (by omega)] at f2
  have F4 := zFp_trans F3 (zFp_13 h3 (nI (i + 3 + 1)))
  have x4 := zTx_fr F4 x
  generalize hh4 : ab_sI h3 29 13 (nI (i + 3 + 1)) = h4 at e2 F4 x4
  have g4 : ab_gI h4 29 13 = nI (i + 4) := by rw [← hh4, zg_eq]
  have g4w : ∀ q, ab_gI h4 30 q = ab_gI h 30 q := fun q => by rw [← hh4, zg_ne (by omega)]; exact g3w q
  have a4 := s126 X d hj hn (p := i + 4) (m := 9) (by omega) (by omega) hb x4 g4
  have a4' : ab_ru X (d + 1) 126 [.ref 29, .int (nI j), .int 9] h4 = _ := a4
  rw [b124_107, a4'] at e2
  have m4 : zmxf 4 (zvf (b (i + 1))) = 9 := rfl
  rw [m4] at f2
  by_cases p4 : zfg (zby b n (i + 4)) 9 = true
  rotate_left
  · left
    rw [if_neg p4] at e2 f2
    refine ⟨h4, i + 4, ?_, g4, by omega, F4, f2⟩
    rw [e2]
    simp only [zpu_s, zpu_n, Option.bind_some]
    rw [b124_114, if_pos (by decide), b124_121]
    rfl
  obtain ⟨l4, y4⟩ := zfg_by (by omega) p4
  rw [if_pos p4] at e2 f2
  rw [y4] at e2 p4
  have v4 := zvf_le p4
  simp only [zpu_s, zpu_n, Option.bind_some] at e2
  rw [b124_114, zlit 0, if_neg (nI_nlt (by omega) (by omega))] at e2
  have F5 := zFp_trans F4 (zFp_13 h4 (nI (i + 4 + 1)))
  generalize hh5 : ab_sI h4 29 13 (nI (i + 4 + 1)) = h5 at e2 F5
  have g5 : ab_gI h5 29 13 = nI (i + 5) := by rw [← hh5, zg_eq]
  have g5w : ∀ q, ab_gI h5 30 q = ab_gI h 30 q := fun q => by rw [← hh5, zg_ne (by omega)]; exact g4w q
  right
  have em : (10 : Int32) * nI (zvf (b (i + 1))) + nI (zvf (b (i + 2))) = nI (10 * zvf (b (i + 1)) + zvf (b (i + 2))) := by
    rw [zlit 10, pk_mul, nI_add]
  have k2 : (5250 : Int32) + nI k = nI (5250 + k) := nI_add 5250 k
  have k8 : (5256 : Int32) + nI k = nI (5256 + k) := nI_add 5256 k
  have k20 : (5268 : Int32) + nI k = nI (5268 + k) := nI_add 5268 k
  refine ⟨ab_sI (ab_sI (ab_sI (ab_sI h5 30 (5250 + k) (nI (zkd (b i)))) 30 (5256 + k) (zhw b i)) 30 (5268 + k) (nI (zvf (b (i + 4))))) 30 5248 (nI (k + 1)), zvf (b (i + 1)), ?_, ?_, by omega, ⟨by omega, h32', q1, p1, p2, p3, p4⟩, ⟨fun c l h1 h2 => ?_, fun l hl => ?_, fun l hl => ?_, fun c l => ?_⟩, fun S hS q hq => ?_, ?_⟩
  · rw [e2, b124_123, k2, zs30 (by omega), em, r127, b127_0]
    simp only [zpu_s, zpu_n, Option.bind_some]
    rw [k8, b124_156, zs30 (by omega), k20, zs30 (by omega), zd52, zg_nj (by omega), zg_nj (by omega), zg_nj (by omega), g5w, eN, nI_1, zs52]
    rfl
  · rw [zg_ne (by omega), zg_ne (by omega), zg_ne (by omega), zg_ne (by omega)]; exact g5
  · rw [zg_ne h2, zg_ne h2, zg_ne h2, zg_ne h2]; exact F5.1 c l h1 h2
  · rw [zg_ne (by omega), zg_ne (by omega), zg_ne (by omega), zg_ne (by omega)]; exact F5.2.1 l hl
  · rw [zg_nj (by omega), zg_nj (by omega), zg_nj (by omega), zg_nj (by omega)]; exact F5.2.2.1 l hl
  · exact F5.2.2.2 c l
  · unfold zitm upd
    rw [zg_same, zg_same, zg_same, zg_same, g5w, hS q hq]
    by_cases z0 : q = 0
    · rw [if_pos (by omega), if_pos z0]
    rw [if_neg (by omega), if_neg z0]
    by_cases z1 : q = 20 + k
    · rw [if_pos (by omega), if_pos z1]
    rw [if_neg (by omega), if_neg z1]
    by_cases z2 : q = 8 + k
    · rw [if_pos (by omega), if_pos z2]
    rw [if_neg (by omega), if_neg z2]
    by_cases z3 : q = 2 + k
    · rw [if_pos (by omega), if_pos z3]
    rw [if_neg (by omega), if_neg z3]
  · rw [f2, show m - 1 - 1 - 1 - 1 = m + 1 - 5 by omega]
    rfl
