/-! best, most, soon -/
/-- all rounds but the first, which has no stop -/
def ztl (N : Nat) : List (List Nat) := zchl (fun x => zpre N 5 (x :: [])) [] N
theorem zw_M (e : Nat → Int32) (D : Nat → Nat) : ∀ (l : List (List Nat)) (T : zT), (l.foldl (zw1 e D) T).2.1 = zfX2 e D T.2.1 l
  | [], _ => rfl
  | b :: t, T => zw_M e D t (zw1 e D T b)
theorem zw_C (e : Nat → Int32) (D : Nat → Nat) : ∀ (l : List (List Nat)) (T : zT), (l.foldl (zw1 e D) T).2.2.2 = zfC e D T.2.2.2 l
  | [], _ => rfl
  | b :: t, T => zw_C e D t (zw1 e D T b)
theorem zfX2_ge (e : Nat → Int32) (D : Nat → Nat) : ∀ (l : List (List Nat)) (m : Nat), m ≤ zfX2 e D m l
  | [], _ => Nat.le_refl _
  | b :: t, m => by
    have := zfX2_ge e D t (if m < (zvv e D b).2.2.1 then (zvv e D b).2.2.1 else m)
    show m ≤ zfX2 e D (if m < (zvv e D b).2.2.1 then (zvv e D b).2.2.1 else m) t
    split at this <;> rename_i q
    · rw [if_pos q]; omega
    · rw [if_neg q]; omega
theorem zfX2_at (e : Nat → Int32) (D : Nat → Nat) : ∀ (l : List (List Nat)) (m : Nat), zfX2 e D m l = m ∨ ∃ x, x ∈ l ∧ (zvv e D x).2.2.1 = zfX2 e D m l
  | [], _ => Or.inl rfl
  | b :: t, m => by
    show zfX2 e D (if m < (zvv e D b).2.2.1 then (zvv e D b).2.2.1 else m) t = m ∨ ∃ x, x ∈ b :: t ∧ (zvv e D x).2.2.1 = zfX2 e D (if m < (zvv e D b).2.2.1 then (zvv e D b).2.2.1 else m) t
    rcases zfX2_at e D t (if m < (zvv e D b).2.2.1 then (zvv e D b).2.2.1 else m) with q | ⟨x, hx, q⟩
    · rw [q]
      split
      · exact Or.inr ⟨b, List.mem_cons_self, rfl⟩
      · exact Or.inl rfl
    · exact Or.inr ⟨x, List.mem_cons_of_mem _ hx, q⟩
theorem zw_S (e : Nat → Int32) (D : Nat → Nat) : ∀ (l : List (List Nat)) (T : zT), (∀ x, x ∈ l → (zvv e D x).2.2.2.2.1 < 12) → (l.foldl (zw1 e D) T).2.2.1 = zfS e D (zfX2 e D T.2.1 l) (if T.2.1 = zfX2 e D T.2.1 l then T.2.2.1 else 12) l
  | [], T, _ => by
    show T.2.2.1 = if T.2.1 = T.2.1 then T.2.2.1 else 12
    rw [if_pos rfl]
  | b :: t, T, hb => by
    have h12 := hb b List.mem_cons_self
    have ih := zw_S e D t (zw1 e D T b) (fun x hx => hb x (List.mem_cons_of_mem _ hx))
    have eM : zfX2 e D T.2.1 (b :: t) = zfX2 e D (zw1 e D T b).2.1 t := rfl
    have g1 := zfX2_ge e D t (zw1 e D T b).2.1
    show (t.foldl (zw1 e D) (zw1 e D T b)).2.2.1 = zfS e D (zfX2 e D T.2.1 (b :: t)) (if (zvv e D b).2.2.1 = zfX2 e D T.2.1 (b :: t) ∧ (zvv e D b).2.2.2.2.1 < (if T.2.1 = zfX2 e D T.2.1 (b :: t) then T.2.2.1 else 12) then (zvv e D b).2.2.2.2.1 else (if T.2.1 = zfX2 e D T.2.1 (b :: t) then T.2.2.1 else 12)) t
    rw [ih, eM]
    congr 1
    generalize zfX2 e D (zw1 e D T b).2.1 t = M at g1
    have w1 : (zw1 e D T b).2.1 = if T.2.1 < (zvv e D b).2.2.1 then (zvv e D b).2.2.1 else T.2.1 := rfl
    have w2 : (zw1 e D T b).2.2.1 = if T.2.1 < (zvv e D b).2.2.1 then (zvv e D b).2.2.2.2.1 else if (zvv e D b).2.2.1 = T.2.1 then (if (zvv e D b).2.2.2.2.1 < T.2.2.1 then (zvv e D b).2.2.2.2.1 else T.2.2.1) else T.2.2.1 := rfl
    rw [w1] at g1
    rw [w1, w2]
    by_cases q1 : T.2.1 < (zvv e D b).2.2.1
    · rw [if_pos q1] at g1
      simp only [if_pos q1]
      rw [if_neg (show ¬ T.2.1 = M by omega)]
      by_cases q2 : (zvv e D b).2.2.1 = M
      · rw [if_pos q2, if_pos ⟨q2, h12⟩]
      · rw [if_neg q2, if_neg (fun z => q2 z.1)]
    · rw [if_neg q1] at g1
      simp only [if_neg q1]
      by_cases q2 : (zvv e D b).2.2.1 = T.2.1
      · simp only [if_pos q2]
        by_cases q3 : T.2.1 = M
        · simp only [if_pos q3]
          by_cases q4 : (zvv e D b).2.2.2.2.1 < T.2.2.1
          · rw [if_pos q4, if_pos ⟨q2.trans q3, q4⟩]
          · rw [if_neg q4, if_neg (fun z => q4 z.2)]
        · simp only [if_neg q3]
          rw [if_neg (fun z => q3 (q2.symm.trans z.1))]
      · have q4 : ¬ (zvv e D b).2.2.1 = M := by omega
        simp only [if_neg q2, q4, false_and, if_false]
theorem zw_R (e : Nat → Int32) (D : Nat → Nat) : ∀ (l : List (List Nat)) (T : zT), (l.foldl (zw1 e D) T).1 = if T.2.1 < zfX2 e D T.2.1 l then zfst e D (zfX2 e D T.2.1 l) l else T.1
  | [], T => by
    show T.1 = if T.2.1 < T.2.1 then _ else T.1
    rw [if_neg (Nat.lt_irrefl _)]
  | b :: t, T => by
    have ih := zw_R e D t (zw1 e D T b)
    have eM : zfX2 e D T.2.1 (b :: t) = zfX2 e D (zw1 e D T b).2.1 t := rfl
    have g1 := zfX2_ge e D t (zw1 e D T b).2.1
    show (t.foldl (zw1 e D) (zw1 e D T b)).1 = if T.2.1 < zfX2 e D T.2.1 (b :: t) then (if (zvv e D b).2.2.1 < zfX2 e D T.2.1 (b :: t) then zfst e D (zfX2 e D T.2.1 (b :: t)) t else b) else T.1
    rw [ih, eM]
    generalize zfX2 e D (zw1 e D T b).2.1 t = M at g1
    have w1 : (zw1 e D T b).2.1 = if T.2.1 < (zvv e D b).2.2.1 then (zvv e D b).2.2.1 else T.2.1 := rfl
    have w2 : (zw1 e D T b).1 = if T.2.1 < (zvv e D b).2.2.1 then b else T.1 := rfl
    rw [w1] at g1
    rw [w1, w2]
    by_cases q1 : T.2.1 < (zvv e D b).2.2.1
    · rw [if_pos q1] at g1
      simp only [if_pos q1]
      rw [if_pos (show T.2.1 < M by omega)]
    · rw [if_neg q1] at g1
      simp only [if_neg q1]
      by_cases q3 : T.2.1 < M
      · rw [if_pos q3, if_pos q3, if_pos (by omega)]
      · rw [if_neg q3, if_neg q3]
theorem zTT_e (h : ab_H) (N : Nat) : zTT h N = (ztl N).foldl (zw1 (zEm h) (zdn h)) ([], 0, 0, 0, 1) := rfl
theorem zall_mem {N : Nat} : ∀ {l : List (List Nat)}, zall N l = true → ∀ x, x ∈ l → zok N x = true ∧ x.length ≤ 6
  | [], _, x, hx => by cases hx
  | b :: t, q, x, hx => by
    obtain ⟨b1, b2, b3⟩ := zall_c q
    rcases List.mem_cons.mp hx with e | hx
    · subst e; exact ⟨b1, b2⟩
    · exact zall_mem b3 x hx
theorem zdn_congr {h h' : ab_H} (e : ∀ i, ab_gI h' 30 i = ab_gI h 30 i) : zdn h' = zdn h := funext fun i => by unfold zdn; rw [e]
/-- the most letters that a round brings, by the reference -/
theorem s160 (X : ab_X) (d : Nat) {N : Nat} (hN : N ≤ 6) {h : ab_H} (n5 : ab_gI h 30 0 = nI N) (t1 : ∀ i, i < N → ∃ k, k < 6 ∧ ab_gI h 30 (2 + i) = nI k) (t4 : ∀ i, i < N → ∃ q, q ≤ 99 ∧ ab_gI h 30 (20 + i) = nI q) : ∃ h', ab_ru X (d + 3) 160 [.ref 29] h = some (some (.int (nI (zfX2 (zEm h) (zdn h) 0 (ztl N)))), h') ∧ zFs h h' ∧ zCx h' N (zEm h) (zdn h) := by
  obtain ⟨h1, a1, a2, a3, a4⟩ := f145 X d hN (zFr_refl h) n5 t1
  obtain ⟨h2, b1, b2, b3, b4⟩ := s161 X (d + 2) h1
  have x1 : zCx h1 N (zEm h) (zdn h) := ⟨(a2.1 30 0 (by omega) (by omega) (by omega)).trans n5, a3, fun i hi => ⟨(zdn_get t4 i hi).1, (a2.1 30 _ (by omega) (by omega) (by omega)).trans (zdn_get t4 i hi).2⟩⟩
  have x2 := zCx_fr b3 b4 x1
  obtain ⟨hc, hl⟩ := zlist0 N (by omega)
  obtain ⟨h3, c1, c2, c3⟩ := l160 X d hN (ztl N) [] 0 h2 (by omega) x2 b2 rfl (Nat.zero_le _) hc hl
  refine ⟨h3, ?_, zFs_trans (zFs_Fr a2) (zFs_trans b3 c2), c3⟩
  rw [r160, b160_0, a1]
  simp only [zpu_s, zpu_n, Option.bind_some]
  rw [b160_6, b1]
  simp only [zpu_s, zpu_n, Option.bind_some]
  exact c1
theorem zInv_sch {h h1 h2 : ab_H} (hI : zInv h) (f1 : ∀ c i, ((1 ≤ c ∧ c < 21) ∨ 28 < c) → ab_gI h1 c i = ab_gI h c i) (f2 : ∀ c, 25 ≤ c → c ≤ 28 → ab_gI h1 c 0 = ab_gI h c 0) (fJ : ∀ c i, ab_gJ h1 c i = ab_gJ h c i) (e : ∀ c i, ((1 ≤ c ∧ c < 29) ∨ (30 ≤ c ∧ c < 38) ∨ 40 < c) → ab_gI h2 c i = ab_gI h1 c i) (e29 : ab_gI h2 29 1 = ab_gI h1 29 1) (eJ : ∀ c i, ab_gJ h2 c i = ab_gJ h1 c i) (ea : zI_ask h2) : zInv h2 :=
  zInv_fr0 hI (fun c i hc => (e c i (by omega)).trans (f1 c i (by omega))) (e29.trans (f1 29 1 (by omega))) (fun c b1 b2 => (e c 0 (by omega)).trans (f2 c b1 b2)) (fun c i _ => (eJ c i).trans (fJ c i)) ea
theorem cp_soon (X : ab_X) (d : Nat) {h : ab_H} (hI : zInv h) : zCp X (d + 30) 76 165 [] h := by
  obtain ⟨N, dc, hN, hdc, n0, n1, n2, n3, n4, n5, k1, k2, k3, k4, k5, t1, t2, t3, t4⟩ := znow hI
  obtain ⟨i1, -, -, -, -, -, i7⟩ := id hI
  by_cases hN0 : N = 0
  · subst hN0
    apply zCp_mk
    · simp (discharger := omega) only [r76, b76_0, b76_10, n2, zlit, Bool.false_eq_true, zlt_t, zlt_f, zeq_t, zeq_f, nI_add, pk_mul, zb_0, zb_n0, not_true_eq_false, not_false_eq_true, Classical.not_not, if_true, if_false, ite_true, ite_false, and_self, and_true, true_and, and_false, false_and, or_self, or_true, true_or, or_false, false_or, reduceIte]; rfl
    · simp (discharger := omega) only [r165, b165_0, b165_9, zd30, n5, zlit, Bool.false_eq_true, zlt_t, zlt_f, zeq_t, zeq_f, nI_add, pk_mul, zb_0, zb_n0, not_true_eq_false, not_false_eq_true, Classical.not_not, if_true, if_false, ite_true, ite_false, and_self, and_true, true_and, and_false, false_and, or_self, or_true, true_or, or_false, false_or, reduceIte]; rfl
    · exact hI
  obtain ⟨h1, a1, a2, a3, a4, a5, a6⟩ := s71 X (d + 19) hN n2 k1 k2 k3 k4 t1 t4 i7
  have a1' : ab_ru X (d + 29) 71 [.ref 21, .ref 41] h = some (none, h1) := a1
  have ec : ab_ru X (d + 30) 76 [.ref 0] h = some (some (.int (nI (zTT h N).2.2.1)), h1) := by
    rw [r76, b76_0, n2, zlit 0, if_neg (fun z => hN0 ((nI_eq (b := 0) (by omega) (by omega)).mp z)), b76_13, a1']
    simp only [zpu_s, zpu_n, Option.bind_some]
    rw [b76_24, a2.2.2.1]
  have e30 : ∀ i, ab_gI h1 30 i = ab_gI h 30 i := fun i => a4 30 i (by omega)
  have eE : zEm h1 = zEm h := funext fun i => zEm_congr e30 i
  have eD : zdn h1 = zdn h := zdn_congr e30
  obtain ⟨h2, b1, b2, b3⟩ := s160 X (d + 26) hN (h := h1) (by rw [e30]; exact n5) (fun i hi => by rw [e30]; exact t1 i hi) (fun i hi => by rw [e30]; exact t4 i hi)
  rw [eE, eD] at b1 b3
  obtain ⟨hc, hl⟩ := zlist0 N (by omega)
  have eM : (zTT h N).2.1 = zfX2 (zEm h) (zdn h) 0 (ztl N) := by rw [zTT_e]; exact zw_M _ _ _ _
  have hM : zfX2 (zEm h) (zdn h) 0 (ztl N) ≤ 600 := by rw [← eM]; exact a3.2.2.1
  have eS : (zTT h N).2.2.1 = zfS (zEm h) (zdn h) (zfX2 (zEm h) (zdn h) 0 (ztl N)) (if zfX2 (zEm h) (zdn h) 0 (ztl N) = 0 then 0 else 12) (ztl N) := by
    rw [zTT_e, zw_S _ _ (ztl N) _ (fun x hx => (zvv_b (e := zEm h) hN (fun i hi => (zdn_get t4 i hi).1) x (zall_mem hl x hx).1).2.2.2.2)]
    dsimp only
    congr 1
    by_cases q : zfX2 (zEm h) (zdn h) 0 (ztl N) = 0
    · rw [q, if_pos rfl]
    · rw [if_neg q, if_neg (fun z => q z.symm)]
  generalize zfX2 (zEm h) (zdn h) 0 (ztl N) = M at b1 hM eS eM
  obtain ⟨h3, c1, c2, c3, c4⟩ := s161 X (d + 29) h2
  obtain ⟨h4, d1, d2⟩ := l165 X (d + 27) hN hM (ztl N) [] (if M = 0 then 0 else 12) h3 (by split <;> omega) (zCx_fr c3 c4 b3) c2 rfl (Nat.zero_le _) hc hl
  have fs := zFs_trans b2 (zFs_trans c3 d2)
  refine zCp_mk ec (h2 := h4) ?_ (zInv_sch hI (fun c i hc => a4 c i (by omega)) a5 a6 (fun c i hc => fs.1 c i (by omega) (by omega) (by omega) (by omega)) (fs.2.1 1 (by omega)) fs.2.2 ?_)
  · rw [r165, b165_0, zd30', e30, n5, zlit 0, if_neg (fun z => hN0 ((nI_eq (b := 0) (by omega) (by omega)).mp z)), b165_12, b1]
    simp only [zpu_s, zpu_n, Option.bind_some]
    rw [eS]
    refine Eq.trans ?_ d1
    by_cases q : M = 0
    · subst q
      rw [b165_16, zlit 0, if_pos rfl, b165_21, b165_27, c1]
      rfl
    · rw [b165_16, zlit 0, if_neg (fun z => q ((nI_eq (b := 0) (by omega) (by omega)).mp z)), b165_25, b165_27, c1, if_neg q]
      rfl
  · unfold zI_ask at i1 ⊢
    rw [fs.1 0 11 (by omega) (by omega) (by omega) (by omega), fs.1 0 12 (by omega) (by omega) (by omega) (by omega), fs.2.1 10 (by omega), fs.2.1 8 (by omega), fs.2.2, fs.2.2, fs.2.2, fs.2.2, a4 0 11 (by omega), a4 0 12 (by omega), a4 29 10 (by omega), a4 29 8 (by omega), a6, a6, a6, a6]
    exact i1
theorem cp_most (X : ab_X) (d : Nat) {h : ab_H} (hI : zInv h) : zCp X (d + 30) 75 164 [] h := by
  obtain ⟨N, dc, hN, hdc, n0, n1, n2, n3, n4, n5, k1, k2, k3, k4, k5, t1, t2, t3, t4⟩ := znow hI
  obtain ⟨i1, -, -, -, -, -, i7⟩ := id hI
  by_cases hN0 : N = 0
  · subst hN0
    apply zCp_mk
    · simp (discharger := omega) only [r75, b75_0, b75_10, n2, zlit, Bool.false_eq_true, zlt_t, zlt_f, zeq_t, zeq_f, nI_add, pk_mul, zb_0, zb_n0, not_true_eq_false, not_false_eq_true, Classical.not_not, if_true, if_false, ite_true, ite_false, and_self, and_true, true_and, and_false, false_and, or_self, or_true, true_or, or_false, false_or, reduceIte]; rfl
    · simp (discharger := omega) only [r164, b164_0, b164_9, zd30, n5, zlit, Bool.false_eq_true, zlt_t, zlt_f, zeq_t, zeq_f, nI_add, pk_mul, zb_0, zb_n0, not_true_eq_false, not_false_eq_true, Classical.not_not, if_true, if_false, ite_true, ite_false, and_self, and_true, true_and, and_false, false_and, or_self, or_true, true_or, or_false, false_or, reduceIte]; rfl
    · exact hI
  obtain ⟨h1, a1, a2, a3, a4, a5, a6⟩ := s71 X (d + 19) hN n2 k1 k2 k3 k4 t1 t4 i7
  have a1' : ab_ru X (d + 29) 71 [.ref 21, .ref 41] h = some (none, h1) := a1
  have ec : ab_ru X (d + 30) 75 [.ref 0] h = some (some (.int (nI (zTT h N).2.2.2.1)), ab_sI h1 0 11 (nI (zTT h N).2.2.2.2)) := by
    rw [r75, b75_0, n2, zlit 0, if_neg (fun z => hN0 ((nI_eq (b := 0) (by omega) (by omega)).mp z)), b75_13, a1']
    simp only [zpu_s, zpu_n, Option.bind_some]
    rw [b75_24, a2.2.2.2.2.1, zg_ne (by omega), a2.2.2.2.1]
  generalize hh : ab_sI h1 0 11 (nI (zTT h N).2.2.2.2) = h1' at ec
  have f1 : ∀ c i, c ≠ 0 → ab_gI h1' c i = ab_gI h1 c i := fun c i hc => by rw [← hh, zg_ne hc]
  have f1J : ∀ c i, ab_gJ h1' c i = ab_gJ h1 c i := fun c i => by rw [← hh]; rfl
  have e30 : ∀ i, ab_gI h1' 30 i = ab_gI h 30 i := fun i => (f1 30 i (by omega)).trans (a4 30 i (by omega))
  have eE : zEm h1' = zEm h := funext fun i => zEm_congr e30 i
  obtain ⟨h2, b1, b2, b3, b4⟩ := f145 X (d + 27) hN (zFr_refl h1') (by rw [e30]; exact n5) (fun i hi => by rw [e30]; exact t1 i hi)
  rw [eE] at b3
  have x1 : zCx h2 N (zEm h) (zdn h) := ⟨((b2.1 30 0 (by omega) (by omega) (by omega)).trans (e30 0)).trans n5, b3, fun i hi => ⟨(zdn_get t4 i hi).1, ((b2.1 30 _ (by omega) (by omega) (by omega)).trans (e30 _)).trans (zdn_get t4 i hi).2⟩⟩
  obtain ⟨h3, c1, c2, c3, c4⟩ := s161 X (d + 29) h2
  obtain ⟨hc, hl⟩ := zlist0 N (by omega)
  obtain ⟨h4, d1, d2⟩ := l164 X (d + 27) hN (ztl N) [] 0 1 .null h3 (by omega) (zCx_fr c3 c4 x1) c2 rfl (Nat.zero_le _) hc hl
  have eC : (zTT h N).2.2.2 = zfC (zEm h) (zdn h) (0, 1) (ztl N) := by rw [zTT_e]; exact zw_C _ _ _ _
  rw [← eC] at d1
  have fs := zFs_trans (zFs_Fr b2) (zFs_trans c3 d2)
  refine zCp_mk ec (h2 := ab_sI h4 29 10 (nI (zTT h N).2.2.2.2)) ?_ (zInv_sch hI (fun c i hc => (f1 c i (by omega)).trans (a4 c i (by omega))) (fun c b1 b2 => (f1 c 0 (by omega)).trans (a5 c b1 b2)) (fun c i => (f1J c i).trans (a6 c i)) (fun c i hc => by rw [zg_ne (by omega)]; exact fs.1 c i (by omega) (by omega) (by omega) (by omega)) (by rw [zg_nj (by omega)]; exact fs.2.1 1 (by omega)) (fun c i => fs.2.2 c i) ?_)
  · rw [r164, b164_0, zd30', e30, n5, zlit 0, if_neg (fun z => hN0 ((nI_eq (b := 0) (by omega) (by omega)).mp z)), b164_12, b1]
    simp only [zpu_s, zpu_n, Option.bind_some]
    rw [b164_20, c1]
    simp only [zpu_s, zpu_n, Option.bind_some]
    exact d1
  · unfold zI_ask at i1 ⊢
    rw [zg_eq, zg_ne (by omega), zg_ne (by omega), zg_nj (by omega), fs.1 0 11 (by omega) (by omega) (by omega) (by omega), fs.1 0 12 (by omega) (by omega) (by omega) (by omega), fs.2.1 8 (by omega), ← hh, zg_eq, zg_nj (by omega), zg_ne (by omega), a4 0 12 (by omega), a4 29 8 (by omega)]
    refine ⟨rfl, i1.2.1, ?_, ?_⟩
    · rw [zj_I, zj_I, fs.2.2, fs.2.2, ← hh, zj_I, zj_I, a6, a6]; exact i1.2.2.1
    · rw [zj_I, zj_I, fs.2.2, fs.2.2, ← hh, zj_I, zj_I, a6, a6]; exact i1.2.2.2
theorem zInv_rw {h h' : ab_H} (hI : zInv h) {j len : Nat} (hj : j < 6) (hlen : len ≤ 40) (e : ∀ c i, ((1 ≤ c ∧ c ≤ 16 ∧ c ≠ 8 ∧ c ≠ 2 + j) ∨ (30 ≤ c ∧ c ≤ 35 ∧ c ≠ 32 ∧ c ≠ 33) ∨ c = 37 ∨ 41 ≤ c) → ab_gI h' c i = ab_gI h c i) (e29 : ab_gI h' 29 1 = ab_gI h 29 1) (es : ∀ c, 25 ≤ c → c ≤ 28 → ab_gI h' c 0 = ab_gI h c 0) (eJ : ∀ c i, 41 ≤ c → ab_gJ h' c i = ab_gJ h c i) (ea : zI_ask h') (e8 : ab_gI h' 8 j = nI len) (e33 : ab_gI h' 33 j = nI len) (o8 : ∀ i, i ≠ j → ab_gI h' 8 i = ab_gI h 8 i) (o33 : ∀ i, i ≠ j → ab_gI h' 33 i = ab_gI h 33 i) (o32 : ∀ i, (i < 40 * j ∨ 40 * j + 40 ≤ i) → ab_gI h' 32 i = ab_gI h 32 i) (er : ∀ k, k < 40 → ab_gI h' (2 + j) k = ab_gI h' 32 (40 * j + k)) : zInv h' := by
  obtain ⟨i1, i2, i3, i4, i5, i6, i7⟩ := hI
  have hp := zI_posts (h := h) (h' := h') (fun c h1 h2 i => e c i (by omega)) (fun c h1 _ i => eJ c i h1) (fun i => e 30 i (by omega)) (fun i => e 31 i (by omega)) e29
  refine ⟨ea, fun f hf => ?_, fun r hr => ?_, fun t ht => ?_, hp.1 i5, hp.2 i6, ?_⟩
  · rw [e 16 f (by omega), e 37 f (by omega)]; exact i2 f hf
  · obtain ⟨b1, b2, b3⟩ := i3 r hr
    by_cases q : r = j
    · subst q
      exact ⟨e8.trans e33.symm, Or.inr ⟨len, hlen, e33⟩, er⟩
    · refine ⟨?_, ?_, fun k hk => ?_⟩
      · rw [o8 r q, o33 r q]; exact b1
      · rw [o33 r q]; exact b2
      · rw [e (2 + r) k (by omega), o32 _ (by omega)]; exact b3 k hk
  · obtain ⟨b1, b2, b3⟩ := i4 t ht
    refine ⟨?_, ?_, fun k hk => ?_⟩
    · rw [e 14 t (by omega), e 35 t (by omega)]; exact b1
    · rw [e 35 t (by omega)]; exact b2
    · rw [e (10 + t) k (by omega), e 34 _ (by omega)]; exact b3 k hk
  · obtain ⟨c1, c2, c3, c4⟩ := i7
    exact ⟨(es 25 (by omega) (by omega)).trans c1, (es 26 (by omega) (by omega)).trans c2, (es 27 (by omega) (by omega)).trans c3, (es 28 (by omega) (by omega)).trans c4⟩
set_option maxHeartbeats 2000000 in
theorem cp_best (X : ab_X) (d : Nat) (r : Int32) {h : ab_H} (hI : zInv h) : zCp X (d + 30) 70 159 [.int r] h := by
  obtain ⟨N, dc, hN, hdc, n0, n1, n2, n3, n4, n5, k1, k2, k3, k4, k5, t1, t2, t3, t4⟩ := znow hI
  obtain ⟨i1, -, i3, -, -, -, i7⟩ := id hI
  by_cases hr : ¬ (¬ r < nI 0 ∧ r < nI 6)
  · apply zCp_mk
    · simp (discharger := omega) only [r70, b70_0, b70_4, b70_7, s7, zpu_s, zpu_n, Option.bind_some, zlit, Bool.false_eq_true, zlt_t, zlt_f, zeq_t, zeq_f, nI_add, pk_mul, zb_0, zb_n0, not_true_eq_false, not_false_eq_true, Classical.not_not, if_true, if_false, ite_true, ite_false, and_self, and_true, true_and, and_false, false_and, or_self, or_true, true_or, or_false, false_or, reduceIte, hr]; rfl
    · simp (discharger := omega) only [r159, b159_0, b159_4, b159_7, s106, zpu_s, zpu_n, Option.bind_some, zlit, Bool.false_eq_true, zlt_t, zlt_f, zeq_t, zeq_f, nI_add, pk_mul, zb_0, zb_n0, not_true_eq_false, not_false_eq_true, Classical.not_not, if_true, if_false, ite_true, ite_false, and_self, and_true, true_and, and_false, false_and, or_self, or_true, true_or, or_false, false_or, reduceIte, hr]; rfl
    · exact hI
  have hr := Classical.not_not.mp hr
  rcases zix r (n := 6) (by omega) with q | q | ⟨j, hj, rfl⟩
  · exact absurd q hr.1
  · exact absurd hr.2 q.2
  by_cases hN0 : N = 0
  · subst hN0
    apply zCp_mk
    · simp (discharger := omega) only [r70, b70_0, b70_4, b70_9, b70_19, s7, n2, zpu_s, zpu_n, Option.bind_some, zlit, Bool.false_eq_true, zlt_t, zlt_f, zeq_t, zeq_f, nI_add, pk_mul, zb_0, zb_n0, not_true_eq_false, not_false_eq_true, Classical.not_not, if_true, if_false, ite_true, ite_false, and_self, and_true, true_and, and_false, false_and, or_self, or_true, true_or, or_false, false_or, reduceIte, hr]; rfl
    · simp (discharger := omega) only [r159, b159_0, b159_4, b159_9, b159_18, s106, zd30, n5, zpu_s, zpu_n, Option.bind_some, zlit, Bool.false_eq_true, zlt_t, zlt_f, zeq_t, zeq_f, nI_add, pk_mul, zb_0, zb_n0, not_true_eq_false, not_false_eq_true, Classical.not_not, if_true, if_false, ite_true, ite_false, and_self, and_true, true_and, and_false, false_and, or_self, or_true, true_or, or_false, false_or, reduceIte, hr]; rfl
    · exact hI
  obtain ⟨h1, a1, a2, a3, a4, a5, a6⟩ := s71 X (d + 19) hN n2 k1 k2 k3 k4 t1 t4 i7
  have a1' : ab_ru X (d + 29) 71 [.ref 21, .ref 41] h = some (none, h1) := a1
  obtain ⟨s7', s8', s9', s10', s11', sp⟩ := a2
  obtain ⟨p0, p1, p2, p3, p4⟩ := a3
  obtain ⟨rr, M, eR', eM'⟩ : ∃ rr M, (zTT h N).1 = rr ∧ (zTT h N).2.1 = M := ⟨_, _, rfl, rfl⟩
  have eM : M = zfX2 (zEm h) (zdn h) 0 (ztl N) := by rw [← eM', zTT_e]; exact zw_M _ _ _ _
  have eR : rr = zfst (zEm h) (zdn h) M ([] :: ztl N) := by rw [← eR', zTT_e, zw_R, eM]; rfl
  rw [eR'] at s7' sp p0 p1
  rw [eM'] at s8' p2
  have e2 : ab_ru X (d + 29) 2 [.ref (2 + j), .int 0] h1 = some (none, zf h1 (2 + j) 0 40 0) := s2R X (d + 29) hj 0 h1
  have cp : ∀ (h : ab_H) (K : ab_H → Option ab_R), ab_cp h 24 0 (2 + j) 0 (nI rr.length) K = K (ab_cI h 24 0 (2 + j) 0 rr.length) := fun h K => z_cp (a := 24) (b := 2 + j) (sp := 0) (dp := 0) (n := rr.length) rfl (by rw [zR_sh hj]) (show 0 + rr.length ≤ 6 by omega) (by rw [zR_sh hj]; show 0 + rr.length ≤ 40; omega) h K
  have ec : ab_ru X (d + 30) 70 [.ref 0, .int (nI j)] h = some (some (.int (nI M)), ab_sI (ab_cI (zf h1 (2 + j) 0 40 0) 24 0 (2 + j) 0 rr.length) 8 j (nI rr.length)) := by
    simp (discharger := omega) only [r70, b70_0, b70_4, b70_9, s7, n2, zpu_s, zpu_n, Option.bind_some, zlit, Bool.false_eq_true, zlt_t, zlt_f, zeq_t, zeq_f, nI_add, pk_mul, zb_0, zb_n0, not_true_eq_false, not_false_eq_true, Classical.not_not, if_true, if_false, ite_true, ite_false, and_self, and_true, true_and, and_false, false_and, or_self, or_true, true_or, or_false, false_or, reduceIte]
    rw [b70_22, a1']
    simp only [zpu_s, zpu_n, Option.bind_some]
    rw [b70_33, zL_rows hj, e2]
    simp only [zpu_s, zpu_n, Option.bind_some]
    rw [b70_43, zL_rows hj, zf_ne (by omega), s7', cp, zc_ne (by omega), zf_ne (by omega), s7', zs8 hj, zg_ne (by omega), zc_ne (by omega), zf_ne (by omega), s8']
    rfl
  generalize hh : ab_sI (ab_cI (zf h1 (2 + j) 0 40 0) 24 0 (2 + j) 0 rr.length) 8 j (nI rr.length) = hc at ec
  have fc : ∀ c i, c ≠ 2 + j → c ≠ 8 → ab_gI hc c i = ab_gI h1 c i := fun c i c1 c2 => by rw [← hh, zg_ne c2, zc_ne c1, zf_ne c1]
  have fJ : ∀ c i, ab_gJ hc c i = ab_gJ h1 c i := fun c i => by rw [← hh]; rfl
  have f8 : ab_gI hc 8 j = nI rr.length := by rw [← hh, zg_eq]
  have o8 : ∀ i, i ≠ j → ab_gI hc 8 i = ab_gI h 8 i := fun i hi => by rw [← hh, zg_nj hi, zc_ne (by omega), zf_ne (by omega)]; exact a4 8 i (by omega)
  have fr : ∀ k, k < 40 → ab_gI hc (2 + j) k = if k < rr.length then nI (zat rr k) else nI 0 := fun k hk => by
    rw [← hh, zg_ne (by omega)]
    by_cases q : k < rr.length
    · rw [if_pos q, zc_in (by omega) (by omega), zf_ne (by omega), show 0 + (k - 0) = k by omega]
      exact zat_Pa sp k q
    · rw [if_neg q, zc_out (by omega), zf_in (by omega) (by omega)]
      rfl
  have e30 : ∀ i, ab_gI hc 30 i = ab_gI h 30 i := fun i => (fc 30 i (by omega) (by omega)).trans (a4 30 i (by omega))
  have eE : zEm hc = zEm h := funext fun i => zEm_congr e30 i
  have eD : zdn hc = zdn h := zdn_congr e30
  obtain ⟨h2, b1, b2, b3⟩ := s160 X (d + 26) hN (h := hc) (by rw [e30]; exact n5) (fun i hi => by rw [e30]; exact t1 i hi) (fun i hi => by rw [e30]; exact t4 i hi)
  rw [eE, eD, ← eM] at b1
  rw [eE, eD] at b3
  obtain ⟨hck, hl⟩ := zlist0 N (by omega)
  obtain ⟨h3, c1, c2, c3, c4⟩ := s161 X (d + 29) h2
  have x3 := zCx_fr c3 c4 b3
  obtain ⟨h4, d1, d2, d3, d4, d5, -, -⟩ := s163 X (d + 27) hN (r := []) (Nat.zero_le _) rfl x3.1 c2 x3.2.1 x3.2.2
  have hex : ¬ (zvv (zEm h) (zdn h) []).2.2.1 < M ∨ ∃ x, x ∈ ztl N ∧ ¬ (zvv (zEm h) (zdn h) x).2.2.1 < M := by
    rcases zfX2_at (zEm h) (zdn h) (ztl N) 0 with q | ⟨x, hx, q⟩
    · left
      rw [eM, q]
      exact Nat.lt_irrefl 0
    · right
      rw [← eM] at q
      exact ⟨x, hx, by omega⟩
  obtain ⟨h5, g1, g2, g3⟩ := l159 X (d + 27) hN p2 (.int (nI j)) .null (ztl N) [] h4 (zCx_fr d3 d4 x3) d2 rfl (Nat.zero_le _) hck hl hex
  rw [← eR] at g3
  have fs := zFs_trans b2 (zFs_trans c3 (zFs_trans d3 g2))
  have e109 := s109 X (d + 29) hj (nI rr.length) h5
  generalize hh6 : zf (ab_sI h5 33 j (nI rr.length)) 32 (40 * j) 40 0 = h6 at e109
  have f6 : ∀ c i, c ≠ 32 → c ≠ 33 → ab_gI h6 c i = ab_gI h5 c i := fun c i c1 c2 => by rw [← hh6, zf_ne c1, zg_ne c2]
  have f6J : ∀ c i, ab_gJ h6 c i = ab_gJ h5 c i := fun c i => by rw [← hh6]; rfl
  have l22 : ab_gI h6 29 22 = nI rr.length := (f6 29 22 (by omega) (by omega)).trans g3.1
  obtain ⟨z, w1, w2, w3, w4⟩ := zloopP (fun k (z : ab_H) => (∀ c i, c ≠ 32 → ab_gI z c i = ab_gI h6 c i) ∧ (∀ i, ab_gI z 32 i = if 40 * j ≤ i ∧ i < 40 * j + k then nI (zat rr (i - 40 * j)) else ab_gI h6 32 i) ∧ ∀ c i, ab_gJ z c i = ab_gJ h6 c i) (fun z k => ab_ex X (d + 30) 159 94 [.ref 29, .int (nI j), .int (nI M), .int (nI 0), .int (nI k)] [] z) rr.length (fun k z hk hP => by
    obtain ⟨q1, q2, q3⟩ := hP
    have em : (40 : Int32) * nI j + nI k = nI (40 * j + k) := by
      simp (discharger := omega) only [zlit, Bool.false_eq_true, zlt_t, zlt_f, zeq_t, zeq_f, nI_add, pk_mul, zb_0, zb_n0, not_true_eq_false, not_false_eq_true, Classical.not_not, if_true, if_false, ite_true, ite_false, and_self, and_true, true_and, and_false, false_and, or_self, or_true, true_or, or_false, false_or, reduceIte]
    refine ⟨ab_sI z 32 (40 * j + k) (nI (zat rr k)), ?_, fun c i hc => ?_, fun i => ?_, fun c i => q3 c i⟩
    · rw [l159_94, q1 29 22 (by omega), l22, if_pos (nI_lt hk (by omega)), b159_103, zd40 (by omega), q1 40 k (by omega), f6 40 k (by omega) (by omega), zat_Pa g3.2.2 k hk, em, zs32 (by omega), nI_1]
    · rw [zg_ne hc]; exact q1 c i hc
    · by_cases q : i = 40 * j + k
      · subst q
        rw [zg_eq, if_pos (by omega), show 40 * j + k - 40 * j = k by omega]
      · rw [zg_nj q, q2]
        by_cases q' : 40 * j ≤ i ∧ i < 40 * j + k
        · rw [if_pos q', if_pos (by omega)]
        · rw [if_neg q', if_neg (by omega)]) h6 ⟨fun _ _ _ => rfl, fun i => by rw [if_neg (by omega)], fun _ _ => rfl⟩
  have er : ab_ru X (d + 30) 159 [.ref 29, .int (nI j)] hc = some (some (.int (nI M)), z) := by
    simp (discharger := omega) only [r159, b159_0, b159_4, b159_9, s106, zd30, e30, n5, zpu_s, zpu_n, Option.bind_some, zlit, Bool.false_eq_true, zlt_t, zlt_f, zeq_t, zeq_f, nI_add, pk_mul, zb_0, zb_n0, not_true_eq_false, not_false_eq_true, Classical.not_not, if_true, if_false, ite_true, ite_false, and_self, and_true, true_and, and_false, false_and, or_self, or_true, true_or, or_false, false_or, reduceIte]
    rw [b159_21, b1]
    simp only [zpu_s, zpu_n, Option.bind_some]
    rw [b159_25, c1]
    simp only [zpu_s, zpu_n, Option.bind_some]
    rw [b159_30, d1]
    simp only [zpu_s, zpu_n, Option.bind_some]
    refine Eq.trans (b := ab_ex X (d + 30) 159 82 [.ref 29, .int (nI j), .int (nI M), .int (nI 0), .null] [] h5) (Eq.trans ?_ g1) ?_
    · rw [b159_34, d5]
      by_cases q : (zvv (zEm h) (zdn h) []).2.2.1 < M
      · rw [if_pos (nI_lt q (by omega)), b159_42, b159_47, if_pos q]
        rfl
      · have q' : M = 0 := by
          have : ¬ 0 < M := q
          omega
        rw [if_neg (nI_nlt (by omega) (by rw [show (zvv (zEm h) (zdn h) []).2.2.1 = 0 from rfl]; omega)), b159_46, b159_47, if_neg q]
        rfl
    · rw [b159_82, g3.1, e109]
      simp only [zpu_s, zpu_n, Option.bind_some]
      rw [b159_91]
      refine Eq.trans (show _ = ab_ex X (d + 30) 159 94 [.ref 29, .int (nI j), .int (nI M), .int (nI 0), .int (nI 0)] [] h6 from rfl) ?_
      refine Eq.trans w1 ?_
      rw [l159_94, w2 29 22 (by omega), l22, if_neg (nI_nlt (by omega) (by omega)), b159_128]
  have tt : ∀ c i, c ≠ 32 → c ≠ 33 → c ≠ 38 → c ≠ 39 → c ≠ 40 → c ≠ 29 → ab_gI z c i = ab_gI hc c i := fun c i c1 c2 c3 c4 c5 c6 => ((w2 c i c1).trans (f6 c i c1 c2)).trans (fs.1 c i c3 c4 c5 c6)
  have t9 : ∀ i, (i < 16 ∨ 23 < i) → ab_gI z 29 i = ab_gI h 29 i := fun i hi => ((((w2 29 i (by omega)).trans (f6 29 i (by omega) (by omega))).trans (fs.2.1 i hi)).trans (fc 29 i (by omega) (by omega))).trans (a4 29 i (by omega))
  have tJ : ∀ c i, ab_gJ z c i = ab_gJ h c i := fun c i => ((((w4 c i).trans (f6J c i)).trans (fs.2.2 c i)).trans (fJ c i)).trans (a6 c i)
  refine zCp_mk ec er (zInv_rw hI hj (len := rr.length) (by omega) (fun c i hc => ?_) (t9 1 (by omega)) (fun c q1 q2 => ?_) (fun c i _ => tJ c i) ?_ ?_ ?_ (fun i hi => ?_) (fun i hi => ?_) (fun i hi => ?_) (fun k hk => ?_))
  · rw [tt c i (by omega) (by omega) (by omega) (by omega) (by omega) (by omega), fc c i (by omega) (by omega)]
    exact a4 c i (by omega)
  · rw [tt c 0 (by omega) (by omega) (by omega) (by omega) (by omega) (by omega), fc c 0 (by omega) (by omega)]
    exact a5 c q1 q2
  · unfold zI_ask at i1 ⊢
    rw [tt 0 11 (by omega) (by omega) (by omega) (by omega) (by omega) (by omega), tt 0 12 (by omega) (by omega) (by omega) (by omega) (by omega) (by omega), fc 0 11 (by omega) (by omega), fc 0 12 (by omega) (by omega), a4 0 11 (by omega), a4 0 12 (by omega), t9 10 (by omega), t9 8 (by omega), tJ, tJ, tJ, tJ]
    exact i1
  · rw [tt 8 j (by omega) (by omega) (by omega) (by omega) (by omega) (by omega)]; exact f8
  · rw [w2 33 j (by omega), ← hh6, zf_ne (by omega), zg_eq]
  · rw [tt 8 i (by omega) (by omega) (by omega) (by omega) (by omega) (by omega)]; exact o8 i hi
  · rw [w2 33 i (by omega), ← hh6, zf_ne (by omega), zg_nj hi, fs.1 33 i (by omega) (by omega) (by omega) (by omega), fc 33 i (by omega) (by omega)]
    exact a4 33 i (by omega)
  · rw [w3, if_neg (by omega), ← hh6, zf_out (by omega), zg_ne (by omega), fs.1 32 i (by omega) (by omega) (by omega) (by omega), fc 32 i (by omega) (by omega)]
    exact a4 32 i (by omega)
  · rw [tt (2 + j) k (by omega) (by omega) (by omega) (by omega) (by omega) (by omega), fr k hk, w3]
    by_cases q : k < rr.length
    · rw [if_pos q, if_pos (by omega), show 40 * j + k - 40 * j = k by omega]
    · rw [if_neg q, if_neg (by omega), ← hh6, zf_in (by omega) (by omega)]
      rfl
