/-! undone -/
theorem zpw (k : Nat) : 2 ^ (4 + 3 * k) = 16 * 8 ^ k := by
  rw [Nat.pow_add, Nat.pow_mul]
set_option maxHeartbeats 1000000 in
theorem s55 (X : ab_X) (d : Nat) {n : Nat} {q : Nat → Nat} (hn : n ≤ 12) (hq : ∀ k, k < n → q k < 6) (h : ab_H) : ∃ h', ab_ru X d 55 [.ref 19, .long (zrd q n)] h = some (none, h') ∧ ab_gI h' 19 1 = nI n ∧ (∀ k, k < n → ab_gI h' 20 k = nI (q k)) ∧ (∀ c i, c ≠ 19 → c ≠ 20 → ab_gI h' c i = ab_gI h c i) ∧ ∀ c i, ab_gJ h' c i = ab_gJ h c i := by
  have hq8 : ∀ k, k < n → q k < 8 := fun k hk => by have := hq k hk; omega
  have hp := zpk_12 hn hq8
  have hsz : ab_min (ab_max (Int64.toInt32 (zrd q n &&& 15) - 1) 0) 12 = nI n := by
    unfold zrd
    rw [show (15 : Int64) = lN 15 from rfl, zL_mask (k := 4) rfl (by omega) (by omega), lN_i, show (16 * zpk q n + (n + 1)) % 2 ^ 4 = n + 1 by omega, nI_pred, show (0 : Int32) = nI 0 from rfl, zmaxn (by omega) (by omega), show (12 : Int32) = nI 12 from rfl, if_neg (by omega), zminn (by omega) (by omega), if_neg (by omega)]
  obtain ⟨h', e, p1, p2, p3, p4⟩ := zloopP (fun k (hh : ab_H) => ab_gI hh 19 1 = nI n ∧ (∀ i, i < k → ab_gI hh 20 i = nI (q i)) ∧ (∀ c i, c ≠ 19 → c ≠ 20 → ab_gI hh c i = ab_gI h c i) ∧ ∀ c i, ab_gJ hh c i = ab_gJ h c i) (fun hh k => ab_ex X d 55 23 [.ref 19, .long (zrd q n), .null, .int (nI k)] [] hh) n (fun k hh hk hP => by
    obtain ⟨p1, p2, p3, p4⟩ := hP
    have hqk := hq k hk
    have h12 : 4 + 3 * k < 64 := by omega
    have hst : Int64.toInt32 ((zrd q n >>> (Int32.toInt64 (4 + 3 * nI k) &&& 63)) &&& 7) = nI (q k) := by
      unfold zrd
      have hd : (16 * zpk q n + (n + 1)) / 2 ^ (4 + 3 * k) ≤ 16 * zpk q n + (n + 1) := Nat.div_le_self _ _
      rw [show (4 : Int32) + 3 * nI k = nI (4 + 3 * k) by rw [show (3 : Int32) = nI 3 from rfl, pk_mul, show (4 : Int32) = nI 4 from rfl, nI_add], zL_shr h12 (by omega), show (7 : Int64) = lN 7 from rfl, zL_mask (k := 3) rfl (by omega) (by omega), lN_i, zpw, ← Nat.div_div_eq_div_mul, show (16 * zpk q n + (n + 1)) / 16 = zpk q n by omega, show (2 : Nat) ^ 3 = 8 from rfl, zpk_get n hk hq8]
    refine ⟨ab_sI hh 20 k (nI (q k)), ?_, ?_, fun i hi => ?_, fun c i h1 h2 => ?_, fun c i => p4 c i⟩
    · rw [l55_23, p1, if_pos (nI_lt (by omega) (by omega)), b55_31, hst, show (6 : Int32) = nI 6 from rfl, pk_rem (by omega) (by omega) (by omega), Nat.mod_eq_of_lt hqk, zs20 (by omega), nI_1]
    · rw [zg_ne (by omega)]; exact p1
    · rw [zg_same]
      by_cases e : i = k
      · rw [if_pos e, e]
      · rw [if_neg e]; exact p2 i (by omega)
    · rw [zg_ne h2]; exact p3 c i h1 h2) (ab_sI h 19 1 (nI n)) ⟨zg_eq _ _ _ _, fun i hi => by omega, fun c i h1 h2 => zg_ne h1 _ _ _ _, fun _ _ => rfl⟩
  refine ⟨h', ?_, p1, p2, p3, p4⟩
  rw [r55, b55_0, hsz]
  refine Eq.trans e ?_
  rw [l55_23, p1, if_neg (nI_nlt (by omega) (by omega)), b55_58]
theorem zH0_in {h : ab_H} {N i : Nat} (hN : N ≤ 6) (hi : i < N) : zH h 41 N 0 (2 + i) = ab_gI h 42 i ∧ zH h 41 N 0 (8 + i) = ab_gI h 43 i ∧ zH h 41 N 0 (14 + i) = 0 ∧ zH h 41 N 0 (20 + i) = ab_gI h 44 i ∧ zH h 41 N 0 (26 + i) = 0 := by
  unfold zH
  refine ⟨?_, ?_, ?_, ?_, ?_⟩
  · rw [if_neg (by omega), if_pos (by omega), show 2 + i - 2 = i by omega]
  · rw [if_neg (by omega), if_neg (by omega), if_pos (by omega), show 8 + i - 8 = i by omega]
  · rw [if_neg (by omega), if_neg (by omega), if_neg (by omega), if_neg (by omega)]
  · rw [if_neg (by omega), if_neg (by omega), if_neg (by omega), if_pos (by omega), show 20 + i - 20 = i by omega]
  · rw [if_neg (by omega), if_neg (by omega), if_neg (by omega), if_neg (by omega)]
theorem zH0_1 {h : ab_H} {N : Nat} : zH h 41 N 0 1 = 0 := by
  unfold zH
  rw [if_neg (by omega), if_neg (by omega), if_neg (by omega), if_neg (by omega)]
set_option maxHeartbeats 1000000 in
theorem s27 (X : ab_X) (d : Nat) (h : ab_H) : ab_ru X (d + 1) 27 [.ref 41] h = some (none, ab_sI (ab_sI (zf (zf (ab_cI h 44 0 45 0 6) 46 0 6 (nI 0)) 47 0 6 (nI 0)) 41 8 (nI 0)) 41 9 (nI 0)) := by
  have e1 : ∀ h, ab_ru X d 2 [.ref 46, .int (nI 0)] h = some (none, zf h 46 0 6 (nI 0)) := fun h => s2 X d (a := 46) (n := 6) rfl (nI 0) h
  have e2 : ∀ h, ab_ru X d 2 [.ref 47, .int (nI 0)] h = some (none, zf h 47 0 6 (nI 0)) := fun h => s2 X d (a := 47) (n := 6) rfl (nI 0) h
  have c1 : ∀ (h : ab_H) (K : ab_H → Option ab_R), ab_cp h 44 (nI 0) 45 (nI 0) (nI 6) K = K (ab_cI h 44 0 45 0 6) := fun h K => z_cp (a := 44) (b := 45) (sp := 0) (dp := 0) (n := 6) rfl rfl (by decide) (by decide) h K
  simp only [r27, b27_0, b27_23, b27_31, zP_ob zS41, zP_rf zS41, Nat.reduceAdd, zlit, c1, e1, e2, zpu_s, zpu_n, Option.bind_some]
theorem zA_0 {h h' : ab_H} {N : Nat} (hN : N ≤ 6) (n2 : ab_gI h' 41 7 = nI N) (g8 : ab_gI h' 41 8 = nI 0) (g9 : ab_gI h' 41 9 = nI 0) (g : ∀ i, i < N → (∃ k, k < 6 ∧ ab_gI h' 42 i = nI k) ∧ (∃ o, o < 4096 ∧ ab_gI h' 43 i = nI o) ∧ (∃ q, q ≤ 9 ∧ ab_gI h' 44 i = nI q) ∧ ab_gI h' 47 i = nI 0 ∧ ab_gI h' 45 i = ab_gI h' 44 i ∧ ab_gI h' 46 i = nI 0) : zA h' N 0 := by
  refine ⟨hN, by omega, g9, ⟨n2, ?_, fun i hi => ?_⟩, fun i hi => ?_, fun i hi => (g i hi).2.2.1, fun j hj => by omega⟩
  · rw [zH0_1]; exact g8
  · obtain ⟨z1, z2, z3, z4, z5⟩ := zH0_in (h := h') hN hi
    obtain ⟨-, -, -, p4, p5, p6⟩ := g i hi
    rw [z1, z2, z3, z4, z5]
    exact ⟨rfl, rfl, p4, p5, p6⟩
  · obtain ⟨z1, z2, z3, z4, z5⟩ := zH0_in (h := h') hN hi
    obtain ⟨p1, p2, ⟨q, hq, eq⟩, p4, p5, p6⟩ := g i hi
    rw [z1, z2, z3, z4]
    exact ⟨p1, p2, ⟨0, by omega, rfl⟩, ⟨q, by omega, eq⟩⟩
set_option maxHeartbeats 1000000 in
theorem c54 (X : ab_X) (d : Nat) {N dc n : Nat} {h : ab_H} (a : zA h N dc) (hn : n ≤ dc) : ∃ h', ab_ru X (d + 5) 54 [.ref 41, .int (nI n), .ref 19, .ref 18] h = some (none, h') ∧ zA h' N n ∧ (∀ c i, c ≠ 18 → c ≠ 19 → c ≠ 20 → c ≠ 41 → c ≠ 45 → c ≠ 46 → c ≠ 47 → ab_gI h' c i = ab_gI h c i) ∧ ∀ c i, ab_gJ h' c i = ab_gJ h c i := by
  obtain ⟨hN, hdc, a3, ⟨m1, m2, m3⟩, bd, b44, dk⟩ := id a
  have e27 := s27 X (d + 3) h
  generalize hh : ab_sI (ab_sI (zf (zf (ab_cI h 44 0 45 0 6) 46 0 6 (nI 0)) 47 0 6 (nI 0)) 41 8 (nI 0)) 41 9 (nI 0) = h0 at e27
  have gc : ∀ c i, c ≠ 41 → c ≠ 45 → c ≠ 46 → c ≠ 47 → ab_gI h0 c i = ab_gI h c i := fun c i c1 c2 c3 c4 => by rw [← hh, zg_ne c1, zg_ne c1, zf_ne c4, zf_ne c3, zc_ne c2]
  have gJ : ∀ c i, ab_gJ h0 c i = ab_gJ h c i := fun c i => by rw [← hh]; rfl
  have a0 : zA h0 N 0 := by
    refine zA_0 (h := h) hN ?_ ?_ ?_ (fun i hi => ?_)
    · rw [← hh, zg_nj (by omega), zg_nj (by omega), zf_ne (by omega), zf_ne (by omega), zc_ne (by omega)]; exact m1
    · rw [← hh, zg_nj (by omega), zg_eq]
    · rw [← hh, zg_eq]
    · obtain ⟨p1, p2, -⟩ := m3 i hi
      obtain ⟨q1, q2, -⟩ := bd i hi
      refine ⟨?_, ?_, ?_, ?_, ?_, ?_⟩
      · rw [gc 42 i (by omega) (by omega) (by omega) (by omega), p1]; exact q1
      · rw [gc 43 i (by omega) (by omega) (by omega) (by omega), p2]; exact q2
      · rw [gc 44 i (by omega) (by omega) (by omega) (by omega)]; exact b44 i hi
      · rw [← hh, zg_ne (by omega), zg_ne (by omega), zf_in (by omega) (by omega)]
      · rw [gc 44 i (by omega) (by omega) (by omega) (by omega), ← hh, zg_ne (by omega), zg_ne (by omega), zf_ne (by omega), zf_ne (by omega), zc_in (by omega) (by omega), show 0 + (i - 0) = i by omega]
      · rw [← hh, zg_ne (by omega), zg_ne (by omega), zf_ne (by omega), zf_in (by omega) (by omega)]
  obtain ⟨z, e, p1, p2, p3⟩ := zloopP (fun k (z : ab_H × Value) => zA z.1 N k ∧ (∀ c i, c ≠ 18 → c ≠ 19 → c ≠ 20 → c ≠ 41 → c ≠ 45 → c ≠ 46 → c ≠ 47 → ab_gI z.1 c i = ab_gI h c i) ∧ (∀ c i, ab_gJ z.1 c i = ab_gJ h c i)) (fun z k => ab_ex X (d + 5) 54 7 [.ref 41, .int (nI n), .ref 19, .ref 18, .int (nI k), z.2] [] z.1) n (fun k z hk hP => by
    obtain ⟨hc, v5⟩ := z
    obtain ⟨p1, p2, p3⟩ := hP
    dsimp only at p1 p2 p3 ⊢
    have lj : ∀ (K : Int64 → Option ab_R), ab_lj hc 48 (nI k) K = K (ab_gJ h 48 k) := fun K => by rw [z_lj (a := 48) rfl (show k < 40 by omega), p3]
    have hk40 : nI k < (40 : Int32) := nI_lt (b := 40) (by omega) (by omega)
    rcases dk k (by omega) with ⟨i, t, hi, ht, ex⟩ | ⟨q, m, hm, hq, ex⟩
    · have ex' : ab_gJ h 48 k = zed i t := ex
      have hneg : lg_cmp (zed i t) 0 < 0 := (lg_cmp_lt _ _).mpr (by rw [Int64.lt_iff_toInt_lt, zed_toInt (by omega) ht, show (0 : Int64).toInt = 0 from rfl]; omega)
      have ew : Int64.toInt32 (-zed i t) - 1 = nI (12 * i + t) := by
        have : -zed i t = lN (12 * i + t + 1) := by unfold zed; exact Int64.neg_neg
        rw [this, lN_i, nI_pred]
      obtain ⟨h', c0, a', x1, x2, hH, hS, c1, c2, c3⟩ := cE X (d + 3) p1 (by omega) hi ht
      refine ⟨(h', .int (nI (12 * i + t))), ?_, a', fun c j b1 b2 b3 b4 b5 b6 b7 => ?_, fun c j => ?_⟩
      · rw [l54_7, if_pos (nI_lt hk (by omega)), b54_13, if_pos hk40, b54_20, zP_ob zS41, zP_rf zS41, show 41 + 1 + 6 = 48 from rfl, lj, ex', if_pos hneg, b54_32, zP_ob zS41, zP_rf zS41, show 41 + 1 + 6 = 48 from rfl, lj, ex', ew, zP_ob zS41, show (12 : Int32) = nI 12 from rfl, pk_rem (by omega) (by omega) (by omega), pk_div (by omega) (by omega) (by omega), show (12 * i + t) / 12 = i by omega, show (12 * i + t) % 12 = t by omega, c0]
        simp only [zpu_s, zpu_n, Option.bind_some, b54_59, b54_80, nI_1]
      · dsimp only
        rw [c1 c j b4 b7]; exact p2 c j b1 b2 b3 b4 b5 b6 b7
      · dsimp only
        by_cases ec : c = 48
        · subst ec
          by_cases ej : j = k
          · subst ej; rw [x1, ex']
          · rw [x2 j ej, p3]
        · rw [c2 c j ec, p3]
    · have ex' : ab_gJ h 48 k = zrd q m := ex
      have hq8 : ∀ k, k < m → q k < 8 := fun k hk => by have := hq k hk; omega
      have hp12 := zpk_12 hm hq8
      have hneg : ¬ lg_cmp (zrd q m) 0 < 0 := fun e => by
        have := (lg_cmp_lt _ _).mp e
        rw [Int64.lt_iff_toInt_lt, show (zrd q m).toInt = ((16 * zpk q m + (m + 1) : Nat) : Int) from pk_lT (by omega), show (0 : Int64).toInt = 0 from rfl] at this
        omega
      obtain ⟨hg, g1, g2, g3, g4, g5⟩ := s55 X (d + 4) hm (q := q) (fun k hk => by have := hq k hk; omega) hc
      have eHg : ∀ j, zH hg 41 N j = zH hc 41 N j := fun j => zH_frame (fun i _ => g4 42 i (by omega) (by omega)) (fun i _ => g4 43 i (by omega) (by omega)) (fun i _ => g4 44 i (by omega) (by omega)) hN j (fun i _ => g5 48 i)
      have ag : zA hg N k := by
        obtain ⟨q1, q2, q4, ⟨q3, q5, q6⟩, q7, q7', q8⟩ := p1
        refine ⟨q1, q2, ?_, ⟨?_, ?_, fun i hi => ?_⟩, ?_, fun i hi => ?_, fun j hj => ?_⟩
        · rw [g4 41 9 (by omega) (by omega)]; exact q4
        · rw [g4 41 7 (by omega) (by omega)]; exact q3
        · rw [eHg, g4 41 8 (by omega) (by omega)]; exact q5
        · rw [eHg, g4 42 i (by omega) (by omega), g4 43 i (by omega) (by omega), g4 47 i (by omega) (by omega), g4 45 i (by omega) (by omega), g4 46 i (by omega) (by omega)]; exact q6 i hi
        · rw [eHg]; exact q7
        · rw [g4 44 i (by omega) (by omega)]; exact q7' i hi
        · rw [g5]; exact q8 j hj
      obtain ⟨h', c0, a', x1, x2, hH, hS, c1, c2, c3⟩ := cW X d ag (by omega) (q := q) (n := m) hm g2 (fun i hi => ⟨hq i hi, g3 i hi⟩)
      refine ⟨(h', v5), ?_, a', fun c j b1 b2 b3 b4 b5 b6 b7 => ?_, fun c j => ?_⟩
      · rw [l54_7, if_pos (nI_lt hk (by omega)), b54_13, if_pos hk40, b54_20, zP_ob zS41, zP_rf zS41, show 41 + 1 + 6 = 48 from rfl, lj, ex', if_neg hneg, b54_62, zP_ob zS41, zP_rf zS41, show 41 + 1 + 6 = 48 from rfl, lj, ex', g1]
        simp only [zpu_s, zpu_n, Option.bind_some]
        rw [b54_73, zP_ob zS41, c0]
        simp only [zpu_s, zpu_n, Option.bind_some, b54_79, b54_80, nI_1]
      · dsimp only
        rw [c1 c j b1 b4 b5 b6 b7, g4 c j b2 b3]; exact p2 c j b1 b2 b3 b4 b5 b6 b7
      · dsimp only
        by_cases ec : c = 48
        · subst ec
          by_cases ej : j = k
          · subst ej; rw [x1, ex']
          · rw [x2 j ej, g5, p3]
        · rw [c2 c j ec, g5, p3]) (h0, .null) ⟨a0, fun c i b1 b2 b3 b4 b5 b6 b7 => gc c i b4 b5 b6 b7, gJ⟩
  refine ⟨z.1, ?_, p1, p2, p3⟩
  rw [r54, b54_0, zP_ob zS41, e27]
  simp only [zpu_s, zpu_n, Option.bind_some, b54_4, zlit]
  refine Eq.trans e ?_
  rw [l54_7, if_neg (nI_nlt (by omega) (by omega)), b54_86]
set_option maxHeartbeats 1000000 in
theorem cp_undo (X : ab_X) (d : Nat) (x : Int32) {h : ab_H} (hI : zInv h) : zCp X (d + 30) 53 151 [.int x] h := by
  obtain ⟨N0, dc0, n0', n1', pc⟩ := id hI.2.2.2.2.1
  obtain ⟨N, dc, hN, hdc, n0, n1, n2, n3, n4, n5, k1, k2, k3, k4, k5, t1, t2, t3, t4⟩ := znow hI
  have eN : N0 = N := (nI_eq (by have := pc.1; omega) (by omega)).mp (pc.2.2.1.symm.trans n2)
  have eD : dc0 = dc := (nI_eq (by have := pc.2.1; omega) (by omega)).mp (n1'.symm.trans n1)
  subst eN eD
  obtain ⟨a, r⟩ := zA_of pc n1'
  by_cases hx : ¬ (¬ x < nI 0 ∧ ¬ nI dc0 < x)
  · have e1 : ab_ru X (d + 30) 53 [.ref 0, .int x] h = some (some (.int (-nI 1)), h) := by
      by_cases h1 : x < nI 0
      · simp (discharger := omega) only [r53, b53_0, b53_15, h1, zlit, Bool.false_eq_true, zlt_t, zlt_f, zeq_t, zeq_f, nI_add, pk_mul, zb_0, zb_n0, not_true_eq_false, not_false_eq_true, Classical.not_not, if_true, if_false, ite_true, ite_false, and_self, and_true, true_and, and_false, false_and, or_self, or_true, true_or, or_false, false_or, reduceIte]
      · have h2 : nI dc0 < x := Classical.not_not.mp (fun q => hx ⟨h1, q⟩)
        simp (discharger := omega) only [r53, b53_0, b53_4, b53_15, n3, h1, h2, zlit, Bool.false_eq_true, zlt_t, zlt_f, zeq_t, zeq_f, nI_add, pk_mul, zb_0, zb_n0, not_true_eq_false, not_false_eq_true, Classical.not_not, if_true, if_false, ite_true, ite_false, and_self, and_true, true_and, and_false, false_and, or_self, or_true, true_or, or_false, false_or, reduceIte]
    refine zCp_mk e1 (h2 := h) ?_ hI
    simp (discharger := omega) only [r151, b151_0, b151_11, b151_14, s107i, zJ0, n1, hx, zpu_s, zpu_n, Option.bind_some, zlit, Bool.false_eq_true, zlt_t, zlt_f, zeq_t, zeq_f, nI_add, pk_mul, zb_0, zb_n0, not_true_eq_false, not_false_eq_true, Classical.not_not, if_true, if_false, ite_true, ite_false, and_self, and_true, true_and, and_false, false_and, or_self, or_true, true_or, or_false, false_or, reduceIte]
  have hx := Classical.not_not.mp hx
  rcases zix x (n := dc0 + 1) (by omega) with q | q | ⟨n, hn, rfl⟩
  · exact absurd q hx.1
  · have := hx.2
    rw [znlt (n := dc0) (by omega), Classical.not_not] at this
    exact absurd this q.2
  obtain ⟨h1, c0, a', c1, c2⟩ := c54 X (d + 24) a (show n ≤ dc0 by omega)
  have ec : ab_ru X (d + 30) 53 [.ref 0, .int (nI n)] h = some (some (.int (nI (dc0 - n))), h1) := by
    simp (discharger := omega) only [r53, b53_0, b53_4, b53_17, b53_43, n3, c0, pk_sub, zpu_s, zpu_n, Option.bind_some, zlit, Bool.false_eq_true, zlt_t, zlt_f, zeq_t, zeq_f, nI_add, pk_mul, zb_0, zb_n0, not_true_eq_false, not_false_eq_true, Classical.not_not, if_true, if_false, ite_true, ite_false, and_self, and_true, true_and, and_false, false_and, or_self, or_true, true_or, or_false, false_or, reduceIte]
  have cc : ∀ c i, c < 41 → c ≠ 18 → c ≠ 19 → c ≠ 20 → ab_gI h1 c i = ab_gI h c i := fun c i b1 b2 b3 b4 => c1 c i b2 b3 b4 (by omega) (by omega) (by omega) (by omega)
  have s30 : ∀ l, ab_gI h1 30 l = ab_gI h 30 l := fun l => cc 30 l (by omega) (by omega) (by omega) (by omega)
  have n1'' : ab_gI h1 29 1 = nI dc0 := (cc 29 1 (by omega) (by omega) (by omega) (by omega)).trans n1
  have eH : ∀ j, zH h1 41 N0 j = zH h 41 N0 j := fun j => zH_frame (fun i _ => c1 42 i (by omega) (by omega) (by omega) (by omega) (by omega) (by omega) (by omega)) (fun i _ => c1 43 i (by omega) (by omega) (by omega) (by omega) (by omega) (by omega) (by omega)) (fun i _ => c1 44 i (by omega) (by omega) (by omega) (by omega) (by omega) (by omega) (by omega)) hN j (fun i _ => c2 48 i)
  obtain ⟨r1, r2, r3⟩ := r
  by_cases hg : n = dc0
  · subst hg
    have er : ab_ru X (d + 30) 151 [.ref 29, .int (nI n)] h1 = some (some (.int (nI (n - n))), h1) := by
      rw [Nat.sub_self]
      have e0 : n - n = 0 := Nat.sub_self n
      simp (discharger := omega) only [r151, b151_0, b151_11, b151_16, b151_45, s107i, zJ0, n1'', pk_sub, e0, zpu_s, zpu_n, Option.bind_some, zlit, Bool.false_eq_true, zlt_t, zlt_f, zeq_t, zeq_f, nI_add, pk_mul, zb_0, zb_n0, not_true_eq_false, not_false_eq_true, Classical.not_not, if_true, if_false, ite_true, ite_false, and_self, and_true, true_and, and_false, false_and, or_self, or_true, true_or, or_false, false_or, reduceIte]
    refine zCp_mk ec er (zInv_deed hI n0' a' ⟨n1'', fun l hl i hi => ?_, fun i hi => ?_⟩ (fun c i b1 b2 b3 b4 b5 => cc c i b1 b3 b4 b5) (fun c i hc => c1 c i (by omega) (by omega) (by omega) (by omega) (by omega) (by omega) (by omega)) (fun c i _ => c2 c i) (zFw_refl h1))
    · rw [s30, eH]; exact r2 l hl i hi
    · rw [s30, eH]; exact r3 i hi
  · have er : ab_ru X (d + 30) 151 [.ref 29, .int (nI n)] h1 = some (some (.int (nI (dc0 - n))), ab_sI (ab_cI h1 30 (32 * (n + 1)) 30 0 32) 29 1 (nI n)) := by
      simp (discharger := omega) only [r151, b151_0, b151_11, b151_16, b151_27, b151_40, b151_45, s107i, zJ0, n1'', pk_sub, s129, zpu_s, zpu_n, Option.bind_some, zlit, Bool.false_eq_true, zlt_t, zlt_f, zeq_t, zeq_f, nI_add, pk_mul, zb_0, zb_n0, not_true_eq_false, not_false_eq_true, Classical.not_not, if_true, if_false, ite_true, ite_false, and_self, and_true, true_and, and_false, false_and, or_self, or_true, true_or, or_false, false_or, reduceIte]
    refine zCp_mk ec er (zInv_deed hI (by omega) a' ⟨zg_eq _ _ _ _, fun l hl i hi => ?_, fun i hi => ?_⟩ (fun c i b1 b2 b3 b4 b5 => cc c i b1 b3 b4 b5) (fun c i hc => c1 c i (by omega) (by omega) (by omega) (by omega) (by omega) (by omega) (by omega)) (fun c i _ => c2 c i) ⟨fun c i a1 a2 a3 a4 => ?_, fun i a1 a2 => ?_, fun i hi => ?_, fun c i => rfl⟩)
    · rw [zg_ne (by omega), zc_out (by omega), s30, eH]; exact r2 l (by omega) i hi
    · rw [zg_ne (by omega), zc_in (by omega) (by omega), s30, eH, show 32 * (n + 1) + (i - 0) = 32 * (n + 1) + i by omega]; exact r2 n (by omega) i hi
    · rw [zg_ne a4, zc_ne a1]
    · rw [zg_nj a1, zc_ne (by omega)]
    · rw [zg_ne (by omega), zc_out (by omega)]
