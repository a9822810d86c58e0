/-! deeds as numbers -/
theorem zL_tn {n : Nat} (h : n < 2 ^ 64) : (lN n).toBitVec.toNat = n := by
  show (BitVec.ofNat 64 n).toNat = n
  rw [BitVec.toNat_ofNat, Nat.mod_eq_of_lt h]
theorem zL_ext {x y : Int64} (h : x.toBitVec.toNat = y.toBitVec.toNat) : x = y := Int64.toBitVec_inj.mp (BitVec.eq_of_toNat_eq h)
theorem zL_k : ∀ k, k < 64 → ((nI k).toInt64 &&& 63).toBitVec.smod 64 = BitVec.ofNat 64 k := by decide +kernel
theorem zL_shl {n k : Nat} (hk : k < 64) (h : n * 2 ^ k < 2 ^ 64) : lN n <<< ((nI k).toInt64 &&& 63) = lN (n * 2 ^ k) := by
  have h0 : n < 2 ^ 64 := Nat.lt_of_le_of_lt (Nat.le_mul_of_pos_right n (Nat.pow_pos (by decide))) h
  apply zL_ext
  rw [Int64.toBitVec_shiftLeft, zL_k k hk, BitVec.shiftLeft_eq', BitVec.toNat_shiftLeft, zL_tn h0, BitVec.toNat_ofNat, Nat.mod_eq_of_lt (show k < 2 ^ 64 by omega), Nat.shiftLeft_eq, Nat.mod_eq_of_lt h, zL_tn h]
theorem zL_or {a b k : Nat} (hb : b < 2 ^ k) (h : a * 2 ^ k + b < 2 ^ 64) : lN (a * 2 ^ k) ||| lN b = lN (a * 2 ^ k + b) := by
  apply zL_ext
  rw [Int64.toBitVec_or, BitVec.toNat_or, zL_tn (by omega), zL_tn (by omega), zL_tn h, ← Nat.shiftLeft_eq, Nat.shiftLeft_add_eq_or_of_lt hb]
theorem zL_mask {n k m : Nat} (hm : m = 2 ^ k - 1) (hk : k < 64) (h : n < 2 ^ 64) : lN n &&& lN m = lN (n % 2 ^ k) := by
  have h2 : 2 ^ k ≤ 2 ^ 63 := Nat.pow_le_pow_right (by decide) (by omega)
  have h3 : n % 2 ^ k ≤ n := Nat.mod_le _ _
  apply zL_ext
  rw [Int64.toBitVec_and, BitVec.toNat_and, zL_tn h, zL_tn (by omega), zL_tn (by omega), hm, Nat.and_two_pow_sub_one_eq_mod]
theorem zL_shr {n k : Nat} (hk : k < 64) (h : n < 2 ^ 63) : lN n >>> ((nI k).toInt64 &&& 63) = lN (n / 2 ^ k) := by
  have hd : n / 2 ^ k ≤ n := Nat.div_le_self _ _
  have hD : (((nI k).toInt64 &&& 63).toBitVec.smod 64).toNat = k := by rw [zL_k k hk, BitVec.toNat_ofNat, Nat.mod_eq_of_lt (by omega)]
  apply Int64.toInt_inj.mp
  have e0 : (lN n >>> ((nI k).toInt64 &&& 63)).toInt = (lN n).toInt >>> (((nI k).toInt64 &&& 63).toBitVec.smod 64).toNat := BitVec.toInt_sshiftRight ..
  have e : (lN n >>> ((nI k).toInt64 &&& 63)).toInt = (lN n).toInt >>> k := by rw [e0, hD]
  rw [e, Int.shiftRight_eq_div_pow, pk_lT h, pk_lT (by omega)]
  rfl
theorem zpk_lt {q : Nat → Nat} : ∀ n, (∀ k, k < n → q k < 8) → zpk q n < 8 ^ n
  | 0, _ => (by decide : (0 : Nat) < 1)
  | n + 1, hq => by
    have h1 := zpk_lt n (fun k hk => hq k (by omega))
    have h2 := hq n (by omega)
    have h3 : q n * 8 ^ n ≤ 7 * 8 ^ n := Nat.mul_le_mul_right _ (by omega)
    show zpk q n + q n * 8 ^ n < 8 ^ (n + 1)
    rw [Nat.pow_succ]
    omega
theorem zpk_12 {q : Nat → Nat} {n : Nat} (hn : n ≤ 12) (hq : ∀ k, k < n → q k < 8) : zpk q n < 2 ^ 36 := by
  have h1 := zpk_lt n hq
  have h2 : 8 ^ n ≤ 8 ^ 12 := Nat.pow_le_pow_right (by decide) hn
  have h3 : (8 : Nat) ^ 12 = 2 ^ 36 := by decide
  omega
theorem zpk_get {q : Nat → Nat} {k : Nat} : ∀ n, k < n → (∀ k, k < n → q k < 8) → zpk q n / 8 ^ k % 8 = q k
  | 0, hk, _ => by omega
  | n + 1, hk, hq => by
    show (zpk q n + q n * 8 ^ n) / 8 ^ k % 8 = q k
    by_cases e : k = n
    · subst e
      have h1 := zpk_lt k (fun j hj => hq j (by omega))
      have h2 := hq k (by omega)
      rw [Nat.add_mul_div_right _ _ (Nat.pow_pos (by decide)), Nat.div_eq_of_lt h1, Nat.zero_add, Nat.mod_eq_of_lt h2]
    · have ih := zpk_get (q := q) (k := k) n (by omega) (fun j hj => hq j (by omega))
      have e2 : q n * 8 ^ n = (q n * 8 ^ (n - k - 1) * 8) * 8 ^ k := by
        have : 8 ^ n = 8 ^ (n - k - 1) * 8 * 8 ^ k := by
          rw [← Nat.pow_succ, ← Nat.pow_add]
          congr 1
          omega
        rw [this, ← Nat.mul_assoc, ← Nat.mul_assoc]
      rw [e2, Nat.add_mul_div_right _ _ (Nat.pow_pos (by decide)), Nat.add_mul_mod_self_right, ih]
/-- a round as a deed -/
def zrd (q : Nat → Nat) (n : Nat) : Int64 := lN (16 * zpk q n + (n + 1))
/-- an errand as a deed -/
def zed (i t : Nat) : Int64 := -(lN (12 * i + t + 1))
theorem zed_toInt {i t : Nat} (hi : i < 6) (ht : t < 12) : (zed i t).toInt = -((12 * i + t + 1 : Nat) : Int) := by
  unfold zed
  rw [Int64.toInt_neg, pk_lT (by omega)]
  rw [Int.bmod_def]
  omega
theorem zgo_qc {e : Nat → Int32} {q q' : Nat → Nat} {g : zG} : ∀ n, (∀ k, k < n → q k = q' k) → zgo e q n g = zgo e q' n g
  | 0, _ => rfl
  | n + 1, h => by
    show zgo1 e (q n) (zgo e q n g) = zgo1 e (q' n) (zgo e q' n g)
    rw [zgo_qc n (fun k hk => h k (by omega)), h n (by omega)]
theorem zap_ed {N i t : Nat} (hi : i < 6) (ht : t < 12) (S : zS) : zap N (zed i t) S = upd S (14 + i) (S (14 + i) ||| 1 <<< (nI t &&& 31)) := by
  have h1 := zed_toInt hi ht
  have h2 : zed i t < 0 := by
    rw [Int64.lt_iff_toInt_lt, h1, show (0 : Int64).toInt = 0 from rfl]
    omega
  have h3 : (-zed i t).toInt.toNat - 1 = 12 * i + t := by
    have : -zed i t = lN (12 * i + t + 1) := by unfold zed; exact Int64.neg_neg
    rw [this, pk_lT (by omega)]
    omega
  unfold zap
  rw [if_pos h2, h3, show (12 * i + t) / 12 = i by omega, show (12 * i + t) % 12 = t by omega]
theorem zap_rd {N n : Nat} {q : Nat → Nat} (hn : n ≤ 12) (hq : ∀ k, k < n → q k < 8) (S : zS) : zap N (zrd q n) S = zend N S (zwalk S q n).2.2.1 := by
  have h0 := zpk_12 hn hq
  have h1 : (zrd q n).toInt = ((16 * zpk q n + (n + 1) : Nat) : Int) := pk_lT (by omega)
  have h2 : ¬ zrd q n < 0 := by
    rw [Int64.lt_iff_toInt_lt, h1, show (0 : Int64).toInt = 0 from rfl]
    omega
  have h3 : (zrd q n).toInt.toNat = 16 * zpk q n + (n + 1) := by rw [h1]; omega
  unfold zap
  rw [if_neg h2, h3, show (16 * zpk q n + (n + 1)) % 16 - 1 = n by omega]
  unfold zwalk
  rw [zgo_qc (q := fun k => (16 * zpk q n + (n + 1)) / 16 / 8 ^ k % 8) (q' := q) n (fun k hk => by rw [show (16 * zpk q n + (n + 1)) / 16 = zpk q n by omega]; exact zpk_get n hk hq)]
theorem zDk_rd {N n : Nat} {q : Nat → Nat} (hn : n ≤ 12) (hq : ∀ k, k < n → q k < N) : zDk N (zrd q n) := Or.inr ⟨q, n, hn, hq, rfl⟩
theorem zDk_ed {N i t : Nat} (hi : i < N) (ht : t < 12) : zDk N (zed i t) := Or.inl ⟨i, t, hi, ht, rfl⟩
/-! the class's post by itself, and the reference's -/
def zBd (N : Nat) (S : zS) : Prop := ∀ i, i < N → (∃ k, k < 6 ∧ S (2 + i) = nI k) ∧ (∃ o, o < 4096 ∧ S (8 + i) = nI o) ∧ (∃ o, o < 4096 ∧ S (14 + i) = nI o) ∧ (∃ q, q ≤ 99 ∧ S (20 + i) = nI q)
def zMt (h : ab_H) (N : Nat) (S : zS) : Prop := ab_gI h 41 7 = nI N ∧ ab_gI h 41 8 = S 1 ∧ ∀ i, i < N → ab_gI h 42 i = S (2 + i) ∧ ab_gI h 43 i = S (8 + i) ∧ ab_gI h 47 i = S (14 + i) ∧ ab_gI h 45 i = S (20 + i) ∧ ab_gI h 46 i = S (26 + i)
def zA (h : ab_H) (N dc : Nat) : Prop := N ≤ 6 ∧ dc ≤ 40 ∧ ab_gI h 41 9 = nI dc ∧ zMt h N (zH h 41 N dc) ∧ zBd N (zH h 41 N dc) ∧ (∀ i, i < N → ∃ q, q ≤ 9 ∧ ab_gI h 44 i = nI q) ∧ (∀ j, j < dc → zDk N (ab_gJ h 48 j))
def zR (h : ab_H) (Hs : Nat → zS) (dc : Nat) : Prop := ab_gI h 29 1 = nI dc ∧ (∀ j, j < dc → ∀ i, i < 32 → ab_gI h 30 (32 * (j + 1) + i) = Hs j i) ∧ ∀ i, i < 32 → ab_gI h 30 i = Hs dc i
theorem zA_of {h : ab_H} {N dc : Nat} (q : zPC h 41 0 dc N) (n1 : ab_gI h 29 1 = nI dc) : zA h N dc ∧ zR h (zH h 41 N) dc := by
  obtain ⟨q1, q2, q3, q4, q5, q6, q7, q8, q9, q10⟩ := q
  simp only [Nat.zero_add] at q5 q6 q7 q9 q10
  refine ⟨⟨q1, q2, q4, ⟨q3, ?_, fun i hi => ?_⟩, fun i hi => ?_, fun i hi => (q7 i hi).2.2.2.2, q8⟩, n1, q9, q10⟩
  · rw [← q10 1 (by omega)]; exact q5
  · rw [← q10 (2 + i) (by omega), ← q10 (8 + i) (by omega), ← q10 (14 + i) (by omega), ← q10 (20 + i) (by omega), ← q10 (26 + i) (by omega)]
    exact q6 i hi
  · rw [← q10 (2 + i) (by omega), ← q10 (8 + i) (by omega), ← q10 (14 + i) (by omega), ← q10 (20 + i) (by omega)]
    obtain ⟨p1, p2, p3, p4, p5⟩ := q7 i hi
    exact ⟨p1, p2, p3, p4⟩
theorem zA_to {h : ab_H} {N dc : Nat} (a : zA h N dc) (r : zR h (zH h 41 N) dc) : zPC h 41 0 dc N := by
  obtain ⟨q1, q2, q4, ⟨q3, q5, q6⟩, q7, q7', q8⟩ := a
  obtain ⟨-, q9, q10⟩ := r
  refine ⟨q1, q2, q3, q4, ?_, fun i hi => ?_, fun i hi => ?_, q8, fun j hj i hi => ?_, fun i hi => ?_⟩
  · rw [Nat.zero_add, q10 1 (by omega)]; exact q5
  · simp only [Nat.zero_add]
    rw [q10 (2 + i) (by omega), q10 (8 + i) (by omega), q10 (14 + i) (by omega), q10 (20 + i) (by omega), q10 (26 + i) (by omega)]
    exact q6 i hi
  · simp only [Nat.zero_add]
    rw [q10 (2 + i) (by omega), q10 (8 + i) (by omega), q10 (14 + i) (by omega), q10 (20 + i) (by omega)]
    obtain ⟨p1, p2, p3, p4⟩ := q7 i hi
    exact ⟨p1, p2, p3, p4, q7' i hi⟩
  · rw [Nat.zero_add]; exact q9 j hj i hi
  · rw [Nat.zero_add]; exact q10 i hi
/-- a deed more, at the class -/
theorem zA_step {h h' : ab_H} {N dc : Nat} {x : Int64} (a : zA h N dc) (hdc : dc < 40) (hx : zDk N x) (f7 : ab_gI h' 41 7 = ab_gI h 41 7) (f9 : ab_gI h' 41 9 = nI (dc + 1)) (f1 : ∀ i, i < 6 → ab_gI h' 42 i = ab_gI h 42 i) (f2 : ∀ i, i < 6 → ab_gI h' 43 i = ab_gI h 43 i) (f3 : ∀ i, i < 6 → ab_gI h' 44 i = ab_gI h 44 i) (fj : ∀ i, i < dc → ab_gJ h' 48 i = ab_gJ h 48 i) (fx : ab_gJ h' 48 dc = x) (g8 : ab_gI h' 41 8 = zap N x (zH h 41 N dc) 1) (g : ∀ i, i < N → ab_gI h' 47 i = zap N x (zH h 41 N dc) (14 + i) ∧ ab_gI h' 45 i = zap N x (zH h 41 N dc) (20 + i) ∧ ab_gI h' 46 i = zap N x (zH h 41 N dc) (26 + i)) (bd : ∀ i, i < N → (∃ o, o < 4096 ∧ zap N x (zH h 41 N dc) (14 + i) = nI o) ∧ (∃ q, q ≤ 99 ∧ zap N x (zH h 41 N dc) (20 + i) = nI q)) : zA h' N (dc + 1) ∧ zH h' 41 N (dc + 1) = zap N x (zH h 41 N dc) ∧ ∀ j, j ≤ dc → zH h' 41 N j = zH h 41 N j := by
  obtain ⟨q1, q2, q4, ⟨q3, q5, q6⟩, q7, q7', q8⟩ := a
  have hH : ∀ j, j ≤ dc → zH h' 41 N j = zH h 41 N j := fun j hj => zH_frame f1 f2 f3 q1 j (fun i hi => fj i (by omega))
  have hS : zH h' 41 N (dc + 1) = zap N x (zH h 41 N dc) := by
    show zap N (ab_gJ h' 48 dc) (zH h' 41 N dc) = _
    rw [fx, hH dc (Nat.le_refl dc)]
  refine ⟨⟨q1, hdc, f9, ?_, ?_, fun i hi => ?_, fun j hj => ?_⟩, hS, hH⟩
  · rw [hS]
    refine ⟨f7.trans q3, g8, fun i hi => ?_⟩
    obtain ⟨p1, p2, -⟩ := q6 i hi
    obtain ⟨g1, g2, g3⟩ := g i hi
    refine ⟨?_, ?_, g1, g2, g3⟩
    · rw [zap_lo (by omega) (by omega), f1 i (by omega)]; exact p1
    · rw [zap_lo (by omega) (by omega), f2 i (by omega)]; exact p2
  · rw [hS]
    intro i hi
    obtain ⟨p1, p2, -⟩ := q7 i hi
    obtain ⟨b1, b2⟩ := bd i hi
    refine ⟨?_, ?_, b1, b2⟩
    · rw [zap_lo (by omega) (by omega)]; exact p1
    · rw [zap_lo (by omega) (by omega)]; exact p2
  · rw [f3 i (by omega)]; exact q7' i hi
  · by_cases e : j = dc
    · subst e; rw [fx]; exact hx
    · rw [fj j (by omega)]; exact q8 j (by omega)
