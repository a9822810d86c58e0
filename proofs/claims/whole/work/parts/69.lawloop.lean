/-! the law's loop -/
theorem zand63 (x : Int32) : ∃ k, k < 64 ∧ x &&& 63 = nI k := by
  rw [Int32.and_comm]
  have h : ((63 : Int32) &&& x).toBitVec.toNat < 64 := by
    rw [Int32.toBitVec_and, BitVec.toNat_and]
    exact Nat.lt_of_le_of_lt Nat.and_le_left (by decide)
  refine ⟨((63 : Int32) &&& x).toBitVec.toNat, h, ?_⟩
  apply Int32.toBitVec_inj.mp
  apply BitVec.eq_of_toNat_eq
  show _ = (Int32.ofNat _).toBitVec.toNat
  rw [Int32.toBitVec_ofNat', BitVec.toNat_ofNat, Nat.mod_eq_of_lt (by omega)]
theorem lw_case (X : ab_X) (d : Nat) {i : Nat} (hi : i + 6 ≤ X.1) (hX : X.1 ≤ 384) {h : ab_H} (hI : zInv h) : ∃ h2, ab_ex X (d + 30 + 1) 193 27 [.ref 81, .ref 0, .ref 29, .int (nI i)] [] h = ab_ex X (d + 30 + 1) 193 1288 [.ref 81, .ref 0, .ref 29, .int (nI i)] [] h2 ∧ zInv h2 := by
  obtain ⟨k, hk, ek⟩ := zand63 (X.2 i)
  rw [b193_27, zd81 (show i < X.1 by omega) (by omega), ek]
  by_cases h40 : 40 < k
  · refine ⟨h, ?_, hI⟩
    rw [ts193_d (Or.inr (by rw [nI_toInt (by omega)]; omega))]
  have hs : k = 0 ∨ k = 1 ∨ k = 2 ∨ k = 3 ∨ k = 4 ∨ k = 5 ∨ k = 6 ∨ k = 7 ∨ k = 8 ∨ k = 9 ∨ k = 10 ∨ k = 11 ∨ k = 12 ∨ k = 13 ∨ k = 14 ∨ k = 15 ∨ k = 16 ∨ k = 17 ∨ k = 18 ∨ k = 19 ∨ k = 20 ∨ k = 21 ∨ k = 22 ∨ k = 23 ∨ k = 24 ∨ k = 25 ∨ k = 26 ∨ k = 27 ∨ k = 28 ∨ k = 29 ∨ k = 30 ∨ k = 31 ∨ k = 32 ∨ k = 33 ∨ k = 34 ∨ k = 35 ∨ k = 36 ∨ k = 37 ∨ k = 38 ∨ k = 39 ∨ k = 40 := by omega
  rcases hs with rfl | rfl | rfl | rfl | rfl | rfl | rfl | rfl | rfl | rfl | rfl | rfl | rfl | rfl | rfl | rfl | rfl | rfl | rfl | rfl | rfl | rfl | rfl | rfl | rfl | rfl | rfl | rfl | rfl | rfl | rfl | rfl | rfl | rfl | rfl | rfl | rfl | rfl | rfl | rfl | rfl
  · rw [ts193_0]; exact lc_0 X d hi hX hI
  · rw [ts193_1]; exact lc_1 X d hi hX hI
  · rw [ts193_2]; exact lc_2 X d hi hX hI
  · rw [ts193_3]; exact lc_3 X d hi hX hI
  · rw [ts193_4]; exact lc_4 X d hi hX hI
  · rw [ts193_5]; exact lc_5 X d hi hX hI
  · rw [ts193_6]; exact lc_6 X d hi hX hI
  · rw [ts193_7]; exact lc_7 X d hi hX hI
  · rw [ts193_8]; exact lc_8 X d hi hX hI
  · rw [ts193_9]; exact lc_9 X d hi hX hI
  · rw [ts193_10]; exact lc_10 X d hi hX hI
  · rw [ts193_11]; exact lc_11 X d hi hX hI
  · rw [ts193_12]; exact lc_12 X d hi hX hI
  · rw [ts193_13]; exact lc_13 X d hi hX hI
  · rw [ts193_14]; exact lc_14 X d hi hX hI
  · rw [ts193_15]; exact lc_15 X d hi hX hI
  · rw [ts193_16]; exact lc_16 X d hi hX hI
  · rw [ts193_17]; exact lc_17 X d hi hX hI
  · rw [ts193_18]; exact lc_18 X d hi hX hI
  · rw [ts193_19]; exact lc_19 X d hi hX hI
  · rw [ts193_20]; exact lc_20 X d hi hX hI
  · rw [ts193_21]; exact lc_21 X d hi hX hI
  · rw [ts193_22]; exact lc_22 X d hi hX hI
  · rw [ts193_23]; exact lc_23 X d hi hX hI
  · rw [ts193_24]; exact lc_24 X d hi hX hI
  · rw [ts193_25]; exact lc_25 X d hi hX hI
  · rw [ts193_26]; exact lc_26 X d hi hX hI
  · rw [ts193_27]; exact lc_27 X d hi hX hI
  · rw [ts193_28]; exact lc_28 X d hi hX hI
  · rw [ts193_29]; exact lc_29 X d hi hX hI
  · rw [ts193_30]; exact lc_30 X d hi hX hI
  · rw [ts193_31]; exact lc_31 X d hi hX hI
  · rw [ts193_32]; exact lc_32 X d hi hX hI
  · rw [ts193_33]; exact lc_33 X d hi hX hI
  · rw [ts193_34]; exact lc_34 X d hi hX hI
  · rw [ts193_35]; exact lc_35 X d hi hX hI
  · rw [ts193_36]; exact lc_36 X d hi hX hI
  · rw [ts193_37]; exact lc_37 X d hi hX hI
  · rw [ts193_38]; exact lc_38 X d hi hX hI
  · rw [ts193_39]; exact lc_39 X d hi hX hI
  · rw [ts193_40]; exact lc_40 X d hi hX hI
theorem lw_loop (X : ab_X) (d : Nat) (hX : X.1 ≤ 384) : ∀ (m i : Nat) (h : ab_H), X.1 ≤ i + 6 * m → i ≤ 400 → zInv h → ∃ h', ab_ex X (d + 30 + 1) 193 18 [.ref 81, .ref 0, .ref 29, .int (nI i)] [] h = some (some (.int (nI 1)), h') := by
  have eln : ∀ (K : Int32 → Option ab_R), ab_ln X 81 K = K (nI X.1) := fun K => rfl
  have elt : ∀ i, i ≤ 400 → ((nI X.1 - 6 < nI i) ↔ X.1 < i + 6) := fun i hi => by
    have e : (nI X.1 - nI 6).toInt = (X.1 : Int) - 6 := pk_sub_toInt (by omega) (by omega)
    rw [show (6 : Int32) = nI 6 from rfl, Int32.lt_iff_toInt_lt, e, nI_toInt (by omega)]
    omega
  intro m
  induction m with
  | zero =>
    intro i h hm hi hI
    exact ⟨h, by rw [l193_18, eln, if_pos ((elt i hi).mpr (by omega)), b193_1294]; rfl⟩
  | succ m ih =>
    intro i h hm hi hI
    by_cases q : X.1 < i + 6
    · exact ⟨h, by rw [l193_18, eln, if_pos ((elt i hi).mpr q), b193_1294]; rfl⟩
    · obtain ⟨h2, e2, hI2⟩ := lw_case X d (i := i) (by omega) hX hI
      obtain ⟨h3, e3⟩ := ih (i + 6) h2 (by omega) (by omega) hI2
      refine ⟨h3, ?_⟩
      rw [l193_18, eln, if_neg (fun z => q ((elt i hi).mp z)), e2, b193_1288, zx6]
      exact e3
theorem lw_all (X : ab_X) (d : Nat) (hX : X.1 ≤ 384) (v3 : Value) {h : ab_H} (hI : zInv h) : ∃ h', ab_ex X (d + 30 + 1) 193 16 [.ref 81, .ref 0, .ref 29, v3] [] h = some (some (.int (nI 1)), h') := by
  obtain ⟨h', e⟩ := lw_loop X d hX 64 0 h (by omega) (by omega) hI
  exact ⟨h', by rw [b193_16]; exact e⟩
