/-! who got some -/
theorem zsm31 : ∀ n, n < 32 → ((nI n &&& nI 31).toBitVec.smod 32).toNat = n := by decide
theorem z1sh : ∀ q, q < 12 → ∀ i, i < 12 → zB (nI 1 <<< (nI q &&& nI 31)) (nI i) = decide (q = i) := by decide
theorem zB_get (x : Int32) {i : Nat} (hi : i < 12) : zB x (nI i) = x.toBitVec.getLsbD i := by
  have e1 : (x >>> (nI i &&& 31)) &&& 1 = nI ((x >>> (nI i &&& 31)).toBitVec.toNat % 2 ^ 1) := pk_and _ 1 rfl
  have e2 : (x >>> (nI i &&& 31)).toBitVec.getLsbD 0 = x.toBitVec.getLsbD i := by
    have e3 : (x >>> (nI i &&& 31)).toBitVec = x.toBitVec.sshiftRight i := by
      rw [Int32.toBitVec_shiftRight]
      show x.toBitVec.sshiftRight ((nI i &&& 31).toBitVec.smod 32).toNat = _
      rw [show (31 : Int32) = nI 31 from rfl, zsm31 i (by omega)]
    rw [e3, BitVec.getLsbD_sshiftRight]
    simp (discharger := omega) [show i < 32 by omega]
  unfold zB
  rw [e1, ← e2]
  have h2 := Nat.mod_two_eq_zero_or_one (x >>> (nI i &&& 31)).toBitVec.toNat
  show decide (nI _ = nI 1) = (x >>> (nI i &&& 31)).toBitVec.toNat.testBit 0
  rw [Nat.testBit_zero, show 2 ^ 1 = 2 from rfl]
  rcases h2 with e | e
  · rw [e]; rfl
  · rw [e]; rfl
theorem zB_or (x y : Int32) {i : Nat} (hi : i < 12) : zB (x ||| y) (nI i) = (zB x (nI i) || zB y (nI i)) := by
  rw [zB_get _ hi, zB_get _ hi, zB_get _ hi, Int32.toBitVec_or, BitVec.getLsbD_or]
theorem zB_0 : ∀ i, i < 12 → zB 0 (nI i) = false := by decide
/-- whether he is at house i at one of the hours x, in the first n stops -/
def zmet (x : Int32) (q : Nat → Nat) (i : Nat) : Nat → Bool
  | 0 => false
  | k + 1 => zmet x q i k || (decide (q k = i) && (decide (zhr q (k + 1) < 12) && zbit x (zhr q (k + 1))))
theorem zgo_h {e : Nat → Int32} {q : Nat → Nat} {D : Nat → Int32} : ∀ n, (zgo e q n (0, 0, D, 0)).1 = zhr q n ∧ (zgo e q n (0, 0, D, 0)).2.1 = zpv q n
  | 0 => ⟨rfl, rfl⟩
  | n + 1 => by
    obtain ⟨a, b⟩ := zgo_h (e := e) (q := q) (D := D) n
    show (zgo1 e (q n) (zgo e q n (0, 0, D, 0))).1 = zhr q n + zdist (zpv q n) (q n) ∧ (zgo1 e (q n) (zgo e q n (0, 0, D, 0))).2.1 = q n
    unfold zgo1
    rw [a, b]
    split <;> exact ⟨rfl, rfl⟩
theorem zserved {e D : Nat → Int32} {q : Nat → Nat} {N : Nat} (hN : N ≤ 6) (hD : ∀ i, i < N → ∃ x, x ≤ 99 ∧ D i = nI x) : ∀ n, (∀ k, k < n → q k < N) → ∀ i, i < 12 → (zB (zgone e D q n).2.1 (nI i) = true ∧ (zgone e D q n).1.2.2.1 i = 0 ∧ nI 0 < D i ∧ zmet (e i) q i n = true) ∨ (zB (zgone e D q n).2.1 (nI i) = false ∧ (zgone e D q n).1.2.2.1 i = D i ∧ ¬ (nI 0 < D i ∧ zmet (e i) q i n = true))
  | 0, _, i, hi => Or.inr ⟨zB_0 i hi, rfl, fun h => by cases h.2⟩
  | n + 1, hq, i, hi => by
    have ih := zserved (e := e) hN hD n (fun k hk => hq k (by omega)) i hi
    have hqn := hq n (by omega)
    obtain ⟨g1, g2⟩ := zgo_h (e := e) (q := q) (D := D) n
    rw [← zgone_1] at g1 g2
    show (zB (zgm1 e (q n) (zgone e D q n)).2.1 (nI i) = true ∧ (zgm1 e (q n) (zgone e D q n)).1.2.2.1 i = 0 ∧ nI 0 < D i ∧ zmet (e i) q i (n + 1) = true) ∨ (zB (zgm1 e (q n) (zgone e D q n)).2.1 (nI i) = false ∧ (zgm1 e (q n) (zgone e D q n)).1.2.2.1 i = D i ∧ ¬ (nI 0 < D i ∧ zmet (e i) q i (n + 1) = true))
    have hm : zmet (e i) q i (n + 1) = (zmet (e i) q i n || (decide (q n = i) && (decide (zhr q n + zdist (zpv q n) (q n) < 12) && zbit (e i) (zhr q n + zdist (zpv q n) (q n))))) := rfl
    rw [hm]
    unfold zgm1 zgo1 zgot
    dsimp only
    rw [g1, g2]
    generalize zgone e D q n = s at ih g1 g2 ⊢
    by_cases hc : zhr q n + zdist (zpv q n) (q n) < 12 ∧ zbit (e (q n)) (zhr q n + zdist (zpv q n) (q n)) = true
    · simp only [if_pos hc]
      by_cases hi2 : i = q n
      · subst hi2
        have e1 : (decide (q n = q n) && (decide (zhr q n + zdist (zpv q n) (q n) < 12) && zbit (e (q n)) (zhr q n + zdist (zpv q n) (q n)))) = true := by rw [decide_eq_true rfl, decide_eq_true hc.1, hc.2]; rfl
        rw [e1, Bool.or_true, pk_us]
        rcases ih with ⟨i1, i2, i3, i4⟩ | ⟨i1, i2, i3⟩
        · left
          rw [i2, zB_or _ _ hi, i1]
          exact ⟨rfl, rfl, i3, rfl⟩
        · rw [i2]
          by_cases h0 : nI 0 < D (q n)
          · left
            rw [if_pos h0, zB_or _ _ hi, z1sh _ hi _ hi, decide_eq_true rfl, Bool.or_true]
            exact ⟨rfl, rfl, h0, rfl⟩
          · right
            rw [if_neg h0, zor0, i1]
            obtain ⟨x, hx, ex⟩ := hD (q n) hqn
            have : x = 0 := by
              rw [ex] at h0
              by_cases hx0 : x = 0
              · exact hx0
              · exact absurd (nI_lt (by omega) (by omega)) h0
            subst this
            exact ⟨rfl, ex.symm, fun h => h0 h.1⟩
      · have e1 : decide (q n = i) = false := decide_eq_false (fun h => hi2 h.symm)
        rw [e1, Bool.false_and, Bool.or_false, pk_un hi2]
        have e2 : zB (s.2.1 ||| if nI 0 < s.1.2.2.1 (q n) then nI 1 <<< (nI (q n) &&& nI 31) else nI 0) (nI i) = zB s.2.1 (nI i) := by
          split
          · rw [zB_or _ _ hi, z1sh _ (by omega) _ hi, e1, Bool.or_false]
          · rw [zor0]
        rw [e2]
        exact ih
    · simp only [if_neg hc]
      have e0 : ¬ nI 0 < nI 0 := by decide
      rw [if_neg e0, zor0]
      have e1 : (decide (q n = i) && (decide (zhr q n + zdist (zpv q n) (q n) < 12) && zbit (e i) (zhr q n + zdist (zpv q n) (q n)))) = false := by
        by_cases h1 : q n = i
        · rw [h1] at hc ⊢
          by_cases h2 : zhr q n + zdist (zpv q n) i < 12
          · have h3 : zbit (e i) (zhr q n + zdist (zpv q n) i) = false := by
              cases h4 : zbit (e i) (zhr q n + zdist (zpv q n) i)
              · rfl
              · exact absurd ⟨h2, h4⟩ hc
            rw [h3, Bool.and_false, Bool.and_false]
          · rw [decide_eq_false h2, Bool.false_and, Bool.and_false]
        · rw [decide_eq_false h1, Bool.false_and]
      rw [e1, Bool.or_false]
      exact ih
theorem zmet_no {x : Int32} {q : Nat → Nat} {i N : Nat} (hi : N ≤ i) : ∀ n, (∀ k, k < n → q k < N) → zmet x q i n = false
  | 0, _ => rfl
  | n + 1, hq => by
    unfold zmet
    rw [zmet_no hi n (fun k hk => hq k (by omega)), decide_eq_false (fun h => by have := hq n (by omega); omega)]
    rfl
