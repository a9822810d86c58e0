/-! what the class and the reference hold of each other -/
/-- the hours at which a house is empty -/
def zE (kind out err : Int32) : Int32 :=
  if kind = 1 then err else if kind = 2 then (out ||| out <<< (1 &&& 31) ||| out >>> (1 &&& 31)) &&& 4095 else if kind = 3 then out &&& (out <<< (1 &&& 31) ||| 1) else if kind = 4 then 0 else if kind = 5 then (out &&& (out <<< (1 &&& 31) ||| 1)) ||| 1365 else out
def zbit (x : Int32) (k : Nat) : Bool := decide ((x >>> (nI k &&& 31)) &&& 1 = 1)
def zdist (a b : Nat) : Nat := if a < b then b - a else a - b
/-- how a postman goes: the hour, where he is, what is still due, what he brought -/
abbrev zG : Type := Nat × Nat × (Nat → Int32) × Int32
def zgo1 (e : Nat → Int32) (q : Nat) (g : zG) : zG :=
  if g.1 + zdist g.2.1 q < 12 ∧ zbit (e q) (g.1 + zdist g.2.1 q) = true then (g.1 + zdist g.2.1 q, q, upd g.2.2.1 q 0, g.2.2.2 + g.2.2.1 q) else (g.1 + zdist g.2.1 q, q, g.2.2.1, g.2.2.2)
/-- a loop that gathers -/
def zit {β : Type} (f : Nat → β → β) (a : β) : Nat → β
  | 0 => a
  | k + 1 => f k (zit f a k)
/-- n stops, the houses q -/
def zgo (e : Nat → Int32) (q : Nat → Nat) (n : Nat) (g : zG) : zG := zit (fun k g => zgo1 e (q k) g) g n
/-- a state as the reference lays it: 0 how many houses, 1 the day, 2.. kinds, 8.. hours told, 14.. errands, 20.. due, 26.. got -/
abbrev zS : Type := Nat → Int32
def zSe (S : zS) (i : Nat) : Int32 := zE (S (2 + i)) (S (8 + i) ||| S (14 + i)) (S (14 + i))
def zwalk (S : zS) (q : Nat → Nat) (n : Nat) : zG := zgo (zSe S) q n (0, 0, fun i => S (20 + i), 0)
def zend (N : Nat) (S : zS) (D : Nat → Int32) : zS := fun j =>
  if j = 1 then S 1 + 1
  else if 14 ≤ j ∧ j < 14 + N then 0
  else if 20 ≤ j ∧ j < 20 + N then D (j - 20) + (if S (2 + (j - 20)) ≠ 4 ∧ D (j - 20) < 99 then 1 else 0)
  else if 26 ≤ j ∧ j < 26 + N then S j + (S (20 + (j - 26)) - D (j - 26))
  else S j
/-- a deed as the class keeps it: below 0 an errand, else a round -/
def zpk (q : Nat → Nat) : Nat → Nat
  | 0 => 0
  | n + 1 => zpk q n + q n * 8 ^ n
def zap (N : Nat) (x : Int64) (S : zS) : zS :=
  if x < 0 then upd S (14 + ((-x).toInt.toNat - 1) / 12) (S (14 + ((-x).toInt.toNat - 1) / 12) ||| 1 <<< (nI (((-x).toInt.toNat - 1) % 12) &&& 31))
  else zend N S (zwalk S (fun k => x.toInt.toNat / 16 / 8 ^ k % 8) (x.toInt.toNat % 16 - 1)).2.2.1
/-- the post at the cell a as it was before its deed j -/
def zH (h : ab_H) (a N : Nat) : Nat → zS
  | 0 => fun j => if j = 0 then nI N else if 2 ≤ j ∧ j < 2 + N then ab_gI h (a + 1) (j - 2) else if 8 ≤ j ∧ j < 8 + N then ab_gI h (a + 2) (j - 8) else if 20 ≤ j ∧ j < 20 + N then ab_gI h (a + 3) (j - 20) else 0
  | j + 1 => zap N (ab_gJ h (a + 7) j) (zH h a N j)
/-- a deed that may be kept: an errand of a house, or a round of at most 12 houses -/
def zDk (N : Nat) (x : Int64) : Prop := (∃ i t, i < N ∧ t < 12 ∧ x = -(lN (12 * i + t + 1))) ∨ (∃ (q : Nat → Nat) (n : Nat), n ≤ 12 ∧ (∀ k, k < n → q k < N) ∧ x = lN (16 * zpk q n + (n + 1)))
/-- the post at the cell a is the reference's block at b, with dc deeds -/
def zPC (h : ab_H) (a b dc N : Nat) : Prop :=
  N ≤ 6 ∧ dc ≤ 40 ∧ ab_gI h a 7 = nI N ∧ ab_gI h a 9 = nI dc ∧ ab_gI h a 8 = ab_gI h 30 (b + 1)
  ∧ (∀ i, i < N → ab_gI h (a + 1) i = ab_gI h 30 (b + (2 + i)) ∧ ab_gI h (a + 2) i = ab_gI h 30 (b + (8 + i)) ∧ ab_gI h (a + 6) i = ab_gI h 30 (b + (14 + i)) ∧ ab_gI h (a + 4) i = ab_gI h 30 (b + (20 + i)) ∧ ab_gI h (a + 5) i = ab_gI h 30 (b + (26 + i)))
  ∧ (∀ i, i < N → (∃ k, k < 6 ∧ ab_gI h 30 (b + (2 + i)) = nI k) ∧ (∃ o, o < 4096 ∧ ab_gI h 30 (b + (8 + i)) = nI o) ∧ (∃ o, o < 4096 ∧ ab_gI h 30 (b + (14 + i)) = nI o) ∧ (∃ q, q ≤ 99 ∧ ab_gI h 30 (b + (20 + i)) = nI q) ∧ (∃ q, q ≤ 9 ∧ ab_gI h (a + 3) i = nI q))
  ∧ (∀ j, j < dc → zDk N (ab_gJ h (a + 7) j))
  ∧ (∀ j, j < dc → ∀ i, i < 32 → ab_gI h 30 (b + 32 * (j + 1) + i) = zH h a N j i)
  ∧ (∀ i, i < 32 → ab_gI h 30 (b + i) = zH h a N dc i)
def zI_ask (h : ab_H) : Prop := ab_gI h 0 11 = ab_gI h 29 10 ∧ ab_gI h 0 12 = ab_gI h 29 8 ∧ ab_gJ h 0 13 = ab_gJ h 29 11 ∧ ab_gJ h 0 14 = ab_gJ h 29 12
def zI_tal (h : ab_H) : Prop := ∀ f, f < 6 → ab_gI h 16 f = ab_gI h 37 f
def zI_row (h : ab_H) : Prop := ∀ r, r < 6 → ab_gI h 8 r = ab_gI h 33 r ∧ (ab_gI h 33 r = -1 ∨ ∃ n, n ≤ 40 ∧ ab_gI h 33 r = nI n) ∧ ∀ k, k < 40 → ab_gI h (2 + r) k = ab_gI h 32 (40 * r + k)
def zI_txt (h : ab_H) : Prop := ∀ t, t < 4 → ab_gI h 14 t = ab_gI h 35 t ∧ (ab_gI h 35 t = -1 ∨ ∃ n, n ≤ 60 ∧ ab_gI h 35 t = nI n) ∧ ∀ k, k < 60 → ab_gI h (10 + t) k = ab_gI h 34 (60 * t + k) ∧ -128 ≤ (ab_gI h 34 (60 * t + k)).toInt ∧ (ab_gI h 34 (60 * t + k)).toInt ≤ 127
def zI_now (h : ab_H) : Prop := ∃ N dc, (N = 0 → dc = 0) ∧ ab_gI h 29 1 = nI dc ∧ zPC h 41 0 dc N
def zI_kep (h : ab_H) : Prop := ∀ k, k < 3 → (ab_gI h 31 k = -1 ∧ ab_gI h (49 + 8 * k) 7 = 0) ∨ (∃ N dc, 0 < N ∧ ab_gI h 31 k = nI dc ∧ zPC h (49 + 8 * k) (1312 * (k + 1)) dc N)
/-- the places of the search that no step writes -/
def zI_sea (h : ab_H) : Prop := ab_gI h 25 0 = 0 ∧ ab_gI h 26 0 = 0 ∧ ab_gI h 27 0 = 0 ∧ ab_gI h 28 0 = 0
def zInv (h : ab_H) : Prop := zI_ask h ∧ zI_tal h ∧ zI_row h ∧ zI_txt h ∧ zI_now h ∧ zI_kep h ∧ zI_sea h
/-- the class and the reference answer alike, and go on so -/
def zCp (X : ab_X) (d Mx Mm : Nat) (as : List Value) (h : ab_H) : Prop := ∃ v h1 h2, ab_ru X d Mx (.ref 0 :: as) h = some (some v, h1) ∧ ab_ru X d Mm (.ref 29 :: as) h1 = some (some v, h2) ∧ zInv h2
/-! what a part of it rests on -/
theorem zH_frame {h h' : ab_H} {a N : Nat} (e1 : ∀ i, i < 6 → ab_gI h' (a + 1) i = ab_gI h (a + 1) i) (e2 : ∀ i, i < 6 → ab_gI h' (a + 2) i = ab_gI h (a + 2) i) (e3 : ∀ i, i < 6 → ab_gI h' (a + 3) i = ab_gI h (a + 3) i) (hN : N ≤ 6) : ∀ (j : Nat), (∀ i, i < j → ab_gJ h' (a + 7) i = ab_gJ h (a + 7) i) → zH h' a N j = zH h a N j
  | 0, _ => by
    funext j
    unfold zH
    split
    · rfl
    · split
      · exact e1 _ (by omega)
      · split
        · exact e2 _ (by omega)
        · split
          · exact e3 _ (by omega)
          · rfl
  | j + 1, e7 => by
    unfold zH
    rw [zH_frame e1 e2 e3 hN j (fun i hi => e7 i (by omega)), e7 j (by omega)]
theorem zPC_frame {h h' : ab_H} {a b dc N : Nat} (ea : ∀ c, a ≤ c → c ≤ a + 7 → ∀ i, ab_gI h' c i = ab_gI h c i) (ej : ∀ i, ab_gJ h' (a + 7) i = ab_gJ h (a + 7) i) (ew : ∀ i, i < 1312 → ab_gI h' 30 (b + i) = ab_gI h 30 (b + i)) (q : zPC h a b dc N) : zPC h' a b dc N := by
  obtain ⟨q1, q2, q3, q4, q5, q6, q7, q8, q9, q10⟩ := q
  have hH : ∀ j, zH h' a N j = zH h a N j := fun j => zH_frame (fun i _ => ea _ (by omega) (by omega) i) (fun i _ => ea _ (by omega) (by omega) i) (fun i _ => ea _ (by omega) (by omega) i) q1 j (fun i _ => ej i)
  refine ⟨q1, q2, ?_, ?_, ?_, ?_, ?_, ?_, ?_, ?_⟩
  · rw [ea a (by omega) (by omega)]; exact q3
  · rw [ea a (by omega) (by omega)]; exact q4
  · rw [ea a (by omega) (by omega), ew 1 (by omega)]; exact q5
  · intro i hi
    rw [ea (a + 1) (by omega) (by omega), ea (a + 2) (by omega) (by omega), ea (a + 6) (by omega) (by omega), ea (a + 4) (by omega) (by omega), ea (a + 5) (by omega) (by omega), ew (2 + i) (by omega), ew (8 + i) (by omega), ew (14 + i) (by omega), ew (20 + i) (by omega), ew (26 + i) (by omega)]
    exact q6 i hi
  · intro i hi
    rw [ea (a + 3) (by omega) (by omega), ew (2 + i) (by omega), ew (8 + i) (by omega), ew (14 + i) (by omega), ew (20 + i) (by omega)]
    exact q7 i hi
  · intro j hj
    rw [ej]
    exact q8 j hj
  · intro j hj i hi
    rw [hH, show b + 32 * (j + 1) + i = b + (32 * (j + 1) + i) by omega, ew _ (by omega), ← show b + 32 * (j + 1) + i = b + (32 * (j + 1) + i) by omega]
    exact q9 j hj i hi
  · intro i hi
    rw [hH, ew _ (by omega)]
    exact q10 i hi
/-- posts stay where neither they nor the reference's store is written -/
theorem zI_posts {h h' : ab_H} (ea : ∀ c, 41 ≤ c → c < 73 → ∀ i, ab_gI h' c i = ab_gI h c i) (ej : ∀ c, 41 ≤ c → c < 73 → ∀ i, ab_gJ h' c i = ab_gJ h c i) (ew : ∀ i, ab_gI h' 30 i = ab_gI h 30 i) (ek : ∀ i, ab_gI h' 31 i = ab_gI h 31 i) (ed : ab_gI h' 29 1 = ab_gI h 29 1) : (zI_now h → zI_now h') ∧ (zI_kep h → zI_kep h') := by
  refine ⟨fun ⟨N, dc, q1, q2, q3⟩ => ⟨N, dc, q1, by rw [ed]; exact q2, zPC_frame (fun c h1 h2 i => ea c h1 (by omega) i) (fun i => ej _ (by omega) (by omega) i) (fun i _ => ew _) q3⟩, fun q k hk => ?_⟩
  rcases q k hk with ⟨q1, q2⟩ | ⟨N, dc, q1, q2, q3⟩
  · exact Or.inl ⟨by rw [ek]; exact q1, by rw [ea _ (by omega) (by omega)]; exact q2⟩
  · exact Or.inr ⟨N, dc, q1, by rw [ek]; exact q2, zPC_frame (fun c h1 h2 i => ea c (by omega) (by omega) i) (fun i => ej _ (by omega) (by omega) i) (fun i _ => ew _) q3⟩
