/-! what is tried aside leaves what both sides hold of each other -/
theorem zInv_fr0 {h h' : ab_H} (hI : zInv h) (e : ∀ c i, ((1 ≤ c ∧ c ≤ 16) ∨ (30 ≤ c ∧ c ≤ 35) ∨ c = 37 ∨ 41 ≤ c) → ab_gI h' c i = ab_gI h c i) (e29 : ab_gI h' 29 1 = ab_gI h 29 1) (es : ∀ c, 25 ≤ c → c ≤ 28 → ab_gI h' c 0 = ab_gI h c 0) (eJ : ∀ c i, 41 ≤ c → ab_gJ h' c i = ab_gJ h c i) (ea : zI_ask h') : zInv h' := by
  obtain ⟨i1, i2, i3, i4, i5, i6, i7⟩ := hI
  have hp := zI_posts (h := h) (h' := h') (fun c h1 h2 i => e c i (by omega)) (fun c h1 h2 i => eJ c i h1) (fun i => e 30 i (by omega)) (fun i => e 31 i (by omega)) e29
  refine ⟨ea, fun f hf => ?_, fun r hr => ?_, fun t ht => ?_, hp.1 i5, hp.2 i6, ?_⟩
  · rw [e 16 f (by omega), e 37 f (by omega)]; exact i2 f hf
  · obtain ⟨b1, b2, b3⟩ := i3 r hr
    refine ⟨?_, ?_, fun k hk => ?_⟩
    · rw [e 8 r (by omega), e 33 r (by omega)]; exact b1
    · rw [e 33 r (by omega)]; exact b2
    · rw [e (2 + r) k (by omega), e 32 _ (by omega)]; exact b3 k hk
  · obtain ⟨b1, b2, b3⟩ := i4 t ht
    refine ⟨?_, ?_, fun k hk => ?_⟩
    · rw [e 14 t (by omega), e 35 t (by omega)]; exact b1
    · rw [e 35 t (by omega)]; exact b2
    · rw [e (10 + t) k (by omega), e 34 _ (by omega)]; exact b3 k hk
  · obtain ⟨c1, c2, c3, c4⟩ := i7
    refine ⟨?_, ?_, ?_, ?_⟩
    · rw [es 25 (by omega) (by omega)]; exact c1
    · rw [es 26 (by omega) (by omega)]; exact c2
    · rw [es 27 (by omega) (by omega)]; exact c3
    · rw [es 28 (by omega) (by omega)]; exact c4
/-- alike but for what the reference lays aside for a postman under way -/
def zFr (h h' : ab_H) : Prop := (∀ c i, c ≠ 38 → c ≠ 39 → c ≠ 29 → ab_gI h' c i = ab_gI h c i) ∧ (∀ i, (i < 16 ∨ 20 < i) → ab_gI h' 29 i = ab_gI h 29 i) ∧ ∀ c i, ab_gJ h' c i = ab_gJ h c i
theorem zFr_refl (h : ab_H) : zFr h h := ⟨fun _ _ _ _ _ => rfl, fun _ _ => rfl, fun _ _ => rfl⟩
theorem zFr_trans {h h' h'' : ab_H} (a : zFr h h') (b : zFr h' h'') : zFr h h'' := ⟨fun c i h1 h2 h3 => (b.1 c i h1 h2 h3).trans (a.1 c i h1 h2 h3), fun i hi => (b.2.1 i hi).trans (a.2.1 i hi), fun c i => (b.2.2 c i).trans (a.2.2 c i)⟩
theorem zFr_zmh {h h' : ab_H} (a : zFr h h') (s : zM) : zFr h (zmh h' s) := ⟨fun c i h1 h2 h3 => (zmh_ne h2 h3 _ _ _).trans (a.1 c i h1 h2 h3), fun i hi => (zmh_29 hi _ _).trans (a.2.1 i hi), fun c i => a.2.2 c i⟩
theorem zFr_s38 {h h' : ab_H} (a : zFr h h') (i : Nat) (x : Int32) : zFr h (ab_sI h' 38 i x) := ⟨fun c j h1 h2 h3 => (zg_ne h1 _ _ _ _).trans (a.1 c j h1 h2 h3), fun j hj => (zg_ne (by omega) _ _ _ _).trans (a.2.1 j hj), fun c i => a.2.2 c i⟩
theorem zFr_s39 {h h' : ab_H} (a : zFr h h') (i : Nat) (x : Int32) : zFr h (ab_sI h' 39 i x) := ⟨fun c j h1 h2 h3 => (zg_ne h2 _ _ _ _).trans (a.1 c j h1 h2 h3), fun j hj => (zg_ne (by omega) _ _ _ _).trans (a.2.1 j hj), fun c i => a.2.2 c i⟩
theorem zFr_s29 {h h' : ab_H} (a : zFr h h') {i : Nat} (hi : 16 ≤ i ∧ i ≤ 20) (x : Int32) : zFr h (ab_sI h' 29 i x) := ⟨fun c j h1 h2 h3 => (zg_ne h3 _ _ _ _).trans (a.1 c j h1 h2 h3), fun j hj => (zg_nj (by omega) _ _ _).trans (a.2.1 j hj), fun c i => a.2.2 c i⟩
theorem zInv_Fr {h h' : ab_H} (hI : zInv h) (f : zFr h h') : zInv h' := by
  obtain ⟨i1, -, -, -, -, -, -⟩ := id hI
  obtain ⟨f1, f2, f3⟩ := f
  refine zInv_fr0 hI (fun c i hc => f1 c i (by omega) (by omega) (by omega)) (f2 1 (by omega)) (fun c h1 h2 => f1 c 0 (by omega) (by omega) (by omega)) (fun c i _ => f3 c i) ?_
  unfold zI_ask at i1 ⊢
  rw [f1 0 11 (by omega) (by omega) (by omega), f1 0 12 (by omega) (by omega) (by omega), f2 10 (by omega), f2 8 (by omega), f3, f3, f3, f3]
  exact i1
/-- alike but for what the class lays aside for a postman under way -/
def zFc (h h' : ab_H) : Prop := (∀ c i, c ≠ 17 → c ≠ 18 → c ≠ 19 → c ≠ 20 → ab_gI h' c i = ab_gI h c i) ∧ ∀ c i, ab_gJ h' c i = ab_gJ h c i
theorem zFc_refl (h : ab_H) : zFc h h := ⟨fun _ _ _ _ _ _ => rfl, fun _ _ => rfl⟩
theorem zFc_Rd (h : ab_H) (j n : Nat) : zFc h (zRd h j n) := ⟨fun c i _ _ h3 h4 => by unfold zRd; rw [zc_ne h4, zg_ne h3], fun _ _ => rfl⟩
theorem zFc_17 {h h' : ab_H} (a : zFc h h') (D : Nat → Int32) : zFc h (zput h' 17 D) := ⟨fun c i h1 h2 h3 h4 => (zput_ne h1 _ _ _).trans (a.1 c i h1 h2 h3 h4), fun c i => a.2 c i⟩
theorem zFc_18 {h h' : ab_H} (a : zFc h h') (D : Nat → Int32) : zFc h (zput h' 18 D) := ⟨fun c i h1 h2 h3 h4 => (zput_ne h2 _ _ _).trans (a.1 c i h1 h2 h3 h4), fun c i => a.2 c i⟩
theorem zInv_Fc {h h' : ab_H} (hI : zInv h) (f : zFc h h') : zInv h' := by
  obtain ⟨i1, -, -, -, -, -, -⟩ := id hI
  obtain ⟨f1, f3⟩ := f
  refine zInv_fr0 hI (fun c i hc => f1 c i (by omega) (by omega) (by omega) (by omega)) (f1 29 1 (by omega) (by omega) (by omega) (by omega)) (fun c h1 h2 => f1 c 0 (by omega) (by omega) (by omega) (by omega)) (fun c i _ => f3 c i) ?_
  unfold zI_ask at i1 ⊢
  rw [f1 0 11 (by omega) (by omega) (by omega) (by omega), f1 0 12 (by omega) (by omega) (by omega) (by omega), f1 29 10 (by omega) (by omega) (by omega) (by omega), f1 29 8 (by omega) (by omega) (by omega) (by omega), f3, f3, f3, f3]
  exact i1
/-! goings alike -/
def zmEq (N : Nat) (s s' : zM) : Prop := zgEq N s.1 s'.1 ∧ s.2 = s'.2
theorem zgot_eq {N : Nat} {e e' : Nat → Int32} {q : Nat} {g g' : zG} (hq : q < N) (he : ∀ i, i < N → e i = e' i) (hg : zgEq N g g') : zgot e q g = zgot e' q g' := by
  obtain ⟨a1, a2, a3, a4⟩ := hg
  unfold zgot
  rw [a1, a2, he q hq, a3 q hq]
theorem zgm1_eq {N : Nat} {e e' : Nat → Int32} {q : Nat} {s s' : zM} (hq : q < N) (he : ∀ i, i < N → e i = e' i) (hg : zmEq N s s') : zmEq N (zgm1 e q s) (zgm1 e' q s') := by
  refine ⟨zgo1_eq hq he hg.1, ?_⟩
  unfold zgm1
  dsimp only
  rw [zgot_eq hq he hg.1, hg.1.1, hg.1.2.1, hg.2]
theorem zgom_eq {N : Nat} {e e' : Nat → Int32} {q : Nat → Nat} {s s' : zM} (he : ∀ i, i < N → e i = e' i) (hg : zmEq N s s') : ∀ n, (∀ k, k < n → q k < N) → zmEq N (zgom e q n s) (zgom e' q n s')
  | 0, _ => hg
  | n + 1, hq => zgm1_eq (hq n (by omega)) he (zgom_eq he hg n (fun k hk => hq k (by omega)))
/-- a round gone aside from hours e and letters D -/
def zgone (e D : Nat → Int32) (q : Nat → Nat) (n : Nat) : zM := zgom e q n ((0, 0, D, 0), 0, 0)
theorem zgone_1 (e D : Nat → Int32) (q : Nat → Nat) (n : Nat) : (zgone e D q n).1 = zgo e q n (0, 0, D, 0) := zgom_1 _ _ _ n
theorem zW_gone (h : ab_H) (q : Nat → Nat) (n : Nat) : zW h q n = (zgone (zEm h) (fun i => ab_gI h 30 (20 + i)) q n).1 := (zgone_1 _ _ _ _).symm
theorem zEm_congr {h h' : ab_H} (e : ∀ i, ab_gI h' 30 i = ab_gI h 30 i) (i : Nat) : zEm h' i = zEm h i := by unfold zEm; rw [e, e, e]
theorem zOu_congr {h h' : ab_H} (e : ∀ i, ab_gI h' 30 i = ab_gI h 30 i) (i : Nat) : zOu h' i = zOu h i := by unfold zOu; rw [e, e]
/-- the reference begins -/
theorem f145 (X : ab_X) (d : Nat) {N : Nat} (hN : N ≤ 6) {h0 h : ab_H} (f : zFr h0 h) (n5 : ab_gI h0 30 0 = nI N) (t1 : ∀ i, i < N → ∃ k, k < 6 ∧ ab_gI h0 30 (2 + i) = nI k) : ∃ h', ab_ru X (d + 2) 145 [.ref 29] h = some (none, h') ∧ zFr h0 h' ∧ (∀ i, i < N → ab_gI h' 38 i = zEm h0 i) ∧ (∀ i, i < N → ab_gI h' 39 i = ab_gI h0 30 (20 + i)) := by
  have e30 : ∀ i, ab_gI h 30 i = ab_gI h0 30 i := fun i => f.1 30 i (by omega) (by omega) (by omega)
  refine ⟨_, s145 X d hN (h := h) (by rw [e30]; exact n5) (fun i hi => by rw [e30]; exact t1 i hi), ?_, fun i hi => ?_, fun i hi => ?_⟩
  · apply zFr_zmh
    refine ⟨fun c i h1 h2 h3 => ?_, fun i hi => ?_, fun c i => f.2.2 c i⟩
    · rw [zput_ne h1]; exact f.1 c i h1 h2 h3
    · rw [zput_ne (by omega)]; exact f.2.1 i hi
  · rw [zmh_ne (by omega) (by omega), zput_same, if_pos hi]; exact zEm_congr e30 i
  · rw [zmh_39]
    dsimp only
    rw [if_pos hi, e30]
/-- the reference goes a round -/
theorem f147 (X : ab_X) (d : Nat) {r n N : Nat} {q : Nat → Nat} (hr : r < 6) (hn : n ≤ 12) (hN : N ≤ 6) {h0 h : ab_H} (f : zFr h0 h) (hs : ab_gI h0 33 r = nI n) (hq : ∀ k, k < n → q k < N ∧ ab_gI h0 32 (40 * r + k) = nI (q k)) {e D : Nat → Int32} (he : ∀ i, i < N → ab_gI h 38 i = e i) (hD : ∀ i, i < N → ab_gI h 39 i = D i) : ∃ h', ab_ru X (d + 2) 147 [.ref 29, .int (nI r)] h = some (none, h') ∧ zFr h0 h' ∧ (∀ i, ab_gI h' 38 i = ab_gI h 38 i) ∧ (∀ i, i < N → ab_gI h' 39 i = (zgone e D q n).1.2.2.1 i) ∧ ab_gI h' 29 18 = (zgone e D q n).1.2.2.2 ∧ ab_gI h' 29 19 = (zgone e D q n).2.1 ∧ ab_gI h' 29 20 = (zgone e D q n).2.2 := by
  have hz : zmEq N (zgom (fun i => ab_gI h 38 i) q n ((0, 0, fun i => ab_gI h 39 i, 0), 0, 0)) (zgone e D q n) := by
    unfold zgone
    exact zgom_eq (s := ((0, 0, fun i => ab_gI h 39 i, 0), 0, 0)) (s' := ((0, 0, D, 0), 0, 0)) he ⟨⟨rfl, rfl, hD, rfl⟩, rfl⟩ n (fun k hk => (hq k hk).1)
  refine ⟨_, s147 X d hr hn (h := h) (q := q) (by rw [f.1 33 r (by omega) (by omega) (by omega)]; exact hs) (fun k hk => ⟨by have := (hq k hk).1; omega, by rw [f.1 32 _ (by omega) (by omega) (by omega)]; exact (hq k hk).2⟩), zFr_zmh f _, fun i => ?_, fun i hi => ?_, ?_, ?_, ?_⟩
  · rw [zmh_ne (by omega) (by omega)]
  · rw [zmh_39]; exact hz.1.2.2.1 i hi
  · rw [zmh_18]; exact hz.1.2.2.2
  · rw [zmh_19, hz.2]
  · rw [zmh_20, hz.2]
/-- the stops of a row -/
def zqf (h : ab_H) (j k : Nat) : Nat := (ab_gI h 32 (40 * j + k)).toNatClampNeg
theorem zqf_get {h : ab_H} {j n N : Nat} (hN : N ≤ 6) (hq : ∀ k, k < n → ∃ q, q < N ∧ ab_gI h 32 (40 * j + k) = nI q) : ∀ k, k < n → zqf h j k < N ∧ ab_gI h 32 (40 * j + k) = nI (zqf h j k) := by
  intro k hk
  obtain ⟨q, h1, h2⟩ := hq k hk
  unfold zqf
  rw [h2, z_cl (by omega)]
  exact ⟨h1, rfl⟩
theorem zal_of {f : Nat → Int32} {N : Nat} (hN : N ≤ 6) : ∀ (m k : Nat), (∀ j, k ≤ j → j < k + m → ∃ q, q < N ∧ f j = nI q) → zal f N m k = true
  | 0, _, _ => rfl
  | m + 1, k, e => by
    unfold zal
    obtain ⟨q, h1, h2⟩ := e k (by omega) (by omega)
    rw [zal_of hN m (k + 1) (fun j h1 h2 => e j (by omega) (by omega)), h2, decide_eq_true (show ¬ nI q < nI 0 ∧ nI q < nI N from ⟨nI_nlt (by omega) (by omega), nI_lt h1 (by omega)⟩)]
    rfl
/-- a row that is a round, for the reference -/
theorem f144 (X : ab_X) (d : Nat) {j n N : Nat} {q : Nat → Nat} (hj : j < 6) (hn : n ≤ 12) (hN : N ≤ 6) (hN0 : 0 < N) {h : ab_H} (n5 : ab_gI h 30 0 = nI N) (hs : ab_gI h 33 j = nI n) (hq : ∀ k, k < n → q k < N ∧ ab_gI h 32 (40 * j + k) = nI (q k)) : ab_ru X (d + 20) 144 [.ref 29, .int (nI j)] h = some (some (.int (nI 0)), h) := by
  have e2 := s144l X (d + 18) hj hn hN n5 hs n 0 (by omega)
  rw [if_pos (zal_of hN n 0 (fun k _ hk => ⟨q k, hq k (by omega)⟩))] at e2
  simp (discharger := omega) only [r144, b144_0, b144_4, b144_9, b144_21, b144_36, b144_53, s106, zpu_s, zpu_n, Option.bind_some, zlit, Bool.false_eq_true, zlt_t, zlt_f, zeq_t, zeq_f, nI_add, pk_mul, zb_0, zb_n0, not_true_eq_false, not_false_eq_true, Classical.not_not, if_true, if_false, ite_true, ite_false, and_self, and_true, true_and, and_false, false_and, or_self, or_true, true_or, or_false, false_or, reduceIte, zd30, n5, zd33, hs]
  exact e2
/-- what zround hands on -/
theorem zRd_19 (h : ab_H) (j n : Nat) : ab_gI (zRd h j n) 19 1 = nI n := by unfold zRd; rw [zc_ne (by omega), zg_eq]
theorem zRd_20 {h : ab_H} {j n k : Nat} (hk : k < n) (b3 : ab_gI h (2 + j) k = ab_gI h 32 (40 * j + k)) (hj : j < 6) : ab_gI (zRd h j n) 20 k = ab_gI h 32 (40 * j + k) := by
  unfold zRd
  rw [zc_same, if_pos (by omega), zg_ne (by omega), show 0 + (k - 0) = k by omega]
  exact b3
theorem zv0 {v : Int32} (hv : v = -nI 1 ∨ v = -nI 3 ∨ v = -nI 4) : (v = nI 0) = False := by
  rcases hv with rfl | rfl | rfl <;> exact eq_false (by decide)
theorem zvl {v : Int32} (hv : v = -nI 1 ∨ v = -nI 3 ∨ v = -nI 4) : (v < nI 0) = True := by
  rcases hv with rfl | rfl | rfl <;> exact eq_true (by decide)
