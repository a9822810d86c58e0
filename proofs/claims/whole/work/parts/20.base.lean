/-! the memory's laws, and the reads and writes of cells by places that are natural numbers -/
theorem zg_same (h : ab_H) (k i j : Nat) (x : Int32) : ab_gI (ab_sI h k i x) k j = if j = i then x else ab_gI h k j := by
  unfold ab_gI; rw [ab_sI_eq]; rfl
theorem zg_eq (h : ab_H) (k i : Nat) (x : Int32) : ab_gI (ab_sI h k i x) k i = x := by rw [zg_same, if_pos rfl]
theorem zg_nj {i j : Nat} (hj : j ≠ i) (h : ab_H) (k : Nat) (x : Int32) : ab_gI (ab_sI h k i x) k j = ab_gI h k j := by rw [zg_same, if_neg hj]
theorem zg_ne {k k' : Nat} (hk : k' ≠ k) (h : ab_H) (i j : Nat) (x : Int32) : ab_gI (ab_sI h k i x) k' j = ab_gI h k' j := by
  unfold ab_gI; rw [(ab_sI_ne hk).1]
theorem zg_J (h : ab_H) (k i k' j : Nat) (x : Int64) : ab_gI (ab_sJ h k i x) k' j = ab_gI h k' j := rfl
theorem zj_I (h : ab_H) (k i k' j : Nat) (x : Int32) : ab_gJ (ab_sI h k i x) k' j = ab_gJ h k' j := rfl
theorem zj_same (h : ab_H) (k i j : Nat) (x : Int64) : ab_gJ (ab_sJ h k i x) k j = if j = i then x else ab_gJ h k j := by
  unfold ab_gJ; rw [ab_sJ_eq]; rfl
theorem zj_eq (h : ab_H) (k i : Nat) (x : Int64) : ab_gJ (ab_sJ h k i x) k i = x := by rw [zj_same, if_pos rfl]
theorem zj_nj {i j : Nat} (hj : j ≠ i) (h : ab_H) (k : Nat) (x : Int64) : ab_gJ (ab_sJ h k i x) k j = ab_gJ h k j := by rw [zj_same, if_neg hj]
theorem zj_ne {k k' : Nat} (hk : k' ≠ k) (h : ab_H) (i j : Nat) (x : Int64) : ab_gJ (ab_sJ h k i x) k' j = ab_gJ h k' j := by
  unfold ab_gJ; rw [(ab_sJ_ne hk).2]
theorem zc_same (h : ab_H) (a sp b dp n j : Nat) : ab_gI (ab_cI h a sp b dp n) b j = if dp ≤ j ∧ j < dp + n then ab_gI h a (sp + (j - dp)) else ab_gI h b j := by
  unfold ab_gI; rw [ab_cI_eq]; rfl
theorem zc_ne {b k' : Nat} (hk : k' ≠ b) (h : ab_H) (a sp dp n j : Nat) : ab_gI (ab_cI h a sp b dp n) k' j = ab_gI h k' j := by
  unfold ab_gI; rw [(ab_cI_ne hk).1]
theorem zc_J (h : ab_H) (a sp b dp n k' j : Nat) : ab_gI (ab_cJ h a sp b dp n) k' j = ab_gI h k' j := rfl
theorem zk_I (h : ab_H) (a sp b dp n k' j : Nat) : ab_gJ (ab_cI h a sp b dp n) k' j = ab_gJ h k' j := rfl
theorem zk_same (h : ab_H) (a sp b dp n j : Nat) : ab_gJ (ab_cJ h a sp b dp n) b j = if dp ≤ j ∧ j < dp + n then ab_gJ h a (sp + (j - dp)) else ab_gJ h b j := by
  unfold ab_gJ; rw [ab_cJ_eq]; rfl
theorem zk_ne {b k' : Nat} (hk : k' ≠ b) (h : ab_H) (a sp dp n j : Nat) : ab_gJ (ab_cJ h a sp b dp n) k' j = ab_gJ h k' j := by
  unfold ab_gJ; rw [(ab_cJ_ne hk).2]
/-- an array filled from its place k on, m places -/
def zf (h : ab_H) (a k m : Nat) (x : Int32) : ab_H := (fun c => if c = a then fun i => if k ≤ i ∧ i < k + m then x else h.1 a i else h.1 c, h.2)
theorem zf_same (h : ab_H) (a k m : Nat) (x : Int32) (j : Nat) : ab_gI (zf h a k m x) a j = if k ≤ j ∧ j < k + m then x else ab_gI h a j := by
  unfold ab_gI zf; simp
theorem zf_ne {a c : Nat} (hc : c ≠ a) (h : ab_H) (k m : Nat) (x : Int32) (j : Nat) : ab_gI (zf h a k m x) c j = ab_gI h c j := by
  unfold ab_gI zf; simp [hc]
theorem zf_in {k m j : Nat} (h1 : k ≤ j) (h2 : j < k + m) (h : ab_H) (a : Nat) (x : Int32) : ab_gI (zf h a k m x) a j = x := by rw [zf_same, if_pos ⟨h1, h2⟩]
theorem zf_out {k m j : Nat} (h1 : j < k ∨ k + m ≤ j) (h : ab_H) (a : Nat) (x : Int32) : ab_gI (zf h a k m x) a j = ab_gI h a j := by rw [zf_same, if_neg (by omega)]
theorem zf_J (h : ab_H) (a k m : Nat) (x : Int32) (c j : Nat) : ab_gJ (zf h a k m x) c j = ab_gJ h c j := rfl
theorem zf_0 (h : ab_H) (a k : Nat) (x : Int32) : zf h a k 0 x = h := by
  unfold zf
  refine Prod.ext (funext fun c => ?_) rfl
  dsimp only
  split
  · rename_i e
    subst e
    funext i
    rw [if_neg (by omega)]
  · rfl
theorem zf_s (h : ab_H) (a k m : Nat) (x : Int32) : zf (ab_sI h a k x) a (k + 1) m x = zf h a k (m + 1) x := by
  unfold zf ab_sI
  refine Prod.ext (funext fun c => ?_) rfl
  dsimp only
  by_cases e : c = a
  · subst e
    simp only [if_true]
    funext i
    unfold upd
    by_cases h1 : k + 1 ≤ i ∧ i < k + 1 + m
    · rw [if_pos h1, if_pos (by omega)]
    · rw [if_neg h1]
      by_cases h2 : i = k
      · rw [if_pos h2, if_pos (by omega)]
      · rw [if_neg h2, if_neg (by omega)]
  · simp only [if_neg e]
theorem zh_ext {h h' : ab_H} (e1 : ∀ k i, ab_gI h k i = ab_gI h' k i) (e2 : ∀ k i, ab_gJ h k i = ab_gJ h' k i) : h = h' := Prod.ext (funext fun k => funext fun i => e1 k i) (funext fun k => funext fun i => e2 k i)
theorem z_len (a : Nat) : (ab_sh a).2.1 ≤ 5280 := by
  have hb : ∀ z ∈ ab_shT, z.2.1 ≤ 5280 := by decide
  unfold ab_sh
  split
  · rename_i z hz
    exact hb z (List.mem_of_getElem? hz)
  · split
    · decide
    · split <;> decide
theorem z_inB {t a k : Nat} (ha : (ab_sh a).1 = t) (hk : k < (ab_sh a).2.1) : ab_inB t a (nI k) = true := by
  have hl := z_len a
  rw [ab_inB_iff]
  exact ⟨ha, vp_in_nI hk (by omega)⟩
theorem z_cl {k : Nat} (hk : k < 2147483648) : (nI k).toNatClampNeg = k := nI_clamp (by omega)
theorem z_ld {a k : Nat} (ha : (ab_sh a).1 = 1) (hk : k < (ab_sh a).2.1) (X : ab_X) (h : ab_H) (K : Int32 → Option ab_R) : ab_ld X h a (nI k) K = K (ab_gI h a k) := by
  have hl := z_len a
  unfold ab_ld
  rw [if_pos (z_inB ha hk), z_cl (by omega)]
theorem z_lb {a k : Nat} (ha : (ab_sh a).1 = 2) (hk : k < (ab_sh a).2.1) (h : ab_H) (K : Int32 → Option ab_R) : ab_lb h a (nI k) K = K (ab_gI h a k) := by
  have hl := z_len a
  unfold ab_lb
  rw [if_pos (z_inB ha hk), z_cl (by omega)]
theorem z_lj {a k : Nat} (ha : (ab_sh a).1 = 3) (hk : k < (ab_sh a).2.1) (h : ab_H) (K : Int64 → Option ab_R) : ab_lj h a (nI k) K = K (ab_gJ h a k) := by
  have hl := z_len a
  unfold ab_lj
  rw [if_pos (z_inB ha hk), z_cl (by omega)]
theorem z_la {a k : Nat} (ha : (ab_sh a).1 = 4) (hk : k < (ab_sh a).2.1) (K : Nat → Option ab_R) : ab_la a (nI k) K = K (ab_ra a k) := by
  have hl := z_len a
  unfold ab_la
  rw [if_pos (z_inB ha hk), z_cl (by omega)]
theorem z_sd {a k : Nat} (ha : (ab_sh a).1 = 1) (hk : k < (ab_sh a).2.1) (h : ab_H) (x : Int32) (K : ab_H → Option ab_R) : ab_sd h a (nI k) x K = K (ab_sI h a k x) := by
  have hl := z_len a
  unfold ab_sd
  rw [if_pos (z_inB ha hk), z_cl (by omega)]
theorem z_sb {a k : Nat} (ha : (ab_sh a).1 = 2) (hk : k < (ab_sh a).2.1) (h : ab_H) (x : Int32) (K : ab_H → Option ab_R) : ab_sb h a (nI k) x K = K (ab_sI h a k x.toInt8.toInt32) := by
  have hl := z_len a
  unfold ab_sb
  rw [if_pos (z_inB ha hk), z_cl (by omega)]
theorem z_sj {a k : Nat} (ha : (ab_sh a).1 = 3) (hk : k < (ab_sh a).2.1) (h : ab_H) (x : Int64) (K : ab_H → Option ab_R) : ab_sj h a (nI k) x K = K (ab_sJ h a k x) := by
  have hl := z_len a
  unfold ab_sj
  rw [if_pos (z_inB ha hk), z_cl (by omega)]
theorem z_cp {a b sp dp n : Nat} (ha : (ab_sh a).1 = 1) (hb : (ab_sh b).1 = 1) (h1 : sp + n ≤ (ab_sh a).2.1) (h2 : dp + n ≤ (ab_sh b).2.1) (h : ab_H) (K : ab_H → Option ab_R) : ab_cp h a (nI sp) b (nI dp) (nI n) K = K (ab_cI h a sp b dp n) := by
  have hl := z_len a
  have hl2 := z_len b
  unfold ab_cp
  rw [z_cl (k := sp) (by omega), z_cl (k := dp) (by omega), z_cl (k := n) (by omega), if_neg, if_pos ⟨ha, hb⟩]
  simp only [not_or, Nat.not_lt]
  exact ⟨nI_pos (by omega), nI_pos (by omega), nI_pos (by omega), h1, h2⟩
theorem z_cpJ {a b sp dp n : Nat} (ha : (ab_sh a).1 = 3) (hb : (ab_sh b).1 = 3) (h1 : sp + n ≤ (ab_sh a).2.1) (h2 : dp + n ≤ (ab_sh b).2.1) (h : ab_H) (K : ab_H → Option ab_R) : ab_cp h a (nI sp) b (nI dp) (nI n) K = K (ab_cJ h a sp b dp n) := by
  have hl := z_len a
  have hl2 := z_len b
  unfold ab_cp
  rw [z_cl (k := sp) (by omega), z_cl (k := dp) (by omega), z_cl (k := n) (by omega), if_neg, if_neg (by rw [ha]; intro q; cases q.1), if_pos ⟨ha, hb⟩]
  simp only [not_or, Nat.not_lt]
  exact ⟨nI_pos (by omega), nI_pos (by omega), nI_pos (by omega), h1, h2⟩
/-- a post's cell -/
def zP (a : Nat) : Prop := a = 41 ∨ a = 49 ∨ a = 57 ∨ a = 65
theorem zP_ob {a : Nat} (ha : a = 41 ∨ a = 49 ∨ a = 57 ∨ a = 65) (K : Option ab_R) : ab_ob a 0 K = K := by
  rcases ha with rfl | rfl | rfl | rfl <;> rfl
theorem zP_rf {a : Nat} (ha : a = 41 ∨ a = 49 ∨ a = 57 ∨ a = 65) (j : Nat) : ab_rf a j = a + 1 + j := by
  rcases ha with rfl | rfl | rfl | rfl <;> rfl
theorem zP_sh {a j : Nat} (ha : a = 41 ∨ a = 49 ∨ a = 57 ∨ a = 65) (hj : j < 6) : ab_sh (a + 1 + j) = (1, 6, 0) := by
  have : ∀ j, j < 6 → ab_sh (41 + 1 + j) = (1, 6, 0) ∧ ab_sh (49 + 1 + j) = (1, 6, 0) ∧ ab_sh (57 + 1 + j) = (1, 6, 0) ∧ ab_sh (65 + 1 + j) = (1, 6, 0) := by decide
  rcases ha with rfl | rfl | rfl | rfl
  · exact (this j hj).1
  · exact (this j hj).2.1
  · exact (this j hj).2.2.1
  · exact (this j hj).2.2.2
theorem zP_shJ {a : Nat} (ha : a = 41 ∨ a = 49 ∨ a = 57 ∨ a = 65) : ab_sh (a + 1 + 6) = (3, 40, 0) := by
  rcases ha with rfl | rfl | rfl | rfl <;> rfl
theorem zP_ld {a j k : Nat} (ha : a = 41 ∨ a = 49 ∨ a = 57 ∨ a = 65) (hj : j < 6) (hk : k < 6) (X : ab_X) (h : ab_H) (K : Int32 → Option ab_R) : ab_ld X h (a + 1 + j) (nI k) K = K (ab_gI h (a + 1 + j) k) := z_ld (by rw [zP_sh ha hj]) (by rw [zP_sh ha hj]; exact hk) _ _ _
theorem zP_sd {a j k : Nat} (ha : a = 41 ∨ a = 49 ∨ a = 57 ∨ a = 65) (hj : j < 6) (hk : k < 6) (h : ab_H) (x : Int32) (K : ab_H → Option ab_R) : ab_sd h (a + 1 + j) (nI k) x K = K (ab_sI h (a + 1 + j) k x) := z_sd (by rw [zP_sh ha hj]) (by rw [zP_sh ha hj]; exact hk) _ _ _
theorem zP_lj {a k : Nat} (ha : a = 41 ∨ a = 49 ∨ a = 57 ∨ a = 65) (hk : k < 40) (h : ab_H) (K : Int64 → Option ab_R) : ab_lj h (a + 1 + 6) (nI k) K = K (ab_gJ h (a + 1 + 6) k) := z_lj (by rw [zP_shJ ha]) (by rw [zP_shJ ha]; exact hk) _ _
theorem zP_sj {a k : Nat} (ha : a = 41 ∨ a = 49 ∨ a = 57 ∨ a = 65) (hk : k < 40) (h : ab_H) (x : Int64) (K : ab_H → Option ab_R) : ab_sj h (a + 1 + 6) (nI k) x K = K (ab_sJ h (a + 1 + 6) k x) := z_sj (by rw [zP_shJ ha]) (by rw [zP_shJ ha]; exact hk) _ _ _
/-- rows and texts -/
theorem zR_ld {r k : Nat} (hr : r < 6) (hk : k < 40) (X : ab_X) (h : ab_H) (K : Int32 → Option ab_R) : ab_ld X h (2 + r) (nI k) K = K (ab_gI h (2 + r) k) := by
  have hs : ∀ r, r < 6 → ab_sh (2 + r) = (1, 40, 0) := by decide
  exact z_ld (by rw [hs r hr]) (by rw [hs r hr]; exact hk) _ _ _
theorem zR_sd {r k : Nat} (hr : r < 6) (hk : k < 40) (h : ab_H) (x : Int32) (K : ab_H → Option ab_R) : ab_sd h (2 + r) (nI k) x K = K (ab_sI h (2 + r) k x) := by
  have hs : ∀ r, r < 6 → ab_sh (2 + r) = (1, 40, 0) := by decide
  exact z_sd (by rw [hs r hr]) (by rw [hs r hr]; exact hk) _ _ _
theorem zT_lb {r k : Nat} (hr : r < 4) (hk : k < 60) (h : ab_H) (K : Int32 → Option ab_R) : ab_lb h (10 + r) (nI k) K = K (ab_gI h (10 + r) k) := by
  have hs : ∀ r, r < 4 → ab_sh (10 + r) = (2, 60, 0) := by decide
  exact z_lb (by rw [hs r hr]) (by rw [hs r hr]; exact hk) _ _
theorem zT_sb {r k : Nat} (hr : r < 4) (hk : k < 60) (h : ab_H) (x : Int32) (K : ab_H → Option ab_R) : ab_sb h (10 + r) (nI k) x K = K (ab_sI h (10 + r) k x.toInt8.toInt32) := by
  have hs : ∀ r, r < 4 → ab_sh (10 + r) = (2, 60, 0) := by decide
  exact z_sb (by rw [hs r hr]) (by rw [hs r hr]; exact hk) _ _ _
theorem zL_rows {r : Nat} (hr : r < 6) (K : Nat → Option ab_R) : ab_la 1 (nI r) K = K (2 + r) := z_la rfl hr K
theorem zL_texts {r : Nat} (hr : r < 4) (K : Nat → Option ab_R) : ab_la 9 (nI r) K = K (10 + r) := z_la rfl hr K
theorem zL_kept {r : Nat} (hr : r < 3) (K : Nat → Option ab_R) : ab_la 15 (nI r) K = K (49 + 8 * r) := z_la rfl hr K
theorem zpu_s (v : Value) (st : List Value) : ab_pu (some v) st = v :: st := rfl
theorem zpu_n (st : List Value) : ab_pu none st = st := rfl
theorem zlit (n : Nat) : (OfNat.ofNat n : Int32) = nI n := rfl
/-- a truth value -/
def zb (p : Prop) [Decidable p] : Int32 := if p then 1 else 0
theorem zb_t {p : Prop} [Decidable p] (h : p) : zb p = 1 := if_pos h
theorem zb_f {p : Prop} [Decidable p] (h : ¬ p) : zb p = 0 := if_neg h
theorem zb_0 {p : Prop} [Decidable p] : (zb p = 0) = ¬ p := by
  unfold zb
  by_cases h : p <;> simp [h]
theorem zb_n0 {p : Prop} [Decidable p] : (zb p = nI 0) = ¬ p := zb_0
theorem zr0 : ab_rk (some .boolean) 0 = true := rfl
theorem zr1 : ab_rk (some .boolean) 1 = true := rfl
theorem zrn0 : ab_rk (some .boolean) (nI 0) = true := rfl
theorem zrn1 : ab_rk (some .boolean) (nI 1) = true := rfl
theorem zrb {p : Prop} [Decidable p] : ab_rk (some .boolean) (zb p) = true := by
  by_cases q : p
  · rw [zb_t q]; rfl
  · rw [zb_f q]; rfl
theorem zd8 {k : Nat} (hk : k < 6) (X : ab_X) (h : ab_H) (K : Int32 → Option ab_R) : ab_ld X h 8 (nI k) K = K (ab_gI h 8 k) := z_ld rfl hk _ _ _
theorem zs8 {k : Nat} (hk : k < 6) (h : ab_H) (x : Int32) (K : ab_H → Option ab_R) : ab_sd h 8 (nI k) x K = K (ab_sI h 8 k x) := z_sd rfl hk _ _ _
theorem zd14 {k : Nat} (hk : k < 4) (X : ab_X) (h : ab_H) (K : Int32 → Option ab_R) : ab_ld X h 14 (nI k) K = K (ab_gI h 14 k) := z_ld rfl hk _ _ _
theorem zs14 {k : Nat} (hk : k < 4) (h : ab_H) (x : Int32) (K : ab_H → Option ab_R) : ab_sd h 14 (nI k) x K = K (ab_sI h 14 k x) := z_sd rfl hk _ _ _
theorem zd16 {k : Nat} (hk : k < 6) (X : ab_X) (h : ab_H) (K : Int32 → Option ab_R) : ab_ld X h 16 (nI k) K = K (ab_gI h 16 k) := z_ld rfl hk _ _ _
theorem zs16 {k : Nat} (hk : k < 6) (h : ab_H) (x : Int32) (K : ab_H → Option ab_R) : ab_sd h 16 (nI k) x K = K (ab_sI h 16 k x) := z_sd rfl hk _ _ _
theorem zd17 {k : Nat} (hk : k < 6) (X : ab_X) (h : ab_H) (K : Int32 → Option ab_R) : ab_ld X h 17 (nI k) K = K (ab_gI h 17 k) := z_ld rfl hk _ _ _
theorem zs17 {k : Nat} (hk : k < 6) (h : ab_H) (x : Int32) (K : ab_H → Option ab_R) : ab_sd h 17 (nI k) x K = K (ab_sI h 17 k x) := z_sd rfl hk _ _ _
theorem zd18 {k : Nat} (hk : k < 6) (X : ab_X) (h : ab_H) (K : Int32 → Option ab_R) : ab_ld X h 18 (nI k) K = K (ab_gI h 18 k) := z_ld rfl hk _ _ _
theorem zs18 {k : Nat} (hk : k < 6) (h : ab_H) (x : Int32) (K : ab_H → Option ab_R) : ab_sd h 18 (nI k) x K = K (ab_sI h 18 k x) := z_sd rfl hk _ _ _
theorem zd20 {k : Nat} (hk : k < 12) (X : ab_X) (h : ab_H) (K : Int32 → Option ab_R) : ab_ld X h 20 (nI k) K = K (ab_gI h 20 k) := z_ld rfl hk _ _ _
theorem zs20 {k : Nat} (hk : k < 12) (h : ab_H) (x : Int32) (K : ab_H → Option ab_R) : ab_sd h 20 (nI k) x K = K (ab_sI h 20 k x) := z_sd rfl hk _ _ _
theorem zd22 {k : Nat} (hk : k < 6) (X : ab_X) (h : ab_H) (K : Int32 → Option ab_R) : ab_ld X h 22 (nI k) K = K (ab_gI h 22 k) := z_ld rfl hk _ _ _
theorem zs22 {k : Nat} (hk : k < 6) (h : ab_H) (x : Int32) (K : ab_H → Option ab_R) : ab_sd h 22 (nI k) x K = K (ab_sI h 22 k x) := z_sd rfl hk _ _ _
theorem zd23 {k : Nat} (hk : k < 6) (X : ab_X) (h : ab_H) (K : Int32 → Option ab_R) : ab_ld X h 23 (nI k) K = K (ab_gI h 23 k) := z_ld rfl hk _ _ _
theorem zs23 {k : Nat} (hk : k < 6) (h : ab_H) (x : Int32) (K : ab_H → Option ab_R) : ab_sd h 23 (nI k) x K = K (ab_sI h 23 k x) := z_sd rfl hk _ _ _
theorem zd24 {k : Nat} (hk : k < 6) (X : ab_X) (h : ab_H) (K : Int32 → Option ab_R) : ab_ld X h 24 (nI k) K = K (ab_gI h 24 k) := z_ld rfl hk _ _ _
theorem zs24 {k : Nat} (hk : k < 6) (h : ab_H) (x : Int32) (K : ab_H → Option ab_R) : ab_sd h 24 (nI k) x K = K (ab_sI h 24 k x) := z_sd rfl hk _ _ _
theorem zd25 {k : Nat} (hk : k < 7) (X : ab_X) (h : ab_H) (K : Int32 → Option ab_R) : ab_ld X h 25 (nI k) K = K (ab_gI h 25 k) := z_ld rfl hk _ _ _
theorem zs25 {k : Nat} (hk : k < 7) (h : ab_H) (x : Int32) (K : ab_H → Option ab_R) : ab_sd h 25 (nI k) x K = K (ab_sI h 25 k x) := z_sd rfl hk _ _ _
theorem zd26 {k : Nat} (hk : k < 7) (X : ab_X) (h : ab_H) (K : Int32 → Option ab_R) : ab_ld X h 26 (nI k) K = K (ab_gI h 26 k) := z_ld rfl hk _ _ _
theorem zs26 {k : Nat} (hk : k < 7) (h : ab_H) (x : Int32) (K : ab_H → Option ab_R) : ab_sd h 26 (nI k) x K = K (ab_sI h 26 k x) := z_sd rfl hk _ _ _
theorem zd27 {k : Nat} (hk : k < 7) (X : ab_X) (h : ab_H) (K : Int32 → Option ab_R) : ab_ld X h 27 (nI k) K = K (ab_gI h 27 k) := z_ld rfl hk _ _ _
theorem zs27 {k : Nat} (hk : k < 7) (h : ab_H) (x : Int32) (K : ab_H → Option ab_R) : ab_sd h 27 (nI k) x K = K (ab_sI h 27 k x) := z_sd rfl hk _ _ _
theorem zd28 {k : Nat} (hk : k < 7) (X : ab_X) (h : ab_H) (K : Int32 → Option ab_R) : ab_ld X h 28 (nI k) K = K (ab_gI h 28 k) := z_ld rfl hk _ _ _
theorem zs28 {k : Nat} (hk : k < 7) (h : ab_H) (x : Int32) (K : ab_H → Option ab_R) : ab_sd h 28 (nI k) x K = K (ab_sI h 28 k x) := z_sd rfl hk _ _ _
theorem zd30 {k : Nat} (hk : k < 5280) (X : ab_X) (h : ab_H) (K : Int32 → Option ab_R) : ab_ld X h 30 (nI k) K = K (ab_gI h 30 k) := z_ld rfl hk _ _ _
theorem zs30 {k : Nat} (hk : k < 5280) (h : ab_H) (x : Int32) (K : ab_H → Option ab_R) : ab_sd h 30 (nI k) x K = K (ab_sI h 30 k x) := z_sd rfl hk _ _ _
theorem zd31 {k : Nat} (hk : k < 3) (X : ab_X) (h : ab_H) (K : Int32 → Option ab_R) : ab_ld X h 31 (nI k) K = K (ab_gI h 31 k) := z_ld rfl hk _ _ _
theorem zs31 {k : Nat} (hk : k < 3) (h : ab_H) (x : Int32) (K : ab_H → Option ab_R) : ab_sd h 31 (nI k) x K = K (ab_sI h 31 k x) := z_sd rfl hk _ _ _
theorem zd32 {k : Nat} (hk : k < 240) (X : ab_X) (h : ab_H) (K : Int32 → Option ab_R) : ab_ld X h 32 (nI k) K = K (ab_gI h 32 k) := z_ld rfl hk _ _ _
theorem zs32 {k : Nat} (hk : k < 240) (h : ab_H) (x : Int32) (K : ab_H → Option ab_R) : ab_sd h 32 (nI k) x K = K (ab_sI h 32 k x) := z_sd rfl hk _ _ _
theorem zd33 {k : Nat} (hk : k < 6) (X : ab_X) (h : ab_H) (K : Int32 → Option ab_R) : ab_ld X h 33 (nI k) K = K (ab_gI h 33 k) := z_ld rfl hk _ _ _
theorem zs33 {k : Nat} (hk : k < 6) (h : ab_H) (x : Int32) (K : ab_H → Option ab_R) : ab_sd h 33 (nI k) x K = K (ab_sI h 33 k x) := z_sd rfl hk _ _ _
theorem zd34 {k : Nat} (hk : k < 240) (X : ab_X) (h : ab_H) (K : Int32 → Option ab_R) : ab_ld X h 34 (nI k) K = K (ab_gI h 34 k) := z_ld rfl hk _ _ _
theorem zs34 {k : Nat} (hk : k < 240) (h : ab_H) (x : Int32) (K : ab_H → Option ab_R) : ab_sd h 34 (nI k) x K = K (ab_sI h 34 k x) := z_sd rfl hk _ _ _
theorem zd35 {k : Nat} (hk : k < 4) (X : ab_X) (h : ab_H) (K : Int32 → Option ab_R) : ab_ld X h 35 (nI k) K = K (ab_gI h 35 k) := z_ld rfl hk _ _ _
theorem zs35 {k : Nat} (hk : k < 4) (h : ab_H) (x : Int32) (K : ab_H → Option ab_R) : ab_sd h 35 (nI k) x K = K (ab_sI h 35 k x) := z_sd rfl hk _ _ _
theorem zd36 {k : Nat} (hk : k < 40) (X : ab_X) (h : ab_H) (K : Int32 → Option ab_R) : ab_ld X h 36 (nI k) K = K (ab_gI h 36 k) := z_ld rfl hk _ _ _
theorem zs36 {k : Nat} (hk : k < 40) (h : ab_H) (x : Int32) (K : ab_H → Option ab_R) : ab_sd h 36 (nI k) x K = K (ab_sI h 36 k x) := z_sd rfl hk _ _ _
theorem zd37 {k : Nat} (hk : k < 6) (X : ab_X) (h : ab_H) (K : Int32 → Option ab_R) : ab_ld X h 37 (nI k) K = K (ab_gI h 37 k) := z_ld rfl hk _ _ _
theorem zs37 {k : Nat} (hk : k < 6) (h : ab_H) (x : Int32) (K : ab_H → Option ab_R) : ab_sd h 37 (nI k) x K = K (ab_sI h 37 k x) := z_sd rfl hk _ _ _
theorem zd38 {k : Nat} (hk : k < 6) (X : ab_X) (h : ab_H) (K : Int32 → Option ab_R) : ab_ld X h 38 (nI k) K = K (ab_gI h 38 k) := z_ld rfl hk _ _ _
theorem zs38 {k : Nat} (hk : k < 6) (h : ab_H) (x : Int32) (K : ab_H → Option ab_R) : ab_sd h 38 (nI k) x K = K (ab_sI h 38 k x) := z_sd rfl hk _ _ _
theorem zd39 {k : Nat} (hk : k < 6) (X : ab_X) (h : ab_H) (K : Int32 → Option ab_R) : ab_ld X h 39 (nI k) K = K (ab_gI h 39 k) := z_ld rfl hk _ _ _
theorem zs39 {k : Nat} (hk : k < 6) (h : ab_H) (x : Int32) (K : ab_H → Option ab_R) : ab_sd h 39 (nI k) x K = K (ab_sI h 39 k x) := z_sd rfl hk _ _ _
theorem zd40 {k : Nat} (hk : k < 7) (X : ab_X) (h : ab_H) (K : Int32 → Option ab_R) : ab_ld X h 40 (nI k) K = K (ab_gI h 40 k) := z_ld rfl hk _ _ _
theorem zs40 {k : Nat} (hk : k < 7) (h : ab_H) (x : Int32) (K : ab_H → Option ab_R) : ab_sd h 40 (nI k) x K = K (ab_sI h 40 k x) := z_sd rfl hk _ _ _
