/-! one instruction of the abstract machine is one of the machine -/
abbrev ab_A (base : Nat) : Nat → Prop := fun q => base ≤ q
def ab_rm (d : Nat) : Room := { frames := d + 1, cells := 0, slots := 0, locals := 100 * (d + 1) }
def ab_B (D : va_G) (base : Nat) (ad : Nat → Nat) (cA : Nat → ClassId) (X : ab_X) (h : ab_H) (U : State) : Prop := base ≤ U.heap.size ∧ va_P D vwCl (ab_w ad cA h) U.heap ∧ va_K D vwCl (ab_ty cA) U ∧ va_Z "AbsentPost" "KIND_LETTERS" "[I" (.ref (ad 80)) (ab_A base) U U.heap ∧ va_T .int (ad 80) 6 (fun j => .int (ab_kl j)) (ab_A base) U U.heap ∧ va_X (ad 81) X.1 X.2 U U.heap ∧ ∀ (a : String) (i : Nat) (x : MethodName) (t : String), Cond.methodLinkNest a i x t ∈ lw_tbl → va_Nw (.methodLinkNest a i x t) U
def ab_Qc (D : va_G) (base : Nat) (ad : Nat → Nat) (cA : Nat → ClassId) (z : ab_R) : Array Value → State → Outcome → State → Prop := match z.1 with
  | none => va_Qv (fun u : ab_H => u = z.2) (fun u t => va_P D vwCl (ab_w ad cA u) t.heap) (ab_A base)
  | some (.int x) => va_Qi (fun (r : Int32) (u : ab_H) => r = x ∧ u = z.2) (fun u t => va_P D vwCl (ab_w ad cA u) t.heap) (ab_A base)
  | some (.long x) => va_Ql (fun (r : Int64) (u : ab_H) => r = x ∧ u = z.2) (fun u t => va_P D vwCl (ab_w ad cA u) t.heap) (ab_A base)
  | _ => fun _ _ _ _ => False
def ab_Ct (l : Launch) (D : va_G) (base : Nat) (ad : Nat → Nat) (cA : Nat → ClassId) (X : ab_X) (d M : Nat) (as : List Value) (h : ab_H) (z : ab_R) : Prop := ∀ e : ab_E, ab_mt[M]? = some e → Met l e.1 (.code e.1 e.2.1 e.2.2.1 e.2.2.2.1 :: ab_tb) (ab_rm d) (va_Pc (as.map (ab_cv ad)) (ab_B D base ad cA X h)) (ab_Qc D base ad cA z) 0 0 (ab_A base)
def ab_G (base : Nat) (ad : Nat → Nat) (cA : Nat → ClassId) : Prop := (∀ h, va_D (ab_A base) (ab_w ad cA h)) ∧ ad 81 < base
/-! what an answer says of its parts -/
theorem ab_lI_s {lv : List Value} {i : Nat} {k : Int32 → Option ab_R} {r : ab_R} (h : ab_lI lv i k = some r) : ∃ x, lv[i]? = some (.int x) ∧ k x = some r := by
  unfold ab_lI at h; split at h
  · exact ⟨_, by assumption, h⟩
  · cases h
theorem ab_lJ_s {lv : List Value} {i : Nat} {k : Int64 → Option ab_R} {r : ab_R} (h : ab_lJ lv i k = some r) : ∃ x, lv[i]? = some (.long x) ∧ k x = some r := by
  unfold ab_lJ at h; split at h
  · exact ⟨_, by assumption, h⟩
  · cases h
theorem ab_lR_s {lv : List Value} {i : Nat} {k : Nat → Option ab_R} {r : ab_R} (h : ab_lR lv i k = some r) : ∃ x, lv[i]? = some (.ref x) ∧ k x = some r := by
  unfold ab_lR at h; split at h
  · exact ⟨_, by assumption, h⟩
  · cases h
theorem ab_if_s {c : Prop} [Decidable c] {k : Option ab_R} {r : ab_R} (h : (if c then k else none) = some r) : c ∧ k = some r := by
  split at h
  · exact ⟨by assumption, h⟩
  · cases h
theorem ab_1I_s {st : List Value} {k : Int32 → List Value → Option ab_R} {r : ab_R} (h : ab_1I st k = some r) : ∃ x s', st = .int x :: s' ∧ k x s' = some r := by
  unfold ab_1I at h; split at h
  · exact ⟨_, _, rfl, h⟩
  · cases h
theorem ab_2I_s {st : List Value} {k : Int32 → Int32 → List Value → Option ab_R} {r : ab_R} (h : ab_2I st k = some r) : ∃ x y s', st = .int y :: .int x :: s' ∧ k x y s' = some r := by
  unfold ab_2I at h; split at h
  · exact ⟨_, _, _, rfl, h⟩
  · cases h
theorem ab_1J_s {st : List Value} {k : Int64 → List Value → Option ab_R} {r : ab_R} (h : ab_1J st k = some r) : ∃ x s', st = .long x :: s' ∧ k x s' = some r := by
  unfold ab_1J at h; split at h
  · exact ⟨_, _, rfl, h⟩
  · cases h
theorem ab_2J_s {st : List Value} {k : Int64 → Int64 → List Value → Option ab_R} {r : ab_R} (h : ab_2J st k = some r) : ∃ x y s', st = .long y :: .long x :: s' ∧ k x y s' = some r := by
  unfold ab_2J at h; split at h
  · exact ⟨_, _, _, rfl, h⟩
  · cases h
theorem ab_JI_s {st : List Value} {k : Int64 → Int32 → List Value → Option ab_R} {r : ab_R} (h : ab_JI st k = some r) : ∃ x y s', st = .int y :: .long x :: s' ∧ k x y s' = some r := by
  unfold ab_JI at h; split at h
  · exact ⟨_, _, _, rfl, h⟩
  · cases h
theorem ab_1R_s {st : List Value} {k : Nat → List Value → Option ab_R} {r : ab_R} (h : ab_1R st k = some r) : ∃ x s', st = .ref x :: s' ∧ k x s' = some r := by
  unfold ab_1R at h; split at h
  · exact ⟨_, _, rfl, h⟩
  · cases h
theorem ab_RI_s {st : List Value} {k : Nat → Int32 → List Value → Option ab_R} {r : ab_R} (h : ab_RI st k = some r) : ∃ a i s', st = .int i :: .ref a :: s' ∧ k a i s' = some r := by
  unfold ab_RI at h; split at h
  · exact ⟨_, _, _, rfl, h⟩
  · cases h
theorem ab_RII_s {st : List Value} {k : Nat → Int32 → Int32 → List Value → Option ab_R} {r : ab_R} (h : ab_RII st k = some r) : ∃ a i x s', st = .int x :: .int i :: .ref a :: s' ∧ k a i x s' = some r := by
  unfold ab_RII at h; split at h
  · exact ⟨_, _, _, _, rfl, h⟩
  · cases h
theorem ab_RIJ_s {st : List Value} {k : Nat → Int32 → Int64 → List Value → Option ab_R} {r : ab_R} (h : ab_RIJ st k = some r) : ∃ a i x s', st = .long x :: .int i :: .ref a :: s' ∧ k a i x s' = some r := by
  unfold ab_RIJ at h; split at h
  · exact ⟨_, _, _, _, rfl, h⟩
  · cases h
theorem ab_5_s {st : List Value} {k : Nat → Int32 → Nat → Int32 → Int32 → List Value → Option ab_R} {r : ab_R} (h : ab_5 st k = some r) : ∃ a sp b dp n s', st = .int n :: .int dp :: .ref b :: .int sp :: .ref a :: s' ∧ k a sp b dp n s' = some r := by
  unfold ab_5 at h; split at h
  · exact ⟨_, _, _, _, _, _, rfl, h⟩
  · cases h
theorem ab_1V_s {st : List Value} {k : Value → List Value → Option ab_R} {r : ab_R} (h : ab_1V st k = some r) : ∃ v s', st = v :: s' ∧ v.category = 1 ∧ k v s' = some r := by
  unfold ab_1V at h; split at h
  · exact ⟨_, _, rfl, ab_if_s h⟩
  · cases h
theorem ab_2V_s {st : List Value} {k : Value → Value → List Value → Option ab_R} {r : ab_R} (h : ab_2V st k = some r) : ∃ v w s', st = v :: w :: s' ∧ (v.category = 1 ∧ w.category = 1) ∧ k v w s' = some r := by
  unfold ab_2V at h; split at h
  · exact ⟨_, _, _, rfl, ab_if_s h⟩
  · cases h
theorem ab_tg_s {pc : Nat} {off : Int} {k : Nat → Option ab_R} {r : ab_R} (h : ab_tg pc off k = some r) : ∃ t : Nat, (pc : Int) + off = (t : Int) ∧ k t = some r := by
  obtain ⟨h1, h2⟩ := ab_if_s h
  exact ⟨_, (Int.toNat_of_nonneg h1).symm, h2⟩
theorem ab_dI_s {y : Int32} {k : Option ab_R} {r : ab_R} (h : ab_dI y k = some r) : ¬ y = 0 ∧ k = some r := by
  unfold ab_dI at h; split at h
  · cases h
  · exact ⟨by assumption, h⟩
theorem ab_dJ_s {y : Int64} {k : Option ab_R} {r : ab_R} (h : ab_dJ y k = some r) : ¬ y = 0 ∧ k = some r := by
  unfold ab_dJ at h; split at h
  · cases h
  · exact ⟨by assumption, h⟩
theorem ab_ob_s {a ci : Nat} {k : Option ab_R} {r : ab_R} (h : ab_ob a ci k = some r) : ((ab_sh a).1 = 5 ∧ (ab_sh a).2.1 = ci) ∧ k = some r := ab_if_s h
theorem ab_pf_s {h : ab_H} {ci j : Nat} {st : List Value} {k : ab_H → List Value → Option ab_R} {r : ab_R} (q : ab_pf h ci j st k = some r) : (ab_fk ci j = 0 ∧ ∃ x a s', st = .int x :: .ref a :: s' ∧ ((ab_sh a).1 = 5 ∧ (ab_sh a).2.1 = ci) ∧ k (ab_sI h a j x) s' = some r) ∨ (ab_fk ci j = 1 ∧ ∃ x a s', st = .long x :: .ref a :: s' ∧ ((ab_sh a).1 = 5 ∧ (ab_sh a).2.1 = ci) ∧ k (ab_sJ h a j x) s' = some r) := by
  unfold ab_pf at q
  split at q
  · split at q
    · exact Or.inl ⟨by assumption, _, _, _, rfl, ab_ob_s q⟩
    · cases q
  · split at q
    · exact Or.inr ⟨by assumption, _, _, _, rfl, ab_ob_s q⟩
    · cases q
  · cases q
theorem ab_lt_ge {x y : Int32} (h : ¬ x < y) : y ≤ x := Int32.not_lt.mp h
theorem ab_bI_s {c : Jvm.ClassFile.Cond} {x y : Int32} {k1 k2 : Option ab_R} {r : ab_R} (h : ab_bI c x y k1 k2 = some r) : (match c with
  | .eq => (x = y → k1 = some r) ∧ (¬ x = y → k2 = some r)
  | .ne => (¬ x = y → k1 = some r) ∧ (x = y → k2 = some r)
  | .lt => (x < y → k1 = some r) ∧ (¬ x < y → k2 = some r)
  | .ge => (y ≤ x → k1 = some r) ∧ (¬ y ≤ x → k2 = some r)
  | .gt => (y < x → k1 = some r) ∧ (¬ y < x → k2 = some r)
  | .le => (x ≤ y → k1 = some r) ∧ (¬ x ≤ y → k2 = some r)) := by
  cases c <;> unfold ab_bI at h <;> dsimp only at h ⊢
  · exact ⟨fun e => by rw [if_pos e] at h; exact h, fun e => by rw [if_neg e] at h; exact h⟩
  · exact ⟨fun e => by rw [if_neg e] at h; exact h, fun e => by rw [if_pos e] at h; exact h⟩
  · exact ⟨fun e => by rw [if_pos e] at h; exact h, fun e => by rw [if_neg e] at h; exact h⟩
  · exact ⟨fun e => by rw [if_neg (Int32.not_lt.mpr e)] at h; exact h, fun e => by rw [if_pos (Int32.not_le.mp e)] at h; exact h⟩
  · exact ⟨fun e => by rw [if_pos e] at h; exact h, fun e => by rw [if_neg e] at h; exact h⟩
  · exact ⟨fun e => by rw [if_neg (Int32.not_lt.mpr e)] at h; exact h, fun e => by rw [if_pos (Int32.not_le.mp e)] at h; exact h⟩
theorem ab_ts_s {pc : Nat} {x : Int32} {d lo hi : Int} {offs : Array Int} {k : Nat → Option ab_R} {r : ab_R} (h : ab_ts pc x d lo hi offs k = some r) : ((x.toInt < lo ∨ hi < x.toInt) ∧ ∃ t : Nat, (pc : Int) + d = (t : Int) ∧ k t = some r) ∨ ((¬ x.toInt < lo ∧ ¬ hi < x.toInt) ∧ ∃ off, offs[(x.toInt - lo).toNat]? = some off ∧ ∃ t : Nat, (pc : Int) + off = (t : Int) ∧ k t = some r) := by
  unfold ab_ts at h
  split at h
  · exact Or.inl ⟨by assumption, ab_tg_s h⟩
  · rename_i e
    right
    split at h
    · exact ⟨⟨fun z => e (Or.inl z), fun z => e (Or.inr z)⟩, _, by assumption, ab_tg_s h⟩
    · cases h
theorem ab_ld_s {X : ab_X} {h : ab_H} {a : Nat} {i : Int32} {k : Int32 → Option ab_R} {r : ab_R} (q : ab_ld X h a i k = some r) : (ab_in 1 a i ∧ k (ab_gI h a i.toNatClampNeg) = some r) ∨ (ab_in 6 a i ∧ k (ab_kl i.toNatClampNeg) = some r) ∨ (((ab_sh a).1 = 7 ∧ vp_in i X.1) ∧ k (X.2 i.toNatClampNeg) = some r) := by
  unfold ab_ld at q
  split at q
  · exact Or.inl ⟨ab_inB_iff.mp (by assumption), q⟩
  · split at q
    · exact Or.inr (Or.inl ⟨ab_inB_iff.mp (by assumption), q⟩)
    · obtain ⟨h1, h2⟩ := ab_if_s q
      refine Or.inr (Or.inr ⟨?_, h2⟩)
      simpa [vp_in] using h1
theorem ab_ln_s {X : ab_X} {a : Nat} {k : Int32 → Option ab_R} {r : ab_R} (q : ab_ln X a k = some r) : (((ab_sh a).1 = 1 ∨ (ab_sh a).1 = 2) ∧ k (Int32.ofNat (ab_sh a).2.1) = some r) ∨ ((ab_sh a).1 = 6 ∧ k 6 = some r) ∨ ((ab_sh a).1 = 7 ∧ k (Int32.ofNat X.1) = some r) := by
  unfold ab_ln at q
  split at q
  · exact Or.inl ⟨by assumption, q⟩
  · split at q
    · exact Or.inr (Or.inl ⟨by assumption, q⟩)
    · exact Or.inr (Or.inr (ab_if_s q))
theorem ab_cp_s {h : ab_H} {a : Nat} {sp : Int32} {b : Nat} {dp n : Int32} {k : ab_H → Option ab_R} {r : ab_R} (q : ab_cp h a sp b dp n k = some r) : (¬ sp < 0 ∧ ¬ dp < 0 ∧ ¬ n < 0 ∧ sp.toNatClampNeg + n.toNatClampNeg ≤ (ab_sh a).2.1 ∧ dp.toNatClampNeg + n.toNatClampNeg ≤ (ab_sh b).2.1) ∧ ((((ab_sh a).1 = 1 ∧ (ab_sh b).1 = 1) ∧ k (ab_cI h a sp.toNatClampNeg b dp.toNatClampNeg n.toNatClampNeg) = some r) ∨ (((ab_sh a).1 = 3 ∧ (ab_sh b).1 = 3) ∧ k (ab_cJ h a sp.toNatClampNeg b dp.toNatClampNeg n.toNatClampNeg) = some r)) := by
  unfold ab_cp at q
  split at q
  · cases q
  · rename_i e
    simp only [not_or, Nat.not_lt] at e
    refine ⟨e, ?_⟩
    split at q
    · exact Or.inl ⟨by assumption, q⟩
    · exact Or.inr (ab_if_s q)
theorem ab_sh_k {a t : Nat} (h : (ab_sh a).1 = t) (h0 : 0 < t) (h5 : t ≤ 5) : a < 73 := ab_sh_lt (by omega) (by omega) (by omega)
theorem ab_cal_s {st : List Value} {n : Nat} {k : List Value → List Value → Option ab_R} {r : ab_R} (h : ab_cal st n k = some r) : n ≤ st.length ∧ ab_ws (st.drop n) ≤ 8 ∧ k (st.take n).reverse (st.drop n) = some r := by
  obtain ⟨h1, h2⟩ := ab_if_s h
  exact ⟨h1.1, h1.2, h2⟩
theorem ab_ws_cv (ad : Nat → Nat) (st : List Value) : ((st.map (ab_cv ad)).map fun v => v.category).sum = ab_ws st := by
  unfold ab_ws
  rw [List.map_map]
  congr 1
  apply List.map_congr_left
  intro v _
  exact ab_cv_cat ad v
