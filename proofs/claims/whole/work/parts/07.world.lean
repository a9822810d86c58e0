/-! the abstract memory as a world of the machine -/
def ab_cv (ad : Nat → Nat) (v : Value) : Value := match v with
  | .ref k => .ref (ad k)
  | v => v
def ab_ent (ad : Nat → Nat) (cA : Nat → ClassId) (h : ab_H) (k : Nat) : va_E := match (ab_sh k).1 with
  | 1 => .inl (cA 0, (ab_sh k).2.1, .inl (h.1 k))
  | 2 => .inl (cA 1, (ab_sh k).2.1, .inl (h.1 k))
  | 3 => .inl (cA 2, (ab_sh k).2.1, .inr (.inl (h.2 k)))
  | 4 => .inl (cA (3 + (ab_sh k).2.2), (ab_sh k).2.1, .inr (.inr (.inr (.inr (fun i => if i < (ab_sh k).2.1 then some (ad (ab_ra k i)) else none)))))
  | _ => .inr ((ab_sh k).2.1, (List.range (ab_nf (ab_sh k).2.1)).map (fun j => ab_cv ad (ab_fv h k (ab_sh k).2.1 j)))
def ab_w (ad : Nat → Nat) (cA : Nat → ClassId) (h : ab_H) : va_W := (List.range 73).map (fun k => (ad k, ab_ent ad cA h k))
def ab_ty (cA : Nat → ClassId) : List (ClassId × FieldType) := [(cA 0, .int), (cA 1, .byte), (cA 2, .long), (cA 3, .array .int), (cA 4, .array .byte), (cA 5, .object "AbsentPost$Post")]
theorem ab_w_get (ad : Nat → Nat) (cA : Nat → ClassId) (h : ab_H) {k : Nat} (hk : k < 73) : (ab_w ad cA h)[k]? = some (ad k, ab_ent ad cA h k) := by
  simp [ab_w, hk]
theorem ab_sh_lt {k : Nat} (h1 : (ab_sh k).1 ≠ 0) (h6 : (ab_sh k).1 ≠ 6) (h7 : (ab_sh k).1 ≠ 7) : k < 73 := by
  refine Nat.lt_of_not_le fun hk => ?_
  have e : ab_shT[k]? = none := List.getElem?_eq_none (by rw [show ab_shT.length = 73 from rfl]; exact hk)
  unfold ab_sh at h1 h6 h7
  rw [e] at h1 h6 h7
  by_cases e1 : k = 80
  · simp [e1] at h6
  · by_cases e2 : k = 81
    · simp [e2] at h7
    · simp [e1, e2] at h1
theorem ab_w_set {ad : Nat → Nat} {cA : Nat → ClassId} {h h' : ab_H} {k : Nat} {e : va_E} (hs : ∀ j, j ≠ k → ab_ent ad cA h j = ab_ent ad cA h' j) (he : e = ab_ent ad cA h' k) : (ab_w ad cA h).set k (ad k, e) = ab_w ad cA h' := by
  apply List.ext_getElem?
  intro j
  rw [List.getElem?_set]
  by_cases hj : j < 73
  · rw [ab_w_get ad cA h' hj]
    by_cases hjk : k = j
    · subst hjk
      rw [if_pos rfl, if_pos (by simpa [ab_w] using hj), he]
    · rw [if_neg hjk, ab_w_get ad cA h hj, hs j (fun q => hjk q.symm)]
  · have e1 : (ab_w ad cA h')[j]? = none := List.getElem?_eq_none (by simp [ab_w]; omega)
    have e2 : (ab_w ad cA h)[j]? = none := List.getElem?_eq_none (by simp [ab_w]; omega)
    rw [e1, e2]
    by_cases hjk : k = j
    · rw [if_pos hjk, if_neg (by simp [ab_w]; omega)]
    · rw [if_neg hjk]
theorem ab_ent_1 {ad : Nat → Nat} {cA : Nat → ClassId} {h : ab_H} {k : Nat} (e : (ab_sh k).1 = 1) : ab_ent ad cA h k = .inl (cA 0, (ab_sh k).2.1, .inl (h.1 k)) := by unfold ab_ent; rw [e]; rfl
theorem ab_ent_2 {ad : Nat → Nat} {cA : Nat → ClassId} {h : ab_H} {k : Nat} (e : (ab_sh k).1 = 2) : ab_ent ad cA h k = .inl (cA 1, (ab_sh k).2.1, .inl (h.1 k)) := by unfold ab_ent; rw [e]; rfl
theorem ab_ent_3 {ad : Nat → Nat} {cA : Nat → ClassId} {h : ab_H} {k : Nat} (e : (ab_sh k).1 = 3) : ab_ent ad cA h k = .inl (cA 2, (ab_sh k).2.1, .inr (.inl (h.2 k))) := by unfold ab_ent; rw [e]; rfl
theorem ab_ent_4 {ad : Nat → Nat} {cA : Nat → ClassId} {h : ab_H} {k : Nat} (e : (ab_sh k).1 = 4) : ab_ent ad cA h k = .inl (cA (3 + (ab_sh k).2.2), (ab_sh k).2.1, .inr (.inr (.inr (.inr (fun i => if i < (ab_sh k).2.1 then some (ad (ab_ra k i)) else none))))) := by unfold ab_ent; rw [e]; rfl
theorem ab_ent_5 {ad : Nat → Nat} {cA : Nat → ClassId} {h : ab_H} {k : Nat} (e : (ab_sh k).1 = 5) : ab_ent ad cA h k = .inr ((ab_sh k).2.1, (List.range (ab_nf (ab_sh k).2.1)).map (fun j => ab_cv ad (ab_fv h k (ab_sh k).2.1 j))) := by unfold ab_ent; rw [e]; rfl
/-- cells that hold the same are the same -/
theorem ab_ent_eq {ad : Nat → Nat} {cA : Nat → ClassId} {h h' : ab_H} {k : Nat} (e1 : h.1 k = h'.1 k) (e2 : h.2 k = h'.2 k) : ab_ent ad cA h k = ab_ent ad cA h' k := by
  have e3 : ∀ j, ab_fv h k (ab_sh k).2.1 j = ab_fv h' k (ab_sh k).2.1 j := fun j => by
    unfold ab_fv ab_gI ab_gJ
    rw [e1, e2]
  unfold ab_ent
  simp only [e1, e2, e3]
theorem ab_sI_ne {h : ab_H} {k i j : Nat} {x : Int32} (hj : j ≠ k) : (ab_sI h k i x).1 j = h.1 j ∧ (ab_sI h k i x).2 j = h.2 j := ⟨if_neg hj, rfl⟩
theorem ab_sJ_ne {h : ab_H} {k i j : Nat} {x : Int64} (hj : j ≠ k) : (ab_sJ h k i x).1 j = h.1 j ∧ (ab_sJ h k i x).2 j = h.2 j := ⟨rfl, if_neg hj⟩
theorem ab_cI_ne {h : ab_H} {a sp b dp n j : Nat} (hj : j ≠ b) : (ab_cI h a sp b dp n).1 j = h.1 j ∧ (ab_cI h a sp b dp n).2 j = h.2 j := ⟨if_neg hj, rfl⟩
theorem ab_cJ_ne {h : ab_H} {a sp b dp n j : Nat} (hj : j ≠ b) : (ab_cJ h a sp b dp n).1 j = h.1 j ∧ (ab_cJ h a sp b dp n).2 j = h.2 j := ⟨rfl, if_neg hj⟩
theorem ab_sI_eq {h : ab_H} {k i : Nat} {x : Int32} : (ab_sI h k i x).1 k = upd (h.1 k) i x := if_pos rfl
theorem ab_sJ_eq {h : ab_H} {k i : Nat} {x : Int64} : (ab_sJ h k i x).2 k = vp_updL (h.2 k) i x := if_pos rfl
theorem ab_cI_eq {h : ab_H} {a sp b dp n : Nat} : (ab_cI h a sp b dp n).1 b = va_cpy (h.1 a) (h.1 b) sp dp n := if_pos rfl
theorem ab_cJ_eq {h : ab_H} {a sp b dp n : Nat} : (ab_cJ h a sp b dp n).2 b = va_cpy (h.2 a) (h.2 b) sp dp n := if_pos rfl
theorem ab_w_sI {ad : Nat → Nat} {cA : Nat → ClassId} {h : ab_H} {k i : Nat} {x : Int32} {e : va_E} (he : e = ab_ent ad cA (ab_sI h k i x) k) : (ab_w ad cA h).set k (ad k, e) = ab_w ad cA (ab_sI h k i x) :=
  ab_w_set (fun _ hj => ab_ent_eq (ab_sI_ne hj).1.symm (ab_sI_ne hj).2.symm) he
theorem ab_w_sJ {ad : Nat → Nat} {cA : Nat → ClassId} {h : ab_H} {k i : Nat} {x : Int64} {e : va_E} (he : e = ab_ent ad cA (ab_sJ h k i x) k) : (ab_w ad cA h).set k (ad k, e) = ab_w ad cA (ab_sJ h k i x) :=
  ab_w_set (fun _ hj => ab_ent_eq (ab_sJ_ne hj).1.symm (ab_sJ_ne hj).2.symm) he
theorem ab_w_cI {ad : Nat → Nat} {cA : Nat → ClassId} {h : ab_H} {a sp b dp n : Nat} {e : va_E} (he : e = ab_ent ad cA (ab_cI h a sp b dp n) b) : (ab_w ad cA h).set b (ad b, e) = ab_w ad cA (ab_cI h a sp b dp n) :=
  ab_w_set (fun _ hj => ab_ent_eq (ab_cI_ne hj).1.symm (ab_cI_ne hj).2.symm) he
theorem ab_w_cJ {ad : Nat → Nat} {cA : Nat → ClassId} {h : ab_H} {a sp b dp n : Nat} {e : va_E} (he : e = ab_ent ad cA (ab_cJ h a sp b dp n) b) : (ab_w ad cA h).set b (ad b, e) = ab_w ad cA (ab_cJ h a sp b dp n) :=
  ab_w_set (fun _ hj => ab_ent_eq (ab_cJ_ne hj).1.symm (ab_cJ_ne hj).2.symm) he
/-- a field is set -/
theorem ab_map_set {n j : Nat} {g g' : Nat → Value} {v : Value} (hj : j < n) (h1 : g' j = v) (h2 : ∀ i, i ≠ j → g' i = g i) : ((List.range n).map g).set j v = (List.range n).map g' := by
  apply List.ext_getElem?
  intro i
  rw [List.getElem?_set]
  by_cases hij : j = i
  · subst hij
    rw [if_pos rfl, if_pos (by simpa using hj)]
    simp [hj, h1]
  · rw [if_neg hij]
    simp only [List.getElem?_map]
    cases he : (List.range n)[i]? with
    | none => rfl
    | some q =>
      have : q = i := by
        have h3 := List.getElem?_eq_some_iff.mp he
        obtain ⟨h4, h5⟩ := h3
        simpa using h5.symm
      subst this
      simp only [Option.map_some]
      rw [h2 q (fun z => hij z.symm)]
theorem ab_fv_sI {h : ab_H} {a ci j i : Nat} {x : Int32} (hij : i ≠ j) : ab_fv (ab_sI h a j x) a ci i = ab_fv h a ci i := by
  unfold ab_fv ab_gI ab_gJ
  rw [ab_sI_eq]
  have e : upd (h.1 a) j x i = h.1 a i := if_neg hij
  rw [e]
  rfl
theorem ab_fv_sJ {h : ab_H} {a ci j i : Nat} {x : Int64} (hij : i ≠ j) : ab_fv (ab_sJ h a j x) a ci i = ab_fv h a ci i := by
  unfold ab_fv ab_gI ab_gJ
  rw [ab_sJ_eq]
  have e : vp_updL (h.2 a) j x i = h.2 a i := if_neg hij
  rw [e]
  rfl
theorem ab_fv_sI_eq {h : ab_H} {a ci j : Nat} {x : Int32} (hk : ab_fk ci j = 0) : ab_fv (ab_sI h a j x) a ci j = .int x := by
  unfold ab_fv ab_gI
  rw [hk, ab_sI_eq]
  show Value.int (upd (h.1 a) j x j) = _
  rw [show upd (h.1 a) j x j = x from if_pos rfl]
theorem ab_fv_sJ_eq {h : ab_H} {a ci j : Nat} {x : Int64} (hk : ab_fk ci j = 1) : ab_fv (ab_sJ h a j x) a ci j = .long x := by
  unfold ab_fv ab_gJ
  rw [hk, ab_sJ_eq]
  show Value.long (vp_updL (h.2 a) j x j) = _
  rw [show vp_updL (h.2 a) j x j = x from if_pos rfl]
/-! locals -/
def ab_lp (ad : Nat → Nat) (lv : List Value) : List (Nat × Value) := (List.range lv.length).filterMap (fun (i : Nat) => match lv[i]? with
  | some v => if v = Value.null then none else some (i, ab_cv ad v)
  | none => none)
theorem ab_lp_mem {ad : Nat → Nat} {lv : List Value} {q : Nat × Value} : q ∈ ab_lp ad lv ↔ ∃ v, lv[q.1]? = some v ∧ v ≠ .null ∧ q.2 = ab_cv ad v := by
  unfold ab_lp
  rw [List.mem_filterMap]
  constructor
  · rintro ⟨i, hi, h⟩
    cases hv : lv[i]? with
    | none => rw [hv] at h; cases h
    | some v =>
      rw [hv] at h
      dsimp only at h
      by_cases hn : v = .null
      · rw [if_pos hn] at h; cases h
      · rw [if_neg hn] at h
        cases h
        exact ⟨v, hv, hn, rfl⟩
  · rintro ⟨v, hv, hn, he⟩
    refine ⟨q.1, List.mem_range.mpr (List.getElem?_eq_some_iff.mp hv).1, ?_⟩
    rw [hv]
    dsimp only
    rw [if_neg hn, ← he]
theorem ab_lp_at {ad : Nat → Nat} {lv : List Value} {ls : Array Slot} {n i : Nat} {v : Value} (hl : lv_has ls n (ab_lp ad lv)) (hv : lv[i]? = some v) (hn : v ≠ .null) : ls[i]? = some (.val (ab_cv ad v)) := hl.2.2 (i, ab_cv ad v) (ab_lp_mem.mpr ⟨v, hv, hn, rfl⟩)
theorem ab_cv_cat (ad : Nat → Nat) (v : Value) : (ab_cv ad v).category = v.category := by cases v <;> rfl
/-- longs stand where they may -/
def ab_Lok (lg : List Nat) (lv : List Value) : Prop := ∀ (j : Nat) (v : Value), lv[j]? = some v → v.category = 2 → lg.contains j = true
theorem ab_lp_s1 {ad : Nat → Nat} {lg : List Nat} {lv : List Value} {ls : Array Slot} {n i : Nat} {v : Value} (hL : ab_Lok lg lv) (hp : ab_nl lg i = true) (hi : i < lv.length) (h : lv_has ls n ((i, ab_cv ad v) :: (ab_lp ad lv).filter (fun q => !(q.1 == i) && !(q.1 + 1 == i && q.2.category == 2)))) : lv_has ls n (ab_lp ad (lv.set i v)) := by
  refine ⟨h.1, h.2.1, fun q hq => h.2.2 q ?_⟩
  obtain ⟨w, hw, hn, he⟩ := ab_lp_mem.mp hq
  rw [List.getElem?_set] at hw
  by_cases e : i = q.1
  · rw [if_pos e, if_pos hi] at hw
    cases hw
    rw [show q = (i, ab_cv ad v) from Prod.ext e.symm he]
    exact List.mem_cons_self
  · rw [if_neg e] at hw
    refine List.mem_cons_of_mem _ (List.mem_filter.mpr ⟨ab_lp_mem.mpr ⟨w, hw, hn, he⟩, ?_⟩)
    have e' : ¬ q.1 = i := fun z => e z.symm
    simp only [Bool.and_eq_true, Bool.not_eq_true', beq_eq_false_iff_ne, ne_eq, e', not_false_eq_true, true_and, Bool.and_eq_false_iff]
    by_cases e2 : q.1 + 1 = i
    · right
      intro hc
      rw [he, ab_cv_cat] at hc
      have h3 := hL q.1 w hw hc
      rw [← e2] at hp
      unfold ab_nl at hp
      simp only [h3] at hp
      cases hp
    · left
      exact e2
theorem ab_Lok_s1 {lg : List Nat} {lv : List Value} {i : Nat} {v : Value} (hL : ab_Lok lg lv) (hv : v.category ≠ 2) : ab_Lok lg (lv.set i v) := by
  intro j w hw hc
  rw [List.getElem?_set] at hw
  split at hw
  · split at hw
    · cases hw; exact absurd hc hv
    · cases hw
  · exact hL j w hw hc
theorem ab_lp_s2 {ad : Nat → Nat} {lg : List Nat} {lv : List Value} {ls : Array Slot} {n i : Nat} {v : Value} (hL : ab_Lok lg lv) (hp : ab_nl lg i = true) (hi : i + 1 < lv.length) (h : lv_has ls n ((i, ab_cv ad v) :: (ab_lp ad lv).filter (fun q => !(q.1 == i) && (!(q.1 == i + 1) && !(q.1 + 1 == i && q.2.category == 2))))) : lv_has ls n (ab_lp ad ((lv.set i v).set (i + 1) .null)) := by
  refine ⟨h.1, h.2.1, fun q hq => h.2.2 q ?_⟩
  obtain ⟨w, hw, hn, he⟩ := ab_lp_mem.mp hq
  rw [List.getElem?_set] at hw
  by_cases e0 : i + 1 = q.1
  · rw [if_pos e0, if_pos (by simpa using hi)] at hw
    cases hw
    exact absurd rfl hn
  rw [if_neg e0, List.getElem?_set] at hw
  by_cases e : i = q.1
  · rw [if_pos e, if_pos (by omega)] at hw
    cases hw
    rw [show q = (i, ab_cv ad v) from Prod.ext e.symm he]
    exact List.mem_cons_self
  · rw [if_neg e] at hw
    refine List.mem_cons_of_mem _ (List.mem_filter.mpr ⟨ab_lp_mem.mpr ⟨w, hw, hn, he⟩, ?_⟩)
    have e' : ¬ q.1 = i := fun z => e z.symm
    have e0' : ¬ q.1 = i + 1 := fun z => e0 z.symm
    simp only [Bool.and_eq_true, Bool.not_eq_true', beq_eq_false_iff_ne, ne_eq, e', e0', not_false_eq_true, true_and, Bool.and_eq_false_iff]
    by_cases e2 : q.1 + 1 = i
    · right
      intro hc
      rw [he, ab_cv_cat] at hc
      have h3 := hL q.1 w hw hc
      rw [← e2] at hp
      unfold ab_nl at hp
      simp only [h3] at hp
      cases hp
    · left
      exact e2
theorem ab_Lok_s2 {lg : List Nat} {lv : List Value} {i : Nat} {v : Value} (hL : ab_Lok lg lv) (hi : lg.contains i = true) : ab_Lok lg ((lv.set i v).set (i + 1) .null) := by
  refine ab_Lok_s1 ?_ (by intro q; cases q)
  intro j w hw hc
  rw [List.getElem?_set] at hw
  split at hw
  · rename_i e
    rw [← e]
    exact hi
  · exact hL j w hw hc
