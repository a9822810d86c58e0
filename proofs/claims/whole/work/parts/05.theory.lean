/-! the abstract machine: a step is nothing, a next state, an answer, or a call; more steps change no answer; the run without a count of steps, and its equations -/
abbrev ab_KN : Type := Nat → List Value → List Value → ab_H → Option ab_R
abbrev ab_KC : Type := Nat → List Value → ab_H → (ab_R → Option ab_R) → Option ab_R
def ab_Sh (f : ab_KN → ab_KC → Option ab_R) : Prop :=
  (∀ kn kc, f kn kc = none) ∨ (∃ pc lv st h, ∀ kn kc, f kn kc = kn pc lv st h) ∨ (∃ r, ∀ kn kc, f kn kc = some r) ∨ (∃ m as h pc lv st, ∀ kn kc, f kn kc = kc m as h (fun z => kn pc lv (ab_pu z.1 st) z.2))
theorem ab_Sh_0 : ab_Sh (fun _ _ => none) := Or.inl fun _ _ => rfl
theorem ab_Sh_n {pc : Nat} {lv st : List Value} {h : ab_H} : ab_Sh (fun kn _ => kn pc lv st h) := Or.inr (Or.inl ⟨pc, lv, st, h, fun _ _ => rfl⟩)
theorem ab_Sh_r {r : ab_R} : ab_Sh (fun _ _ => some r) := Or.inr (Or.inr (Or.inl ⟨r, fun _ _ => rfl⟩))
theorem ab_Sh_c {m : Nat} {as : List Value} {h : ab_H} {pc : Nat} {lv st : List Value} : ab_Sh (fun kn kc => kc m as h (fun z => kn pc lv (ab_pu z.1 st) z.2)) := Or.inr (Or.inr (Or.inr ⟨m, as, h, pc, lv, st, fun _ _ => rfl⟩))
theorem ab_Sh_i {c : Prop} [Decidable c] {f g : ab_KN → ab_KC → Option ab_R} (hf : ab_Sh f) (hg : ab_Sh g) : ab_Sh (fun kn kc => if c then f kn kc else g kn kc) := by
  by_cases h : c
  · simp only [h, if_true]; exact hf
  · simp only [h, if_false]; exact hg
theorem ab_Sh_b {α : Type} {x : Option α} {g : α → ab_KN → ab_KC → Option ab_R} (hg : ∀ a, ab_Sh (g a)) : ab_Sh (fun kn kc => x.bind (fun a => g a kn kc)) := by
  cases x with
  | none => exact ab_Sh_0
  | some a => exact hg a
theorem ab_Sh_lI {lv : List Value} {i : Nat} {g : Int32 → ab_KN → ab_KC → Option ab_R} (hg : ∀ x, ab_Sh (g x)) : ab_Sh (fun kn kc => ab_lI lv i (fun x => g x kn kc)) := by
  unfold ab_lI; split
  · exact hg _
  · exact ab_Sh_0
theorem ab_Sh_lJ {lv : List Value} {i : Nat} {g : Int64 → ab_KN → ab_KC → Option ab_R} (hg : ∀ x, ab_Sh (g x)) : ab_Sh (fun kn kc => ab_lJ lv i (fun x => g x kn kc)) := by
  unfold ab_lJ; split
  · exact hg _
  · exact ab_Sh_0
theorem ab_Sh_lR {lv : List Value} {i : Nat} {g : Nat → ab_KN → ab_KC → Option ab_R} (hg : ∀ x, ab_Sh (g x)) : ab_Sh (fun kn kc => ab_lR lv i (fun x => g x kn kc)) := by
  unfold ab_lR; split
  · exact hg _
  · exact ab_Sh_0
theorem ab_Sh_s1 {lg : List Nat} {lv : List Value} {i : Nat} {v : Value} {g : List Value → ab_KN → ab_KC → Option ab_R} (hg : ∀ x, ab_Sh (g x)) : ab_Sh (fun kn kc => ab_s1 lg lv i v (fun x => g x kn kc)) := ab_Sh_i (hg _) ab_Sh_0
theorem ab_Sh_s2 {lg : List Nat} {lv : List Value} {i : Nat} {v : Value} {g : List Value → ab_KN → ab_KC → Option ab_R} (hg : ∀ x, ab_Sh (g x)) : ab_Sh (fun kn kc => ab_s2 lg lv i v (fun x => g x kn kc)) := ab_Sh_i (hg _) ab_Sh_0
theorem ab_Sh_1I {st : List Value} {g : Int32 → List Value → ab_KN → ab_KC → Option ab_R} (hg : ∀ x r, ab_Sh (g x r)) : ab_Sh (fun kn kc => ab_1I st (fun x r => g x r kn kc)) := by
  unfold ab_1I; split
  · exact hg _ _
  · exact ab_Sh_0
theorem ab_Sh_2I {st : List Value} {g : Int32 → Int32 → List Value → ab_KN → ab_KC → Option ab_R} (hg : ∀ x y r, ab_Sh (g x y r)) : ab_Sh (fun kn kc => ab_2I st (fun x y r => g x y r kn kc)) := by
  unfold ab_2I; split
  · exact hg _ _ _
  · exact ab_Sh_0
theorem ab_Sh_1J {st : List Value} {g : Int64 → List Value → ab_KN → ab_KC → Option ab_R} (hg : ∀ x r, ab_Sh (g x r)) : ab_Sh (fun kn kc => ab_1J st (fun x r => g x r kn kc)) := by
  unfold ab_1J; split
  · exact hg _ _
  · exact ab_Sh_0
theorem ab_Sh_2J {st : List Value} {g : Int64 → Int64 → List Value → ab_KN → ab_KC → Option ab_R} (hg : ∀ x y r, ab_Sh (g x y r)) : ab_Sh (fun kn kc => ab_2J st (fun x y r => g x y r kn kc)) := by
  unfold ab_2J; split
  · exact hg _ _ _
  · exact ab_Sh_0
theorem ab_Sh_JI {st : List Value} {g : Int64 → Int32 → List Value → ab_KN → ab_KC → Option ab_R} (hg : ∀ x y r, ab_Sh (g x y r)) : ab_Sh (fun kn kc => ab_JI st (fun x y r => g x y r kn kc)) := by
  unfold ab_JI; split
  · exact hg _ _ _
  · exact ab_Sh_0
theorem ab_Sh_1R {st : List Value} {g : Nat → List Value → ab_KN → ab_KC → Option ab_R} (hg : ∀ x r, ab_Sh (g x r)) : ab_Sh (fun kn kc => ab_1R st (fun x r => g x r kn kc)) := by
  unfold ab_1R; split
  · exact hg _ _
  · exact ab_Sh_0
theorem ab_Sh_RI {st : List Value} {g : Nat → Int32 → List Value → ab_KN → ab_KC → Option ab_R} (hg : ∀ a i r, ab_Sh (g a i r)) : ab_Sh (fun kn kc => ab_RI st (fun a i r => g a i r kn kc)) := by
  unfold ab_RI; split
  · exact hg _ _ _
  · exact ab_Sh_0
theorem ab_Sh_RII {st : List Value} {g : Nat → Int32 → Int32 → List Value → ab_KN → ab_KC → Option ab_R} (hg : ∀ a i x r, ab_Sh (g a i x r)) : ab_Sh (fun kn kc => ab_RII st (fun a i x r => g a i x r kn kc)) := by
  unfold ab_RII; split
  · exact hg _ _ _ _
  · exact ab_Sh_0
theorem ab_Sh_RIJ {st : List Value} {g : Nat → Int32 → Int64 → List Value → ab_KN → ab_KC → Option ab_R} (hg : ∀ a i x r, ab_Sh (g a i x r)) : ab_Sh (fun kn kc => ab_RIJ st (fun a i x r => g a i x r kn kc)) := by
  unfold ab_RIJ; split
  · exact hg _ _ _ _
  · exact ab_Sh_0
theorem ab_Sh_5 {st : List Value} {g : Nat → Int32 → Nat → Int32 → Int32 → List Value → ab_KN → ab_KC → Option ab_R} (hg : ∀ a sp b dp n r, ab_Sh (g a sp b dp n r)) : ab_Sh (fun kn kc => ab_5 st (fun a sp b dp n r => g a sp b dp n r kn kc)) := by
  unfold ab_5; split
  · exact hg _ _ _ _ _ _
  · exact ab_Sh_0
theorem ab_Sh_1V {st : List Value} {g : Value → List Value → ab_KN → ab_KC → Option ab_R} (hg : ∀ x r, ab_Sh (g x r)) : ab_Sh (fun kn kc => ab_1V st (fun x r => g x r kn kc)) := by
  unfold ab_1V; split
  · exact ab_Sh_i (hg _ _) ab_Sh_0
  · exact ab_Sh_0
theorem ab_Sh_2V {st : List Value} {g : Value → Value → List Value → ab_KN → ab_KC → Option ab_R} (hg : ∀ x y r, ab_Sh (g x y r)) : ab_Sh (fun kn kc => ab_2V st (fun x y r => g x y r kn kc)) := by
  unfold ab_2V; split
  · exact ab_Sh_i (hg _ _ _) ab_Sh_0
  · exact ab_Sh_0
theorem ab_Sh_tg {pc : Nat} {off : Int} {g : Nat → ab_KN → ab_KC → Option ab_R} (hg : ∀ x, ab_Sh (g x)) : ab_Sh (fun kn kc => ab_tg pc off (fun x => g x kn kc)) := ab_Sh_i (hg _) ab_Sh_0
theorem ab_Sh_ld {X : ab_X} {h : ab_H} {a : Nat} {i : Int32} {g : Int32 → ab_KN → ab_KC → Option ab_R} (hg : ∀ x, ab_Sh (g x)) : ab_Sh (fun kn kc => ab_ld X h a i (fun x => g x kn kc)) := ab_Sh_i (hg _) (ab_Sh_i (hg _) (ab_Sh_i (hg _) ab_Sh_0))
theorem ab_Sh_lb {h : ab_H} {a : Nat} {i : Int32} {g : Int32 → ab_KN → ab_KC → Option ab_R} (hg : ∀ x, ab_Sh (g x)) : ab_Sh (fun kn kc => ab_lb h a i (fun x => g x kn kc)) := ab_Sh_i (hg _) ab_Sh_0
theorem ab_Sh_lj {h : ab_H} {a : Nat} {i : Int32} {g : Int64 → ab_KN → ab_KC → Option ab_R} (hg : ∀ x, ab_Sh (g x)) : ab_Sh (fun kn kc => ab_lj h a i (fun x => g x kn kc)) := ab_Sh_i (hg _) ab_Sh_0
theorem ab_Sh_la {a : Nat} {i : Int32} {g : Nat → ab_KN → ab_KC → Option ab_R} (hg : ∀ x, ab_Sh (g x)) : ab_Sh (fun kn kc => ab_la a i (fun x => g x kn kc)) := ab_Sh_i (hg _) ab_Sh_0
theorem ab_Sh_sd {h : ab_H} {a : Nat} {i x : Int32} {g : ab_H → ab_KN → ab_KC → Option ab_R} (hg : ∀ x, ab_Sh (g x)) : ab_Sh (fun kn kc => ab_sd h a i x (fun x => g x kn kc)) := ab_Sh_i (hg _) ab_Sh_0
theorem ab_Sh_sb {h : ab_H} {a : Nat} {i x : Int32} {g : ab_H → ab_KN → ab_KC → Option ab_R} (hg : ∀ x, ab_Sh (g x)) : ab_Sh (fun kn kc => ab_sb h a i x (fun x => g x kn kc)) := ab_Sh_i (hg _) ab_Sh_0
theorem ab_Sh_sj {h : ab_H} {a : Nat} {i : Int32} {x : Int64} {g : ab_H → ab_KN → ab_KC → Option ab_R} (hg : ∀ x, ab_Sh (g x)) : ab_Sh (fun kn kc => ab_sj h a i x (fun x => g x kn kc)) := ab_Sh_i (hg _) ab_Sh_0
theorem ab_Sh_ln {X : ab_X} {a : Nat} {g : Int32 → ab_KN → ab_KC → Option ab_R} (hg : ∀ x, ab_Sh (g x)) : ab_Sh (fun kn kc => ab_ln X a (fun x => g x kn kc)) := ab_Sh_i (hg _) (ab_Sh_i (hg _) (ab_Sh_i (hg _) ab_Sh_0))
theorem ab_Sh_ob {a ci : Nat} {g : ab_KN → ab_KC → Option ab_R} (hg : ab_Sh g) : ab_Sh (fun kn kc => ab_ob a ci (g kn kc)) := ab_Sh_i hg ab_Sh_0
theorem ab_Sh_pf {h : ab_H} {ci j : Nat} {st : List Value} {g : ab_H → List Value → ab_KN → ab_KC → Option ab_R} (hg : ∀ x r, ab_Sh (g x r)) : ab_Sh (fun kn kc => ab_pf h ci j st (fun x r => g x r kn kc)) := by
  unfold ab_pf; split
  · split
    · exact ab_Sh_ob (hg _ _)
    · exact ab_Sh_0
  · split
    · exact ab_Sh_ob (hg _ _)
    · exact ab_Sh_0
  · exact ab_Sh_0
theorem ab_Sh_dI {y : Int32} {g : ab_KN → ab_KC → Option ab_R} (hg : ab_Sh g) : ab_Sh (fun kn kc => ab_dI y (g kn kc)) := ab_Sh_i ab_Sh_0 hg
theorem ab_Sh_dJ {y : Int64} {g : ab_KN → ab_KC → Option ab_R} (hg : ab_Sh g) : ab_Sh (fun kn kc => ab_dJ y (g kn kc)) := ab_Sh_i ab_Sh_0 hg
theorem ab_Sh_bI {c : Jvm.ClassFile.Cond} {x y : Int32} {f g : ab_KN → ab_KC → Option ab_R} (hf : ab_Sh f) (hg : ab_Sh g) : ab_Sh (fun kn kc => ab_bI c x y (f kn kc) (g kn kc)) := by
  cases c <;> first | exact ab_Sh_i hf hg | exact ab_Sh_i hg hf
theorem ab_Sh_ts {pc : Nat} {x : Int32} {d lo hi : Int} {offs : Array Int} {g : Nat → ab_KN → ab_KC → Option ab_R} (hg : ∀ x, ab_Sh (g x)) : ab_Sh (fun kn kc => ab_ts pc x d lo hi offs (fun x => g x kn kc)) := by
  unfold ab_ts
  refine ab_Sh_i (ab_Sh_tg hg) ?_
  split
  · exact ab_Sh_tg hg
  · exact ab_Sh_0
theorem ab_Sh_cp {h : ab_H} {a : Nat} {sp : Int32} {b : Nat} {dp n : Int32} {g : ab_H → ab_KN → ab_KC → Option ab_R} (hg : ∀ x, ab_Sh (g x)) : ab_Sh (fun kn kc => ab_cp h a sp b dp n (fun x => g x kn kc)) := ab_Sh_i ab_Sh_0 (ab_Sh_i (hg _) (ab_Sh_i (hg _) ab_Sh_0))
theorem ab_Sh_cal {st : List Value} {n : Nat} {g : List Value → List Value → ab_KN → ab_KC → Option ab_R} (hg : ∀ x r, ab_Sh (g x r)) : ab_Sh (fun kn kc => ab_cal st n (fun x r => g x r kn kc)) := ab_Sh_i (hg _ _) ab_Sh_0
set_option maxHeartbeats 4000000 in
theorem ab_Sh_st (X : ab_X) (o : Nat) (rt : Option FieldType) (lg : List Nat) (ins : Instr) (pc : Nat) (lv st : List Value) (h : ab_H) : ab_Sh (fun kn kc => ab_st X o rt lg ins pc lv st h kn kc) := by
  cases ins
  all_goals first
    | exact ab_Sh_0
    | exact ab_Sh_n
    | exact ab_Sh_lI fun _ => ab_Sh_n
    | exact ab_Sh_lJ fun _ => ab_Sh_n
    | exact ab_Sh_lR fun _ => ab_Sh_n
    | exact ab_Sh_1I fun _ _ => ab_Sh_n
    | exact ab_Sh_2I fun _ _ _ => ab_Sh_n
    | exact ab_Sh_1J fun _ _ => ab_Sh_n
    | exact ab_Sh_2J fun _ _ _ => ab_Sh_n
    | exact ab_Sh_JI fun _ _ _ => ab_Sh_n
    | exact ab_Sh_1V fun _ _ => ab_Sh_n
    | exact ab_Sh_2V fun _ _ _ => ab_Sh_n
    | exact ab_Sh_1I fun _ _ => ab_Sh_s1 fun _ => ab_Sh_n
    | exact ab_Sh_1J fun _ _ => ab_Sh_s2 fun _ => ab_Sh_n
    | exact ab_Sh_1R fun _ _ => ab_Sh_s1 fun _ => ab_Sh_n
    | exact ab_Sh_lI fun _ => ab_Sh_s1 fun _ => ab_Sh_n
    | exact ab_Sh_2I fun _ _ _ => ab_Sh_dI ab_Sh_n
    | exact ab_Sh_2J fun _ _ _ => ab_Sh_dJ ab_Sh_n
    | exact ab_Sh_i (ab_Sh_1I fun _ _ => ab_Sh_bI ab_Sh_n ab_Sh_n) ab_Sh_0
    | exact ab_Sh_i (ab_Sh_2I fun _ _ _ => ab_Sh_bI ab_Sh_n ab_Sh_n) ab_Sh_0
    | exact ab_Sh_b fun _ => ab_Sh_n
    | exact ab_Sh_b fun _ => ab_Sh_1R fun _ _ => ab_Sh_ob ab_Sh_n
    | exact ab_Sh_b fun _ => ab_Sh_pf fun _ _ => ab_Sh_n
    | exact ab_Sh_i (ab_Sh_5 fun _ _ _ _ _ _ => ab_Sh_i (ab_Sh_cp fun _ => ab_Sh_n) ab_Sh_0) (ab_Sh_b fun _ => ab_Sh_i (ab_Sh_cal fun _ _ => ab_Sh_i ab_Sh_c ab_Sh_0) (ab_Sh_i (ab_Sh_2I fun _ _ _ => ab_Sh_i ab_Sh_n ab_Sh_0) (ab_Sh_i (ab_Sh_2I fun _ _ _ => ab_Sh_i ab_Sh_n ab_Sh_0) (ab_Sh_i (ab_Sh_1I fun _ _ => ab_Sh_i ab_Sh_n ab_Sh_0) ab_Sh_0))))
    | exact ab_Sh_b fun _ => ab_Sh_i (ab_Sh_cal fun _ _ => ab_Sh_1R fun _ _ => ab_Sh_i (ab_Sh_ob ab_Sh_c) ab_Sh_0) ab_Sh_0
    | exact ab_Sh_tg fun _ => ab_Sh_n
    | exact ab_Sh_1I fun _ _ => ab_Sh_ts fun _ => ab_Sh_n
    | exact ab_Sh_RI fun _ _ _ => ab_Sh_ld fun _ => ab_Sh_n
    | exact ab_Sh_RI fun _ _ _ => ab_Sh_lb fun _ => ab_Sh_n
    | exact ab_Sh_RI fun _ _ _ => ab_Sh_lj fun _ => ab_Sh_n
    | exact ab_Sh_RI fun _ _ _ => ab_Sh_la fun _ => ab_Sh_n
    | exact ab_Sh_RII fun _ _ _ _ => ab_Sh_sd fun _ => ab_Sh_n
    | exact ab_Sh_RII fun _ _ _ _ => ab_Sh_sb fun _ => ab_Sh_n
    | exact ab_Sh_RIJ fun _ _ _ _ => ab_Sh_sj fun _ => ab_Sh_n
    | exact ab_Sh_1R fun _ _ => ab_Sh_ln fun _ => ab_Sh_n
    | exact ab_Sh_i ab_Sh_n ab_Sh_0
    | exact ab_Sh_1I fun _ _ => ab_Sh_i ab_Sh_r ab_Sh_0
    | exact ab_Sh_1J fun _ _ => ab_Sh_i ab_Sh_r ab_Sh_0
    | exact ab_Sh_i ab_Sh_r ab_Sh_0
theorem ab_Sh_sp (X : ab_X) (M pc : Nat) (lv st : List Value) (h : ab_H) : ab_Sh (fun kn kc => ab_sp X M pc lv st h kn kc) := by
  unfold ab_sp; split
  · exact ab_Sh_st _ _ _ _ _ _ _ _ _
  · exact ab_Sh_0
theorem ab_spC (X : ab_X) (M pc : Nat) (lv st : List Value) (h : ab_H) : (∀ kn kc, ab_sp X M pc lv st h kn kc = none) ∨ (∃ pc' lv' st' h', ∀ kn kc, ab_sp X M pc lv st h kn kc = kn pc' lv' st' h') ∨ (∃ r, ∀ kn kc, ab_sp X M pc lv st h kn kc = some r) ∨ (∃ m as h' pc' lv' st', ∀ kn kc, ab_sp X M pc lv st h kn kc = kc m as h' (fun z => kn pc' lv' (ab_pu z.1 st') z.2)) := ab_Sh_sp X M pc lv st h
theorem ab_xF_s (X : ab_X) (n d M pc : Nat) (lv st : List Value) (h : ab_H) : ab_xF X (n + 1) d M pc lv st h = ab_sp X M pc lv st h (fun pc lv st h => ab_xF X n d M pc lv st h) (fun m as h k => match d with
    | 0 => none
    | d + 1 => (ab_xF X n d m 0 (ab_en (ab_ml m) as) [] h).bind k) := rfl
theorem ab_mono (X : ab_X) : ∀ (n d M pc : Nat) (lv st : List Value) (h : ab_H) (r : ab_R), ab_xF X n d M pc lv st h = some r → ab_xF X (n + 1) d M pc lv st h = some r
  | 0, _, _, _, _, _, _, _, q => by cases q
  | n + 1, d, M, pc, lv, st, h, r, q => by
    rw [ab_xF_s] at q ⊢
    rcases ab_spC X M pc lv st h with e | ⟨pc', lv', st', h', e⟩ | ⟨r', e⟩ | ⟨m, as, h', pc', lv', st', e⟩
    · rw [e] at q; cases q
    · rw [e] at q ⊢; exact ab_mono X n _ _ _ _ _ _ _ q
    · rw [e] at q ⊢; exact q
    · rw [e] at q ⊢
      cases d with
      | zero => cases q
      | succ d =>
        dsimp only at q ⊢
        cases hc : ab_xF X n d m 0 (ab_en (ab_ml m) as) [] h' with
        | none => rw [hc] at q; cases q
        | some z =>
          rw [hc] at q
          rw [ab_mono X n _ _ _ _ _ _ _ hc]
          exact ab_mono X n _ _ _ _ _ _ _ q
theorem ab_mono_le (X : ab_X) {n k d M pc : Nat} {lv st : List Value} {h : ab_H} {r : ab_R} (hk : n ≤ k) (q : ab_xF X n d M pc lv st h = some r) : ab_xF X k d M pc lv st h = some r := by
  induction hk with
  | refl => exact q
  | step _ ih => exact ab_mono X _ _ _ _ _ _ _ _ ih
/-- the run -/
noncomputable def ab_ex (X : ab_X) (d M pc : Nat) (lv st : List Value) (h : ab_H) : Option ab_R :=
  haveI := Classical.propDecidable (∃ n r, ab_xF X n d M pc lv st h = some r)
  if q : ∃ n r, ab_xF X n d M pc lv st h = some r then some (Classical.choose (Classical.choose_spec q)) else none
theorem ab_ex_some {X : ab_X} {d M pc : Nat} {lv st : List Value} {h : ab_H} {r : ab_R} : ab_ex X d M pc lv st h = some r ↔ ∃ n, ab_xF X n d M pc lv st h = some r := by
  constructor
  · intro q
    unfold ab_ex at q
    split at q
    · rename_i w
      have hs := Classical.choose_spec (Classical.choose_spec w)
      rw [Option.some.inj q] at hs
      exact ⟨_, hs⟩
    · cases q
  · rintro ⟨n, hn⟩
    have w : ∃ n r, ab_xF X n d M pc lv st h = some r := ⟨n, r, hn⟩
    unfold ab_ex
    rw [dif_pos w]
    have hs := Classical.choose_spec (Classical.choose_spec w)
    have a1 := ab_mono_le X (Nat.le_max_left n (Classical.choose w)) hn
    have a2 := ab_mono_le X (Nat.le_max_right n (Classical.choose w)) hs
    exact a2.symm.trans a1
theorem ab_ex_of_iff {X : ab_X} {d M pc : Nat} {lv st : List Value} {h : ab_H} {o : Option ab_R} (e : ∀ r, (∃ n, ab_xF X n d M pc lv st h = some r) ↔ o = some r) : ab_ex X d M pc lv st h = o := by
  apply Option.ext
  intro r
  exact ab_ex_some.trans (e r)
/-- a method's run from its start -/
noncomputable def ab_ru (X : ab_X) (d M : Nat) (as : List Value) (h : ab_H) : Option ab_R := ab_ex X d M 0 (ab_en (ab_ml M) as) [] h
noncomputable def ab_kc (X : ab_X) (d : Nat) : ab_KC := fun m as h k => match d with
  | 0 => none
  | d + 1 => (ab_ru X d m as h).bind k
theorem ab_ex_eq (X : ab_X) (d M pc : Nat) (lv st : List Value) (h : ab_H) : ab_ex X d M pc lv st h = ab_sp X M pc lv st h (fun pc lv st h => ab_ex X d M pc lv st h) (ab_kc X d) := by
  refine ab_ex_of_iff fun r => ?_
  rcases ab_spC X M pc lv st h with e | ⟨pc', lv', st', h', e⟩ | ⟨r', e⟩ | ⟨m, as, h', pc', lv', st', e⟩
  · rw [e]
    refine ⟨fun ⟨n, hn⟩ => ?_, fun q => by cases q⟩
    cases n with
    | zero => cases hn
    | succ n => rw [ab_xF_s, e] at hn; cases hn
  · rw [e, ab_ex_some]
    refine ⟨fun ⟨n, hn⟩ => ?_, fun ⟨n, hn⟩ => ⟨n + 1, by rw [ab_xF_s, e]; exact hn⟩⟩
    cases n with
    | zero => cases hn
    | succ n => rw [ab_xF_s, e] at hn; exact ⟨n, hn⟩
  · rw [e]
    refine ⟨fun ⟨n, hn⟩ => ?_, fun q => ⟨1, by rw [ab_xF_s, e]; exact q⟩⟩
    cases n with
    | zero => cases hn
    | succ n => rw [ab_xF_s, e] at hn; exact hn
  · rw [e]
    cases d with
    | zero =>
      refine ⟨fun ⟨n, hn⟩ => ?_, fun q => by cases q⟩
      cases n with
      | zero => cases hn
      | succ n => rw [ab_xF_s, e] at hn; cases hn
    | succ d =>
      show _ ↔ (ab_ru X d m as h').bind _ = some r
      constructor
      · rintro ⟨n, hn⟩
        cases n with
        | zero => cases hn
        | succ n =>
          rw [ab_xF_s, e] at hn
          dsimp only at hn
          cases hc : ab_xF X n d m 0 (ab_en (ab_ml m) as) [] h' with
          | none => rw [hc] at hn; cases hn
          | some z =>
            rw [hc] at hn
            have hz : ab_ru X d m as h' = some z := ab_ex_some.mpr ⟨n, hc⟩
            rw [hz]
            exact ab_ex_some.mpr ⟨n, hn⟩
      · intro q
        cases hz : ab_ru X d m as h' with
        | none => rw [hz] at q; cases q
        | some z =>
          rw [hz] at q
          obtain ⟨n1, h1⟩ := ab_ex_some.mp hz
          obtain ⟨n2, h2⟩ := ab_ex_some.mp q
          refine ⟨max n1 n2 + 1, ?_⟩
          rw [ab_xF_s, e]
          dsimp only
          rw [ab_mono_le X (Nat.le_max_left n1 n2) h1]
          exact ab_mono_le X (Nat.le_max_right n1 n2) h2
/-- n instructions at once -/
noncomputable def ab_xN (X : ab_X) (d M : Nat) : Nat → Nat → List Value → List Value → ab_H → Option ab_R
  | 0, pc, lv, st, h => ab_ex X d M pc lv st h
  | n + 1, pc, lv, st, h => ab_sp X M pc lv st h (ab_xN X d M n) (ab_kc X d)
theorem ab_ex_xN (X : ab_X) (d M : Nat) : ∀ (n pc : Nat) (lv st : List Value) (h : ab_H), ab_ex X d M pc lv st h = ab_xN X d M n pc lv st h
  | 0, _, _, _, _ => rfl
  | n + 1, pc, lv, st, h => by
    rw [ab_ex_eq]
    show ab_sp X M pc lv st h _ _ = ab_sp X M pc lv st h _ _
    congr 1
    funext pc lv st h
    exact ab_ex_xN X d M n pc lv st h
