/-! the law's loop: what a method answers with, each case, the loop -/
theorem zN_lI (lv : List Value) (i : Nat) : ab_lI lv i (fun _ => none) = none := by unfold ab_lI; split <;> rfl
theorem zN_lJ (lv : List Value) (i : Nat) : ab_lJ lv i (fun _ => none) = none := by unfold ab_lJ; split <;> rfl
theorem zN_lR (lv : List Value) (i : Nat) : ab_lR lv i (fun _ => none) = none := by unfold ab_lR; split <;> rfl
theorem zN_s1 (lg : List Nat) (lv : List Value) (i : Nat) (v : Value) : ab_s1 lg lv i v (fun _ => none) = none := by unfold ab_s1; split <;> rfl
theorem zN_s2 (lg : List Nat) (lv : List Value) (i : Nat) (v : Value) : ab_s2 lg lv i v (fun _ => none) = none := by unfold ab_s2; split <;> rfl
theorem zN_1I (st : List Value) : ab_1I st (fun _ _ => none) = none := by unfold ab_1I; split <;> rfl
theorem zN_2I (st : List Value) : ab_2I st (fun _ _ _ => none) = none := by unfold ab_2I; split <;> rfl
theorem zN_1J (st : List Value) : ab_1J st (fun _ _ => none) = none := by unfold ab_1J; split <;> rfl
theorem zN_2J (st : List Value) : ab_2J st (fun _ _ _ => none) = none := by unfold ab_2J; split <;> rfl
theorem zN_JI (st : List Value) : ab_JI st (fun _ _ _ => none) = none := by unfold ab_JI; split <;> rfl
theorem zN_1R (st : List Value) : ab_1R st (fun _ _ => none) = none := by unfold ab_1R; split <;> rfl
theorem zN_RI (st : List Value) : ab_RI st (fun _ _ _ => none) = none := by unfold ab_RI; split <;> rfl
theorem zN_RII (st : List Value) : ab_RII st (fun _ _ _ _ => none) = none := by unfold ab_RII; split <;> rfl
theorem zN_RIJ (st : List Value) : ab_RIJ st (fun _ _ _ _ => none) = none := by unfold ab_RIJ; split <;> rfl
theorem zN_5 (st : List Value) : ab_5 st (fun _ _ _ _ _ _ => none) = none := by unfold ab_5; split <;> rfl
theorem zN_1V (st : List Value) : ab_1V st (fun _ _ => none) = none := by
  unfold ab_1V
  split
  · split <;> rfl
  · rfl
theorem zN_2V (st : List Value) : ab_2V st (fun _ _ _ => none) = none := by
  unfold ab_2V
  split
  · split <;> rfl
  · rfl
theorem zN_tg (pc : Nat) (off : Int) : ab_tg pc off (fun _ => none) = none := by unfold ab_tg; split <;> rfl
theorem zN_ld (X : ab_X) (h : ab_H) (a : Nat) (i : Int32) : ab_ld X h a i (fun _ => none) = none := by
  unfold ab_ld
  split
  · rfl
  · split
    · rfl
    · split <;> rfl
theorem zN_lb (h : ab_H) (a : Nat) (i : Int32) : ab_lb h a i (fun _ => none) = none := by unfold ab_lb; split <;> rfl
theorem zN_lj (h : ab_H) (a : Nat) (i : Int32) : ab_lj h a i (fun _ => none) = none := by unfold ab_lj; split <;> rfl
theorem zN_la (a : Nat) (i : Int32) : ab_la a i (fun _ => none) = none := by unfold ab_la; split <;> rfl
theorem zN_sd (h : ab_H) (a : Nat) (i x : Int32) : ab_sd h a i x (fun _ => none) = none := by unfold ab_sd; split <;> rfl
theorem zN_sb (h : ab_H) (a : Nat) (i x : Int32) : ab_sb h a i x (fun _ => none) = none := by unfold ab_sb; split <;> rfl
theorem zN_sj (h : ab_H) (a : Nat) (i : Int32) (x : Int64) : ab_sj h a i x (fun _ => none) = none := by unfold ab_sj; split <;> rfl
theorem zN_ln (X : ab_X) (a : Nat) : ab_ln X a (fun _ => none) = none := by
  unfold ab_ln
  split
  · rfl
  · split
    · rfl
    · split <;> rfl
theorem zN_ob (a ci : Nat) : ab_ob a ci none = none := by unfold ab_ob; split <;> rfl
theorem zN_pf (h : ab_H) (ci j : Nat) (st : List Value) : ab_pf h ci j st (fun _ _ => none) = none := by
  unfold ab_pf
  split
  · split
    · exact zN_ob _ _
    · rfl
  · split
    · exact zN_ob _ _
    · rfl
  · rfl
theorem zN_dI (y : Int32) : ab_dI y none = none := by unfold ab_dI; split <;> rfl
theorem zN_dJ (y : Int64) : ab_dJ y none = none := by unfold ab_dJ; split <;> rfl
theorem zN_bI (c : Jvm.ClassFile.Cond) (x y : Int32) : ab_bI c x y none none = none := by unfold ab_bI; cases c <;> (dsimp only; split <;> rfl)
theorem zN_ts (pc : Nat) (x : Int32) (d lo hi : Int) (offs : Array Int) : ab_ts pc x d lo hi offs (fun _ => none) = none := by
  unfold ab_ts
  split
  · exact zN_tg _ _
  · split
    · exact zN_tg _ _
    · rfl
theorem zN_cp (h : ab_H) (a : Nat) (sp : Int32) (b : Nat) (dp n : Int32) : ab_cp h a sp b dp n (fun _ => none) = none := by
  unfold ab_cp
  split
  · rfl
  · split
    · rfl
    · split <;> rfl
theorem zN_cal (st : List Value) (n : Nat) : ab_cal st n (fun _ _ => none) = none := by unfold ab_cal; split <;> rfl
theorem zN_bd {α : Type} (o : Option α) : (o.bind (fun _ => (none : Option ab_R))) = none := by cases o <;> rfl
/-- an answer is of the kind that the method's face says -/
def zRt (rt : Option FieldType) (r : ab_R) : Prop := (rt = some .int → ∃ x, r.1 = some (.int x)) ∧ (rt = some .long → ∃ x, r.1 = some (.long x))
set_option maxHeartbeats 4000000 in
theorem zst_r {X : ab_X} {o : Nat} {rt : Option FieldType} {lg : List Nat} {ins : Instr} {pc : Nat} {lv st : List Value} {h : ab_H} {r : ab_R} (q : ab_st X o rt lg ins pc lv st h (fun _ _ _ _ => none) (fun _ _ _ _ => none) = some r) : zRt rt r := by
  cases ins
  case ireturn =>
    obtain ⟨x, s', -, q⟩ := ab_1I_s q
    obtain ⟨⟨-, c⟩, q⟩ := ab_if_s q
    cases q
    refine ⟨fun _ => ⟨x, rfl⟩, fun e => ?_⟩
    rw [e] at c
    cases c
  case lreturn =>
    obtain ⟨x, s', -, q⟩ := ab_1J_s q
    obtain ⟨⟨-, c⟩, q⟩ := ab_if_s q
    cases q
    refine ⟨fun e => ?_, fun _ => ⟨x, rfl⟩⟩
    rw [e] at c
    cases c
  case return_ =>
    obtain ⟨⟨-, c⟩, q⟩ := ab_if_s q
    refine ⟨fun e => ?_, fun e => ?_⟩
    all_goals
      rw [e] at c
      cases c
  all_goals
    exfalso
    simp only [ab_st, zN_lI, zN_lJ, zN_lR, zN_s1, zN_s2, zN_1I, zN_2I, zN_1J, zN_2J, zN_JI, zN_1R, zN_RI, zN_RII, zN_RIJ, zN_5, zN_1V, zN_2V, zN_tg, zN_ld, zN_lb, zN_lj, zN_la, zN_sd, zN_sb, zN_sj, zN_ln, zN_ob, zN_pf, zN_dI, zN_dJ, zN_bI, zN_ts, zN_cp, zN_cal, zN_bd, ite_self, reduceCtorEq] at q
def ab_rtv (M : Nat) : Option FieldType := match ab_mt[M]? with
  | some e => e.2.2.2.1
  | none => none
theorem zrt_x (X : ab_X) : ∀ (n d M pc : Nat) (lv st : List Value) (h : ab_H) (r : ab_R), ab_xF X n d M pc lv st h = some r → zRt (ab_rtv M) r
  | 0, _, _, _, _, _, _, _, q => by cases q
  | n + 1, d, M, pc, lv, st, h, r, q => by
    rw [ab_xF_s] at q
    rcases ab_spC X M pc lv st h with e | ⟨pc', lv', st', h', e⟩ | ⟨r', e⟩ | ⟨m, as, h', pc', lv', st', e⟩
    · rw [e] at q; cases q
    · rw [e] at q; exact zrt_x X n _ _ _ _ _ _ _ q
    · have q2 := e (fun _ _ _ _ => none) (fun _ _ _ _ => none)
      rw [e] at q
      cases q
      unfold ab_sp at q2
      split at q2
      · rename_i w hw
        have hr : w.2.1 = ab_rtv M := by
          unfold ab_lk at hw
          unfold ab_rtv
          split at hw
          · rename_i E hE
            split at hw
            · cases hw; rw [hE]
            · cases hw
          · cases hw
        rw [← hr]
        exact zst_r q2
      · cases q2
    · rw [e] at q
      cases d with
      | zero => cases q
      | succ d =>
        dsimp only at q
        cases hc : ab_xF X n d m 0 (ab_en (ab_ml m) as) [] h' with
        | none => rw [hc] at q; cases q
        | some z =>
          rw [hc] at q
          exact zrt_x X n _ _ _ _ _ _ _ q
theorem zint {X : ab_X} {d M : Nat} {as : List Value} {h h1 : ab_H} {v : Value} (e : ab_ru X d M as h = some (some v, h1)) (hr : ab_rtv M = some .int) : ∃ y, v = .int y := by
  obtain ⟨n, hn⟩ := ab_ex_some.mp e
  obtain ⟨x, hx⟩ := (zrt_x X n _ _ _ _ _ _ _ hn).1 hr
  exact ⟨x, Option.some.inj hx⟩
theorem zlong {X : ab_X} {d M : Nat} {as : List Value} {h h1 : ab_H} {v : Value} (e : ab_ru X d M as h = some (some v, h1)) (hr : ab_rtv M = some .long) : ∃ y, v = .long y := by
  obtain ⟨n, hn⟩ := ab_ex_some.mp e
  obtain ⟨x, hx⟩ := (zrt_x X n _ _ _ _ _ _ _ hn).2 hr
  exact ⟨x, Option.some.inj hx⟩
theorem zx1 (i : Nat) : nI i + 1 = nI (i + 1) := nI_add i 1
theorem zx2 (i : Nat) : nI i + 2 = nI (i + 2) := nI_add i 2
theorem zx3 (i : Nat) : nI i + 3 = nI (i + 3) := nI_add i 3
theorem zx4 (i : Nat) : nI i + 4 = nI (i + 4) := nI_add i 4
theorem zx5 (i : Nat) : nI i + 5 = nI (i + 5) := nI_add i 5
theorem zx6 (i : Nat) : nI i + 6 = nI (i + 6) := nI_add i 6
theorem zd81 {X : ab_X} {k : Nat} (hk : k < X.1) (hX : X.1 < 1000000) (h : ab_H) (K : Int32 → Option ab_R) : ab_ld X h 81 (nI k) K = K (X.2 k) := by
  have hc := z_cl (k := k) (by omega)
  have h1 : ab_inB 1 81 (nI k) = false := rfl
  have h6 : ab_inB 6 81 (nI k) = false := rfl
  have h7 : (((ab_sh 81).1 == 7) && !(decide (nI k < 0) || decide (X.1 ≤ (nI k).toNatClampNeg))) = true := by
    rw [hc, decide_eq_false (show ¬ X.1 ≤ k by omega), decide_eq_false (show ¬ nI k < 0 from nI_nlt (b := 0) (Nat.zero_le _) (by omega))]
    rfl
  unfold ab_ld
  rw [h1, h6, if_neg (by decide), if_neg (by decide), if_pos h7, hc]
theorem lc_0 (X : ab_X) (d : Nat) {i : Nat} (hi : i + 6 ≤ X.1) (hX : X.1 ≤ 384) {h : ab_H} (hI : zInv h) : ∃ h2, ab_ex X (d + 30 + 1) 193 212 [.ref 81, .ref 0, .ref 29, .int (nI i)] [] h = ab_ex X (d + 30 + 1) 193 1288 [.ref 81, .ref 0, .ref 29, .int (nI i)] [] h2 ∧ zInv h2 := by
  obtain ⟨v, h1, h2, e1, e2, hI2⟩ := cp_row X d (X.2 (i + 1)) (X.2 (i + 2)) hI
  obtain ⟨y, rfl⟩ := zint e1 rfl
  refine ⟨h2, ?_, hI2⟩
  rw [b193_212, zx1, zd81 (show i + 1 < X.1 by omega) (by omega), zx2, zd81 (show i + 2 < X.1 by omega) (by omega), e1]
  simp only [zpu_s, zpu_n, Option.bind_some]
  rw [b193_226, zx1, zd81 (show i + 1 < X.1 by omega) (by omega), zx2, zd81 (show i + 2 < X.1 by omega) (by omega), e2]
  simp only [zpu_s, zpu_n, Option.bind_some]
  rw [b193_240, if_pos rfl]
theorem lc_1 (X : ab_X) (d : Nat) {i : Nat} (hi : i + 6 ≤ X.1) (hX : X.1 ≤ 384) {h : ab_H} (hI : zInv h) : ∃ h2, ab_ex X (d + 30 + 1) 193 245 [.ref 81, .ref 0, .ref 29, .int (nI i)] [] h = ab_ex X (d + 30 + 1) 193 1288 [.ref 81, .ref 0, .ref 29, .int (nI i)] [] h2 ∧ zInv h2 := by
  obtain ⟨v, h1, h2, e1, e2, hI2⟩ := cp_lay X d (X.2 (i + 1)) (X.2 (i + 2)) (X.2 (i + 3)) hI
  obtain ⟨y, rfl⟩ := zint e1 rfl
  refine ⟨h2, ?_, hI2⟩
  rw [b193_245, zx1, zd81 (show i + 1 < X.1 by omega) (by omega), zx2, zd81 (show i + 2 < X.1 by omega) (by omega), zx3, zd81 (show i + 3 < X.1 by omega) (by omega), e1]
  simp only [zpu_s, zpu_n, Option.bind_some]
  rw [b193_264, zx1, zd81 (show i + 1 < X.1 by omega) (by omega), zx2, zd81 (show i + 2 < X.1 by omega) (by omega), zx3, zd81 (show i + 3 < X.1 by omega) (by omega), e2]
  simp only [zpu_s, zpu_n, Option.bind_some]
  rw [b193_283, if_pos rfl]
theorem lc_2 (X : ab_X) (d : Nat) {i : Nat} (hi : i + 6 ≤ X.1) (hX : X.1 ≤ 384) {h : ab_H} (hI : zInv h) : ∃ h2, ab_ex X (d + 30 + 1) 193 288 [.ref 81, .ref 0, .ref 29, .int (nI i)] [] h = ab_ex X (d + 30 + 1) 193 1288 [.ref 81, .ref 0, .ref 29, .int (nI i)] [] h2 ∧ zInv h2 := by
  obtain ⟨v, h1, h2, e1, e2, hI2⟩ := cp_at X d (X.2 (i + 1)) (X.2 (i + 2)) hI
  obtain ⟨y, rfl⟩ := zint e1 rfl
  refine ⟨h2, ?_, hI2⟩
  rw [b193_288, zx1, zd81 (show i + 1 < X.1 by omega) (by omega), zx2, zd81 (show i + 2 < X.1 by omega) (by omega), e1]
  simp only [zpu_s, zpu_n, Option.bind_some]
  rw [b193_302, zx1, zd81 (show i + 1 < X.1 by omega) (by omega), zx2, zd81 (show i + 2 < X.1 by omega) (by omega), e2]
  simp only [zpu_s, zpu_n, Option.bind_some]
  rw [b193_316, if_pos rfl]
theorem lc_3 (X : ab_X) (d : Nat) {i : Nat} (hi : i + 6 ≤ X.1) (hX : X.1 ≤ 384) {h : ab_H} (hI : zInv h) : ∃ h2, ab_ex X (d + 30 + 1) 193 321 [.ref 81, .ref 0, .ref 29, .int (nI i)] [] h = ab_ex X (d + 30 + 1) 193 1288 [.ref 81, .ref 0, .ref 29, .int (nI i)] [] h2 ∧ zInv h2 := by
  obtain ⟨v, h1, h2, e1, e2, hI2⟩ := cp_tear X d (X.2 (i + 1)) hI
  obtain ⟨y, rfl⟩ := zint e1 rfl
  refine ⟨h2, ?_, hI2⟩
  rw [b193_321, zx1, zd81 (show i + 1 < X.1 by omega) (by omega), e1]
  simp only [zpu_s, zpu_n, Option.bind_some]
  rw [b193_330, zx1, zd81 (show i + 1 < X.1 by omega) (by omega), e2]
  simp only [zpu_s, zpu_n, Option.bind_some]
  rw [b193_339, if_pos rfl]
theorem lc_4 (X : ab_X) (d : Nat) {i : Nat} (hi : i + 6 ≤ X.1) (hX : X.1 ≤ 384) {h : ab_H} (hI : zInv h) : ∃ h2, ab_ex X (d + 30 + 1) 193 344 [.ref 81, .ref 0, .ref 29, .int (nI i)] [] h = ab_ex X (d + 30 + 1) 193 1288 [.ref 81, .ref 0, .ref 29, .int (nI i)] [] h2 ∧ zInv h2 := by
  obtain ⟨v, h1, h2, e1, e2, hI2⟩ := cp_copy X d (X.2 (i + 1)) (X.2 (i + 2)) (X.2 (i + 3)) (X.2 (i + 4)) (X.2 (i + 5)) hI
  obtain ⟨y, rfl⟩ := zint e1 rfl
  refine ⟨h2, ?_, hI2⟩
  rw [b193_344, zx1, zd81 (show i + 1 < X.1 by omega) (by omega), zx2, zd81 (show i + 2 < X.1 by omega) (by omega), zx3, zd81 (show i + 3 < X.1 by omega) (by omega), zx4, zd81 (show i + 4 < X.1 by omega) (by omega), zx5, zd81 (show i + 5 < X.1 by omega) (by omega), e1]
  simp only [zpu_s, zpu_n, Option.bind_some]
  rw [b193_373, zx1, zd81 (show i + 1 < X.1 by omega) (by omega), zx2, zd81 (show i + 2 < X.1 by omega) (by omega), zx3, zd81 (show i + 3 < X.1 by omega) (by omega), zx4, zd81 (show i + 4 < X.1 by omega) (by omega), zx5, zd81 (show i + 5 < X.1 by omega) (by omega), e2]
  simp only [zpu_s, zpu_n, Option.bind_some]
  rw [b193_402, if_pos rfl]
theorem lc_5 (X : ab_X) (d : Nat) {i : Nat} (hi : i + 6 ≤ X.1) (hX : X.1 ≤ 384) {h : ab_H} (hI : zInv h) : ∃ h2, ab_ex X (d + 30 + 1) 193 407 [.ref 81, .ref 0, .ref 29, .int (nI i)] [] h = ab_ex X (d + 30 + 1) 193 1288 [.ref 81, .ref 0, .ref 29, .int (nI i)] [] h2 ∧ zInv h2 := by
  obtain ⟨v, h1, h2, e1, e2, hI2⟩ := cp_mean X d (X.2 (i + 1)) hI
  obtain ⟨y, rfl⟩ := zint e1 rfl
  refine ⟨h2, ?_, hI2⟩
  rw [b193_407, zx1, zd81 (show i + 1 < X.1 by omega) (by omega), e1]
  simp only [zpu_s, zpu_n, Option.bind_some]
  rw [b193_416, zx1, zd81 (show i + 1 < X.1 by omega) (by omega), e2]
  simp only [zpu_s, zpu_n, Option.bind_some]
  rw [b193_425, if_pos rfl]
theorem lc_6 (X : ab_X) (d : Nat) {i : Nat} (hi : i + 6 ≤ X.1) (hX : X.1 ≤ 384) {h : ab_H} (hI : zInv h) : ∃ h2, ab_ex X (d + 30 + 1) 193 430 [.ref 81, .ref 0, .ref 29, .int (nI i)] [] h = ab_ex X (d + 30 + 1) 193 1288 [.ref 81, .ref 0, .ref 29, .int (nI i)] [] h2 ∧ zInv h2 := by
  obtain ⟨v, h1, h2, e1, e2, hI2⟩ := cp_text X d (X.2 (i + 1)) (X.2 (i + 2)) hI
  obtain ⟨y, rfl⟩ := zint e1 rfl
  refine ⟨h2, ?_, hI2⟩
  rw [b193_430, zx1, zd81 (show i + 1 < X.1 by omega) (by omega), zx2, zd81 (show i + 2 < X.1 by omega) (by omega), e1]
  simp only [zpu_s, zpu_n, Option.bind_some]
  rw [b193_444, zx1, zd81 (show i + 1 < X.1 by omega) (by omega), zx2, zd81 (show i + 2 < X.1 by omega) (by omega), e2]
  simp only [zpu_s, zpu_n, Option.bind_some]
  rw [b193_458, if_pos rfl]
theorem lc_7 (X : ab_X) (d : Nat) {i : Nat} (hi : i + 6 ≤ X.1) (hX : X.1 ≤ 384) {h : ab_H} (hI : zInv h) : ∃ h2, ab_ex X (d + 30 + 1) 193 463 [.ref 81, .ref 0, .ref 29, .int (nI i)] [] h = ab_ex X (d + 30 + 1) 193 1288 [.ref 81, .ref 0, .ref 29, .int (nI i)] [] h2 ∧ zInv h2 := by
  obtain ⟨v, h1, h2, e1, e2, hI2⟩ := cp_put X d (X.2 (i + 1)) (X.2 (i + 2)) (X.2 (i + 3)) hI
  obtain ⟨y, rfl⟩ := zint e1 rfl
  refine ⟨h2, ?_, hI2⟩
  rw [b193_463, zx1, zd81 (show i + 1 < X.1 by omega) (by omega), zx2, zd81 (show i + 2 < X.1 by omega) (by omega), zx3, zd81 (show i + 3 < X.1 by omega) (by omega), e1]
  simp only [zpu_s, zpu_n, Option.bind_some]
  rw [b193_482, zx1, zd81 (show i + 1 < X.1 by omega) (by omega), zx2, zd81 (show i + 2 < X.1 by omega) (by omega), zx3, zd81 (show i + 3 < X.1 by omega) (by omega), e2]
  simp only [zpu_s, zpu_n, Option.bind_some]
  rw [b193_501, if_pos rfl]
theorem lc_8 (X : ab_X) (d : Nat) {i : Nat} (hi : i + 6 ≤ X.1) (hX : X.1 ≤ 384) {h : ab_H} (hI : zInv h) : ∃ h2, ab_ex X (d + 30 + 1) 193 506 [.ref 81, .ref 0, .ref 29, .int (nI i)] [] h = ab_ex X (d + 30 + 1) 193 1288 [.ref 81, .ref 0, .ref 29, .int (nI i)] [] h2 ∧ zInv h2 := by
  obtain ⟨v, h1, h2, e1, e2, hI2⟩ := cp_fault X d (X.2 (i + 1)) hI
  obtain ⟨y, rfl⟩ := zint e1 rfl
  refine ⟨h2, ?_, hI2⟩
  rw [b193_506, zx1, zd81 (show i + 1 < X.1 by omega) (by omega), e1]
  simp only [zpu_s, zpu_n, Option.bind_some]
  rw [b193_515, zx1, zd81 (show i + 1 < X.1 by omega) (by omega), e2]
  simp only [zpu_s, zpu_n, Option.bind_some]
  rw [b193_524, if_pos rfl]
theorem lc_9 (X : ab_X) (d : Nat) {i : Nat} (hi : i + 6 ≤ X.1) (hX : X.1 ≤ 384) {h : ab_H} (hI : zInv h) : ∃ h2, ab_ex X (d + 30 + 1) 193 529 [.ref 81, .ref 0, .ref 29, .int (nI i)] [] h = ab_ex X (d + 30 + 1) 193 1288 [.ref 81, .ref 0, .ref 29, .int (nI i)] [] h2 ∧ zInv h2 := by
  obtain ⟨v, h1, h2, e1, e2, hI2⟩ := cp_post X d (X.2 (i + 1)) hI
  obtain ⟨y, rfl⟩ := zint e1 rfl
  refine ⟨h2, ?_, hI2⟩
  rw [b193_529, zx1, zd81 (show i + 1 < X.1 by omega) (by omega), e1]
  simp only [zpu_s, zpu_n, Option.bind_some]
  rw [b193_538, zx1, zd81 (show i + 1 < X.1 by omega) (by omega), e2]
  simp only [zpu_s, zpu_n, Option.bind_some]
  rw [b193_547, if_pos rfl]
theorem lc_10 (X : ab_X) (d : Nat) {i : Nat} (hi : i + 6 ≤ X.1) (hX : X.1 ≤ 384) {h : ab_H} (hI : zInv h) : ∃ h2, ab_ex X (d + 30 + 1) 193 552 [.ref 81, .ref 0, .ref 29, .int (nI i)] [] h = ab_ex X (d + 30 + 1) 193 1288 [.ref 81, .ref 0, .ref 29, .int (nI i)] [] h2 ∧ zInv h2 := by
  obtain ⟨v, h1, h2, e1, e2, hI2⟩ := cp_house X d (X.2 (i + 1)) (X.2 (i + 2)) hI
  obtain ⟨y, rfl⟩ := zint e1 rfl
  refine ⟨h2, ?_, hI2⟩
  rw [b193_552, zx1, zd81 (show i + 1 < X.1 by omega) (by omega), zx2, zd81 (show i + 2 < X.1 by omega) (by omega), e1]
  simp only [zpu_s, zpu_n, Option.bind_some]
  rw [b193_566, zx1, zd81 (show i + 1 < X.1 by omega) (by omega), zx2, zd81 (show i + 2 < X.1 by omega) (by omega), e2]
  simp only [zpu_s, zpu_n, Option.bind_some]
  rw [b193_580, if_pos rfl]
theorem lc_11 (X : ab_X) (d : Nat) {i : Nat} (hi : i + 6 ≤ X.1) (hX : X.1 ≤ 384) {h : ab_H} (hI : zInv h) : ∃ h2, ab_ex X (d + 30 + 1) 193 585 [.ref 81, .ref 0, .ref 29, .int (nI i)] [] h = ab_ex X (d + 30 + 1) 193 1288 [.ref 81, .ref 0, .ref 29, .int (nI i)] [] h2 ∧ zInv h2 := by
  obtain ⟨v, h1, h2, e1, e2, hI2⟩ := cp_mark X d (X.2 (i + 1)) (X.2 (i + 2)) hI
  obtain ⟨y, rfl⟩ := zint e1 rfl
  refine ⟨h2, ?_, hI2⟩
  rw [b193_585, zx1, zd81 (show i + 1 < X.1 by omega) (by omega), zx2, zd81 (show i + 2 < X.1 by omega) (by omega), e1]
  simp only [zpu_s, zpu_n, Option.bind_some]
  rw [b193_599, zx1, zd81 (show i + 1 < X.1 by omega) (by omega), zx2, zd81 (show i + 2 < X.1 by omega) (by omega), e2]
  simp only [zpu_s, zpu_n, Option.bind_some]
  rw [b193_613, if_pos rfl]
theorem lc_12 (X : ab_X) (d : Nat) {i : Nat} (hi : i + 6 ≤ X.1) (hX : X.1 ≤ 384) {h : ab_H} (hI : zInv h) : ∃ h2, ab_ex X (d + 30 + 1) 193 618 [.ref 81, .ref 0, .ref 29, .int (nI i)] [] h = ab_ex X (d + 30 + 1) 193 1288 [.ref 81, .ref 0, .ref 29, .int (nI i)] [] h2 ∧ zInv h2 := by
  obtain ⟨v, h1, h2, e1, e2, hI2⟩ := cp_errand X d (X.2 (i + 1)) (X.2 (i + 2)) hI
  obtain ⟨y, rfl⟩ := zint e1 rfl
  refine ⟨h2, ?_, hI2⟩
  rw [b193_618, zx1, zd81 (show i + 1 < X.1 by omega) (by omega), zx2, zd81 (show i + 2 < X.1 by omega) (by omega), e1]
  simp only [zpu_s, zpu_n, Option.bind_some]
  rw [b193_632, zx1, zd81 (show i + 1 < X.1 by omega) (by omega), zx2, zd81 (show i + 2 < X.1 by omega) (by omega), e2]
  simp only [zpu_s, zpu_n, Option.bind_some]
  rw [b193_646, if_pos rfl]
theorem lc_13 (X : ab_X) (d : Nat) {i : Nat} (hi : i + 6 ≤ X.1) (hX : X.1 ≤ 384) {h : ab_H} (hI : zInv h) : ∃ h2, ab_ex X (d + 30 + 1) 193 651 [.ref 81, .ref 0, .ref 29, .int (nI i)] [] h = ab_ex X (d + 30 + 1) 193 1288 [.ref 81, .ref 0, .ref 29, .int (nI i)] [] h2 ∧ zInv h2 := by
  obtain ⟨v, h1, h2, e1, e2, hI2⟩ := cp_walk X d (X.2 (i + 1)) hI
  obtain ⟨y, rfl⟩ := zint e1 rfl
  refine ⟨h2, ?_, hI2⟩
  rw [b193_651, zx1, zd81 (show i + 1 < X.1 by omega) (by omega), e1]
  simp only [zpu_s, zpu_n, Option.bind_some]
  rw [b193_660, zx1, zd81 (show i + 1 < X.1 by omega) (by omega), e2]
  simp only [zpu_s, zpu_n, Option.bind_some]
  rw [b193_669, if_pos rfl]
theorem lc_14 (X : ab_X) (d : Nat) {i : Nat} (hi : i + 6 ≤ X.1) (hX : X.1 ≤ 384) {h : ab_H} (hI : zInv h) : ∃ h2, ab_ex X (d + 30 + 1) 193 674 [.ref 81, .ref 0, .ref 29, .int (nI i)] [] h = ab_ex X (d + 30 + 1) 193 1288 [.ref 81, .ref 0, .ref 29, .int (nI i)] [] h2 ∧ zInv h2 := by
  obtain ⟨v, h1, h2, e1, e2, hI2⟩ := cp_undo X d (X.2 (i + 1)) hI
  obtain ⟨y, rfl⟩ := zint e1 rfl
  refine ⟨h2, ?_, hI2⟩
  rw [b193_674, zx1, zd81 (show i + 1 < X.1 by omega) (by omega), e1]
  simp only [zpu_s, zpu_n, Option.bind_some]
  rw [b193_683, zx1, zd81 (show i + 1 < X.1 by omega) (by omega), e2]
  simp only [zpu_s, zpu_n, Option.bind_some]
  rw [b193_692, if_pos rfl]
theorem lc_15 (X : ab_X) (d : Nat) {i : Nat} (hi : i + 6 ≤ X.1) (hX : X.1 ≤ 384) {h : ab_H} (hI : zInv h) : ∃ h2, ab_ex X (d + 30 + 1) 193 697 [.ref 81, .ref 0, .ref 29, .int (nI i)] [] h = ab_ex X (d + 30 + 1) 193 1288 [.ref 81, .ref 0, .ref 29, .int (nI i)] [] h2 ∧ zInv h2 := by
  obtain ⟨v, h1, h2, e1, e2, hI2⟩ := cp_keep X d (X.2 (i + 1)) hI
  obtain ⟨y, rfl⟩ := zint e1 rfl
  refine ⟨h2, ?_, hI2⟩
  rw [b193_697, zx1, zd81 (show i + 1 < X.1 by omega) (by omega), e1]
  simp only [zpu_s, zpu_n, Option.bind_some]
  rw [b193_706, zx1, zd81 (show i + 1 < X.1 by omega) (by omega), e2]
  simp only [zpu_s, zpu_n, Option.bind_some]
  rw [b193_715, if_pos rfl]
theorem lc_16 (X : ab_X) (d : Nat) {i : Nat} (hi : i + 6 ≤ X.1) (hX : X.1 ≤ 384) {h : ab_H} (hI : zInv h) : ∃ h2, ab_ex X (d + 30 + 1) 193 720 [.ref 81, .ref 0, .ref 29, .int (nI i)] [] h = ab_ex X (d + 30 + 1) 193 1288 [.ref 81, .ref 0, .ref 29, .int (nI i)] [] h2 ∧ zInv h2 := by
  obtain ⟨v, h1, h2, e1, e2, hI2⟩ := cp_on X d (X.2 (i + 1)) hI
  obtain ⟨y, rfl⟩ := zint e1 rfl
  refine ⟨h2, ?_, hI2⟩
  rw [b193_720, zx1, zd81 (show i + 1 < X.1 by omega) (by omega), e1]
  simp only [zpu_s, zpu_n, Option.bind_some]
  rw [b193_729, zx1, zd81 (show i + 1 < X.1 by omega) (by omega), e2]
  simp only [zpu_s, zpu_n, Option.bind_some]
  rw [b193_738, if_pos rfl]
theorem lc_17 (X : ab_X) (d : Nat) {i : Nat} (hi : i + 6 ≤ X.1) (hX : X.1 ≤ 384) {h : ab_H} (hI : zInv h) : ∃ h2, ab_ex X (d + 30 + 1) 193 743 [.ref 81, .ref 0, .ref 29, .int (nI i)] [] h = ab_ex X (d + 30 + 1) 193 1288 [.ref 81, .ref 0, .ref 29, .int (nI i)] [] h2 ∧ zInv h2 := by
  obtain ⟨v, h1, h2, e1, e2, hI2⟩ := cp_empty X d (X.2 (i + 1)) hI
  obtain ⟨y, rfl⟩ := zint e1 rfl
  refine ⟨h2, ?_, hI2⟩
  rw [b193_743, zx1, zd81 (show i + 1 < X.1 by omega) (by omega), e1]
  simp only [zpu_s, zpu_n, Option.bind_some]
  rw [b193_752, zx1, zd81 (show i + 1 < X.1 by omega) (by omega), e2]
  simp only [zpu_s, zpu_n, Option.bind_some]
  rw [b193_761, if_pos rfl]
theorem lc_18 (X : ab_X) (d : Nat) {i : Nat} (hi : i + 6 ≤ X.1) (hX : X.1 ≤ 384) {h : ab_H} (hI : zInv h) : ∃ h2, ab_ex X (d + 30 + 1) 193 766 [.ref 81, .ref 0, .ref 29, .int (nI i)] [] h = ab_ex X (d + 30 + 1) 193 1288 [.ref 81, .ref 0, .ref 29, .int (nI i)] [] h2 ∧ zInv h2 := by
  obtain ⟨v, h1, h2, e1, e2, hI2⟩ := cp_hour X d (X.2 (i + 1)) (X.2 (i + 2)) hI
  obtain ⟨y, rfl⟩ := zint e1 rfl
  refine ⟨h2, ?_, hI2⟩
  rw [b193_766, zx1, zd81 (show i + 1 < X.1 by omega) (by omega), zx2, zd81 (show i + 2 < X.1 by omega) (by omega), e1]
  simp only [zpu_s, zpu_n, Option.bind_some]
  rw [b193_780, zx1, zd81 (show i + 1 < X.1 by omega) (by omega), zx2, zd81 (show i + 2 < X.1 by omega) (by omega), e2]
  simp only [zpu_s, zpu_n, Option.bind_some]
  rw [b193_794, if_pos rfl]
theorem lc_19 (X : ab_X) (d : Nat) {i : Nat} (hi : i + 6 ≤ X.1) (hX : X.1 ≤ 384) {h : ab_H} (hI : zInv h) : ∃ h2, ab_ex X (d + 30 + 1) 193 799 [.ref 81, .ref 0, .ref 29, .int (nI i)] [] h = ab_ex X (d + 30 + 1) 193 1288 [.ref 81, .ref 0, .ref 29, .int (nI i)] [] h2 ∧ zInv h2 := by
  obtain ⟨v, h1, h2, e1, e2, hI2⟩ := cp_brings X d (X.2 (i + 1)) hI
  obtain ⟨y, rfl⟩ := zint e1 rfl
  refine ⟨h2, ?_, hI2⟩
  rw [b193_799, zx1, zd81 (show i + 1 < X.1 by omega) (by omega), e1]
  simp only [zpu_s, zpu_n, Option.bind_some]
  rw [b193_808, zx1, zd81 (show i + 1 < X.1 by omega) (by omega), e2]
  simp only [zpu_s, zpu_n, Option.bind_some]
  rw [b193_817, if_pos rfl]
theorem lc_20 (X : ab_X) (d : Nat) {i : Nat} (hi : i + 6 ≤ X.1) (hX : X.1 ≤ 384) {h : ab_H} (hI : zInv h) : ∃ h2, ab_ex X (d + 30 + 1) 193 822 [.ref 81, .ref 0, .ref 29, .int (nI i)] [] h = ab_ex X (d + 30 + 1) 193 1288 [.ref 81, .ref 0, .ref 29, .int (nI i)] [] h2 ∧ zInv h2 := by
  obtain ⟨v, h1, h2, e1, e2, hI2⟩ := cp_should X d (X.2 (i + 1)) (X.2 (i + 2)) hI
  obtain ⟨y, rfl⟩ := zint e1 rfl
  refine ⟨h2, ?_, hI2⟩
  rw [b193_822, zx1, zd81 (show i + 1 < X.1 by omega) (by omega), zx2, zd81 (show i + 2 < X.1 by omega) (by omega), e1]
  simp only [zpu_s, zpu_n, Option.bind_some]
  rw [b193_836, zx1, zd81 (show i + 1 < X.1 by omega) (by omega), zx2, zd81 (show i + 2 < X.1 by omega) (by omega), e2]
  simp only [zpu_s, zpu_n, Option.bind_some]
  rw [b193_850, if_pos rfl]
theorem lc_21 (X : ab_X) (d : Nat) {i : Nat} (hi : i + 6 ≤ X.1) (hX : X.1 ≤ 384) {h : ab_H} (hI : zInv h) : ∃ h2, ab_ex X (d + 30 + 1) 193 855 [.ref 81, .ref 0, .ref 29, .int (nI i)] [] h = ab_ex X (d + 30 + 1) 193 1288 [.ref 81, .ref 0, .ref 29, .int (nI i)] [] h2 ∧ zInv h2 := by
  obtain ⟨v, h1, h2, e1, e2, hI2⟩ := cp_never X d  hI
  obtain ⟨y, rfl⟩ := zint e1 rfl
  refine ⟨h2, ?_, hI2⟩
  rw [b193_855, e1]
  simp only [zpu_s, zpu_n, Option.bind_some]
  rw [b193_859, e2]
  simp only [zpu_s, zpu_n, Option.bind_some]
  rw [b193_863, if_pos rfl]
theorem lc_22 (X : ab_X) (d : Nat) {i : Nat} (hi : i + 6 ≤ X.1) (hX : X.1 ≤ 384) {h : ab_H} (hI : zInv h) : ∃ h2, ab_ex X (d + 30 + 1) 193 868 [.ref 81, .ref 0, .ref 29, .int (nI i)] [] h = ab_ex X (d + 30 + 1) 193 1288 [.ref 81, .ref 0, .ref 29, .int (nI i)] [] h2 ∧ zInv h2 := by
  obtain ⟨v, h1, h2, e1, e2, hI2⟩ := cp_best X d (X.2 (i + 1)) hI
  obtain ⟨y, rfl⟩ := zint e1 rfl
  refine ⟨h2, ?_, hI2⟩
  rw [b193_868, zx1, zd81 (show i + 1 < X.1 by omega) (by omega), e1]
  simp only [zpu_s, zpu_n, Option.bind_some]
  rw [b193_877, zx1, zd81 (show i + 1 < X.1 by omega) (by omega), e2]
  simp only [zpu_s, zpu_n, Option.bind_some]
  rw [b193_886, if_pos rfl]
theorem lc_23 (X : ab_X) (d : Nat) {i : Nat} (hi : i + 6 ≤ X.1) (hX : X.1 ≤ 384) {h : ab_H} (hI : zInv h) : ∃ h2, ab_ex X (d + 30 + 1) 193 891 [.ref 81, .ref 0, .ref 29, .int (nI i)] [] h = ab_ex X (d + 30 + 1) 193 1288 [.ref 81, .ref 0, .ref 29, .int (nI i)] [] h2 ∧ zInv h2 := by
  obtain ⟨v, h1, h2, e1, e2, hI2⟩ := cp_most X d  hI
  obtain ⟨y, rfl⟩ := zint e1 rfl
  refine ⟨h2, ?_, hI2⟩
  rw [b193_891, e1]
  simp only [zpu_s, zpu_n, Option.bind_some]
  rw [b193_895, e2]
  simp only [zpu_s, zpu_n, Option.bind_some]
  rw [b193_899, if_pos rfl]
theorem lc_24 (X : ab_X) (d : Nat) {i : Nat} (hi : i + 6 ≤ X.1) (hX : X.1 ≤ 384) {h : ab_H} (hI : zInv h) : ∃ h2, ab_ex X (d + 30 + 1) 193 904 [.ref 81, .ref 0, .ref 29, .int (nI i)] [] h = ab_ex X (d + 30 + 1) 193 1288 [.ref 81, .ref 0, .ref 29, .int (nI i)] [] h2 ∧ zInv h2 := by
  obtain ⟨v, h1, h2, e1, e2, hI2⟩ := cp_soon X d  hI
  obtain ⟨y, rfl⟩ := zint e1 rfl
  refine ⟨h2, ?_, hI2⟩
  rw [b193_904, e1]
  simp only [zpu_s, zpu_n, Option.bind_some]
  rw [b193_908, e2]
  simp only [zpu_s, zpu_n, Option.bind_some]
  rw [b193_912, if_pos rfl]
theorem lc_25 (X : ab_X) (d : Nat) {i : Nat} (hi : i + 6 ≤ X.1) (hX : X.1 ≤ 384) {h : ab_H} (hI : zInv h) : ∃ h2, ab_ex X (d + 30 + 1) 193 917 [.ref 81, .ref 0, .ref 29, .int (nI i)] [] h = ab_ex X (d + 30 + 1) 193 1288 [.ref 81, .ref 0, .ref 29, .int (nI i)] [] h2 ∧ zInv h2 := by
  obtain ⟨v, h1, h2, e1, e2, hI2⟩ := cp_errands X d  hI
  obtain ⟨y, rfl⟩ := zint e1 rfl
  refine ⟨h2, ?_, hI2⟩
  rw [b193_917, e1]
  simp only [zpu_s, zpu_n, Option.bind_some]
  rw [b193_921, e2]
  simp only [zpu_s, zpu_n, Option.bind_some]
  rw [b193_925, if_pos rfl]
theorem lc_26 (X : ab_X) (d : Nat) {i : Nat} (hi : i + 6 ≤ X.1) (hX : X.1 ≤ 384) {h : ab_H} (hI : zInv h) : ∃ h2, ab_ex X (d + 30 + 1) 193 930 [.ref 81, .ref 0, .ref 29, .int (nI i)] [] h = ab_ex X (d + 30 + 1) 193 1288 [.ref 81, .ref 0, .ref 29, .int (nI i)] [] h2 ∧ zInv h2 := by
  obtain ⟨v, h1, h2, e1, e2, hI2⟩ := cp_kinds X d (X.2 (i + 1)) (X.2 (i + 2)) hI
  obtain ⟨y, rfl⟩ := zint e1 rfl
  refine ⟨h2, ?_, hI2⟩
  rw [b193_930, zx1, zd81 (show i + 1 < X.1 by omega) (by omega), zx2, zd81 (show i + 2 < X.1 by omega) (by omega), e1]
  simp only [zpu_s, zpu_n, Option.bind_some]
  rw [b193_944, zx1, zd81 (show i + 1 < X.1 by omega) (by omega), zx2, zd81 (show i + 2 < X.1 by omega) (by omega), e2]
  simp only [zpu_s, zpu_n, Option.bind_some]
  rw [b193_958, if_pos rfl]
theorem lc_27 (X : ab_X) (d : Nat) {i : Nat} (hi : i + 6 ≤ X.1) (hX : X.1 ≤ 384) {h : ab_H} (hI : zInv h) : ∃ h2, ab_ex X (d + 30 + 1) 193 963 [.ref 81, .ref 0, .ref 29, .int (nI i)] [] h = ab_ex X (d + 30 + 1) 193 1288 [.ref 81, .ref 0, .ref 29, .int (nI i)] [] h2 ∧ zInv h2 := by
  obtain ⟨v, h1, h2, e1, e2, hI2⟩ := cp_outs X d (X.2 (i + 1)) (X.2 (i + 2)) (X.2 (i + 3)) hI
  obtain ⟨y, rfl⟩ := zint e1 rfl
  refine ⟨h2, ?_, hI2⟩
  rw [b193_963, zx1, zd81 (show i + 1 < X.1 by omega) (by omega), zx2, zd81 (show i + 2 < X.1 by omega) (by omega), zx3, zd81 (show i + 3 < X.1 by omega) (by omega), e1]
  simp only [zpu_s, zpu_n, Option.bind_some]
  rw [b193_982, zx1, zd81 (show i + 1 < X.1 by omega) (by omega), zx2, zd81 (show i + 2 < X.1 by omega) (by omega), zx3, zd81 (show i + 3 < X.1 by omega) (by omega), e2]
  simp only [zpu_s, zpu_n, Option.bind_some]
  rw [b193_1001, if_pos rfl]
theorem lc_28 (X : ab_X) (d : Nat) {i : Nat} (hi : i + 6 ≤ X.1) (hX : X.1 ≤ 384) {h : ab_H} (hI : zInv h) : ∃ h2, ab_ex X (d + 30 + 1) 193 1006 [.ref 81, .ref 0, .ref 29, .int (nI i)] [] h = ab_ex X (d + 30 + 1) 193 1288 [.ref 81, .ref 0, .ref 29, .int (nI i)] [] h2 ∧ zInv h2 := by
  obtain ⟨v, h1, h2, e1, e2, hI2⟩ := cp_feigned X d  hI
  obtain ⟨y, rfl⟩ := zint e1 rfl
  refine ⟨h2, ?_, hI2⟩
  rw [b193_1006, e1]
  simp only [zpu_s, zpu_n, Option.bind_some]
  rw [b193_1010, e2]
  simp only [zpu_s, zpu_n, Option.bind_some]
  rw [b193_1014, if_pos rfl]
theorem lc_29 (X : ab_X) (d : Nat) {i : Nat} (hi : i + 6 ≤ X.1) (hX : X.1 ≤ 384) {h : ab_H} (hI : zInv h) : ∃ h2, ab_ex X (d + 30 + 1) 193 1019 [.ref 81, .ref 0, .ref 29, .int (nI i)] [] h = ab_ex X (d + 30 + 1) 193 1288 [.ref 81, .ref 0, .ref 29, .int (nI i)] [] h2 ∧ zInv h2 := by
  obtain ⟨v, h1, h2, e1, e2, hI2⟩ := cp_sack X d (X.2 (i + 1)) (X.2 (i + 2)) hI
  obtain ⟨y, rfl⟩ := zint e1 rfl
  refine ⟨h2, ?_, hI2⟩
  rw [b193_1019, zx1, zd81 (show i + 1 < X.1 by omega) (by omega), zx2, zd81 (show i + 2 < X.1 by omega) (by omega), e1]
  simp only [zpu_s, zpu_n, Option.bind_some]
  rw [b193_1033, zx1, zd81 (show i + 1 < X.1 by omega) (by omega), zx2, zd81 (show i + 2 < X.1 by omega) (by omega), e2]
  simp only [zpu_s, zpu_n, Option.bind_some]
  rw [b193_1047, if_pos rfl]
theorem lc_30 (X : ab_X) (d : Nat) {i : Nat} (hi : i + 6 ≤ X.1) (hX : X.1 ≤ 384) {h : ab_H} (hI : zInv h) : ∃ h2, ab_ex X (d + 30 + 1) 193 1052 [.ref 81, .ref 0, .ref 29, .int (nI i)] [] h = ab_ex X (d + 30 + 1) 193 1288 [.ref 81, .ref 0, .ref 29, .int (nI i)] [] h2 ∧ zInv h2 := by
  obtain ⟨v, h1, h2, e1, e2, hI2⟩ := cp_race X d (X.2 (i + 1)) hI
  obtain ⟨y, rfl⟩ := zint e1 rfl
  refine ⟨h2, ?_, hI2⟩
  rw [b193_1052, zx1, zd81 (show i + 1 < X.1 by omega) (by omega), e1]
  simp only [zpu_s, zpu_n, Option.bind_some]
  rw [b193_1061, zx1, zd81 (show i + 1 < X.1 by omega) (by omega), e2]
  simp only [zpu_s, zpu_n, Option.bind_some]
  rw [b193_1070, if_pos rfl]
theorem lc_31 (X : ab_X) (d : Nat) {i : Nat} (hi : i + 6 ≤ X.1) (hX : X.1 ≤ 384) {h : ab_H} (hI : zInv h) : ∃ h2, ab_ex X (d + 30 + 1) 193 1075 [.ref 81, .ref 0, .ref 29, .int (nI i)] [] h = ab_ex X (d + 30 + 1) 193 1288 [.ref 81, .ref 0, .ref 29, .int (nI i)] [] h2 ∧ zInv h2 := by
  obtain ⟨v, h1, h2, e1, e2, hI2⟩ := cp_mid X d (X.2 (i + 1)) (X.2 (i + 2)) hI
  obtain ⟨y, rfl⟩ := zint e1 rfl
  refine ⟨h2, ?_, hI2⟩
  rw [b193_1075, zx1, zd81 (show i + 1 < X.1 by omega) (by omega), zx2, zd81 (show i + 2 < X.1 by omega) (by omega), e1]
  simp only [zpu_s, zpu_n, Option.bind_some]
  rw [b193_1089, zx1, zd81 (show i + 1 < X.1 by omega) (by omega), zx2, zd81 (show i + 2 < X.1 by omega) (by omega), e2]
  simp only [zpu_s, zpu_n, Option.bind_some]
  rw [b193_1103, if_pos rfl]
theorem lc_32 (X : ab_X) (d : Nat) {i : Nat} (hi : i + 6 ≤ X.1) (hX : X.1 ≤ 384) {h : ab_H} (hI : zInv h) : ∃ h2, ab_ex X (d + 30 + 1) 193 1108 [.ref 81, .ref 0, .ref 29, .int (nI i)] [] h = ab_ex X (d + 30 + 1) 193 1288 [.ref 81, .ref 0, .ref 29, .int (nI i)] [] h2 ∧ zInv h2 := by
  obtain ⟨v, h1, h2, e1, e2, hI2⟩ := cp_odds X d (X.2 (i + 1)) (X.2 (i + 2)) hI
  obtain ⟨y, rfl⟩ := zint e1 rfl
  refine ⟨h2, ?_, hI2⟩
  rw [b193_1108, zx1, zd81 (show i + 1 < X.1 by omega) (by omega), zx2, zd81 (show i + 2 < X.1 by omega) (by omega), e1]
  simp only [zpu_s, zpu_n, Option.bind_some]
  rw [b193_1122, zx1, zd81 (show i + 1 < X.1 by omega) (by omega), zx2, zd81 (show i + 2 < X.1 by omega) (by omega), e2]
  simp only [zpu_s, zpu_n, Option.bind_some]
  rw [b193_1136, if_pos rfl]
theorem lc_33 (X : ab_X) (d : Nat) {i : Nat} (hi : i + 6 ≤ X.1) (hX : X.1 ≤ 384) {h : ab_H} (hI : zInv h) : ∃ h2, ab_ex X (d + 30 + 1) 193 1141 [.ref 81, .ref 0, .ref 29, .int (nI i)] [] h = ab_ex X (d + 30 + 1) 193 1288 [.ref 81, .ref 0, .ref 29, .int (nI i)] [] h2 ∧ zInv h2 := by
  obtain ⟨v, h1, h2, e1, e2, hI2⟩ := cp_lots X d (X.2 (i + 1)) (X.2 (i + 2)) hI
  obtain ⟨y, rfl⟩ := zint e1 rfl
  refine ⟨h2, ?_, hI2⟩
  rw [b193_1141, zx1, zd81 (show i + 1 < X.1 by omega) (by omega), zx2, zd81 (show i + 2 < X.1 by omega) (by omega), e1]
  simp only [zpu_s, zpu_n, Option.bind_some]
  rw [b193_1155, zx1, zd81 (show i + 1 < X.1 by omega) (by omega), zx2, zd81 (show i + 2 < X.1 by omega) (by omega), e2]
  simp only [zpu_s, zpu_n, Option.bind_some]
  rw [b193_1169, if_pos rfl]
theorem lc_34 (X : ab_X) (d : Nat) {i : Nat} (hi : i + 6 ≤ X.1) (hX : X.1 ≤ 384) {h : ab_H} (hI : zInv h) : ∃ h2, ab_ex X (d + 30 + 1) 193 1174 [.ref 81, .ref 0, .ref 29, .int (nI i)] [] h = ab_ex X (d + 30 + 1) 193 1288 [.ref 81, .ref 0, .ref 29, .int (nI i)] [] h2 ∧ zInv h2 := by
  obtain ⟨v, h1, h2, e1, e2, hI2⟩ := cp_asked X (d + 30)  hI
  obtain ⟨y, rfl⟩ := zint e1 rfl
  refine ⟨h2, ?_, hI2⟩
  rw [b193_1174, e1]
  simp only [zpu_s, zpu_n, Option.bind_some]
  rw [b193_1178, e2]
  simp only [zpu_s, zpu_n, Option.bind_some]
  rw [b193_1182, if_pos rfl]
theorem lc_35 (X : ab_X) (d : Nat) {i : Nat} (hi : i + 6 ≤ X.1) (hX : X.1 ≤ 384) {h : ab_H} (hI : zInv h) : ∃ h2, ab_ex X (d + 30 + 1) 193 1187 [.ref 81, .ref 0, .ref 29, .int (nI i)] [] h = ab_ex X (d + 30 + 1) 193 1288 [.ref 81, .ref 0, .ref 29, .int (nI i)] [] h2 ∧ zInv h2 := by
  obtain ⟨v, h1, h2, e1, e2, hI2⟩ := cp_upper X (d + 30)  hI
  obtain ⟨y, rfl⟩ := zlong e1 rfl
  refine ⟨h2, ?_, hI2⟩
  have e0 := (lg_cmp_eq y y).mpr rfl
  rw [b193_1187, e1]
  simp only [zpu_s, zpu_n, Option.bind_some]
  rw [b193_1191, e2]
  simp only [zpu_s, zpu_n, Option.bind_some]
  rw [b193_1195, if_pos e0]
theorem lc_36 (X : ab_X) (d : Nat) {i : Nat} (hi : i + 6 ≤ X.1) (hX : X.1 ≤ 384) {h : ab_H} (hI : zInv h) : ∃ h2, ab_ex X (d + 30 + 1) 193 1201 [.ref 81, .ref 0, .ref 29, .int (nI i)] [] h = ab_ex X (d + 30 + 1) 193 1288 [.ref 81, .ref 0, .ref 29, .int (nI i)] [] h2 ∧ zInv h2 := by
  obtain ⟨v, h1, h2, e1, e2, hI2⟩ := cp_lower X (d + 30)  hI
  obtain ⟨y, rfl⟩ := zlong e1 rfl
  refine ⟨h2, ?_, hI2⟩
  have e0 := (lg_cmp_eq y y).mpr rfl
  rw [b193_1201, e1]
  simp only [zpu_s, zpu_n, Option.bind_some]
  rw [b193_1205, e2]
  simp only [zpu_s, zpu_n, Option.bind_some]
  rw [b193_1209, if_pos e0]
theorem lc_37 (X : ab_X) (d : Nat) {i : Nat} (hi : i + 6 ≤ X.1) (hX : X.1 ≤ 384) {h : ab_H} (hI : zInv h) : ∃ h2, ab_ex X (d + 30 + 1) 193 1215 [.ref 81, .ref 0, .ref 29, .int (nI i)] [] h = ab_ex X (d + 30 + 1) 193 1288 [.ref 81, .ref 0, .ref 29, .int (nI i)] [] h2 ∧ zInv h2 := by
  obtain ⟨v, h1, h2, e1, e2, hI2⟩ := cp_count X d (X.2 (i + 1)) hI
  obtain ⟨y, rfl⟩ := zint e1 rfl
  refine ⟨h2, ?_, hI2⟩
  rw [b193_1215, zx1, zd81 (show i + 1 < X.1 by omega) (by omega), e1]
  simp only [zpu_s, zpu_n, Option.bind_some]
  rw [b193_1224, zx1, zd81 (show i + 1 < X.1 by omega) (by omega), e2]
  simp only [zpu_s, zpu_n, Option.bind_some]
  rw [b193_1233, if_pos rfl]
theorem lc_38 (X : ab_X) (d : Nat) {i : Nat} (hi : i + 6 ≤ X.1) (hX : X.1 ≤ 384) {h : ab_H} (hI : zInv h) : ∃ h2, ab_ex X (d + 30 + 1) 193 1238 [.ref 81, .ref 0, .ref 29, .int (nI i)] [] h = ab_ex X (d + 30 + 1) 193 1288 [.ref 81, .ref 0, .ref 29, .int (nI i)] [] h2 ∧ zInv h2 := by
  obtain ⟨v, h1, h2, e1, e2, hI2⟩ := cp_finding X (d + 30)  hI
  obtain ⟨y, rfl⟩ := zint e1 rfl
  refine ⟨h2, ?_, hI2⟩
  rw [b193_1238, e1]
  simp only [zpu_s, zpu_n, Option.bind_some]
  rw [b193_1242, e2]
  simp only [zpu_s, zpu_n, Option.bind_some]
  rw [b193_1246, if_pos rfl]
theorem lc_39 (X : ab_X) (d : Nat) {i : Nat} (hi : i + 6 ≤ X.1) (hX : X.1 ≤ 384) {h : ab_H} (hI : zInv h) : ∃ h2, ab_ex X (d + 30 + 1) 193 1251 [.ref 81, .ref 0, .ref 29, .int (nI i)] [] h = ab_ex X (d + 30 + 1) 193 1288 [.ref 81, .ref 0, .ref 29, .int (nI i)] [] h2 ∧ zInv h2 := by
  obtain ⟨v, h1, h2, e1, e2, hI2⟩ := cp_findings X d (X.2 (i + 1)) hI
  obtain ⟨y, rfl⟩ := zint e1 rfl
  refine ⟨h2, ?_, hI2⟩
  rw [b193_1251, zx1, zd81 (show i + 1 < X.1 by omega) (by omega), e1]
  simp only [zpu_s, zpu_n, Option.bind_some]
  rw [b193_1260, zx1, zd81 (show i + 1 < X.1 by omega) (by omega), e2]
  simp only [zpu_s, zpu_n, Option.bind_some]
  rw [b193_1269, if_pos rfl]
theorem lc_40 (X : ab_X) (d : Nat) {i : Nat} (hi : i + 6 ≤ X.1) (hX : X.1 ≤ 384) {h : ab_H} (hI : zInv h) : ∃ h2, ab_ex X (d + 30 + 1) 193 1274 [.ref 81, .ref 0, .ref 29, .int (nI i)] [] h = ab_ex X (d + 30 + 1) 193 1288 [.ref 81, .ref 0, .ref 29, .int (nI i)] [] h2 ∧ zInv h2 := by
  obtain ⟨v, h1, h2, e1, e2, hI2⟩ := cp_digest X d  hI
  obtain ⟨y, rfl⟩ := zlong e1 rfl
  refine ⟨h2, ?_, hI2⟩
  have e0 := (lg_cmp_eq y y).mpr rfl
  rw [b193_1274, e1]
  simp only [zpu_s, zpu_n, Option.bind_some]
  rw [b193_1278, e2]
  simp only [zpu_s, zpu_n, Option.bind_some]
  rw [b193_1282, if_pos e0]
