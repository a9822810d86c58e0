/-! the tables of part 02 are the Statement's -/
def ab_onm (o : Nat) : String := ab_on.getD o ""
def ab_fok (q : Nat × Nat × Nat × Nat × Nat) : Bool := match vwCl[q.2.2.1]? with
  | some r => decide (q.2.2.2.1 < r.2.2) && (decide (ab_nf q.2.2.1 = r.2.2) && (decide (lw_tbl[q.2.2.2.2]? = some (Cond.fieldLink (ab_onm q.1) q.2.1 (r.2.1 q.2.2.2.1).1 (r.2.1 q.2.2.2.1).2.1 (r.2.1 q.2.2.2.1).2.2.1)) && (match ab_fk q.2.2.1 q.2.2.2.1 with
    | 0 => !(r.2.1 q.2.2.2.1).2.2.2 && decide (parseFieldDescriptor (r.2.1 q.2.2.2.1).2.2.1 = some .int)
    | 1 => !(r.2.1 q.2.2.2.1).2.2.2 && decide (parseFieldDescriptor (r.2.1 q.2.2.2.1).2.2.1 = some .long)
    | _ => true)))
  | none => false
theorem ab_fT_ok : ab_fT.all ab_fok = true := by decide +kernel
theorem ab_fl_spec {o idx : Nat} {q : Nat × Nat × Nat} (h : ab_fl o idx = some q) : ∃ r : vw_C, vwCl[q.1]? = some r ∧ q.2.1 < r.2.2 ∧ ab_nf q.1 = r.2.2 ∧ Cond.fieldLink (ab_onm o) idx (r.2.1 q.2.1).1 (r.2.1 q.2.1).2.1 (r.2.1 q.2.1).2.2.1 ∈ lw_tbl ∧ (ab_fk q.1 q.2.1 = 0 → (r.2.1 q.2.1).2.2.2 = false ∧ parseFieldDescriptor (r.2.1 q.2.1).2.2.1 = some .int) ∧ (ab_fk q.1 q.2.1 = 1 → (r.2.1 q.2.1).2.2.2 = false ∧ parseFieldDescriptor (r.2.1 q.2.1).2.2.1 = some .long) := by
  unfold ab_fl at h
  cases hf : ab_fT.find? (fun q => q.1 == o && q.2.1 == idx) with
  | none => rw [hf] at h; cases h
  | some z =>
    rw [hf] at h
    cases h
    have h1 := List.find?_some hf
    have h2 := List.all_eq_true.mp ab_fT_ok z (List.mem_of_find?_eq_some hf)
    simp only [Bool.and_eq_true, beq_iff_eq] at h1
    obtain ⟨rfl, rfl⟩ := h1
    unfold ab_fok at h2
    cases hr : vwCl[z.2.2.1]? with
    | none => rw [hr] at h2; cases h2
    | some r =>
      rw [hr] at h2
      simp only [Bool.and_eq_true, decide_eq_true_eq] at h2
      obtain ⟨a1, a2, a3, a4⟩ := h2
      refine ⟨r, rfl, a1, a2, List.mem_of_getElem? a3, fun e => ?_, fun e => ?_⟩
      · rw [e] at a4
        simp only [Bool.and_eq_true, decide_eq_true_eq, Bool.not_eq_true'] at a4
        exact a4
      · rw [e] at a4
        simp only [Bool.and_eq_true, decide_eq_true_eq, Bool.not_eq_true'] at a4
        exact a4
def ab_cok (q : Nat × Nat × Nat × Nat × Nat × Nat × Nat × Nat × Nat) : Bool := match ab_mt[q.2.2.1]? with
  | some e => decide (q.2.2.1 < 193) && (decide ((parseMethodDescriptor e.1.desc).map (fun d => d.parameters.length) = some q.2.2.2.1) && (decide (lw_tbl[q.2.2.2.2.2.2.2.1]? = some (Cond.initialized e.1.cls)) && (match q.2.2.2.2.1 with
    | 0 => decide (lw_tbl[q.2.2.2.2.2.1]? = some (Cond.methodLink (ab_onm q.1) q.2.1 e.1)) && decide (lw_tbl[q.2.2.2.2.2.2.1]? = some (Cond.static e.1))
    | 1 => decide (lw_tbl[q.2.2.2.2.2.1]? = some (Cond.methodLinkNest (ab_onm q.1) q.2.1 e.1 "AbsentPost")) && decide (lw_tbl[q.2.2.2.2.2.2.1]? = some (Cond.static e.1))
    | 2 => decide (lw_tbl[q.2.2.2.2.2.1]? = some (Cond.methodLink (ab_onm q.1) q.2.1 e.1)) && (decide (lw_tbl[q.2.2.2.2.2.2.1]? = some (Cond.instanceMethod e.1)) && (decide (lw_tbl[q.2.2.2.2.2.2.2.2]? = some (Cond.selects e.1.cls e.1 e.1)) && (match vwCl[e.2.2.2.2.1]? with
      | some r => decide (r.1 = e.1.cls)
      | none => false)))
    | 3 => decide (lw_tbl[q.2.2.2.2.2.1]? = some (Cond.methodLink (ab_onm q.1) q.2.1 Lib.Math.max.name))
    | 4 => decide (lw_tbl[q.2.2.2.2.2.1]? = some (Cond.methodLink (ab_onm q.1) q.2.1 Lib.Math.min.name))
    | 5 => decide (lw_tbl[q.2.2.2.2.2.1]? = some (Cond.methodLink (ab_onm q.1) q.2.1 Lib.Math.abs.name))
    | _ => false)))
  | none => false
def ab_cok2 (q : Nat × Nat × Nat × Nat × Nat × Nat × Nat × Nat × Nat) : Bool := match ab_mt[q.2.2.1]? with
  | some e => decide (3 ≤ q.2.2.2.2.1) || (decide (e.2.2.1 ≤ 80) && (decide (plainName e.1.cls = true) && (decide (e.1.cls ≠ "java/lang/invoke/MethodHandle") && (decide (e.1.cls ≠ "java/lang/invoke/VarHandle") && decide (ab_onm e.2.2.2.2.1 = e.1.cls)))))
  | none => false
theorem ab_cT_ok2 : ab_cT.all ab_cok2 = true := by decide +kernel
theorem ab_cT_ok : ab_cT.all ab_cok = true := by decide +kernel
theorem ab_cl_spec {o idx : Nat} {q : Nat × Nat × Nat × Nat × Nat × Nat × Nat} (h : ab_cl o idx = some q) : ∃ e : ab_E, ab_mt[q.1]? = some e ∧ q.1 < 193 ∧ (parseMethodDescriptor e.1.desc).map (fun d => d.parameters.length) = some q.2.1 ∧ Cond.initialized e.1.cls ∈ lw_tbl ∧ (q.2.2.1 = 0 → Cond.methodLink (ab_onm o) idx e.1 ∈ lw_tbl ∧ Cond.static e.1 ∈ lw_tbl) ∧ (q.2.2.1 = 1 → Cond.methodLinkNest (ab_onm o) idx e.1 "AbsentPost" ∈ lw_tbl ∧ Cond.static e.1 ∈ lw_tbl) ∧ (q.2.2.1 = 2 → Cond.methodLink (ab_onm o) idx e.1 ∈ lw_tbl ∧ Cond.instanceMethod e.1 ∈ lw_tbl ∧ Cond.selects e.1.cls e.1 e.1 ∈ lw_tbl ∧ ∃ r : vw_C, vwCl[e.2.2.2.2.1]? = some r ∧ r.1 = e.1.cls) ∧ (q.2.2.1 = 3 → Cond.methodLink (ab_onm o) idx Lib.Math.max.name ∈ lw_tbl) ∧ (q.2.2.1 = 4 → Cond.methodLink (ab_onm o) idx Lib.Math.min.name ∈ lw_tbl) ∧ (q.2.2.1 = 5 → Cond.methodLink (ab_onm o) idx Lib.Math.abs.name ∈ lw_tbl) ∧ (q.2.2.1 < 3 → e.2.2.1 ≤ 80 ∧ plainName e.1.cls = true ∧ (e.1.cls ≠ "java/lang/invoke/MethodHandle" ∧ e.1.cls ≠ "java/lang/invoke/VarHandle") ∧ ab_onm e.2.2.2.2.1 = e.1.cls) := by
  unfold ab_cl at h
  cases hf : ab_cT.find? (fun q => q.1 == o && q.2.1 == idx) with
  | none => rw [hf] at h; cases h
  | some z =>
    rw [hf] at h
    cases h
    have h1 := List.find?_some hf
    have h2 := List.all_eq_true.mp ab_cT_ok z (List.mem_of_find?_eq_some hf)
    have h3 := List.all_eq_true.mp ab_cT_ok2 z (List.mem_of_find?_eq_some hf)
    simp only [Bool.and_eq_true, beq_iff_eq] at h1
    obtain ⟨rfl, rfl⟩ := h1
    unfold ab_cok at h2
    unfold ab_cok2 at h3
    cases hr : ab_mt[z.2.2.1]? with
    | none => rw [hr] at h2; cases h2
    | some e =>
      rw [hr] at h2 h3
      simp only [Bool.and_eq_true, decide_eq_true_eq] at h2
      obtain ⟨a0, a1, a2, a3⟩ := h2
      refine ⟨e, rfl, a0, a1, List.mem_of_getElem? a2, fun k => ?_, fun k => ?_, fun k => ?_, fun k => ?_, fun k => ?_, fun k => ?_, fun k => ?_⟩
      · rw [k] at a3
        simp only [Bool.and_eq_true, decide_eq_true_eq] at a3
        exact ⟨List.mem_of_getElem? a3.1, List.mem_of_getElem? a3.2⟩
      · rw [k] at a3
        simp only [Bool.and_eq_true, decide_eq_true_eq] at a3
        exact ⟨List.mem_of_getElem? a3.1, List.mem_of_getElem? a3.2⟩
      · rw [k] at a3
        simp only [Bool.and_eq_true, decide_eq_true_eq] at a3
        refine ⟨List.mem_of_getElem? a3.1, List.mem_of_getElem? a3.2.1, List.mem_of_getElem? a3.2.2.1, ?_⟩
        cases hv : vwCl[e.2.2.2.2.1]? with
        | none => have := a3.2.2.2; rw [hv] at this; cases this
        | some r =>
          have := a3.2.2.2
          rw [hv] at this
          exact ⟨r, rfl, of_decide_eq_true this⟩
      · rw [k] at a3
        exact List.mem_of_getElem? (of_decide_eq_true a3)
      · rw [k] at a3
        exact List.mem_of_getElem? (of_decide_eq_true a3)
      · rw [k] at a3
        exact List.mem_of_getElem? (of_decide_eq_true a3)
      · simp only [Bool.or_eq_true, Bool.and_eq_true, decide_eq_true_eq] at h3
        rcases h3 with h3 | h3
        · exact absurd h3 (Nat.not_le.mpr k)
        · exact ⟨h3.1, h3.2.1, ⟨h3.2.2.1, h3.2.2.2.1⟩, h3.2.2.2.2⟩
theorem ab_kT_ok : (ab_kT.all fun q => decide (lw_tbl[q.2.2.2]? = some (Cond.constantLong (ab_onm q.1) q.2.1 q.2.2.1))) = true := by decide +kernel
theorem ab_kj_spec {o idx : Nat} {q : Int64 × Nat} (h : ab_kj o idx = some q) : Cond.constantLong (ab_onm o) idx q.1 ∈ lw_tbl := by
  unfold ab_kj at h
  cases hf : ab_kT.find? (fun q => q.1 == o && q.2.1 == idx) with
  | none => rw [hf] at h; cases h
  | some z =>
    rw [hf] at h
    cases h
    have h1 := List.find?_some hf
    have h2 := List.all_eq_true.mp ab_kT_ok z (List.mem_of_find?_eq_some hf)
    simp only [Bool.and_eq_true, beq_iff_eq] at h1
    obtain ⟨rfl, rfl⟩ := h1
    exact List.mem_of_getElem? (of_decide_eq_true h2)
theorem ab_jT_ok : (ab_jT.all fun q => decide (lw_tbl[q.2.2.2]? = some (Cond.constant (ab_onm q.1) q.2.1 q.2.2.1))) = true := by decide +kernel
theorem ab_ki_spec {o idx : Nat} {q : Int32 × Nat} (h : ab_ki o idx = some q) : Cond.constant (ab_onm o) idx q.1 ∈ lw_tbl := by
  unfold ab_ki at h
  cases hf : ab_jT.find? (fun q => q.1 == o && q.2.1 == idx) with
  | none => rw [hf] at h; cases h
  | some z =>
    rw [hf] at h
    cases h
    have h1 := List.find?_some hf
    have h2 := List.all_eq_true.mp ab_jT_ok z (List.mem_of_find?_eq_some hf)
    simp only [Bool.and_eq_true, beq_iff_eq] at h1
    obtain ⟨rfl, rfl⟩ := h1
    exact List.mem_of_getElem? (of_decide_eq_true h2)
theorem ab_aT_ok : (ab_aT.all fun q => decide (lw_tbl[q.2.2]? = some (Cond.methodLink (ab_onm q.1) q.2.1 arraycopyName))) = true := by decide +kernel
theorem ab_ac_spec {o idx : Nat} (h : (ab_ac o idx).isSome = true) : Cond.methodLink (ab_onm o) idx arraycopyName ∈ lw_tbl := by
  unfold ab_ac at h
  cases hf : ab_aT.find? (fun q => q.1 == o && q.2.1 == idx) with
  | none => rw [hf] at h; cases h
  | some z =>
    have h1 := List.find?_some hf
    have h2 := List.all_eq_true.mp ab_aT_ok z (List.mem_of_find?_eq_some hf)
    simp only [Bool.and_eq_true, beq_iff_eq] at h1
    obtain ⟨rfl, rfl⟩ := h1
    exact List.mem_of_getElem? (of_decide_eq_true h2)
theorem ab_w_nat : Cond.native arraycopyName ∈ lw_tbl ∧ Cond.static arraycopyName ∈ lw_tbl ∧ Cond.initialized "java/lang/System" ∈ lw_tbl := by decide +kernel
theorem ab_w_z : lw_tbl[ab_zT.2.2]? = some (Cond.fieldLink (ab_onm ab_zT.1) ab_zT.2.1 "AbsentPost" "KIND_LETTERS" "[I") := by decide +kernel
/-- the words that a callee takes along -/
def ab_tb : List Cond := lw_tbl.filter goodWord
theorem ab_tb_in {w : Cond} (h : w ∈ lw_tbl) (hg : goodWord w = true) : w ∈ ab_tb := List.mem_filter.mpr ⟨h, hg⟩
set_option maxRecDepth 20000 in
theorem ab_pc0 : Cond.code ab_e0.1 ab_e0.2.1 ab_e0.2.2.1 ab_e0.2.2.2.1 ∈ lw_tbl := List.mem_of_getElem? (i := 61) rfl
set_option maxRecDepth 20000 in
theorem ab_pc1 : Cond.code ab_e1.1 ab_e1.2.1 ab_e1.2.2.1 ab_e1.2.2.2.1 ∈ lw_tbl := List.mem_of_getElem? (i := 64) rfl
set_option maxRecDepth 20000 in
theorem ab_pc2 : Cond.code ab_e2.1 ab_e2.2.1 ab_e2.2.2.1 ab_e2.2.2.2.1 ∈ lw_tbl := List.mem_of_getElem? (i := 69) rfl
set_option maxRecDepth 20000 in
theorem ab_pc3 : Cond.code ab_e3.1 ab_e3.2.1 ab_e3.2.2.1 ab_e3.2.2.2.1 ∈ lw_tbl := List.mem_of_getElem? (i := 76) rfl
set_option maxRecDepth 20000 in
theorem ab_pc4 : Cond.code ab_e4.1 ab_e4.2.1 ab_e4.2.2.1 ab_e4.2.2.2.1 ∈ lw_tbl := List.mem_of_getElem? (i := 126) rfl
set_option maxRecDepth 20000 in
theorem ab_pc5 : Cond.code ab_e5.1 ab_e5.2.1 ab_e5.2.2.1 ab_e5.2.2.2.1 ∈ lw_tbl := List.mem_of_getElem? (i := 140) rfl
set_option maxRecDepth 20000 in
theorem ab_pc6 : Cond.code ab_e6.1 ab_e6.2.1 ab_e6.2.2.1 ab_e6.2.2.2.1 ∈ lw_tbl := List.mem_of_getElem? (i := 234) rfl
set_option maxRecDepth 20000 in
theorem ab_pc7 : Cond.code ab_e7.1 ab_e7.2.1 ab_e7.2.2.1 ab_e7.2.2.2.1 ∈ lw_tbl := List.mem_of_getElem? (i := 237) rfl
set_option maxRecDepth 20000 in
theorem ab_pc8 : Cond.code ab_e8.1 ab_e8.2.1 ab_e8.2.2.1 ab_e8.2.2.2.1 ∈ lw_tbl := List.mem_of_getElem? (i := 241) rfl
set_option maxRecDepth 20000 in
theorem ab_pc9 : Cond.code ab_e9.1 ab_e9.2.1 ab_e9.2.2.1 ab_e9.2.2.2.1 ∈ lw_tbl := List.mem_of_getElem? (i := 245) rfl
set_option maxRecDepth 20000 in
theorem ab_pc10 : Cond.code ab_e10.1 ab_e10.2.1 ab_e10.2.2.1 ab_e10.2.2.2.1 ∈ lw_tbl := List.mem_of_getElem? (i := 249) rfl
set_option maxRecDepth 20000 in
theorem ab_pc11 : Cond.code ab_e11.1 ab_e11.2.1 ab_e11.2.2.1 ab_e11.2.2.2.1 ∈ lw_tbl := List.mem_of_getElem? (i := 253) rfl
set_option maxRecDepth 20000 in
theorem ab_pc12 : Cond.code ab_e12.1 ab_e12.2.1 ab_e12.2.2.1 ab_e12.2.2.2.1 ∈ lw_tbl := List.mem_of_getElem? (i := 257) rfl
set_option maxRecDepth 20000 in
theorem ab_pc13 : Cond.code ab_e13.1 ab_e13.2.1 ab_e13.2.2.1 ab_e13.2.2.2.1 ∈ lw_tbl := List.mem_of_getElem? (i := 261) rfl
set_option maxRecDepth 20000 in
theorem ab_pc14 : Cond.code ab_e14.1 ab_e14.2.1 ab_e14.2.2.1 ab_e14.2.2.2.1 ∈ lw_tbl := List.mem_of_getElem? (i := 264) rfl
set_option maxRecDepth 20000 in
theorem ab_pc15 : Cond.code ab_e15.1 ab_e15.2.1 ab_e15.2.2.1 ab_e15.2.2.2.1 ∈ lw_tbl := List.mem_of_getElem? (i := 271) rfl
set_option maxRecDepth 20000 in
theorem ab_pc16 : Cond.code ab_e16.1 ab_e16.2.1 ab_e16.2.2.1 ab_e16.2.2.2.1 ∈ lw_tbl := List.mem_of_getElem? (i := 275) rfl
set_option maxRecDepth 20000 in
theorem ab_pc17 : Cond.code ab_e17.1 ab_e17.2.1 ab_e17.2.2.1 ab_e17.2.2.2.1 ∈ lw_tbl := List.mem_of_getElem? (i := 278) rfl
set_option maxRecDepth 20000 in
theorem ab_pc18 : Cond.code ab_e18.1 ab_e18.2.1 ab_e18.2.2.1 ab_e18.2.2.2.1 ∈ lw_tbl := List.mem_of_getElem? (i := 281) rfl
set_option maxRecDepth 20000 in
theorem ab_pc19 : Cond.code ab_e19.1 ab_e19.2.1 ab_e19.2.2.1 ab_e19.2.2.2.1 ∈ lw_tbl := List.mem_of_getElem? (i := 285) rfl
set_option maxRecDepth 20000 in
theorem ab_pc20 : Cond.code ab_e20.1 ab_e20.2.1 ab_e20.2.2.1 ab_e20.2.2.2.1 ∈ lw_tbl := List.mem_of_getElem? (i := 289) rfl
set_option maxRecDepth 20000 in
theorem ab_pc21 : Cond.code ab_e21.1 ab_e21.2.1 ab_e21.2.2.1 ab_e21.2.2.2.1 ∈ lw_tbl := List.mem_of_getElem? (i := 292) rfl
set_option maxRecDepth 20000 in
theorem ab_pc22 : Cond.code ab_e22.1 ab_e22.2.1 ab_e22.2.2.1 ab_e22.2.2.2.1 ∈ lw_tbl := List.mem_of_getElem? (i := 295) rfl
set_option maxRecDepth 20000 in
theorem ab_pc23 : Cond.code ab_e23.1 ab_e23.2.1 ab_e23.2.2.1 ab_e23.2.2.2.1 ∈ lw_tbl := List.mem_of_getElem? (i := 300) rfl
set_option maxRecDepth 20000 in
theorem ab_pc24 : Cond.code ab_e24.1 ab_e24.2.1 ab_e24.2.2.1 ab_e24.2.2.2.1 ∈ lw_tbl := List.mem_of_getElem? (i := 304) rfl
set_option maxRecDepth 20000 in
theorem ab_pc25 : Cond.code ab_e25.1 ab_e25.2.1 ab_e25.2.2.1 ab_e25.2.2.2.1 ∈ lw_tbl := List.mem_of_getElem? (i := 308) rfl
set_option maxRecDepth 20000 in
theorem ab_pc26 : Cond.code ab_e26.1 ab_e26.2.1 ab_e26.2.2.1 ab_e26.2.2.2.1 ∈ lw_tbl := List.mem_of_getElem? (i := 312) rfl
set_option maxRecDepth 20000 in
theorem ab_pc27 : Cond.code ab_e27.1 ab_e27.2.1 ab_e27.2.2.1 ab_e27.2.2.2.1 ∈ lw_tbl := List.mem_of_getElem? (i := 316) rfl
set_option maxRecDepth 20000 in
theorem ab_pc28 : Cond.code ab_e28.1 ab_e28.2.1 ab_e28.2.2.1 ab_e28.2.2.2.1 ∈ lw_tbl := List.mem_of_getElem? (i := 322) rfl
set_option maxRecDepth 20000 in
theorem ab_pc29 : Cond.code ab_e29.1 ab_e29.2.1 ab_e29.2.2.1 ab_e29.2.2.2.1 ∈ lw_tbl := List.mem_of_getElem? (i := 326) rfl
set_option maxRecDepth 20000 in
theorem ab_pc30 : Cond.code ab_e30.1 ab_e30.2.1 ab_e30.2.2.1 ab_e30.2.2.2.1 ∈ lw_tbl := List.mem_of_getElem? (i := 330) rfl
set_option maxRecDepth 20000 in
theorem ab_pc31 : Cond.code ab_e31.1 ab_e31.2.1 ab_e31.2.2.1 ab_e31.2.2.2.1 ∈ lw_tbl := List.mem_of_getElem? (i := 334) rfl
set_option maxRecDepth 20000 in
theorem ab_pc32 : Cond.code ab_e32.1 ab_e32.2.1 ab_e32.2.2.1 ab_e32.2.2.2.1 ∈ lw_tbl := List.mem_of_getElem? (i := 338) rfl
set_option maxRecDepth 20000 in
theorem ab_pc33 : Cond.code ab_e33.1 ab_e33.2.1 ab_e33.2.2.1 ab_e33.2.2.2.1 ∈ lw_tbl := List.mem_of_getElem? (i := 341) rfl
set_option maxRecDepth 20000 in
theorem ab_pc34 : Cond.code ab_e34.1 ab_e34.2.1 ab_e34.2.2.1 ab_e34.2.2.2.1 ∈ lw_tbl := List.mem_of_getElem? (i := 345) rfl
set_option maxRecDepth 20000 in
theorem ab_pc35 : Cond.code ab_e35.1 ab_e35.2.1 ab_e35.2.2.1 ab_e35.2.2.2.1 ∈ lw_tbl := List.mem_of_getElem? (i := 348) rfl
set_option maxRecDepth 20000 in
theorem ab_pc36 : Cond.code ab_e36.1 ab_e36.2.1 ab_e36.2.2.1 ab_e36.2.2.2.1 ∈ lw_tbl := List.mem_of_getElem? (i := 354) rfl
set_option maxRecDepth 20000 in
theorem ab_pc37 : Cond.code ab_e37.1 ab_e37.2.1 ab_e37.2.2.1 ab_e37.2.2.2.1 ∈ lw_tbl := List.mem_of_getElem? (i := 357) rfl
set_option maxRecDepth 20000 in
theorem ab_pc38 : Cond.code ab_e38.1 ab_e38.2.1 ab_e38.2.2.1 ab_e38.2.2.2.1 ∈ lw_tbl := List.mem_of_getElem? (i := 363) rfl
set_option maxRecDepth 20000 in
theorem ab_pc39 : Cond.code ab_e39.1 ab_e39.2.1 ab_e39.2.2.1 ab_e39.2.2.2.1 ∈ lw_tbl := List.mem_of_getElem? (i := 366) rfl
set_option maxRecDepth 20000 in
theorem ab_pc40 : Cond.code ab_e40.1 ab_e40.2.1 ab_e40.2.2.1 ab_e40.2.2.2.1 ∈ lw_tbl := List.mem_of_getElem? (i := 370) rfl
set_option maxRecDepth 20000 in
theorem ab_pc41 : Cond.code ab_e41.1 ab_e41.2.1 ab_e41.2.2.1 ab_e41.2.2.2.1 ∈ lw_tbl := List.mem_of_getElem? (i := 373) rfl
set_option maxRecDepth 20000 in
theorem ab_pc42 : Cond.code ab_e42.1 ab_e42.2.1 ab_e42.2.2.1 ab_e42.2.2.2.1 ∈ lw_tbl := List.mem_of_getElem? (i := 377) rfl
set_option maxRecDepth 20000 in
theorem ab_pc43 : Cond.code ab_e43.1 ab_e43.2.1 ab_e43.2.2.1 ab_e43.2.2.2.1 ∈ lw_tbl := List.mem_of_getElem? (i := 385) rfl
set_option maxRecDepth 20000 in
theorem ab_pc44 : Cond.code ab_e44.1 ab_e44.2.1 ab_e44.2.2.1 ab_e44.2.2.2.1 ∈ lw_tbl := List.mem_of_getElem? (i := 389) rfl
set_option maxRecDepth 20000 in
theorem ab_pc45 : Cond.code ab_e45.1 ab_e45.2.1 ab_e45.2.2.1 ab_e45.2.2.2.1 ∈ lw_tbl := List.mem_of_getElem? (i := 393) rfl
set_option maxRecDepth 20000 in
theorem ab_pc46 : Cond.code ab_e46.1 ab_e46.2.1 ab_e46.2.2.1 ab_e46.2.2.2.1 ∈ lw_tbl := List.mem_of_getElem? (i := 396) rfl
set_option maxRecDepth 20000 in
theorem ab_pc47 : Cond.code ab_e47.1 ab_e47.2.1 ab_e47.2.2.1 ab_e47.2.2.2.1 ∈ lw_tbl := List.mem_of_getElem? (i := 401) rfl
set_option maxRecDepth 20000 in
theorem ab_pc48 : Cond.code ab_e48.1 ab_e48.2.1 ab_e48.2.2.1 ab_e48.2.2.2.1 ∈ lw_tbl := List.mem_of_getElem? (i := 405) rfl
set_option maxRecDepth 20000 in
theorem ab_pc49 : Cond.code ab_e49.1 ab_e49.2.1 ab_e49.2.2.1 ab_e49.2.2.2.1 ∈ lw_tbl := List.mem_of_getElem? (i := 409) rfl
set_option maxRecDepth 20000 in
theorem ab_pc50 : Cond.code ab_e50.1 ab_e50.2.1 ab_e50.2.2.1 ab_e50.2.2.2.1 ∈ lw_tbl := List.mem_of_getElem? (i := 412) rfl
set_option maxRecDepth 20000 in
theorem ab_pc51 : Cond.code ab_e51.1 ab_e51.2.1 ab_e51.2.2.1 ab_e51.2.2.2.1 ∈ lw_tbl := List.mem_of_getElem? (i := 417) rfl
set_option maxRecDepth 20000 in
theorem ab_pc52 : Cond.code ab_e52.1 ab_e52.2.1 ab_e52.2.2.1 ab_e52.2.2.2.1 ∈ lw_tbl := List.mem_of_getElem? (i := 422) rfl
set_option maxRecDepth 20000 in
theorem ab_pc53 : Cond.code ab_e53.1 ab_e53.2.1 ab_e53.2.2.1 ab_e53.2.2.2.1 ∈ lw_tbl := List.mem_of_getElem? (i := 426) rfl
set_option maxRecDepth 20000 in
theorem ab_pc54 : Cond.code ab_e54.1 ab_e54.2.1 ab_e54.2.2.1 ab_e54.2.2.2.1 ∈ lw_tbl := List.mem_of_getElem? (i := 430) rfl
set_option maxRecDepth 20000 in
theorem ab_pc55 : Cond.code ab_e55.1 ab_e55.2.1 ab_e55.2.2.1 ab_e55.2.2.2.1 ∈ lw_tbl := List.mem_of_getElem? (i := 435) rfl
set_option maxRecDepth 20000 in
theorem ab_pc56 : Cond.code ab_e56.1 ab_e56.2.1 ab_e56.2.2.1 ab_e56.2.2.2.1 ∈ lw_tbl := List.mem_of_getElem? (i := 439) rfl
set_option maxRecDepth 20000 in
theorem ab_pc57 : Cond.code ab_e57.1 ab_e57.2.1 ab_e57.2.2.1 ab_e57.2.2.2.1 ∈ lw_tbl := List.mem_of_getElem? (i := 445) rfl
set_option maxRecDepth 20000 in
theorem ab_pc58 : Cond.code ab_e58.1 ab_e58.2.1 ab_e58.2.2.1 ab_e58.2.2.2.1 ∈ lw_tbl := List.mem_of_getElem? (i := 448) rfl
set_option maxRecDepth 20000 in
theorem ab_pc59 : Cond.code ab_e59.1 ab_e59.2.1 ab_e59.2.2.1 ab_e59.2.2.2.1 ∈ lw_tbl := List.mem_of_getElem? (i := 452) rfl
set_option maxRecDepth 20000 in
theorem ab_pc60 : Cond.code ab_e60.1 ab_e60.2.1 ab_e60.2.2.1 ab_e60.2.2.2.1 ∈ lw_tbl := List.mem_of_getElem? (i := 456) rfl
set_option maxRecDepth 20000 in
theorem ab_pc61 : Cond.code ab_e61.1 ab_e61.2.1 ab_e61.2.2.1 ab_e61.2.2.2.1 ∈ lw_tbl := List.mem_of_getElem? (i := 460) rfl
set_option maxRecDepth 20000 in
theorem ab_pc62 : Cond.code ab_e62.1 ab_e62.2.1 ab_e62.2.2.1 ab_e62.2.2.2.1 ∈ lw_tbl := List.mem_of_getElem? (i := 464) rfl
set_option maxRecDepth 20000 in
theorem ab_pc63 : Cond.code ab_e63.1 ab_e63.2.1 ab_e63.2.2.1 ab_e63.2.2.2.1 ∈ lw_tbl := List.mem_of_getElem? (i := 468) rfl
set_option maxRecDepth 20000 in
theorem ab_pc64 : Cond.code ab_e64.1 ab_e64.2.1 ab_e64.2.2.1 ab_e64.2.2.2.1 ∈ lw_tbl := List.mem_of_getElem? (i := 472) rfl
set_option maxRecDepth 20000 in
theorem ab_pc65 : Cond.code ab_e65.1 ab_e65.2.1 ab_e65.2.2.1 ab_e65.2.2.2.1 ∈ lw_tbl := List.mem_of_getElem? (i := 476) rfl
set_option maxRecDepth 20000 in
theorem ab_pc66 : Cond.code ab_e66.1 ab_e66.2.1 ab_e66.2.2.1 ab_e66.2.2.2.1 ∈ lw_tbl := List.mem_of_getElem? (i := 482) rfl
set_option maxRecDepth 20000 in
theorem ab_pc67 : Cond.code ab_e67.1 ab_e67.2.1 ab_e67.2.2.1 ab_e67.2.2.2.1 ∈ lw_tbl := List.mem_of_getElem? (i := 486) rfl
set_option maxRecDepth 20000 in
theorem ab_pc68 : Cond.code ab_e68.1 ab_e68.2.1 ab_e68.2.2.1 ab_e68.2.2.2.1 ∈ lw_tbl := List.mem_of_getElem? (i := 491) rfl
set_option maxRecDepth 20000 in
theorem ab_pc69 : Cond.code ab_e69.1 ab_e69.2.1 ab_e69.2.2.1 ab_e69.2.2.2.1 ∈ lw_tbl := List.mem_of_getElem? (i := 495) rfl
set_option maxRecDepth 20000 in
theorem ab_pc70 : Cond.code ab_e70.1 ab_e70.2.1 ab_e70.2.2.1 ab_e70.2.2.2.1 ∈ lw_tbl := List.mem_of_getElem? (i := 499) rfl
set_option maxRecDepth 20000 in
theorem ab_pc71 : Cond.code ab_e71.1 ab_e71.2.1 ab_e71.2.2.1 ab_e71.2.2.2.1 ∈ lw_tbl := List.mem_of_getElem? (i := 503) rfl
set_option maxRecDepth 20000 in
theorem ab_pc72 : Cond.code ab_e72.1 ab_e72.2.1 ab_e72.2.2.1 ab_e72.2.2.2.1 ∈ lw_tbl := List.mem_of_getElem? (i := 508) rfl
set_option maxRecDepth 20000 in
theorem ab_pc73 : Cond.code ab_e73.1 ab_e73.2.1 ab_e73.2.2.1 ab_e73.2.2.2.1 ∈ lw_tbl := List.mem_of_getElem? (i := 512) rfl
set_option maxRecDepth 20000 in
theorem ab_pc74 : Cond.code ab_e74.1 ab_e74.2.1 ab_e74.2.2.1 ab_e74.2.2.2.1 ∈ lw_tbl := List.mem_of_getElem? (i := 519) rfl
set_option maxRecDepth 20000 in
theorem ab_pc75 : Cond.code ab_e75.1 ab_e75.2.1 ab_e75.2.2.1 ab_e75.2.2.2.1 ∈ lw_tbl := List.mem_of_getElem? (i := 524) rfl
set_option maxRecDepth 20000 in
theorem ab_pc76 : Cond.code ab_e76.1 ab_e76.2.1 ab_e76.2.2.1 ab_e76.2.2.2.1 ∈ lw_tbl := List.mem_of_getElem? (i := 528) rfl
set_option maxRecDepth 20000 in
theorem ab_pc77 : Cond.code ab_e77.1 ab_e77.2.1 ab_e77.2.2.1 ab_e77.2.2.2.1 ∈ lw_tbl := List.mem_of_getElem? (i := 532) rfl
set_option maxRecDepth 20000 in
theorem ab_pc78 : Cond.code ab_e78.1 ab_e78.2.1 ab_e78.2.2.1 ab_e78.2.2.2.1 ∈ lw_tbl := List.mem_of_getElem? (i := 536) rfl
set_option maxRecDepth 20000 in
theorem ab_pc79 : Cond.code ab_e79.1 ab_e79.2.1 ab_e79.2.2.1 ab_e79.2.2.2.1 ∈ lw_tbl := List.mem_of_getElem? (i := 542) rfl
set_option maxRecDepth 20000 in
theorem ab_pc80 : Cond.code ab_e80.1 ab_e80.2.1 ab_e80.2.2.1 ab_e80.2.2.2.1 ∈ lw_tbl := List.mem_of_getElem? (i := 546) rfl
set_option maxRecDepth 20000 in
theorem ab_pc81 : Cond.code ab_e81.1 ab_e81.2.1 ab_e81.2.2.1 ab_e81.2.2.2.1 ∈ lw_tbl := List.mem_of_getElem? (i := 551) rfl
set_option maxRecDepth 20000 in
theorem ab_pc82 : Cond.code ab_e82.1 ab_e82.2.1 ab_e82.2.2.1 ab_e82.2.2.2.1 ∈ lw_tbl := List.mem_of_getElem? (i := 555) rfl
set_option maxRecDepth 20000 in
theorem ab_pc83 : Cond.code ab_e83.1 ab_e83.2.1 ab_e83.2.2.1 ab_e83.2.2.2.1 ∈ lw_tbl := List.mem_of_getElem? (i := 560) rfl
set_option maxRecDepth 20000 in
theorem ab_pc84 : Cond.code ab_e84.1 ab_e84.2.1 ab_e84.2.2.1 ab_e84.2.2.2.1 ∈ lw_tbl := List.mem_of_getElem? (i := 564) rfl
set_option maxRecDepth 20000 in
theorem ab_pc85 : Cond.code ab_e85.1 ab_e85.2.1 ab_e85.2.2.1 ab_e85.2.2.2.1 ∈ lw_tbl := List.mem_of_getElem? (i := 569) rfl
set_option maxRecDepth 20000 in
theorem ab_pc86 : Cond.code ab_e86.1 ab_e86.2.1 ab_e86.2.2.1 ab_e86.2.2.2.1 ∈ lw_tbl := List.mem_of_getElem? (i := 573) rfl
set_option maxRecDepth 20000 in
theorem ab_pc87 : Cond.code ab_e87.1 ab_e87.2.1 ab_e87.2.2.1 ab_e87.2.2.2.1 ∈ lw_tbl := List.mem_of_getElem? (i := 577) rfl
set_option maxRecDepth 20000 in
theorem ab_pc88 : Cond.code ab_e88.1 ab_e88.2.1 ab_e88.2.2.1 ab_e88.2.2.2.1 ∈ lw_tbl := List.mem_of_getElem? (i := 582) rfl
set_option maxRecDepth 20000 in
theorem ab_pc89 : Cond.code ab_e89.1 ab_e89.2.1 ab_e89.2.2.1 ab_e89.2.2.2.1 ∈ lw_tbl := List.mem_of_getElem? (i := 588) rfl
set_option maxRecDepth 20000 in
theorem ab_pc90 : Cond.code ab_e90.1 ab_e90.2.1 ab_e90.2.2.1 ab_e90.2.2.2.1 ∈ lw_tbl := List.mem_of_getElem? (i := 593) rfl
set_option maxRecDepth 20000 in
theorem ab_pc91 : Cond.code ab_e91.1 ab_e91.2.1 ab_e91.2.2.1 ab_e91.2.2.2.1 ∈ lw_tbl := List.mem_of_getElem? (i := 597) rfl
set_option maxRecDepth 20000 in
theorem ab_pc92 : Cond.code ab_e92.1 ab_e92.2.1 ab_e92.2.2.1 ab_e92.2.2.2.1 ∈ lw_tbl := List.mem_of_getElem? (i := 601) rfl
set_option maxRecDepth 20000 in
theorem ab_pc93 : Cond.code ab_e93.1 ab_e93.2.1 ab_e93.2.2.1 ab_e93.2.2.2.1 ∈ lw_tbl := List.mem_of_getElem? (i := 607) rfl
set_option maxRecDepth 20000 in
theorem ab_pc94 : Cond.code ab_e94.1 ab_e94.2.1 ab_e94.2.2.1 ab_e94.2.2.2.1 ∈ lw_tbl := List.mem_of_getElem? (i := 611) rfl
set_option maxRecDepth 20000 in
theorem ab_pc95 : Cond.code ab_e95.1 ab_e95.2.1 ab_e95.2.2.1 ab_e95.2.2.2.1 ∈ lw_tbl := List.mem_of_getElem? (i := 615) rfl
set_option maxRecDepth 20000 in
theorem ab_pc96 : Cond.code ab_e96.1 ab_e96.2.1 ab_e96.2.2.1 ab_e96.2.2.2.1 ∈ lw_tbl := List.mem_of_getElem? (i := 619) rfl
set_option maxRecDepth 20000 in
theorem ab_pc97 : Cond.code ab_e97.1 ab_e97.2.1 ab_e97.2.2.1 ab_e97.2.2.2.1 ∈ lw_tbl := List.mem_of_getElem? (i := 623) rfl
set_option maxRecDepth 20000 in
theorem ab_pc98 : Cond.code ab_e98.1 ab_e98.2.1 ab_e98.2.2.1 ab_e98.2.2.2.1 ∈ lw_tbl := List.mem_of_getElem? (i := 627) rfl
set_option maxRecDepth 20000 in
theorem ab_pc99 : Cond.code ab_e99.1 ab_e99.2.1 ab_e99.2.2.1 ab_e99.2.2.2.1 ∈ lw_tbl := List.mem_of_getElem? (i := 631) rfl
set_option maxRecDepth 20000 in
theorem ab_pc100 : Cond.code ab_e100.1 ab_e100.2.1 ab_e100.2.2.1 ab_e100.2.2.2.1 ∈ lw_tbl := List.mem_of_getElem? (i := 635) rfl
set_option maxRecDepth 20000 in
theorem ab_pc101 : Cond.code ab_e101.1 ab_e101.2.1 ab_e101.2.2.1 ab_e101.2.2.2.1 ∈ lw_tbl := List.mem_of_getElem? (i := 639) rfl
set_option maxRecDepth 20000 in
theorem ab_pc102 : Cond.code ab_e102.1 ab_e102.2.1 ab_e102.2.2.1 ab_e102.2.2.2.1 ∈ lw_tbl := List.mem_of_getElem? (i := 643) rfl
set_option maxRecDepth 20000 in
theorem ab_pc103 : Cond.code ab_e103.1 ab_e103.2.1 ab_e103.2.2.1 ab_e103.2.2.2.1 ∈ lw_tbl := List.mem_of_getElem? (i := 647) rfl
set_option maxRecDepth 20000 in
theorem ab_pc104 : Cond.code ab_e104.1 ab_e104.2.1 ab_e104.2.2.1 ab_e104.2.2.2.1 ∈ lw_tbl := List.mem_of_getElem? (i := 655) rfl
set_option maxRecDepth 20000 in
theorem ab_pc105 : Cond.code ab_e105.1 ab_e105.2.1 ab_e105.2.2.1 ab_e105.2.2.2.1 ∈ lw_tbl := List.mem_of_getElem? (i := 736) rfl
set_option maxRecDepth 20000 in
theorem ab_pc106 : Cond.code ab_e106.1 ab_e106.2.1 ab_e106.2.2.1 ab_e106.2.2.2.1 ∈ lw_tbl := List.mem_of_getElem? (i := 739) rfl
set_option maxRecDepth 20000 in
theorem ab_pc107 : Cond.code ab_e107.1 ab_e107.2.1 ab_e107.2.2.1 ab_e107.2.2.2.1 ∈ lw_tbl := List.mem_of_getElem? (i := 743) rfl
set_option maxRecDepth 20000 in
theorem ab_pc108 : Cond.code ab_e108.1 ab_e108.2.1 ab_e108.2.2.1 ab_e108.2.2.2.1 ∈ lw_tbl := List.mem_of_getElem? (i := 747) rfl
set_option maxRecDepth 20000 in
theorem ab_pc109 : Cond.code ab_e109.1 ab_e109.2.1 ab_e109.2.2.1 ab_e109.2.2.2.1 ∈ lw_tbl := List.mem_of_getElem? (i := 751) rfl
set_option maxRecDepth 20000 in
theorem ab_pc110 : Cond.code ab_e110.1 ab_e110.2.1 ab_e110.2.2.1 ab_e110.2.2.2.1 ∈ lw_tbl := List.mem_of_getElem? (i := 755) rfl
set_option maxRecDepth 20000 in
theorem ab_pc111 : Cond.code ab_e111.1 ab_e111.2.1 ab_e111.2.2.1 ab_e111.2.2.2.1 ∈ lw_tbl := List.mem_of_getElem? (i := 759) rfl
set_option maxRecDepth 20000 in
theorem ab_pc112 : Cond.code ab_e112.1 ab_e112.2.1 ab_e112.2.2.1 ab_e112.2.2.2.1 ∈ lw_tbl := List.mem_of_getElem? (i := 763) rfl
set_option maxRecDepth 20000 in
theorem ab_pc113 : Cond.code ab_e113.1 ab_e113.2.1 ab_e113.2.2.1 ab_e113.2.2.2.1 ∈ lw_tbl := List.mem_of_getElem? (i := 768) rfl
set_option maxRecDepth 20000 in
theorem ab_pc114 : Cond.code ab_e114.1 ab_e114.2.1 ab_e114.2.2.1 ab_e114.2.2.2.1 ∈ lw_tbl := List.mem_of_getElem? (i := 772) rfl
set_option maxRecDepth 20000 in
theorem ab_pc115 : Cond.code ab_e115.1 ab_e115.2.1 ab_e115.2.2.1 ab_e115.2.2.2.1 ∈ lw_tbl := List.mem_of_getElem? (i := 775) rfl
set_option maxRecDepth 20000 in
theorem ab_pc116 : Cond.code ab_e116.1 ab_e116.2.1 ab_e116.2.2.1 ab_e116.2.2.2.1 ∈ lw_tbl := List.mem_of_getElem? (i := 779) rfl
set_option maxRecDepth 20000 in
theorem ab_pc117 : Cond.code ab_e117.1 ab_e117.2.1 ab_e117.2.2.1 ab_e117.2.2.2.1 ∈ lw_tbl := List.mem_of_getElem? (i := 783) rfl
set_option maxRecDepth 20000 in
theorem ab_pc118 : Cond.code ab_e118.1 ab_e118.2.1 ab_e118.2.2.1 ab_e118.2.2.2.1 ∈ lw_tbl := List.mem_of_getElem? (i := 786) rfl
set_option maxRecDepth 20000 in
theorem ab_pc119 : Cond.code ab_e119.1 ab_e119.2.1 ab_e119.2.2.1 ab_e119.2.2.2.1 ∈ lw_tbl := List.mem_of_getElem? (i := 791) rfl
set_option maxRecDepth 20000 in
theorem ab_pc120 : Cond.code ab_e120.1 ab_e120.2.1 ab_e120.2.2.1 ab_e120.2.2.2.1 ∈ lw_tbl := List.mem_of_getElem? (i := 795) rfl
set_option maxRecDepth 20000 in
theorem ab_pc121 : Cond.code ab_e121.1 ab_e121.2.1 ab_e121.2.2.1 ab_e121.2.2.2.1 ∈ lw_tbl := List.mem_of_getElem? (i := 799) rfl
set_option maxRecDepth 20000 in
theorem ab_pc122 : Cond.code ab_e122.1 ab_e122.2.1 ab_e122.2.2.1 ab_e122.2.2.2.1 ∈ lw_tbl := List.mem_of_getElem? (i := 803) rfl
set_option maxRecDepth 20000 in
theorem ab_pc123 : Cond.code ab_e123.1 ab_e123.2.1 ab_e123.2.2.1 ab_e123.2.2.2.1 ∈ lw_tbl := List.mem_of_getElem? (i := 807) rfl
set_option maxRecDepth 20000 in
theorem ab_pc124 : Cond.code ab_e124.1 ab_e124.2.1 ab_e124.2.2.1 ab_e124.2.2.2.1 ∈ lw_tbl := List.mem_of_getElem? (i := 811) rfl
set_option maxRecDepth 20000 in
theorem ab_pc125 : Cond.code ab_e125.1 ab_e125.2.1 ab_e125.2.2.1 ab_e125.2.2.2.1 ∈ lw_tbl := List.mem_of_getElem? (i := 814) rfl
set_option maxRecDepth 20000 in
theorem ab_pc126 : Cond.code ab_e126.1 ab_e126.2.1 ab_e126.2.2.1 ab_e126.2.2.2.1 ∈ lw_tbl := List.mem_of_getElem? (i := 818) rfl
set_option maxRecDepth 20000 in
theorem ab_pc127 : Cond.code ab_e127.1 ab_e127.2.1 ab_e127.2.2.1 ab_e127.2.2.2.1 ∈ lw_tbl := List.mem_of_getElem? (i := 821) rfl
set_option maxRecDepth 20000 in
theorem ab_pc128 : Cond.code ab_e128.1 ab_e128.2.1 ab_e128.2.2.1 ab_e128.2.2.2.1 ∈ lw_tbl := List.mem_of_getElem? (i := 825) rfl
set_option maxRecDepth 20000 in
theorem ab_pc129 : Cond.code ab_e129.1 ab_e129.2.1 ab_e129.2.2.1 ab_e129.2.2.2.1 ∈ lw_tbl := List.mem_of_getElem? (i := 829) rfl
set_option maxRecDepth 20000 in
theorem ab_pc130 : Cond.code ab_e130.1 ab_e130.2.1 ab_e130.2.2.1 ab_e130.2.2.2.1 ∈ lw_tbl := List.mem_of_getElem? (i := 833) rfl
set_option maxRecDepth 20000 in
theorem ab_pc131 : Cond.code ab_e131.1 ab_e131.2.1 ab_e131.2.2.1 ab_e131.2.2.2.1 ∈ lw_tbl := List.mem_of_getElem? (i := 837) rfl
set_option maxRecDepth 20000 in
theorem ab_pc132 : Cond.code ab_e132.1 ab_e132.2.1 ab_e132.2.2.1 ab_e132.2.2.2.1 ∈ lw_tbl := List.mem_of_getElem? (i := 842) rfl
set_option maxRecDepth 20000 in
theorem ab_pc133 : Cond.code ab_e133.1 ab_e133.2.1 ab_e133.2.2.1 ab_e133.2.2.2.1 ∈ lw_tbl := List.mem_of_getElem? (i := 846) rfl
set_option maxRecDepth 20000 in
theorem ab_pc134 : Cond.code ab_e134.1 ab_e134.2.1 ab_e134.2.2.1 ab_e134.2.2.2.1 ∈ lw_tbl := List.mem_of_getElem? (i := 850) rfl
set_option maxRecDepth 20000 in
theorem ab_pc135 : Cond.code ab_e135.1 ab_e135.2.1 ab_e135.2.2.1 ab_e135.2.2.2.1 ∈ lw_tbl := List.mem_of_getElem? (i := 853) rfl
set_option maxRecDepth 20000 in
theorem ab_pc136 : Cond.code ab_e136.1 ab_e136.2.1 ab_e136.2.2.1 ab_e136.2.2.2.1 ∈ lw_tbl := List.mem_of_getElem? (i := 857) rfl
set_option maxRecDepth 20000 in
theorem ab_pc137 : Cond.code ab_e137.1 ab_e137.2.1 ab_e137.2.2.1 ab_e137.2.2.2.1 ∈ lw_tbl := List.mem_of_getElem? (i := 861) rfl
set_option maxRecDepth 20000 in
theorem ab_pc138 : Cond.code ab_e138.1 ab_e138.2.1 ab_e138.2.2.1 ab_e138.2.2.2.1 ∈ lw_tbl := List.mem_of_getElem? (i := 864) rfl
set_option maxRecDepth 20000 in
theorem ab_pc139 : Cond.code ab_e139.1 ab_e139.2.1 ab_e139.2.2.1 ab_e139.2.2.2.1 ∈ lw_tbl := List.mem_of_getElem? (i := 867) rfl
set_option maxRecDepth 20000 in
theorem ab_pc140 : Cond.code ab_e140.1 ab_e140.2.1 ab_e140.2.2.1 ab_e140.2.2.2.1 ∈ lw_tbl := List.mem_of_getElem? (i := 871) rfl
set_option maxRecDepth 20000 in
theorem ab_pc141 : Cond.code ab_e141.1 ab_e141.2.1 ab_e141.2.2.1 ab_e141.2.2.2.1 ∈ lw_tbl := List.mem_of_getElem? (i := 874) rfl
set_option maxRecDepth 20000 in
theorem ab_pc142 : Cond.code ab_e142.1 ab_e142.2.1 ab_e142.2.2.1 ab_e142.2.2.2.1 ∈ lw_tbl := List.mem_of_getElem? (i := 879) rfl
set_option maxRecDepth 20000 in
theorem ab_pc143 : Cond.code ab_e143.1 ab_e143.2.1 ab_e143.2.2.1 ab_e143.2.2.2.1 ∈ lw_tbl := List.mem_of_getElem? (i := 883) rfl
set_option maxRecDepth 20000 in
theorem ab_pc144 : Cond.code ab_e144.1 ab_e144.2.1 ab_e144.2.2.1 ab_e144.2.2.2.1 ∈ lw_tbl := List.mem_of_getElem? (i := 887) rfl
set_option maxRecDepth 20000 in
theorem ab_pc145 : Cond.code ab_e145.1 ab_e145.2.1 ab_e145.2.2.1 ab_e145.2.2.2.1 ∈ lw_tbl := List.mem_of_getElem? (i := 891) rfl
set_option maxRecDepth 20000 in
theorem ab_pc146 : Cond.code ab_e146.1 ab_e146.2.1 ab_e146.2.2.1 ab_e146.2.2.2.1 ∈ lw_tbl := List.mem_of_getElem? (i := 895) rfl
set_option maxRecDepth 20000 in
theorem ab_pc147 : Cond.code ab_e147.1 ab_e147.2.1 ab_e147.2.2.1 ab_e147.2.2.2.1 ∈ lw_tbl := List.mem_of_getElem? (i := 899) rfl
set_option maxRecDepth 20000 in
theorem ab_pc148 : Cond.code ab_e148.1 ab_e148.2.1 ab_e148.2.2.1 ab_e148.2.2.2.1 ∈ lw_tbl := List.mem_of_getElem? (i := 903) rfl
set_option maxRecDepth 20000 in
theorem ab_pc149 : Cond.code ab_e149.1 ab_e149.2.1 ab_e149.2.2.1 ab_e149.2.2.2.1 ∈ lw_tbl := List.mem_of_getElem? (i := 906) rfl
set_option maxRecDepth 20000 in
theorem ab_pc150 : Cond.code ab_e150.1 ab_e150.2.1 ab_e150.2.2.1 ab_e150.2.2.2.1 ∈ lw_tbl := List.mem_of_getElem? (i := 910) rfl
set_option maxRecDepth 20000 in
theorem ab_pc151 : Cond.code ab_e151.1 ab_e151.2.1 ab_e151.2.2.1 ab_e151.2.2.2.1 ∈ lw_tbl := List.mem_of_getElem? (i := 914) rfl
set_option maxRecDepth 20000 in
theorem ab_pc152 : Cond.code ab_e152.1 ab_e152.2.1 ab_e152.2.2.1 ab_e152.2.2.2.1 ∈ lw_tbl := List.mem_of_getElem? (i := 918) rfl
set_option maxRecDepth 20000 in
theorem ab_pc153 : Cond.code ab_e153.1 ab_e153.2.1 ab_e153.2.2.1 ab_e153.2.2.2.1 ∈ lw_tbl := List.mem_of_getElem? (i := 923) rfl
set_option maxRecDepth 20000 in
theorem ab_pc154 : Cond.code ab_e154.1 ab_e154.2.1 ab_e154.2.2.1 ab_e154.2.2.2.1 ∈ lw_tbl := List.mem_of_getElem? (i := 927) rfl
set_option maxRecDepth 20000 in
theorem ab_pc155 : Cond.code ab_e155.1 ab_e155.2.1 ab_e155.2.2.1 ab_e155.2.2.2.1 ∈ lw_tbl := List.mem_of_getElem? (i := 931) rfl
set_option maxRecDepth 20000 in
theorem ab_pc156 : Cond.code ab_e156.1 ab_e156.2.1 ab_e156.2.2.1 ab_e156.2.2.2.1 ∈ lw_tbl := List.mem_of_getElem? (i := 935) rfl
set_option maxRecDepth 20000 in
theorem ab_pc157 : Cond.code ab_e157.1 ab_e157.2.1 ab_e157.2.2.1 ab_e157.2.2.2.1 ∈ lw_tbl := List.mem_of_getElem? (i := 939) rfl
set_option maxRecDepth 20000 in
theorem ab_pc158 : Cond.code ab_e158.1 ab_e158.2.1 ab_e158.2.2.1 ab_e158.2.2.2.1 ∈ lw_tbl := List.mem_of_getElem? (i := 943) rfl
set_option maxRecDepth 20000 in
theorem ab_pc159 : Cond.code ab_e159.1 ab_e159.2.1 ab_e159.2.2.1 ab_e159.2.2.2.1 ∈ lw_tbl := List.mem_of_getElem? (i := 947) rfl
set_option maxRecDepth 20000 in
theorem ab_pc160 : Cond.code ab_e160.1 ab_e160.2.1 ab_e160.2.2.1 ab_e160.2.2.2.1 ∈ lw_tbl := List.mem_of_getElem? (i := 951) rfl
set_option maxRecDepth 20000 in
theorem ab_pc161 : Cond.code ab_e161.1 ab_e161.2.1 ab_e161.2.2.1 ab_e161.2.2.2.1 ∈ lw_tbl := List.mem_of_getElem? (i := 955) rfl
set_option maxRecDepth 20000 in
theorem ab_pc162 : Cond.code ab_e162.1 ab_e162.2.1 ab_e162.2.2.1 ab_e162.2.2.2.1 ∈ lw_tbl := List.mem_of_getElem? (i := 959) rfl
set_option maxRecDepth 20000 in
theorem ab_pc163 : Cond.code ab_e163.1 ab_e163.2.1 ab_e163.2.2.1 ab_e163.2.2.2.1 ∈ lw_tbl := List.mem_of_getElem? (i := 963) rfl
set_option maxRecDepth 20000 in
theorem ab_pc164 : Cond.code ab_e164.1 ab_e164.2.1 ab_e164.2.2.1 ab_e164.2.2.2.1 ∈ lw_tbl := List.mem_of_getElem? (i := 967) rfl
set_option maxRecDepth 20000 in
theorem ab_pc165 : Cond.code ab_e165.1 ab_e165.2.1 ab_e165.2.2.1 ab_e165.2.2.2.1 ∈ lw_tbl := List.mem_of_getElem? (i := 971) rfl
set_option maxRecDepth 20000 in
theorem ab_pc166 : Cond.code ab_e166.1 ab_e166.2.1 ab_e166.2.2.1 ab_e166.2.2.2.1 ∈ lw_tbl := List.mem_of_getElem? (i := 975) rfl
set_option maxRecDepth 20000 in
theorem ab_pc167 : Cond.code ab_e167.1 ab_e167.2.1 ab_e167.2.2.1 ab_e167.2.2.2.1 ∈ lw_tbl := List.mem_of_getElem? (i := 979) rfl
set_option maxRecDepth 20000 in
theorem ab_pc168 : Cond.code ab_e168.1 ab_e168.2.1 ab_e168.2.2.1 ab_e168.2.2.2.1 ∈ lw_tbl := List.mem_of_getElem? (i := 983) rfl
set_option maxRecDepth 20000 in
theorem ab_pc169 : Cond.code ab_e169.1 ab_e169.2.1 ab_e169.2.2.1 ab_e169.2.2.2.1 ∈ lw_tbl := List.mem_of_getElem? (i := 987) rfl
set_option maxRecDepth 20000 in
theorem ab_pc170 : Cond.code ab_e170.1 ab_e170.2.1 ab_e170.2.2.1 ab_e170.2.2.2.1 ∈ lw_tbl := List.mem_of_getElem? (i := 991) rfl
set_option maxRecDepth 20000 in
theorem ab_pc171 : Cond.code ab_e171.1 ab_e171.2.1 ab_e171.2.2.1 ab_e171.2.2.2.1 ∈ lw_tbl := List.mem_of_getElem? (i := 995) rfl
set_option maxRecDepth 20000 in
theorem ab_pc172 : Cond.code ab_e172.1 ab_e172.2.1 ab_e172.2.2.1 ab_e172.2.2.2.1 ∈ lw_tbl := List.mem_of_getElem? (i := 1000) rfl
set_option maxRecDepth 20000 in
theorem ab_pc173 : Cond.code ab_e173.1 ab_e173.2.1 ab_e173.2.2.1 ab_e173.2.2.2.1 ∈ lw_tbl := List.mem_of_getElem? (i := 1004) rfl
set_option maxRecDepth 20000 in
theorem ab_pc174 : Cond.code ab_e174.1 ab_e174.2.1 ab_e174.2.2.1 ab_e174.2.2.2.1 ∈ lw_tbl := List.mem_of_getElem? (i := 1009) rfl
set_option maxRecDepth 20000 in
theorem ab_pc175 : Cond.code ab_e175.1 ab_e175.2.1 ab_e175.2.2.1 ab_e175.2.2.2.1 ∈ lw_tbl := List.mem_of_getElem? (i := 1013) rfl
set_option maxRecDepth 20000 in
theorem ab_pc176 : Cond.code ab_e176.1 ab_e176.2.1 ab_e176.2.2.1 ab_e176.2.2.2.1 ∈ lw_tbl := List.mem_of_getElem? (i := 1017) rfl
set_option maxRecDepth 20000 in
theorem ab_pc177 : Cond.code ab_e177.1 ab_e177.2.1 ab_e177.2.2.1 ab_e177.2.2.2.1 ∈ lw_tbl := List.mem_of_getElem? (i := 1021) rfl
set_option maxRecDepth 20000 in
theorem ab_pc178 : Cond.code ab_e178.1 ab_e178.2.1 ab_e178.2.2.1 ab_e178.2.2.2.1 ∈ lw_tbl := List.mem_of_getElem? (i := 1026) rfl
set_option maxRecDepth 20000 in
theorem ab_pc179 : Cond.code ab_e179.1 ab_e179.2.1 ab_e179.2.2.1 ab_e179.2.2.2.1 ∈ lw_tbl := List.mem_of_getElem? (i := 1030) rfl
set_option maxRecDepth 20000 in
theorem ab_pc180 : Cond.code ab_e180.1 ab_e180.2.1 ab_e180.2.2.1 ab_e180.2.2.2.1 ∈ lw_tbl := List.mem_of_getElem? (i := 1034) rfl
set_option maxRecDepth 20000 in
theorem ab_pc181 : Cond.code ab_e181.1 ab_e181.2.1 ab_e181.2.2.1 ab_e181.2.2.2.1 ∈ lw_tbl := List.mem_of_getElem? (i := 1042) rfl
set_option maxRecDepth 20000 in
theorem ab_pc182 : Cond.code ab_e182.1 ab_e182.2.1 ab_e182.2.2.1 ab_e182.2.2.2.1 ∈ lw_tbl := List.mem_of_getElem? (i := 1046) rfl
set_option maxRecDepth 20000 in
theorem ab_pc183 : Cond.code ab_e183.1 ab_e183.2.1 ab_e183.2.2.1 ab_e183.2.2.2.1 ∈ lw_tbl := List.mem_of_getElem? (i := 1050) rfl
set_option maxRecDepth 20000 in
theorem ab_pc184 : Cond.code ab_e184.1 ab_e184.2.1 ab_e184.2.2.1 ab_e184.2.2.2.1 ∈ lw_tbl := List.mem_of_getElem? (i := 1054) rfl
set_option maxRecDepth 20000 in
theorem ab_pc185 : Cond.code ab_e185.1 ab_e185.2.1 ab_e185.2.2.1 ab_e185.2.2.2.1 ∈ lw_tbl := List.mem_of_getElem? (i := 1058) rfl
set_option maxRecDepth 20000 in
theorem ab_pc186 : Cond.code ab_e186.1 ab_e186.2.1 ab_e186.2.2.1 ab_e186.2.2.2.1 ∈ lw_tbl := List.mem_of_getElem? (i := 1062) rfl
set_option maxRecDepth 20000 in
theorem ab_pc187 : Cond.code ab_e187.1 ab_e187.2.1 ab_e187.2.2.1 ab_e187.2.2.2.1 ∈ lw_tbl := List.mem_of_getElem? (i := 1065) rfl
set_option maxRecDepth 20000 in
theorem ab_pc188 : Cond.code ab_e188.1 ab_e188.2.1 ab_e188.2.2.1 ab_e188.2.2.2.1 ∈ lw_tbl := List.mem_of_getElem? (i := 1069) rfl
set_option maxRecDepth 20000 in
theorem ab_pc189 : Cond.code ab_e189.1 ab_e189.2.1 ab_e189.2.2.1 ab_e189.2.2.2.1 ∈ lw_tbl := List.mem_of_getElem? (i := 1073) rfl
set_option maxRecDepth 20000 in
theorem ab_pc190 : Cond.code ab_e190.1 ab_e190.2.1 ab_e190.2.2.1 ab_e190.2.2.2.1 ∈ lw_tbl := List.mem_of_getElem? (i := 1077) rfl
set_option maxRecDepth 20000 in
theorem ab_pc191 : Cond.code ab_e191.1 ab_e191.2.1 ab_e191.2.2.1 ab_e191.2.2.2.1 ∈ lw_tbl := List.mem_of_getElem? (i := 1083) rfl
set_option maxRecDepth 20000 in
theorem ab_pc192 : Cond.code ab_e192.1 ab_e192.2.1 ab_e192.2.2.1 ab_e192.2.2.2.1 ∈ lw_tbl := List.mem_of_getElem? (i := 381) rfl
def ab_mt_0 : List ab_E := [ab_e0, ab_e1, ab_e2, ab_e3, ab_e4, ab_e5, ab_e6, ab_e7, ab_e8, ab_e9, ab_e10, ab_e11, ab_e12, ab_e13, ab_e14, ab_e15]
theorem ab_pk_0 : ∀ e ∈ ab_mt_0, Cond.code e.1 e.2.1 e.2.2.1 e.2.2.2.1 ∈ lw_tbl := List.forall_mem_cons.mpr ⟨ab_pc0, List.forall_mem_cons.mpr ⟨ab_pc1, List.forall_mem_cons.mpr ⟨ab_pc2, List.forall_mem_cons.mpr ⟨ab_pc3, List.forall_mem_cons.mpr ⟨ab_pc4, List.forall_mem_cons.mpr ⟨ab_pc5, List.forall_mem_cons.mpr ⟨ab_pc6, List.forall_mem_cons.mpr ⟨ab_pc7, List.forall_mem_cons.mpr ⟨ab_pc8, List.forall_mem_cons.mpr ⟨ab_pc9, List.forall_mem_cons.mpr ⟨ab_pc10, List.forall_mem_cons.mpr ⟨ab_pc11, List.forall_mem_cons.mpr ⟨ab_pc12, List.forall_mem_cons.mpr ⟨ab_pc13, List.forall_mem_cons.mpr ⟨ab_pc14, List.forall_mem_cons.mpr ⟨ab_pc15, fun _ h => absurd h List.not_mem_nil⟩⟩⟩⟩⟩⟩⟩⟩⟩⟩⟩⟩⟩⟩⟩⟩
def ab_mt_1 : List ab_E := [ab_e16, ab_e17, ab_e18, ab_e19, ab_e20, ab_e21, ab_e22, ab_e23, ab_e24, ab_e25, ab_e26, ab_e27, ab_e28, ab_e29, ab_e30, ab_e31]
theorem ab_pk_1 : ∀ e ∈ ab_mt_1, Cond.code e.1 e.2.1 e.2.2.1 e.2.2.2.1 ∈ lw_tbl := List.forall_mem_cons.mpr ⟨ab_pc16, List.forall_mem_cons.mpr ⟨ab_pc17, List.forall_mem_cons.mpr ⟨ab_pc18, List.forall_mem_cons.mpr ⟨ab_pc19, List.forall_mem_cons.mpr ⟨ab_pc20, List.forall_mem_cons.mpr ⟨ab_pc21, List.forall_mem_cons.mpr ⟨ab_pc22, List.forall_mem_cons.mpr ⟨ab_pc23, List.forall_mem_cons.mpr ⟨ab_pc24, List.forall_mem_cons.mpr ⟨ab_pc25, List.forall_mem_cons.mpr ⟨ab_pc26, List.forall_mem_cons.mpr ⟨ab_pc27, List.forall_mem_cons.mpr ⟨ab_pc28, List.forall_mem_cons.mpr ⟨ab_pc29, List.forall_mem_cons.mpr ⟨ab_pc30, List.forall_mem_cons.mpr ⟨ab_pc31, fun _ h => absurd h List.not_mem_nil⟩⟩⟩⟩⟩⟩⟩⟩⟩⟩⟩⟩⟩⟩⟩⟩
def ab_mt_2 : List ab_E := [ab_e32, ab_e33, ab_e34, ab_e35, ab_e36, ab_e37, ab_e38, ab_e39, ab_e40, ab_e41, ab_e42, ab_e43, ab_e44, ab_e45, ab_e46, ab_e47]
theorem ab_pk_2 : ∀ e ∈ ab_mt_2, Cond.code e.1 e.2.1 e.2.2.1 e.2.2.2.1 ∈ lw_tbl := List.forall_mem_cons.mpr ⟨ab_pc32, List.forall_mem_cons.mpr ⟨ab_pc33, List.forall_mem_cons.mpr ⟨ab_pc34, List.forall_mem_cons.mpr ⟨ab_pc35, List.forall_mem_cons.mpr ⟨ab_pc36, List.forall_mem_cons.mpr ⟨ab_pc37, List.forall_mem_cons.mpr ⟨ab_pc38, List.forall_mem_cons.mpr ⟨ab_pc39, List.forall_mem_cons.mpr ⟨ab_pc40, List.forall_mem_cons.mpr ⟨ab_pc41, List.forall_mem_cons.mpr ⟨ab_pc42, List.forall_mem_cons.mpr ⟨ab_pc43, List.forall_mem_cons.mpr ⟨ab_pc44, List.forall_mem_cons.mpr ⟨ab_pc45, List.forall_mem_cons.mpr ⟨ab_pc46, List.forall_mem_cons.mpr ⟨ab_pc47, fun _ h => absurd h List.not_mem_nil⟩⟩⟩⟩⟩⟩⟩⟩⟩⟩⟩⟩⟩⟩⟩⟩
def ab_mt_3 : List ab_E := [ab_e48, ab_e49, ab_e50, ab_e51, ab_e52, ab_e53, ab_e54, ab_e55, ab_e56, ab_e57, ab_e58, ab_e59, ab_e60, ab_e61, ab_e62, ab_e63]
theorem ab_pk_3 : ∀ e ∈ ab_mt_3, Cond.code e.1 e.2.1 e.2.2.1 e.2.2.2.1 ∈ lw_tbl := List.forall_mem_cons.mpr ⟨ab_pc48, List.forall_mem_cons.mpr ⟨ab_pc49, List.forall_mem_cons.mpr ⟨ab_pc50, List.forall_mem_cons.mpr ⟨ab_pc51, List.forall_mem_cons.mpr ⟨ab_pc52, List.forall_mem_cons.mpr ⟨ab_pc53, List.forall_mem_cons.mpr ⟨ab_pc54, List.forall_mem_cons.mpr ⟨ab_pc55, List.forall_mem_cons.mpr ⟨ab_pc56, List.forall_mem_cons.mpr ⟨ab_pc57, List.forall_mem_cons.mpr ⟨ab_pc58, List.forall_mem_cons.mpr ⟨ab_pc59, List.forall_mem_cons.mpr ⟨ab_pc60, List.forall_mem_cons.mpr ⟨ab_pc61, List.forall_mem_cons.mpr ⟨ab_pc62, List.forall_mem_cons.mpr ⟨ab_pc63, fun _ h => absurd h List.not_mem_nil⟩⟩⟩⟩⟩⟩⟩⟩⟩⟩⟩⟩⟩⟩⟩⟩
def ab_mt_4 : List ab_E := [ab_e64, ab_e65, ab_e66, ab_e67, ab_e68, ab_e69, ab_e70, ab_e71, ab_e72, ab_e73, ab_e74, ab_e75, ab_e76, ab_e77, ab_e78, ab_e79]
theorem ab_pk_4 : ∀ e ∈ ab_mt_4, Cond.code e.1 e.2.1 e.2.2.1 e.2.2.2.1 ∈ lw_tbl := List.forall_mem_cons.mpr ⟨ab_pc64, List.forall_mem_cons.mpr ⟨ab_pc65, List.forall_mem_cons.mpr ⟨ab_pc66, List.forall_mem_cons.mpr ⟨ab_pc67, List.forall_mem_cons.mpr ⟨ab_pc68, List.forall_mem_cons.mpr ⟨ab_pc69, List.forall_mem_cons.mpr ⟨ab_pc70, List.forall_mem_cons.mpr ⟨ab_pc71, List.forall_mem_cons.mpr ⟨ab_pc72, List.forall_mem_cons.mpr ⟨ab_pc73, List.forall_mem_cons.mpr ⟨ab_pc74, List.forall_mem_cons.mpr ⟨ab_pc75, List.forall_mem_cons.mpr ⟨ab_pc76, List.forall_mem_cons.mpr ⟨ab_pc77, List.forall_mem_cons.mpr ⟨ab_pc78, List.forall_mem_cons.mpr ⟨ab_pc79, fun _ h => absurd h List.not_mem_nil⟩⟩⟩⟩⟩⟩⟩⟩⟩⟩⟩⟩⟩⟩⟩⟩
def ab_mt_5 : List ab_E := [ab_e80, ab_e81, ab_e82, ab_e83, ab_e84, ab_e85, ab_e86, ab_e87, ab_e88, ab_e89, ab_e90, ab_e91, ab_e92, ab_e93, ab_e94, ab_e95]
theorem ab_pk_5 : ∀ e ∈ ab_mt_5, Cond.code e.1 e.2.1 e.2.2.1 e.2.2.2.1 ∈ lw_tbl := List.forall_mem_cons.mpr ⟨ab_pc80, List.forall_mem_cons.mpr ⟨ab_pc81, List.forall_mem_cons.mpr ⟨ab_pc82, List.forall_mem_cons.mpr ⟨ab_pc83, List.forall_mem_cons.mpr ⟨ab_pc84, List.forall_mem_cons.mpr ⟨ab_pc85, List.forall_mem_cons.mpr ⟨ab_pc86, List.forall_mem_cons.mpr ⟨ab_pc87, List.forall_mem_cons.mpr ⟨ab_pc88, List.forall_mem_cons.mpr ⟨ab_pc89, List.forall_mem_cons.mpr ⟨ab_pc90, List.forall_mem_cons.mpr ⟨ab_pc91, List.forall_mem_cons.mpr ⟨ab_pc92, List.forall_mem_cons.mpr ⟨ab_pc93, List.forall_mem_cons.mpr ⟨ab_pc94, List.forall_mem_cons.mpr ⟨ab_pc95, fun _ h => absurd h List.not_mem_nil⟩⟩⟩⟩⟩⟩⟩⟩⟩⟩⟩⟩⟩⟩⟩⟩
def ab_mt_6 : List ab_E := [ab_e96, ab_e97, ab_e98, ab_e99, ab_e100, ab_e101, ab_e102, ab_e103, ab_e104, ab_e105, ab_e106, ab_e107, ab_e108, ab_e109, ab_e110, ab_e111]
theorem ab_pk_6 : ∀ e ∈ ab_mt_6, Cond.code e.1 e.2.1 e.2.2.1 e.2.2.2.1 ∈ lw_tbl := List.forall_mem_cons.mpr ⟨ab_pc96, List.forall_mem_cons.mpr ⟨ab_pc97, List.forall_mem_cons.mpr ⟨ab_pc98, List.forall_mem_cons.mpr ⟨ab_pc99, List.forall_mem_cons.mpr ⟨ab_pc100, List.forall_mem_cons.mpr ⟨ab_pc101, List.forall_mem_cons.mpr ⟨ab_pc102, List.forall_mem_cons.mpr ⟨ab_pc103, List.forall_mem_cons.mpr ⟨ab_pc104, List.forall_mem_cons.mpr ⟨ab_pc105, List.forall_mem_cons.mpr ⟨ab_pc106, List.forall_mem_cons.mpr ⟨ab_pc107, List.forall_mem_cons.mpr ⟨ab_pc108, List.forall_mem_cons.mpr ⟨ab_pc109, List.forall_mem_cons.mpr ⟨ab_pc110, List.forall_mem_cons.mpr ⟨ab_pc111, fun _ h => absurd h List.not_mem_nil⟩⟩⟩⟩⟩⟩⟩⟩⟩⟩⟩⟩⟩⟩⟩⟩
def ab_mt_7 : List ab_E := [ab_e112, ab_e113, ab_e114, ab_e115, ab_e116, ab_e117, ab_e118, ab_e119, ab_e120, ab_e121, ab_e122, ab_e123, ab_e124, ab_e125, ab_e126, ab_e127]
theorem ab_pk_7 : ∀ e ∈ ab_mt_7, Cond.code e.1 e.2.1 e.2.2.1 e.2.2.2.1 ∈ lw_tbl := List.forall_mem_cons.mpr ⟨ab_pc112, List.forall_mem_cons.mpr ⟨ab_pc113, List.forall_mem_cons.mpr ⟨ab_pc114, List.forall_mem_cons.mpr ⟨ab_pc115, List.forall_mem_cons.mpr ⟨ab_pc116, List.forall_mem_cons.mpr ⟨ab_pc117, List.forall_mem_cons.mpr ⟨ab_pc118, List.forall_mem_cons.mpr ⟨ab_pc119, List.forall_mem_cons.mpr ⟨ab_pc120, List.forall_mem_cons.mpr ⟨ab_pc121, List.forall_mem_cons.mpr ⟨ab_pc122, List.forall_mem_cons.mpr ⟨ab_pc123, List.forall_mem_cons.mpr ⟨ab_pc124, List.forall_mem_cons.mpr ⟨ab_pc125, List.forall_mem_cons.mpr ⟨ab_pc126, List.forall_mem_cons.mpr ⟨ab_pc127, fun _ h => absurd h List.not_mem_nil⟩⟩⟩⟩⟩⟩⟩⟩⟩⟩⟩⟩⟩⟩⟩⟩
def ab_mt_8 : List ab_E := [ab_e128, ab_e129, ab_e130, ab_e131, ab_e132, ab_e133, ab_e134, ab_e135, ab_e136, ab_e137, ab_e138, ab_e139, ab_e140, ab_e141, ab_e142, ab_e143]
theorem ab_pk_8 : ∀ e ∈ ab_mt_8, Cond.code e.1 e.2.1 e.2.2.1 e.2.2.2.1 ∈ lw_tbl := List.forall_mem_cons.mpr ⟨ab_pc128, List.forall_mem_cons.mpr ⟨ab_pc129, List.forall_mem_cons.mpr ⟨ab_pc130, List.forall_mem_cons.mpr ⟨ab_pc131, List.forall_mem_cons.mpr ⟨ab_pc132, List.forall_mem_cons.mpr ⟨ab_pc133, List.forall_mem_cons.mpr ⟨ab_pc134, List.forall_mem_cons.mpr ⟨ab_pc135, List.forall_mem_cons.mpr ⟨ab_pc136, List.forall_mem_cons.mpr ⟨ab_pc137, List.forall_mem_cons.mpr ⟨ab_pc138, List.forall_mem_cons.mpr ⟨ab_pc139, List.forall_mem_cons.mpr ⟨ab_pc140, List.forall_mem_cons.mpr ⟨ab_pc141, List.forall_mem_cons.mpr ⟨ab_pc142, List.forall_mem_cons.mpr ⟨ab_pc143, fun _ h => absurd h List.not_mem_nil⟩⟩⟩⟩⟩⟩⟩⟩⟩⟩⟩⟩⟩⟩⟩⟩
def ab_mt_9 : List ab_E := [ab_e144, ab_e145, ab_e146, ab_e147, ab_e148, ab_e149, ab_e150, ab_e151, ab_e152, ab_e153, ab_e154, ab_e155, ab_e156, ab_e157, ab_e158, ab_e159]
theorem ab_pk_9 : ∀ e ∈ ab_mt_9, Cond.code e.1 e.2.1 e.2.2.1 e.2.2.2.1 ∈ lw_tbl := List.forall_mem_cons.mpr ⟨ab_pc144, List.forall_mem_cons.mpr ⟨ab_pc145, List.forall_mem_cons.mpr ⟨ab_pc146, List.forall_mem_cons.mpr ⟨ab_pc147, List.forall_mem_cons.mpr ⟨ab_pc148, List.forall_mem_cons.mpr ⟨ab_pc149, List.forall_mem_cons.mpr ⟨ab_pc150, List.forall_mem_cons.mpr ⟨ab_pc151, List.forall_mem_cons.mpr ⟨ab_pc152, List.forall_mem_cons.mpr ⟨ab_pc153, List.forall_mem_cons.mpr ⟨ab_pc154, List.forall_mem_cons.mpr ⟨ab_pc155, List.forall_mem_cons.mpr ⟨ab_pc156, List.forall_mem_cons.mpr ⟨ab_pc157, List.forall_mem_cons.mpr ⟨ab_pc158, List.forall_mem_cons.mpr ⟨ab_pc159, fun _ h => absurd h List.not_mem_nil⟩⟩⟩⟩⟩⟩⟩⟩⟩⟩⟩⟩⟩⟩⟩⟩
def ab_mt_10 : List ab_E := [ab_e160, ab_e161, ab_e162, ab_e163, ab_e164, ab_e165, ab_e166, ab_e167, ab_e168, ab_e169, ab_e170, ab_e171, ab_e172, ab_e173, ab_e174, ab_e175]
theorem ab_pk_10 : ∀ e ∈ ab_mt_10, Cond.code e.1 e.2.1 e.2.2.1 e.2.2.2.1 ∈ lw_tbl := List.forall_mem_cons.mpr ⟨ab_pc160, List.forall_mem_cons.mpr ⟨ab_pc161, List.forall_mem_cons.mpr ⟨ab_pc162, List.forall_mem_cons.mpr ⟨ab_pc163, List.forall_mem_cons.mpr ⟨ab_pc164, List.forall_mem_cons.mpr ⟨ab_pc165, List.forall_mem_cons.mpr ⟨ab_pc166, List.forall_mem_cons.mpr ⟨ab_pc167, List.forall_mem_cons.mpr ⟨ab_pc168, List.forall_mem_cons.mpr ⟨ab_pc169, List.forall_mem_cons.mpr ⟨ab_pc170, List.forall_mem_cons.mpr ⟨ab_pc171, List.forall_mem_cons.mpr ⟨ab_pc172, List.forall_mem_cons.mpr ⟨ab_pc173, List.forall_mem_cons.mpr ⟨ab_pc174, List.forall_mem_cons.mpr ⟨ab_pc175, fun _ h => absurd h List.not_mem_nil⟩⟩⟩⟩⟩⟩⟩⟩⟩⟩⟩⟩⟩⟩⟩⟩
def ab_mt_11 : List ab_E := [ab_e176, ab_e177, ab_e178, ab_e179, ab_e180, ab_e181, ab_e182, ab_e183, ab_e184, ab_e185, ab_e186, ab_e187, ab_e188, ab_e189, ab_e190, ab_e191]
theorem ab_pk_11 : ∀ e ∈ ab_mt_11, Cond.code e.1 e.2.1 e.2.2.1 e.2.2.2.1 ∈ lw_tbl := List.forall_mem_cons.mpr ⟨ab_pc176, List.forall_mem_cons.mpr ⟨ab_pc177, List.forall_mem_cons.mpr ⟨ab_pc178, List.forall_mem_cons.mpr ⟨ab_pc179, List.forall_mem_cons.mpr ⟨ab_pc180, List.forall_mem_cons.mpr ⟨ab_pc181, List.forall_mem_cons.mpr ⟨ab_pc182, List.forall_mem_cons.mpr ⟨ab_pc183, List.forall_mem_cons.mpr ⟨ab_pc184, List.forall_mem_cons.mpr ⟨ab_pc185, List.forall_mem_cons.mpr ⟨ab_pc186, List.forall_mem_cons.mpr ⟨ab_pc187, List.forall_mem_cons.mpr ⟨ab_pc188, List.forall_mem_cons.mpr ⟨ab_pc189, List.forall_mem_cons.mpr ⟨ab_pc190, List.forall_mem_cons.mpr ⟨ab_pc191, fun _ h => absurd h List.not_mem_nil⟩⟩⟩⟩⟩⟩⟩⟩⟩⟩⟩⟩⟩⟩⟩⟩
def ab_mt_12 : List ab_E := [ab_e192]
theorem ab_pk_12 : ∀ e ∈ ab_mt_12, Cond.code e.1 e.2.1 e.2.2.1 e.2.2.2.1 ∈ lw_tbl := List.forall_mem_cons.mpr ⟨ab_pc192, fun _ h => absurd h List.not_mem_nil⟩
set_option maxRecDepth 20000 in
theorem ab_mt_cut : ab_mt.take 193 = ab_mt_0 ++ ab_mt_1 ++ ab_mt_2 ++ ab_mt_3 ++ ab_mt_4 ++ ab_mt_5 ++ ab_mt_6 ++ ab_mt_7 ++ ab_mt_8 ++ ab_mt_9 ++ ab_mt_10 ++ ab_mt_11 ++ ab_mt_12 := rfl
theorem ab_codes : ∀ e ∈ ab_mt.take 193, Cond.code e.1 e.2.1 e.2.2.1 e.2.2.2.1 ∈ lw_tbl := by
  rw [ab_mt_cut]
  intro e h
  simp only [List.mem_append] at h
  rcases h with (((((((((((h | h) | h) | h) | h) | h) | h) | h) | h) | h) | h) | h) | h
  · exact ab_pk_0 e h
  · exact ab_pk_1 e h
  · exact ab_pk_2 e h
  · exact ab_pk_3 e h
  · exact ab_pk_4 e h
  · exact ab_pk_5 e h
  · exact ab_pk_6 e h
  · exact ab_pk_7 e h
  · exact ab_pk_8 e h
  · exact ab_pk_9 e h
  · exact ab_pk_10 e h
  · exact ab_pk_11 e h
  · exact ab_pk_12 e h
theorem ab_mt_spec {M : Nat} {e : ab_E} (hM : M < 193) (h : ab_mt[M]? = some e) : Cond.code e.1 e.2.1 e.2.2.1 e.2.2.2.1 ∈ lw_tbl := ab_codes e (List.mem_of_getElem? (i := M) (by rw [List.getElem?_take_of_lt hM]; exact h))
theorem ab_w_math : Cond.static Lib.Math.max.name ∈ lw_tbl ∧ Cond.static Lib.Math.min.name ∈ lw_tbl ∧ Cond.static Lib.Math.abs.name ∈ lw_tbl ∧ Cond.initialized "java/lang/Math" ∈ lw_tbl := by decide +kernel
theorem ab_w_max : Cond.code Lib.Math.max.name Lib.Math.max.code 2 (some .int) ∈ lw_tbl := ab_mt_spec (M := 56) (by decide) rfl
theorem ab_w_min : Cond.code Lib.Math.min.name Lib.Math.min.code 2 (some .int) ∈ lw_tbl := ab_mt_spec (M := 46) (by decide) rfl
theorem ab_w_abs : Cond.code Lib.Math.abs.name Lib.Math.abs.code 1 (some .int) ∈ lw_tbl := ab_mt_spec (M := 50) (by decide) rfl
theorem ab_clsA : ∀ (ci : Nat) (r : vw_C), vwCl[ci]? = some r → (∀ w ∈ u_ws r.1 r.2.1 r.2.2, w ∈ lw_tbl) ∧ (∃ ty0 : Nat → FieldType, ∀ k, k < r.2.2 → parseFieldDescriptor (r.2.1 k).2.2.1 = some (ty0 k)) ∧ (∀ a, a < r.2.2 → ∀ b, b < r.2.2 → a ≠ b → (r.2.1 a).2.1 ≠ (r.2.1 b).2.1)
  | 0, _, h => by cases h; exact ⟨ab_iX0, ⟨tyX0, tyX0_ok⟩, nmX0⟩
  | 1, _, h => by cases h; exact ⟨ab_iX1, ⟨tyX1, tyX1_ok⟩, nmX1⟩
  | 2, _, h => by cases h; exact ⟨ab_iX2, ⟨tyX2, tyX2_ok⟩, nmX2⟩
  | 3, _, h => by cases h; exact ⟨ab_iX3, ⟨tyX3, tyX3_ok⟩, nmX3⟩
  | 4, _, h => by cases h; exact ⟨ab_iX4, ⟨tyX4, tyX4_ok⟩, nmX4⟩
  | k + 5, _, h => by simp [vwCl] at h
