/-! the law's start -/
def R_law : String := "AbsentPostLaw"
def lw_P (b : Addr) (xs : List Int32) (args : Array Value) (s : State) : Prop := args = #[.ref b] ∧ s.IntsAt b xs ∧ xs.length ≤ 384 ∧ (Jvm.Cond.and given_1 narrow_1).before args s = true
def lw_Q (_ : Array Value) (s : State) (o : Outcome) (t : State) : Prop := o = .returned (some (.int 1)) ∧ Framed s o t [] 600000 7302250
def lw_Z (below : List Frame) (a : Array Value) (s : State) : State → Prop := fun t => ∃ o, t.status = .running ∧ Ended t below o ∧ lw_Q a s o t
/-- the law's own end, with 1 on the stack, nothing written that was there before, its room as the claim has it -/
theorem lw_ret {p : Program} {l : Launch} {e : Env} {s : State} {m : MethodId} {below : List Frame} {meth : Method} {c : Code} {b : Nat} (hx : p.tables.exec = Jvm.exec) (hb : c.code = code) (hr : meth.sig.returnType = ret) (hlocks : meth.locks = false) {pc : Nat} {H : Heap} {ls : Array Slot} (hdg : decode code pc = .ok (.ireturn, 1)) : W p l e room_1 s m #[Value.ref b] below meth c H [] 600000 7302250 (lw_Z below #[Value.ref b] s) (F0 m pc ls [.int 1]) := by
  intro T hT X
  obtain ⟨fs, hret, hrun, hended, hW, hframe⟩ := X.leave (v := some (.int 1)) (hlocks := hlocks) (fun h => by rw [hr] at h; cases h)
  have hmeth' : T.vm.method? m = some meth := X.method'
  refine ⟨T.setFrames fs, ?_, .returned (some (.int 1)), hrun, hended, rfl, ⟨_, rfl⟩, hW, hframe⟩
  jvm_step X.here [X.here.top, hx, hb, hdg, hmeth', hr, ret, narrow_b1]
  (try refine ⟨rfl, ?_⟩); (try refine ⟨rfl, ?_⟩)
  first | (intro acts; rw [hret _ acts rfl rfl rfl]) | rw [hret _ _ rfl rfl rfl]
  exact Steps.refl _
/-- what holds at the law's entry: the machine, the code, the tables' words (any of lw_tbl by 'hts w (by decide +kernel)'), the script of L ints xs at the cell b, what the Statement gives of the start (any of its parts by flat_of_before) -/
def lw_At (p : Program) (s : State) (m : MethodId) (meth : Method) (c : Code) (b L : Nat) (xs : Nat → Int32) : Prop :=
  p.tables.exec = Jvm.exec ∧ c.code = code ∧ meth.sig.returnType = ret ∧ c.maxLocals = 4 ∧ s.vm.findClass R_law = some m.cls ∧ (∀ w ∈ lw_tbl, w.before #[Value.ref b] s = true) ∧ va_X b L xs s s.heap ∧ b < s.heap.size ∧ meth.locks = false ∧ (Jvm.Cond.and given_1 narrow_1).before #[Value.ref b] s = true
theorem ks_arr {s : State} {cl : ClassId} {k : Class} {comp : ClassId} {ty : FieldType} (h1 : s.vm.classes[cl]? = some k) (h2 : k.kind = .array comp ty) : ArrOfT s cl ty := fun _ _ => ⟨(fun _ h => by cases h), k, h1, comp, h2⟩
set_option maxRecDepth 20000 in
theorem ks_known {args : Array Value} {s : State} (hts : ∀ w ∈ lw_tbl, w.before args s = true) : ∃ (D : va_G) (cA : Nat → ClassId), va_K D vwCl (ab_ty cA) s ∧ ck_X s := by
  obtain ⟨c0, i0, k0'⟩ := u_known (ws := lw_tbl) hts ab_iX0 (hts (Cond.instantiable RX0 10) (by decide +kernel))
  obtain ⟨c1, i1, k1'⟩ := u_known (ws := lw_tbl) hts ab_iX1 (hts (Cond.instantiable RX1 2) (by decide +kernel))
  obtain ⟨c2, i2, k2'⟩ := u_known (ws := lw_tbl) hts ab_iX2 (hts (Cond.instantiable RX2 12) (by decide +kernel))
  obtain ⟨c3, i3, k3'⟩ := u_known (ws := lw_tbl) hts ab_iX3 (hts (Cond.instantiable RX3 15) (by decide +kernel))
  obtain ⟨c4, i4, k4'⟩ := u_known (ws := lw_tbl) hts ab_iX4 (hts (Cond.instantiable RX4 25) (by decide +kernel))
  obtain ⟨a0, q0, p0, f0, g0, e0⟩ := Cond.arrayClass_spec (hts (Cond.arrayClass .int) (by decide +kernel))
  obtain ⟨a1, q1, p1, f1, g1, e1⟩ := Cond.arrayClass_spec (hts (Cond.arrayClass .byte) (by decide +kernel))
  obtain ⟨a2, q2, p2, f2, g2, e2⟩ := Cond.arrayClass_spec (hts (Cond.arrayClass .long) (by decide +kernel))
  obtain ⟨p3, a3, q3, -, -, g3, e3, f3⟩ := arrayOverA_spec (hts _ wk_ao3)
  obtain ⟨p4, a4, q4, -, -, g4, e4, f4⟩ := arrayOverA_spec (hts _ wk_ao4)
  obtain ⟨p5, a5, q5, d5, -, g5, e5, f5⟩ := Cond.arrayOver_spec (hts _ wk_ao5)
  refine ⟨(fun k => [c0, c1, c2, c3, c4].getD k c0, fun k => [i0, i1, i2, i3, i4].getD k i0), fun k => [a0, a1, a2, a3, a4, a5].getD k a0, ⟨fun c q hq => ?_, fun k q hk => ?_⟩, va_AO.of (hts _ wk_ao5), over_moved (Vm.Alike.refl s.vm) (hts _ wk_ao3), over_moved (Vm.Alike.refl s.vm) (hts _ wk_ao4)⟩
  · match c, hq with
    | 0, hq => cases hq; exact k0'
    | 1, hq => cases hq; exact k1'
    | 2, hq => cases hq; exact k2'
    | 3, hq => cases hq; exact k3'
    | 4, hq => cases hq; exact k4'
  · match k, hk with
    | 0, hk => cases hk; exact ⟨ks_arr g0 e0, f0⟩
    | 1, hk => cases hk; exact ⟨ks_arr g1 e1, f1⟩
    | 2, hk => cases hk; exact ⟨ks_arr g2 e2, f2⟩
    | 3, hk => cases hk; exact ⟨ks_arr g3 e3, f3⟩
    | 4, hk => cases hk; exact ⟨ks_arr g4 e4, f4⟩
    | 5, hk => cases hk; exact ⟨ks_arr g5 e5, q5, p5, g5, e5, d5, f5⟩
theorem ks_kl {args : Array Value} {s : State} {A : Nat → Prop} (hg : (Jvm.Cond.and given_1 narrow_1).before args s = true) (hts : ∀ w ∈ lw_tbl, w.before args s = true) (hA : ∀ a : Nat, a < s.heap.size → ¬ A a) : ∃ t : Nat, va_Z "AbsentPost" "KIND_LETTERS" "[I" (.ref t) A s s.heap ∧ va_T .int t 6 (fun j => .int (ab_kl j)) A s s.heap := by
  have hs := flat_of_before _ hg
  obtain ⟨t, ht, hT⟩ := va_Tof (tm := .static "AbsentPost" "KIND_LETTERS" "[I") (ty := .int) (N := 6) (f := fun j => .int (ab_kl j)) (A := A) (by decide) (hs _ (by decide +kernel)) (va_eqt (z := 6) (hs _ (by decide +kernel))) (fun j hj => by
    match j, hj with
    | 0, _ => exact va_eqt (hs (Cond.eq (.elem (.static "AbsentPost" "KIND_LETTERS" "[I") (.int 0)) (.int 104)) (by decide +kernel))
    | 1, _ => exact va_eqt (hs (Cond.eq (.elem (.static "AbsentPost" "KIND_LETTERS" "[I") (.int 1)) (.int 105)) (by decide +kernel))
    | 2, _ => exact va_eqt (hs (Cond.eq (.elem (.static "AbsentPost" "KIND_LETTERS" "[I") (.int 2)) (.int 102)) (by decide +kernel))
    | 3, _ => exact va_eqt (hs (Cond.eq (.elem (.static "AbsentPost" "KIND_LETTERS" "[I") (.int 3)) (.int 116)) (by decide +kernel))
    | 4, _ => exact va_eqt (hs (Cond.eq (.elem (.static "AbsentPost" "KIND_LETTERS" "[I") (.int 4)) (.int 115)) (by decide +kernel))
    | 5, _ => exact va_eqt (hs (Cond.eq (.elem (.static "AbsentPost" "KIND_LETTERS" "[I") (.int 5)) (.int 100)) (by decide +kernel))) hA
  exact ⟨t, va_Zof (hts (Cond.laysStatic "AbsentPost" "KIND_LETTERS" "[I") (by decide +kernel)) (hts (Cond.initialized "AbsentPost") (by decide +kernel)) ht hA, hT⟩
theorem dk193_0 : decode code 0 = .ok (.new 7, 3) := by decide +kernel
theorem dk193_3 : decode code 3 = .ok (.dup, 1) := by decide +kernel
theorem dk193_4 : decode code 4 = .ok (.invokespecial 9, 3) := by decide +kernel
theorem dk193_7 : decode code 7 = .ok (.astore_n 1, 1) := by decide +kernel
theorem dk193_8 : decode code 8 = .ok (.new 10, 3) := by decide +kernel
theorem dk193_11 : decode code 11 = .ok (.dup, 1) := by decide +kernel
theorem dk193_12 : decode code 12 = .ok (.invokespecial 12, 3) := by decide +kernel
theorem dk193_15 : decode code 15 = .ok (.astore_n 2, 1) := by decide +kernel
section
variable {p : Program} {l : Launch} {e : Env} {R : Room} {s : State} {m : MethodId} {args : Array Value} {below : List Frame} {meth : Method} {c : Code} {H : Heap} {locs : List Loc} {cells slots : Nat} {Q : State → Prop}
variable {D : va_G} {cA : Nat → ClassId} {A : Nat → Prop} {cc : ByteArray} {nL o pc : Nat} {ls : Array Slot} {rest : List Value} {h0 ci : Nat} {fs : List Value} {tl ws wr : va_W}
theorem ck_call0 (C : ck_C p s m args c cc nL o D cA) (hX : ck_X s) {q : Nat} (h : ck_W D A s (wr ++ [(q, (.inr (3, [.null, .null, .null, .null, .null, .null, .null, .null, .null, .null, .null, .int 0, .int 0, .long 0, .long 0])))]) H locs) (hsz : ls.size = nL) {idx : Nat} (hini : Cond.initialized ab_e0.1.cls ∈ ab_tb) (hlk : Cond.methodLink (ab_onm o) idx ab_e0.1 ∈ ab_tb) (him : Cond.instanceMethod ab_e0.1 ∈ ab_tb) (hR : rmA.frames + 1 ≤ R.frames ∧ 8 + (ab_e0.2.2.1 + 11) + rmA.locals ≤ R.locals) (hw : (rest.map fun v => v.category).sum ≤ 8) (hf : cells + rmA.cells ≤ R.cells ∧ slots + rmA.slots ≤ R.slots) (hdg : decode cc pc = .ok (.invokespecial idx, 3))
    (kk : ∀ (u : Nat → Nat) (H1 : Heap) (locs1 : List Loc), ck_W D A s (wr ++ cw0 cA q u) H1 locs1 → W p l e R s m args below meth c H1 locs1 (cells + rmA.cells) (slots + rmA.slots) Q (F0 m (pc + 3) ls rest)) : W p l e R s m args below meth c H locs cells slots Q (F0 m pc ls (.ref q :: rest)) := by
  obtain ⟨hx, hb, hml, hown, hts, hK⟩ := C
  obtain ⟨hP, hD, hS, hA⟩ := h
  have hi : (wr ++ [(q, (.inr (3, [.null, .null, .null, .null, .null, .null, .null, .null, .null, .null, .null, .int 0, .int 0, .long 0, .long 0])))])[wr.length]? = some (q, (.inr (3, [.null, .null, .null, .null, .null, .null, .null, .null, .null, .null, .null, .int 0, .int 0, .long 0, .long 0]))) := by simp
  have hPc := hP.sub (ws' := [(q, (.inr (3, [.null, .null, .null, .null, .null, .null, .null, .null, .null, .null, .null, .int 0, .int 0, .long 0, .long 0])))]) [wr.length] (by simp)
  have hDc := hD.sub (ws' := [(q, (.inr (3, [.null, .null, .null, .null, .null, .null, .null, .null, .null, .null, .null, .int 0, .int 0, .long 0, .long 0])))]) [wr.length] (ck_nd (by simp)) (by simp)
  have hFc := va_free (wc := [(q, (.inr (3, [.null, .null, .null, .null, .null, .null, .null, .null, .null, .null, .null, .int 0, .int 0, .long 0, .long 0])))]) hD hS hA [wr.length] (by simp)
  have cw : CallB R s args (ab_onm o) idx ab_e0.1 ab_e0.2.1 ab_e0.2.2.1 none (Cond.code ab_e0.1 ab_e0.2.1 ab_e0.2.2.1 ab_e0.2.2.2.1 :: ab_tb) rmA rmA.cells rmA.slots 0 := by
    have := callB_of (R := R) (rm := rmA) (own := ab_onm o) (index := idx) 0 hts (ab_goodIn (M := 0) (by decide) rfl) rfl rfl rfl (hts _ hini) (hts _ hlk) ⟨by decide +kernel, by decide +kernel, by decide +kernel⟩ hR
    exact this
  refine va_callv (va_runI (As := []) (rest := rest) ⟨hx, hb, hml, hown, hts⟩ (cn0 l D cA q H.size) ⟨cw, rfl, hts _ him⟩ ⟨fun a U g mk z => ?_, fun U hU hW => ⟨rfl, by rw [hU], by rw [hU]; exact hPc, ⟨va_K.moved hW.alike hK, ck_X_m hW.alike hX⟩, hDc.weaken (fun _ _ _ _ => trivial)⟩⟩ rfl rfl hsz rfl (lv_room hw) hdg hf) hS (fun x _ z => hFc x z) hFc (fun u t H1 locs1 ht hvm _ hB hz1 hk1 hS1 => ?_)
  · obtain ⟨z0, z1, zP, ⟨zK, zX⟩, zD⟩ := z
    exact ⟨z0, z1, zP, ⟨va_K.moved (u := U) (U := U.calling g mk a) (Vm.Alike.refl U.vm) zK, ck_X_m (u := U) (U := U.calling g mk a) (Vm.Alike.refl U.vm) zX⟩, zD⟩
  · obtain ⟨hP1, hD1⟩ := hB
    rw [ht] at hP1
    obtain ⟨hP2, hD2⟩ := ck_join hP hD hk1 hFc hP1 hD1
    exact kk u H1 locs1 ⟨hP2, hD2, hS1, hA⟩
end
