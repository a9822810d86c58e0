/-! constructors: rows over a world, with the classes of its arrays known -/
theorem ck_wI : Cond.arrayClass .int ∈ ab_tb := ab_tb_in (by decide +kernel) rfl
theorem ck_wB : Cond.arrayClass .byte ∈ ab_tb := ab_tb_in (by decide +kernel) rfl
theorem ck_wJ : Cond.arrayClass .long ∈ ab_tb := ab_tb_in (by decide +kernel) rfl
theorem ck_nd : ∀ {l : List Nat}, l.Nodup → va_nd l = true
  | [], _ => rfl
  | a :: l, h => by
    unfold va_nd
    rw [Bool.and_eq_true]
    exact ⟨decide_eq_true (List.nodup_cons.mp h).1, ck_nd (List.nodup_cons.mp h).2⟩
theorem ck_join {A0 : Nat → Prop} {D : va_G} {cl : List vw_C} {wr w1 : va_W} {q : Nat} {e0 : va_E} {H H1 : Heap} (hP : va_P D cl (wr ++ [(q, e0)]) H) (hD : va_D A0 (wr ++ [(q, e0)])) (hk : ∀ x : Nat, x < H.size → ¬ va_A [(q, e0)] H.size x → H1[x]? = H[x]?) (hF : ∀ x, va_A [(q, e0)] H.size x → A0 x) (hP1 : va_P D cl w1 H1) (hD1 : va_D (va_A [(q, e0)] H.size) w1) : va_P D cl (wr ++ w1) H1 ∧ va_D A0 (wr ++ w1) := by
  refine va_join (wc := [(q, e0)]) hP hD [wr.length] (List.range wr.length) (by simp) ?_ (ck_nd List.nodup_range) (fun i hi hc => ?_) hk hF hP1 hD1
  · apply List.ext_getElem?
    intro i
    rw [List.getElem?_map, List.getElem?_map]
    by_cases h : i < wr.length
    · rw [List.getElem?_range h, Option.map_some, List.getElem?_append_left h, List.getElem?_eq_getElem h, Option.map_some]
    · rw [List.getElem?_eq_none (by rw [List.length_range]; omega), List.getElem?_eq_none (by omega)]
      rfl
  · have h1 := List.mem_range.mp hi
    rw [List.mem_singleton] at hc
    omega
section
variable {p : Program} {l : Launch} {e : Env} {R : Room} {s : State} {m : MethodId} {args : Array Value} {below : List Frame} {meth : Method} {c : Code} {H : Heap} {locs : List Loc} {cells slots : Nat} {Q : State → Prop}
variable {D : va_G} {cA : Nat → ClassId} {A : Nat → Prop} {cc : ByteArray} {nL o pc : Nat} {ls : Array Slot} {rest : List Value} {h0 ci : Nat} {fs : List Value} {tl ws wr : va_W}
/-- the method, its tables -/
def ck_C (p : Program) (s : State) (m : MethodId) (args : Array Value) (c : Code) (cc : ByteArray) (nL o : Nat) (D : va_G) (cA : Nat → ClassId) : Prop := p.tables.exec = Jvm.exec ∧ c.code = cc ∧ c.maxLocals = nL ∧ s.vm.findClass (ab_onm o) = some m.cls ∧ (∀ w ∈ ab_tb, w.before args s = true) ∧ va_K D vwCl (ab_ty cA) s
/-- the world -/
def ck_W (D : va_G) (A : Nat → Prop) (s : State) (ws : va_W) (H : Heap) (locs : List Loc) : Prop := va_P D vwCl ws H ∧ va_D A ws ∧ va_S A s.heap H locs ∧ ∀ q, s.heap.size ≤ q → A q
theorem ck_newI (C : ck_C p s m args c cc nL o D cA) (h : ck_W D A s ws H locs) {n : Int32} {N : Nat} (hn : n = nI N) (hN : N < 100000) (hcells : cells + 1 ≤ R.cells) (hslots : slots + N ≤ R.slots) (hdg : decode cc pc = .ok (.newarray .int, 2))
    (kk : ∀ (q : Nat) (H1 : Heap), ck_W D A s (ws ++ [(q, .inl (cA 0, N, .inl (fun _ => 0)))]) H1 locs → W p l e R s m args below meth c H1 locs (cells + 1) (slots + N) Q (F0 m (pc + 2) ls (.ref q :: rest))) : W p l e R s m args below meth c H locs cells slots Q (F0 m pc ls (.int n :: rest)) := by
  obtain ⟨hx, hb, hml, hown, hts, hK⟩ := C
  obtain ⟨hP, hD, hS, hA⟩ := h
  subst hn
  refine va_newa (atype := .int) (ty := .int) (a0 := (N, .inl (fun _ => 0))) hx hb (hts _ ck_wI) rfl hK hP hD hS hA (fun _ => rfl) (nI_pos (by omega)) (z_cl (by omega)) (by show N * 4 ≤ _; omega) hcells hslots hdg (fun q c1 H1 hK1 hP1 hD1 hS1 => ?_)
  have e1 : s.vm.findClass ("[" ++ FieldType.int.toString) = some c1 := (hK1.2 6 (c1, .int) rfl).2
  have e2 : s.vm.findClass ("[" ++ FieldType.int.toString) = some (cA 0) := (hK.2 0 (cA 0, .int) rfl).2
  cases Option.some.inj (e1.symm.trans e2)
  exact kk q H1 ⟨hP1, hD1, hS1, hA⟩
theorem ck_newJ (C : ck_C p s m args c cc nL o D cA) (h : ck_W D A s ws H locs) {n : Int32} {N : Nat} (hn : n = nI N) (hN : N < 100000) (hcells : cells + 1 ≤ R.cells) (hslots : slots + N ≤ R.slots) (hdg : decode cc pc = .ok (.newarray .long, 2))
    (kk : ∀ (q : Nat) (H1 : Heap), ck_W D A s (ws ++ [(q, .inl (cA 2, N, .inr (.inl (fun _ => 0))))]) H1 locs → W p l e R s m args below meth c H1 locs (cells + 1) (slots + N) Q (F0 m (pc + 2) ls (.ref q :: rest))) : W p l e R s m args below meth c H locs cells slots Q (F0 m pc ls (.int n :: rest)) := by
  obtain ⟨hx, hb, hml, hown, hts, hK⟩ := C
  obtain ⟨hP, hD, hS, hA⟩ := h
  subst hn
  refine va_newa (atype := .long) (ty := .long) (a0 := (N, .inr (.inl (fun _ => 0)))) hx hb (hts _ ck_wJ) rfl hK hP hD hS hA (fun _ => rfl) (nI_pos (by omega)) (z_cl (by omega)) (by show N * 8 ≤ _; omega) hcells hslots hdg (fun q c1 H1 hK1 hP1 hD1 hS1 => ?_)
  have e1 : s.vm.findClass ("[" ++ FieldType.long.toString) = some c1 := (hK1.2 6 (c1, .long) rfl).2
  have e2 : s.vm.findClass ("[" ++ FieldType.long.toString) = some (cA 2) := (hK.2 2 (cA 2, .long) rfl).2
  cases Option.some.inj (e1.symm.trans e2)
  exact kk q H1 ⟨hP1, hD1, hS1, hA⟩
theorem ck_in {ci : Nat} {r : vw_C} (h : vwCl[ci]? = some r) : ∀ z ∈ u_ws r.1 r.2.1 r.2.2, z ∈ ab_tb := fun z hz => ab_tb_in ((ab_clsA _ _ h).1 z hz) (by obtain ⟨k, -, rfl⟩ := List.mem_map.mp hz; unfold u_lay; split <;> rfl)
theorem ck_putF (C : ck_C p s m args c cc nL o D cA) (hin : meth.name = "<init>") (h : ck_W D A s ((h0, .inr (ci, fs)) :: tl) H locs) {idx k z : Nat} {v : Value} {ty : FieldType} {r : vw_C} (hf : ab_fl o idx = some (ci, k, z)) (hr : vwCl[ci]? = some r) (hfin : (r.2.1 k).2.2.2 = true ∧ (r.2.1 k).1 = ab_onm o ∧ parseFieldDescriptor (r.2.1 k).2.2.1 = some ty) (hn : narrow ty v = v) (hfit : fits ty v = true) (hl : k < fs.length) (hdg : decode cc pc = .ok (.putfield idx, 3))
    (kk : ∀ (H1 : Heap) (locs1 : List Loc), ck_W D A s ((h0, .inr (ci, fs.set k v)) :: tl) H1 locs1 → W p l e R s m args below meth c H1 locs1 cells slots Q (F0 m (pc + 3) ls rest)) : W p l e R s m args below meth c H locs cells slots Q (F0 m pc ls (v :: .ref h0 :: rest)) := by
  obtain ⟨hx, hb, hml, hown, hts, hK⟩ := C
  obtain ⟨hP, hD, hS, hA⟩ := h
  obtain ⟨rr, hrr, hj, -, hlk, -, -⟩ := ab_fl_spec hf
  dsimp only at hrr hj hlk
  have er : rr = r := Option.some.inj (hrr.symm.trans hr)
  subst er
  obtain ⟨-, ⟨ty0, hty⟩, hnm⟩ := ab_clsA _ _ hr
  exact va_putF (C := rr.1) (T := rr.2.1) (N := rr.2.2) (ci := ci) (ref := (rr.2.1 k).1) hx hb hts (ck_in hr) ty0 hty hnm hown hK hP hD hS 0 rfl hr k hj (hts _ (ab_tb_in hlk rfl)) (fun _ z => z) hfin.1 hin hfin.2.1 hfin.2.2 hn hfit hl hdg (fun H1 locs1 hP1 hD1 hS1 => kk H1 locs1 ⟨hP1, hD1, hS1, hA⟩)
theorem ck_put (C : ck_C p s m args c cc nL o D cA) (h : ck_W D A s ((h0, .inr (ci, fs)) :: tl) H locs) {idx k z : Nat} {v : Value} {ty : FieldType} {r : vw_C} (hf : ab_fl o idx = some (ci, k, z)) (hr : vwCl[ci]? = some r) (hfin : (r.2.1 k).2.2.2 = false ∧ parseFieldDescriptor (r.2.1 k).2.2.1 = some ty) (hn : narrow ty v = v) (hfit : fits ty v = true) (hl : k < fs.length) (hdg : decode cc pc = .ok (.putfield idx, 3))
    (kk : ∀ (H1 : Heap) (locs1 : List Loc), ck_W D A s ((h0, .inr (ci, fs.set k v)) :: tl) H1 locs1 → W p l e R s m args below meth c H1 locs1 cells slots Q (F0 m (pc + 3) ls rest)) : W p l e R s m args below meth c H locs cells slots Q (F0 m pc ls (v :: .ref h0 :: rest)) := by
  obtain ⟨hx, hb, hml, hown, hts, hK⟩ := C
  obtain ⟨hP, hD, hS, hA⟩ := h
  obtain ⟨rr, hrr, hj, -, hlk, -, -⟩ := ab_fl_spec hf
  dsimp only at hrr hj hlk
  have er : rr = r := Option.some.inj (hrr.symm.trans hr)
  subst er
  obtain ⟨-, ⟨ty0, hty⟩, hnm⟩ := ab_clsA _ _ hr
  exact va_put (C := rr.1) (T := rr.2.1) (N := rr.2.2) (ci := ci) (ref := (rr.2.1 k).1) hx hb hts (ck_in hr) ty0 hty hnm hown hK hP hD hS 0 rfl hr k hj (hts _ (ab_tb_in hlk rfl)) (fun _ z => z) hfin.1 hfin.2 hn hfit hl hdg (fun H1 locs1 hP1 hD1 hS1 => kk H1 locs1 ⟨hP1, hD1, hS1, hA⟩)
theorem ck_get (C : ck_C p s m args c cc nL o D cA) (h : ck_W D A s ((h0, .inr (ci, fs)) :: tl) H locs) {idx k z : Nat} {v : Value} (hf : ab_fl o idx = some (ci, k, z)) (hv : fs[k]? = some v) (hdg : decode cc pc = .ok (.getfield idx, 3))
    (kk : W p l e R s m args below meth c H locs cells slots Q (F0 m (pc + 3) ls (v :: rest))) : W p l e R s m args below meth c H locs cells slots Q (F0 m pc ls (.ref h0 :: rest)) := by
  obtain ⟨hx, hb, hml, hown, hts, hK⟩ := C
  obtain ⟨hP, hD, hS, hA⟩ := h
  obtain ⟨r, hr, hj, -, hlk, -, -⟩ := ab_fl_spec hf
  dsimp only at hr hj hlk
  exact va_get (C := r.1) (T := r.2.1) (N := r.2.2) (ci := ci) (ref := (r.2.1 k).1) hx hb hts (ck_in hr) hown hK hP 0 rfl hr k hj (hts _ (ab_tb_in hlk rfl)) (fun _ z => z) hv hdg kk
theorem ck_new (C : ck_C p s m args c cc nL o D cA) (h : ck_W D A s ws H locs) {idx cj : Nat} {r : vw_C} {ty0 : Nat → FieldType} {gs : List Value} (hr : vwCl[cj]? = some r) (hty : ∀ k, k < r.2.2 → parseFieldDescriptor (r.2.1 k).2.2.1 = some (ty0 k)) (hgs : ∀ j, j < r.2.2 → defaultValue (ty0 j) = vp_V gs j) (hcl : Cond.classLink (ab_onm o) idx r.1 ∈ ab_tb) (hins : Cond.instantiable r.1 r.2.2 ∈ ab_tb) (hini : Cond.initialized r.1 ∈ ab_tb) (hcells : cells + 1 ≤ R.cells) (hslots : slots + r.2.2 ≤ R.slots) (hdg : decode cc pc = .ok (.new idx, 3))
    (kk : ∀ (q : Nat) (H1 : Heap), ck_W D A s (ws ++ [(q, .inr (cj, gs))]) H1 locs → W p l e R s m args below meth c H1 locs (cells + 1) (slots + r.2.2) Q (F0 m (pc + 3) ls (.ref q :: rest))) : W p l e R s m args below meth c H locs cells slots Q (F0 m pc ls rest) := by
  obtain ⟨hx, hb, hml, hown, hts, hK⟩ := C
  obtain ⟨hP, hD, hS, hA⟩ := h
  exact va_new (C := r.1) (T := r.2.1) (N := r.2.2) (ci := cj) hx hb hts (ck_in hr) ty0 hty hown (hts _ hcl) (hts _ hins) (hts _ hini) hK hP hD hS hA hr hgs hcells hslots hdg (fun q H1 hP1 hD1 hS1 => kk q H1 ⟨hP1, hD1, hS1, hA⟩)
/-- a constructor's contract: one cell e0 becomes the world w1 -/
def ck_Ct (l : Launch) (D : va_G) (cA : Nat → ClassId) (E : ab_E) (rm : Room) (e0 : va_E) (w1 : Nat → (Nat → Nat) → va_W) : Prop := ∀ h0 sz : Nat, Met l E.1 (Cond.code E.1 E.2.1 E.2.2.1 E.2.2.2.1 :: ab_tb) rm (va_Pc [.ref h0] (fun U => U.heap.size = sz ∧ va_P D vwCl [(h0, e0)] U.heap ∧ va_K D vwCl (ab_ty cA) U ∧ va_D (fun _ => True) [(h0, e0)])) (va_Qv (fun _ : Nat → Nat => True) (fun u t => va_P D vwCl (w1 h0 u) t.heap ∧ va_D (va_A [(h0, e0)] sz) (w1 h0 u)) (va_A [(h0, e0)] sz)) rm.cells rm.slots (va_A [(h0, e0)] sz)
theorem ck_call (C : ck_C p s m args c cc nL o D cA) {q : Nat} {e0 : va_E} (h : ck_W D A s (wr ++ [(q, e0)]) H locs) (hsz : ls.size = nL) {M idx : Nat} {E : ab_E} {rm : Room} {w1 : Nat → (Nat → Nat) → va_W} (hE : ab_mt[M]? = some E) (hM : M < 193) (ct : ck_Ct l D cA E rm e0 w1) (hy : E.1.name = "<init>" ∧ E.2.2.2.1 = none ∧ E.1.cls ≠ "java/lang/invoke/MethodHandle" ∧ E.1.cls ≠ "java/lang/invoke/VarHandle" ∧ (parseMethodDescriptor E.1.desc).map (fun d => d.parameters.length) = some 0) (hini : Cond.initialized E.1.cls ∈ ab_tb) (hlk : Cond.methodLink (ab_onm o) idx E.1 ∈ ab_tb) (him : Cond.instanceMethod E.1 ∈ ab_tb) (hR : rm.frames + 1 ≤ R.frames ∧ 8 + (E.2.2.1 + 11) + rm.locals ≤ R.locals) (hw : (rest.map fun v => v.category).sum ≤ 8) (hf : cells + rm.cells ≤ R.cells ∧ slots + rm.slots ≤ R.slots) (hdg : decode cc pc = .ok (.invokespecial idx, 3))
    (kk : ∀ (u : Nat → Nat) (H1 : Heap) (locs1 : List Loc), ck_W D A s (wr ++ w1 q u) H1 locs1 → W p l e R s m args below meth c H1 locs1 (cells + rm.cells) (slots + rm.slots) Q (F0 m (pc + 3) ls rest)) : W p l e R s m args below meth c H locs cells slots Q (F0 m pc ls (.ref q :: rest)) := by
  obtain ⟨hx, hb, hml, hown, hts, hK⟩ := C
  obtain ⟨hP, hD, hS, hA⟩ := h
  have hi : (wr ++ [(q, e0)])[wr.length]? = some (q, e0) := by simp
  have hPc := hP.sub (ws' := [(q, e0)]) [wr.length] (by simp)
  have hDc := hD.sub (ws' := [(q, e0)]) [wr.length] (ck_nd (by simp)) (by simp)
  have hFc := va_free (wc := [(q, e0)]) hD hS hA [wr.length] (by simp)
  have cw : CallB R s args (ab_onm o) idx E.1 E.2.1 E.2.2.1 none (Cond.code E.1 E.2.1 E.2.2.1 E.2.2.2.1 :: ab_tb) rm rm.cells rm.slots 0 := by
    have := callB_of (R := R) (rm := rm) (own := ab_onm o) (index := idx) 0 hts (ab_goodIn hM hE) rfl rfl rfl (hts _ hini) (hts _ hlk) hy.2.2 hR
    rw [hy.2.1] at this ⊢
    exact this
  refine va_callv (va_runI (As := []) (rest := rest) ⟨hx, hb, hml, hown, hts⟩ (ct q H.size) ⟨cw, hy.1, hts _ him⟩ ⟨fun a U g mk z => ?_, fun U hU hW => ⟨rfl, by rw [hU], by rw [hU]; exact hPc, va_K.moved hW.alike hK, hDc.weaken (fun _ _ _ _ => trivial)⟩⟩ rfl rfl hsz rfl (lv_room hw) hdg hf) hS (fun x _ z => hFc x z) hFc (fun u t H1 locs1 ht hvm _ hB hz1 hk1 hS1 => ?_)
  · obtain ⟨z0, z1, zP, zK, zD⟩ := z
    exact ⟨z0, z1, zP, va_K.moved (u := U) (U := U.calling g mk a) (Vm.Alike.refl U.vm) zK, zD⟩
  · obtain ⟨hP1, hD1⟩ := hB
    rw [ht] at hP1
    obtain ⟨hP2, hD2⟩ := ck_join hP hD hk1 hFc hP1 hD1
    exact kk u H1 locs1 ⟨hP2, hD2, hS1, hA⟩
end
