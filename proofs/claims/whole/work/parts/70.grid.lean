/-! an array of arrays is made (the kit's own row of it rests on a part of the library that rounds don't have) -/
section
variable {p : Program} {l : Launch} {e : Env} {R : Room} {s : State} {m : MethodId} {args : Array Value} {below : List Frame} {meth : Method} {c : Code} {H : Heap} {locs : List Loc} {cells slots : Nat} {Q : State → Prop}
def mg_out (cA : ClassId) (N h0 i : Nat) : Cell := arrV cA N (fun j => va_rf (if j < i then some (h0 + 1 + j) else none))
theorem mg_out_s (cA : ClassId) (N h0 i : Nat) : (mg_out cA N h0 i).setSlot i (.ref (h0 + 1 + i)) = mg_out cA N h0 (i + 1) := by
  unfold mg_out
  rw [arrV_store]
  refine congrArg (arrV cA N) (funext fun j => ?_)
  unfold updV
  by_cases q : j = i
  · subst q
    rw [if_pos rfl, if_pos (by omega)]
    rfl
  · rw [if_neg q]
    dsimp only
    by_cases q2 : j < i
    · rw [if_pos q2, if_pos (by omega)]
    · rw [if_neg q2, if_neg (by omega)]
/-- what stands when i of the inner arrays are made -/
def mg_St (p : Program) (l : Launch) (e : Env) (R : Room) (s : State) (m : MethodId) (args : Array Value) (below : List Frame) (meth : Method) (c : Code) (H : Heap) (locs : List Loc) (cells slots : Nat) (vm : Vm) (cA comp : ClassId) (N K : Nat) (dv : Value) (u0 i : Nat) (T : State) : Prop :=
  Stand p l e R s m args below meth c T (locs ++ (List.range i).map fun j => ⟨H.size, j⟩) (cells + 1 + i) (slots + N + i * K) ∧ T.heap.size = H.size + 1 + i ∧ T.vm = vm ∧ (∀ x, x < H.size → T.heap[x]? = H[x]?) ∧ T.heap[H.size]? = some (mg_out cA N H.size i) ∧ (∀ j, j < i → T.heap[H.size + 1 + j]? = some (arrV comp K (fun _ => dv))) ∧ T.slotsUsed = u0 + N + i * K
theorem mg_0 {T : State} {vm : Vm} {cA comp : ClassId} {N K : Nat} {dv : Value} (X : Stand p l e R s m args below meth c T locs cells slots) (hT : T.heap = H) (hv : T.vm = vm) : mg_St p l e R s m args below meth c H locs cells slots vm cA comp N K dv T.slotsUsed 0 (T.pushCell (mg_out cA N H.size 0)) := by
  have hs : (mg_out cA N H.size 0).slots.size = N := arrV_size _ _ _
  have h := X.pushed (mg_out cA N H.size 0)
  rw [hs] at h
  subst hT
  refine ⟨?_, ?_, hv, fun x hx => State.heap_pushCell_of_lt _ _ hx, State.heap_pushCell_size _ _, fun j hj => by omega, ?_⟩
  · simpa using h
  · simp
  · rw [State.slotsUsed_pushCell, hs]; omega
theorem mg_1 {T : State} {vm : Vm} {cA comp : ClassId} {N K u0 i : Nat} {dv : Value} (h : mg_St p l e R s m args below meth c H locs cells slots vm cA comp N K dv u0 i T) : mg_St p l e R s m args below meth c H locs cells slots vm cA comp N K dv u0 (i + 1) ((T.pushCell (arrV comp K (fun _ => dv))).setCell H.size (mg_out cA N H.size (i + 1))) := by
  obtain ⟨X, h1, h2, h3, h4, h5, h6⟩ := h
  have hs : (arrV comp K (fun _ => dv)).slots.size = K := arrV_size _ _ _
  have hlt : H.size < T.heap.size := by omega
  have hc : (T.pushCell (arrV comp K (fun _ => dv))).heap[H.size]? = some (mg_out cA N H.size i) := by rw [State.heap_pushCell_of_lt _ _ hlt]; exact h4
  have hX := (X.pushed (arrV comp K (fun _ => dv))).stored hc i (.ref (H.size + 1 + i))
  rw [hs, mg_out_s] at hX
  refine ⟨?_, ?_, h2, fun x hx => ?_, State.heap_setCell_self hc, fun j hj => ?_, ?_⟩
  · have e1 : (locs ++ (List.range (i + 1)).map fun j => (⟨H.size, j⟩ : Loc)) = (locs ++ (List.range i).map fun j => (⟨H.size, j⟩ : Loc)) ++ [⟨H.size, i⟩] := by simp [List.range_succ]
    have e2 : slots + N + (i + 1) * K = slots + N + i * K + K := by rw [Nat.succ_mul]; omega
    rw [e1, e2]
    exact hX
  · simp [State.setCell, h1]; omega
  · rw [State.heap_setCell_other (show (H.size : Nat) ≠ x from fun z => by omega), State.heap_pushCell_of_lt _ _ (show x < T.heap.size from by rw [h1]; omega)]; exact h3 x hx
  · rw [State.heap_setCell_other (show (H.size : Nat) ≠ H.size + 1 + j from fun z => by omega)]
    by_cases q : j = i
    · subst q
      rw [← h1]
      exact State.heap_pushCell_size _ _
    · rw [State.heap_pushCell_of_lt _ _ (show H.size + 1 + j < T.heap.size from by rw [h1]; omega)]; exact h5 j (by omega)
  · rw [State.slotsUsed_setCell, State.slotsUsed_pushCell, hs, h6, Nat.succ_mul]; omega
/-- the states in between -/
def mg_F (T : State) (h0 : Nat) (cA comp : ClassId) (N K : Nat) (dv : Value) : Nat → State
  | 0 => T.pushCell (mg_out cA N h0 0)
  | i + 1 => ((mg_F T h0 cA comp N K dv i).pushCell (arrV comp K (fun _ => dv))).setCell h0 (mg_out cA N h0 (i + 1))
theorem mg_F_St {T : State} {vm : Vm} {cA comp : ClassId} {N K : Nat} {dv : Value} (X : Stand p l e R s m args below meth c T locs cells slots) (hT : T.heap = H) (hv : T.vm = vm) : ∀ i, mg_St p l e R s m args below meth c H locs cells slots vm cA comp N K dv T.slotsUsed i (mg_F T H.size cA comp N K dv i)
  | 0 => mg_0 X hT hv
  | i + 1 => mg_1 (mg_F_St X hT hv i)
set_option maxHeartbeats 1000000 in
theorem mg_row {cc : ByteArray} (hexec : p.tables.exec = Jvm.exec) (hb : c.code = cc) {own : String} {index : Nat} {ty : FieldType} {cA comp : ClassId} (hown : s.vm.findClass own = some m.cls) (hclink : (Cond.classLink own index ("[" ++ (FieldType.array ty).toString)).before args s = true) (hover : (Cond.arrayOver (.array ty)).before args s = true) (harr : (Cond.arrayClass ty).before args s = true) (hcA : s.vm.findClass ("[" ++ (FieldType.array ty).toString) = some cA) (hcC : s.vm.findClass (FieldType.array ty).toString = some comp)
    {n k : Int32} {N K : Nat} (hn : ¬ n < 0) (hk : ¬ k < 0) (hN : n.toNatClampNeg = N) (hK : k.toNatClampNeg = K) (hb1 : N * 4 ≤ 536870912) (hb2 : K * componentBytes ty ≤ 536870912) (hb3 : K ≤ 536870912) (hdf : fits ty (defaultValue ty) = true) (hcells : cells + (1 + N) ≤ R.cells) (hslots : slots + (N + N * K) ≤ R.slots) {pc : Nat} {ls : Array Slot} {rest : List Value} (hdg : decode cc pc = .ok (.multianewarray index 2, 4))
    (kk : ∀ H1 : Heap, H1.size = H.size + 1 + N → (∀ x, x < H.size → H1[x]? = H[x]?) → H1[H.size]? = some (mg_out cA N H.size N) → (∀ j, j < N → H1[H.size + 1 + j]? = some (arrV comp K (fun _ => defaultValue ty))) → W p l e R s m args below meth c H1 (locs ++ (List.range N).map fun j => ⟨H.size, j⟩) (cells + 1 + N) (slots + N + N * K) Q (F0 m (pc + 4) ls (.ref H.size :: rest))) :
    W p l e R s m args below meth c H locs cells slots Q (F0 m pc ls (.int k :: .int n :: rest)) := by
  intro T hT X
  subst hb
  have hpl : e.platform.magicAccessors = ({} : Platform).magicAccessors := by rw [X.admits.platform]
  obtain ⟨comp1, cA1, kA, g1, -, hkA, hkindA, g2⟩ := arrayOverA_spec hover
  cases Option.some.inj (g2.symm.trans hcA)
  cases Option.some.inj (g1.symm.trans hcC)
  obtain ⟨comp2, kC, c2, g3, hkC, hkindC⟩ := Cond.arrayClass_spec harr
  cases Option.some.inj (g3.symm.trans hcC)
  obtain ⟨c0, hfc0, hcl⟩ := Cond.classLink_spec hown hclink e.platform hpl
  cases Option.some.inj (hcA.symm.trans hfc0)
  obtain ⟨hg₁, hwarm₁, -⟩ := State.classEntry (e := e) X.warmed hcl
  generalize T.vm.noted m.cls index (.cls cA) = vm₁ at hg₁ hwarm₁
  have hal : s.vm.Alike vm₁ := hwarm₁.alike
  obtain ⟨kA₁, hkA₁, heA⟩ := hal.2.2 _ _ hkA
  obtain ⟨kC₁, hkC₁, heC⟩ := hal.2.2 _ _ hkC
  have hkindA₁ : kA₁.kind = .array comp (.array ty) := by rw [heA]; exact hkindA
  have hkindC₁ : kC₁.kind = .array c2 ty := by rw [heC]; exact hkindC
  have X₁ := X.noted hwarm₁
  obtain ⟨hr1, hr2⟩ := X.roomAbove hcells hslots
  have hl1 : ¬ N > e.platform.arrayLengthLimit := by rw [Launch.admits_arrayLengthLimit X.admits]; omega
  have hh1 : ¬ N * componentBytes (.array ty) > e.platform.maxHeapBytes := by
    rw [Launch.admits_maxHeapBytes X.admits]; show ¬ N * 4 > 536870912; omega
  have hl2 : ¬ K > e.platform.arrayLengthLimit := by rw [Launch.admits_arrayLengthLimit X.admits]; omega
  have hh2 : ¬ K * componentBytes ty > e.platform.maxHeapBytes := by rw [Launch.admits_maxHeapBytes X.admits]; omega
  have hcells2 : H.size + (1 + N) ≤ e.platform.maxCells := by rw [← hT]; exact hr1
  have hF := mg_F_St (H := H) (cA := cA) (comp := comp) (N := N) (K := K) (dv := defaultValue ty) X₁ hT rfl
  generalize hTF : mg_F (T.setVm vm₁) H.size cA comp N K (defaultValue ty) = TF at hF
  have hT0 : (T.setVm vm₁).pushCell (mg_out cA N H.size 0) = TF 0 := by rw [← hTF]; rfl
  have hT1 : ∀ i, ((TF i).pushCell (arrV comp K (fun _ => defaultValue ty))).setCell H.size (mg_out cA N H.size (i + 1)) = TF (i + 1) := fun i => by rw [← hTF]; rfl
  obtain ⟨hX, z1, z2, z3, z4, z5, z6⟩ := hF N
  obtain ⟨t, a1, b1⟩ := kk (TF N).heap z1 z3 z4 z5 (TF N) rfl hX
  refine ⟨t, ?_, b1⟩
  subst hN
  subst hK
  jvm_step X.here [hexec, hdg]
  have hme := State.method?_setTop (s := T) (F0 m pc ls (.int k :: .int n :: rest)) X.here.top
  have hres : (resolveClass (F0 m pc ls (.int k :: .int n :: rest)).method.cls index).Gives e.toSetting (T.setTop (F0 m pc ls (.int k :: .int n :: rest))).vm (Except.ok cA) vm₁ := hg₁
  simp only [multianewarray.sem, wp_bind', W.resolveClassAt_links hme hres]
  rw [W.popN, if_neg (by decide)]
  refine ⟨F0 m pc ls (.int k :: .int n :: rest), State.topJava?_setTop' (s := T.setVm vm₁) _ X.here.top, [.int n, .int k], rest, rfl, rfl, ?_⟩
  simp only [List.mapM_cons, List.mapM_nil, wp_bind', wp_pure']
  have eS : ((T.setTop (F0 m pc ls (.int k :: .int n :: rest))).setVm vm₁).setTop { F0 m pc ls (.int k :: .int n :: rest) with stack := rest } = (T.setVm vm₁).setTop { F0 m pc ls (.int k :: .int n :: rest) with stack := rest } := by
    show ((T.setVm vm₁).setTop _).setTop _ = _
    rw [State.setTop_setTop]
  rw [eS]
  generalize hg : ({ F0 m pc ls (.int k :: .int n :: rest) with stack := rest } : JFrame) = g
  rw [multianewarray.make]
  simp only [wp_bind', W.ite, hn, if_false, wp_pure', W.theClass, State.vm_setTop, Option.some.injEq, exists_eq_left']
  have hkA₂ : (T.setVm vm₁).vm.classes[cA]? = some kA₁ := hkA₁
  simp only [hkA₂, Option.some.injEq, exists_eq_left', hkindA₁, wp_bind']
  have hfind : List.find? (fun x : Int32 => decide (x < 0)) [k] = none := by simp [hk]
  refine W.newArray_of (k := kA₁) hkA₂ hkindA₁ hl1 hh1 (by show T.heap.size < _; rw [hT]; omega) (by show T.slotsUsed + _ ≤ _; omega) rfl (fun acts' => ?_)
  simp only [hfind, ite_self]
  have eo : mg_out cA n.toNatClampNeg H.size 0 = { cls := cA, slots := Array.replicate n.toNatClampNeg .null } := by
    unfold mg_out
    rw [show ({ cls := cA, slots := Array.replicate n.toNatClampNeg .null } : Cell) = arrV cA n.toNatClampNeg (fun _ => .null) from arrV_new _ _ _]
    refine congrArg (arrV cA n.toNatClampNeg) (funext fun j => ?_)
    rw [if_neg (by omega)]
    rfl
  have e0 : ((T.setVm vm₁).setTop g).pushCell { cls := cA, slots := Array.replicate n.toNatClampNeg .null } = (TF 0).setTop g := by
    rw [← eo, ← hT0]
    rfl
  rw [e0, wp_bind', Std.Legacy.Range.forIn_eq_forIn_range']
  have hsz : ([:n.toNatClampNeg] : Std.Legacy.Range).size = n.toNatClampNeg := by simp [Std.Legacy.Range.size]
  rw [hsz]
  have hh0 : ((T.setVm vm₁).setTop g).heap.size = H.size := by show T.heap.size = _; rw [hT]
  rw [hh0]
  refine wp_forIn_inv (fun rest' s' => ∃ i, i ≤ n.toNatClampNeg ∧ rest' = List.range' i (n.toNatClampNeg - i) ∧ s' = (TF i).setTop g) _ _ ⟨0, Nat.zero_le _, rfl, rfl⟩ ?_ ?_
  · rintro x rest' s' d' acts'' Q' ⟨i, hi, hl, rfl⟩ hnext
    have hlt : i < n.toNatClampNeg := by
      by_cases q : i < n.toNatClampNeg
      · exact q
      · rw [show n.toNatClampNeg - i = 0 by omega] at hl
        cases hl
    rw [show n.toNatClampNeg - i = (n.toNatClampNeg - (i + 1)) + 1 by omega, List.range'_succ] at hl
    obtain ⟨rfl, hrest⟩ := List.cons.inj hl
    obtain ⟨hX, y1, y2, y3, y4, y5, y6⟩ := hF x
    have hmul : x * k.toNatClampNeg + k.toNatClampNeg ≤ n.toNatClampNeg * k.toNatClampNeg := by
      have := Nat.mul_le_mul_right k.toNatClampNeg (show x + 1 ≤ n.toNatClampNeg from hlt)
      rw [Nat.succ_mul] at this
      exact this
    have hkC₂ : ((TF x).setTop g).vm.classes[comp]? = some kC₁ := by
      show (TF x).vm.classes[comp]? = _
      rw [y2]
      exact hkC₁
    have hkA₃ : ((TF x).setTop g).vm.classes[cA]? = some kA₁ := by
      show (TF x).vm.classes[cA]? = _
      rw [y2]
      exact hkA₁
    simp only [wp_bind']
    rw [multianewarray.make]
    simp only [wp_bind', W.ite, hk, if_false, wp_pure', W.theClass, hkC₂, Option.some.injEq, exists_eq_left', hkindC₁]
    refine W.newArray_of (k := kC₁) hkC₂ hkindC₁ hl2 hh2 (by show (TF x).heap.size < _; rw [y1]; omega) (by show (TF x).slotsUsed + _ ≤ _; rw [y6]; show T.slotsUsed + _ + _ + _ ≤ _; omega) hdf (fun acts3 => ?_)
    simp only [wp_bind', W.writeLoc, wp_pure']
    have ein : ({ cls := comp, slots := Array.replicate k.toNatClampNeg (defaultValue ty) } : Cell) = arrV comp k.toNatClampNeg (fun _ => defaultValue ty) := arrV_new _ _ _
    have hsx : ((TF x).setTop g).heap.size = H.size + 1 + x := y1
    rw [ein, hsx]
    refine ⟨mg_out cA n.toNatClampNeg H.size x, ?_, ?_, ?_, ?_, hnext _ _ _ ⟨x + 1, hlt, hrest, ?_⟩⟩
    · show ((TF x).pushCell _).heap[H.size]? = _
      rw [State.heap_pushCell_of_lt _ _ (show H.size < (TF x).heap.size from by rw [y1]; omega)]
      exact y4
    · simp [mg_out, arrV]
    · rw [show (mg_out cA n.toNatClampNeg H.size x).slots.size = n.toNatClampNeg from arrV_size _ _ _]; exact hlt
    · have h3 : (TF x).vm.classes[cA]? = some kA₁ := hkA₃
      simp [State.fitsSlot, State.slotType?, mg_out, arrV, h3, hkindA₁]
      try rfl
    · rw [← hT1, mg_out_s]
      rfl
  · rintro s' d' acts'' ⟨i, hi, hl, rfl⟩
    have hiN : i = n.toNatClampNeg := by
      by_cases q : i < n.toNatClampNeg
      · rw [show n.toNatClampNeg - i = (n.toNatClampNeg - (i + 1)) + 1 by omega, List.range'_succ] at hl
        cases hl
      · omega
    subst hiN
    simp only [wp_pure', wp_bind', W.mark, W.pushRef, State.topJava?_setTop' _ hX.here.top, Option.some.injEq, exists_eq_left', State.setTop_setTop, State.heap_setTop]
    intro acts
    rw [← hg]
    simp [jvm, hX.here.top]
    exact a1
end
