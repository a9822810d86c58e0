/-! arrays of references, arrays filled -/
theorem ck_arr_c {cl : ClassId} {N : Nat} {f g : Nat → Value} (h : ∀ j, j < N → f j = g j) : arrV cl N f = arrV cl N g := by
  unfold arrV
  have : (Array.ofFn (n := N) fun j => f j.val) = Array.ofFn (n := N) fun j => g j.val := by
    congr 1
    funext j
    exact h j.val j.isLt
  rw [this]
theorem wk_ao5 : Cond.arrayOver (.object "AbsentPost$Post") ∈ lw_tbl := by decide +kernel
theorem wk_ao3 : Cond.arrayOver (.array .int) ∈ lw_tbl := by decide +kernel
theorem wk_ao4 : Cond.arrayOver (.array .byte) ∈ lw_tbl := by decide +kernel
theorem wk_good : goodWord (Cond.classLink "AbsentPost" 9 "[[I") = true ∧ goodWord (Cond.instantiable "AbsentPost" 15) = true := by decide +kernel
theorem dk2_0 : decode prog_10_method_103_code 0 = .ok (.iconst 0, 1) := by decide +kernel
theorem dk2_1 : decode prog_10_method_103_code 1 = .ok (.istore_n 2, 1) := by decide +kernel
theorem dk2_2 : decode prog_10_method_103_code 2 = .ok (.aload_n 0, 1) := by decide +kernel
theorem dk2_3 : decode prog_10_method_103_code 3 = .ok (.arraylength, 1) := by decide +kernel
theorem dk2_4 : decode prog_10_method_103_code 4 = .ok (.istore_n 3, 1) := by decide +kernel
theorem dk2_5 : decode prog_10_method_103_code 5 = .ok (.iload_n 2, 1) := by decide +kernel
theorem dk2_6 : decode prog_10_method_103_code 6 = .ok (.iload_n 3, 1) := by decide +kernel
theorem dk2_7 : decode prog_10_method_103_code 7 = .ok (.if_icmp .ge 13, 3) := by decide +kernel
theorem dk2_10 : decode prog_10_method_103_code 10 = .ok (.aload_n 0, 1) := by decide +kernel
theorem dk2_11 : decode prog_10_method_103_code 11 = .ok (.iload_n 2, 1) := by decide +kernel
theorem dk2_12 : decode prog_10_method_103_code 12 = .ok (.iload_n 1, 1) := by decide +kernel
theorem dk2_13 : decode prog_10_method_103_code 13 = .ok (.iastore, 1) := by decide +kernel
theorem dk2_14 : decode prog_10_method_103_code 14 = .ok (.iinc 2 1, 3) := by decide +kernel
theorem dk2_17 : decode prog_10_method_103_code 17 = .ok (.goto (-12), 3) := by decide +kernel
theorem dk2_20 : decode prog_10_method_103_code 20 = .ok (.return_, 1) := by decide +kernel
def rm2 : Room := { frames := 1, cells := 0, slots := 0, locals := 100 }
set_option maxHeartbeats 4000000 in
theorem cn2 (l : Launch) (D : va_G) (cA : Nat → ClassId) (a sz N : Nat) (f : Nat → Int32) (x : Int32) (hN : N ≤ 1000) : Met l ab_e2.1 (Cond.code ab_e2.1 ab_e2.2.1 ab_e2.2.2.1 ab_e2.2.2.2.1 :: ab_tb) rm2 (va_Pc [.ref a, .int x] (fun U => U.heap.size = sz ∧ va_P D vwCl [(a, .inl (cA 0, N, .inl f))] U.heap ∧ va_K D vwCl (ab_ty cA) U ∧ va_D (fun _ => True) [(a, .inl (cA 0, N, .inl f))])) (va_Qv (fun _ : Unit => True) (fun _ t => va_P D vwCl [(a, .inl (cA 0, N, .inl (fun _ => x)))] t.heap ∧ va_D (va_A [(a, .inl (cA 0, N, .inl f))] sz) [(a, .inl (cA 0, N, .inl (fun _ => x)))]) (va_A [(a, .inl (cA 0, N, .inl f))] sz)) 0 0 (va_A [(a, .inl (cA 0, N, .inl f))] sz) := by
  refine Met.ofW (cc := prog_10_method_103_code) (maxL := 4) (ret := none) (by decide) rfl ?_
  intro p e s m args below meth c s₁ B hml hv
  obtain ⟨rfl, hsz, hP, hK, hD0⟩ := hv
  have hx := B.exec
  have hb := B.bytes
  have hr := B.returns
  have hlocks := B.notSynchronized
  subst hsz
  have hD := hD0.self (sz := s.heap.size)
  generalize hAe : va_A [(a, .inl (cA 0, N, .inl f))] s.heap.size = A at hD ⊢
  have hl := lv_entry ([.ref a, .int x]) (n := 4) (Nat.le_of_ble_eq_true rfl)
  rw [lg_entry_eq]
  generalize (lg_sl ([.ref a, .int x]) ++ List.replicate (4 - (lg_sl ([.ref a, .int x])).length) Slot.unset).toArray = ls at hl ⊢
  have hl : lv_has ls 4 [(0, .ref a), (1, .int x)] := hl
  have loop : ∀ (k j : Nat) (g : Nat → Int32) (H : Heap) (locs : List Loc) (ls : Array Slot), j + k = N → (∀ i, i < j → g i = x) → va_P D vwCl [(a, .inl (cA 0, N, .inl g))] H → va_D A [(a, .inl (cA 0, N, .inl g))] → va_S A s.heap H locs → lv_has ls 4 [(0, .ref a), (1, .int x), (2, .int (nI j)), (3, .int (nI N))] → W p l e rm2 s m [Value.ref a, Value.int x].toArray below meth c H locs 0 0 (MQ below (va_Qv (fun _ : Unit => True) (fun _ t => va_P D vwCl [(a, .inl (cA 0, N, .inl (fun _ => x)))] t.heap ∧ va_D A [(a, .inl (cA 0, N, .inl (fun _ => x)))]) A) [Value.ref a, Value.int x].toArray s 0 0 A) (F0 m 5 ls []) := by
    intro k
    induction k with
    | zero =>
      intro j g H locs ls hj hg hP hD hS hl
      refine lv_iload_n hx hb dk2_5 rfl (lv_at hl 2 rfl) ?_
      refine lv_iload_n hx hb dk2_6 rfl (lv_at hl 3 rfl) ?_
      refine lv_icmp_ge (tgt := 20) hx hb dk2_7 (by decide) (fun _ => ?_) (fun hc => absurd (nI_le (by omega) (by omega)) hc)
      have hP2 : va_P D vwCl [(a, .inl (cA 0, N, .inl (fun _ => x)))] H := by
        intro k9 q9 h9
        have h0 : k9 < 1 := (List.getElem?_eq_some_iff.mp h9).1
        rw [show k9 = 0 by omega] at h9
        cases h9
        have := hP 0 _ rfl
        have ec : vp_cell (cA 0) (N, .inl (fun _ => x)) = vp_cell (cA 0) (N, .inl g) := ck_arr_c (N := N) (f := fun _ => .int x) (g := fun i => .int (g i)) (fun i hi => by rw [hg i (by omega)])
        show H[a]? = some (vp_cell (cA 0) (N, .inl (fun _ => x)))
        rw [ec]
        exact this
      have hD2 : va_D A [(a, .inl (cA 0, N, .inl (fun _ => x)))] := hD.set (p := 0) (a := a) (e := .inl (cA 0, N, .inl (fun _ => x))) rfl
      exact W.vret hx hb hr (fun t ht hW => ⟨⟨(), rfl, trivial, by rw [ht]; exact hP2, hD2⟩, hS.F ht⟩) hS.2.2 dk2_20
    | succ k ih =>
      intro j g H locs ls hj hg hP hD hS hl
      refine lv_iload_n hx hb dk2_5 rfl (lv_at hl 2 rfl) ?_
      refine lv_iload_n hx hb dk2_6 rfl (lv_at hl 3 rfl) ?_
      refine lv_icmp_ge (tgt := 20) hx hb dk2_7 (by decide) (fun hc => absurd hc (fun z => by rw [Int32.le_iff_toInt_le, nI_toInt (by omega), nI_toInt (by omega)] at z; omega)) (fun _ => ?_)
      refine lv_aload_n hx hb dk2_10 rfl (lv_at hl 0 rfl) ?_
      refine lv_iload_n hx hb dk2_11 rfl (lv_at hl 2 rfl) ?_
      refine lv_iload_n hx hb dk2_12 rfl (lv_at hl 1 rfl) ?_
      refine va_iast hx hb hK hP hD hS 0 0 rfl rfl (vp_in_nI (n := j) (by omega) (by omega)) dk2_13 (fun H1 locs1 hP1 hD1 hS1 => ?_)
      rw [z_cl (by omega)] at hP1 hD1
      refine lv_iinc (v := nI (j + 1)) (lv' := [(2, .int (nI (j + 1))), (0, .ref a), (1, .int x), (3, .int (nI N))]) hx hb dk2_14 hl (k := 2) rfl (nI_1 j) (by decide) rfl (fun ls hl => ?_)
      refine lv_goto (tgt := 5) hx hb dk2_17 (by decide) ?_
      refine ih (j + 1) (upd g j x) H1 locs1 ls (by omega) (fun i hi => ?_) hP1 hD1 hS1 (lv_sub hl [1, 2, 0, 3] rfl)
      unfold upd
      by_cases q : i = j
      · rw [if_pos q]
      · rw [if_neg q]; exact hg i (by omega)
  refine lv_iconst (v := nI 0) hx hb dk2_0 (by decide) ?_
  refine lv_istore_n (lv' := [(2, .int (nI 0)), (0, .ref a), (1, .int x)]) hx hb dk2_1 rfl hl (by decide) rfl (fun ls hl => ?_)
  refine lv_aload_n hx hb dk2_2 rfl (lv_at hl 1 rfl) ?_
  refine va_alen hx hb hK hP 0 0 rfl rfl (v := nI N) rfl dk2_3 ?_
  refine lv_istore_n (lv' := [(3, .int (nI N)), (2, .int (nI 0)), (0, .ref a), (1, .int x)]) hx hb dk2_4 rfl hl (by decide) rfl (fun ls hl => ?_)
  exact loop N 0 f s.heap [] ls (by omega) (fun i hi => by omega) hP hD va_S.rf (lv_sub hl [2, 3, 1, 0] rfl)
section
variable {p : Program} {l : Launch} {e : Env} {R : Room} {s : State} {m : MethodId} {args : Array Value} {below : List Frame} {meth : Method} {c : Code} {H : Heap} {locs : List Loc} {cells slots : Nat} {Q : State → Prop}
variable {D : va_G} {cA : Nat → ClassId} {A : Nat → Prop} {cc : ByteArray} {nL o pc : Nat} {ls : Array Slot} {rest : List Value} {h0 ci : Nat} {fs : List Value} {tl ws wr : va_W}
theorem ck_fill (C : ck_C p s m args c cc nL o D cA) {q N : Nat} {f : Nat → Int32} {x : Int32} (h : ck_W D A s (wr ++ [(q, .inl (cA 0, N, .inl f))]) H locs) (hN : N ≤ 1000) (hsz : ls.size = nL) {idx : Nat} (hlk : Cond.methodLink (ab_onm o) idx ab_e2.1 ∈ ab_tb) (hini : Cond.initialized ab_e2.1.cls ∈ ab_tb) (hst : Cond.static ab_e2.1 ∈ ab_tb) (hR : 2 ≤ R.frames ∧ 123 ≤ R.locals) (hw : (rest.map fun v => v.category).sum ≤ 8) (hf : cells ≤ R.cells ∧ slots ≤ R.slots) (hdg : decode cc pc = .ok (.invokestatic idx, 3))
    (kk : ∀ (H1 : Heap) (locs1 : List Loc), ck_W D A s (wr ++ [(q, .inl (cA 0, N, .inl (fun _ => x)))]) H1 locs1 → W p l e R s m args below meth c H1 locs1 cells slots Q (F0 m (pc + 3) ls rest)) : W p l e R s m args below meth c H locs cells slots Q (F0 m pc ls (.int x :: .ref q :: rest)) := by
  obtain ⟨hx, hb, hml, hown, hts, hK⟩ := C
  obtain ⟨hP, hD, hS, hA⟩ := h
  have hPc := hP.sub (ws' := [(q, .inl (cA 0, N, .inl f))]) [wr.length] (by simp)
  have hDc := hD.sub (ws' := [(q, .inl (cA 0, N, .inl f))]) [wr.length] (ck_nd (by simp)) (by simp)
  have hFc := va_free (wc := [(q, .inl (cA 0, N, .inl f))]) hD hS hA [wr.length] (by simp)
  have cw : CallB R s args (ab_onm o) idx ab_e2.1 ab_e2.2.1 ab_e2.2.2.1 ab_e2.2.2.2.1 (Cond.code ab_e2.1 ab_e2.2.1 ab_e2.2.2.1 ab_e2.2.2.2.1 :: ab_tb) rm2 0 0 2 := callB_of 2 hts (ab_goodIn (M := 2) (by decide) rfl) rfl rfl rfl (hts _ hini) (hts _ hlk) (by decide +kernel) ⟨hR.1, hR.2⟩
  refine va_callv (va_runS (As := [.ref q, .int x]) (rest := rest) ⟨hx, hb, hml, hown, hts⟩ (cn2 l D cA q H.size N f x hN) ⟨cw, hts _ hst⟩ ⟨fun a U g mk z => ?_, fun U hU hW => ⟨rfl, by rw [hU], by rw [hU]; exact hPc, va_K.moved hW.alike hK, hDc.weaken (fun _ _ _ _ => trivial)⟩⟩ rfl rfl hsz rfl (lv_room hw) hdg hf) hS (fun x _ z => hFc x z) hFc (fun u t H1 locs1 ht hvm _ hB hz1 hk1 hS1 => ?_)
  · obtain ⟨z0, z1, zP, zK, zD⟩ := z
    exact ⟨z0, z1, zP, va_K.moved (u := U) (U := U.calling g mk a) (Vm.Alike.refl U.vm) zK, zD⟩
  · obtain ⟨hP1, hD1⟩ := hB
    rw [ht] at hP1
    obtain ⟨hP2, hD2⟩ := ck_join hP hD hk1 hFc hP1 hD1
    exact kk H1 locs1 ⟨hP2, hD2, hS1, hA⟩
theorem ck_newq (C : ck_C p s m args c cc nL o D cA) (h : ck_W D A s ws H locs) {n : Int32} {N idx : Nat} (hao : va_AO "AbsentPost$Post" s) (hcl : Cond.classLink (ab_onm o) idx "AbsentPost$Post" ∈ ab_tb) (hn : n = nI N) (hN : N < 100000) (hcells : cells + 1 ≤ R.cells) (hslots : slots + N ≤ R.slots) (hdg : decode cc pc = .ok (.anewarray idx, 3))
    (kk : ∀ (q : Nat) (H1 : Heap), ck_W D A s (ws ++ [(q, .inl (cA 5, N, .inr (.inr (.inr (.inr (fun _ => none))))))]) H1 locs → W p l e R s m args below meth c H1 locs (cells + 1) (slots + N) Q (F0 m (pc + 3) ls (.ref q :: rest))) : W p l e R s m args below meth c H locs cells slots Q (F0 m pc ls (.int n :: rest)) := by
  obtain ⟨hx, hb, hml, hown, hts, hK⟩ := C
  obtain ⟨hP, hD, hS, hA⟩ := h
  subst hn
  refine va_newq hx hb hown (hts _ hcl) hao hK hP hD hS hA (nI_pos (by omega)) (z_cl (by omega)) (by show N * 4 ≤ _; omega) hcells hslots hdg (fun q c1 H1 hK1 hP1 hD1 hS1 => ?_)
  obtain ⟨-, -, -, -, -, e1⟩ := (hK1.2 6 (c1, .object "AbsentPost$Post") rfl).2
  obtain ⟨-, -, -, -, -, e2⟩ := (hK.2 5 (cA 5, .object "AbsentPost$Post") rfl).2
  cases Option.some.inj (e1.symm.trans e2)
  exact kk q H1 ⟨hP1, hD1, hS1, hA⟩
/-- new T[N][K] -/
def ck_rows (q N K : Nat) (cO cI : ClassId) : va_W := (q, .inl (cO, N, .inr (.inr (.inr (.inr (fun i => if i < N then some (q + 1 + i) else none)))))) :: (List.range N).map (fun j => (q + 1 + j, .inl (cI, K, .inl (fun _ => 0))))
theorem ck_rows_at {q N K : Nat} {cO cI : ClassId} : ∀ {i : Nat} {x : Nat × va_E}, (ck_rows q N K cO cI)[i]? = some x → x.1 = q + i ∧ i ≤ N
  | 0, x, h => by cases h; exact ⟨rfl, Nat.zero_le _⟩
  | i + 1, x, h => by
    have h' : ((List.range N).map (fun j => ((q + 1 + j, .inl (cI, K, .inl (fun _ => 0))) : Nat × va_E)))[i]? = some x := h
    rw [List.getElem?_map] at h'
    by_cases hi : i < N
    · rw [List.getElem?_range hi] at h'
      cases h'
      exact ⟨by show q + 1 + i = q + (i + 1); omega, hi⟩
    · rw [List.getElem?_eq_none (by rw [List.length_range]; omega)] at h'
      cases h'
theorem ck_grid (C : ck_C p s m args c cc nL o D cA) (h : ck_W D A s ws H locs) {n k : Int32} {N K idx kO kI : Nat} {ty : FieldType} (hty : arrV (cA kI) K (fun _ => defaultValue ty) = vp_cell (cA kI) (K, .inl (fun _ => 0))) (hO : s.vm.findClass ("[" ++ (FieldType.array ty).toString) = some (cA kO)) (hI : s.vm.findClass (FieldType.array ty).toString = some (cA kI)) (hov : (Cond.arrayOver (.array ty)).before args s = true) (har : Cond.arrayClass ty ∈ ab_tb) (hcl : Cond.classLink (ab_onm o) idx ("[" ++ (FieldType.array ty).toString) ∈ ab_tb) (hn : n = nI N) (hk : k = nI K) (hN : N < 1000) (hK : K < 1000) (hcb : componentBytes ty ≤ 8) (hdf : fits ty (defaultValue ty) = true) (hcells : cells + (1 + N) ≤ R.cells) (hslots : slots + (N + N * K) ≤ R.slots) (hdg : decode cc pc = .ok (.multianewarray idx 2, 4))
    (kk : ∀ (q : Nat) (H1 : Heap) (locs1 : List Loc), ck_W D A s (ws ++ ck_rows q N K (cA kO) (cA kI)) H1 locs1 → W p l e R s m args below meth c H1 locs1 (cells + 1 + N) (slots + N + N * K) Q (F0 m (pc + 4) ls (.ref q :: rest))) : W p l e R s m args below meth c H locs cells slots Q (F0 m pc ls (.int k :: .int n :: rest)) := by
  obtain ⟨hx, hb, hml, hown, hts, hKK⟩ := C
  obtain ⟨hP, hD, hS, hA⟩ := h
  subst hn
  subst hk
  refine mg_row hx hb hown (hts _ hcl) hov (hts _ har) hO hI (nI_pos (by omega)) (nI_pos (by omega)) (z_cl (by omega)) (z_cl (by omega)) (by omega) (Nat.le_trans (Nat.mul_le_mul_left K hcb) (by omega)) (by omega) hdf hcells hslots hdg (fun H1 z1 z2 z3 z4 => ?_)
  refine kk H.size H1 _ ⟨va_P.app (hP.kept (fun k9 x hx => z2 x.1 ((hP k9 x hx).lt))) (fun k9 x hx => ?_), va_D.app hD ⟨fun i j x y hi hj hxy => ?_, fun k9 x hx => ?_⟩ (fun i j x y hi hj hxy => ?_), ⟨?_, fun x h1 h2 => ?_, fun lc hlc => ?_⟩, hA⟩
  · cases k9 with
    | zero =>
      cases hx
      exact z3
    | succ k9 =>
      have hx' : ((List.range N).map (fun j => ((H.size + 1 + j, .inl (cA kI, K, .inl (fun _ => 0))) : Nat × va_E)))[k9]? = some x := hx
      rw [List.getElem?_map] at hx'
      by_cases hi : k9 < N
      · rw [List.getElem?_range hi] at hx'
        cases hx'
        show H1[H.size + 1 + k9]? = some (vp_cell _ _)
        rw [z4 k9 hi, hty]
      · rw [List.getElem?_eq_none (by rw [List.length_range]; omega)] at hx'
        cases hx'
  · have a1 := (ck_rows_at hi).1
    have a2 := (ck_rows_at hj).1
    omega
  · have a1 := (ck_rows_at hx).1
    exact hA _ (by have := hS.1; omega)
  · have a1 := (hP i x hi).lt
    have a2 := (ck_rows_at hj).1
    omega
  · have := hS.1; omega
  · rw [z2 x (Nat.lt_of_lt_of_le h1 hS.1)]; exact hS.2.1 x h1 h2
  · rcases List.mem_append.mp hlc with q | q
    · exact hS.2.2 lc q
    · obtain ⟨j, -, rfl⟩ := List.mem_map.mp q
      exact hA _ hS.1
end
