/-! the law's own body: as parts 09 and 10, with the world made behind its entry -/
def ab_Bx (D : va_G) (base : Nat) (ad : Nat → Nat) (cA : Nat → ClassId) (X : ab_X) (U : State) : Prop := base ≤ U.heap.size ∧ True ∧ va_K D vwCl (ab_ty cA) U ∧ va_Z "AbsentPost" "KIND_LETTERS" "[I" (.ref (ad 80)) (ab_A base) U U.heap ∧ va_T .int (ad 80) 6 (fun j => .int (ab_kl j)) (ab_A base) U U.heap ∧ va_X (ad 81) X.1 X.2 U U.heap ∧ ∀ (a : String) (i : Nat) (x : MethodName) (t : String), Cond.methodLinkNest a i x t ∈ lw_tbl → va_Nw (.methodLinkNest a i x t) U
section
variable {p : Program} {l : Launch} {e : Env} {R : Room} {s : State} {m : MethodId} {args : Array Value} {below : List Frame} {meth : Method} {c : Code} {H : Heap} {locs : List Loc} {cells slots : Nat} {Q : State → Prop}
variable {D : va_G} {base : Nat} {ad : Nat → Nat} {cA : Nat → ClassId} {X : ab_X}
theorem ab_preE (hG : ab_G base ad cA) (hB : ab_Bx D base ad cA X s) {h2 : ab_H} (hP : va_P D vwCl (ab_w ad cA h2) H) (hS : va_S (ab_A base) s.heap H locs) {U : State} (hU : U.heap = H) (hW : s.WarmedH U.vm) : ab_B D base ad cA X h2 U := by
  obtain ⟨b0, b1, b2, b3, b4, b5, b6⟩ := hB
  subst hU
  have hlt : ad 81 < s.heap.size := Nat.lt_of_lt_of_le hG.2 b0
  exact ⟨Nat.le_trans b0 hS.1, hP, va_K.moved hW.alike b2, (va_Z.moved hW.alike b3).kept hS.2.1, (va_T.moved hW.alike b4).kept hS.2.1, (va_X.moved hW.alike b5).kept (hS.2.1 _ hlt (Nat.not_le.mpr hG.2)), fun a i x t hw => (b6 a i x t hw).warmM hW⟩
set_option maxHeartbeats 8000000 in
set_option maxRecDepth 10000 in
theorem ab_stepE {cc : ByteArray} {nL o d : Nat} {rt : Option FieldType} {lg : List Nat} {ins : Instr} {len pc : Nat} {lv st : List Value} {h : ab_H} {r : ab_R} {kn : ab_KN} {kc : ab_KC} {ls : Array Slot}
    (hx : p.tables.exec = Jvm.exec) (hb : c.code = cc) (hml : c.maxLocals = nL) (hown : s.vm.findClass (ab_onm o) = some m.cls) (hts : ∀ w ∈ ab_tb, w.before args s = true) (hG : ab_G base ad cA) (hB : ab_Bx D base ad cA X s) (hR : d + 1 ≤ R.frames ∧ 100 * (d + 1) ≤ R.locals) (hcs : cells ≤ R.cells ∧ slots ≤ R.slots)
    (hd : ∀ n, n = (match ins with
      | .bipush _ | .iload _ | .lload _ | .aload _ | .istore _ | .lstore _ | .astore _ => 2
      | .sipush _ | .ldc2_w _ | .ldc_w _ | .iinc _ _ | .ifCond _ _ | .if_icmp _ _ | .goto _ | .getfield _ | .putfield _ | .getstatic _ | .invokestatic _ | .invokevirtual _ => 3
      | .tableswitch _ _ _ _ => len
      | _ => 1) → decode cc pc = .ok (ins, n))
    (hP : va_P D vwCl (ab_w ad cA h) H) (hS : va_S (ab_A base) s.heap H locs) (hl : lv_has ls nL (ab_lp ad lv)) (hn : lv.length = nL) (hL : ab_Lok lg lv)
    (IHn : ∀ pc lv st h, kn pc lv st h = some r → ∀ H locs ls, va_P D vwCl (ab_w ad cA h) H → va_S (ab_A base) s.heap H locs → lv_has ls nL (ab_lp ad lv) → lv.length = nL → ab_Lok lg lv → W p l e R s m args below meth c H locs cells slots Q (F0 m pc ls (st.map (ab_cv ad))))
    (IHc : ∀ m' as h k, kc m' as h k = some r → ∃ z d', k z = some r ∧ d = d' + 1 ∧ ((ab_la0 as).length ≤ ab_ml m' ∧ ab_okL (ab_Lg m') (ab_la0 as) = true → m' < 193 → (∀ E, ab_mt[m']? = some E → plainName E.1.cls = true ∧ ab_onm E.2.2.2.2.1 = E.1.cls) → ab_Ct l D base ad cA X d' m' as h z))
    (hend : ∀ H locs ls, va_P D vwCl (ab_w ad cA r.2) H → va_S (ab_A base) s.heap H locs → (match r.1 with
      | none => rt = none ∧ decode cc pc = .ok (.return_, 1) ∧ st = []
      | some (.int x) => ab_rk rt x = true ∧ decode cc pc = .ok (.ireturn, 1) ∧ st = [.int x]
      | some (.long x) => rt = some .long ∧ decode cc pc = .ok (.lreturn, 1) ∧ st = [.long x]
      | _ => False) → W p l e R s m args below meth c H locs cells slots Q (F0 m pc ls (st.map (ab_cv ad))))
    (q : ab_st X o rt lg ins pc lv st h kn kc = some r) : W p l e R s m args below meth c H locs cells slots Q (F0 m pc ls (st.map (ab_cv ad))) := by
  have hlt : ∀ {x : Nat}, ¬ (ab_A base) x → x < base := fun h => Nat.lt_of_not_le h
  have hK := hB.2.2.1
  have hDD := hG.1
  cases ins with
  | iconst n => exact lv_iconst hx hb (hd _ rfl) rfl (IHn _ _ _ _ q _ _ _ hP hS hl hn hL)
  | bipush n => exact lv_bipush hx hb (hd _ rfl) rfl (IHn _ _ _ _ q _ _ _ hP hS hl hn hL)
  | sipush n => exact lv_sipush hx hb (hd _ rfl) rfl (IHn _ _ _ _ q _ _ _ hP hS hl hn hL)
  | lconst n => exact lv_lconst hx hb (hd _ rfl) rfl (IHn _ _ _ _ q _ _ _ hP hS hl hn hL)
  | ldc2_w i =>
    have q : (ab_kj o i).bind _ = some r := q
    obtain ⟨w, hw, q⟩ := Option.bind_eq_some_iff.mp q
    exact lv_ldc2 hx hb hown (hts _ (ab_tb_in (ab_kj_spec hw) rfl)) (hd _ rfl) (IHn _ _ _ _ q _ _ _ hP hS hl hn hL)
  | ldc_w i =>
    have q : (ab_ki o i).bind _ = some r := q
    obtain ⟨w, hw, q⟩ := Option.bind_eq_some_iff.mp q
    exact lv_ldcw hx hb hown (hts _ (ab_tb_in (ab_ki_spec hw) rfl)) (hd _ rfl) (IHn _ _ _ _ q _ _ _ hP hS hl hn hL)
  | iload_n i =>
    obtain ⟨x, hv, q⟩ := ab_lI_s q
    exact lv_iload_n hx hb (hd _ rfl) rfl (ab_lp_at hl hv (by intro z; cases z)) (IHn _ _ _ _ q _ _ _ hP hS hl hn hL)
  | iload i =>
    obtain ⟨x, hv, q⟩ := ab_lI_s q
    exact lv_iload hx hb (hd _ rfl) (ab_lp_at hl hv (by intro z; cases z)) (IHn _ _ _ _ q _ _ _ hP hS hl hn hL)
  | lload_n i =>
    obtain ⟨x, hv, q⟩ := ab_lJ_s q
    exact lv_lload_n hx hb (hd _ rfl) rfl (ab_lp_at hl hv (by intro z; cases z)) (IHn _ _ _ _ q _ _ _ hP hS hl hn hL)
  | lload i =>
    obtain ⟨x, hv, q⟩ := ab_lJ_s q
    exact lv_lload hx hb (hd _ rfl) (ab_lp_at hl hv (by intro z; cases z)) (IHn _ _ _ _ q _ _ _ hP hS hl hn hL)
  | aload_n i =>
    obtain ⟨x, hv, q⟩ := ab_lR_s q
    exact lv_aload_n hx hb (hd _ rfl) rfl (ab_lp_at hl hv (by intro z; cases z)) (IHn _ _ _ _ q _ _ _ hP hS hl hn hL)
  | aload i =>
    obtain ⟨x, hv, q⟩ := ab_lR_s q
    exact lv_aload hx hb (hd _ rfl) (ab_lp_at hl hv (by intro z; cases z)) (IHn _ _ _ _ q _ _ _ hP hS hl hn hL)
  | istore_n i =>
    obtain ⟨x, s', rfl, q⟩ := ab_1I_s q
    obtain ⟨⟨h1, h2⟩, q⟩ := ab_if_s q
    exact lv_istore_n hx hb (hd _ rfl) rfl hl (by omega) rfl (fun ls' hl' => IHn _ _ _ _ q _ _ _ hP hS (ab_lp_s1 hL h1 h2 hl') (by rw [List.length_set]; exact hn) (ab_Lok_s1 hL (by intro z; cases z)))
  | istore i =>
    obtain ⟨x, s', rfl, q⟩ := ab_1I_s q
    obtain ⟨⟨h1, h2⟩, q⟩ := ab_if_s q
    exact lv_istore hx hb (hd _ rfl) hl (by omega) rfl (fun ls' hl' => IHn _ _ _ _ q _ _ _ hP hS (ab_lp_s1 hL h1 h2 hl') (by rw [List.length_set]; exact hn) (ab_Lok_s1 hL (by intro z; cases z)))
  | astore_n i =>
    obtain ⟨x, s', rfl, q⟩ := ab_1R_s q
    obtain ⟨⟨h1, h2⟩, q⟩ := ab_if_s q
    exact lv_astore_n hx hb (hd _ rfl) rfl hl (by omega) rfl (fun ls' hl' => IHn _ _ _ _ q _ _ _ hP hS (ab_lp_s1 hL h1 h2 hl') (by rw [List.length_set]; exact hn) (ab_Lok_s1 hL (by intro z; cases z)))
  | astore i =>
    obtain ⟨x, s', rfl, q⟩ := ab_1R_s q
    obtain ⟨⟨h1, h2⟩, q⟩ := ab_if_s q
    exact lv_astore hx hb (hd _ rfl) hl (by omega) rfl (fun ls' hl' => IHn _ _ _ _ q _ _ _ hP hS (ab_lp_s1 hL h1 h2 hl') (by rw [List.length_set]; exact hn) (ab_Lok_s1 hL (by intro z; cases z)))
  | lstore_n i =>
    obtain ⟨x, s', rfl, q⟩ := ab_1J_s q
    obtain ⟨⟨⟨h1, h3⟩, h2⟩, q⟩ := ab_if_s q
    exact lv_lstore_n hx hb (hd _ rfl) rfl hl (by omega) rfl (fun ls' hl' => IHn _ _ _ _ q _ _ _ hP hS (ab_lp_s2 hL h1 h2 hl') (by rw [List.length_set, List.length_set]; exact hn) (ab_Lok_s2 hL h3))
  | lstore i =>
    obtain ⟨x, s', rfl, q⟩ := ab_1J_s q
    obtain ⟨⟨⟨h1, h3⟩, h2⟩, q⟩ := ab_if_s q
    exact lv_lstore hx hb (hd _ rfl) hl (by omega) rfl (fun ls' hl' => IHn _ _ _ _ q _ _ _ hP hS (ab_lp_s2 hL h1 h2 hl') (by rw [List.length_set, List.length_set]; exact hn) (ab_Lok_s2 hL h3))
  | iinc i n =>
    obtain ⟨x, hv, q⟩ := ab_lI_s q
    obtain ⟨⟨h1, h2⟩, q⟩ := ab_if_s q
    have hm : (i, Value.int x) ∈ ab_lp ad lv := ab_lp_mem.mpr ⟨.int x, hv, (by intro z; cases z), rfl⟩
    obtain ⟨k, hk⟩ := List.getElem?_of_mem hm
    exact lv_iinc hx hb (hd _ rfl) hl hk rfl (by omega) rfl (fun ls' hl' => IHn _ _ _ _ q _ _ _ hP hS (ab_lp_s1 hL h1 h2 hl') (by rw [List.length_set]; exact hn) (ab_Lok_s1 hL (by intro z; cases z)))
  | iadd => obtain ⟨x, y, s', rfl, q⟩ := ab_2I_s q; exact lv_iadd hx hb (hd _ rfl) (IHn _ _ _ _ q _ _ _ hP hS hl hn hL)
  | isub => obtain ⟨x, y, s', rfl, q⟩ := ab_2I_s q; exact lv_isub hx hb (hd _ rfl) (IHn _ _ _ _ q _ _ _ hP hS hl hn hL)
  | imul => obtain ⟨x, y, s', rfl, q⟩ := ab_2I_s q; exact lv_imul hx hb (hd _ rfl) (IHn _ _ _ _ q _ _ _ hP hS hl hn hL)
  | iand => obtain ⟨x, y, s', rfl, q⟩ := ab_2I_s q; exact lv_iand hx hb (hd _ rfl) (IHn _ _ _ _ q _ _ _ hP hS hl hn hL)
  | ior => obtain ⟨x, y, s', rfl, q⟩ := ab_2I_s q; exact lv_ior hx hb (hd _ rfl) (IHn _ _ _ _ q _ _ _ hP hS hl hn hL)
  | ixor => obtain ⟨x, y, s', rfl, q⟩ := ab_2I_s q; exact lv_ixor hx hb (hd _ rfl) (IHn _ _ _ _ q _ _ _ hP hS hl hn hL)
  | ishl => obtain ⟨x, y, s', rfl, q⟩ := ab_2I_s q; exact lv_ishl hx hb (hd _ rfl) (IHn _ _ _ _ q _ _ _ hP hS hl hn hL)
  | ishr => obtain ⟨x, y, s', rfl, q⟩ := ab_2I_s q; exact lv_ishr hx hb (hd _ rfl) (IHn _ _ _ _ q _ _ _ hP hS hl hn hL)
  | iushr => obtain ⟨x, y, s', rfl, q⟩ := ab_2I_s q; exact lv_iushr hx hb (hd _ rfl) rfl (IHn _ _ _ _ q _ _ _ hP hS hl hn hL)
  | idiv =>
    obtain ⟨x, y, s', rfl, q⟩ := ab_2I_s q
    obtain ⟨hz, q⟩ := ab_dI_s q
    exact lv_idiv hx hb (hd _ rfl) hz (IHn _ _ _ _ q _ _ _ hP hS hl hn hL)
  | irem =>
    obtain ⟨x, y, s', rfl, q⟩ := ab_2I_s q
    obtain ⟨hz, q⟩ := ab_dI_s q
    exact lv_irem hx hb (hd _ rfl) hz (IHn _ _ _ _ q _ _ _ hP hS hl hn hL)
  | ineg => obtain ⟨x, s', rfl, q⟩ := ab_1I_s q; exact lv_ineg hx hb (hd _ rfl) (IHn _ _ _ _ q _ _ _ hP hS hl hn hL)
  | i2l => obtain ⟨x, s', rfl, q⟩ := ab_1I_s q; exact lv_i2l hx hb (hd _ rfl) rfl (IHn _ _ _ _ q _ _ _ hP hS hl hn hL)
  | i2b => obtain ⟨x, s', rfl, q⟩ := ab_1I_s q; exact lv_i2b hx hb (hd _ rfl) rfl (IHn _ _ _ _ q _ _ _ hP hS hl hn hL)
  | l2i => obtain ⟨x, s', rfl, q⟩ := ab_1J_s q; exact lv_l2i hx hb (hd _ rfl) rfl (IHn _ _ _ _ q _ _ _ hP hS hl hn hL)
  | ladd => obtain ⟨x, y, s', rfl, q⟩ := ab_2J_s q; exact lv_ladd hx hb (hd _ rfl) (IHn _ _ _ _ q _ _ _ hP hS hl hn hL)
  | lmul => obtain ⟨x, y, s', rfl, q⟩ := ab_2J_s q; exact lv_lmul hx hb (hd _ rfl) (IHn _ _ _ _ q _ _ _ hP hS hl hn hL)
  | land => obtain ⟨x, y, s', rfl, q⟩ := ab_2J_s q; exact lv_land hx hb (hd _ rfl) (IHn _ _ _ _ q _ _ _ hP hS hl hn hL)
  | lor => obtain ⟨x, y, s', rfl, q⟩ := ab_2J_s q; exact lv_lor hx hb (hd _ rfl) (IHn _ _ _ _ q _ _ _ hP hS hl hn hL)
  | ldiv =>
    obtain ⟨x, y, s', rfl, q⟩ := ab_2J_s q
    obtain ⟨hz, q⟩ := ab_dJ_s q
    exact lv_ldiv hx hb (hd _ rfl) hz (IHn _ _ _ _ q _ _ _ hP hS hl hn hL)
  | lrem =>
    obtain ⟨x, y, s', rfl, q⟩ := ab_2J_s q
    obtain ⟨hz, q⟩ := ab_dJ_s q
    exact lv_lrem hx hb (hd _ rfl) hz (IHn _ _ _ _ q _ _ _ hP hS hl hn hL)
  | lneg => obtain ⟨x, s', rfl, q⟩ := ab_1J_s q; exact lv_lneg hx hb (hd _ rfl) (IHn _ _ _ _ q _ _ _ hP hS hl hn hL)
  | lcmp => obtain ⟨x, y, s', rfl, q⟩ := ab_2J_s q; exact W.lcmp hx hb (hd _ rfl) (IHn _ _ _ _ q _ _ _ hP hS hl hn hL)
  | lshl => obtain ⟨x, y, s', rfl, q⟩ := ab_JI_s q; exact lv_lshl hx hb (hd _ rfl) rfl (IHn _ _ _ _ q _ _ _ hP hS hl hn hL)
  | lshr => obtain ⟨x, y, s', rfl, q⟩ := ab_JI_s q; exact lv_lshr hx hb (hd _ rfl) rfl (IHn _ _ _ _ q _ _ _ hP hS hl hn hL)
  | dup => obtain ⟨v, s', rfl, hc, q⟩ := ab_1V_s q; exact lv_dup hx hb (hd _ rfl) (by rw [ab_cv_cat]; exact hc) (IHn _ _ _ _ q _ _ _ hP hS hl hn hL)
  | pop => obtain ⟨v, s', rfl, hc, q⟩ := ab_1V_s q; exact lv_pop hx hb (hd _ rfl) (by rw [ab_cv_cat]; exact hc) (IHn _ _ _ _ q _ _ _ hP hS hl hn hL)
  | dup_x1 => obtain ⟨v, w, s', rfl, ⟨hc, hc2⟩, q⟩ := ab_2V_s q; exact lv_dup_x1 hx hb (hd _ rfl) (by rw [ab_cv_cat]; exact hc) (by rw [ab_cv_cat]; exact hc2) (IHn _ _ _ _ q _ _ _ hP hS hl hn hL)
  | dup2 => obtain ⟨v, w, s', rfl, ⟨hc, hc2⟩, q⟩ := ab_2V_s q; exact lv_dup2_11 hx hb (hd _ rfl) (by rw [ab_cv_cat]; exact hc) (by rw [ab_cv_cat]; exact hc2) (IHn _ _ _ _ q _ _ _ hP hS hl hn hL)
  | goto off =>
    have q : ab_tg pc off (fun t => kn t lv st h) = some r := q
    obtain ⟨t, ht, q⟩ := ab_tg_s q
    exact lv_goto hx hb (hd _ rfl) ht (IHn _ _ _ _ q _ _ _ hP hS hl hn hL)
  | ifCond cd off =>
    have q : ab_tg pc off (fun t => ab_1I st (fun x r => ab_bI cd x 0 (kn t lv r h) (kn (pc + 3) lv r h))) = some r := q
    obtain ⟨t, ht, q⟩ := ab_tg_s q
    obtain ⟨x, s', rfl, q⟩ := ab_1I_s q
    have q := ab_bI_s q
    cases cd with
    | eq => exact lv_if_eq hx hb (hd _ rfl) ht (fun z => IHn _ _ _ _ (q.1 z) _ _ _ hP hS hl hn hL) (fun z => IHn _ _ _ _ (q.2 z) _ _ _ hP hS hl hn hL)
    | ne => exact lv_if_ne hx hb (hd _ rfl) ht (fun z => IHn _ _ _ _ (q.1 z) _ _ _ hP hS hl hn hL) (fun z => IHn _ _ _ _ (q.2 z) _ _ _ hP hS hl hn hL)
    | lt => exact lv_if_lt hx hb (hd _ rfl) ht (fun z => IHn _ _ _ _ (q.1 z) _ _ _ hP hS hl hn hL) (fun z => IHn _ _ _ _ (q.2 z) _ _ _ hP hS hl hn hL)
    | ge => exact lv_if_ge hx hb (hd _ rfl) ht (fun z => IHn _ _ _ _ (q.1 z) _ _ _ hP hS hl hn hL) (fun z => IHn _ _ _ _ (q.2 z) _ _ _ hP hS hl hn hL)
    | gt => exact lv_if_gt hx hb (hd _ rfl) ht (fun z => IHn _ _ _ _ (q.1 z) _ _ _ hP hS hl hn hL) (fun z => IHn _ _ _ _ (q.2 z) _ _ _ hP hS hl hn hL)
    | le => exact lv_if_le hx hb (hd _ rfl) ht (fun z => IHn _ _ _ _ (q.1 z) _ _ _ hP hS hl hn hL) (fun z => IHn _ _ _ _ (q.2 z) _ _ _ hP hS hl hn hL)
  | if_icmp cd off =>
    have q : ab_tg pc off (fun t => ab_2I st (fun x y r => ab_bI cd x y (kn t lv r h) (kn (pc + 3) lv r h))) = some r := q
    obtain ⟨t, ht, q⟩ := ab_tg_s q
    obtain ⟨x, y, s', rfl, q⟩ := ab_2I_s q
    have q := ab_bI_s q
    cases cd with
    | eq => exact lv_icmp_eq hx hb (hd _ rfl) ht (fun z => IHn _ _ _ _ (q.1 z) _ _ _ hP hS hl hn hL) (fun z => IHn _ _ _ _ (q.2 z) _ _ _ hP hS hl hn hL)
    | ne => exact lv_icmp_ne hx hb (hd _ rfl) ht (fun z => IHn _ _ _ _ (q.1 z) _ _ _ hP hS hl hn hL) (fun z => IHn _ _ _ _ (q.2 z) _ _ _ hP hS hl hn hL)
    | lt => exact lv_icmp_lt hx hb (hd _ rfl) ht (fun z => IHn _ _ _ _ (q.1 z) _ _ _ hP hS hl hn hL) (fun z => IHn _ _ _ _ (q.2 z) _ _ _ hP hS hl hn hL)
    | ge => exact lv_icmp_ge hx hb (hd _ rfl) ht (fun z => IHn _ _ _ _ (q.1 z) _ _ _ hP hS hl hn hL) (fun z => IHn _ _ _ _ (q.2 z) _ _ _ hP hS hl hn hL)
    | gt => exact lv_icmp_gt hx hb (hd _ rfl) ht (fun z => IHn _ _ _ _ (q.1 z) _ _ _ hP hS hl hn hL) (fun z => IHn _ _ _ _ (q.2 z) _ _ _ hP hS hl hn hL)
    | le => exact lv_icmp_le hx hb (hd _ rfl) ht (fun z => IHn _ _ _ _ (q.1 z) _ _ _ hP hS hl hn hL) (fun z => IHn _ _ _ _ (q.2 z) _ _ _ hP hS hl hn hL)
  | tableswitch df lo hi offs =>
    obtain ⟨x, s', rfl, q⟩ := ab_1I_s q
    rcases ab_ts_s q with ⟨hq, t, ht, q⟩ | ⟨⟨h1, h2⟩, off, ho, t, ht, q⟩
    · exact lv_tableOut hx hb (hd _ rfl) hq ht (IHn _ _ _ _ q _ _ _ hP hS hl hn hL)
    · exact lv_tableIn hx hb (hd _ rfl) h1 h2 ho ht (IHn _ _ _ _ q _ _ _ hP hS hl hn hL)
  | getfield i =>
    have q : (ab_fl o i).bind _ = some r := q
    obtain ⟨w, hw, q⟩ := Option.bind_eq_some_iff.mp q
    obtain ⟨a, s', rfl, q⟩ := ab_1R_s q
    obtain ⟨⟨h5, hci⟩, q⟩ := ab_ob_s q
    obtain ⟨rc, hrc, hj, hnf, hlk, -, -⟩ := ab_fl_spec hw
    have hk := ab_sh_k h5 (by omega) (by omega)
    have he := ab_w_get ad cA h hk
    rw [ab_ent_5 h5, hci] at he
    exact va_get (C := rc.1) (T := rc.2.1) (N := rc.2.2) (ci := w.1) (ref := (rc.2.1 w.2.1).1) hx hb hts (fun z hz => ab_tb_in ((ab_clsA _ _ hrc).1 z hz) (by obtain ⟨k, -, rfl⟩ := List.mem_map.mp hz; unfold u_lay; split <;> rfl)) hown hK hP a he hrc w.2.1 hj (hts _ (ab_tb_in hlk rfl)) (fun _ z => z) (v := ab_cv ad (ab_fv h a w.1 w.2.1)) (by simp [hnf, hj]) (hd _ rfl) (IHn _ _ _ _ q _ _ _ hP hS hl hn hL)
  | putfield i =>
    have q : (ab_fl o i).bind _ = some r := q
    obtain ⟨w, hw, q⟩ := Option.bind_eq_some_iff.mp q
    obtain ⟨rc, hrc, hj, hnf, hlk, hf0, hf1⟩ := ab_fl_spec hw
    obtain ⟨hin, ⟨ty0, hty⟩, hnm⟩ := ab_clsA _ _ hrc
    have hin2 : ∀ z ∈ u_ws rc.1 rc.2.1 rc.2.2, z ∈ ab_tb := fun z hz => ab_tb_in (hin z hz) (by obtain ⟨k, -, rfl⟩ := List.mem_map.mp hz; unfold u_lay; split <;> rfl)
    rcases ab_pf_s q with ⟨hf, x, a, s', rfl, ⟨h5, hci⟩, q⟩ | ⟨hf, x, a, s', rfl, ⟨h5, hci⟩, q⟩
    · have hk := ab_sh_k h5 (by omega) (by omega)
      have he := ab_w_get ad cA h hk
      rw [ab_ent_5 h5, hci] at he
      refine va_put (C := rc.1) (T := rc.2.1) (N := rc.2.2) (ci := w.1) (ref := (rc.2.1 w.2.1).1) (ty := .int) hx hb hts hin2 ty0 hty hnm hown hK hP (hDD h) hS a he hrc w.2.1 hj (hts _ (ab_tb_in hlk rfl)) (fun _ z => z) (hf0 hf).1 (hf0 hf).2 rfl rfl (by simp [hnf, hj]) (hd _ rfl) (fun H1 locs1 hP1 _ hS1 => ?_)
      rw [ab_w_sI (i := w.2.1) (x := x) (by
        rw [ab_ent_5 h5, hci]
        refine congrArg Sum.inr (congrArg (Prod.mk w.1) (ab_map_set (by rw [hnf]; exact hj) (by rw [ab_fv_sI_eq hf]) (fun i hi => by rw [ab_fv_sI hi])))) ] at hP1
      exact IHn _ _ _ _ q _ _ _ hP1 hS1 hl hn hL
    · have hk := ab_sh_k h5 (by omega) (by omega)
      have he := ab_w_get ad cA h hk
      rw [ab_ent_5 h5, hci] at he
      refine va_put (C := rc.1) (T := rc.2.1) (N := rc.2.2) (ci := w.1) (ref := (rc.2.1 w.2.1).1) (ty := .long) hx hb hts hin2 ty0 hty hnm hown hK hP (hDD h) hS a he hrc w.2.1 hj (hts _ (ab_tb_in hlk rfl)) (fun _ z => z) (hf1 hf).1 (hf1 hf).2 rfl rfl (by simp [hnf, hj]) (hd _ rfl) (fun H1 locs1 hP1 _ hS1 => ?_)
      rw [ab_w_sJ (i := w.2.1) (x := x) (by
        rw [ab_ent_5 h5, hci]
        refine congrArg Sum.inr (congrArg (Prod.mk w.1) (ab_map_set (by rw [hnf]; exact hj) (by rw [ab_fv_sJ_eq hf]) (fun i hi => by rw [ab_fv_sJ hi])))) ] at hP1
      exact IHn _ _ _ _ q _ _ _ hP1 hS1 hl hn hL
  | getstatic i =>
    obtain ⟨⟨h1, h2⟩, q⟩ := ab_if_s q
    subst h1; subst h2
    exact va_gets (C := "AbsentPost") (ref := "AbsentPost") hx hb hB.2.2.2.1 hS hown (hts _ (ab_tb_in (List.mem_of_getElem? ab_w_z) rfl)) (fun _ z => z) (hd _ rfl) (IHn _ _ _ _ q _ _ _ hP hS hl hn hL)
  | iaload =>
    obtain ⟨a, i, s', rfl, q⟩ := ab_RI_s q
    have q : ab_ld X h a i (fun x => kn (pc + 1) lv (.int x :: s') h) = some r := q
    rcases ab_ld_s q with ⟨⟨h1, h2⟩, q2⟩ | ⟨⟨h1, h2⟩, q2⟩ | ⟨⟨h1, h2⟩, q2⟩
    · have he := ab_w_get ad cA h (ab_sh_k h1 (by omega) (by omega))
      rw [ab_ent_1 h1] at he
      exact va_iald hx hb hK hP a 0 he rfl h2 (hd _ rfl) (IHn _ _ _ _ q2 _ _ _ hP hS hl hn hL)
    · have e : a = 80 := by
        unfold ab_sh at h1
        split at h1
        · rename_i z hz
          have hb2 : ∀ z ∈ ab_shT, z.1 ≠ 6 := by decide
          exact absurd h1 (hb2 z (List.mem_of_getElem? hz))
        · split at h1
          · assumption
          · split at h1 <;> cases h1
      subst e
      exact va_ti hx hb hB.2.2.2.2.1 hS h2 rfl (hd _ rfl) (IHn _ _ _ _ q2 _ _ _ hP hS hl hn hL)
    · have e : a = 81 := by
        unfold ab_sh at h1
        split at h1
        · rename_i z hz
          have hb2 : ∀ z ∈ ab_shT, z.1 ≠ 7 := by decide
          exact absurd h1 (hb2 z (List.mem_of_getElem? hz))
        · split at h1
          · cases h1
          · split at h1
            · assumption
            · cases h1
      subst e
      exact va_sld hx hb hB.2.2.2.2.2.1 (Nat.lt_of_lt_of_le hG.2 hB.1) (Nat.not_le.mpr hG.2) hS h2 (hd _ rfl) (IHn _ _ _ _ q2 _ _ _ hP hS hl hn hL)
  | baload =>
    obtain ⟨a, i, s', rfl, q⟩ := ab_RI_s q
    obtain ⟨h1, q⟩ := ab_if_s q
    obtain ⟨h1, h2⟩ := ab_inB_iff.mp h1
    have he := ab_w_get ad cA h (ab_sh_k h1 (by omega) (by omega))
    rw [ab_ent_2 h1] at he
    exact va_bald hx hb hK hP a 1 he rfl h2 (hd _ rfl) (IHn _ _ _ _ q _ _ _ hP hS hl hn hL)
  | laload =>
    obtain ⟨a, i, s', rfl, q⟩ := ab_RI_s q
    obtain ⟨h1, q⟩ := ab_if_s q
    obtain ⟨h1, h2⟩ := ab_inB_iff.mp h1
    have he := ab_w_get ad cA h (ab_sh_k h1 (by omega) (by omega))
    rw [ab_ent_3 h1] at he
    exact va_lald hx hb hK hP a 2 he rfl h2 (hd _ rfl) (IHn _ _ _ _ q _ _ _ hP hS hl hn hL)
  | aaload =>
    obtain ⟨a, i, s', rfl, q⟩ := ab_RI_s q
    obtain ⟨h1, q⟩ := ab_if_s q
    obtain ⟨h1, h2⟩ := ab_inB_iff.mp h1
    have he := ab_w_get ad cA h (ab_sh_k h1 (by omega) (by omega))
    rw [ab_ent_4 h1] at he
    have hlt2 : i.toNatClampNeg < (ab_sh a).2.1 := Nat.not_le.mp fun z => h2 (Or.inr z)
    have ht : ∃ ty : FieldType, (ab_ty cA)[3 + (ab_sh a).2.2]? = some (cA (3 + (ab_sh a).2.2), ty) ∧ ty.isReference = true := by
      have hb2 : ∀ z ∈ ab_shT, z.1 = 4 → z.2.2 = 0 ∨ z.2.2 = 1 ∨ z.2.2 = 2 := by decide
      have hz : ab_shT[a]? = some (ab_sh a) := by
        have h3 := ab_sh_k h1 (by omega) (by omega)
        unfold ab_sh
        cases hz : ab_shT[a]? with
        | none => rw [List.getElem?_eq_none_iff] at hz; rw [show ab_shT.length = 73 from rfl] at hz; omega
        | some z => rfl
      rcases hb2 _ (List.mem_of_getElem? hz) h1 with e | e | e <;> rw [e] <;> exact ⟨_, rfl, rfl⟩
    obtain ⟨ty, ht1, ht2⟩ := ht
    have hv : va_rf ((fun i => if i < (ab_sh a).2.1 then some (ad (ab_ra a i)) else none) i.toNatClampNeg) = .ref (ad (ab_ra a i.toNatClampNeg)) := by
      dsimp only
      rw [if_pos hlt2]
      rfl
    exact W.aald (v := .ref (ad (ab_ra a i.toNatClampNeg))) (ty := ty) hx hb (hP a _ he) ((hK.2 _ _ ht1).1 _ (fun j => va_rf ((fun i => if i < (ab_sh a).2.1 then some (ad (ab_ra a i)) else none) j))) ht2 (fun z => by cases z) (by show ¬ (i < 0 ∨ (arrV _ _ _).slots.size ≤ _); rw [arrV_size]; exact h2) (by show (arrV _ _ _).slots[_]? = _; rw [arrV_read _ _ hlt2, hv]) rfl rfl (hd _ rfl) (IHn _ _ _ _ q _ _ _ hP hS hl hn hL)
  | iastore =>
    obtain ⟨a, i, x, s', rfl, q⟩ := ab_RII_s q
    obtain ⟨h1, q⟩ := ab_if_s q
    obtain ⟨h1, h2⟩ := ab_inB_iff.mp h1
    have he := ab_w_get ad cA h (ab_sh_k h1 (by omega) (by omega))
    rw [ab_ent_1 h1] at he
    refine va_iast hx hb hK hP (hDD h) hS a 0 he rfl h2 (hd _ rfl) (fun H1 locs1 hP1 _ hS1 => ?_)
    rw [ab_w_sI (i := i.toNatClampNeg) (x := x) (by rw [ab_ent_1 h1, ab_sI_eq])] at hP1
    exact IHn _ _ _ _ q _ _ _ hP1 hS1 hl hn hL
  | bastore =>
    obtain ⟨a, i, x, s', rfl, q⟩ := ab_RII_s q
    obtain ⟨h1, q⟩ := ab_if_s q
    obtain ⟨h1, h2⟩ := ab_inB_iff.mp h1
    have he := ab_w_get ad cA h (ab_sh_k h1 (by omega) (by omega))
    rw [ab_ent_2 h1] at he
    refine va_bast hx hb hK hP (hDD h) hS a 1 he rfl h2 (hd _ rfl) (fun H1 locs1 hP1 _ hS1 => ?_)
    rw [ab_w_sI (i := i.toNatClampNeg) (x := x.toInt8.toInt32) (by rw [ab_ent_2 h1, ab_sI_eq, vp_nar_byte])] at hP1
    exact IHn _ _ _ _ q _ _ _ hP1 hS1 hl hn hL
  | lastore =>
    obtain ⟨a, i, x, s', rfl, q⟩ := ab_RIJ_s q
    obtain ⟨h1, q⟩ := ab_if_s q
    obtain ⟨h1, h2⟩ := ab_inB_iff.mp h1
    have he := ab_w_get ad cA h (ab_sh_k h1 (by omega) (by omega))
    rw [ab_ent_3 h1] at he
    refine va_last hx hb hK hP (hDD h) hS a 2 he rfl h2 (hd _ rfl) (fun H1 locs1 hP1 _ hS1 => ?_)
    rw [ab_w_sJ (i := i.toNatClampNeg) (x := x) (by rw [ab_ent_3 h1, ab_sJ_eq])] at hP1
    exact IHn _ _ _ _ q _ _ _ hP1 hS1 hl hn hL
  | arraylength =>
    obtain ⟨a, s', rfl, q⟩ := ab_1R_s q
    have q : ab_ln X a (fun x => kn (pc + 1) lv (.int x :: s') h) = some r := q
    rcases ab_ln_s q with ⟨h1, q⟩ | ⟨h1, q⟩ | ⟨h1, q⟩
    · rcases h1 with h1 | h1
      · have he := ab_w_get ad cA h (ab_sh_k h1 (by omega) (by omega))
        rw [ab_ent_1 h1] at he
        exact va_alen hx hb hK hP a 0 he (ty := .int) rfl rfl (hd _ rfl) (IHn _ _ _ _ q _ _ _ hP hS hl hn hL)
      · have he := ab_w_get ad cA h (ab_sh_k h1 (by omega) (by omega))
        rw [ab_ent_2 h1] at he
        exact va_alen hx hb hK hP a 1 he (ty := .byte) rfl rfl (hd _ rfl) (IHn _ _ _ _ q _ _ _ hP hS hl hn hL)
    · have e : a = 80 := by
        unfold ab_sh at h1
        split at h1
        · rename_i z hz
          have hb2 : ∀ z ∈ ab_shT, z.1 ≠ 6 := by decide
          exact absurd h1 (hb2 z (List.mem_of_getElem? hz))
        · split at h1
          · assumption
          · split at h1 <;> cases h1
      subst e
      exact va_tlen hx hb hB.2.2.2.2.1 hS rfl (hd _ rfl) (IHn _ _ _ _ q _ _ _ hP hS hl hn hL)
    · have e : a = 81 := by
        unfold ab_sh at h1
        split at h1
        · rename_i z hz
          have hb2 : ∀ z ∈ ab_shT, z.1 ≠ 7 := by decide
          exact absurd h1 (hb2 z (List.mem_of_getElem? hz))
        · split at h1
          · cases h1
          · split at h1
            · assumption
            · cases h1
      subst e
      exact va_slen hx hb hB.2.2.2.2.2.1 (Nat.lt_of_lt_of_le hG.2 hB.1) (Nat.not_le.mpr hG.2) hS (hd _ rfl) (IHn _ _ _ _ q _ _ _ hP hS hl hn hL)
  | invokestatic i =>
    have q : (if (ab_ac o i).isSome = true then _ else _) = some r := q
    by_cases hac : (ab_ac o i).isSome = true
    · rw [if_pos hac] at q
      obtain ⟨a, sp, b, dp, n, s', rfl, q⟩ := ab_5_s q
      obtain ⟨hw8, q⟩ := ab_if_s q
      obtain ⟨⟨c1, c2, c3, c4, c5⟩, q⟩ := ab_cp_s q
      have hlo : ((s'.map (ab_cv ad)).map fun v => v.category).sum + (nativeFrameWords "java/lang/System" "arraycopy" 5 + 11) ≤ R.locals := by
        rw [ab_ws_cv, show nativeFrameWords "java/lang/System" "arraycopy" 5 = 7 by decide]
        have := hR.2
        omega
      rcases q with ⟨⟨h1, h2⟩, q⟩ | ⟨⟨h1, h2⟩, q⟩
      · have he := ab_w_get ad cA h (ab_sh_k h1 (by omega) (by omega))
        rw [ab_ent_1 h1] at he
        have he2 := ab_w_get ad cA h (ab_sh_k h2 (by omega) (by omega))
        rw [ab_ent_1 h2] at he2
        refine va_copyi (ty := .int) hx hb (hml.trans hl.1.symm) hown (hts _ (ab_tb_in (ab_ac_spec hac) rfl)) (hts _ (ab_tb_in ab_w_nat.1 rfl)) (hts _ (ab_tb_in ab_w_nat.2.1 rfl)) (hts _ (ab_tb_in ab_w_nat.2.2 rfl)) hK hP (hDD h) hS a b 0 0 he he2 rfl rfl rfl c1 c2 c3 c4 c5 (fun _ _ => rfl) (by have := hR.1; omega) hlo (hd _ rfl) (fun H1 locs1 hP1 _ hS1 => ?_)
        rw [ab_w_cI (a := a) (sp := sp.toNatClampNeg) (dp := dp.toNatClampNeg) (n := n.toNatClampNeg) (by rw [ab_ent_1 h2, ab_cI_eq])] at hP1
        exact IHn _ _ _ _ q _ _ _ hP1 hS1 hl hn hL
      · have he := ab_w_get ad cA h (ab_sh_k h1 (by omega) (by omega))
        rw [ab_ent_3 h1] at he
        have he2 := ab_w_get ad cA h (ab_sh_k h2 (by omega) (by omega))
        rw [ab_ent_3 h2] at he2
        refine va_copyl (ty := .long) hx hb (hml.trans hl.1.symm) hown (hts _ (ab_tb_in (ab_ac_spec hac) rfl)) (hts _ (ab_tb_in ab_w_nat.1 rfl)) (hts _ (ab_tb_in ab_w_nat.2.1 rfl)) (hts _ (ab_tb_in ab_w_nat.2.2 rfl)) hK hP (hDD h) hS a b 2 2 he he2 rfl rfl rfl c1 c2 c3 c4 c5 (fun _ _ => rfl) (by have := hR.1; omega) hlo (hd _ rfl) (fun H1 locs1 hP1 _ hS1 => ?_)
        rw [ab_w_cJ (a := a) (sp := sp.toNatClampNeg) (dp := dp.toNatClampNeg) (n := n.toNatClampNeg) (by rw [ab_ent_3 h2, ab_cJ_eq])] at hP1
        exact IHn _ _ _ _ q _ _ _ hP1 hS1 hl hn hL
    · rw [if_neg hac] at q
      obtain ⟨w, hw, q⟩ := Option.bind_eq_some_iff.mp q
      obtain ⟨E, hE, hM, hnp, hini, hk0, hk1, hk2, hk3, hk4, hk5, hkk⟩ := ab_cl_spec hw
      split at q
      · rename_i hkind
        obtain ⟨g1, g2, q⟩ := ab_cal_s q
        obtain ⟨g3, q⟩ := ab_if_s q
        obtain ⟨z, d', q, rfl, hCt⟩ := IHc _ _ _ _ q
        obtain ⟨m1, m2, m3, m4⟩ := hkk (by omega)
        have hMet := hCt g3 hM (fun E' hE' => by rw [hE] at hE'; cases hE'; exact ⟨m2, m4⟩) E hE
        have hst : (st.map (ab_cv ad)) = ((st.take w.2.1).reverse.map (ab_cv ad)).reverse ++ (st.drop w.2.1).map (ab_cv ad) := by
          rw [← List.map_reverse, List.reverse_reverse, ← List.map_append, List.take_append_drop]
        have hlen : ((st.take w.2.1).reverse.map (ab_cv ad)).length = w.2.1 := by simp; omega
        have hpS : PreS s H (va_Pc ((st.take w.2.1).reverse.map (ab_cv ad)) (ab_B D base ad cA X h)) ((st.take w.2.1).reverse.map (ab_cv ad)) := ⟨ab_blind _ _ _ _ _ _ _, fun U hU hW => ⟨rfl, ab_preE hG hB hP hS hU hW⟩⟩
        rcases hkind with hkind | hkind
        · exact ab_back (va_runS (nL := nL) (Ts := ab_tb) (own := ab_onm o) ⟨hx, hb, hml, hown, hts⟩ hMet ⟨ab_callB hts hE hM hnp hini m1 m3 (hk0 hkind).1 hR, hts _ (ab_tb_in (hk0 hkind).2 rfl)⟩ hpS rfl hlen hl.1 hst (lv_room (by rw [ab_ws_cv]; exact g2)) (hd _ rfl) hcs) hS (fun H1 locs1 hP1 hS1 => IHn _ _ _ _ q _ _ _ hP1 hS1 hl hn hL)
        · exact ab_back (va_runSN (nL := nL) (Ts := ab_tb) (own := ab_onm o) (host := "AbsentPost") ⟨hx, hb, hml, hown, hts⟩ hMet ⟨va_cnB w.2.1 hts (ab_goodIn hM hE) rfl rfl rfl (hB.2.2.2.2.2.2 _ _ _ _ (hk1 hkind).1) (hts _ (ab_tb_in hini rfl)) ⟨m3.1, m3.2, hnp⟩ ⟨hR.1, by show 8 + (E.2.2.1 + 11) + 100 * (d' + 1) ≤ R.locals; have := hR.2; omega⟩, hts _ (ab_tb_in (hk1 hkind).2 rfl), trivial⟩ hpS rfl hlen hl.1 hst (lv_room (by rw [ab_ws_cv]; exact g2)) (hd _ rfl) hcs) hS (fun H1 locs1 hP1 hS1 => IHn _ _ _ _ q _ _ _ hP1 hS1 hl hn hL)
      · have hfr : 1 ≤ R.frames := by have := hR.1; omega
        split at q
        · rename_i hkind
          obtain ⟨x, y, s', rfl, q⟩ := ab_2I_s q
          obtain ⟨hw8, q⟩ := ab_if_s q
          exact va_mmax hx hb (hml.trans hl.1.symm) hown (hts _ (ab_tb_in (hk3 hkind) rfl)) (hts _ (ab_tb_in ab_w_math.1 rfl)) (hts _ (ab_tb_in ab_w_math.2.2.2 rfl)) (hts _ (ab_tb_in ab_w_max rfl)) hfr (by rw [ab_ws_cv]; have := hR.2; omega) hcs.1 hcs.2 (hd _ rfl) (IHn _ _ _ _ q _ _ _ hP hS hl hn hL)
        · split at q
          · rename_i hkind
            obtain ⟨x, y, s', rfl, q⟩ := ab_2I_s q
            obtain ⟨hw8, q⟩ := ab_if_s q
            exact va_mmin hx hb (hml.trans hl.1.symm) hown (hts _ (ab_tb_in (hk4 hkind) rfl)) (hts _ (ab_tb_in ab_w_math.2.1 rfl)) (hts _ (ab_tb_in ab_w_math.2.2.2 rfl)) (hts _ (ab_tb_in ab_w_min rfl)) hfr (by rw [ab_ws_cv]; have := hR.2; omega) hcs.1 hcs.2 (hd _ rfl) (IHn _ _ _ _ q _ _ _ hP hS hl hn hL)
          · obtain ⟨hkind, q⟩ := ab_if_s q
            obtain ⟨x, s', rfl, q⟩ := ab_1I_s q
            obtain ⟨hw8, q⟩ := ab_if_s q
            exact va_mabs hx hb (hml.trans hl.1.symm) hown (hts _ (ab_tb_in (hk5 hkind) rfl)) (hts _ (ab_tb_in ab_w_math.2.2.1 rfl)) (hts _ (ab_tb_in ab_w_math.2.2.2 rfl)) (hts _ (ab_tb_in ab_w_abs rfl)) hfr (by rw [ab_ws_cv]; have := hR.2; omega) hcs.1 hcs.2 (hd _ rfl) (IHn _ _ _ _ q _ _ _ hP hS hl hn hL)
  | invokevirtual i =>
    have q : (ab_cl o i).bind _ = some r := q
    obtain ⟨w, hw, q⟩ := Option.bind_eq_some_iff.mp q
    obtain ⟨E, hE, hM, hnp, hini, hk0, hk1, hk2, hk3, hk4, hk5, hkk⟩ := ab_cl_spec hw
    obtain ⟨hkind, q⟩ := ab_if_s q
    obtain ⟨g1, g2, q⟩ := ab_cal_s q
    obtain ⟨b, s', hs', q⟩ := ab_1R_s q
    obtain ⟨g3, q⟩ := ab_if_s q
    obtain ⟨⟨h5, hci⟩, q⟩ := ab_ob_s q
    obtain ⟨z, d', q, rfl, hCt⟩ := IHc _ _ _ _ q
    obtain ⟨m1, m2, m3, m4⟩ := hkk (by omega)
    have hMet := hCt g3 hM (fun E' hE' => by rw [hE] at hE'; cases hE'; exact ⟨m2, m4⟩) E hE
    obtain ⟨k1, k2, k3, rc, hrc, hrcn⟩ := hk2 hkind
    have hmo : ab_mo w.1 = E.2.2.2.2.1 := by unfold ab_mo; rw [hE]
    rw [hmo] at hci
    have hst : (st.map (ab_cv ad)) = ((st.take w.2.1).reverse.map (ab_cv ad)).reverse ++ .ref (ad b) :: s'.map (ab_cv ad) := by
      rw [← List.map_reverse, List.reverse_reverse, show Value.ref (ad b) :: s'.map (ab_cv ad) = (Value.ref b :: s').map (ab_cv ad) from rfl, ← hs', ← List.map_append, List.take_append_drop]
    have hlen : ((st.take w.2.1).reverse.map (ab_cv ad)).length = w.2.1 := by simp; omega
    have he := ab_w_get ad cA h (ab_sh_k h5 (by omega) (by omega))
    rw [ab_ent_5 h5, hci] at he
    have hrec := va_recv hK hP hrc he
    rw [hrcn] at hrec
    have hw9 : ab_ws s' ≤ 8 := by
      rw [hs'] at g2
      unfold ab_ws at g2 ⊢
      simp only [List.map_cons, List.sum_cons] at g2
      omega
    have hpV : PreV s H E.1.cls (ad b) (va_Pc ((Value.ref b :: (st.take w.2.1).reverse).map (ab_cv ad)) (ab_B D base ad cA X h)) ((st.take w.2.1).reverse.map (ab_cv ad)) := ⟨ab_blind _ _ _ _ _ _ _, hrec, fun U hU hW => ⟨rfl, ab_preE hG hB hP hS hU hW⟩⟩
    exact ab_back (va_runV (nL := nL) (Ts := ab_tb) (own := ab_onm o) ⟨hx, hb, hml, hown, hts⟩ hMet ⟨ab_callB hts hE hM hnp hini m1 m3 k1 hR, hts _ (ab_tb_in k2 rfl), hts _ (ab_tb_in k3 rfl)⟩ hpV rfl hlen hl.1 hst (lv_room (by rw [ab_ws_cv]; exact hw9)) (hd _ rfl) hcs) hS (fun H1 locs1 hP1 hS1 => IHn _ _ _ _ q _ _ _ hP1 hS1 hl hn hL)
  | ireturn =>
    obtain ⟨x, s', rfl, q⟩ := ab_1I_s q
    have q : (if s' = [] ∧ ab_rk rt x = true then some (some (Value.int x), h) else none) = some r := q
    obtain ⟨⟨hs0, hk⟩, q2⟩ := ab_if_s q
    have q3 := (Option.some.inj q2).symm
    subst hs0
    subst q3
    exact hend _ _ _ hP hS ⟨hk, hd _ rfl, rfl⟩
  | lreturn =>
    obtain ⟨x, s', rfl, q⟩ := ab_1J_s q
    have q : (if s' = [] ∧ rt = some .long then some (some (Value.long x), h) else none) = some r := q
    obtain ⟨⟨hs0, hk⟩, q2⟩ := ab_if_s q
    have q3 := (Option.some.inj q2).symm
    subst hs0
    subst q3
    exact hend _ _ _ hP hS ⟨hk, hd _ rfl, rfl⟩
  | return_ =>
    have q : (if st = [] ∧ rt = none then some (none, h) else none) = some r := q
    obtain ⟨⟨hs0, hk⟩, q2⟩ := ab_if_s q
    have q3 := (Option.some.inj q2).symm
    subst hs0
    subst q3
    exact hend _ _ _ hP hS ⟨hk, hd _ rfl, rfl⟩
  | _ => cases q
end
abbrev ab_SimE (l : Launch) (D : va_G) (base : Nat) (ad : Nat → Nat) (cA : Nat → ClassId) (X : ab_X) (n : Nat) : Prop :=
  ∀ (d M pc : Nat) (lv st : List Value) (h : ab_H) (r : ab_R), ab_xF X n d M pc lv st h = some r →
    ∀ {p : Program} {e : Env} {R : Room} {s : State} {m : MethodId} {args : Array Value} {below : List Frame} {meth : Method} {c : Code} {H : Heap} {locs : List Loc} {cells slots : Nat} {Q : State → Prop} {E : ab_E} {ls : Array Slot},
    ab_mt[M]? = some E → p.tables.exec = Jvm.exec → c.code = E.2.1 → c.maxLocals = E.2.2.1 → s.vm.findClass (ab_onm E.2.2.2.2.1) = some m.cls → (∀ w ∈ ab_tb, w.before args s = true) → ab_Bx D base ad cA X s → (d + 1 ≤ R.frames ∧ 100 * (d + 1) ≤ R.locals) → (cells ≤ R.cells ∧ slots ≤ R.slots) →
    va_P D vwCl (ab_w ad cA h) H → va_S (ab_A base) s.heap H locs → lv_has ls E.2.2.1 (ab_lp ad lv) → lv.length = E.2.2.1 → ab_Lok (ab_Lg M) lv →
    (∀ (H : Heap) (locs : List Loc) (ls : Array Slot) (pc : Nat) (st : List Value), va_P D vwCl (ab_w ad cA r.2) H → va_S (ab_A base) s.heap H locs → ab_End E.2.2.2.1 E.2.1 r.1 pc st → W p l e R s m args below meth c H locs cells slots Q (F0 m pc ls (st.map (ab_cv ad)))) →
    W p l e R s m args below meth c H locs cells slots Q (F0 m pc ls (st.map (ab_cv ad)))
set_option maxHeartbeats 1000000 in
theorem ab_simE (l : Launch) {D : va_G} {base : Nat} {ad : Nat → Nat} {cA : Nat → ClassId} {X : ab_X} (hG : ab_G base ad cA) : ∀ n, ab_SimE l D base ad cA X n
  | 0 => fun _ _ _ _ _ _ _ q => by cases q
  | n + 1 => by
    intro d M pc lv st h r q p e R s m args below meth c H locs cells slots Q E ls hE hx hb hml hown hts hB hR hcs hP hS hl hn hL hend
    have ih := ab_simE l (D := D) (X := X) hG n
    rw [ab_xF_s] at q
    unfold ab_sp at q
    cases hlk : ab_lk M pc with
    | none => rw [hlk] at q; cases q
    | some w =>
      rw [hlk] at q
      obtain ⟨w1, w2, len, w3⟩ := ab_lk_spec hE hlk
      dsimp only at q
      rw [w1, w2] at q
      have ihs := ab_sim l (D := D) (X := X) hG n
      refine ab_stepE (d := d) (len := len) hx hb hml hown hts hG hB hR hcs (fun n hn => by rw [hn]; exact w3) hP hS hl hn hL ?_ ?_ ?_ q
      · intro pc lv st h q H locs ls hP hS hl hn hL
        exact ih d M pc lv st h r q hE hx hb hml hown hts hB hR hcs hP hS hl hn hL hend
      · intro m' as h k q
        cases d with
        | zero => cases q
        | succ d =>
          dsimp only at q
          obtain ⟨z, hz, q⟩ := Option.bind_eq_some_iff.mp q
          exact ⟨z, d, q, rfl, fun g1 _ g3 => ab_ctr ihs hz g1 g3⟩
      · intro H locs ls hP hS he
        exact hend H locs ls pc st hP hS he
