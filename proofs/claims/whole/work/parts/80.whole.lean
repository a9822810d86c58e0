/-! the whole -/
theorem wk_df3 : ∀ j, j < 15 → defaultValue (tyX3 j) = vp_V [.null, .null, .null, .null, .null, .null, .null, .null, .null, .null, .null, .int 0, .int 0, .long 0, .long 0] j := by decide
theorem wk_df4 : ∀ j, j < 25 → defaultValue (tyX4 j) = vp_V [.null, .int 0, .null, .null, .null, .null, .null, .null, .int 0, .null, .int 0, .long 0, .long 0, .int 0, .null, .null, .int 0, .int 0, .int 0, .int 0, .int 0, .null, .int 0, .int 0, .long 0] j := by decide
theorem wk193_new3 : Cond.classLink (ab_onm 5) 7 RX3 ∈ ab_tb ∧ Cond.instantiable RX3 15 ∈ ab_tb ∧ Cond.initialized RX3 ∈ ab_tb := ⟨ab_tb_in (by decide +kernel) rfl, ab_tb_in (by decide +kernel) rfl, ab_tb_in (by decide +kernel) rfl⟩
theorem wk193_new4 : Cond.classLink (ab_onm 5) 10 RX4 ∈ ab_tb ∧ Cond.instantiable RX4 25 ∈ ab_tb ∧ Cond.initialized RX4 ∈ ab_tb := ⟨ab_tb_in (by decide +kernel) rfl, ab_tb_in (by decide +kernel) rfl, ab_tb_in (by decide +kernel) rfl⟩
theorem wk193_init0 : Cond.initialized ab_e0.1.cls ∈ ab_tb ∧ Cond.methodLink (ab_onm 5) 9 ab_e0.1 ∈ ab_tb ∧ Cond.instanceMethod ab_e0.1 ∈ ab_tb := ⟨ab_tb_in (by decide +kernel) rfl, ab_tb_in (by decide +kernel) rfl, ab_tb_in (by decide +kernel) rfl⟩
theorem wk193_init104 : Cond.initialized ab_e104.1.cls ∈ ab_tb ∧ Cond.methodLink (ab_onm 5) 12 ab_e104.1 ∈ ab_tb ∧ Cond.instanceMethod ab_e104.1 ∈ ab_tb := ⟨ab_tb_in (by decide +kernel) rfl, ab_tb_in (by decide +kernel) rfl, ab_tb_in (by decide +kernel) rfl⟩
set_option maxHeartbeats 4000000 in
set_option maxRecDepth 20000 in
/-- from the entry, for every script of at most 384 ints, the law comes to its end with true -/
theorem whole_start {p : Program} {e : Env} {s : State} {m : MethodId} {below : List Frame} {meth : Method} {c : Code} (l : Launch) {b L : Nat} {xs : Nat → Int32} (hL : L ≤ 384) (C0 : lw_At p s m meth c b L xs) : W p l e room_1 s m #[Value.ref b] below meth c s.heap [] 0 0 (lw_Z below #[Value.ref b] s) (entryFrame m ([Value.ref b] : List Value).toArray 4) := by
  obtain ⟨hx, hb, hr, hml, hown, htl, hXs, hbl, hlocks, hg⟩ := C0
  have hown : s.vm.findClass (ab_onm 5) = some m.cls := hown
  have hts : ∀ w ∈ ab_tb, w.before #[Value.ref b] s = true := fun w hw => htl w (List.mem_filter.mp hw).1
  obtain ⟨D, cA, hK, hX⟩ := ks_known htl
  obtain ⟨t, hZ, hT⟩ := ks_kl (A := ab_A s.heap.size) hg htl (fun a ha => Nat.not_le.mpr ha)
  have C : ck_C p s m #[Value.ref b] c code 4 5 D cA := ⟨hx, hb, hml, hown, hts, hK⟩
  have h : ck_W D (ab_A s.heap.size) s [] s.heap [] := ⟨fun k q hk => (by cases hk), ⟨fun i j p q hi => (by cases hi), fun k q hk => (by cases hk)⟩, va_S.rf, fun _ z => z⟩
  have hl := lv_entry ([.ref b]) (n := 4) (Nat.le_of_ble_eq_true rfl)
  rw [lg_entry_eq]
  generalize (lg_sl ([.ref b]) ++ List.replicate (4 - (lg_sl ([.ref b])).length) Slot.unset).toArray = ls at hl ⊢
  have hl : lv_has ls 4 [(0, .ref b)] := hl
  refine ck_new C h (cj := 3) (r := (RX3, TX3, 15)) (ty0 := tyX3) (gs := [.null, .null, .null, .null, .null, .null, .null, .null, .null, .null, .null, .int 0, .int 0, .long 0, .long 0]) rfl tyX3_ok wk_df3 wk193_new3.1 wk193_new3.2.1 wk193_new3.2.2 (Nat.le_of_ble_eq_true rfl) (Nat.le_of_ble_eq_true rfl) dk193_0 (fun x H h => ?_)
  refine lv_dup hx hb dk193_3 rfl ?_
  refine ck_call0 (wr := []) C hX h hl.1 wk193_init0.1 wk193_init0.2.1 wk193_init0.2.2 ⟨(Nat.le_of_ble_eq_true rfl), (Nat.le_of_ble_eq_true rfl)⟩ (Nat.le_of_ble_eq_true rfl) ⟨(Nat.le_of_ble_eq_true rfl), (Nat.le_of_ble_eq_true rfl)⟩ dk193_4 (fun u H locs h => ?_)
  refine lv_astore_n (lv' := [(1, .ref x), (0, .ref b)]) hx hb dk193_7 rfl hl (by decide) rfl (fun ls hl => ?_)
  refine ck_new C h (cj := 4) (r := (RX4, TX4, 25)) (ty0 := tyX4) (gs := [.null, .int 0, .null, .null, .null, .null, .null, .null, .int 0, .null, .int 0, .long 0, .long 0, .int 0, .null, .null, .int 0, .int 0, .int 0, .int 0, .int 0, .null, .int 0, .int 0, .long 0]) rfl tyX4_ok wk_df4 wk193_new4.1 wk193_new4.2.1 wk193_new4.2.2 (Nat.le_of_ble_eq_true rfl) (Nat.le_of_ble_eq_true rfl) dk193_8 (fun y H h => ?_)
  refine lv_dup hx hb dk193_11 rfl ?_
  refine ck_call C h hl.1 (M := 104) (E := ab_e104) rfl (by decide) (cn104 l D cA) ⟨rfl, rfl, by decide +kernel, by decide +kernel, by decide +kernel⟩ wk193_init104.1 wk193_init104.2.1 wk193_init104.2.2 ⟨(Nat.le_of_ble_eq_true rfl), (Nat.le_of_ble_eq_true rfl)⟩ (Nat.le_of_ble_eq_true rfl) ⟨(Nat.le_of_ble_eq_true rfl), (Nat.le_of_ble_eq_true rfl)⟩ dk193_12 (fun v H locs h => ?_)
  refine lv_astore_n (lv' := [(2, .ref y), (1, .ref x), (0, .ref b)]) hx hb dk193_15 rfl hl (by decide) rfl (fun ls hl => ?_)
  have h : ck_W D (ab_A s.heap.size) s (cw0 cA x u ++ cw104 cA y v) H locs := h
  obtain ⟨hP, hD, hS, hA⟩ := h
  have hG : ab_G s.heap.size (kad x u y v t b) cA := ⟨fun k => kw_D hD k, hbl⟩
  have hB : ab_Bx D s.heap.size (kad x u y v t b) cA (L, xs) s := ⟨Nat.le_refl _, trivial, hK, hZ, hT, hXs, fun a i z w hw => va_Nw.of rfl (htl _ hw)⟩
  obtain ⟨k', e⟩ := lw_all (L, xs) 0 hL .null k0_inv
  obtain ⟨n, e⟩ := ab_ex_some.mp e
  refine W.widen (k := 600000) (n := 7302250) (Nat.le_of_ble_eq_true rfl) (Nat.le_of_ble_eq_true rfl) ?_
  refine ab_simE l (X := (L, xs)) hG n 31 193 16 [.ref 81, .ref 0, .ref 29, .null] [] k0 _ e (E := ab_e193) rfl hx hb hml hown hts hB ⟨(Nat.le_of_ble_eq_true rfl), (Nat.le_of_ble_eq_true rfl)⟩ ⟨(Nat.le_of_ble_eq_true rfl), (Nat.le_of_ble_eq_true rfl)⟩ (kw_P hP) hS ?_ rfl ?_ ?_
  · exact lv_sub hl [2, 1, 0] rfl
  · intro j w hw hc
    match j, hw with
    | 0, hw => cases hw; cases hc
    | 1, hw => cases hw; cases hc
    | 2, hw => cases hw; cases hc
    | 3, hw => cases hw; cases hc
  · intro H locs ls pc st hP hS hend
    obtain ⟨-, hd, rfl⟩ := hend
    refine va_forget (fun q hq => hS.2.2 q hq) ?_
    exact lw_ret hx hb hr hlocks hd
set_option maxHeartbeats 4000000 in
theorem lw_walk (l : Launch) (b : Addr) (xs : List Int32) : MetFree l x (headSpec (Jvm.Cond.code x code maxLocals ret :: tables_1) room_1) (lw_P b xs) (fun _ _ _ _ _ => True) lw_Q := by
  refine MetFree.of_bodyS (code := code) (maxLocals := maxLocals) (ret := ret) (by decide) ?_ ?_
  · intro args s m h hn
    obtain ⟨meth, c, h1, h2, h3, h4, h5, h6, -, -⟩ := Cond.code_spec hn (atoms_spec (ws := Jvm.Cond.code x code maxLocals ret :: tables_1) h _ List.mem_cons_self)
    exact ⟨meth, c, h1, h2, h3, h4, h5, h6⟩
  · intro p e s m args below meth c s₁ B hml0 hP _
    obtain ⟨rfl, hx, hbd, hgv⟩ := hP
    obtain ⟨scr, harrAt, hlist, hof, hsmall⟩ := hx
    obtain ⟨hcb, hkn, -, -⟩ := State.arrayAt?_spec harrAt
    have hown : s.vm.findClass R_law = some m.cls := findClass_of_methodNamed B.named
    have hts0 : ∀ c ∈ (Jvm.Cond.code x code maxLocals ret :: tables_1), c.before #[Value.ref b] s = true := atoms_spec (ws := Jvm.Cond.code x code maxLocals ret :: tables_1) B.pre
    have hts : ∀ w ∈ lw_tbl, w.before #[Value.ref b] s = true := k2_hts_sels lw_privs (fun w hw => hts0 w (List.mem_cons_of_mem _ hw)) lw_privs_ok
    have hml : c.maxLocals = 4 := B.maxLocals_eq (hts0 _ List.mem_cons_self)
    have X₀ : Stand p l e room_1 s m #[Value.ref b] below meth c s₁ [] 0 0 := Stand.of_body B
    have hh0 : s₁.heap = s.heap := by rw [B.state]; rfl
    have hsz : scr.slots.size = xs.length := by rw [← Array.length_toList, hlist, List.length_map]
    have hval : ∀ j : Nat, j < xs.length → scr.slots[j]? = some (.int (xs.getD j 0)) := fun j hj => by
      rw [← Array.getElem?_toList, hlist]
      simp [hj]
    have hbl : b < s.heap.size := (Array.getElem?_eq_some_iff.mp hcb).1
    have hX : va_X b xs.length (fun j => xs.getD j 0) s s.heap := ⟨scr, hcb, hof, hkn, hsz, hval⟩
    have K : W p l e room_1 s m #[Value.ref b] below meth c s₁.heap [] 0 0 (lw_Z below #[Value.ref b] s) (entryFrame m ([Value.ref b] : List Value).toArray 4) := by
      rw [hh0]
      exact whole_start l hbd ⟨B.exec, B.bytes, B.returns, hml, hown, hts, hX, hbl, B.notSynchronized, hgv⟩
    obtain ⟨t, a1, o, b1, b2, b3⟩ := K s₁ rfl X₀
    exact ⟨t, o, a1, b1, b2, b3⟩
theorem lw_pre_spec {args : Array Value} {s : State} (h : (Jvm.Cond.and given_1 narrow_1).before args s = true) (hr : rest_1_c.before args s = true) : ∃ (b : Addr) (xs : List Int32), lw_P b xs args s := by
  have hs := flat_of_before _ h
  have hq := flat_of_before _ hr
  have hc : (Cond.count 1).before args s = true := hs _ (by decide +kernel)
  have harr : (Cond.arrayOf (.arg 0) .int).before args s = true := hs _ (by decide +kernel)
  have hle : (Cond.le (.length (.arg 0)) (.int 384)).before args s = true := hs _ (by decide +kernel)
  have hlen : (Cond.isInt (.length (.arg 0))).before args s = true := hq _ (by decide +kernel)
  have hall : (Cond.all (.arg 0) (.isInt (.elem (.arg 0) (.index 0)))).before args s = true := hq _ (by decide +kernel)
  obtain ⟨b, xs, hb, hx⟩ := State.ints_of_pre rfl harr hlen hall
  have hsm : xs.length < 2 ^ 31 := hx.choose_spec.2.2.2
  have hev : (Term.length (.arg 0)).eval args s none [] s = some (.int xs.length.toInt32) := hx.length_eval hb
  have hv := Cond.le_ints hev (show (Term.int 384).eval args s none [] s = some (.int 384) from rfl)
  have hd : xs.length.toInt32 ≤ 384 := by
    simpa [Cond.before, Cond.holds, hv] using hle
  have hN : xs.length ≤ 384 := (Int32.ofNat_le_ofNat hsm (by decide)).mp (show Int32.ofNat xs.length ≤ Int32.ofNat 384 from hd)
  exact ⟨b, xs, Cond.one_arg hc (show args[0]? = some (.ref b) from hb), hx, hN, h⟩
theorem lw_comes (l : Launch) : Comes l x (Jvm.Cond.code x code maxLocals ret :: tables_1) room_1 (fun tb e args s => Calls_1 tb e args s ∧ rest_1 tb e args s ∧ Pre_1 tb e args s)
    (fun _ _ args s o t => lw_Q args s o t) := by
  intro p e ha hc hk s m args below hf hfit hheap happ hpre
  obtain ⟨b, xs, hP⟩ := lw_pre_spec hpre.2.2 hpre.2.1
  obtain ⟨k, o, h1, h2, h3, hQ⟩ := lw_walk l b xs p e ha hc hk s m args below hf ((Spec.applies_iff_loose hf).mp happ).1 hP trivial
  exact ⟨k, o, h1, h2, h3, hQ⟩
theorem lw_frame {s t : State} {o : Outcome} {args : Array Value} (h : Framed s o t [] 600000 7302250) :
    Framed s o t (fieldLocs frame_1_writes args s ++ arrayLocs frame_1_arrays args s ++ staticLocs frame_1_statics s) 600000 7302250 := h
theorem lw_limb (L : Cond) (hL : ∀ (args : Array Value) (s t : State), L.after args s (.returned (some (.int 1))) t = true) :
    ArmFor flags0 classFile x code maxLocals ret World_1 tables_1 room_1 Calls_1 rest_1 Pre_1
      (fun tb e a s o t => postC L tb e a s o t ∧ Framed s o t (fieldLocs frame_1_writes a s ++ arrayLocs frame_1_arrays a s ++ staticLocs frame_1_statics s) 600000 7302250) := by
  intro l _ _ _ p e ha hc hk s m args below hf hfit hheap happ hpre
  obtain ⟨k, o, h1, h2, h3, rfl, hF⟩ := lw_comes l p e ha hc hk s m args below hf hfit hheap happ hpre
  exact ⟨k, _, h1, h2, h3, hL args s _, lw_frame hF⟩
theorem i_vc : Claimed_1_1 ∧ Claimed_1_2 := ⟨lw_limb limb_1_1 (fun args s t => by simp [limb_1_1, Cond.after, Cond.holds, Cond.value]), lw_limb limb_1_2 (fun args s t => Cond.after_iff.mpr (by
  first | (rw [show limb_1_2 = Cond.eq .result (.int 1) from rfl, Cond.eq_ints (x := 1) (y := 1) rfl rfl]; simp; done) | (simp [limb_1_2, Cond.value, Term.eval]; done)))⟩
