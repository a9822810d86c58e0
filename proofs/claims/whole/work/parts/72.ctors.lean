/-! constructors: Post, Round, Search -/
theorem wk_oi : Cond.instanceMethod Lib.objectInit ∈ ab_tb := ab_tb_in (by decide +kernel) rfl
theorem wk_oc : Cond.code Lib.objectInit ⟨#[0xb1]⟩ 1 none ∈ ab_tb := ab_tb_in (ab_mt_spec (M := 1) (by decide) rfl) rfl
theorem dk3_0 : decode prog_2_method_1_code 0 = .ok (.aload_n 0, 1) := by decide +kernel
theorem dk3_1 : decode prog_2_method_1_code 1 = .ok (.invokespecial 3, 3) := by decide +kernel
theorem dk3_4 : decode prog_2_method_1_code 4 = .ok (.aload_n 0, 1) := by decide +kernel
theorem dk3_5 : decode prog_2_method_1_code 5 = .ok (.bipush 6, 2) := by decide +kernel
theorem dk3_7 : decode prog_2_method_1_code 7 = .ok (.newarray .int, 2) := by decide +kernel
theorem dk3_9 : decode prog_2_method_1_code 9 = .ok (.putfield 9, 3) := by decide +kernel
theorem dk3_12 : decode prog_2_method_1_code 12 = .ok (.aload_n 0, 1) := by decide +kernel
theorem dk3_13 : decode prog_2_method_1_code 13 = .ok (.bipush 6, 2) := by decide +kernel
theorem dk3_15 : decode prog_2_method_1_code 15 = .ok (.newarray .int, 2) := by decide +kernel
theorem dk3_17 : decode prog_2_method_1_code 17 = .ok (.putfield 15, 3) := by decide +kernel
theorem dk3_20 : decode prog_2_method_1_code 20 = .ok (.aload_n 0, 1) := by decide +kernel
theorem dk3_21 : decode prog_2_method_1_code 21 = .ok (.bipush 6, 2) := by decide +kernel
theorem dk3_23 : decode prog_2_method_1_code 23 = .ok (.newarray .int, 2) := by decide +kernel
theorem dk3_25 : decode prog_2_method_1_code 25 = .ok (.putfield 18, 3) := by decide +kernel
theorem dk3_28 : decode prog_2_method_1_code 28 = .ok (.aload_n 0, 1) := by decide +kernel
theorem dk3_29 : decode prog_2_method_1_code 29 = .ok (.bipush 6, 2) := by decide +kernel
theorem dk3_31 : decode prog_2_method_1_code 31 = .ok (.newarray .int, 2) := by decide +kernel
theorem dk3_33 : decode prog_2_method_1_code 33 = .ok (.putfield 21, 3) := by decide +kernel
theorem dk3_36 : decode prog_2_method_1_code 36 = .ok (.aload_n 0, 1) := by decide +kernel
theorem dk3_37 : decode prog_2_method_1_code 37 = .ok (.bipush 6, 2) := by decide +kernel
theorem dk3_39 : decode prog_2_method_1_code 39 = .ok (.newarray .int, 2) := by decide +kernel
theorem dk3_41 : decode prog_2_method_1_code 41 = .ok (.putfield 24, 3) := by decide +kernel
theorem dk3_44 : decode prog_2_method_1_code 44 = .ok (.aload_n 0, 1) := by decide +kernel
theorem dk3_45 : decode prog_2_method_1_code 45 = .ok (.bipush 6, 2) := by decide +kernel
theorem dk3_47 : decode prog_2_method_1_code 47 = .ok (.newarray .int, 2) := by decide +kernel
theorem dk3_49 : decode prog_2_method_1_code 49 = .ok (.putfield 27, 3) := by decide +kernel
theorem dk3_52 : decode prog_2_method_1_code 52 = .ok (.aload_n 0, 1) := by decide +kernel
theorem dk3_53 : decode prog_2_method_1_code 53 = .ok (.bipush 40, 2) := by decide +kernel
theorem dk3_55 : decode prog_2_method_1_code 55 = .ok (.newarray .long, 2) := by decide +kernel
theorem dk3_57 : decode prog_2_method_1_code 57 = .ok (.putfield 30, 3) := by decide +kernel
theorem dk3_60 : decode prog_2_method_1_code 60 = .ok (.return_, 1) := by decide +kernel
theorem wk3_obj : Cond.methodLink (ab_onm 0) 3 Lib.objectInit ∈ ab_tb := ab_tb_in (by decide +kernel) rfl
def cw3 (cA : Nat → ClassId) (h0 : Nat) (u : Nat → Nat) : va_W := [(h0, .inr (0, [.ref (u 0), .ref (u 1), .ref (u 2), .ref (u 3), .ref (u 4), .ref (u 5), .ref (u 6), .int 0, .int 0, .int 0])), (u 0, .inl (cA 0, 6, .inl (fun _ => 0))), (u 1, .inl (cA 0, 6, .inl (fun _ => 0))), (u 2, .inl (cA 0, 6, .inl (fun _ => 0))), (u 3, .inl (cA 0, 6, .inl (fun _ => 0))), (u 4, .inl (cA 0, 6, .inl (fun _ => 0))), (u 5, .inl (cA 0, 6, .inl (fun _ => 0))), (u 6, .inl (cA 2, 40, .inr (.inl (fun _ => 0))))]
def rm3 : Room := { frames := 2, cells := 7, slots := 76, locals := 100 }
set_option maxHeartbeats 4000000 in
set_option maxRecDepth 100000 in
theorem cn3 (l : Launch) (D : va_G) (cA : Nat → ClassId) : ck_Ct l D cA ab_e3 rm3 (.inr (0, [.null, .null, .null, .null, .null, .null, .null, .int 0, .int 0, .int 0])) (cw3 cA) := by
  intro h0 sz
  refine Met.ofW (cc := prog_2_method_1_code) (maxL := 1) (ret := none) (by decide) rfl ?_
  intro p e s m args below meth c s₁ B hml hv
  obtain ⟨rfl, hsz, hP, hK, hD0⟩ := hv
  have hx := B.exec
  have hb := B.bytes
  have hr := B.returns
  have hts0 := atoms_spec (ws := Cond.code ab_e3.1 ab_e3.2.1 ab_e3.2.2.1 ab_e3.2.2.2.1 :: ab_tb) B.pre
  have hts : ∀ w ∈ ab_tb, w.before _ s = true := fun w hw => hts0 w (List.mem_cons_of_mem _ hw)
  have hown : s.vm.findClass (ab_onm 0) = some m.cls := findClass_of_methodNamed B.named
  have hlocks := B.notSynchronized
  have hin : meth.name = "<init>" := (name_of_methodNamed B.named B.method).1
  subst hsz
  have hD := hD0.self (sz := s.heap.size)
  generalize hAe : va_A [(h0, .inr (0, [.null, .null, .null, .null, .null, .null, .null, .int 0, .int 0, .int 0]))] s.heap.size = A at hD ⊢
  have hA : ∀ q : Nat, s.heap.size ≤ q → A q := fun q h => by rw [← hAe]; exact Or.inr h
  have C : ck_C p s m _ c prog_2_method_1_code 1 0 D cA := ⟨hx, hb, hml, hown, hts, hK⟩
  have h : ck_W D A s [(h0, .inr (0, [.null, .null, .null, .null, .null, .null, .null, .int 0, .int 0, .int 0]))] s.heap [] := ⟨hP, hD, va_S.rf, hA⟩
  have hl := lv_entry ([.ref h0]) (n := 1) (Nat.le_of_ble_eq_true rfl)
  rw [lg_entry_eq]
  generalize (lg_sl ([.ref h0]) ++ List.replicate (1 - (lg_sl ([.ref h0])).length) Slot.unset).toArray = ls at hl ⊢
  have hl : lv_has ls 1 [(0, .ref h0)] := hl
  refine lv_aload_n hx hb dk3_0 rfl (lv_at hl 0 rfl) ?_
  refine W.objInit hx hb hown (hts _ wk3_obj) (hts _ wk_oi) (hts _ wk_oc) rfl (by rw [hml]; exact hl.1) rfl dk3_1 (Nat.le_of_ble_eq_true rfl) (Nat.le_of_ble_eq_true rfl) ?_
  refine W.eq (g2 := F0 m 4 ls []) rfl ?_
  refine lv_aload_n hx hb dk3_4 rfl (lv_at hl 0 rfl) ?_
  refine lv_bipush (v := nI 6) hx hb dk3_5 (by decide) ?_
  refine ck_newI C h (N := 6) rfl (by omega) (Nat.le_of_ble_eq_true rfl) (Nat.le_of_ble_eq_true rfl) dk3_7 (fun q1 H h => ?_)
  refine ck_putF (r := (RX0, TX0, 10)) (ty := .array .int) C hin h (k := 0) (z := 78) (by decide +kernel) rfl ⟨rfl, rfl, by decide +kernel⟩ rfl rfl (Nat.le_of_ble_eq_true rfl) dk3_9 (fun H locs h => ?_)
  refine lv_aload_n hx hb dk3_12 rfl (lv_at hl 0 rfl) ?_
  refine lv_bipush (v := nI 6) hx hb dk3_13 (by decide) ?_
  refine ck_newI C h (N := 6) rfl (by omega) (Nat.le_of_ble_eq_true rfl) (Nat.le_of_ble_eq_true rfl) dk3_15 (fun q2 H h => ?_)
  refine ck_putF (r := (RX0, TX0, 10)) (ty := .array .int) C hin h (k := 1) (z := 80) (by decide +kernel) rfl ⟨rfl, rfl, by decide +kernel⟩ rfl rfl (Nat.le_of_ble_eq_true rfl) dk3_17 (fun H locs h => ?_)
  refine lv_aload_n hx hb dk3_20 rfl (lv_at hl 0 rfl) ?_
  refine lv_bipush (v := nI 6) hx hb dk3_21 (by decide) ?_
  refine ck_newI C h (N := 6) rfl (by omega) (Nat.le_of_ble_eq_true rfl) (Nat.le_of_ble_eq_true rfl) dk3_23 (fun q3 H h => ?_)
  refine ck_putF (r := (RX0, TX0, 10)) (ty := .array .int) C hin h (k := 2) (z := 81) (by decide +kernel) rfl ⟨rfl, rfl, by decide +kernel⟩ rfl rfl (Nat.le_of_ble_eq_true rfl) dk3_25 (fun H locs h => ?_)
  refine lv_aload_n hx hb dk3_28 rfl (lv_at hl 0 rfl) ?_
  refine lv_bipush (v := nI 6) hx hb dk3_29 (by decide) ?_
  refine ck_newI C h (N := 6) rfl (by omega) (Nat.le_of_ble_eq_true rfl) (Nat.le_of_ble_eq_true rfl) dk3_31 (fun q4 H h => ?_)
  refine ck_putF (r := (RX0, TX0, 10)) (ty := .array .int) C hin h (k := 3) (z := 82) (by decide +kernel) rfl ⟨rfl, rfl, by decide +kernel⟩ rfl rfl (Nat.le_of_ble_eq_true rfl) dk3_33 (fun H locs h => ?_)
  refine lv_aload_n hx hb dk3_36 rfl (lv_at hl 0 rfl) ?_
  refine lv_bipush (v := nI 6) hx hb dk3_37 (by decide) ?_
  refine ck_newI C h (N := 6) rfl (by omega) (Nat.le_of_ble_eq_true rfl) (Nat.le_of_ble_eq_true rfl) dk3_39 (fun q5 H h => ?_)
  refine ck_putF (r := (RX0, TX0, 10)) (ty := .array .int) C hin h (k := 4) (z := 85) (by decide +kernel) rfl ⟨rfl, rfl, by decide +kernel⟩ rfl rfl (Nat.le_of_ble_eq_true rfl) dk3_41 (fun H locs h => ?_)
  refine lv_aload_n hx hb dk3_44 rfl (lv_at hl 0 rfl) ?_
  refine lv_bipush (v := nI 6) hx hb dk3_45 (by decide) ?_
  refine ck_newI C h (N := 6) rfl (by omega) (Nat.le_of_ble_eq_true rfl) (Nat.le_of_ble_eq_true rfl) dk3_47 (fun q6 H h => ?_)
  refine ck_putF (r := (RX0, TX0, 10)) (ty := .array .int) C hin h (k := 5) (z := 87) (by decide +kernel) rfl ⟨rfl, rfl, by decide +kernel⟩ rfl rfl (Nat.le_of_ble_eq_true rfl) dk3_49 (fun H locs h => ?_)
  refine lv_aload_n hx hb dk3_52 rfl (lv_at hl 0 rfl) ?_
  refine lv_bipush (v := nI 40) hx hb dk3_53 (by decide) ?_
  refine ck_newJ C h (N := 40) rfl (by omega) (Nat.le_of_ble_eq_true rfl) (Nat.le_of_ble_eq_true rfl) dk3_55 (fun q7 H h => ?_)
  refine ck_putF (r := (RX0, TX0, 10)) (ty := .array .long) C hin h (k := 6) (z := 89) (by decide +kernel) rfl ⟨rfl, rfl, by decide +kernel⟩ rfl rfl (Nat.le_of_ble_eq_true rfl) dk3_57 (fun H locs h => ?_)
  have h : ck_W D A s [(h0, .inr (0, [.ref q1, .ref q2, .ref q3, .ref q4, .ref q5, .ref q6, .ref q7, .int 0, .int 0, .int 0])), (q1, .inl (cA 0, 6, .inl (fun _ => 0))), (q2, .inl (cA 0, 6, .inl (fun _ => 0))), (q3, .inl (cA 0, 6, .inl (fun _ => 0))), (q4, .inl (cA 0, 6, .inl (fun _ => 0))), (q5, .inl (cA 0, 6, .inl (fun _ => 0))), (q6, .inl (cA 0, 6, .inl (fun _ => 0))), (q7, .inl (cA 2, 40, .inr (.inl (fun _ => 0))))] _ _ := h
  refine W.widen (k := 7) (n := 76) (Nat.le_of_ble_eq_true rfl) (Nat.le_of_ble_eq_true rfl) ?_
  exact W.vret hx hb hr (fun t ht hW => ⟨⟨fun k => [q1, q2, q3, q4, q5, q6, q7].getD k 0, rfl, trivial, by rw [ht]; exact h.1, h.2.1⟩, h.2.2.1.F ht⟩) h.2.2.1.2.2 dk3_60
theorem dk4_0 : decode prog_3_method_1_code 0 = .ok (.aload_n 0, 1) := by decide +kernel
theorem dk4_1 : decode prog_3_method_1_code 1 = .ok (.invokespecial 3, 3) := by decide +kernel
theorem dk4_4 : decode prog_3_method_1_code 4 = .ok (.aload_n 0, 1) := by decide +kernel
theorem dk4_5 : decode prog_3_method_1_code 5 = .ok (.bipush 12, 2) := by decide +kernel
theorem dk4_7 : decode prog_3_method_1_code 7 = .ok (.newarray .int, 2) := by decide +kernel
theorem dk4_9 : decode prog_3_method_1_code 9 = .ok (.putfield 9, 3) := by decide +kernel
theorem dk4_12 : decode prog_3_method_1_code 12 = .ok (.return_, 1) := by decide +kernel
theorem wk4_obj : Cond.methodLink (ab_onm 1) 3 Lib.objectInit ∈ ab_tb := ab_tb_in (by decide +kernel) rfl
def cw4 (cA : Nat → ClassId) (h0 : Nat) (u : Nat → Nat) : va_W := [(h0, .inr (1, [.ref (u 0), .int 0])), (u 0, .inl (cA 0, 12, .inl (fun _ => 0)))]
def rm4 : Room := { frames := 2, cells := 1, slots := 12, locals := 100 }
set_option maxHeartbeats 4000000 in
set_option maxRecDepth 100000 in
theorem cn4 (l : Launch) (D : va_G) (cA : Nat → ClassId) : ck_Ct l D cA ab_e4 rm4 (.inr (1, [.null, .int 0])) (cw4 cA) := by
  intro h0 sz
  refine Met.ofW (cc := prog_3_method_1_code) (maxL := 1) (ret := none) (by decide) rfl ?_
  intro p e s m args below meth c s₁ B hml hv
  obtain ⟨rfl, hsz, hP, hK, hD0⟩ := hv
  have hx := B.exec
  have hb := B.bytes
  have hr := B.returns
  have hts0 := atoms_spec (ws := Cond.code ab_e4.1 ab_e4.2.1 ab_e4.2.2.1 ab_e4.2.2.2.1 :: ab_tb) B.pre
  have hts : ∀ w ∈ ab_tb, w.before _ s = true := fun w hw => hts0 w (List.mem_cons_of_mem _ hw)
  have hown : s.vm.findClass (ab_onm 1) = some m.cls := findClass_of_methodNamed B.named
  have hlocks := B.notSynchronized
  have hin : meth.name = "<init>" := (name_of_methodNamed B.named B.method).1
  subst hsz
  have hD := hD0.self (sz := s.heap.size)
  generalize hAe : va_A [(h0, .inr (1, [.null, .int 0]))] s.heap.size = A at hD ⊢
  have hA : ∀ q : Nat, s.heap.size ≤ q → A q := fun q h => by rw [← hAe]; exact Or.inr h
  have C : ck_C p s m _ c prog_3_method_1_code 1 1 D cA := ⟨hx, hb, hml, hown, hts, hK⟩
  have h : ck_W D A s [(h0, .inr (1, [.null, .int 0]))] s.heap [] := ⟨hP, hD, va_S.rf, hA⟩
  have hl := lv_entry ([.ref h0]) (n := 1) (Nat.le_of_ble_eq_true rfl)
  rw [lg_entry_eq]
  generalize (lg_sl ([.ref h0]) ++ List.replicate (1 - (lg_sl ([.ref h0])).length) Slot.unset).toArray = ls at hl ⊢
  have hl : lv_has ls 1 [(0, .ref h0)] := hl
  refine lv_aload_n hx hb dk4_0 rfl (lv_at hl 0 rfl) ?_
  refine W.objInit hx hb hown (hts _ wk4_obj) (hts _ wk_oi) (hts _ wk_oc) rfl (by rw [hml]; exact hl.1) rfl dk4_1 (Nat.le_of_ble_eq_true rfl) (Nat.le_of_ble_eq_true rfl) ?_
  refine W.eq (g2 := F0 m 4 ls []) rfl ?_
  refine lv_aload_n hx hb dk4_4 rfl (lv_at hl 0 rfl) ?_
  refine lv_bipush (v := nI 12) hx hb dk4_5 (by decide) ?_
  refine ck_newI C h (N := 12) rfl (by omega) (Nat.le_of_ble_eq_true rfl) (Nat.le_of_ble_eq_true rfl) dk4_7 (fun q1 H h => ?_)
  refine ck_putF (r := (RX1, TX1, 2)) (ty := .array .int) C hin h (k := 0) (z := 128) (by decide +kernel) rfl ⟨rfl, rfl, by decide +kernel⟩ rfl rfl (Nat.le_of_ble_eq_true rfl) dk4_9 (fun H locs h => ?_)
  have h : ck_W D A s [(h0, .inr (1, [.ref q1, .int 0])), (q1, .inl (cA 0, 12, .inl (fun _ => 0)))] _ _ := h
  refine W.widen (k := 1) (n := 12) (Nat.le_of_ble_eq_true rfl) (Nat.le_of_ble_eq_true rfl) ?_
  exact W.vret hx hb hr (fun t ht hW => ⟨⟨fun k => [q1].getD k 0, rfl, trivial, by rw [ht]; exact h.1, h.2.1⟩, h.2.2.1.F ht⟩) h.2.2.1.2.2 dk4_12
theorem dk5_0 : decode prog_4_method_1_code 0 = .ok (.aload_n 0, 1) := by decide +kernel
theorem dk5_1 : decode prog_4_method_1_code 1 = .ok (.invokespecial 3, 3) := by decide +kernel
theorem dk5_4 : decode prog_4_method_1_code 4 = .ok (.aload_n 0, 1) := by decide +kernel
theorem dk5_5 : decode prog_4_method_1_code 5 = .ok (.bipush 6, 2) := by decide +kernel
theorem dk5_7 : decode prog_4_method_1_code 7 = .ok (.newarray .int, 2) := by decide +kernel
theorem dk5_9 : decode prog_4_method_1_code 9 = .ok (.putfield 9, 3) := by decide +kernel
theorem dk5_12 : decode prog_4_method_1_code 12 = .ok (.aload_n 0, 1) := by decide +kernel
theorem dk5_13 : decode prog_4_method_1_code 13 = .ok (.bipush 6, 2) := by decide +kernel
theorem dk5_15 : decode prog_4_method_1_code 15 = .ok (.newarray .int, 2) := by decide +kernel
theorem dk5_17 : decode prog_4_method_1_code 17 = .ok (.putfield 15, 3) := by decide +kernel
theorem dk5_20 : decode prog_4_method_1_code 20 = .ok (.aload_n 0, 1) := by decide +kernel
theorem dk5_21 : decode prog_4_method_1_code 21 = .ok (.bipush 6, 2) := by decide +kernel
theorem dk5_23 : decode prog_4_method_1_code 23 = .ok (.newarray .int, 2) := by decide +kernel
theorem dk5_25 : decode prog_4_method_1_code 25 = .ok (.putfield 18, 3) := by decide +kernel
theorem dk5_28 : decode prog_4_method_1_code 28 = .ok (.aload_n 0, 1) := by decide +kernel
theorem dk5_29 : decode prog_4_method_1_code 29 = .ok (.bipush 7, 2) := by decide +kernel
theorem dk5_31 : decode prog_4_method_1_code 31 = .ok (.newarray .int, 2) := by decide +kernel
theorem dk5_33 : decode prog_4_method_1_code 33 = .ok (.putfield 21, 3) := by decide +kernel
theorem dk5_36 : decode prog_4_method_1_code 36 = .ok (.aload_n 0, 1) := by decide +kernel
theorem dk5_37 : decode prog_4_method_1_code 37 = .ok (.bipush 7, 2) := by decide +kernel
theorem dk5_39 : decode prog_4_method_1_code 39 = .ok (.newarray .int, 2) := by decide +kernel
theorem dk5_41 : decode prog_4_method_1_code 41 = .ok (.putfield 24, 3) := by decide +kernel
theorem dk5_44 : decode prog_4_method_1_code 44 = .ok (.aload_n 0, 1) := by decide +kernel
theorem dk5_45 : decode prog_4_method_1_code 45 = .ok (.bipush 7, 2) := by decide +kernel
theorem dk5_47 : decode prog_4_method_1_code 47 = .ok (.newarray .int, 2) := by decide +kernel
theorem dk5_49 : decode prog_4_method_1_code 49 = .ok (.putfield 27, 3) := by decide +kernel
theorem dk5_52 : decode prog_4_method_1_code 52 = .ok (.aload_n 0, 1) := by decide +kernel
theorem dk5_53 : decode prog_4_method_1_code 53 = .ok (.bipush 7, 2) := by decide +kernel
theorem dk5_55 : decode prog_4_method_1_code 55 = .ok (.newarray .int, 2) := by decide +kernel
theorem dk5_57 : decode prog_4_method_1_code 57 = .ok (.putfield 30, 3) := by decide +kernel
theorem dk5_60 : decode prog_4_method_1_code 60 = .ok (.return_, 1) := by decide +kernel
theorem wk5_obj : Cond.methodLink (ab_onm 2) 3 Lib.objectInit ∈ ab_tb := ab_tb_in (by decide +kernel) rfl
def cw5 (cA : Nat → ClassId) (h0 : Nat) (u : Nat → Nat) : va_W := [(h0, .inr (2, [.ref (u 0), .ref (u 1), .ref (u 2), .ref (u 3), .ref (u 4), .ref (u 5), .ref (u 6), .int 0, .int 0, .int 0, .int 0, .int 0])), (u 0, .inl (cA 0, 6, .inl (fun _ => 0))), (u 1, .inl (cA 0, 6, .inl (fun _ => 0))), (u 2, .inl (cA 0, 6, .inl (fun _ => 0))), (u 3, .inl (cA 0, 7, .inl (fun _ => 0))), (u 4, .inl (cA 0, 7, .inl (fun _ => 0))), (u 5, .inl (cA 0, 7, .inl (fun _ => 0))), (u 6, .inl (cA 0, 7, .inl (fun _ => 0)))]
def rm5 : Room := { frames := 2, cells := 7, slots := 46, locals := 100 }
set_option maxHeartbeats 4000000 in
set_option maxRecDepth 100000 in
theorem cn5 (l : Launch) (D : va_G) (cA : Nat → ClassId) : ck_Ct l D cA ab_e5 rm5 (.inr (2, [.null, .null, .null, .null, .null, .null, .null, .int 0, .int 0, .int 0, .int 0, .int 0])) (cw5 cA) := by
  intro h0 sz
  refine Met.ofW (cc := prog_4_method_1_code) (maxL := 1) (ret := none) (by decide) rfl ?_
  intro p e s m args below meth c s₁ B hml hv
  obtain ⟨rfl, hsz, hP, hK, hD0⟩ := hv
  have hx := B.exec
  have hb := B.bytes
  have hr := B.returns
  have hts0 := atoms_spec (ws := Cond.code ab_e5.1 ab_e5.2.1 ab_e5.2.2.1 ab_e5.2.2.2.1 :: ab_tb) B.pre
  have hts : ∀ w ∈ ab_tb, w.before _ s = true := fun w hw => hts0 w (List.mem_cons_of_mem _ hw)
  have hown : s.vm.findClass (ab_onm 2) = some m.cls := findClass_of_methodNamed B.named
  have hlocks := B.notSynchronized
  have hin : meth.name = "<init>" := (name_of_methodNamed B.named B.method).1
  subst hsz
  have hD := hD0.self (sz := s.heap.size)
  generalize hAe : va_A [(h0, .inr (2, [.null, .null, .null, .null, .null, .null, .null, .int 0, .int 0, .int 0, .int 0, .int 0]))] s.heap.size = A at hD ⊢
  have hA : ∀ q : Nat, s.heap.size ≤ q → A q := fun q h => by rw [← hAe]; exact Or.inr h
  have C : ck_C p s m _ c prog_4_method_1_code 1 2 D cA := ⟨hx, hb, hml, hown, hts, hK⟩
  have h : ck_W D A s [(h0, .inr (2, [.null, .null, .null, .null, .null, .null, .null, .int 0, .int 0, .int 0, .int 0, .int 0]))] s.heap [] := ⟨hP, hD, va_S.rf, hA⟩
  have hl := lv_entry ([.ref h0]) (n := 1) (Nat.le_of_ble_eq_true rfl)
  rw [lg_entry_eq]
  generalize (lg_sl ([.ref h0]) ++ List.replicate (1 - (lg_sl ([.ref h0])).length) Slot.unset).toArray = ls at hl ⊢
  have hl : lv_has ls 1 [(0, .ref h0)] := hl
  refine lv_aload_n hx hb dk5_0 rfl (lv_at hl 0 rfl) ?_
  refine W.objInit hx hb hown (hts _ wk5_obj) (hts _ wk_oi) (hts _ wk_oc) rfl (by rw [hml]; exact hl.1) rfl dk5_1 (Nat.le_of_ble_eq_true rfl) (Nat.le_of_ble_eq_true rfl) ?_
  refine W.eq (g2 := F0 m 4 ls []) rfl ?_
  refine lv_aload_n hx hb dk5_4 rfl (lv_at hl 0 rfl) ?_
  refine lv_bipush (v := nI 6) hx hb dk5_5 (by decide) ?_
  refine ck_newI C h (N := 6) rfl (by omega) (Nat.le_of_ble_eq_true rfl) (Nat.le_of_ble_eq_true rfl) dk5_7 (fun q1 H h => ?_)
  refine ck_putF (r := (RX2, TX2, 12)) (ty := .array .int) C hin h (k := 0) (z := 142) (by decide +kernel) rfl ⟨rfl, rfl, by decide +kernel⟩ rfl rfl (Nat.le_of_ble_eq_true rfl) dk5_9 (fun H locs h => ?_)
  refine lv_aload_n hx hb dk5_12 rfl (lv_at hl 0 rfl) ?_
  refine lv_bipush (v := nI 6) hx hb dk5_13 (by decide) ?_
  refine ck_newI C h (N := 6) rfl (by omega) (Nat.le_of_ble_eq_true rfl) (Nat.le_of_ble_eq_true rfl) dk5_15 (fun q2 H h => ?_)
  refine ck_putF (r := (RX2, TX2, 12)) (ty := .array .int) C hin h (k := 1) (z := 143) (by decide +kernel) rfl ⟨rfl, rfl, by decide +kernel⟩ rfl rfl (Nat.le_of_ble_eq_true rfl) dk5_17 (fun H locs h => ?_)
  refine lv_aload_n hx hb dk5_20 rfl (lv_at hl 0 rfl) ?_
  refine lv_bipush (v := nI 6) hx hb dk5_21 (by decide) ?_
  refine ck_newI C h (N := 6) rfl (by omega) (Nat.le_of_ble_eq_true rfl) (Nat.le_of_ble_eq_true rfl) dk5_23 (fun q3 H h => ?_)
  refine ck_putF (r := (RX2, TX2, 12)) (ty := .array .int) C hin h (k := 2) (z := 144) (by decide +kernel) rfl ⟨rfl, rfl, by decide +kernel⟩ rfl rfl (Nat.le_of_ble_eq_true rfl) dk5_25 (fun H locs h => ?_)
  refine lv_aload_n hx hb dk5_28 rfl (lv_at hl 0 rfl) ?_
  refine lv_bipush (v := nI 7) hx hb dk5_29 (by decide) ?_
  refine ck_newI C h (N := 7) rfl (by omega) (Nat.le_of_ble_eq_true rfl) (Nat.le_of_ble_eq_true rfl) dk5_31 (fun q4 H h => ?_)
  refine ck_putF (r := (RX2, TX2, 12)) (ty := .array .int) C hin h (k := 3) (z := 146) (by decide +kernel) rfl ⟨rfl, rfl, by decide +kernel⟩ rfl rfl (Nat.le_of_ble_eq_true rfl) dk5_33 (fun H locs h => ?_)
  refine lv_aload_n hx hb dk5_36 rfl (lv_at hl 0 rfl) ?_
  refine lv_bipush (v := nI 7) hx hb dk5_37 (by decide) ?_
  refine ck_newI C h (N := 7) rfl (by omega) (Nat.le_of_ble_eq_true rfl) (Nat.le_of_ble_eq_true rfl) dk5_39 (fun q5 H h => ?_)
  refine ck_putF (r := (RX2, TX2, 12)) (ty := .array .int) C hin h (k := 4) (z := 147) (by decide +kernel) rfl ⟨rfl, rfl, by decide +kernel⟩ rfl rfl (Nat.le_of_ble_eq_true rfl) dk5_41 (fun H locs h => ?_)
  refine lv_aload_n hx hb dk5_44 rfl (lv_at hl 0 rfl) ?_
  refine lv_bipush (v := nI 7) hx hb dk5_45 (by decide) ?_
  refine ck_newI C h (N := 7) rfl (by omega) (Nat.le_of_ble_eq_true rfl) (Nat.le_of_ble_eq_true rfl) dk5_47 (fun q6 H h => ?_)
  refine ck_putF (r := (RX2, TX2, 12)) (ty := .array .int) C hin h (k := 5) (z := 148) (by decide +kernel) rfl ⟨rfl, rfl, by decide +kernel⟩ rfl rfl (Nat.le_of_ble_eq_true rfl) dk5_49 (fun H locs h => ?_)
  refine lv_aload_n hx hb dk5_52 rfl (lv_at hl 0 rfl) ?_
  refine lv_bipush (v := nI 7) hx hb dk5_53 (by decide) ?_
  refine ck_newI C h (N := 7) rfl (by omega) (Nat.le_of_ble_eq_true rfl) (Nat.le_of_ble_eq_true rfl) dk5_55 (fun q7 H h => ?_)
  refine ck_putF (r := (RX2, TX2, 12)) (ty := .array .int) C hin h (k := 6) (z := 149) (by decide +kernel) rfl ⟨rfl, rfl, by decide +kernel⟩ rfl rfl (Nat.le_of_ble_eq_true rfl) dk5_57 (fun H locs h => ?_)
  have h : ck_W D A s [(h0, .inr (2, [.ref q1, .ref q2, .ref q3, .ref q4, .ref q5, .ref q6, .ref q7, .int 0, .int 0, .int 0, .int 0, .int 0])), (q1, .inl (cA 0, 6, .inl (fun _ => 0))), (q2, .inl (cA 0, 6, .inl (fun _ => 0))), (q3, .inl (cA 0, 6, .inl (fun _ => 0))), (q4, .inl (cA 0, 7, .inl (fun _ => 0))), (q5, .inl (cA 0, 7, .inl (fun _ => 0))), (q6, .inl (cA 0, 7, .inl (fun _ => 0))), (q7, .inl (cA 0, 7, .inl (fun _ => 0)))] _ _ := h
  refine W.widen (k := 7) (n := 46) (Nat.le_of_ble_eq_true rfl) (Nat.le_of_ble_eq_true rfl) ?_
  exact W.vret hx hb hr (fun t ht hW => ⟨⟨fun k => [q1, q2, q3, q4, q5, q6, q7].getD k 0, rfl, trivial, by rw [ht]; exact h.1, h.2.1⟩, h.2.2.1.F ht⟩) h.2.2.1.2.2 dk5_60
