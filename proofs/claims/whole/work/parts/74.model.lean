/-! constructors: the reference, AbsentPost -/
section
variable {p : Program} {l : Launch} {e : Env} {R : Room} {s : State} {m : MethodId} {args : Array Value} {below : List Frame} {meth : Method} {c : Code} {H : Heap} {locs : List Loc} {cells slots : Nat} {Q : State → Prop}
variable {D : va_G} {cA : Nat → ClassId} {A : Nat → Prop} {cc : ByteArray} {nL o pc : Nat} {ls : Array Slot} {rest : List Value} {h0 ci : Nat} {fs : List Value} {tl ws wr : va_W}
theorem ck_ist (C : ck_C p s m args c cc nL o D cA) (h : ck_W D A s ws H locs) (q0 : Nat) {a n k : Nat} {f : Nat → Int32} {x : Int32} (ha : ws[q0]? = some (a, .inl (cA 0, n, .inl f))) (hk : k < n) (hn : n < 1000000) (hdg : decode cc pc = .ok (.iastore, 1))
    (kk : ∀ (H1 : Heap) (locs1 : List Loc), ck_W D A s (ws.set q0 (a, .inl (cA 0, n, .inl (upd f k x)))) H1 locs1 → W p l e R s m args below meth c H1 locs1 cells slots Q (F0 m (pc + 1) ls rest)) : W p l e R s m args below meth c H locs cells slots Q (F0 m pc ls (.int x :: .int (nI k) :: .ref a :: rest)) := by
  obtain ⟨hx, hb, hml, hown, hts, hK⟩ := C
  obtain ⟨hP, hD, hS, hA⟩ := h
  refine va_iast hx hb hK hP hD hS q0 0 ha rfl (vp_in_nI hk (by omega)) hdg (fun H1 locs1 hP1 hD1 hS1 => ?_)
  rw [z_cl (by omega)] at hP1 hD1
  exact kk H1 locs1 ⟨hP1, hD1, hS1, hA⟩
theorem ck_ast (C : ck_C p s m args c cc nL o D cA) (h : ck_W D A s ws H locs) (q0 qk : Nat) {a n k v : Nat} {f : Nat → Option Nat} {vs : List Value} (ha : ws[q0]? = some (a, .inl (cA 5, n, .inr (.inr (.inr (.inr f)))))) (hv : ws[qk]? = some (v, .inr (0, vs))) (hk : k < n) (hn : n < 1000000) (hdg : decode cc pc = .ok (.aastore, 1))
    (kk : ∀ (H1 : Heap) (locs1 : List Loc), ck_W D A s (ws.set q0 (a, .inl (cA 5, n, .inr (.inr (.inr (.inr (va_up f k (some v)))))))) H1 locs1 → W p l e R s m args below meth c H1 locs1 cells slots Q (F0 m (pc + 1) ls rest)) : W p l e R s m args below meth c H locs cells slots Q (F0 m pc ls (.ref v :: .int (nI k) :: .ref a :: rest)) := by
  obtain ⟨hx, hb, hml, hown, hts, hK⟩ := C
  obtain ⟨hP, hD, hS, hA⟩ := h
  refine va_astq hx hb hK hP hD hS q0 5 qk 0 (r := (RX0, TX0, 10)) ha rfl hv rfl (vp_in_nI hk (by omega)) hdg (fun H1 locs1 hP1 hD1 hS1 => ?_)
  rw [z_cl (by omega)] at hP1 hD1
  exact kk H1 locs1 ⟨hP1, hD1, hS1, hA⟩
theorem ck_cg (h : ck_W D A s ws H locs) (q0 : Nat) {a n : Nat} {c0 : ClassId} {f g : Nat → Int32} (ha : ws[q0]? = some (a, .inl (c0, n, .inl f))) (hfg : ∀ j, j < n → f j = g j) : ck_W D A s (ws.set q0 (a, .inl (c0, n, .inl g))) H locs := by
  obtain ⟨hP, hD, hS, hA⟩ := h
  refine ⟨hP.set hD ha ?_ (fun _ _ => rfl), hD.set ha, hS, hA⟩
  have := hP q0 _ ha
  have ec : vp_cell c0 (n, .inl g) = vp_cell c0 (n, .inl f) := ck_arr_c (N := n) (f := fun i => .int (g i)) (g := fun i => .int (f i)) (fun i hi => by rw [hfg i hi])
  show H[a]? = some (vp_cell c0 (n, .inl g))
  rw [ec]
  exact this
end
theorem dk104_0 : decode prog_6_method_1_code 0 = .ok (.aload_n 0, 1) := by decide +kernel
theorem dk104_1 : decode prog_6_method_1_code 1 = .ok (.invokespecial 1, 3) := by decide +kernel
theorem dk104_4 : decode prog_6_method_1_code 4 = .ok (.aload_n 0, 1) := by decide +kernel
theorem dk104_5 : decode prog_6_method_1_code 5 = .ok (.sipush 5280, 3) := by decide +kernel
theorem dk104_8 : decode prog_6_method_1_code 8 = .ok (.newarray .int, 2) := by decide +kernel
theorem dk104_10 : decode prog_6_method_1_code 10 = .ok (.putfield 7, 3) := by decide +kernel
theorem dk104_13 : decode prog_6_method_1_code 13 = .ok (.aload_n 0, 1) := by decide +kernel
theorem dk104_14 : decode prog_6_method_1_code 14 = .ok (.iconst 3, 1) := by decide +kernel
theorem dk104_15 : decode prog_6_method_1_code 15 = .ok (.newarray .int, 2) := by decide +kernel
theorem dk104_17 : decode prog_6_method_1_code 17 = .ok (.putfield 13, 3) := by decide +kernel
theorem dk104_20 : decode prog_6_method_1_code 20 = .ok (.aload_n 0, 1) := by decide +kernel
theorem dk104_21 : decode prog_6_method_1_code 21 = .ok (.sipush 240, 3) := by decide +kernel
theorem dk104_24 : decode prog_6_method_1_code 24 = .ok (.newarray .int, 2) := by decide +kernel
theorem dk104_26 : decode prog_6_method_1_code 26 = .ok (.putfield 16, 3) := by decide +kernel
theorem dk104_29 : decode prog_6_method_1_code 29 = .ok (.aload_n 0, 1) := by decide +kernel
theorem dk104_30 : decode prog_6_method_1_code 30 = .ok (.bipush 6, 2) := by decide +kernel
theorem dk104_32 : decode prog_6_method_1_code 32 = .ok (.newarray .int, 2) := by decide +kernel
theorem dk104_34 : decode prog_6_method_1_code 34 = .ok (.putfield 19, 3) := by decide +kernel
theorem dk104_37 : decode prog_6_method_1_code 37 = .ok (.aload_n 0, 1) := by decide +kernel
theorem dk104_38 : decode prog_6_method_1_code 38 = .ok (.sipush 240, 3) := by decide +kernel
theorem dk104_41 : decode prog_6_method_1_code 41 = .ok (.newarray .int, 2) := by decide +kernel
theorem dk104_43 : decode prog_6_method_1_code 43 = .ok (.putfield 22, 3) := by decide +kernel
theorem dk104_46 : decode prog_6_method_1_code 46 = .ok (.aload_n 0, 1) := by decide +kernel
theorem dk104_47 : decode prog_6_method_1_code 47 = .ok (.iconst 4, 1) := by decide +kernel
theorem dk104_48 : decode prog_6_method_1_code 48 = .ok (.newarray .int, 2) := by decide +kernel
theorem dk104_50 : decode prog_6_method_1_code 50 = .ok (.putfield 25, 3) := by decide +kernel
theorem dk104_53 : decode prog_6_method_1_code 53 = .ok (.aload_n 0, 1) := by decide +kernel
theorem dk104_54 : decode prog_6_method_1_code 54 = .ok (.bipush 40, 2) := by decide +kernel
theorem dk104_56 : decode prog_6_method_1_code 56 = .ok (.newarray .int, 2) := by decide +kernel
theorem dk104_58 : decode prog_6_method_1_code 58 = .ok (.putfield 28, 3) := by decide +kernel
theorem dk104_61 : decode prog_6_method_1_code 61 = .ok (.aload_n 0, 1) := by decide +kernel
theorem dk104_62 : decode prog_6_method_1_code 62 = .ok (.bipush 6, 2) := by decide +kernel
theorem dk104_64 : decode prog_6_method_1_code 64 = .ok (.newarray .int, 2) := by decide +kernel
theorem dk104_66 : decode prog_6_method_1_code 66 = .ok (.putfield 31, 3) := by decide +kernel
theorem dk104_69 : decode prog_6_method_1_code 69 = .ok (.aload_n 0, 1) := by decide +kernel
theorem dk104_70 : decode prog_6_method_1_code 70 = .ok (.lconst 1, 1) := by decide +kernel
theorem dk104_71 : decode prog_6_method_1_code 71 = .ok (.putfield 34, 3) := by decide +kernel
theorem dk104_74 : decode prog_6_method_1_code 74 = .ok (.aload_n 0, 1) := by decide +kernel
theorem dk104_75 : decode prog_6_method_1_code 75 = .ok (.bipush 6, 2) := by decide +kernel
theorem dk104_77 : decode prog_6_method_1_code 77 = .ok (.newarray .int, 2) := by decide +kernel
theorem dk104_79 : decode prog_6_method_1_code 79 = .ok (.putfield 38, 3) := by decide +kernel
theorem dk104_82 : decode prog_6_method_1_code 82 = .ok (.aload_n 0, 1) := by decide +kernel
theorem dk104_83 : decode prog_6_method_1_code 83 = .ok (.bipush 6, 2) := by decide +kernel
theorem dk104_85 : decode prog_6_method_1_code 85 = .ok (.newarray .int, 2) := by decide +kernel
theorem dk104_87 : decode prog_6_method_1_code 87 = .ok (.putfield 41, 3) := by decide +kernel
theorem dk104_90 : decode prog_6_method_1_code 90 = .ok (.aload_n 0, 1) := by decide +kernel
theorem dk104_91 : decode prog_6_method_1_code 91 = .ok (.bipush 7, 2) := by decide +kernel
theorem dk104_93 : decode prog_6_method_1_code 93 = .ok (.newarray .int, 2) := by decide +kernel
theorem dk104_95 : decode prog_6_method_1_code 95 = .ok (.putfield 44, 3) := by decide +kernel
theorem dk104_98 : decode prog_6_method_1_code 98 = .ok (.iconst 0, 1) := by decide +kernel
theorem dk104_99 : decode prog_6_method_1_code 99 = .ok (.istore_n 1, 1) := by decide +kernel
theorem dk104_100 : decode prog_6_method_1_code 100 = .ok (.iload_n 1, 1) := by decide +kernel
theorem dk104_101 : decode prog_6_method_1_code 101 = .ok (.bipush 6, 2) := by decide +kernel
theorem dk104_103 : decode prog_6_method_1_code 103 = .ok (.if_icmp .ge 16, 3) := by decide +kernel
theorem dk104_106 : decode prog_6_method_1_code 106 = .ok (.aload_n 0, 1) := by decide +kernel
theorem dk104_107 : decode prog_6_method_1_code 107 = .ok (.getfield 19, 3) := by decide +kernel
theorem dk104_110 : decode prog_6_method_1_code 110 = .ok (.iload_n 1, 1) := by decide +kernel
theorem dk104_111 : decode prog_6_method_1_code 111 = .ok (.iconst (-1), 1) := by decide +kernel
theorem dk104_112 : decode prog_6_method_1_code 112 = .ok (.iastore, 1) := by decide +kernel
theorem dk104_113 : decode prog_6_method_1_code 113 = .ok (.iinc 1 1, 3) := by decide +kernel
theorem dk104_116 : decode prog_6_method_1_code 116 = .ok (.goto (-16), 3) := by decide +kernel
theorem dk104_119 : decode prog_6_method_1_code 119 = .ok (.iconst 0, 1) := by decide +kernel
theorem dk104_120 : decode prog_6_method_1_code 120 = .ok (.istore_n 1, 1) := by decide +kernel
theorem dk104_121 : decode prog_6_method_1_code 121 = .ok (.iload_n 1, 1) := by decide +kernel
theorem dk104_122 : decode prog_6_method_1_code 122 = .ok (.iconst 4, 1) := by decide +kernel
theorem dk104_123 : decode prog_6_method_1_code 123 = .ok (.if_icmp .ge 16, 3) := by decide +kernel
theorem dk104_126 : decode prog_6_method_1_code 126 = .ok (.aload_n 0, 1) := by decide +kernel
theorem dk104_127 : decode prog_6_method_1_code 127 = .ok (.getfield 25, 3) := by decide +kernel
theorem dk104_130 : decode prog_6_method_1_code 130 = .ok (.iload_n 1, 1) := by decide +kernel
theorem dk104_131 : decode prog_6_method_1_code 131 = .ok (.iconst (-1), 1) := by decide +kernel
theorem dk104_132 : decode prog_6_method_1_code 132 = .ok (.iastore, 1) := by decide +kernel
theorem dk104_133 : decode prog_6_method_1_code 133 = .ok (.iinc 1 1, 3) := by decide +kernel
theorem dk104_136 : decode prog_6_method_1_code 136 = .ok (.goto (-15), 3) := by decide +kernel
theorem dk104_139 : decode prog_6_method_1_code 139 = .ok (.iconst 0, 1) := by decide +kernel
theorem dk104_140 : decode prog_6_method_1_code 140 = .ok (.istore_n 1, 1) := by decide +kernel
theorem dk104_141 : decode prog_6_method_1_code 141 = .ok (.iload_n 1, 1) := by decide +kernel
theorem dk104_142 : decode prog_6_method_1_code 142 = .ok (.iconst 3, 1) := by decide +kernel
theorem dk104_143 : decode prog_6_method_1_code 143 = .ok (.if_icmp .ge 16, 3) := by decide +kernel
theorem dk104_146 : decode prog_6_method_1_code 146 = .ok (.aload_n 0, 1) := by decide +kernel
theorem dk104_147 : decode prog_6_method_1_code 147 = .ok (.getfield 13, 3) := by decide +kernel
theorem dk104_150 : decode prog_6_method_1_code 150 = .ok (.iload_n 1, 1) := by decide +kernel
theorem dk104_151 : decode prog_6_method_1_code 151 = .ok (.iconst (-1), 1) := by decide +kernel
theorem dk104_152 : decode prog_6_method_1_code 152 = .ok (.iastore, 1) := by decide +kernel
theorem dk104_153 : decode prog_6_method_1_code 153 = .ok (.iinc 1 1, 3) := by decide +kernel
theorem dk104_156 : decode prog_6_method_1_code 156 = .ok (.goto (-15), 3) := by decide +kernel
theorem dk104_159 : decode prog_6_method_1_code 159 = .ok (.return_, 1) := by decide +kernel
theorem wk104_obj : Cond.methodLink (ab_onm 4) 1 Lib.objectInit ∈ ab_tb := ab_tb_in (by decide +kernel) rfl
def cw104 (cA : Nat → ClassId) (h0 : Nat) (u : Nat → Nat) : va_W := [(h0, .inr (4, [.ref (u 0), .int 0, .ref (u 1), .ref (u 2), .ref (u 3), .ref (u 4), .ref (u 5), .ref (u 6), .int 0, .ref (u 7), .int 0, .long 0, .long 1, .int 0, .ref (u 8), .ref (u 9), .int 0, .int 0, .int 0, .int 0, .int 0, .ref (u 10), .int 0, .int 0, .long 0])), (u 0, .inl (cA 0, 5280, .inl (fun _ => 0))), (u 1, .inl (cA 0, 3, .inl (fun _ => -nI 1))), (u 2, .inl (cA 0, 240, .inl (fun _ => 0))), (u 3, .inl (cA 0, 6, .inl (fun _ => -nI 1))), (u 4, .inl (cA 0, 240, .inl (fun _ => 0))), (u 5, .inl (cA 0, 4, .inl (fun _ => -nI 1))), (u 6, .inl (cA 0, 40, .inl (fun _ => 0))), (u 7, .inl (cA 0, 6, .inl (fun _ => 0))), (u 8, .inl (cA 0, 6, .inl (fun _ => 0))), (u 9, .inl (cA 0, 6, .inl (fun _ => 0))), (u 10, .inl (cA 0, 7, .inl (fun _ => 0)))]
def rm104 : Room := { frames := 2, cells := 11, slots := 5838, locals := 100 }
set_option maxHeartbeats 4000000 in
set_option maxRecDepth 100000 in
theorem cn104 (l : Launch) (D : va_G) (cA : Nat → ClassId) : ck_Ct l D cA ab_e104 rm104 (.inr (4, [.null, .int 0, .null, .null, .null, .null, .null, .null, .int 0, .null, .int 0, .long 0, .long 0, .int 0, .null, .null, .int 0, .int 0, .int 0, .int 0, .int 0, .null, .int 0, .int 0, .long 0])) (cw104 cA) := by
  intro h0 sz
  refine Met.ofW (cc := prog_6_method_1_code) (maxL := 2) (ret := none) (by decide) rfl ?_
  intro p e s m args below meth c s₁ B hml hv
  obtain ⟨rfl, hsz, hP, hK, hD0⟩ := hv
  have hx := B.exec
  have hb := B.bytes
  have hr := B.returns
  have hts0 := atoms_spec (ws := Cond.code ab_e104.1 ab_e104.2.1 ab_e104.2.2.1 ab_e104.2.2.2.1 :: ab_tb) B.pre
  have hts : ∀ w ∈ ab_tb, w.before _ s = true := fun w hw => hts0 w (List.mem_cons_of_mem _ hw)
  have hown : s.vm.findClass (ab_onm 4) = some m.cls := findClass_of_methodNamed B.named
  have hlocks := B.notSynchronized
  have hin : meth.name = "<init>" := (name_of_methodNamed B.named B.method).1
  subst hsz
  have hD := hD0.self (sz := s.heap.size)
  generalize hAe : va_A [(h0, .inr (4, [.null, .int 0, .null, .null, .null, .null, .null, .null, .int 0, .null, .int 0, .long 0, .long 0, .int 0, .null, .null, .int 0, .int 0, .int 0, .int 0, .int 0, .null, .int 0, .int 0, .long 0]))] s.heap.size = A at hD ⊢
  have hA : ∀ q : Nat, s.heap.size ≤ q → A q := fun q h => by rw [← hAe]; exact Or.inr h
  have C : ck_C p s m _ c prog_6_method_1_code 2 4 D cA := ⟨hx, hb, hml, hown, hts, hK⟩
  have h : ck_W D A s [(h0, .inr (4, [.null, .int 0, .null, .null, .null, .null, .null, .null, .int 0, .null, .int 0, .long 0, .long 0, .int 0, .null, .null, .int 0, .int 0, .int 0, .int 0, .int 0, .null, .int 0, .int 0, .long 0]))] s.heap [] := ⟨hP, hD, va_S.rf, hA⟩
  have hl := lv_entry ([.ref h0]) (n := 2) (Nat.le_of_ble_eq_true rfl)
  rw [lg_entry_eq]
  generalize (lg_sl ([.ref h0]) ++ List.replicate (2 - (lg_sl ([.ref h0])).length) Slot.unset).toArray = ls at hl ⊢
  have hl : lv_has ls 2 [(0, .ref h0)] := hl
  refine lv_aload_n hx hb dk104_0 rfl (lv_at hl 0 rfl) ?_
  refine W.objInit hx hb hown (hts _ wk104_obj) (hts _ wk_oi) (hts _ wk_oc) rfl (by rw [hml]; exact hl.1) rfl dk104_1 (Nat.le_of_ble_eq_true rfl) (Nat.le_of_ble_eq_true rfl) ?_
  refine W.eq (g2 := F0 m 4 ls []) rfl ?_
  refine lv_aload_n hx hb dk104_4 rfl (lv_at hl 0 rfl) ?_
  refine lv_sipush (v := nI 5280) hx hb dk104_5 (by decide) ?_
  refine ck_newI C h (N := 5280) rfl (by omega) (Nat.le_of_ble_eq_true rfl) (Nat.le_of_ble_eq_true rfl) dk104_8 (fun q1 H h => ?_)
  refine ck_putF (r := (RX4, TX4, 25)) (ty := .array .int) C hin h (k := 0) (z := 657) (by decide +kernel) rfl ⟨rfl, rfl, by decide +kernel⟩ rfl rfl (Nat.le_of_ble_eq_true rfl) dk104_10 (fun H locs h => ?_)
  have h : ck_W D A s [(h0, .inr (4, [.ref q1, .int 0, .null, .null, .null, .null, .null, .null, .int 0, .null, .int 0, .long 0, .long 0, .int 0, .null, .null, .int 0, .int 0, .int 0, .int 0, .int 0, .null, .int 0, .int 0, .long 0])), (q1, .inl (cA 0, 5280, .inl (fun _ => 0)))] H locs := h
  refine lv_aload_n hx hb dk104_13 rfl (lv_at hl 0 rfl) ?_
  refine lv_iconst (v := nI 3) hx hb dk104_14 (by decide) ?_
  refine ck_newI C h (N := 3) rfl (by omega) (Nat.le_of_ble_eq_true rfl) (Nat.le_of_ble_eq_true rfl) dk104_15 (fun q2 H h => ?_)
  refine ck_putF (r := (RX4, TX4, 25)) (ty := .array .int) C hin h (k := 2) (z := 659) (by decide +kernel) rfl ⟨rfl, rfl, by decide +kernel⟩ rfl rfl (Nat.le_of_ble_eq_true rfl) dk104_17 (fun H locs h => ?_)
  have h : ck_W D A s [(h0, .inr (4, [.ref q1, .int 0, .ref q2, .null, .null, .null, .null, .null, .int 0, .null, .int 0, .long 0, .long 0, .int 0, .null, .null, .int 0, .int 0, .int 0, .int 0, .int 0, .null, .int 0, .int 0, .long 0])), (q1, .inl (cA 0, 5280, .inl (fun _ => 0))), (q2, .inl (cA 0, 3, .inl (fun _ => 0)))] H locs := h
  refine lv_aload_n hx hb dk104_20 rfl (lv_at hl 0 rfl) ?_
  refine lv_sipush (v := nI 240) hx hb dk104_21 (by decide) ?_
  refine ck_newI C h (N := 240) rfl (by omega) (Nat.le_of_ble_eq_true rfl) (Nat.le_of_ble_eq_true rfl) dk104_24 (fun q3 H h => ?_)
  refine ck_putF (r := (RX4, TX4, 25)) (ty := .array .int) C hin h (k := 3) (z := 660) (by decide +kernel) rfl ⟨rfl, rfl, by decide +kernel⟩ rfl rfl (Nat.le_of_ble_eq_true rfl) dk104_26 (fun H locs h => ?_)
  have h : ck_W D A s [(h0, .inr (4, [.ref q1, .int 0, .ref q2, .ref q3, .null, .null, .null, .null, .int 0, .null, .int 0, .long 0, .long 0, .int 0, .null, .null, .int 0, .int 0, .int 0, .int 0, .int 0, .null, .int 0, .int 0, .long 0])), (q1, .inl (cA 0, 5280, .inl (fun _ => 0))), (q2, .inl (cA 0, 3, .inl (fun _ => 0))), (q3, .inl (cA 0, 240, .inl (fun _ => 0)))] H locs := h
  refine lv_aload_n hx hb dk104_29 rfl (lv_at hl 0 rfl) ?_
  refine lv_bipush (v := nI 6) hx hb dk104_30 (by decide) ?_
  refine ck_newI C h (N := 6) rfl (by omega) (Nat.le_of_ble_eq_true rfl) (Nat.le_of_ble_eq_true rfl) dk104_32 (fun q4 H h => ?_)
  refine ck_putF (r := (RX4, TX4, 25)) (ty := .array .int) C hin h (k := 4) (z := 661) (by decide +kernel) rfl ⟨rfl, rfl, by decide +kernel⟩ rfl rfl (Nat.le_of_ble_eq_true rfl) dk104_34 (fun H locs h => ?_)
  have h : ck_W D A s [(h0, .inr (4, [.ref q1, .int 0, .ref q2, .ref q3, .ref q4, .null, .null, .null, .int 0, .null, .int 0, .long 0, .long 0, .int 0, .null, .null, .int 0, .int 0, .int 0, .int 0, .int 0, .null, .int 0, .int 0, .long 0])), (q1, .inl (cA 0, 5280, .inl (fun _ => 0))), (q2, .inl (cA 0, 3, .inl (fun _ => 0))), (q3, .inl (cA 0, 240, .inl (fun _ => 0))), (q4, .inl (cA 0, 6, .inl (fun _ => 0)))] H locs := h
  refine lv_aload_n hx hb dk104_37 rfl (lv_at hl 0 rfl) ?_
  refine lv_sipush (v := nI 240) hx hb dk104_38 (by decide) ?_
  refine ck_newI C h (N := 240) rfl (by omega) (Nat.le_of_ble_eq_true rfl) (Nat.le_of_ble_eq_true rfl) dk104_41 (fun q5 H h => ?_)
  refine ck_putF (r := (RX4, TX4, 25)) (ty := .array .int) C hin h (k := 5) (z := 662) (by decide +kernel) rfl ⟨rfl, rfl, by decide +kernel⟩ rfl rfl (Nat.le_of_ble_eq_true rfl) dk104_43 (fun H locs h => ?_)
  have h : ck_W D A s [(h0, .inr (4, [.ref q1, .int 0, .ref q2, .ref q3, .ref q4, .ref q5, .null, .null, .int 0, .null, .int 0, .long 0, .long 0, .int 0, .null, .null, .int 0, .int 0, .int 0, .int 0, .int 0, .null, .int 0, .int 0, .long 0])), (q1, .inl (cA 0, 5280, .inl (fun _ => 0))), (q2, .inl (cA 0, 3, .inl (fun _ => 0))), (q3, .inl (cA 0, 240, .inl (fun _ => 0))), (q4, .inl (cA 0, 6, .inl (fun _ => 0))), (q5, .inl (cA 0, 240, .inl (fun _ => 0)))] H locs := h
  refine lv_aload_n hx hb dk104_46 rfl (lv_at hl 0 rfl) ?_
  refine lv_iconst (v := nI 4) hx hb dk104_47 (by decide) ?_
  refine ck_newI C h (N := 4) rfl (by omega) (Nat.le_of_ble_eq_true rfl) (Nat.le_of_ble_eq_true rfl) dk104_48 (fun q6 H h => ?_)
  refine ck_putF (r := (RX4, TX4, 25)) (ty := .array .int) C hin h (k := 6) (z := 663) (by decide +kernel) rfl ⟨rfl, rfl, by decide +kernel⟩ rfl rfl (Nat.le_of_ble_eq_true rfl) dk104_50 (fun H locs h => ?_)
  have h : ck_W D A s [(h0, .inr (4, [.ref q1, .int 0, .ref q2, .ref q3, .ref q4, .ref q5, .ref q6, .null, .int 0, .null, .int 0, .long 0, .long 0, .int 0, .null, .null, .int 0, .int 0, .int 0, .int 0, .int 0, .null, .int 0, .int 0, .long 0])), (q1, .inl (cA 0, 5280, .inl (fun _ => 0))), (q2, .inl (cA 0, 3, .inl (fun _ => 0))), (q3, .inl (cA 0, 240, .inl (fun _ => 0))), (q4, .inl (cA 0, 6, .inl (fun _ => 0))), (q5, .inl (cA 0, 240, .inl (fun _ => 0))), (q6, .inl (cA 0, 4, .inl (fun _ => 0)))] H locs := h
  refine lv_aload_n hx hb dk104_53 rfl (lv_at hl 0 rfl) ?_
  refine lv_bipush (v := nI 40) hx hb dk104_54 (by decide) ?_
  refine ck_newI C h (N := 40) rfl (by omega) (Nat.le_of_ble_eq_true rfl) (Nat.le_of_ble_eq_true rfl) dk104_56 (fun q7 H h => ?_)
  refine ck_putF (r := (RX4, TX4, 25)) (ty := .array .int) C hin h (k := 7) (z := 664) (by decide +kernel) rfl ⟨rfl, rfl, by decide +kernel⟩ rfl rfl (Nat.le_of_ble_eq_true rfl) dk104_58 (fun H locs h => ?_)
  have h : ck_W D A s [(h0, .inr (4, [.ref q1, .int 0, .ref q2, .ref q3, .ref q4, .ref q5, .ref q6, .ref q7, .int 0, .null, .int 0, .long 0, .long 0, .int 0, .null, .null, .int 0, .int 0, .int 0, .int 0, .int 0, .null, .int 0, .int 0, .long 0])), (q1, .inl (cA 0, 5280, .inl (fun _ => 0))), (q2, .inl (cA 0, 3, .inl (fun _ => 0))), (q3, .inl (cA 0, 240, .inl (fun _ => 0))), (q4, .inl (cA 0, 6, .inl (fun _ => 0))), (q5, .inl (cA 0, 240, .inl (fun _ => 0))), (q6, .inl (cA 0, 4, .inl (fun _ => 0))), (q7, .inl (cA 0, 40, .inl (fun _ => 0)))] H locs := h
  refine lv_aload_n hx hb dk104_61 rfl (lv_at hl 0 rfl) ?_
  refine lv_bipush (v := nI 6) hx hb dk104_62 (by decide) ?_
  refine ck_newI C h (N := 6) rfl (by omega) (Nat.le_of_ble_eq_true rfl) (Nat.le_of_ble_eq_true rfl) dk104_64 (fun q8 H h => ?_)
  refine ck_putF (r := (RX4, TX4, 25)) (ty := .array .int) C hin h (k := 9) (z := 666) (by decide +kernel) rfl ⟨rfl, rfl, by decide +kernel⟩ rfl rfl (Nat.le_of_ble_eq_true rfl) dk104_66 (fun H locs h => ?_)
  have h : ck_W D A s [(h0, .inr (4, [.ref q1, .int 0, .ref q2, .ref q3, .ref q4, .ref q5, .ref q6, .ref q7, .int 0, .ref q8, .int 0, .long 0, .long 0, .int 0, .null, .null, .int 0, .int 0, .int 0, .int 0, .int 0, .null, .int 0, .int 0, .long 0])), (q1, .inl (cA 0, 5280, .inl (fun _ => 0))), (q2, .inl (cA 0, 3, .inl (fun _ => 0))), (q3, .inl (cA 0, 240, .inl (fun _ => 0))), (q4, .inl (cA 0, 6, .inl (fun _ => 0))), (q5, .inl (cA 0, 240, .inl (fun _ => 0))), (q6, .inl (cA 0, 4, .inl (fun _ => 0))), (q7, .inl (cA 0, 40, .inl (fun _ => 0))), (q8, .inl (cA 0, 6, .inl (fun _ => 0)))] H locs := h
  refine lv_aload_n hx hb dk104_69 rfl (lv_at hl 0 rfl) ?_
  refine lv_lconst (v := 1) hx hb dk104_70 rfl ?_
  refine ck_put (r := (RX4, TX4, 25)) (ty := .long) C h (k := 12) (z := 669) (by decide +kernel) rfl ⟨rfl, by decide +kernel⟩ rfl rfl (Nat.le_of_ble_eq_true rfl) dk104_71 (fun H locs h => ?_)
  have h : ck_W D A s [(h0, .inr (4, [.ref q1, .int 0, .ref q2, .ref q3, .ref q4, .ref q5, .ref q6, .ref q7, .int 0, .ref q8, .int 0, .long 0, .long 1, .int 0, .null, .null, .int 0, .int 0, .int 0, .int 0, .int 0, .null, .int 0, .int 0, .long 0])), (q1, .inl (cA 0, 5280, .inl (fun _ => 0))), (q2, .inl (cA 0, 3, .inl (fun _ => 0))), (q3, .inl (cA 0, 240, .inl (fun _ => 0))), (q4, .inl (cA 0, 6, .inl (fun _ => 0))), (q5, .inl (cA 0, 240, .inl (fun _ => 0))), (q6, .inl (cA 0, 4, .inl (fun _ => 0))), (q7, .inl (cA 0, 40, .inl (fun _ => 0))), (q8, .inl (cA 0, 6, .inl (fun _ => 0)))] H locs := h
  refine lv_aload_n hx hb dk104_74 rfl (lv_at hl 0 rfl) ?_
  refine lv_bipush (v := nI 6) hx hb dk104_75 (by decide) ?_
  refine ck_newI C h (N := 6) rfl (by omega) (Nat.le_of_ble_eq_true rfl) (Nat.le_of_ble_eq_true rfl) dk104_77 (fun q9 H h => ?_)
  refine ck_putF (r := (RX4, TX4, 25)) (ty := .array .int) C hin h (k := 14) (z := 671) (by decide +kernel) rfl ⟨rfl, rfl, by decide +kernel⟩ rfl rfl (Nat.le_of_ble_eq_true rfl) dk104_79 (fun H locs h => ?_)
  have h : ck_W D A s [(h0, .inr (4, [.ref q1, .int 0, .ref q2, .ref q3, .ref q4, .ref q5, .ref q6, .ref q7, .int 0, .ref q8, .int 0, .long 0, .long 1, .int 0, .ref q9, .null, .int 0, .int 0, .int 0, .int 0, .int 0, .null, .int 0, .int 0, .long 0])), (q1, .inl (cA 0, 5280, .inl (fun _ => 0))), (q2, .inl (cA 0, 3, .inl (fun _ => 0))), (q3, .inl (cA 0, 240, .inl (fun _ => 0))), (q4, .inl (cA 0, 6, .inl (fun _ => 0))), (q5, .inl (cA 0, 240, .inl (fun _ => 0))), (q6, .inl (cA 0, 4, .inl (fun _ => 0))), (q7, .inl (cA 0, 40, .inl (fun _ => 0))), (q8, .inl (cA 0, 6, .inl (fun _ => 0))), (q9, .inl (cA 0, 6, .inl (fun _ => 0)))] H locs := h
  refine lv_aload_n hx hb dk104_82 rfl (lv_at hl 0 rfl) ?_
  refine lv_bipush (v := nI 6) hx hb dk104_83 (by decide) ?_
  refine ck_newI C h (N := 6) rfl (by omega) (Nat.le_of_ble_eq_true rfl) (Nat.le_of_ble_eq_true rfl) dk104_85 (fun q10 H h => ?_)
  refine ck_putF (r := (RX4, TX4, 25)) (ty := .array .int) C hin h (k := 15) (z := 672) (by decide +kernel) rfl ⟨rfl, rfl, by decide +kernel⟩ rfl rfl (Nat.le_of_ble_eq_true rfl) dk104_87 (fun H locs h => ?_)
  have h : ck_W D A s [(h0, .inr (4, [.ref q1, .int 0, .ref q2, .ref q3, .ref q4, .ref q5, .ref q6, .ref q7, .int 0, .ref q8, .int 0, .long 0, .long 1, .int 0, .ref q9, .ref q10, .int 0, .int 0, .int 0, .int 0, .int 0, .null, .int 0, .int 0, .long 0])), (q1, .inl (cA 0, 5280, .inl (fun _ => 0))), (q2, .inl (cA 0, 3, .inl (fun _ => 0))), (q3, .inl (cA 0, 240, .inl (fun _ => 0))), (q4, .inl (cA 0, 6, .inl (fun _ => 0))), (q5, .inl (cA 0, 240, .inl (fun _ => 0))), (q6, .inl (cA 0, 4, .inl (fun _ => 0))), (q7, .inl (cA 0, 40, .inl (fun _ => 0))), (q8, .inl (cA 0, 6, .inl (fun _ => 0))), (q9, .inl (cA 0, 6, .inl (fun _ => 0))), (q10, .inl (cA 0, 6, .inl (fun _ => 0)))] H locs := h
  refine lv_aload_n hx hb dk104_90 rfl (lv_at hl 0 rfl) ?_
  refine lv_bipush (v := nI 7) hx hb dk104_91 (by decide) ?_
  refine ck_newI C h (N := 7) rfl (by omega) (Nat.le_of_ble_eq_true rfl) (Nat.le_of_ble_eq_true rfl) dk104_93 (fun q11 H h => ?_)
  refine ck_putF (r := (RX4, TX4, 25)) (ty := .array .int) C hin h (k := 21) (z := 678) (by decide +kernel) rfl ⟨rfl, rfl, by decide +kernel⟩ rfl rfl (Nat.le_of_ble_eq_true rfl) dk104_95 (fun H locs h => ?_)
  have h : ck_W D A s [(h0, .inr (4, [.ref q1, .int 0, .ref q2, .ref q3, .ref q4, .ref q5, .ref q6, .ref q7, .int 0, .ref q8, .int 0, .long 0, .long 1, .int 0, .ref q9, .ref q10, .int 0, .int 0, .int 0, .int 0, .int 0, .ref q11, .int 0, .int 0, .long 0])), (q1, .inl (cA 0, 5280, .inl (fun _ => 0))), (q2, .inl (cA 0, 3, .inl (fun _ => 0))), (q3, .inl (cA 0, 240, .inl (fun _ => 0))), (q4, .inl (cA 0, 6, .inl (fun _ => 0))), (q5, .inl (cA 0, 240, .inl (fun _ => 0))), (q6, .inl (cA 0, 4, .inl (fun _ => 0))), (q7, .inl (cA 0, 40, .inl (fun _ => 0))), (q8, .inl (cA 0, 6, .inl (fun _ => 0))), (q9, .inl (cA 0, 6, .inl (fun _ => 0))), (q10, .inl (cA 0, 6, .inl (fun _ => 0))), (q11, .inl (cA 0, 7, .inl (fun _ => 0)))] H locs := h
  refine lv_iconst (v := nI 0) hx hb dk104_98 (by decide) ?_
  refine lv_istore_n (lv' := [(1, .int (nI 0)), (0, .ref h0)]) hx hb dk104_99 rfl hl (by decide) rfl (fun ls hl => ?_)
  refine lv_iload_n hx hb dk104_100 rfl (lv_at hl 0 rfl) ?_
  refine lv_bipush (v := nI 6) hx hb dk104_101 (by decide) ?_
  refine lv_icmp_ge (tgt := 119) hx hb dk104_103 (by decide) (fun hc => absurd hc (by decide)) (fun _ => ?_)
  refine lv_aload_n hx hb dk104_106 rfl (lv_at hl 1 rfl) ?_
  refine ck_get C h (k := 4) (z := 661) (v := .ref q4) (by decide +kernel) rfl dk104_107 ?_
  refine lv_iload_n hx hb dk104_110 rfl (lv_at hl 0 rfl) ?_
  refine lv_iconst (v := -nI 1) hx hb dk104_111 (by decide) ?_
  refine ck_ist C h 4 (k := 0) rfl (by omega) (by omega) dk104_112 (fun H locs h => ?_)
  have h : ck_W D A s [(h0, .inr (4, [.ref q1, .int 0, .ref q2, .ref q3, .ref q4, .ref q5, .ref q6, .ref q7, .int 0, .ref q8, .int 0, .long 0, .long 1, .int 0, .ref q9, .ref q10, .int 0, .int 0, .int 0, .int 0, .int 0, .ref q11, .int 0, .int 0, .long 0])), (q1, .inl (cA 0, 5280, .inl (fun _ => 0))), (q2, .inl (cA 0, 3, .inl (fun _ => 0))), (q3, .inl (cA 0, 240, .inl (fun _ => 0))), (q4, .inl (cA 0, 6, .inl (upd (fun _ => 0) 0 (-nI 1)))), (q5, .inl (cA 0, 240, .inl (fun _ => 0))), (q6, .inl (cA 0, 4, .inl (fun _ => 0))), (q7, .inl (cA 0, 40, .inl (fun _ => 0))), (q8, .inl (cA 0, 6, .inl (fun _ => 0))), (q9, .inl (cA 0, 6, .inl (fun _ => 0))), (q10, .inl (cA 0, 6, .inl (fun _ => 0))), (q11, .inl (cA 0, 7, .inl (fun _ => 0)))] H locs := h
  refine lv_iinc (v := nI 1) (lv' := [(1, .int (nI 1)), (0, .ref h0)]) hx hb dk104_113 hl (k := 0) rfl (by decide) (by decide) rfl (fun ls hl => ?_)
  refine lv_goto (tgt := 100) hx hb dk104_116 (by decide) ?_
  refine lv_iload_n hx hb dk104_100 rfl (lv_at hl 0 rfl) ?_
  refine lv_bipush (v := nI 6) hx hb dk104_101 (by decide) ?_
  refine lv_icmp_ge (tgt := 119) hx hb dk104_103 (by decide) (fun hc => absurd hc (by decide)) (fun _ => ?_)
  refine lv_aload_n hx hb dk104_106 rfl (lv_at hl 1 rfl) ?_
  refine ck_get C h (k := 4) (z := 661) (v := .ref q4) (by decide +kernel) rfl dk104_107 ?_
  refine lv_iload_n hx hb dk104_110 rfl (lv_at hl 0 rfl) ?_
  refine lv_iconst (v := -nI 1) hx hb dk104_111 (by decide) ?_
  refine ck_ist C h 4 (k := 1) rfl (by omega) (by omega) dk104_112 (fun H locs h => ?_)
  have h : ck_W D A s [(h0, .inr (4, [.ref q1, .int 0, .ref q2, .ref q3, .ref q4, .ref q5, .ref q6, .ref q7, .int 0, .ref q8, .int 0, .long 0, .long 1, .int 0, .ref q9, .ref q10, .int 0, .int 0, .int 0, .int 0, .int 0, .ref q11, .int 0, .int 0, .long 0])), (q1, .inl (cA 0, 5280, .inl (fun _ => 0))), (q2, .inl (cA 0, 3, .inl (fun _ => 0))), (q3, .inl (cA 0, 240, .inl (fun _ => 0))), (q4, .inl (cA 0, 6, .inl (upd (upd (fun _ => 0) 0 (-nI 1)) 1 (-nI 1)))), (q5, .inl (cA 0, 240, .inl (fun _ => 0))), (q6, .inl (cA 0, 4, .inl (fun _ => 0))), (q7, .inl (cA 0, 40, .inl (fun _ => 0))), (q8, .inl (cA 0, 6, .inl (fun _ => 0))), (q9, .inl (cA 0, 6, .inl (fun _ => 0))), (q10, .inl (cA 0, 6, .inl (fun _ => 0))), (q11, .inl (cA 0, 7, .inl (fun _ => 0)))] H locs := h
  refine lv_iinc (v := nI 2) (lv' := [(1, .int (nI 2)), (0, .ref h0)]) hx hb dk104_113 hl (k := 0) rfl (by decide) (by decide) rfl (fun ls hl => ?_)
  refine lv_goto (tgt := 100) hx hb dk104_116 (by decide) ?_
  refine lv_iload_n hx hb dk104_100 rfl (lv_at hl 0 rfl) ?_
  refine lv_bipush (v := nI 6) hx hb dk104_101 (by decide) ?_
  refine lv_icmp_ge (tgt := 119) hx hb dk104_103 (by decide) (fun hc => absurd hc (by decide)) (fun _ => ?_)
  refine lv_aload_n hx hb dk104_106 rfl (lv_at hl 1 rfl) ?_
  refine ck_get C h (k := 4) (z := 661) (v := .ref q4) (by decide +kernel) rfl dk104_107 ?_
  refine lv_iload_n hx hb dk104_110 rfl (lv_at hl 0 rfl) ?_
  refine lv_iconst (v := -nI 1) hx hb dk104_111 (by decide) ?_
  refine ck_ist C h 4 (k := 2) rfl (by omega) (by omega) dk104_112 (fun H locs h => ?_)
  have h : ck_W D A s [(h0, .inr (4, [.ref q1, .int 0, .ref q2, .ref q3, .ref q4, .ref q5, .ref q6, .ref q7, .int 0, .ref q8, .int 0, .long 0, .long 1, .int 0, .ref q9, .ref q10, .int 0, .int 0, .int 0, .int 0, .int 0, .ref q11, .int 0, .int 0, .long 0])), (q1, .inl (cA 0, 5280, .inl (fun _ => 0))), (q2, .inl (cA 0, 3, .inl (fun _ => 0))), (q3, .inl (cA 0, 240, .inl (fun _ => 0))), (q4, .inl (cA 0, 6, .inl (upd (upd (upd (fun _ => 0) 0 (-nI 1)) 1 (-nI 1)) 2 (-nI 1)))), (q5, .inl (cA 0, 240, .inl (fun _ => 0))), (q6, .inl (cA 0, 4, .inl (fun _ => 0))), (q7, .inl (cA 0, 40, .inl (fun _ => 0))), (q8, .inl (cA 0, 6, .inl (fun _ => 0))), (q9, .inl (cA 0, 6, .inl (fun _ => 0))), (q10, .inl (cA 0, 6, .inl (fun _ => 0))), (q11, .inl (cA 0, 7, .inl (fun _ => 0)))] H locs := h
  refine lv_iinc (v := nI 3) (lv' := [(1, .int (nI 3)), (0, .ref h0)]) hx hb dk104_113 hl (k := 0) rfl (by decide) (by decide) rfl (fun ls hl => ?_)
  refine lv_goto (tgt := 100) hx hb dk104_116 (by decide) ?_
  refine lv_iload_n hx hb dk104_100 rfl (lv_at hl 0 rfl) ?_
  refine lv_bipush (v := nI 6) hx hb dk104_101 (by decide) ?_
  refine lv_icmp_ge (tgt := 119) hx hb dk104_103 (by decide) (fun hc => absurd hc (by decide)) (fun _ => ?_)
  refine lv_aload_n hx hb dk104_106 rfl (lv_at hl 1 rfl) ?_
  refine ck_get C h (k := 4) (z := 661) (v := .ref q4) (by decide +kernel) rfl dk104_107 ?_
  refine lv_iload_n hx hb dk104_110 rfl (lv_at hl 0 rfl) ?_
  refine lv_iconst (v := -nI 1) hx hb dk104_111 (by decide) ?_
  refine ck_ist C h 4 (k := 3) rfl (by omega) (by omega) dk104_112 (fun H locs h => ?_)
  have h : ck_W D A s [(h0, .inr (4, [.ref q1, .int 0, .ref q2, .ref q3, .ref q4, .ref q5, .ref q6, .ref q7, .int 0, .ref q8, .int 0, .long 0, .long 1, .int 0, .ref q9, .ref q10, .int 0, .int 0, .int 0, .int 0, .int 0, .ref q11, .int 0, .int 0, .long 0])), (q1, .inl (cA 0, 5280, .inl (fun _ => 0))), (q2, .inl (cA 0, 3, .inl (fun _ => 0))), (q3, .inl (cA 0, 240, .inl (fun _ => 0))), (q4, .inl (cA 0, 6, .inl (upd (upd (upd (upd (fun _ => 0) 0 (-nI 1)) 1 (-nI 1)) 2 (-nI 1)) 3 (-nI 1)))), (q5, .inl (cA 0, 240, .inl (fun _ => 0))), (q6, .inl (cA 0, 4, .inl (fun _ => 0))), (q7, .inl (cA 0, 40, .inl (fun _ => 0))), (q8, .inl (cA 0, 6, .inl (fun _ => 0))), (q9, .inl (cA 0, 6, .inl (fun _ => 0))), (q10, .inl (cA 0, 6, .inl (fun _ => 0))), (q11, .inl (cA 0, 7, .inl (fun _ => 0)))] H locs := h
  refine lv_iinc (v := nI 4) (lv' := [(1, .int (nI 4)), (0, .ref h0)]) hx hb dk104_113 hl (k := 0) rfl (by decide) (by decide) rfl (fun ls hl => ?_)
  refine lv_goto (tgt := 100) hx hb dk104_116 (by decide) ?_
  refine lv_iload_n hx hb dk104_100 rfl (lv_at hl 0 rfl) ?_
  refine lv_bipush (v := nI 6) hx hb dk104_101 (by decide) ?_
  refine lv_icmp_ge (tgt := 119) hx hb dk104_103 (by decide) (fun hc => absurd hc (by decide)) (fun _ => ?_)
  refine lv_aload_n hx hb dk104_106 rfl (lv_at hl 1 rfl) ?_
  refine ck_get C h (k := 4) (z := 661) (v := .ref q4) (by decide +kernel) rfl dk104_107 ?_
  refine lv_iload_n hx hb dk104_110 rfl (lv_at hl 0 rfl) ?_
  refine lv_iconst (v := -nI 1) hx hb dk104_111 (by decide) ?_
  refine ck_ist C h 4 (k := 4) rfl (by omega) (by omega) dk104_112 (fun H locs h => ?_)
  have h : ck_W D A s [(h0, .inr (4, [.ref q1, .int 0, .ref q2, .ref q3, .ref q4, .ref q5, .ref q6, .ref q7, .int 0, .ref q8, .int 0, .long 0, .long 1, .int 0, .ref q9, .ref q10, .int 0, .int 0, .int 0, .int 0, .int 0, .ref q11, .int 0, .int 0, .long 0])), (q1, .inl (cA 0, 5280, .inl (fun _ => 0))), (q2, .inl (cA 0, 3, .inl (fun _ => 0))), (q3, .inl (cA 0, 240, .inl (fun _ => 0))), (q4, .inl (cA 0, 6, .inl (upd (upd (upd (upd (upd (fun _ => 0) 0 (-nI 1)) 1 (-nI 1)) 2 (-nI 1)) 3 (-nI 1)) 4 (-nI 1)))), (q5, .inl (cA 0, 240, .inl (fun _ => 0))), (q6, .inl (cA 0, 4, .inl (fun _ => 0))), (q7, .inl (cA 0, 40, .inl (fun _ => 0))), (q8, .inl (cA 0, 6, .inl (fun _ => 0))), (q9, .inl (cA 0, 6, .inl (fun _ => 0))), (q10, .inl (cA 0, 6, .inl (fun _ => 0))), (q11, .inl (cA 0, 7, .inl (fun _ => 0)))] H locs := h
  refine lv_iinc (v := nI 5) (lv' := [(1, .int (nI 5)), (0, .ref h0)]) hx hb dk104_113 hl (k := 0) rfl (by decide) (by decide) rfl (fun ls hl => ?_)
  refine lv_goto (tgt := 100) hx hb dk104_116 (by decide) ?_
  refine lv_iload_n hx hb dk104_100 rfl (lv_at hl 0 rfl) ?_
  refine lv_bipush (v := nI 6) hx hb dk104_101 (by decide) ?_
  refine lv_icmp_ge (tgt := 119) hx hb dk104_103 (by decide) (fun hc => absurd hc (by decide)) (fun _ => ?_)
  refine lv_aload_n hx hb dk104_106 rfl (lv_at hl 1 rfl) ?_
  refine ck_get C h (k := 4) (z := 661) (v := .ref q4) (by decide +kernel) rfl dk104_107 ?_
  refine lv_iload_n hx hb dk104_110 rfl (lv_at hl 0 rfl) ?_
  refine lv_iconst (v := -nI 1) hx hb dk104_111 (by decide) ?_
  refine ck_ist C h 4 (k := 5) rfl (by omega) (by omega) dk104_112 (fun H locs h => ?_)
  have h : ck_W D A s [(h0, .inr (4, [.ref q1, .int 0, .ref q2, .ref q3, .ref q4, .ref q5, .ref q6, .ref q7, .int 0, .ref q8, .int 0, .long 0, .long 1, .int 0, .ref q9, .ref q10, .int 0, .int 0, .int 0, .int 0, .int 0, .ref q11, .int 0, .int 0, .long 0])), (q1, .inl (cA 0, 5280, .inl (fun _ => 0))), (q2, .inl (cA 0, 3, .inl (fun _ => 0))), (q3, .inl (cA 0, 240, .inl (fun _ => 0))), (q4, .inl (cA 0, 6, .inl (upd (upd (upd (upd (upd (upd (fun _ => 0) 0 (-nI 1)) 1 (-nI 1)) 2 (-nI 1)) 3 (-nI 1)) 4 (-nI 1)) 5 (-nI 1)))), (q5, .inl (cA 0, 240, .inl (fun _ => 0))), (q6, .inl (cA 0, 4, .inl (fun _ => 0))), (q7, .inl (cA 0, 40, .inl (fun _ => 0))), (q8, .inl (cA 0, 6, .inl (fun _ => 0))), (q9, .inl (cA 0, 6, .inl (fun _ => 0))), (q10, .inl (cA 0, 6, .inl (fun _ => 0))), (q11, .inl (cA 0, 7, .inl (fun _ => 0)))] H locs := h
  refine lv_iinc (v := nI 6) (lv' := [(1, .int (nI 6)), (0, .ref h0)]) hx hb dk104_113 hl (k := 0) rfl (by decide) (by decide) rfl (fun ls hl => ?_)
  refine lv_goto (tgt := 100) hx hb dk104_116 (by decide) ?_
  refine lv_iload_n hx hb dk104_100 rfl (lv_at hl 0 rfl) ?_
  refine lv_bipush (v := nI 6) hx hb dk104_101 (by decide) ?_
  refine lv_icmp_ge (tgt := 119) hx hb dk104_103 (by decide) (fun _ => ?_) (fun hc => absurd (by decide) hc)
  refine lv_iconst (v := nI 0) hx hb dk104_119 (by decide) ?_
  refine lv_istore_n (lv' := [(1, .int (nI 0)), (0, .ref h0)]) hx hb dk104_120 rfl hl (by decide) rfl (fun ls hl => ?_)
  refine lv_iload_n hx hb dk104_121 rfl (lv_at hl 0 rfl) ?_
  refine lv_iconst (v := nI 4) hx hb dk104_122 (by decide) ?_
  refine lv_icmp_ge (tgt := 139) hx hb dk104_123 (by decide) (fun hc => absurd hc (by decide)) (fun _ => ?_)
  refine lv_aload_n hx hb dk104_126 rfl (lv_at hl 1 rfl) ?_
  refine ck_get C h (k := 6) (z := 663) (v := .ref q6) (by decide +kernel) rfl dk104_127 ?_
  refine lv_iload_n hx hb dk104_130 rfl (lv_at hl 0 rfl) ?_
  refine lv_iconst (v := -nI 1) hx hb dk104_131 (by decide) ?_
  refine ck_ist C h 6 (k := 0) rfl (by omega) (by omega) dk104_132 (fun H locs h => ?_)
  have h : ck_W D A s [(h0, .inr (4, [.ref q1, .int 0, .ref q2, .ref q3, .ref q4, .ref q5, .ref q6, .ref q7, .int 0, .ref q8, .int 0, .long 0, .long 1, .int 0, .ref q9, .ref q10, .int 0, .int 0, .int 0, .int 0, .int 0, .ref q11, .int 0, .int 0, .long 0])), (q1, .inl (cA 0, 5280, .inl (fun _ => 0))), (q2, .inl (cA 0, 3, .inl (fun _ => 0))), (q3, .inl (cA 0, 240, .inl (fun _ => 0))), (q4, .inl (cA 0, 6, .inl (upd (upd (upd (upd (upd (upd (fun _ => 0) 0 (-nI 1)) 1 (-nI 1)) 2 (-nI 1)) 3 (-nI 1)) 4 (-nI 1)) 5 (-nI 1)))), (q5, .inl (cA 0, 240, .inl (fun _ => 0))), (q6, .inl (cA 0, 4, .inl (upd (fun _ => 0) 0 (-nI 1)))), (q7, .inl (cA 0, 40, .inl (fun _ => 0))), (q8, .inl (cA 0, 6, .inl (fun _ => 0))), (q9, .inl (cA 0, 6, .inl (fun _ => 0))), (q10, .inl (cA 0, 6, .inl (fun _ => 0))), (q11, .inl (cA 0, 7, .inl (fun _ => 0)))] H locs := h
  refine lv_iinc (v := nI 1) (lv' := [(1, .int (nI 1)), (0, .ref h0)]) hx hb dk104_133 hl (k := 0) rfl (by decide) (by decide) rfl (fun ls hl => ?_)
  refine lv_goto (tgt := 121) hx hb dk104_136 (by decide) ?_
  refine lv_iload_n hx hb dk104_121 rfl (lv_at hl 0 rfl) ?_
  refine lv_iconst (v := nI 4) hx hb dk104_122 (by decide) ?_
  refine lv_icmp_ge (tgt := 139) hx hb dk104_123 (by decide) (fun hc => absurd hc (by decide)) (fun _ => ?_)
  refine lv_aload_n hx hb dk104_126 rfl (lv_at hl 1 rfl) ?_
  refine ck_get C h (k := 6) (z := 663) (v := .ref q6) (by decide +kernel) rfl dk104_127 ?_
  refine lv_iload_n hx hb dk104_130 rfl (lv_at hl 0 rfl) ?_
  refine lv_iconst (v := -nI 1) hx hb dk104_131 (by decide) ?_
  refine ck_ist C h 6 (k := 1) rfl (by omega) (by omega) dk104_132 (fun H locs h => ?_)
  have h : ck_W D A s [(h0, .inr (4, [.ref q1, .int 0, .ref q2, .ref q3, .ref q4, .ref q5, .ref q6, .ref q7, .int 0, .ref q8, .int 0, .long 0, .long 1, .int 0, .ref q9, .ref q10, .int 0, .int 0, .int 0, .int 0, .int 0, .ref q11, .int 0, .int 0, .long 0])), (q1, .inl (cA 0, 5280, .inl (fun _ => 0))), (q2, .inl (cA 0, 3, .inl (fun _ => 0))), (q3, .inl (cA 0, 240, .inl (fun _ => 0))), (q4, .inl (cA 0, 6, .inl (upd (upd (upd (upd (upd (upd (fun _ => 0) 0 (-nI 1)) 1 (-nI 1)) 2 (-nI 1)) 3 (-nI 1)) 4 (-nI 1)) 5 (-nI 1)))), (q5, .inl (cA 0, 240, .inl (fun _ => 0))), (q6, .inl (cA 0, 4, .inl (upd (upd (fun _ => 0) 0 (-nI 1)) 1 (-nI 1)))), (q7, .inl (cA 0, 40, .inl (fun _ => 0))), (q8, .inl (cA 0, 6, .inl (fun _ => 0))), (q9, .inl (cA 0, 6, .inl (fun _ => 0))), (q10, .inl (cA 0, 6, .inl (fun _ => 0))), (q11, .inl (cA 0, 7, .inl (fun _ => 0)))] H locs := h
  refine lv_iinc (v := nI 2) (lv' := [(1, .int (nI 2)), (0, .ref h0)]) hx hb dk104_133 hl (k := 0) rfl (by decide) (by decide) rfl (fun ls hl => ?_)
  refine lv_goto (tgt := 121) hx hb dk104_136 (by decide) ?_
  refine lv_iload_n hx hb dk104_121 rfl (lv_at hl 0 rfl) ?_
  refine lv_iconst (v := nI 4) hx hb dk104_122 (by decide) ?_
  refine lv_icmp_ge (tgt := 139) hx hb dk104_123 (by decide) (fun hc => absurd hc (by decide)) (fun _ => ?_)
  refine lv_aload_n hx hb dk104_126 rfl (lv_at hl 1 rfl) ?_
  refine ck_get C h (k := 6) (z := 663) (v := .ref q6) (by decide +kernel) rfl dk104_127 ?_
  refine lv_iload_n hx hb dk104_130 rfl (lv_at hl 0 rfl) ?_
  refine lv_iconst (v := -nI 1) hx hb dk104_131 (by decide) ?_
  refine ck_ist C h 6 (k := 2) rfl (by omega) (by omega) dk104_132 (fun H locs h => ?_)
  have h : ck_W D A s [(h0, .inr (4, [.ref q1, .int 0, .ref q2, .ref q3, .ref q4, .ref q5, .ref q6, .ref q7, .int 0, .ref q8, .int 0, .long 0, .long 1, .int 0, .ref q9, .ref q10, .int 0, .int 0, .int 0, .int 0, .int 0, .ref q11, .int 0, .int 0, .long 0])), (q1, .inl (cA 0, 5280, .inl (fun _ => 0))), (q2, .inl (cA 0, 3, .inl (fun _ => 0))), (q3, .inl (cA 0, 240, .inl (fun _ => 0))), (q4, .inl (cA 0, 6, .inl (upd (upd (upd (upd (upd (upd (fun _ => 0) 0 (-nI 1)) 1 (-nI 1)) 2 (-nI 1)) 3 (-nI 1)) 4 (-nI 1)) 5 (-nI 1)))), (q5, .inl (cA 0, 240, .inl (fun _ => 0))), (q6, .inl (cA 0, 4, .inl (upd (upd (upd (fun _ => 0) 0 (-nI 1)) 1 (-nI 1)) 2 (-nI 1)))), (q7, .inl (cA 0, 40, .inl (fun _ => 0))), (q8, .inl (cA 0, 6, .inl (fun _ => 0))), (q9, .inl (cA 0, 6, .inl (fun _ => 0))), (q10, .inl (cA 0, 6, .inl (fun _ => 0))), (q11, .inl (cA 0, 7, .inl (fun _ => 0)))] H locs := h
  refine lv_iinc (v := nI 3) (lv' := [(1, .int (nI 3)), (0, .ref h0)]) hx hb dk104_133 hl (k := 0) rfl (by decide) (by decide) rfl (fun ls hl => ?_)
  refine lv_goto (tgt := 121) hx hb dk104_136 (by decide) ?_
  refine lv_iload_n hx hb dk104_121 rfl (lv_at hl 0 rfl) ?_
  refine lv_iconst (v := nI 4) hx hb dk104_122 (by decide) ?_
  refine lv_icmp_ge (tgt := 139) hx hb dk104_123 (by decide) (fun hc => absurd hc (by decide)) (fun _ => ?_)
  refine lv_aload_n hx hb dk104_126 rfl (lv_at hl 1 rfl) ?_
  refine ck_get C h (k := 6) (z := 663) (v := .ref q6) (by decide +kernel) rfl dk104_127 ?_
  refine lv_iload_n hx hb dk104_130 rfl (lv_at hl 0 rfl) ?_
  refine lv_iconst (v := -nI 1) hx hb dk104_131 (by decide) ?_
  refine ck_ist C h 6 (k := 3) rfl (by omega) (by omega) dk104_132 (fun H locs h => ?_)
  have h : ck_W D A s [(h0, .inr (4, [.ref q1, .int 0, .ref q2, .ref q3, .ref q4, .ref q5, .ref q6, .ref q7, .int 0, .ref q8, .int 0, .long 0, .long 1, .int 0, .ref q9, .ref q10, .int 0, .int 0, .int 0, .int 0, .int 0, .ref q11, .int 0, .int 0, .long 0])), (q1, .inl (cA 0, 5280, .inl (fun _ => 0))), (q2, .inl (cA 0, 3, .inl (fun _ => 0))), (q3, .inl (cA 0, 240, .inl (fun _ => 0))), (q4, .inl (cA 0, 6, .inl (upd (upd (upd (upd (upd (upd (fun _ => 0) 0 (-nI 1)) 1 (-nI 1)) 2 (-nI 1)) 3 (-nI 1)) 4 (-nI 1)) 5 (-nI 1)))), (q5, .inl (cA 0, 240, .inl (fun _ => 0))), (q6, .inl (cA 0, 4, .inl (upd (upd (upd (upd (fun _ => 0) 0 (-nI 1)) 1 (-nI 1)) 2 (-nI 1)) 3 (-nI 1)))), (q7, .inl (cA 0, 40, .inl (fun _ => 0))), (q8, .inl (cA 0, 6, .inl (fun _ => 0))), (q9, .inl (cA 0, 6, .inl (fun _ => 0))), (q10, .inl (cA 0, 6, .inl (fun _ => 0))), (q11, .inl (cA 0, 7, .inl (fun _ => 0)))] H locs := h
  refine lv_iinc (v := nI 4) (lv' := [(1, .int (nI 4)), (0, .ref h0)]) hx hb dk104_133 hl (k := 0) rfl (by decide) (by decide) rfl (fun ls hl => ?_)
  refine lv_goto (tgt := 121) hx hb dk104_136 (by decide) ?_
  refine lv_iload_n hx hb dk104_121 rfl (lv_at hl 0 rfl) ?_
  refine lv_iconst (v := nI 4) hx hb dk104_122 (by decide) ?_
  refine lv_icmp_ge (tgt := 139) hx hb dk104_123 (by decide) (fun _ => ?_) (fun hc => absurd (by decide) hc)
  refine lv_iconst (v := nI 0) hx hb dk104_139 (by decide) ?_
  refine lv_istore_n (lv' := [(1, .int (nI 0)), (0, .ref h0)]) hx hb dk104_140 rfl hl (by decide) rfl (fun ls hl => ?_)
  refine lv_iload_n hx hb dk104_141 rfl (lv_at hl 0 rfl) ?_
  refine lv_iconst (v := nI 3) hx hb dk104_142 (by decide) ?_
  refine lv_icmp_ge (tgt := 159) hx hb dk104_143 (by decide) (fun hc => absurd hc (by decide)) (fun _ => ?_)
  refine lv_aload_n hx hb dk104_146 rfl (lv_at hl 1 rfl) ?_
  refine ck_get C h (k := 2) (z := 659) (v := .ref q2) (by decide +kernel) rfl dk104_147 ?_
  refine lv_iload_n hx hb dk104_150 rfl (lv_at hl 0 rfl) ?_
  refine lv_iconst (v := -nI 1) hx hb dk104_151 (by decide) ?_
  refine ck_ist C h 2 (k := 0) rfl (by omega) (by omega) dk104_152 (fun H locs h => ?_)
  have h : ck_W D A s [(h0, .inr (4, [.ref q1, .int 0, .ref q2, .ref q3, .ref q4, .ref q5, .ref q6, .ref q7, .int 0, .ref q8, .int 0, .long 0, .long 1, .int 0, .ref q9, .ref q10, .int 0, .int 0, .int 0, .int 0, .int 0, .ref q11, .int 0, .int 0, .long 0])), (q1, .inl (cA 0, 5280, .inl (fun _ => 0))), (q2, .inl (cA 0, 3, .inl (upd (fun _ => 0) 0 (-nI 1)))), (q3, .inl (cA 0, 240, .inl (fun _ => 0))), (q4, .inl (cA 0, 6, .inl (upd (upd (upd (upd (upd (upd (fun _ => 0) 0 (-nI 1)) 1 (-nI 1)) 2 (-nI 1)) 3 (-nI 1)) 4 (-nI 1)) 5 (-nI 1)))), (q5, .inl (cA 0, 240, .inl (fun _ => 0))), (q6, .inl (cA 0, 4, .inl (upd (upd (upd (upd (fun _ => 0) 0 (-nI 1)) 1 (-nI 1)) 2 (-nI 1)) 3 (-nI 1)))), (q7, .inl (cA 0, 40, .inl (fun _ => 0))), (q8, .inl (cA 0, 6, .inl (fun _ => 0))), (q9, .inl (cA 0, 6, .inl (fun _ => 0))), (q10, .inl (cA 0, 6, .inl (fun _ => 0))), (q11, .inl (cA 0, 7, .inl (fun _ => 0)))] H locs := h
  refine lv_iinc (v := nI 1) (lv' := [(1, .int (nI 1)), (0, .ref h0)]) hx hb dk104_153 hl (k := 0) rfl (by decide) (by decide) rfl (fun ls hl => ?_)
  refine lv_goto (tgt := 141) hx hb dk104_156 (by decide) ?_
  refine lv_iload_n hx hb dk104_141 rfl (lv_at hl 0 rfl) ?_
  refine lv_iconst (v := nI 3) hx hb dk104_142 (by decide) ?_
  refine lv_icmp_ge (tgt := 159) hx hb dk104_143 (by decide) (fun hc => absurd hc (by decide)) (fun _ => ?_)
  refine lv_aload_n hx hb dk104_146 rfl (lv_at hl 1 rfl) ?_
  refine ck_get C h (k := 2) (z := 659) (v := .ref q2) (by decide +kernel) rfl dk104_147 ?_
  refine lv_iload_n hx hb dk104_150 rfl (lv_at hl 0 rfl) ?_
  refine lv_iconst (v := -nI 1) hx hb dk104_151 (by decide) ?_
  refine ck_ist C h 2 (k := 1) rfl (by omega) (by omega) dk104_152 (fun H locs h => ?_)
  have h : ck_W D A s [(h0, .inr (4, [.ref q1, .int 0, .ref q2, .ref q3, .ref q4, .ref q5, .ref q6, .ref q7, .int 0, .ref q8, .int 0, .long 0, .long 1, .int 0, .ref q9, .ref q10, .int 0, .int 0, .int 0, .int 0, .int 0, .ref q11, .int 0, .int 0, .long 0])), (q1, .inl (cA 0, 5280, .inl (fun _ => 0))), (q2, .inl (cA 0, 3, .inl (upd (upd (fun _ => 0) 0 (-nI 1)) 1 (-nI 1)))), (q3, .inl (cA 0, 240, .inl (fun _ => 0))), (q4, .inl (cA 0, 6, .inl (upd (upd (upd (upd (upd (upd (fun _ => 0) 0 (-nI 1)) 1 (-nI 1)) 2 (-nI 1)) 3 (-nI 1)) 4 (-nI 1)) 5 (-nI 1)))), (q5, .inl (cA 0, 240, .inl (fun _ => 0))), (q6, .inl (cA 0, 4, .inl (upd (upd (upd (upd (fun _ => 0) 0 (-nI 1)) 1 (-nI 1)) 2 (-nI 1)) 3 (-nI 1)))), (q7, .inl (cA 0, 40, .inl (fun _ => 0))), (q8, .inl (cA 0, 6, .inl (fun _ => 0))), (q9, .inl (cA 0, 6, .inl (fun _ => 0))), (q10, .inl (cA 0, 6, .inl (fun _ => 0))), (q11, .inl (cA 0, 7, .inl (fun _ => 0)))] H locs := h
  refine lv_iinc (v := nI 2) (lv' := [(1, .int (nI 2)), (0, .ref h0)]) hx hb dk104_153 hl (k := 0) rfl (by decide) (by decide) rfl (fun ls hl => ?_)
  refine lv_goto (tgt := 141) hx hb dk104_156 (by decide) ?_
  refine lv_iload_n hx hb dk104_141 rfl (lv_at hl 0 rfl) ?_
  refine lv_iconst (v := nI 3) hx hb dk104_142 (by decide) ?_
  refine lv_icmp_ge (tgt := 159) hx hb dk104_143 (by decide) (fun hc => absurd hc (by decide)) (fun _ => ?_)
  refine lv_aload_n hx hb dk104_146 rfl (lv_at hl 1 rfl) ?_
  refine ck_get C h (k := 2) (z := 659) (v := .ref q2) (by decide +kernel) rfl dk104_147 ?_
  refine lv_iload_n hx hb dk104_150 rfl (lv_at hl 0 rfl) ?_
  refine lv_iconst (v := -nI 1) hx hb dk104_151 (by decide) ?_
  refine ck_ist C h 2 (k := 2) rfl (by omega) (by omega) dk104_152 (fun H locs h => ?_)
  have h : ck_W D A s [(h0, .inr (4, [.ref q1, .int 0, .ref q2, .ref q3, .ref q4, .ref q5, .ref q6, .ref q7, .int 0, .ref q8, .int 0, .long 0, .long 1, .int 0, .ref q9, .ref q10, .int 0, .int 0, .int 0, .int 0, .int 0, .ref q11, .int 0, .int 0, .long 0])), (q1, .inl (cA 0, 5280, .inl (fun _ => 0))), (q2, .inl (cA 0, 3, .inl (upd (upd (upd (fun _ => 0) 0 (-nI 1)) 1 (-nI 1)) 2 (-nI 1)))), (q3, .inl (cA 0, 240, .inl (fun _ => 0))), (q4, .inl (cA 0, 6, .inl (upd (upd (upd (upd (upd (upd (fun _ => 0) 0 (-nI 1)) 1 (-nI 1)) 2 (-nI 1)) 3 (-nI 1)) 4 (-nI 1)) 5 (-nI 1)))), (q5, .inl (cA 0, 240, .inl (fun _ => 0))), (q6, .inl (cA 0, 4, .inl (upd (upd (upd (upd (fun _ => 0) 0 (-nI 1)) 1 (-nI 1)) 2 (-nI 1)) 3 (-nI 1)))), (q7, .inl (cA 0, 40, .inl (fun _ => 0))), (q8, .inl (cA 0, 6, .inl (fun _ => 0))), (q9, .inl (cA 0, 6, .inl (fun _ => 0))), (q10, .inl (cA 0, 6, .inl (fun _ => 0))), (q11, .inl (cA 0, 7, .inl (fun _ => 0)))] H locs := h
  refine lv_iinc (v := nI 3) (lv' := [(1, .int (nI 3)), (0, .ref h0)]) hx hb dk104_153 hl (k := 0) rfl (by decide) (by decide) rfl (fun ls hl => ?_)
  refine lv_goto (tgt := 141) hx hb dk104_156 (by decide) ?_
  refine lv_iload_n hx hb dk104_141 rfl (lv_at hl 0 rfl) ?_
  refine lv_iconst (v := nI 3) hx hb dk104_142 (by decide) ?_
  refine lv_icmp_ge (tgt := 159) hx hb dk104_143 (by decide) (fun _ => ?_) (fun hc => absurd (by decide) hc)
  have h : ck_W D A s [(h0, .inr (4, [.ref q1, .int 0, .ref q2, .ref q3, .ref q4, .ref q5, .ref q6, .ref q7, .int 0, .ref q8, .int 0, .long 0, .long 1, .int 0, .ref q9, .ref q10, .int 0, .int 0, .int 0, .int 0, .int 0, .ref q11, .int 0, .int 0, .long 0])), (q1, .inl (cA 0, 5280, .inl (fun _ => 0))), (q2, .inl (cA 0, 3, .inl (upd (upd (upd (fun _ => 0) 0 (-nI 1)) 1 (-nI 1)) 2 (-nI 1)))), (q3, .inl (cA 0, 240, .inl (fun _ => 0))), (q4, .inl (cA 0, 6, .inl (upd (upd (upd (upd (upd (upd (fun _ => 0) 0 (-nI 1)) 1 (-nI 1)) 2 (-nI 1)) 3 (-nI 1)) 4 (-nI 1)) 5 (-nI 1)))), (q5, .inl (cA 0, 240, .inl (fun _ => 0))), (q6, .inl (cA 0, 4, .inl (upd (upd (upd (upd (fun _ => 0) 0 (-nI 1)) 1 (-nI 1)) 2 (-nI 1)) 3 (-nI 1)))), (q7, .inl (cA 0, 40, .inl (fun _ => 0))), (q8, .inl (cA 0, 6, .inl (fun _ => 0))), (q9, .inl (cA 0, 6, .inl (fun _ => 0))), (q10, .inl (cA 0, 6, .inl (fun _ => 0))), (q11, .inl (cA 0, 7, .inl (fun _ => 0)))] _ _ := h
  have h := ck_cg h 2 (g := fun _ => -nI 1) rfl (by decide)
  have h := ck_cg h 4 (g := fun _ => -nI 1) rfl (by decide)
  have h := ck_cg h 6 (g := fun _ => -nI 1) rfl (by decide)
  have h : ck_W D A s [(h0, .inr (4, [.ref q1, .int 0, .ref q2, .ref q3, .ref q4, .ref q5, .ref q6, .ref q7, .int 0, .ref q8, .int 0, .long 0, .long 1, .int 0, .ref q9, .ref q10, .int 0, .int 0, .int 0, .int 0, .int 0, .ref q11, .int 0, .int 0, .long 0])), (q1, .inl (cA 0, 5280, .inl (fun _ => 0))), (q2, .inl (cA 0, 3, .inl (fun _ => -nI 1))), (q3, .inl (cA 0, 240, .inl (fun _ => 0))), (q4, .inl (cA 0, 6, .inl (fun _ => -nI 1))), (q5, .inl (cA 0, 240, .inl (fun _ => 0))), (q6, .inl (cA 0, 4, .inl (fun _ => -nI 1))), (q7, .inl (cA 0, 40, .inl (fun _ => 0))), (q8, .inl (cA 0, 6, .inl (fun _ => 0))), (q9, .inl (cA 0, 6, .inl (fun _ => 0))), (q10, .inl (cA 0, 6, .inl (fun _ => 0))), (q11, .inl (cA 0, 7, .inl (fun _ => 0)))] _ _ := h
  refine W.widen (k := 11) (n := 5838) (Nat.le_of_ble_eq_true rfl) (Nat.le_of_ble_eq_true rfl) ?_
  exact W.vret hx hb hr (fun t ht hW => ⟨⟨fun k => [q1, q2, q3, q4, q5, q6, q7, q8, q9, q10, q11].getD k 0, rfl, trivial, by rw [ht]; exact h.1, h.2.1⟩, h.2.2.1.F ht⟩) h.2.2.1.2.2 dk104_159
