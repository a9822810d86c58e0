/-! the whole run -/
theorem ab_dk_0 : ∀ e ∈ ab_mt_0, (e.2.2.2.2.2.all fun q => decide (decode e.2.1 q.1 = .ok (q.2.1, q.2.2))) = true := List.forall_mem_cons.mpr ⟨ab_d0, List.forall_mem_cons.mpr ⟨ab_d1, List.forall_mem_cons.mpr ⟨ab_d2, List.forall_mem_cons.mpr ⟨ab_d3, List.forall_mem_cons.mpr ⟨ab_d4, List.forall_mem_cons.mpr ⟨ab_d5, List.forall_mem_cons.mpr ⟨ab_d6, List.forall_mem_cons.mpr ⟨ab_d7, List.forall_mem_cons.mpr ⟨ab_d8, List.forall_mem_cons.mpr ⟨ab_d9, List.forall_mem_cons.mpr ⟨ab_d10, List.forall_mem_cons.mpr ⟨ab_d11, List.forall_mem_cons.mpr ⟨ab_d12, List.forall_mem_cons.mpr ⟨ab_d13, List.forall_mem_cons.mpr ⟨ab_d14, List.forall_mem_cons.mpr ⟨ab_d15, fun _ h => absurd h List.not_mem_nil⟩⟩⟩⟩⟩⟩⟩⟩⟩⟩⟩⟩⟩⟩⟩⟩
theorem ab_dk_1 : ∀ e ∈ ab_mt_1, (e.2.2.2.2.2.all fun q => decide (decode e.2.1 q.1 = .ok (q.2.1, q.2.2))) = true := List.forall_mem_cons.mpr ⟨ab_d16, List.forall_mem_cons.mpr ⟨ab_d17, List.forall_mem_cons.mpr ⟨ab_d18, List.forall_mem_cons.mpr ⟨ab_d19, List.forall_mem_cons.mpr ⟨ab_d20, List.forall_mem_cons.mpr ⟨ab_d21, List.forall_mem_cons.mpr ⟨ab_d22, List.forall_mem_cons.mpr ⟨ab_d23, List.forall_mem_cons.mpr ⟨ab_d24, List.forall_mem_cons.mpr ⟨ab_d25, List.forall_mem_cons.mpr ⟨ab_d26, List.forall_mem_cons.mpr ⟨ab_d27, List.forall_mem_cons.mpr ⟨ab_d28, List.forall_mem_cons.mpr ⟨ab_d29, List.forall_mem_cons.mpr ⟨ab_d30, List.forall_mem_cons.mpr ⟨ab_d31, fun _ h => absurd h List.not_mem_nil⟩⟩⟩⟩⟩⟩⟩⟩⟩⟩⟩⟩⟩⟩⟩⟩
theorem ab_dk_2 : ∀ e ∈ ab_mt_2, (e.2.2.2.2.2.all fun q => decide (decode e.2.1 q.1 = .ok (q.2.1, q.2.2))) = true := List.forall_mem_cons.mpr ⟨ab_d32, List.forall_mem_cons.mpr ⟨ab_d33, List.forall_mem_cons.mpr ⟨ab_d34, List.forall_mem_cons.mpr ⟨ab_d35, List.forall_mem_cons.mpr ⟨ab_d36, List.forall_mem_cons.mpr ⟨ab_d37, List.forall_mem_cons.mpr ⟨ab_d38, List.forall_mem_cons.mpr ⟨ab_d39, List.forall_mem_cons.mpr ⟨ab_d40, List.forall_mem_cons.mpr ⟨ab_d41, List.forall_mem_cons.mpr ⟨ab_d42, List.forall_mem_cons.mpr ⟨ab_d43, List.forall_mem_cons.mpr ⟨ab_d44, List.forall_mem_cons.mpr ⟨ab_d45, List.forall_mem_cons.mpr ⟨ab_d46, List.forall_mem_cons.mpr ⟨ab_d47, fun _ h => absurd h List.not_mem_nil⟩⟩⟩⟩⟩⟩⟩⟩⟩⟩⟩⟩⟩⟩⟩⟩
theorem ab_dk_3 : ∀ e ∈ ab_mt_3, (e.2.2.2.2.2.all fun q => decide (decode e.2.1 q.1 = .ok (q.2.1, q.2.2))) = true := List.forall_mem_cons.mpr ⟨ab_d48, List.forall_mem_cons.mpr ⟨ab_d49, List.forall_mem_cons.mpr ⟨ab_d50, List.forall_mem_cons.mpr ⟨ab_d51, List.forall_mem_cons.mpr ⟨ab_d52, List.forall_mem_cons.mpr ⟨ab_d53, List.forall_mem_cons.mpr ⟨ab_d54, List.forall_mem_cons.mpr ⟨ab_d55, List.forall_mem_cons.mpr ⟨ab_d56, List.forall_mem_cons.mpr ⟨ab_d57, List.forall_mem_cons.mpr ⟨ab_d58, List.forall_mem_cons.mpr ⟨ab_d59, List.forall_mem_cons.mpr ⟨ab_d60, List.forall_mem_cons.mpr ⟨ab_d61, List.forall_mem_cons.mpr ⟨ab_d62, List.forall_mem_cons.mpr ⟨ab_d63, fun _ h => absurd h List.not_mem_nil⟩⟩⟩⟩⟩⟩⟩⟩⟩⟩⟩⟩⟩⟩⟩⟩
theorem ab_dk_4 : ∀ e ∈ ab_mt_4, (e.2.2.2.2.2.all fun q => decide (decode e.2.1 q.1 = .ok (q.2.1, q.2.2))) = true := List.forall_mem_cons.mpr ⟨ab_d64, List.forall_mem_cons.mpr ⟨ab_d65, List.forall_mem_cons.mpr ⟨ab_d66, List.forall_mem_cons.mpr ⟨ab_d67, List.forall_mem_cons.mpr ⟨ab_d68, List.forall_mem_cons.mpr ⟨ab_d69, List.forall_mem_cons.mpr ⟨ab_d70, List.forall_mem_cons.mpr ⟨ab_d71, List.forall_mem_cons.mpr ⟨ab_d72, List.forall_mem_cons.mpr ⟨ab_d73, List.forall_mem_cons.mpr ⟨ab_d74, List.forall_mem_cons.mpr ⟨ab_d75, List.forall_mem_cons.mpr ⟨ab_d76, List.forall_mem_cons.mpr ⟨ab_d77, List.forall_mem_cons.mpr ⟨ab_d78, List.forall_mem_cons.mpr ⟨ab_d79, fun _ h => absurd h List.not_mem_nil⟩⟩⟩⟩⟩⟩⟩⟩⟩⟩⟩⟩⟩⟩⟩⟩
theorem ab_dk_5 : ∀ e ∈ ab_mt_5, (e.2.2.2.2.2.all fun q => decide (decode e.2.1 q.1 = .ok (q.2.1, q.2.2))) = true := List.forall_mem_cons.mpr ⟨ab_d80, List.forall_mem_cons.mpr ⟨ab_d81, List.forall_mem_cons.mpr ⟨ab_d82, List.forall_mem_cons.mpr ⟨ab_d83, List.forall_mem_cons.mpr ⟨ab_d84, List.forall_mem_cons.mpr ⟨ab_d85, List.forall_mem_cons.mpr ⟨ab_d86, List.forall_mem_cons.mpr ⟨ab_d87, List.forall_mem_cons.mpr ⟨ab_d88, List.forall_mem_cons.mpr ⟨ab_d89, List.forall_mem_cons.mpr ⟨ab_d90, List.forall_mem_cons.mpr ⟨ab_d91, List.forall_mem_cons.mpr ⟨ab_d92, List.forall_mem_cons.mpr ⟨ab_d93, List.forall_mem_cons.mpr ⟨ab_d94, List.forall_mem_cons.mpr ⟨ab_d95, fun _ h => absurd h List.not_mem_nil⟩⟩⟩⟩⟩⟩⟩⟩⟩⟩⟩⟩⟩⟩⟩⟩
theorem ab_dk_6 : ∀ e ∈ ab_mt_6, (e.2.2.2.2.2.all fun q => decide (decode e.2.1 q.1 = .ok (q.2.1, q.2.2))) = true := List.forall_mem_cons.mpr ⟨ab_d96, List.forall_mem_cons.mpr ⟨ab_d97, List.forall_mem_cons.mpr ⟨ab_d98, List.forall_mem_cons.mpr ⟨ab_d99, List.forall_mem_cons.mpr ⟨ab_d100, List.forall_mem_cons.mpr ⟨ab_d101, List.forall_mem_cons.mpr ⟨ab_d102, List.forall_mem_cons.mpr ⟨ab_d103, List.forall_mem_cons.mpr ⟨ab_d104, List.forall_mem_cons.mpr ⟨ab_d105, List.forall_mem_cons.mpr ⟨ab_d106, List.forall_mem_cons.mpr ⟨ab_d107, List.forall_mem_cons.mpr ⟨ab_d108, List.forall_mem_cons.mpr ⟨ab_d109, List.forall_mem_cons.mpr ⟨ab_d110, List.forall_mem_cons.mpr ⟨ab_d111, fun _ h => absurd h List.not_mem_nil⟩⟩⟩⟩⟩⟩⟩⟩⟩⟩⟩⟩⟩⟩⟩⟩
theorem ab_dk_7 : ∀ e ∈ ab_mt_7, (e.2.2.2.2.2.all fun q => decide (decode e.2.1 q.1 = .ok (q.2.1, q.2.2))) = true := List.forall_mem_cons.mpr ⟨ab_d112, List.forall_mem_cons.mpr ⟨ab_d113, List.forall_mem_cons.mpr ⟨ab_d114, List.forall_mem_cons.mpr ⟨ab_d115, List.forall_mem_cons.mpr ⟨ab_d116, List.forall_mem_cons.mpr ⟨ab_d117, List.forall_mem_cons.mpr ⟨ab_d118, List.forall_mem_cons.mpr ⟨ab_d119, List.forall_mem_cons.mpr ⟨ab_d120, List.forall_mem_cons.mpr ⟨ab_d121, List.forall_mem_cons.mpr ⟨ab_d122, List.forall_mem_cons.mpr ⟨ab_d123, List.forall_mem_cons.mpr ⟨ab_d124, List.forall_mem_cons.mpr ⟨ab_d125, List.forall_mem_cons.mpr ⟨ab_d126, List.forall_mem_cons.mpr ⟨ab_d127, fun _ h => absurd h List.not_mem_nil⟩⟩⟩⟩⟩⟩⟩⟩⟩⟩⟩⟩⟩⟩⟩⟩
theorem ab_dk_8 : ∀ e ∈ ab_mt_8, (e.2.2.2.2.2.all fun q => decide (decode e.2.1 q.1 = .ok (q.2.1, q.2.2))) = true := List.forall_mem_cons.mpr ⟨ab_d128, List.forall_mem_cons.mpr ⟨ab_d129, List.forall_mem_cons.mpr ⟨ab_d130, List.forall_mem_cons.mpr ⟨ab_d131, List.forall_mem_cons.mpr ⟨ab_d132, List.forall_mem_cons.mpr ⟨ab_d133, List.forall_mem_cons.mpr ⟨ab_d134, List.forall_mem_cons.mpr ⟨ab_d135, List.forall_mem_cons.mpr ⟨ab_d136, List.forall_mem_cons.mpr ⟨ab_d137, List.forall_mem_cons.mpr ⟨ab_d138, List.forall_mem_cons.mpr ⟨ab_d139, List.forall_mem_cons.mpr ⟨ab_d140, List.forall_mem_cons.mpr ⟨ab_d141, List.forall_mem_cons.mpr ⟨ab_d142, List.forall_mem_cons.mpr ⟨ab_d143, fun _ h => absurd h List.not_mem_nil⟩⟩⟩⟩⟩⟩⟩⟩⟩⟩⟩⟩⟩⟩⟩⟩
theorem ab_dk_9 : ∀ e ∈ ab_mt_9, (e.2.2.2.2.2.all fun q => decide (decode e.2.1 q.1 = .ok (q.2.1, q.2.2))) = true := List.forall_mem_cons.mpr ⟨ab_d144, List.forall_mem_cons.mpr ⟨ab_d145, List.forall_mem_cons.mpr ⟨ab_d146, List.forall_mem_cons.mpr ⟨ab_d147, List.forall_mem_cons.mpr ⟨ab_d148, List.forall_mem_cons.mpr ⟨ab_d149, List.forall_mem_cons.mpr ⟨ab_d150, List.forall_mem_cons.mpr ⟨ab_d151, List.forall_mem_cons.mpr ⟨ab_d152, List.forall_mem_cons.mpr ⟨ab_d153, List.forall_mem_cons.mpr ⟨ab_d154, List.forall_mem_cons.mpr ⟨ab_d155, List.forall_mem_cons.mpr ⟨ab_d156, List.forall_mem_cons.mpr ⟨ab_d157, List.forall_mem_cons.mpr ⟨ab_d158, List.forall_mem_cons.mpr ⟨ab_d159, fun _ h => absurd h List.not_mem_nil⟩⟩⟩⟩⟩⟩⟩⟩⟩⟩⟩⟩⟩⟩⟩⟩
theorem ab_dk_10 : ∀ e ∈ ab_mt_10, (e.2.2.2.2.2.all fun q => decide (decode e.2.1 q.1 = .ok (q.2.1, q.2.2))) = true := List.forall_mem_cons.mpr ⟨ab_d160, List.forall_mem_cons.mpr ⟨ab_d161, List.forall_mem_cons.mpr ⟨ab_d162, List.forall_mem_cons.mpr ⟨ab_d163, List.forall_mem_cons.mpr ⟨ab_d164, List.forall_mem_cons.mpr ⟨ab_d165, List.forall_mem_cons.mpr ⟨ab_d166, List.forall_mem_cons.mpr ⟨ab_d167, List.forall_mem_cons.mpr ⟨ab_d168, List.forall_mem_cons.mpr ⟨ab_d169, List.forall_mem_cons.mpr ⟨ab_d170, List.forall_mem_cons.mpr ⟨ab_d171, List.forall_mem_cons.mpr ⟨ab_d172, List.forall_mem_cons.mpr ⟨ab_d173, List.forall_mem_cons.mpr ⟨ab_d174, List.forall_mem_cons.mpr ⟨ab_d175, fun _ h => absurd h List.not_mem_nil⟩⟩⟩⟩⟩⟩⟩⟩⟩⟩⟩⟩⟩⟩⟩⟩
theorem ab_dk_11 : ∀ e ∈ ab_mt_11, (e.2.2.2.2.2.all fun q => decide (decode e.2.1 q.1 = .ok (q.2.1, q.2.2))) = true := List.forall_mem_cons.mpr ⟨ab_d176, List.forall_mem_cons.mpr ⟨ab_d177, List.forall_mem_cons.mpr ⟨ab_d178, List.forall_mem_cons.mpr ⟨ab_d179, List.forall_mem_cons.mpr ⟨ab_d180, List.forall_mem_cons.mpr ⟨ab_d181, List.forall_mem_cons.mpr ⟨ab_d182, List.forall_mem_cons.mpr ⟨ab_d183, List.forall_mem_cons.mpr ⟨ab_d184, List.forall_mem_cons.mpr ⟨ab_d185, List.forall_mem_cons.mpr ⟨ab_d186, List.forall_mem_cons.mpr ⟨ab_d187, List.forall_mem_cons.mpr ⟨ab_d188, List.forall_mem_cons.mpr ⟨ab_d189, List.forall_mem_cons.mpr ⟨ab_d190, List.forall_mem_cons.mpr ⟨ab_d191, fun _ h => absurd h List.not_mem_nil⟩⟩⟩⟩⟩⟩⟩⟩⟩⟩⟩⟩⟩⟩⟩⟩
theorem ab_dk_12 : ∀ e ∈ ab_mt_12, (e.2.2.2.2.2.all fun q => decide (decode e.2.1 q.1 = .ok (q.2.1, q.2.2))) = true := List.forall_mem_cons.mpr ⟨ab_d192, fun _ h => absurd h List.not_mem_nil⟩
set_option maxRecDepth 20000 in
theorem ab_mt_cut2 : ab_mt = (ab_mt_0 ++ ab_mt_1 ++ ab_mt_2 ++ ab_mt_3 ++ ab_mt_4 ++ ab_mt_5 ++ ab_mt_6 ++ ab_mt_7 ++ ab_mt_8 ++ ab_mt_9 ++ ab_mt_10 ++ ab_mt_11 ++ ab_mt_12) ++ [ab_e193] := rfl
theorem ab_dall : ∀ e ∈ ab_mt, (e.2.2.2.2.2.all fun q => decide (decode e.2.1 q.1 = .ok (q.2.1, q.2.2))) = true := by
  rw [ab_mt_cut2]
  intro e h
  simp only [List.mem_append, List.mem_singleton] at h
  rcases h with ((((((((((((h | h) | h) | h) | h) | h) | h) | h) | h) | h) | h) | h) | h) | h
  · exact ab_dk_0 e h
  · exact ab_dk_1 e h
  · exact ab_dk_2 e h
  · exact ab_dk_3 e h
  · exact ab_dk_4 e h
  · exact ab_dk_5 e h
  · exact ab_dk_6 e h
  · exact ab_dk_7 e h
  · exact ab_dk_8 e h
  · exact ab_dk_9 e h
  · exact ab_dk_10 e h
  · exact ab_dk_11 e h
  · exact ab_dk_12 e h
  · rw [h]; exact ab_d193
def ab_lens (ins : Instr) (len : Nat) : Nat := match ins with
  | .bipush _ | .iload _ | .lload _ | .aload _ | .istore _ | .lstore _ | .astore _ => 2
  | .sipush _ | .ldc2_w _ | .ldc_w _ | .iinc _ _ | .ifCond _ _ | .if_icmp _ _ | .goto _ | .getfield _ | .putfield _ | .getstatic _ | .invokestatic _ | .invokevirtual _ => 3
  | .tableswitch _ _ _ _ => len
  | _ => 1
theorem ab_lens_ok : (ab_mt.all fun e => e.2.2.2.2.2.all fun q => decide (q.2.2 = ab_lens q.2.1 q.2.2)) = true := by decide +kernel
theorem ab_lk_spec {M pc : Nat} {q : Nat × Option FieldType × Instr} {E : ab_E} (hE : ab_mt[M]? = some E) (h : ab_lk M pc = some q) : q.1 = E.2.2.2.2.1 ∧ q.2.1 = E.2.2.2.1 ∧ ∃ len, decode E.2.1 pc = .ok (q.2.2, ab_lens q.2.2 len) := by
  unfold ab_lk at h
  rw [hE] at h
  dsimp only at h
  split at h
  · rename_i z hz
    cases h
    refine ⟨rfl, rfl, z.2.2, ?_⟩
    have hm := List.mem_of_find?_eq_some hz
    have h1 := List.find?_some hz
    simp only [beq_iff_eq] at h1
    have h2 := of_decide_eq_true (List.all_eq_true.mp (ab_dall E (List.mem_of_getElem? hE)) z hm)
    have h3 := of_decide_eq_true (List.all_eq_true.mp (List.all_eq_true.mp ab_lens_ok E (List.mem_of_getElem? hE)) z hm)
    rw [← h1, ← h3]
    exact h2
  · cases h
theorem ab_la0_len (ad : Nat → Nat) : ∀ as : List Value, (lg_sl (as.map (ab_cv ad))).length = (ab_la0 as).length
  | [] => rfl
  | v :: t => by
    have ih := ab_la0_len ad t
    unfold lg_sl at ih ⊢
    simp only [List.map_cons, List.flatMap_cons, List.length_append, ab_la0, ab_cv_cat]
    split <;> simp [ih] <;> omega
theorem ab_args_mem (ad : Nat → Nat) : ∀ (as : List Value) (i0 j : Nat) (v : Value), (ab_la0 as)[j]? = some v → v ≠ .null → (i0 + j, ab_cv ad v) ∈ lv_args i0 (as.map (ab_cv ad))
  | [], _, _, _, h, _ => by simp [ab_la0] at h
  | w :: t, i0, j, v, h, hn => by
    simp only [List.map_cons, lv_args, ab_cv_cat]
    simp only [ab_la0] at h
    split at h
    · rename_i hc
      rw [if_pos hc]
      match j, h with
      | 0, h => cases h; exact List.mem_cons_self
      | 1, h => cases h; exact absurd rfl hn
      | j + 2, h =>
        refine List.mem_cons_of_mem _ ?_
        have := ab_args_mem ad t (i0 + 2) j v (by simpa using h) hn
        rwa [show i0 + 2 + j = i0 + (j + 2) by omega] at this
    · rename_i hc
      rw [if_neg hc]
      match j, h with
      | 0, h => cases h; exact List.mem_cons_self
      | j + 1, h =>
        refine List.mem_cons_of_mem _ ?_
        have := ab_args_mem ad t (i0 + 1) j v (by simpa using h) hn
        rwa [show i0 + 1 + j = i0 + (j + 1) by omega] at this
theorem ab_en_get {n j : Nat} {as : List Value} {v : Value} (h : (ab_en n as)[j]? = some v) (hn : v ≠ .null) : (ab_la0 as)[j]? = some v := by
  unfold ab_en at h
  by_cases hj : j < (ab_la0 as).length
  · rwa [List.getElem?_append_left hj] at h
  · rw [List.getElem?_append_right (by omega), List.getElem?_replicate] at h
    split at h
    · cases h; exact absurd rfl hn
    · cases h
theorem ab_en_len {n : Nat} {as : List Value} (h : (ab_la0 as).length ≤ n) : (ab_en n as).length = n := by
  unfold ab_en
  simp
  omega
theorem ab_en_lok {n : Nat} {as : List Value} {lg : List Nat} (h : ab_okL lg (ab_la0 as) = true) : ab_Lok lg (ab_en n as) := by
  intro j v hv hc
  have hn : v ≠ .null := by rintro rfl; cases hc
  have h1 := ab_en_get hv hn
  unfold ab_okL at h
  have h2 := List.all_eq_true.mp h (v, j) (List.mk_mem_zipIdx_iff_getElem?.mpr h1)
  simp only [Bool.or_eq_true, bne_iff_ne, ne_eq] at h2
  rcases h2 with h2 | h2
  · exact absurd hc h2
  · exact h2
/-- the end of a method's run, as its return instruction wants it -/
def ab_End (rt : Option FieldType) (cc : ByteArray) (v : Option Value) (pc : Nat) (st : List Value) : Prop := match v with
  | none => rt = none ∧ decode cc pc = .ok (.return_, 1) ∧ st = []
  | some (.int x) => ab_rk rt x = true ∧ decode cc pc = .ok (.ireturn, 1) ∧ st = [.int x]
  | some (.long x) => rt = some .long ∧ decode cc pc = .ok (.lreturn, 1) ∧ st = [.long x]
  | _ => False
abbrev ab_Sim (l : Launch) (D : va_G) (base : Nat) (ad : Nat → Nat) (cA : Nat → ClassId) (X : ab_X) (n : Nat) : Prop :=
  ∀ (d M pc : Nat) (lv st : List Value) (h : ab_H) (r : ab_R), ab_xF X n d M pc lv st h = some r →
    ∀ {p : Program} {e : Env} {R : Room} {s : State} {m : MethodId} {args : Array Value} {below : List Frame} {meth : Method} {c : Code} {H : Heap} {locs : List Loc} {cells slots : Nat} {Q : State → Prop} {E : ab_E} {h0 : ab_H} {ls : Array Slot},
    ab_mt[M]? = some E → p.tables.exec = Jvm.exec → c.code = E.2.1 → c.maxLocals = E.2.2.1 → s.vm.findClass (ab_onm E.2.2.2.2.1) = some m.cls → (∀ w ∈ ab_tb, w.before args s = true) → ab_B D base ad cA X h0 s → (d + 1 ≤ R.frames ∧ 100 * (d + 1) ≤ R.locals) → (cells ≤ R.cells ∧ slots ≤ R.slots) →
    va_P D vwCl (ab_w ad cA h) H → va_S (ab_A base) s.heap H locs → lv_has ls E.2.2.1 (ab_lp ad lv) → lv.length = E.2.2.1 → ab_Lok (ab_Lg M) lv →
    (∀ (H : Heap) (locs : List Loc) (ls : Array Slot) (pc : Nat) (st : List Value), va_P D vwCl (ab_w ad cA r.2) H → va_S (ab_A base) s.heap H locs → ab_End E.2.2.2.1 E.2.1 r.1 pc st → W p l e R s m args below meth c H locs cells slots Q (F0 m pc ls (st.map (ab_cv ad)))) →
    W p l e R s m args below meth c H locs cells slots Q (F0 m pc ls (st.map (ab_cv ad)))
set_option maxHeartbeats 1000000 in
theorem ab_ctr {l : Launch} {D : va_G} {base : Nat} {ad : Nat → Nat} {cA : Nat → ClassId} {X : ab_X} {n : Nat} (ih : ab_Sim l D base ad cA X n) {d M : Nat} {as : List Value} {h : ab_H} {z : ab_R} (q : ab_xF X n d M 0 (ab_en (ab_ml M) as) [] h = some z) (h1 : (ab_la0 as).length ≤ ab_ml M ∧ ab_okL (ab_Lg M) (ab_la0 as) = true)
    (hpl : ∀ E, ab_mt[M]? = some E → plainName E.1.cls = true ∧ ab_onm E.2.2.2.2.1 = E.1.cls) : ab_Ct l D base ad cA X d M as h z := by
  intro E hE
  have hmlE : ab_ml M = E.2.2.1 := by unfold ab_ml; rw [hE]
  rw [hmlE] at q h1
  refine Met.ofW (cc := E.2.1) (maxL := E.2.2.1) (ret := E.2.2.2.1) (hpl E hE).1 rfl ?_
  intro p e s m args below meth c s₁ Bd hml hv
  obtain ⟨rfl, hB⟩ := hv
  have hx := Bd.exec
  have hb := Bd.bytes
  have hr := Bd.returns
  have hts := atoms_spec (ws := Cond.code E.1 E.2.1 E.2.2.1 E.2.2.2.1 :: ab_tb) Bd.pre
  have hown : s.vm.findClass E.1.cls = some m.cls := findClass_of_methodNamed Bd.named
  have hlocks := Bd.notSynchronized
  have hl := lv_entry (as.map (ab_cv ad)) (n := E.2.2.1) (by rw [ab_la0_len]; exact h1.1)
  rw [lg_entry_eq]
  generalize (lg_sl (as.map (ab_cv ad)) ++ List.replicate (E.2.2.1 - (lg_sl (as.map (ab_cv ad))).length) Slot.unset).toArray = ls at hl ⊢
  have hl2 : lv_has ls E.2.2.1 (ab_lp ad (ab_en E.2.2.1 as)) := ⟨hl.1, hl.2.1, fun w hw => hl.2.2 w (by
    obtain ⟨v, hv, hn, he⟩ := ab_lp_mem.mp hw
    have h3 := ab_args_mem ad as 0 w.1 v (ab_en_get hv hn) hn
    rw [Nat.zero_add, ← he] at h3
    exact h3)⟩
  refine ih d M 0 _ [] h z q hE hx hb hml (by rw [(hpl E hE).2]; exact hown) (fun w hw => hts w (List.mem_cons_of_mem _ hw)) hB ⟨Nat.le_refl _, Nat.le_refl _⟩ ⟨Nat.le_refl _, Nat.le_refl _⟩ hB.2.1 va_S.rf hl2 (ab_en_len h1.1) (ab_en_lok h1.2) ?_
  intro H locs ls pc st hP hS hend
  obtain ⟨v, h'⟩ := z
  cases v with
  | none =>
    obtain ⟨e1, e2, rfl⟩ := hend
    rw [e1] at hr
    exact W.vret hx hb hr (fun t ht _ => ⟨⟨h', rfl, rfl, by dsimp only; rw [ht]; exact hP⟩, hS.F ht⟩) hS.2.2 e2
  | some v =>
    cases v with
    | int x =>
      obtain ⟨e1, e2, rfl⟩ := hend
      have hq : ∀ t : State, t.heap = H → s.WarmedH t.vm → ab_Qc D base ad cA (some (.int x), h') (as.map (ab_cv ad)).toArray s (.returned (some (.int x))) t := fun t ht _ => ⟨⟨x, h', rfl, ⟨rfl, rfl⟩, by dsimp only; rw [ht]; exact hP⟩, hS.F ht⟩
      cases hrt : E.2.2.2.1 with
      | none => rw [hrt] at e1; cases e1
      | some ty =>
        rw [hrt] at e1 hr
        cases ty with
        | int => exact W.iret hx hb hr hq hS.2.2 e2
        | boolean =>
          simp only [ab_rk, Bool.or_eq_true, decide_eq_true_eq] at e1
          refine W.zret hx hb hr ?_ hq hS.2.2 e2
          rcases e1 with rfl | rfl <;> rfl
        | _ => cases e1
    | long x =>
      obtain ⟨e1, e2, rfl⟩ := hend
      rw [e1] at hr
      exact W.lret hx hb hr (fun t ht _ => ⟨⟨x, h', rfl, ⟨rfl, rfl⟩, by dsimp only; rw [ht]; exact hP⟩, hS.F ht⟩) hS.2.2 e2
    | _ => exact False.elim hend
set_option maxHeartbeats 1000000 in
theorem ab_sim (l : Launch) {D : va_G} {base : Nat} {ad : Nat → Nat} {cA : Nat → ClassId} {X : ab_X} (hG : ab_G base ad cA) : ∀ n, ab_Sim l D base ad cA X n
  | 0 => fun _ _ _ _ _ _ _ q => by cases q
  | n + 1 => by
    intro d M pc lv st h r q p e R s m args below meth c H locs cells slots Q E h0 ls hE hx hb hml hown hts hB hR hcs hP hS hl hn hL hend
    have ih := ab_sim l (D := D) (X := X) hG n
    rw [ab_xF_s] at q
    unfold ab_sp at q
    cases hlk : ab_lk M pc with
    | none => rw [hlk] at q; cases q
    | some w =>
      rw [hlk] at q
      obtain ⟨w1, w2, len, w3⟩ := ab_lk_spec hE hlk
      dsimp only at q
      rw [w1, w2] at q
      refine ab_step (d := d) (len := len) hx hb hml hown hts hG hB hR hcs (fun n hn => by rw [hn]; exact w3) hP hS hl hn hL ?_ ?_ ?_ q
      · intro pc lv st h q H locs ls hP hS hl hn hL
        exact ih d M pc lv st h r q hE hx hb hml hown hts hB hR hcs hP hS hl hn hL hend
      · intro m' as h k q
        cases d with
        | zero => cases q
        | succ d =>
          dsimp only at q
          obtain ⟨z, hz, q⟩ := Option.bind_eq_some_iff.mp q
          exact ⟨z, d, q, rfl, fun g1 _ g3 => ab_ctr ih hz g1 g3⟩
      · intro H locs ls hP hS he
        exact hend H locs ls pc st hP hS he
