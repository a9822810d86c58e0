/-! the world that the two constructors make is the first state -/
def kad (x : Nat) (u : Nat → Nat) (y : Nat) (v : Nat → Nat) (t b : Nat) (k : Nat) : Nat := if k = 80 then t else if k = 81 then b else ([x, u 0, u 0 + 1 + 0, u 0 + 1 + 1, u 0 + 1 + 2, u 0 + 1 + 3, u 0 + 1 + 4, u 0 + 1 + 5, u 1, u 2, u 2 + 1 + 0, u 2 + 1 + 1, u 2 + 1 + 2, u 2 + 1 + 3, u 3, u 12, u 49, u 47, u 48, u 37, u 38, u 39, u 40, u 41, u 42, u 43, u 44, u 45, u 46, y, v 0, v 1, v 2, v 3, v 4, v 5, v 6, v 7, v 8, v 9, v 10, u 4, u 5, u 6, u 7, u 8, u 9, u 10, u 11, u 13, u 14, u 15, u 16, u 17, u 18, u 19, u 20, u 21, u 22, u 23, u 24, u 25, u 26, u 27, u 28, u 29, u 30, u 31, u 32, u 33, u 34, u 35, u 36] : List Nat).getD k 0
def kpi : List Nat := [0, 1, 2, 3, 4, 5, 6, 7, 8, 9, 10, 11, 12, 13, 14, 23, 60, 58, 59, 48, 49, 50, 51, 52, 53, 54, 55, 56, 57, 61, 62, 63, 64, 65, 66, 67, 68, 69, 70, 71, 72, 15, 16, 17, 18, 19, 20, 21, 22, 24, 25, 26, 27, 28, 29, 30, 31, 32, 33, 34, 35, 36, 37, 38, 39, 40, 41, 42, 43, 44, 45, 46, 47]
theorem ck_Dm {A : Nat → Prop} {ws ws' : va_W} (hD : va_D A ws) (is : List Nat) (hn : va_nd is = true) (hs : is.map (fun i => (ws.map Prod.fst)[i]?) = (ws'.map Prod.fst).map some) : va_D A ws' := by
  have key : ∀ (k : Nat) (q : Nat × va_E), ws'[k]? = some q → ∃ i p, is[k]? = some i ∧ ws[i]? = some p ∧ p.1 = q.1 := by
    intro k q hk
    have h1 : (is.map (fun i => (ws.map Prod.fst)[i]?))[k]? = some (some q.1) := by rw [hs, List.getElem?_map, List.getElem?_map, hk]; rfl
    rw [List.getElem?_map] at h1
    obtain ⟨i, hi, h2⟩ := Option.map_eq_some_iff.mp h1
    rw [List.getElem?_map] at h2
    obtain ⟨p, hp, h3⟩ := Option.map_eq_some_iff.mp h2
    exact ⟨i, p, hi, hp, h3⟩
  refine ⟨fun i j p q hi hj he => ?_, fun k q hk => ?_⟩
  · obtain ⟨i', p', a1, a2, a3⟩ := key i p hi
    obtain ⟨j', q', b1, b2, b3⟩ := key j q hj
    have := hD.1 i' j' p' q' a2 b2 (by rw [a3, b3, he])
    subst this
    exact va_nd_inj is hn i j i' a1 b1
  · obtain ⟨i, p, -, a2, a3⟩ := key k q hk
    rw [← a3]
    exact hD.2 i p a2
section
variable {D : va_G} {cA : Nat → ClassId} {x y t b : Nat} {u v : Nat → Nat} {H : Heap} {A : Nat → Prop}
set_option maxRecDepth 20000 in
theorem kw_D (hD : va_D A (cw0 cA x u ++ cw104 cA y v)) (h : ab_H) : va_D A (ab_w (kad x u y v t b) cA h) := by
  refine ck_Dm hD kpi (by decide +kernel) ?_
  have e : (ab_w (kad x u y v t b) cA h).map Prod.fst = (List.range 73).map (kad x u y v t b) := by
    unfold ab_w
    rw [List.map_map]
    rfl
  rw [e]
  rfl
abbrev kwP (D : va_G) (cA : Nat → ClassId) (x : Nat) (u : Nat → Nat) (y : Nat) (v : Nat → Nat) (H : Heap) : Prop := va_P D vwCl (cw0 cA x u ++ cw104 cA y v) H
abbrev kwa (D : va_G) (cA : Nat → ClassId) (x : Nat) (u : Nat → Nat) (y : Nat) (v : Nat → Nat) (t b : Nat) (H : Heap) (k : Nat) : Prop := va_at D vwCl (kad x u y v t b k, ab_ent (kad x u y v t b) cA k0 k) H
theorem kw_0 (hP : kwP D cA x u y v H) : kwa D cA x u y v t b H 0 := hP 0 _ rfl
set_option maxRecDepth 20000 in
theorem kw_1 (hP : kwP D cA x u y v H) : kwa D cA x u y v t b H 1 := by
  have h1 : H[kad x u y v t b 1]? = some (vp_cell (cA 3) (6, .inr (.inr (.inr (.inr (fun i => if i < 6 then some (u 0 + 1 + i) else none)))))) := hP 1 _ rfl
  have ec : vp_cell (cA 3) (6, .inr (.inr (.inr (.inr (fun i => if i < 6 then some (kad x u y v t b (ab_ra 1 i)) else none))))) = vp_cell (cA 3) (6, .inr (.inr (.inr (.inr (fun i => if i < 6 then some (u 0 + 1 + i) else none))))) := ck_arr_c (N := 6) (f := fun j => va_rf ((fun i => if i < 6 then some (kad x u y v t b (ab_ra 1 i)) else none) j)) (g := fun j => va_rf ((fun i => if i < 6 then some (u 0 + 1 + i) else none) j)) (fun i hi => by rcases (by omega : i = 0 ∨ i = 1 ∨ i = 2 ∨ i = 3 ∨ i = 4 ∨ i = 5) with rfl | rfl | rfl | rfl | rfl | rfl <;> rfl)
  show H[kad x u y v t b 1]? = some (vp_cell (cA 3) (6, .inr (.inr (.inr (.inr (fun i => if i < 6 then some (kad x u y v t b (ab_ra 1 i)) else none))))))
  rw [ec]
  exact h1
theorem kw_2 (hP : kwP D cA x u y v H) : kwa D cA x u y v t b H 2 := hP 2 _ rfl
theorem kw_3 (hP : kwP D cA x u y v H) : kwa D cA x u y v t b H 3 := hP 3 _ rfl
theorem kw_4 (hP : kwP D cA x u y v H) : kwa D cA x u y v t b H 4 := hP 4 _ rfl
theorem kw_5 (hP : kwP D cA x u y v H) : kwa D cA x u y v t b H 5 := hP 5 _ rfl
theorem kw_6 (hP : kwP D cA x u y v H) : kwa D cA x u y v t b H 6 := hP 6 _ rfl
theorem kw_7 (hP : kwP D cA x u y v H) : kwa D cA x u y v t b H 7 := hP 7 _ rfl
theorem kw_8 (hP : kwP D cA x u y v H) : kwa D cA x u y v t b H 8 := hP 8 _ rfl
set_option maxRecDepth 20000 in
theorem kw_9 (hP : kwP D cA x u y v H) : kwa D cA x u y v t b H 9 := by
  have h1 : H[kad x u y v t b 9]? = some (vp_cell (cA 4) (4, .inr (.inr (.inr (.inr (fun i => if i < 4 then some (u 2 + 1 + i) else none)))))) := hP 9 _ rfl
  have ec : vp_cell (cA 4) (4, .inr (.inr (.inr (.inr (fun i => if i < 4 then some (kad x u y v t b (ab_ra 9 i)) else none))))) = vp_cell (cA 4) (4, .inr (.inr (.inr (.inr (fun i => if i < 4 then some (u 2 + 1 + i) else none))))) := ck_arr_c (N := 4) (f := fun j => va_rf ((fun i => if i < 4 then some (kad x u y v t b (ab_ra 9 i)) else none) j)) (g := fun j => va_rf ((fun i => if i < 4 then some (u 2 + 1 + i) else none) j)) (fun i hi => by rcases (by omega : i = 0 ∨ i = 1 ∨ i = 2 ∨ i = 3) with rfl | rfl | rfl | rfl <;> rfl)
  show H[kad x u y v t b 9]? = some (vp_cell (cA 4) (4, .inr (.inr (.inr (.inr (fun i => if i < 4 then some (kad x u y v t b (ab_ra 9 i)) else none))))))
  rw [ec]
  exact h1
theorem kw_10 (hP : kwP D cA x u y v H) : kwa D cA x u y v t b H 10 := hP 10 _ rfl
theorem kw_11 (hP : kwP D cA x u y v H) : kwa D cA x u y v t b H 11 := hP 11 _ rfl
theorem kw_12 (hP : kwP D cA x u y v H) : kwa D cA x u y v t b H 12 := hP 12 _ rfl
theorem kw_13 (hP : kwP D cA x u y v H) : kwa D cA x u y v t b H 13 := hP 13 _ rfl
theorem kw_14 (hP : kwP D cA x u y v H) : kwa D cA x u y v t b H 14 := hP 14 _ rfl
set_option maxRecDepth 20000 in
theorem kw_15 (hP : kwP D cA x u y v H) : kwa D cA x u y v t b H 15 := by
  have h1 : H[kad x u y v t b 15]? = some (vp_cell (cA 5) (3, .inr (.inr (.inr (.inr (va_up (va_up (va_up (fun _ => none) 0 (some (u 13))) 1 (some (u 21))) 2 (some (u 29)))))))) := hP 23 _ rfl
  have ec : vp_cell (cA 5) (3, .inr (.inr (.inr (.inr (fun i => if i < 3 then some (kad x u y v t b (ab_ra 15 i)) else none))))) = vp_cell (cA 5) (3, .inr (.inr (.inr (.inr (va_up (va_up (va_up (fun _ => none) 0 (some (u 13))) 1 (some (u 21))) 2 (some (u 29))))))) := ck_arr_c (N := 3) (f := fun j => va_rf ((fun i => if i < 3 then some (kad x u y v t b (ab_ra 15 i)) else none) j)) (g := fun j => va_rf ((va_up (va_up (va_up (fun _ => none) 0 (some (u 13))) 1 (some (u 21))) 2 (some (u 29))) j)) (fun i hi => by rcases (by omega : i = 0 ∨ i = 1 ∨ i = 2) with rfl | rfl | rfl <;> rfl)
  show H[kad x u y v t b 15]? = some (vp_cell (cA 5) (3, .inr (.inr (.inr (.inr (fun i => if i < 3 then some (kad x u y v t b (ab_ra 15 i)) else none))))))
  rw [ec]
  exact h1
theorem kw_16 (hP : kwP D cA x u y v H) : kwa D cA x u y v t b H 16 := hP 60 _ rfl
theorem kw_17 (hP : kwP D cA x u y v H) : kwa D cA x u y v t b H 17 := hP 58 _ rfl
theorem kw_18 (hP : kwP D cA x u y v H) : kwa D cA x u y v t b H 18 := hP 59 _ rfl
theorem kw_19 (hP : kwP D cA x u y v H) : kwa D cA x u y v t b H 19 := hP 48 _ rfl
theorem kw_20 (hP : kwP D cA x u y v H) : kwa D cA x u y v t b H 20 := hP 49 _ rfl
theorem kw_21 (hP : kwP D cA x u y v H) : kwa D cA x u y v t b H 21 := hP 50 _ rfl
theorem kw_22 (hP : kwP D cA x u y v H) : kwa D cA x u y v t b H 22 := hP 51 _ rfl
theorem kw_23 (hP : kwP D cA x u y v H) : kwa D cA x u y v t b H 23 := hP 52 _ rfl
theorem kw_24 (hP : kwP D cA x u y v H) : kwa D cA x u y v t b H 24 := hP 53 _ rfl
theorem kw_25 (hP : kwP D cA x u y v H) : kwa D cA x u y v t b H 25 := hP 54 _ rfl
theorem kw_26 (hP : kwP D cA x u y v H) : kwa D cA x u y v t b H 26 := hP 55 _ rfl
theorem kw_27 (hP : kwP D cA x u y v H) : kwa D cA x u y v t b H 27 := hP 56 _ rfl
theorem kw_28 (hP : kwP D cA x u y v H) : kwa D cA x u y v t b H 28 := hP 57 _ rfl
theorem kw_29 (hP : kwP D cA x u y v H) : kwa D cA x u y v t b H 29 := hP 61 _ rfl
theorem kw_30 (hP : kwP D cA x u y v H) : kwa D cA x u y v t b H 30 := hP 62 _ rfl
theorem kw_31 (hP : kwP D cA x u y v H) : kwa D cA x u y v t b H 31 := hP 63 _ rfl
theorem kw_32 (hP : kwP D cA x u y v H) : kwa D cA x u y v t b H 32 := hP 64 _ rfl
theorem kw_33 (hP : kwP D cA x u y v H) : kwa D cA x u y v t b H 33 := hP 65 _ rfl
theorem kw_34 (hP : kwP D cA x u y v H) : kwa D cA x u y v t b H 34 := hP 66 _ rfl
theorem kw_35 (hP : kwP D cA x u y v H) : kwa D cA x u y v t b H 35 := hP 67 _ rfl
theorem kw_36 (hP : kwP D cA x u y v H) : kwa D cA x u y v t b H 36 := hP 68 _ rfl
theorem kw_37 (hP : kwP D cA x u y v H) : kwa D cA x u y v t b H 37 := hP 69 _ rfl
theorem kw_38 (hP : kwP D cA x u y v H) : kwa D cA x u y v t b H 38 := hP 70 _ rfl
theorem kw_39 (hP : kwP D cA x u y v H) : kwa D cA x u y v t b H 39 := hP 71 _ rfl
theorem kw_40 (hP : kwP D cA x u y v H) : kwa D cA x u y v t b H 40 := hP 72 _ rfl
theorem kw_41 (hP : kwP D cA x u y v H) : kwa D cA x u y v t b H 41 := hP 15 _ rfl
theorem kw_42 (hP : kwP D cA x u y v H) : kwa D cA x u y v t b H 42 := hP 16 _ rfl
theorem kw_43 (hP : kwP D cA x u y v H) : kwa D cA x u y v t b H 43 := hP 17 _ rfl
theorem kw_44 (hP : kwP D cA x u y v H) : kwa D cA x u y v t b H 44 := hP 18 _ rfl
theorem kw_45 (hP : kwP D cA x u y v H) : kwa D cA x u y v t b H 45 := hP 19 _ rfl
theorem kw_46 (hP : kwP D cA x u y v H) : kwa D cA x u y v t b H 46 := hP 20 _ rfl
theorem kw_47 (hP : kwP D cA x u y v H) : kwa D cA x u y v t b H 47 := hP 21 _ rfl
theorem kw_48 (hP : kwP D cA x u y v H) : kwa D cA x u y v t b H 48 := hP 22 _ rfl
theorem kw_49 (hP : kwP D cA x u y v H) : kwa D cA x u y v t b H 49 := hP 24 _ rfl
theorem kw_50 (hP : kwP D cA x u y v H) : kwa D cA x u y v t b H 50 := hP 25 _ rfl
theorem kw_51 (hP : kwP D cA x u y v H) : kwa D cA x u y v t b H 51 := hP 26 _ rfl
theorem kw_52 (hP : kwP D cA x u y v H) : kwa D cA x u y v t b H 52 := hP 27 _ rfl
theorem kw_53 (hP : kwP D cA x u y v H) : kwa D cA x u y v t b H 53 := hP 28 _ rfl
theorem kw_54 (hP : kwP D cA x u y v H) : kwa D cA x u y v t b H 54 := hP 29 _ rfl
theorem kw_55 (hP : kwP D cA x u y v H) : kwa D cA x u y v t b H 55 := hP 30 _ rfl
theorem kw_56 (hP : kwP D cA x u y v H) : kwa D cA x u y v t b H 56 := hP 31 _ rfl
theorem kw_57 (hP : kwP D cA x u y v H) : kwa D cA x u y v t b H 57 := hP 32 _ rfl
theorem kw_58 (hP : kwP D cA x u y v H) : kwa D cA x u y v t b H 58 := hP 33 _ rfl
theorem kw_59 (hP : kwP D cA x u y v H) : kwa D cA x u y v t b H 59 := hP 34 _ rfl
theorem kw_60 (hP : kwP D cA x u y v H) : kwa D cA x u y v t b H 60 := hP 35 _ rfl
theorem kw_61 (hP : kwP D cA x u y v H) : kwa D cA x u y v t b H 61 := hP 36 _ rfl
theorem kw_62 (hP : kwP D cA x u y v H) : kwa D cA x u y v t b H 62 := hP 37 _ rfl
theorem kw_63 (hP : kwP D cA x u y v H) : kwa D cA x u y v t b H 63 := hP 38 _ rfl
theorem kw_64 (hP : kwP D cA x u y v H) : kwa D cA x u y v t b H 64 := hP 39 _ rfl
theorem kw_65 (hP : kwP D cA x u y v H) : kwa D cA x u y v t b H 65 := hP 40 _ rfl
theorem kw_66 (hP : kwP D cA x u y v H) : kwa D cA x u y v t b H 66 := hP 41 _ rfl
theorem kw_67 (hP : kwP D cA x u y v H) : kwa D cA x u y v t b H 67 := hP 42 _ rfl
theorem kw_68 (hP : kwP D cA x u y v H) : kwa D cA x u y v t b H 68 := hP 43 _ rfl
theorem kw_69 (hP : kwP D cA x u y v H) : kwa D cA x u y v t b H 69 := hP 44 _ rfl
theorem kw_70 (hP : kwP D cA x u y v H) : kwa D cA x u y v t b H 70 := hP 45 _ rfl
theorem kw_71 (hP : kwP D cA x u y v H) : kwa D cA x u y v t b H 71 := hP 46 _ rfl
theorem kw_72 (hP : kwP D cA x u y v H) : kwa D cA x u y v t b H 72 := hP 47 _ rfl
theorem kw_P (hP : kwP D cA x u y v H) : va_P D vwCl (ab_w (kad x u y v t b) cA k0) H := by
  have key : ∀ k, k < 73 → kwa D cA x u y v t b H k := fun k hk => match k, hk with
    | 0, _ => kw_0 hP
    | 1, _ => kw_1 hP
    | 2, _ => kw_2 hP
    | 3, _ => kw_3 hP
    | 4, _ => kw_4 hP
    | 5, _ => kw_5 hP
    | 6, _ => kw_6 hP
    | 7, _ => kw_7 hP
    | 8, _ => kw_8 hP
    | 9, _ => kw_9 hP
    | 10, _ => kw_10 hP
    | 11, _ => kw_11 hP
    | 12, _ => kw_12 hP
    | 13, _ => kw_13 hP
    | 14, _ => kw_14 hP
    | 15, _ => kw_15 hP
    | 16, _ => kw_16 hP
    | 17, _ => kw_17 hP
    | 18, _ => kw_18 hP
    | 19, _ => kw_19 hP
    | 20, _ => kw_20 hP
    | 21, _ => kw_21 hP
    | 22, _ => kw_22 hP
    | 23, _ => kw_23 hP
    | 24, _ => kw_24 hP
    | 25, _ => kw_25 hP
    | 26, _ => kw_26 hP
    | 27, _ => kw_27 hP
    | 28, _ => kw_28 hP
    | 29, _ => kw_29 hP
    | 30, _ => kw_30 hP
    | 31, _ => kw_31 hP
    | 32, _ => kw_32 hP
    | 33, _ => kw_33 hP
    | 34, _ => kw_34 hP
    | 35, _ => kw_35 hP
    | 36, _ => kw_36 hP
    | 37, _ => kw_37 hP
    | 38, _ => kw_38 hP
    | 39, _ => kw_39 hP
    | 40, _ => kw_40 hP
    | 41, _ => kw_41 hP
    | 42, _ => kw_42 hP
    | 43, _ => kw_43 hP
    | 44, _ => kw_44 hP
    | 45, _ => kw_45 hP
    | 46, _ => kw_46 hP
    | 47, _ => kw_47 hP
    | 48, _ => kw_48 hP
    | 49, _ => kw_49 hP
    | 50, _ => kw_50 hP
    | 51, _ => kw_51 hP
    | 52, _ => kw_52 hP
    | 53, _ => kw_53 hP
    | 54, _ => kw_54 hP
    | 55, _ => kw_55 hP
    | 56, _ => kw_56 hP
    | 57, _ => kw_57 hP
    | 58, _ => kw_58 hP
    | 59, _ => kw_59 hP
    | 60, _ => kw_60 hP
    | 61, _ => kw_61 hP
    | 62, _ => kw_62 hP
    | 63, _ => kw_63 hP
    | 64, _ => kw_64 hP
    | 65, _ => kw_65 hP
    | 66, _ => kw_66 hP
    | 67, _ => kw_67 hP
    | 68, _ => kw_68 hP
    | 69, _ => kw_69 hP
    | 70, _ => kw_70 hP
    | 71, _ => kw_71 hP
    | 72, _ => kw_72 hP
    | n + 73, h => absurd h (by omega)
  intro k q hk
  have hl : k < 73 := by
    have := (List.getElem?_eq_some_iff.mp hk).1
    simpa [ab_w] using this
  rw [ab_w_get _ _ _ hl] at hk
  cases hk
  exact key k hl
end
