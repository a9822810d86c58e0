/-! the first state -/
def k0 : ab_H := (fun c _ => if c = 8 ∨ c = 14 ∨ c = 31 ∨ c = 33 ∨ c = 35 then -nI 1 else 0, fun c i => if (c = 0 ∧ i = 14) ∨ (c = 29 ∧ i = 12) then 1 else 0)
theorem k0_I (c i : Nat) (h : ¬ (c = 8 ∨ c = 14 ∨ c = 31 ∨ c = 33 ∨ c = 35)) : ab_gI k0 c i = 0 := if_neg h
theorem k0_M (c i : Nat) (h : c = 8 ∨ c = 14 ∨ c = 31 ∨ c = 33 ∨ c = 35) : ab_gI k0 c i = -nI 1 := if_pos h
theorem k0_inv : zInv k0 := by
  have em : -nI 1 = (-1 : Int32) := by decide
  have ez : nI 0 = (0 : Int32) := by decide
  refine ⟨⟨rfl, rfl, rfl, rfl⟩, fun f _ => rfl, fun r hr => ⟨rfl, Or.inl em, fun k _ => ?_⟩, fun t ht => ⟨rfl, Or.inl em, fun k _ => ?_⟩, ⟨0, 0, fun _ => rfl, ez.symm, by omega, by omega, ez.symm, ez.symm, rfl, fun i hi => by omega, fun i hi => by omega, fun j hj => by omega, fun j hj => by omega, fun i hi => ?_⟩, fun k hk => Or.inl ⟨em, ?_⟩, ⟨rfl, rfl, rfl, rfl⟩⟩
  · rw [k0_I _ _ (by omega), k0_I _ _ (by omega)]
  · rw [k0_I _ _ (by omega), k0_I _ _ (by omega)]
    exact ⟨rfl, by decide, by decide⟩
  · rw [k0_I _ _ (by omega)]
    unfold zH
    by_cases e : i = 0
    · rw [if_pos e]; exact ez.symm
    · rw [if_neg e, if_neg (by omega), if_neg (by omega), if_neg (by omega)]
  · rw [k0_I _ _ (by omega)]
