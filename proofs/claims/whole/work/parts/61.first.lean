/-- the first memory -/
def M00 : Mem := fun k j => if k = 1 ∨ k = 8 ∨ k = 34 ∨ k = 44 then (if j = 6 then 9 else 0) else if k = 53 then (if j = 5 then 9 else 0) else if k = 20 ∨ k = 42 ∨ k = 52 then (if j < 41 then -1 else 0) else if k = 19 ∨ k = 41 ∨ k = 51 then (if j = 2 then -1 else 0) else 0
theorem Rg0 (N : Nat) : Rg N 0 := ⟨0, by omega, rfl⟩
theorem Hok0 : Hok (fun _ => 0) := by
  refine ⟨fun i _ => ⟨0, by omega, rfl⟩, fun i k hi hk => ?_⟩
  have : ∀ i : Fin 8, f_X10_has 0 (nI i.val) = 0 := by decide +kernel
  exact (this ⟨k, hk⟩).trans (this ⟨i, hi⟩).symm
theorem Inv_first : Inv M00 := by
  refine ⟨⟨fun i hi => ⟨rfl, rfl, rfl, rfl, rfl⟩, ⟨rfl, rfl, rfl⟩, fun i hi => ⟨Rg0 _, Rg0 _, Rg0 _, Rg0 _⟩, Hok0, ⟨9, by omega, rfl⟩, Rg0 _⟩, ⟨0, by omega, rfl, rfl, fun i hi => by omega⟩, ⟨0, by omega, rfl, rfl, fun e he => by omega, fun j x hj hx => ?_, fun j hj _ => ?_, by decide⟩, ⟨rfl, Or.inl rfl, fun z => absurd z (by decide)⟩, ⟨rfl, Or.inl rfl, fun z => absurd z (by decide)⟩, fun j hj => ⟨rfl, rfl, rfl, rfl⟩⟩
  · have : M00 20 j = -1 := by
      show (if j < 41 then (-1 : Int32) else 0) = -1
      rw [if_pos (by omega)]
    exact ⟨fun _ e he => by omega, fun _ => Or.inl this⟩
  · show (if j < 41 then (-1 : Int32) else 0) = -1
    rw [if_pos (by omega)]
