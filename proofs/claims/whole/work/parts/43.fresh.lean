/-! ===== the fresh memory ===== -/
theorem Inv_fresh {M : Mem} (h : ∀ p i j, p ≠ 24 → p ≠ 78 → ¬ (p = 13 ∧ j = 83) → M p i j = 0) (h24 : ∀ j, 0 ≤ j → j < 4 → M 24 0 j = -1) (h78 : ∀ j, 0 ≤ j → j < 4 → M 78 0 j = -4) (h83 : M 13 0 83 = -4) : Inv 0 M := by
  have z : ∀ p i j, p ≠ 24 → p ≠ 78 → p ≠ 13 → M p i j = 0 := fun p i j a b c => h p i j a b (fun q => c q.1)
  have z13 : ∀ i j, j ≠ 83 → M 13 i j = 0 := fun i j a => h 13 i j (by decide) (by decide) (fun q => a q.2)
  have zf : ∀ p i, p ≠ 24 → p ≠ 78 → p ≠ 13 → M p i = fun _ => 0 := fun p i a b c => funext fun j => z p i j a b c
  have pe : IPerm 0 (M 34 0) := ⟨fun i a b => by omega, fun i j a b => by omega, fun g a b => by omega⟩
  refine ⟨by omega, ?_, ?_, ?_, ?_, ?_, ?_, ?_, ?_, ?_, ?_, ?_, ?_⟩
  · simp (disch := decide) only [INet, z, z13, zf]
    exact ⟨trivial, trivial, by omega, fun j a b => by omega⟩
  · simp (disch := decide) only [IStp, z, z13, zf]
    exact ⟨trivial, ⟨trivial, trivial, trivial, trivial, trivial, trivial⟩, by omega, fun j a b => by omega⟩
  · simp (disch := decide) only [IRou, z, z13, zf]
    exact ⟨trivial, trivial, fun r i _ _ _ _ => trivial, by omega, fun r a b => by omega⟩
  · intro k a b
    simp (disch := decide) only [z, h24 k a b, h78 k a b]
    exact ⟨Or.inl ⟨trivial, trivial⟩, trivial, by omega, fun i _ _ => ⟨fun q => by omega, fun q => by omega⟩⟩
  · simp (disch := decide) only [IGui, z, z13, zf]
    exact ⟨trivial, ⟨trivial, trivial, trivial⟩, by omega, fun j a b => by omega⟩
  · simp (disch := decide) only [INow, z, z13, bit_z]
    refine ⟨fun i a b => by omega, pe, trivial, by omega, ⟨by omega, by decide⟩, fun g _ _ => trivial, fun g a b => by omega, trivial, by omega⟩
  · exact Or.inl ⟨z 4 0 5 (by decide) (by decide) (by decide), h83⟩
  · simp (disch := decide) only [ITap, z, z13]
    exact ⟨trivial, by omega, fun j a b => by omega, trivial⟩
  · simp (disch := decide) only [ISta, z, z13]
    exact ⟨trivial, by omega, fun j a b => by omega⟩
  · simp (disch := decide) only [IPpl, z, z13]
    refine ⟨trivial, by omega, fun a _ _ => trivial, fun a b c => by omega, fun a b _ _ _ _ => ⟨trivial, by omega, fun _ => trivial⟩⟩
  · simp (disch := decide) only [IRop, z, z13]
    exact ⟨trivial, by omega, fun j a b => by omega⟩
  · simp (disch := decide) only [IHrs, z, z13]
    exact ⟨trivial, by omega, fun j a b => by omega⟩
