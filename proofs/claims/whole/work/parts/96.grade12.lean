/-! ===== grades: Euclid's steps come to an end ===== -/
def en : Nat → Int → Int → Prop
  | 0, _, y => y = 0
  | k + 1, x, y => y = 0 ∨ en k y (x.tmod y)
theorem en_g : ∀ (j k : Nat) (x y : Int), 0 ≤ x → 0 ≤ y → y < ((2 ^ j : Nat) : Int) → 2 * j + 1 ≤ k → en k x y
  | 0, k, x, y, hx, hy, h, hk => by
    have y0 : y = 0 := by
      have : ((2 ^ 0 : Nat) : Int) = 1 := rfl
      omega
    obtain ⟨k', rfl⟩ : ∃ k', k = k' + 1 := ⟨k - 1, by omega⟩
    exact Or.inl y0
  | j + 1, k, x, y, hx, hy, h, hk => by
    obtain ⟨k', rfl⟩ : ∃ k', k = k' + 2 := ⟨k - 2, by omega⟩
    have e2 : ((2 ^ (j + 1) : Nat) : Int) = 2 * ((2 ^ j : Nat) : Int) := by
      rw [Nat.pow_succ, Int.natCast_mul]
      omega
    by_cases c : y = 0
    · exact Or.inl c
    refine Or.inr ?_
    have r0 : 0 ≤ x.tmod y := Int.tmod_nonneg _ hx
    have r1 : x.tmod y < y := Int.tmod_lt_of_pos _ (by omega)
    generalize x.tmod y = r at *
    by_cases d : r = 0
    · exact Or.inl d
    refine Or.inr ?_
    have s0 : 0 ≤ y.tmod r := Int.tmod_nonneg _ hy
    have s1 : y.tmod r < r := Int.tmod_lt_of_pos _ (by omega)
    have s2 : y.tmod r ≤ y - r := by
      rw [Int.tmod_eq_emod_of_nonneg hy]
      have := Int.emod_add_mul_ediv y r
      have q : 1 ≤ y / r := Int.le_ediv_of_mul_le (by omega) (by omega)
      have := Int.mul_le_mul_of_nonneg_left q (by omega : 0 ≤ r)
      omega
    exact en_g j k' _ _ r0 s0 (by omega) (by omega)
