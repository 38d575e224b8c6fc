/-! ===== the turn's row: what is in it stays, and each of it stands in the order ===== -/
theorem tnA_row {M : Mem} {a nd : Int} (ha : 0 ≤ a) : ∀ k : Nat, ∀ j, 0 ≤ j → j < (tnA M a nd (k : Int)).1 → ∃ i : Nat, i < k ∧ (tnA M a nd (k : Int)).2 j = M 34 0 (i : Int) ∧ (tnA M a nd (i : Int)).1 = j
  | 0, j, j0, j1 => absurd j1 (by show ¬ j < 0; omega)
  | k + 1, j, j0, j1 => by
    have ih := tnA_row (M := M) (nd := nd) ha k
    have ti := tnA_in (M := M) (nd := nd) ha k
    have e : ((k + 1 : Nat) : Int) = (k : Int) + 1 := by omega
    rw [e, tnA_s (by omega)] at j1 ⊢
    unfold tnS at j1 ⊢
    split at j1
    · rename_i hc
      rw [if_pos hc]
      simp only [] at j1 ⊢
      unfold updI
      by_cases q : j = (tnA M a nd (k : Int)).1
      · simp only [if_pos q]
        exact ⟨k, by omega, rfl, q.symm⟩
      · simp only [if_neg q]
        obtain ⟨i, i0, i1, i2⟩ := ih j j0 (by omega)
        exact ⟨i, by omega, i1, i2⟩
    · rename_i hc
      rw [if_neg hc]
      obtain ⟨i, i0, i1, i2⟩ := ih j j0 j1
      exact ⟨i, by omega, i1, i2⟩
theorem tnA_stay {M : Mem} {a nd : Int} (ha : 0 ≤ a) (k : Nat) : ∀ m : Nat, (tnA M a nd (k : Int)).1 ≤ (tnA M a nd ((k + m : Nat) : Int)).1 ∧ ∀ j, j < (tnA M a nd (k : Int)).1 → (tnA M a nd ((k + m : Nat) : Int)).2 j = (tnA M a nd (k : Int)).2 j
  | 0 => ⟨Int.le_refl _, fun _ _ => rfl⟩
  | m + 1 => by
    obtain ⟨h1, h2⟩ := tnA_stay (M := M) (nd := nd) ha k m
    have e : ((k + (m + 1) : Nat) : Int) = ((k + m : Nat) : Int) + 1 := by omega
    rw [e, tnA_s (by omega)]
    generalize tnA M a nd ((k + m : Nat) : Int) = x at h1 h2
    unfold tnS
    split
    · refine ⟨by simp only []; omega, fun j hj => ?_⟩
      simp only []
      unfold updI
      rw [if_neg (by omega)]
      exact h2 j hj
    · exact ⟨h1, h2⟩
