/-! ===== the turn's row: what is in it stays, and each of it stands in the order ===== -/
theorem tnA_row {M : Mem} {a nd : Int} (ha : 0 ≤ a) : ∀ k : Nat, ∀ j, 0 ≤ j → j < (tnA M a nd (k : Int)).1 → ∃ i : Nat, i < k ∧ (tnA M a nd (k : Int)).2 j = M 34 0 (i : Int) ∧ (tnA M a nd (i : Int)).1 = j ∧ (tnA M a nd ((i : Int) + 1)).1 = j + 1
  | 0, j, j0, j1 => absurd j1 (by show ¬ j < 0; omega)
  | k + 1, j, j0, j1 => by
    have ih := tnA_row (M := M) (nd := nd) ha k
    have ti := tnA_in (M := M) (nd := nd) ha k
    have e : ((k + 1 : Nat) : Int) = (k : Int) + 1 := by omega
    rw [e, tnA_s (by omega)] at j1 ⊢
    unfold tnS at j1 ⊢
    split at j1
    · rename_i hc
      rw [if_pos hc]
      simp only [] at j1 ⊢
      unfold updI
      by_cases q : j = (tnA M a nd (k : Int)).1
      · simp only [if_pos q]
        refine ⟨k, by omega, rfl, q.symm, ?_⟩
        rw [tnA_s (by omega)]
        unfold tnS
        rw [if_pos hc, q]
      · simp only [if_neg q]
        obtain ⟨i, i0, i1, i2, i3⟩ := ih j j0 (by omega)
        exact ⟨i, by omega, i1, i2, i3⟩
    · rename_i hc
      rw [if_neg hc]
      obtain ⟨i, i0, i1, i2, i3⟩ := ih j j0 j1
      exact ⟨i, by omega, i1, i2, i3⟩
theorem tnA_stay {M : Mem} {a nd : Int} (ha : 0 ≤ a) (k : Nat) : ∀ m : Nat, (tnA M a nd (k : Int)).1 ≤ (tnA M a nd ((k + m : Nat) : Int)).1 ∧ ∀ j, j < (tnA M a nd (k : Int)).1 → (tnA M a nd ((k + m : Nat) : Int)).2 j = (tnA M a nd (k : Int)).2 j
  | 0 => ⟨Int.le_refl _, fun _ _ => rfl⟩
  | m + 1 => by
    obtain ⟨h1, h2⟩ := tnA_stay (M := M) (nd := nd) ha k m
    have e : ((k + (m + 1) : Nat) : Int) = ((k + m : Nat) : Int) + 1 := by omega
    rw [e, tnA_s (by omega)]
    generalize tnA M a nd ((k + m : Nat) : Int) = x at h1 h2
    unfold tnS
    split
    · refine ⟨by simp only []; omega, fun j hj => ?_⟩
      simp only []
      unfold updI
      rw [if_neg (by omega)]
      exact h2 j hj
    · exact ⟨h1, h2⟩
theorem mv_tn {M : Mem} {a nd n : Int} {V : Int → Int} (ha : 0 ≤ a) (hn : 0 ≤ n) (hP : IPerm n (M 34 0)) (hV : ∀ j, 0 ≤ j → j < (tnA M a nd n).1 → V j = (tnA M a nd n).2 j) : ∀ k : Nat, (k : Int) ≤ n → (mvA (M 34 0) V (tnA M a nd n).1 (k : Int)).1 = (tnA M a nd (k : Int)).1
  | 0, _ => rfl
  | k + 1, hk => by
    have ih := mv_tn ha hn hP hV k (by omega)
    have e : ((k + 1 : Nat) : Int) = (k : Int) + 1 := by omega
    have ti := tnA_in (M := M) (nd := nd) ha k
    have st := tnA_stay (M := M) (nd := nd) ha (k + 1) (n.toNat - (k + 1))
    have en : ((k + 1 + (n.toNat - (k + 1)) : Nat) : Int) = n := by omega
    rw [en, e] at st
    have en2 : ((n.toNat : Nat) : Int) = n := Int.toNat_of_nonneg hn
    have row := tnA_row (M := M) (nd := nd) ha n.toNat (tnA M a nd (k : Int)).1 ti.1
    rw [en2] at row
    have ts := tnA_s (M := M) (a := a) (nd := nd) (n := (k : Int)) (by omega)
    rw [e, mvA_s (by omega)]
    unfold mvS
    rw [ih]
    by_cases hc : (tnA M a nd (k : Int)).1 < a ∧ bitI (M 5 0 3) (M 34 0 (k : Int)) = 0 ∧ M 5 0 2 ≤ M 32 0 (M 34 0 (k : Int)) ∧ nd ≤ M 30 0 (M 34 0 (k : Int))
    · unfold tnS at ts
      rw [if_pos hc] at ts
      have c1 : (tnA M a nd ((k : Int) + 1)).1 = (tnA M a nd (k : Int)).1 + 1 := by rw [ts]
      have v1 : V (tnA M a nd (k : Int)).1 = M 34 0 (k : Int) := by
        rw [hV _ ti.1 (by omega), st.2 _ (by omega), ts]
        show updI _ _ _ _ = _
        unfold updI
        rw [if_pos rfl]
      rw [if_pos ⟨by omega, v1⟩, c1]
    · unfold tnS at ts
      rw [if_neg hc] at ts
      have c1 : (tnA M a nd ((k : Int) + 1)).1 = (tnA M a nd (k : Int)).1 := by rw [ts]
      rw [c1]
      by_cases hx : (tnA M a nd (k : Int)).1 < (tnA M a nd n).1 ∧ V (tnA M a nd (k : Int)).1 = M 34 0 (k : Int)
      · exfalso
        obtain ⟨i, i0, i1, i2, i3⟩ := row hx.1
        have v2 := hV _ ti.1 hx.1
        have q : (i : Int) = (k : Int) := hP.2.1 _ _ (by omega) (by omega) (by omega) (by omega) (by rw [← i1, ← v2]; exact hx.2)
        rw [q] at i3
        omega
      · rw [if_neg hx]
