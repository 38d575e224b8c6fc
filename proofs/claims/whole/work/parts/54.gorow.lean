/-! ===== the order behind go: one by one ===== -/
theorem rowL_nodup {f : Int → Int} {c : Nat} (h : ∀ i j : Nat, i < c → j < c → f (i : Int) = f (j : Int) → i = j) : (rowL f c).Nodup := by
  unfold rowL List.Nodup
  rw [List.pairwise_map]
  exact List.Pairwise.imp_of_mem (fun ha hb hne q => hne (h _ _ (List.mem_range.mp ha) (List.mem_range.mp hb) q)) List.nodup_range
theorem rowL_app {f A B : Int → Int} {c : Nat} : ∀ d : Nat, (∀ j : Nat, j < c → f (j : Int) = A (j : Int)) → (∀ j : Nat, j < d → f ((c + j : Nat) : Int) = B (j : Int)) → rowL f (c + d) = rowL A c ++ rowL B d
  | 0, h1, _ => by
    rw [Nat.add_zero, rowL_congr h1]
    show _ = _ ++ []
    rw [List.append_nil]
  | d + 1, h1, h2 => by
    have ih := rowL_app (f := f) (A := A) (B := B) (c := c) d h1 (fun j hj => h2 j (by omega))
    show rowL f (c + d + 1) = _
    rw [rowL_s, ih, rowL_s, List.append_assoc, h2 d (by omega)]
theorem go_row {M : Mem} {a nd n : Int} {V f : Int → Int} (ha : 0 ≤ a) (hn : 0 ≤ n) (hP : IPerm n (M 34 0)) (hV : ∀ j, 0 ≤ j → j < (tnA M a nd n).1 → V j = (tnA M a nd n).2 j)
    (hf : ∀ j, 0 ≤ j → j < n → f j = if j < (mvA (M 34 0) V (tnA M a nd n).1 n).2.1 then (mvA (M 34 0) V (tnA M a nd n).1 n).2.2 j else V (j - (mvA (M 34 0) V (tnA M a nd n).1 n).2.1)) :
    rowL f n.toNat = (rowL V (tnA M a nd n).1.toNat).foldl (fun L t => L.erase t ++ [t]) (rowL (M 34 0) n.toNat) := by
  have en2 : ((n.toNat : Nat) : Int) = n := Int.toNat_of_nonneg hn
  have tn := tnA_inI (M := M) (nd := nd) ha hn
  have mk := mv_kept ha hn hP hV n.toNat (by omega)
  have mt := mv_tn ha hn hP hV n.toNat (by omega)
  have mi := mvA_inI (O := M 34 0) (T := V) (t := (tnA M a nd n).1) tn.1 hn
  rw [en2] at mk mt
  have el : ∀ j : Nat, j < (tnA M a nd n).1.toNat → ∃ i : Nat, (i : Int) < n ∧ V (j : Int) = M 34 0 (i : Int) ∧ (tnA M a nd (i : Int)).1 = (j : Int) := fun j hj => by
    have row := tnA_row (M := M) (nd := nd) ha n.toNat (j : Int) (by omega)
    rw [en2] at row
    obtain ⟨i, i0, i1, i2, -⟩ := row (by omega)
    exact ⟨i, by omega, by rw [hV (j : Int) (by omega) (by omega)]; exact i1, i2⟩
  have m := moveL (rowL V (tnA M a nd n).1.toNat) (rowL (M 34 0) n.toNat) []
    (rowL_nodup (fun i j hi hj q => by
      have := hP.2.1 (i : Int) (j : Int) (by omega) (by omega) (by omega) (by omega) q
      omega))
    (rowL_nodup (fun i j hi hj q => by
      obtain ⟨x, x0, x1, x2⟩ := el i hi
      obtain ⟨y, y0, y1, y2⟩ := el j hj
      have := hP.2.1 (x : Int) (y : Int) (by omega) x0 (by omega) y0 (by rw [← x1, ← y1]; exact q)
      rw [this] at x2
      omega))
    (fun t ht => by
      obtain ⟨j, j1, j2⟩ := rowL_mem.mp ht
      obtain ⟨i, i0, i1, -⟩ := el j j1
      exact rowL_mem.mpr ⟨i, by omega, by rw [← i1]; exact j2⟩)
  rw [List.append_nil, List.append_nil] at m
  rw [m, ← mk]
  have ec : n.toNat = (mvA (M 34 0) V (tnA M a nd n).1 n).2.1.toNat + (tnA M a nd n).1.toNat := by omega
  rw [ec]
  refine rowL_app _ (fun j hj => ?_) (fun j hj => ?_)
  · rw [hf (j : Int) (by omega) (by omega), if_pos (by omega)]
  · rw [hf _ (by omega) (by omega), if_neg (by omega)]
    congr 1
    omega
