/-! ===== who stays in front: the order without the turn ===== -/
def rowL (f : Int → Int) (c : Nat) : List Int := (List.range c).map (fun k : Nat => f (k : Int))
theorem rowL_s {f : Int → Int} {c : Nat} : rowL f (c + 1) = rowL f c ++ [f (c : Int)] := by
  unfold rowL
  rw [List.range_succ, List.map_append]
  rfl
theorem rowL_congr {f g : Int → Int} {c : Nat} (h : ∀ k : Nat, k < c → f (k : Int) = g (k : Int)) : rowL f c = rowL g c := by
  unfold rowL
  exact List.map_congr_left (fun k hk => h k (List.mem_range.mp hk))
theorem rowL_mem {f : Int → Int} {c : Nat} {x : Int} : x ∈ rowL f c ↔ ∃ k : Nat, k < c ∧ f (k : Int) = x := by
  unfold rowL
  rw [List.mem_map]
  exact ⟨fun ⟨k, a, b⟩ => ⟨k, List.mem_range.mp a, b⟩, fun ⟨k, a, b⟩ => ⟨k, List.mem_range.mpr a, b⟩⟩
theorem mv_kept {M : Mem} {a nd n : Int} {V : Int → Int} (ha : 0 ≤ a) (hn : 0 ≤ n) (hP : IPerm n (M 34 0)) (hV : ∀ j, 0 ≤ j → j < (tnA M a nd n).1 → V j = (tnA M a nd n).2 j) : ∀ k : Nat, (k : Int) ≤ n → rowL (mvA (M 34 0) V (tnA M a nd n).1 (k : Int)).2.2 (mvA (M 34 0) V (tnA M a nd n).1 (k : Int)).2.1.toNat = (rowL (M 34 0) k).filter (fun x => !(rowL V (tnA M a nd n).1.toNat).contains x)
  | 0, _ => rfl
  | k + 1, hk => by
    have ih := mv_kept ha hn hP hV k (by omega)
    have mt := mv_tn ha hn hP hV k (by omega)
    have tn := tnA_inI (M := M) (nd := nd) ha hn
    have mi := mvA_in (O := M 34 0) (T := V) (t := (tnA M a nd n).1) tn.1 k
    have e : ((k + 1 : Nat) : Int) = (k : Int) + 1 := by omega
    have ms := mvA_s (O := M 34 0) (T := V) (t := (tnA M a nd n).1) (n := (k : Int)) (by omega)
    rw [e, ms, rowL_s, List.filter_append, ← ih]
    unfold mvS
    by_cases hc : (mvA (M 34 0) V (tnA M a nd n).1 (k : Int)).1 < (tnA M a nd n).1 ∧ V (mvA (M 34 0) V (tnA M a nd n).1 (k : Int)).1 = M 34 0 (k : Int)
    · rw [if_pos hc]
      have hm : (rowL V (tnA M a nd n).1.toNat).contains (M 34 0 (k : Int)) = true := by
        rw [List.contains_iff_mem]
        exact rowL_mem.mpr ⟨(mvA (M 34 0) V (tnA M a nd n).1 (k : Int)).1.toNat, by omega, by rw [Int.toNat_of_nonneg mi.1]; exact hc.2⟩
      have ef : [M 34 0 (k : Int)].filter (fun x => !(rowL V (tnA M a nd n).1.toNat).contains x) = [] := by
        rw [List.filter_cons_of_neg (by rw [hm]; decide)]
        rfl
      rw [ef, List.append_nil]
    · rw [if_neg hc]
      have hm : (rowL V (tnA M a nd n).1.toNat).contains (M 34 0 (k : Int)) = false := by
        rw [← Bool.not_eq_true, List.contains_iff_mem]
        intro hx
        obtain ⟨j, j1, j2⟩ := rowL_mem.mp hx
        have en2 : ((n.toNat : Nat) : Int) = n := Int.toNat_of_nonneg hn
        have row := tnA_row (M := M) (nd := nd) ha n.toNat (j : Int) (by omega)
        rw [en2] at row
        obtain ⟨i, i0, i1, i2, i3⟩ := row (by omega)
        have v2 := hV (j : Int) (by omega) (by omega)
        have q : (i : Int) = (k : Int) := hP.2.1 _ _ (by omega) (by omega) (by omega) (by omega) (by rw [← i1, ← v2]; exact j2)
        rw [q] at i2
        exact hc ⟨by omega, by rw [mt, i2]; exact j2⟩
      have ef : [M 34 0 (k : Int)].filter (fun x => !(rowL V (tnA M a nd n).1.toNat).contains x) = [M 34 0 (k : Int)] := by
        rw [List.filter_cons_of_pos (by rw [hm]; rfl)]
        rfl
      rw [ef]
      have ec : ((mvA (M 34 0) V (tnA M a nd n).1 (k : Int)).2.1 + 1).toNat = (mvA (M 34 0) V (tnA M a nd n).1 (k : Int)).2.1.toNat + 1 := by omega
      have en : (((mvA (M 34 0) V (tnA M a nd n).1 (k : Int)).2.1.toNat : Nat) : Int) = (mvA (M 34 0) V (tnA M a nd n).1 (k : Int)).2.1 := Int.toNat_of_nonneg mi.2.2.1
      show rowL (updI _ _ _) ((mvA (M 34 0) V (tnA M a nd n).1 (k : Int)).2.1 + 1).toNat = _
      rw [ec, rowL_s]
      congr 1
      · refine rowL_congr (fun x hx => ?_)
        unfold updI
        rw [if_neg (by omega)]
      · unfold updI
        rw [if_pos en]
