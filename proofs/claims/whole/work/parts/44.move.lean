/-! ===== those whose turn it was, moved behind: all at once, or one by one ===== -/
theorem moveL : ∀ (T A B : List Int), A.Nodup → T.Nodup → (∀ t, t ∈ T → t ∈ A) → T.foldl (fun L t => L.erase t ++ [t]) (A ++ B) = A.filter (fun x => !T.contains x) ++ B ++ T
  | [], A, B, _, _, _ => by
    have e : A.filter (fun x => !([] : List Int).contains x) = A := List.filter_eq_self.mpr (fun x _ => by simp)
    rw [e]
    simp
  | t :: T, A, B, hA, hT, h => by
    have ht : t ∈ A := h t List.mem_cons_self
    obtain ⟨ht1, hT1⟩ := List.nodup_cons.mp hT
    have e1 : (A ++ B).erase t ++ [t] = A.erase t ++ (B ++ [t]) := by
      rw [List.erase_append_left _ ht, List.append_assoc]
    have ih := moveL T (A.erase t) (B ++ [t]) (hA.erase t) hT1 (fun x hx => (List.mem_erase_of_ne (fun q : x = t => ht1 (by rw [← q]; exact hx))).mpr (h x (List.mem_cons_of_mem _ hx)))
    show T.foldl _ ((A ++ B).erase t ++ [t]) = _
    rw [e1, ih, hA.erase_eq_filter, List.filter_filter]
    have e2 : (fun x => (!T.contains x) && (x != t)) = (fun x => !(t :: T).contains x) := by
      funext x
      simp only [List.contains_cons]
      cases hx : (x == t) <;> cases hy : T.contains x <;> simp_all
    rw [e2]
    simp [List.append_assoc]
