/-! ===== one moved behind: each place of the new row ===== -/
theorem behind_get {L : List Int} {k : Nat} {g : Int} (h : L[k]? = some g) (hj : ∀ j, j < k → ¬ L[j]? = some g) (j : Nat) (hjl : j < L.length) : (L.erase g ++ [g])[j]? = if j + 1 < L.length then (if j < k then L[j]? else L[j + 1]?) else some g := by
  have hk : k < L.length := by
    rcases Nat.lt_or_ge k L.length with q | q
    · exact q
    · rw [List.getElem?_eq_none q] at h
      cases h
  have hm : g ∈ L := List.mem_of_getElem? h
  have hl : (L.erase g).length = L.length - 1 := List.length_erase_of_mem hm
  by_cases e : j + 1 < L.length
  · rw [if_pos e, List.getElem?_append_left (by omega)]
    exact erase_get h hj j
  · rw [if_neg e, List.getElem?_append_right (by omega)]
    have e2 : j - (L.erase g).length = 0 := by omega
    rw [e2]
    rfl
theorem behind_len {L : List Int} {g : Int} (h : g ∈ L) : (L.erase g ++ [g]).length = L.length := by
  have hl : (L.erase g).length = L.length - 1 := List.length_erase_of_mem h
  have hp : 0 < L.length := List.length_pos_of_mem h
  rw [List.length_append, hl]
  show L.length - 1 + 1 = L.length
  omega
theorem behind_mem {L : List Int} {g x : Int} (h : x ∈ L) : x ∈ L.erase g ++ [g] := by
  by_cases e : x = g
  · rw [e]
    exact List.mem_append_right _ List.mem_cons_self
  · exact List.mem_append_left _ ((List.mem_erase_of_ne e).mpr h)
