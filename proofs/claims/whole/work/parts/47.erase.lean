/-! ===== one moved behind, in a row of memory ===== -/
def getI (L : List Int) (j : Int) : Int := L.getD j.toNat 0
theorem lidx_of : ∀ (L : List Int) (k : Nat) (g : Int), L[k]? = some g → (∀ j, j < k → ¬ L[j]? = some g) → L.idxOf g = k
  | [], k, g, h, _ => by cases h
  | x :: L, 0, g, h, _ => by
    have e : x = g := by simpa using h
    rw [e, List.idxOf_cons_self]
  | x :: L, k + 1, g, h, hj => by
    have hx : ¬ x = g := fun e => hj 0 (by omega) (by simp [e])
    have ih := lidx_of L k g (by simpa using h) (fun j hjk => by
      have := hj (j + 1) (by omega)
      simpa using this)
    have e : (x == g) = false := beq_eq_false_iff_ne.mpr hx
    rw [List.idxOf_cons, e, ih]
    rfl
theorem erase_get {L : List Int} {k : Nat} {g : Int} (h : L[k]? = some g) (hj : ∀ j, j < k → ¬ L[j]? = some g) (j : Nat) : (L.erase g)[j]? = if j < k then L[j]? else L[j + 1]? := by
  rw [List.erase_eq_eraseIdx_of_idxOf (lidx_of L k g h hj), List.getElem?_eraseIdx]
