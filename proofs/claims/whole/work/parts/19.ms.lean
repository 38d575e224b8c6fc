/-! ===== reading behind stores ===== -/
theorem ms_q {M : Mem} {p q : Nat} {i j v : Int} (h : q ≠ p) : mset M p i j v q = M q := by
  funext a b
  exact mset_nep h a b
theorem ms_f {M : Mem} {p : Nat} {i j v a b : Int} : mset M p i j v p a b = if a = i ∧ b = j then v else M p a b := by
  simp [mset]
theorem ms_s {M : Mem} {p : Nat} {i j v a : Int} (h : a ≠ i) : mset M p i j v p a = M p a := by
  funext b
  exact mset_nei h b
