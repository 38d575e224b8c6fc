/-! ===== rules of the two texts: OPEN (sorry), to be walked over the JDK's own methods ===== -/
section STRR
variable {l : Launch} {ω : WP} {d y pc pc' : Nat} {ls st st' r : List AV} {M : Mem} {Q : Post}
theorem s_ldcS {idx w a : Nat} (hd : decode (byt y) pc = .ok (.ldc idx, 2)) (hw : ((Nat.beq a 1000 && decide (lw_tbl[w]? = some (.stringRef (owt y) idx "bar pay ask back or and not wind rain snow quarter grade people hard length day "))) || (Nat.beq a 1001 && decide (lw_tbl[w]? = some (.stringRef (owt y) idx "()+-*<>=;")))) = true) (h : Vx l ω d y (pc + 2) ls (vR a 0 :: st) M Q) : Vx l ω d y pc ls st M Q := by
  sorry
theorem s_strlen {idx p : Nat} (hd : decode (byt y) pc = .ok (.invokevirtual idx, 3)) (hw : Jvm.Cond.methodLink (owt y) idx ⟨"java/lang/String", "length", "()I"⟩ ∈ wsA) (hp : p = 1000 ∨ p = 1001) (h : lfd d 5 r (Vx l ω d y (pc + 3) ls (vI (strL p) :: r) M Q)) : Vx l ω d y pc ls (vR p 0 :: r) M Q := by
  sorry
theorem s_charAt {idx p : Nat} {j : Int} (hd : decode (byt y) pc = .ok (.invokevirtual idx, 3)) (hw : Jvm.Cond.methodLink (owt y) idx ⟨"java/lang/String", "charAt", "(I)C"⟩ ∈ wsA) (hp : p = 1000 ∨ p = 1001) (hj : 0 ≤ j ∧ j < strL p) (h : lfd d 5 r (Vx l ω d y (pc + 3) ls (vI (strC p j) :: r) M Q)) : Vx l ω d y pc ls (vI j :: vR p 0 :: r) M Q := by
  sorry
theorem s_indexOf {idx p : Nat} {j : Int} (hd : decode (byt y) pc = .ok (.invokevirtual idx, 3)) (hw : Jvm.Cond.methodLink (owt y) idx ⟨"java/lang/String", "indexOf", "(I)I"⟩ ∈ wsA) (hp : p = 1000 ∨ p = 1001) (hj : 0 ≤ j ∧ j < 256) (h : lfd d 5 r (Vx l ω d y (pc + 3) ls (vI (strX p j) :: r) M Q)) : Vx l ω d y pc ls (vI j :: vR p 0 :: r) M Q := by
  sorry
end STRR
