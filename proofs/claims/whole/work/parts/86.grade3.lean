/-! ===== grades: lowest terms ===== -/
theorem low_eq {n1 d1 n2 d2 : Int} (h1 : 0 < d1) (h2 : 0 < d2) (h : n1 * d2 = n2 * d1) : n1.tdiv (Int.gcd n1 d1 : Nat) = n2.tdiv (Int.gcd n2 d2 : Nat) ∧ d1.tdiv (Int.gcd n1 d1 : Nat) = d2.tdiv (Int.gcd n2 d2 : Nat) := by
  have a1 : 0 < (Int.gcd n1 d1 : Nat) := Int.gcd_pos_of_ne_zero_right _ (by omega)
  have a2 : 0 < (Int.gcd n2 d2 : Nat) := Int.gcd_pos_of_ne_zero_right _ (by omega)
  obtain ⟨x, hx⟩ := Int.gcd_dvd_left n1 d1
  obtain ⟨u, hu⟩ := Int.gcd_dvd_right n1 d1
  obtain ⟨y, hy⟩ := Int.gcd_dvd_left n2 d2
  obtain ⟨v, hv⟩ := Int.gcd_dvd_right n2 d2
  have m1 := Int.gcd_mul_left d2 n1 d1
  have m2 := Int.gcd_mul_left d1 n2 d2
  have e1 : d2 * n1 = d1 * n2 := by grind
  have e2 : d2 * d1 = d1 * d2 := by grind
  rw [e1, e2, m2] at m1
  have m3 : (d1.natAbs : Int) * ((Int.gcd n2 d2 : Nat) : Int) = (d2.natAbs : Int) * ((Int.gcd n1 d1 : Nat) : Int) := by
    rw [← Int.natCast_mul, ← Int.natCast_mul, m1]
  have c1 : (d1.natAbs : Int) = d1 := by omega
  have c2 : (d2.natAbs : Int) = d2 := by omega
  rw [c1, c2] at m3
  have g1 : (0 : Int) < ((Int.gcd n1 d1 : Nat) : Int) := by omega
  have g2 : (0 : Int) < ((Int.gcd n2 d2 : Nat) : Int) := by omega
  generalize ((Int.gcd n1 d1 : Nat) : Int) = p at *
  generalize ((Int.gcd n2 d2 : Nat) : Int) = q at *
  clear m1 m2 e1 e2 c1 c2 a1 a2
  have pq : p * q ≠ 0 := Int.ne_of_gt (Int.mul_pos g1 g2)
  have uv : u = v := by
    have : p * q * u = p * q * v := by grind
    exact Int.eq_of_mul_eq_mul_left pq this
  have u0 : u ≠ 0 := fun z => by
    rw [z] at hu
    omega
  have xy : x = y := by
    have : p * q * u * x = p * q * u * y := by grind
    exact Int.eq_of_mul_eq_mul_left (by
      intro z
      rcases Int.mul_eq_zero.mp z with z | z
      · exact pq z
      · exact u0 z) this
  have t1 : n1.tdiv p = x := by rw [hx]; exact Int.mul_tdiv_cancel_left _ (by omega)
  have t2 : n2.tdiv q = y := by rw [hy]; exact Int.mul_tdiv_cancel_left _ (by omega)
  have t3 : d1.tdiv p = u := by rw [hu]; exact Int.mul_tdiv_cancel_left _ (by omega)
  have t4 : d2.tdiv q = v := by rw [hv]; exact Int.mul_tdiv_cancel_left _ (by omega)
  rw [t1, t2, t3, t4]
  exact ⟨xy, uv⟩
theorem gcd_md {x y : Int} (hx : 0 ≤ x) (hy : 0 ≤ y) : Int.gcd y (x.tmod y) = Int.gcd x y := by
  obtain ⟨x', rfl⟩ := Int.eq_ofNat_of_zero_le hx
  obtain ⟨y', rfl⟩ := Int.eq_ofNat_of_zero_le hy
  rw [Int.tmod_eq_emod_of_nonneg hx, ← Int.natCast_emod]
  show Nat.gcd y' (x' % y') = Nat.gcd x' y'
  rw [Nat.gcd_comm x' y', Nat.gcd_rec y' x', Nat.gcd_comm]
def eu : Nat → Int → Int → Int
  | 0, x, _ => x
  | k + 1, x, y => if y = 0 then x else eu k y (x.tmod y)
theorem eu_g : ∀ (j k : Nat) (x y : Int), 0 ≤ x → 0 ≤ y → y < ((2 ^ j : Nat) : Int) → 2 * j + 1 ≤ k → eu k x y = ((Int.gcd x y : Nat) : Int)
  | 0, k, x, y, hx, hy, h, hk => by
    have y0 : y = 0 := by
      have : ((2 ^ 0 : Nat) : Int) = 1 := rfl
      omega
    obtain ⟨k', rfl⟩ : ∃ k', k = k' + 1 := ⟨k - 1, by omega⟩
    rw [eu, if_pos y0, y0, Int.gcd_zero_right]
    omega
  | j + 1, k, x, y, hx, hy, h, hk => by
    obtain ⟨k', rfl⟩ : ∃ k', k = k' + 2 := ⟨k - 2, by omega⟩
    have e2 : ((2 ^ (j + 1) : Nat) : Int) = 2 * ((2 ^ j : Nat) : Int) := by
      rw [Nat.pow_succ, Int.natCast_mul]
      omega
    rw [eu]
    by_cases c : y = 0
    · rw [if_pos c, c, Int.gcd_zero_right]
      omega
    rw [if_neg c, ← gcd_md hx hy]
    have r0 : 0 ≤ x.tmod y := Int.tmod_nonneg _ hx
    have r1 : x.tmod y < y := Int.tmod_lt_of_pos _ (by omega)
    generalize x.tmod y = r at *
    rw [eu]
    by_cases d : r = 0
    · rw [if_pos d, d, Int.gcd_zero_right]
      omega
    rw [if_neg d, ← gcd_md hy r0]
    have s0 : 0 ≤ y.tmod r := Int.tmod_nonneg _ hy
    have s1 : y.tmod r < r := Int.tmod_lt_of_pos _ (by omega)
    have s2 : y.tmod r ≤ y - r := by
      rw [Int.tmod_eq_emod_of_nonneg hy]
      have := Int.emod_add_mul_ediv y r
      have q : 1 ≤ y / r := Int.le_ediv_of_mul_le (by omega) (by omega)
      have := Int.mul_le_mul_of_nonneg_left q (by omega : 0 ≤ r)
      omega
    exact eu_g j k' _ _ r0 s0 (by omega) (by omega)
