/-! ===== the bits of who is out ===== -/
theorem orB_t : ∀ x : Nat, x < 256 → ∀ g : Nat, g < 8 → orB (x : Int) (g : Int) = ((x ||| 2 ^ g : Nat) : Int) := by decide +kernel
theorem orB_n : ∀ x : Nat, x < 256 → ∀ g : Nat, g < 8 → ∀ h : Nat, h < 8 → (x ||| 2 ^ g) / 2 ^ h % 2 = if h = g then 1 else x / 2 ^ h % 2 := by decide +kernel
theorem orB_e {x g : Int} (h1 : 0 ≤ x) (h2 : x < 256) (h3 : 0 ≤ g) (h4 : g < 8) : orB x g = ((x.toNat ||| 2 ^ g.toNat : Nat) : Int) := by
  have := orB_t x.toNat (by omega) g.toNat (by omega)
  rw [Int.toNat_of_nonneg h1, Int.toNat_of_nonneg h3] at this
  exact this
theorem orB_bit {x g h : Int} (h1 : 0 ≤ x) (h2 : x < 256) (h3 : 0 ≤ g) (h4 : g < 8) (h5 : 0 ≤ h) (h6 : h < 8) : bitI (orB x g) h = if h = g then 1 else bitI x h := by
  have a := orB_n x.toNat (by omega) g.toNat (by omega) h.toNat (by omega)
  rw [orB_e h1 h2 h3 h4]
  unfold bitI
  have e : ((x.toNat ||| 2 ^ g.toNat : Nat) : Int) / 2 ^ h.toNat % 2 = (((x.toNat ||| 2 ^ g.toNat) / 2 ^ h.toNat % 2 : Nat) : Int) := by simp
  rw [e, a]
  have ex : ((x.toNat : Nat) : Int) = x := Int.toNat_of_nonneg h1
  by_cases q : h = g
  · rw [if_pos q, if_pos (by omega)]
    rfl
  · rw [if_neg q, if_neg (by omega)]
    have e2 : ((x.toNat / 2 ^ h.toNat % 2 : Nat) : Int) = ((x.toNat : Nat) : Int) / 2 ^ h.toNat % 2 := by simp
    rw [e2, ex]
theorem orB_in {x g n : Int} (h1 : 0 ≤ x) (h2 : x < 2 ^ n.toNat) (h3 : 0 ≤ g) (h4 : g < n) (h5 : n ≤ 8) : 0 ≤ orB x g ∧ orB x g < 2 ^ n.toNat := by
  have p := pw_le (a := n) (b := 8) (by omega) h5
  have e8 : (2 : Int) ^ (8 : Int).toNat = 256 := by decide
  rw [e8] at p
  rw [orB_e h1 (by omega) h3 (by omega)]
  have hx : x.toNat < 2 ^ n.toNat := by
    have : ((x.toNat : Nat) : Int) < ((2 ^ n.toNat : Nat) : Int) := by
      rw [Int.toNat_of_nonneg h1]
      exact_mod_cast h2
    exact_mod_cast this
  have hg : 2 ^ g.toNat < 2 ^ n.toNat := Nat.pow_lt_pow_right (by decide) (by omega)
  have := Nat.or_lt_two_pow hx hg
  refine ⟨by omega, ?_⟩
  exact_mod_cast this
