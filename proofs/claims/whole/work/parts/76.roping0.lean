/-! ===== roping: the order in which ropes are tried ===== -/
def btN (m g : Nat) : Bool := Nat.beq (m / 2 ^ g % 2) 1
def loN (m : Nat) : Nat := ((List.range 9).find? (btN m)).getD 0
def pcN (m : Nat) : Nat := (List.range 9).foldl (fun s g => s + m / 2 ^ g % 2) 0
def thL (f m h mid : Nat) : List Nat := ((List.range mid).filter (fun y => Nat.blt f y && btN m y)).map (fun y => 2 ^ f + 2 ^ y + 2 ^ h)
def hiL (f m h : Nat) : List Nat := (List.range h).flatMap (fun x => bif Nat.blt f x && btN m x then (2 ^ f + 2 ^ x) :: thL f m x x else [])
def okRp (m r : Nat) : Bool := Nat.beq (Nat.land r m) r && !(Nat.beq (Nat.land r (2 ^ loN m)) 0) && (Nat.beq (pcN r) 2 || Nat.beq (pcN r) 3)
def moL (m k : Nat) : List Nat := (List.range k).filter (okRp m)
theorem rp_t1 : ∀ m : Nat, m < 512 → 1 ≤ m → moL m (m + 1) = hiL (loN m) m 9 := by decide +kernel
theorem i32_tn {x : Int} (h0 : 0 ≤ x) (h1 : x < 2147483648) : (Int32.ofInt x).toBitVec.toNat = x.toNat := by
  have e : (Int32.ofInt x).toBitVec = BitVec.ofInt 32 x := rfl
  rw [e, BitVec.toNat_ofInt]
  have : x % ((2 ^ 32 : Nat) : Int) = x := Int.emod_eq_of_lt h0 (by simp; omega)
  rw [this]
theorem i32_of {a : Int32} (h : a.toBitVec.toNat < 2147483648) : a.toInt = (a.toBitVec.toNat : Int) := by
  have e : a.toInt = a.toBitVec.toInt := rfl
  rw [e, BitVec.toInt_eq_toNat_of_lt (by omega)]
theorem and_e {x y : Int} (h0 : 0 ≤ x) (h1 : x < 512) (h2 : 0 ≤ y) (h3 : y < 512) : (Int32.ofInt x &&& Int32.ofInt y).toInt = ((x.toNat &&& y.toNat : Nat) : Int) := by
  have t : (Int32.ofInt x &&& Int32.ofInt y).toBitVec.toNat = x.toNat &&& y.toNat := by
    rw [Int32.toBitVec_and, BitVec.toNat_and, i32_tn h0 (by omega), i32_tn h2 (by omega)]
  have lt : x.toNat &&& y.toNat ≤ x.toNat := Nat.and_le_left
  rw [i32_of (by rw [t]; omega), t]
theorem andn_e {x y : Int} (h0 : 0 ≤ x) (h1 : x < 512) (h2 : 0 ≤ y) (h3 : y < 512) : (Int32.ofInt x &&& Int32.ofInt ((Int32.ofInt y ^^^ Int32.ofInt (-1)).toInt)).toInt = ((x.toNat - (x.toNat &&& y.toNat) : Nat) : Int) := by
  have e0 : Int32.ofInt ((Int32.ofInt y ^^^ Int32.ofInt (-1)).toInt) = Int32.ofInt y ^^^ Int32.ofInt (-1) := Int32.ofInt_toInt _
  rw [e0]
  have t : (Int32.ofInt x &&& (Int32.ofInt y ^^^ Int32.ofInt (-1))).toBitVec.toNat = x.toNat - (x.toNat &&& y.toNat) := by
    rw [Int32.toBitVec_and, Int32.toBitVec_xor]
    have m1 : (Int32.ofInt (-1)).toBitVec = BitVec.allOnes 32 := by decide
    rw [m1, BitVec.xor_allOnes]
    have q1 := i32_tn h0 (show x < 2147483648 by omega)
    have q2 := i32_tn h2 (show y < 2147483648 by omega)
    generalize (Int32.ofInt x).toBitVec = u at q1
    generalize (Int32.ofInt y).toBitVec = v at q2
    have dis : (u &&& ~~~v) &&& (u &&& v) = 0#32 := by
      ext i hi
      simp
      intros
      simp_all
    have sm : (u &&& ~~~v) + (u &&& v) = u := by
      rw [BitVec.add_eq_or_of_and_eq_zero _ _ dis]
      ext i hi
      simp
      cases u[i] <;> cases v[i] <;> rfl
    have tn := congrArg BitVec.toNat sm
    have l1 : (u &&& ~~~v).toNat ≤ u.toNat := by rw [BitVec.toNat_and]; exact Nat.and_le_left
    have l2 : (u &&& v).toNat ≤ u.toNat := by rw [BitVec.toNat_and]; exact Nat.and_le_left
    rw [BitVec.toNat_add, Nat.mod_eq_of_lt (by omega)] at tn
    have l3 : (u &&& v).toNat = x.toNat &&& y.toNat := by rw [BitVec.toNat_and, q1, q2]
    omega
  have lt : x.toNat - (x.toNat &&& y.toNat) ≤ x.toNat := Nat.sub_le _ _
  rw [i32_of (by rw [t]; omega), t]
theorem low_t : ∀ m : Nat, m < 512 → 1 ≤ m → (Int32.ofInt (m : Int) &&& Int32.ofInt (w32 (-(m : Int)))).toInt = ((2 ^ loN m : Nat) : Int) ∧ loN m < 9 ∧ btN m (loN m) = true ∧ (List.range (loN m)).all (fun g => !btN m g) = true := by decide +kernel
