/-! ===== the relation of the class's memory to the reference's ===== -/
/-- places -/
def INet (M : Mem) : Prop := M 13 0 0 = M 1 0 0 ∧ M 69 0 = M 14 0 ∧ (0 ≤ M 1 0 0 ∧ M 1 0 0 ≤ 12) ∧ ∀ j, 0 ≤ j → j < M 1 0 0 → 0 ≤ M 14 0 j ∧ M 14 0 j ≤ 9
/-- steps -/
def IStp (M : Mem) : Prop := M 13 0 2 = M 1 0 2 ∧ (M 70 0 = M 15 0 ∧ M 71 0 = M 16 0 ∧ M 72 0 = M 17 0 ∧ M 73 0 = M 18 0 ∧ M 74 0 = M 19 0 ∧ M 75 0 = M 20 0) ∧ (0 ≤ M 1 0 2 ∧ M 1 0 2 ≤ 20) ∧
  ∀ j, 0 ≤ j → j < M 1 0 2 → (0 ≤ M 15 0 j ∧ M 15 0 j < M 1 0 0) ∧ (0 ≤ M 16 0 j ∧ M 16 0 j < M 1 0 0) ∧ (0 ≤ M 17 0 j ∧ M 17 0 j ≤ 4) ∧ (1 ≤ M 18 0 j ∧ M 18 0 j ≤ 9) ∧ (0 ≤ M 19 0 j ∧ M 19 0 j ≤ 5)
/-- routes -/
def IRou (M : Mem) : Prop := M 13 0 9 = M 1 0 9 ∧ M 76 0 = M 21 0 ∧ (∀ r i, 0 ≤ r → r < 6 → 0 ≤ i → i < 6 → M 77 0 (6 * r + i) = M 23 r i) ∧ (0 ≤ M 1 0 9 ∧ M 1 0 9 ≤ 6) ∧
  ∀ r, 0 ≤ r → r < M 1 0 9 → (1 ≤ M 21 0 r ∧ M 21 0 r ≤ 6) ∧ ∀ i, 0 ≤ i → i < M 21 0 r → 0 ≤ M 23 r i ∧ M 23 r i < M 1 0 2
/-- sheets -/
def ISky (M : Mem) : Prop := ∀ k, 0 ≤ k → k < 4 → ((M 24 0 k = -1 ∧ M 78 0 k = -4) ∨ (M 78 0 k = M 24 0 k ∧ 0 ≤ M 24 0 k ∧ M 24 0 k ≤ 2)) ∧ M 79 0 k = M 25 0 k ∧ (0 ≤ M 25 0 k ∧ M 25 0 k ≤ 24) ∧
  ∀ i, 0 ≤ i → i < 24 → (M 24 0 k = 0 → M 80 0 (24 * k + i) = (M 27 k i).tdiv 100) ∧ (0 < M 24 0 k → M 80 0 (24 * k + i) = M 27 k i)
/-- the number of a bit -/
def bitI (x g : Int) : Int := x / 2 ^ g.toNat % 2
/-- a list: a row of n different numbers below n -/
def IPerm (n : Int) (f : Int → Int) : Prop := (∀ i, 0 ≤ i → i < n → 0 ≤ f i ∧ f i < n) ∧ (∀ i j, 0 ≤ i → i < n → 0 ≤ j → j < n → f i = f j → i = j) ∧ ∀ g, 0 ≤ g → g < n → ∃ i, 0 ≤ i ∧ i < n ∧ f i = g
/-- the guides -/
def IGui (M : Mem) : Prop := M 13 0 17 = M 5 0 0 ∧ (M 83 0 = M 30 0 ∧ M 84 0 = M 31 0 ∧ M 85 0 = M 32 0) ∧ (0 ≤ M 5 0 0 ∧ M 5 0 0 ≤ 8) ∧ (∀ g, 0 ≤ g → g < M 5 0 0 → (0 ≤ M 30 0 g ∧ M 30 0 g ≤ 5) ∧ (0 ≤ M 31 0 g ∧ M 31 0 g ≤ 9) ∧ (0 ≤ M 32 0 g ∧ M 32 0 g ≤ 999))
/-- the list, the day, who is out, the pence: c calls have been made -/
def INow (c : Int) (M : Mem) : Prop := (∀ i, 0 ≤ i → i < M 5 0 0 → M 89 0 i = M 34 0 i) ∧ IPerm (M 5 0 0) (M 34 0) ∧ M 13 0 25 = M 5 0 2 ∧ (0 ≤ M 5 0 2 ∧ M 5 0 2 ≤ 999) ∧
  (0 ≤ M 5 0 3 ∧ M 5 0 3 < 2 ^ (M 5 0 0).toNat) ∧ (∀ g, 0 ≤ g → g < 8 → M 86 0 g = bitI (M 5 0 3) g) ∧ (∀ g, 0 ≤ g → g < M 5 0 0 → M 87 0 g = M 35 0 g ∧ M 88 0 g = M 36 0 g) ∧ M 13 0 26 = M 5 0 6 ∧ (0 ≤ M 5 0 6 ∧ M 5 0 6 ≤ 100000 * c)
/-- the image -/
def IImg (c : Int) (M : Mem) : Prop := (M 4 0 5 = 0 ∧ M 13 0 83 = -4) ∨ (M 4 0 5 = 1 ∧ M 13 0 83 = M 6 0 0 ∧ (0 ≤ M 6 0 0 ∧ M 6 0 0 ≤ M 5 0 0) ∧ (∀ i, 0 ≤ i → i < M 6 0 0 → M 130 0 i = M 37 0 i) ∧ IPerm (M 6 0 0) (M 37 0) ∧ M 13 0 88 = M 6 0 2 ∧ (0 ≤ M 6 0 2 ∧ M 6 0 2 ≤ 999) ∧
  (0 ≤ M 6 0 3 ∧ M 6 0 3 < 2 ^ (M 6 0 0).toNat) ∧ (∀ g, 0 ≤ g → g < 8 → M 131 0 g = bitI (M 6 0 3) g) ∧ (∀ g, 0 ≤ g → g < M 6 0 0 → M 132 0 g = M 38 0 g ∧ M 133 0 g = M 39 0 g) ∧ M 13 0 89 = M 6 0 6 ∧ (0 ≤ M 6 0 6 ∧ M 6 0 6 ≤ 100000 * c))
/-- people -/
def IPpl (M : Mem) : Prop := M 13 0 49 = M 9 0 0 ∧ (0 ≤ M 9 0 0 ∧ M 9 0 0 ≤ 9) ∧ (∀ a, 0 ≤ a → a < 9 → M 101 0 a = M 50 0 a) ∧ (∀ a, 0 ≤ a → a < M 9 0 0 → 0 ≤ M 50 0 a ∧ M 50 0 a ≤ 9) ∧
  (∀ a b, 0 ≤ a → a < 9 → 0 ≤ b → b < 9 → M 102 0 (9 * a + b) = M 52 a b ∧ (-9 ≤ M 52 a b ∧ M 52 a b ≤ 9) ∧ (M 9 0 0 ≤ a ∨ M 9 0 0 ≤ b → M 52 a b = 0))
/-- ropes -/
def IRop (M : Mem) : Prop := M 13 0 54 = M 10 0 3 ∧ (0 ≤ M 10 0 3 ∧ M 10 0 3 ≤ 8) ∧ ∀ r, 0 ≤ r → r < M 10 0 3 → (M 105 0 r = M 11 r 0 ∧ M 106 0 r = M 11 r 1 ∧ M 107 0 r = M 11 r 2 ∧ M 108 0 r = M 11 r 3) ∧
  (0 ≤ M 11 r 0 ∧ M 11 r 0 < M 1 0 9) ∧ (0 ≤ M 11 r 1 ∧ M 11 r 1 ≤ 9) ∧ (0 ≤ M 11 r 2 ∧ M 11 r 2 ≤ 95) ∧ (1 ≤ M 11 r 3 ∧ M 11 r 3 ≤ 9)
/-- entries -/
def IHrs (M : Mem) : Prop := M 13 0 73 = M 12 0 0 ∧ (0 ≤ M 12 0 0 ∧ M 12 0 0 ≤ 14) ∧ ∀ e, 0 ≤ e → e < M 12 0 0 → (M 123 0 e = M 61 0 e ∧ 6 + M 124 0 e = M 62 0 e ∧ M 125 0 e = M 63 0 e) ∧
  (0 ≤ M 61 0 e ∧ M 61 0 e < M 1 0 9) ∧ (6 ≤ M 62 0 e ∧ M 62 0 e < 6 + M 5 0 0) ∧ (1 ≤ M 63 0 e ∧ M 63 0 e ≤ 95)
/-- the tape -/
def ITap (M : Mem) : Prop := M 13 0 28 = M 7 0 1 ∧ (0 ≤ M 7 0 1 ∧ M 7 0 1 ≤ 240) ∧ (∀ j, 0 ≤ j → j < M 7 0 1 → M 90 0 j = M 40 0 j ∧ 0 ≤ M 40 0 j ∧ M 40 0 j ≤ 255) ∧ M 13 0 33 = M 7 0 6
/-- the statute: line by line the same kind and the same words -/
def ISta (M : Mem) : Prop := M 13 0 35 = M 8 0 6 ∧ (0 ≤ M 8 0 6 ∧ M 8 0 6 ≤ 12) ∧ ∀ z, 0 ≤ z → z < M 8 0 6 → (M 91 0 z = M 46 0 z ∧ 0 ≤ M 46 0 z ∧ M 46 0 z ≤ 3) ∧ (0 ≤ (if z = 0 then 0 else M 47 0 (z - 1)) ∧ (if z = 0 then 0 else M 47 0 (z - 1)) ≤ M 47 0 z ∧ M 47 0 z ≤ 240) ∧ (0 ≤ M 92 0 z ∧ M 92 0 (z + 1) ≤ 300) ∧
  Seg (M 45 0) (M 93 0) (M 92 0 (z + 1)) (M 47 0 z - (if z = 0 then 0 else M 47 0 (z - 1))).toNat (if z = 0 then 0 else M 47 0 (z - 1)) (M 92 0 z) false []
def Inv (c : Int) (M : Mem) : Prop := (0 ≤ c ∧ c ≤ 512) ∧ INet M ∧ IStp M ∧ IRou M ∧ ISky M ∧ IGui M ∧ INow c M ∧ IImg c M ∧ ITap M ∧ ISta M ∧ IPpl M ∧ IRop M ∧ IHrs M
/-- a leaf: nothing opens it by itself -/
def Lf (P : Prop) : Prop := ∃ _ : Nat, P
theorem Lf.mk {P : Prop} (h : P) : Lf P := ⟨0, h⟩
/-- what a pair of calls owes -/
def PQ2 (c : Int) (v : AV) : Post := fun r' M2 => Lf (r' = some v ∧ Inv (c + 1) M2)
def PQ1 (l : Launch) (ω : WP) (c : Int) (ym : Nat) (as : List AV) : Post := fun r M1 => Lf (∃ v, r = some v ∧ Vd l ω 9 ym (vR 13 0 :: as) M1 (PQ2 c v))
theorem cmp3_lt {a b : Int} : cmp3 a b < 0 ↔ a < b := by unfold cmp3; split <;> (try split) <;> omega
theorem cmp3_ge {a b : Int} : 0 ≤ cmp3 a b ↔ b ≤ a := by unfold cmp3; split <;> (try split) <;> omega
theorem cmp3_gt {a b : Int} : 0 < cmp3 a b ↔ b < a := by unfold cmp3; split <;> (try split) <;> omega
theorem cmp3_le {a b : Int} : cmp3 a b ≤ 0 ↔ a ≤ b := by unfold cmp3; split <;> (try split) <;> omega
theorem cmp3_eq {a b : Int} : cmp3 a b = 0 ↔ a = b := by unfold cmp3; split <;> (try split) <;> omega
theorem INow.next {c : Int} {M : Mem} (h : INow c M) : INow (c + 1) M := ⟨h.1, h.2.1, h.2.2.1, h.2.2.2.1, h.2.2.2.2.1, h.2.2.2.2.2.1, h.2.2.2.2.2.2.1, h.2.2.2.2.2.2.2.1, by have := h.2.2.2.2.2.2.2.2; omega⟩
theorem IImg.next {c : Int} {M : Mem} (h : IImg c M) : IImg (c + 1) M := by
  rcases h with h | ⟨a1, a2, a3, a4, a5, a6, a7, a8, a9, a10, a11, a12⟩
  · exact Or.inl h
  · exact Or.inr ⟨a1, a2, a3, a4, a5, a6, a7, a8, a9, a10, a11, by omega⟩
theorem Inv.next {c : Int} {M : Mem} (hc : c < 512) (h : Inv c M) : Inv (c + 1) M := ⟨by have := h.1; omega, h.2.1, h.2.2.1, h.2.2.2.1, h.2.2.2.2.1, h.2.2.2.2.2.1, h.2.2.2.2.2.2.1.next, h.2.2.2.2.2.2.2.1.next, h.2.2.2.2.2.2.2.2⟩
