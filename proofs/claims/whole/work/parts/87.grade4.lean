/-! ===== grades: which nodes get columns, on both sides ===== -/
def cmS (pr : Int → Prop) [DecidablePred pr] : Int → (Int → Int) × Int → (Int → Int) × Int := fun k s => if pr k then (updI s.1 k s.2, s.2 + 1) else (updI s.1 k (-4), s.2)
def cmN (pr : Int → Prop) [DecidablePred pr] (Z : Int → Int) : Int → (Int → Int) × Int := itI (cmS pr) (Z, 0)
theorem cm_in {pr : Int → Prop} [DecidablePred pr] {Z : Int → Int} : ∀ m : Nat, (0 ≤ (cmN pr Z (m : Int)).2 ∧ (cmN pr Z (m : Int)).2 ≤ (m : Int)) ∧ (∀ k, 0 ≤ k → k < (m : Int) → (¬ pr k ∧ (cmN pr Z (m : Int)).1 k = -4) ∨ (pr k ∧ 0 ≤ (cmN pr Z (m : Int)).1 k ∧ (cmN pr Z (m : Int)).1 k < (cmN pr Z (m : Int)).2)) ∧ (∀ j k, 0 ≤ j → j < (m : Int) → 0 ≤ k → k < (m : Int) → 0 ≤ (cmN pr Z (m : Int)).1 j → (cmN pr Z (m : Int)).1 j = (cmN pr Z (m : Int)).1 k → j = k) ∧ (∀ c, 0 ≤ c → c < (cmN pr Z (m : Int)).2 → ∃ k, 0 ≤ k ∧ k < (m : Int) ∧ (cmN pr Z (m : Int)).1 k = c)
  | 0 => by
    have e : cmN pr Z ((0 : Nat) : Int) = (Z, 0) := rfl
    rw [e]
    exact ⟨⟨Int.le_refl _, Int.le_refl _⟩, fun k a b => by omega, fun j k a b => by omega, fun c a b => absurd b (by show ¬ c < 0; omega)⟩
  | m + 1 => by
    obtain ⟨i1, i2, i3, i4⟩ := cm_in (pr := pr) (Z := Z) m
    have e : ((m + 1 : Nat) : Int) = (m : Int) + 1 := Int.natCast_succ m
    have es : cmN pr Z ((m : Int) + 1) = cmS pr (m : Int) (cmN pr Z (m : Int)) := itI_succ (by omega)
    rw [e, es]
    generalize cmN pr Z (m : Int) = s at *
    unfold cmS
    by_cases c : pr (m : Int)
    · rw [if_pos c]
      have um : updI s.1 (m : Int) s.2 (m : Int) = s.2 := if_pos rfl
      have un : ∀ k, k ≠ (m : Int) → updI s.1 (m : Int) s.2 k = s.1 k := fun k hk => if_neg hk
      show (0 ≤ s.2 + 1 ∧ s.2 + 1 ≤ (m : Int) + 1) ∧ (∀ k, 0 ≤ k → k < (m : Int) + 1 → (¬ pr k ∧ updI s.1 (m : Int) s.2 k = -4) ∨ (pr k ∧ 0 ≤ updI s.1 (m : Int) s.2 k ∧ updI s.1 (m : Int) s.2 k < s.2 + 1)) ∧ (∀ j k, 0 ≤ j → j < (m : Int) + 1 → 0 ≤ k → k < (m : Int) + 1 → 0 ≤ updI s.1 (m : Int) s.2 j → updI s.1 (m : Int) s.2 j = updI s.1 (m : Int) s.2 k → j = k) ∧ (∀ c, 0 ≤ c → c < s.2 + 1 → ∃ k, 0 ≤ k ∧ k < (m : Int) + 1 ∧ updI s.1 (m : Int) s.2 k = c)
      refine ⟨by omega, fun k a b => ?_, fun j k a b d f g h => ?_, fun x a b => ?_⟩
      · by_cases q : k = (m : Int)
        · rw [q, um]
          exact Or.inr ⟨c, by omega, by omega⟩
        · rw [un k q]
          rcases i2 k a (by omega) with z | z
          · exact Or.inl z
          · exact Or.inr ⟨z.1, by omega, by omega⟩
      · by_cases q : j = (m : Int)
        · by_cases r : k = (m : Int)
          · omega
          · rw [q, um, un k r] at h
            rcases i2 k d (by omega) with z | z
            · omega
            · omega
        · by_cases r : k = (m : Int)
          · rw [r, um, un j q] at h
            rcases i2 j a (by omega) with z | z
            · omega
            · omega
          · rw [un j q, un k r] at h
            rw [un j q] at g
            exact i3 j k a (by omega) d (by omega) g h
      · by_cases q : x = s.2
        · exact ⟨(m : Int), by omega, by omega, by rw [um]; exact q.symm⟩
        · obtain ⟨k, k0, k1, k2⟩ := i4 x a (by omega)
          exact ⟨k, k0, by omega, by rw [un k (by omega)]; exact k2⟩
    · rw [if_neg c]
      have um : updI s.1 (m : Int) (-4) (m : Int) = -4 := if_pos rfl
      have un : ∀ k, k ≠ (m : Int) → updI s.1 (m : Int) (-4) k = s.1 k := fun k hk => if_neg hk
      show (0 ≤ s.2 ∧ s.2 ≤ (m : Int) + 1) ∧ (∀ k, 0 ≤ k → k < (m : Int) + 1 → (¬ pr k ∧ updI s.1 (m : Int) (-4) k = -4) ∨ (pr k ∧ 0 ≤ updI s.1 (m : Int) (-4) k ∧ updI s.1 (m : Int) (-4) k < s.2)) ∧ (∀ j k, 0 ≤ j → j < (m : Int) + 1 → 0 ≤ k → k < (m : Int) + 1 → 0 ≤ updI s.1 (m : Int) (-4) j → updI s.1 (m : Int) (-4) j = updI s.1 (m : Int) (-4) k → j = k) ∧ (∀ c, 0 ≤ c → c < s.2 → ∃ k, 0 ≤ k ∧ k < (m : Int) + 1 ∧ updI s.1 (m : Int) (-4) k = c)
      refine ⟨by omega, fun k a b => ?_, fun j k a b d f g h => ?_, fun x a b => ?_⟩
      · by_cases q : k = (m : Int)
        · rw [q, um]
          exact Or.inl ⟨c, rfl⟩
        · rw [un k q]
          exact i2 k a (by omega)
      · by_cases q : j = (m : Int)
        · rw [q, um] at g
          omega
        · rw [un j q] at g h
          by_cases r : k = (m : Int)
          · rw [r, um] at h
            omega
          · rw [un k r] at h
            exact i3 j k a (by omega) d (by omega) g h
      · obtain ⟨k, k0, k1, k2⟩ := i4 x a b
        exact ⟨k, k0, by omega, by rw [un k (by omega)]; exact k2⟩
theorem cm_GS {a b Z Y : Int → Int} {m : Nat} {pr : Int → Prop} [DecidablePred pr] (hab : AB a b (m : Int)) (hZ : ∀ k, 0 ≤ k → k < 14 → Z k = -4) (h : ∀ k, 0 ≤ k → k < 14 → pr k → En a b (m : Int) k ∧ ¬ pr (lbC a b (m : Int) Z k)) : GS a b Z (cmN pr Y 14).1 m (cmN pr Y 14).2.toNat := by
  obtain ⟨i1, i2, i3, i4⟩ := cm_in (pr := pr) (Z := Y) 14
  have e : ((14 : Nat) : Int) = 14 := rfl
  rw [e] at i1 i2 i3 i4
  have c : (((cmN pr Y 14).2.toNat : Nat) : Int) = (cmN pr Y 14).2 := Int.toNat_of_nonneg i1.1
  refine ⟨hab, hZ, fun k k0 k1 => ?_, i3, fun x hx => i4 (x : Int) (by omega) (by omega)⟩
  rw [c]
  rcases i2 k k0 k1 with z | ⟨z, z1, z2⟩
  · exact Or.inl z.2
  · obtain ⟨en, nr⟩ := h k k0 k1 z
    refine Or.inr ⟨z1, z2, en, ?_⟩
    have l := lb_all hab hZ hZ k k0 k1
    rcases l with l | ⟨-, l, -⟩
    · exact absurd en l.2.2
    rcases i2 _ (by omega) l.2 with y | y
    · exact y.2
    · exact absurd y.1 nr
abbrev prC (C : Int → Int) : Int → Prop := fun k => ¬ C k = -4 ∧ ¬ C k = k
abbrev prM (D : Int → Int) (d p : Int) : Int → Prop := fun k => D k = d ∧ ¬ k = p
theorem gsC {a b Z Y : Int → Int} {m : Nat} (hab : AB a b (m : Int)) (hZ : ∀ k, 0 ≤ k → k < 14 → Z k = -4) : GS a b Z (cmN (prC (lbC a b (m : Int) Z)) Y 14).1 m (cmN (prC (lbC a b (m : Int) Z)) Y 14).2.toNat := cm_GS hab hZ (fun k k0 k1 hk => by
  rcases lb_all hab hZ hZ k k0 k1 with l | ⟨en, l, -, l2, -⟩
  · exact absurd l.1 hk.1
  · exact ⟨en, fun z => z.2 l2.1⟩)
theorem gsM {a b Z Y X : Int → Int} {m : Nat} (hab : AB a b (m : Int)) (hZ : ∀ k, 0 ≤ k → k < 14 → Z k = -4) (hX : ∀ k, 0 ≤ k → k < 14 → X k = -4) {k : Int} (k0 : 0 ≤ k) (k1 : k < 14) (en : En a b (m : Int) k) : GS a b Z (cmN (prM (lbM a b (m : Int) X) (lbM a b (m : Int) X k) (lbC a b (m : Int) Z k)) Y 14).1 m (cmN (prM (lbM a b (m : Int) X) (lbM a b (m : Int) X k) (lbC a b (m : Int) Z k)) Y 14).2.toNat := cm_GS hab hZ (fun j j0 j1 hj => by
  have lk := lb_all hab hZ hX k k0 k1
  rcases lk with l | ⟨-, l, l1, l2, -⟩
  · exact absurd en l.2.2
  have lj := lb_all hab hZ hX j j0 j1
  have dj : lbM a b (m : Int) X j = lbM a b (m : Int) X k := hj.1
  rcases lj with y | ⟨ej, y, y1, y2, -⟩
  · omega
  refine ⟨ej, fun z => z.2 ?_⟩
  have := y2.2.2.1
  rw [dj, l2.2.2.1] at this
  exact this.symm)
/-- The model's root of a lot (its first guide) is the class's label. -/
theorem root_1 {a b Z X : Int → Int} {m : Nat} (hab : AB a b (m : Int)) (hZ : ∀ k, 0 ≤ k → k < 14 → Z k = -4) (hX : ∀ k, 0 ≤ k → k < 14 → X k = -4) {k : Int} (k0 : 0 ≤ k) (k1 : k < 14) (en : En a b (m : Int) k) : (6 ≤ lbC a b m Z k ∧ lbC a b m Z k < 14) ∧ lbM a b m X (lbC a b m Z k) = lbM a b m X k ∧ ∀ j, 6 ≤ j → j < 14 → lbM a b m X j = lbM a b m X k → lbC a b m Z k ≤ j := by
  rcases lb_all hab hZ hX k k0 k1 with l | ⟨-, l, l1, l2, -⟩
  · exact absurd en l.2.2
  refine ⟨l, l2.2.2.2, fun j j0 j1 hj => ?_⟩
  rcases lb_all hab hZ hX j (by omega) j1 with y | ⟨-, y, y1, y2, y3, -⟩
  · omega
  have := y2.2.2.1
  rw [hj, l2.2.2.1] at this
  have := y3 j0
  omega
