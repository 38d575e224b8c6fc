/-! ===== numbers: the machine's ints as Int ===== -/
def in32 (x : Int) : Prop := -2147483648 ≤ x ∧ x < 2147483648
def in64 (x : Int) : Prop := -9223372036854775808 ≤ x ∧ x < 9223372036854775808
theorem w32_in (x : Int) : in32 (w32 x) := by unfold in32 w32; omega
theorem w64_in (x : Int) : in64 (w64 x) := by unfold in64 w64; omega
theorem w32_id {x : Int} (h : in32 x) : w32 x = x := by unfold in32 at h; unfold w32; omega
theorem w64_id {x : Int} (h : in64 x) : w64 x = x := by unfold in64 at h; unfold w64; omega
theorem w32_bmod (x : Int) : w32 x = x.bmod 4294967296 := by
  unfold w32; simp only [Int.bmod_def]; omega
theorem w64_bmod (x : Int) : w64 x = x.bmod 18446744073709551616 := by
  unfold w64; simp only [Int.bmod_def]; omega
theorem o32_toInt {x : Int} (h : in32 x) : (Int32.ofInt x).toInt = x := Int32.toInt_ofInt_of_le (by unfold in32 at h; omega) (by unfold in32 at h; omega)
theorem o64_toInt {x : Int} (h : in64 x) : (Int64.ofInt x).toInt = x := Int64.toInt_ofInt_of_le (by unfold in64 at h; omega) (by unfold in64 at h; omega)
theorem t32_in (x : Int32) : in32 x.toInt := ⟨by have := x.le_toInt; omega, by have := x.toInt_lt; omega⟩
theorem t64_in (x : Int64) : in64 x.toInt := ⟨by have := x.le_toInt; omega, by have := x.toInt_lt; omega⟩
theorem w32_of (x : Int) : Int32.ofInt (w32 x) = Int32.ofInt x := by
  apply Int32.toInt_inj.1
  rw [o32_toInt (w32_in x), w32_bmod, Int32.toInt_ofInt]
theorem w64_of (x : Int) : Int64.ofInt (w64 x) = Int64.ofInt x := by
  apply Int64.toInt_inj.1
  rw [o64_toInt (w64_in x), w64_bmod, Int64.toInt_ofInt]
theorem o32_inj {x y : Int} (hx : in32 x) (hy : in32 y) : Int32.ofInt x = Int32.ofInt y ↔ x = y := by
  rw [← Int32.toInt_inj, o32_toInt hx, o32_toInt hy]
theorem o64_inj {x y : Int} (hx : in64 x) (hy : in64 y) : Int64.ofInt x = Int64.ofInt y ↔ x = y := by
  rw [← Int64.toInt_inj, o64_toInt hx, o64_toInt hy]
theorem o32_lt {x y : Int} (hx : in32 x) (hy : in32 y) : Int32.ofInt x < Int32.ofInt y ↔ x < y := by
  rw [Int32.lt_iff_toInt_lt, o32_toInt hx, o32_toInt hy]
theorem o32_le {x y : Int} (hx : in32 x) (hy : in32 y) : Int32.ofInt x ≤ Int32.ofInt y ↔ x ≤ y := by
  rw [Int32.le_iff_toInt_le, o32_toInt hx, o32_toInt hy]
theorem o64_lt {x y : Int} (hx : in64 x) (hy : in64 y) : Int64.ofInt x < Int64.ofInt y ↔ x < y := by
  rw [Int64.lt_iff_toInt_lt, o64_toInt hx, o64_toInt hy]
theorem o32_0 : Int32.ofInt 0 = 0 := rfl
theorem in32_0 : in32 0 := by unfold in32; omega
theorem in64_of {x : Int} (h : in32 x) : in64 x := by unfold in32 at h; unfold in64; omega
theorem o32_clamp {x : Int} (h : in32 x) : (Int32.ofInt x).toNatClampNeg = x.toNat := by
  rw [← Int32.toNat_toInt, o32_toInt h]
theorem vpin_of {j : Int} {n : Nat} (hj : in32 j) (h0 : 0 ≤ j) (h1 : j < n) : vp_in (Int32.ofInt j) n := by
  unfold vp_in
  rw [o32_clamp hj, ← o32_0, o32_lt hj in32_0]
  omega
theorem o32_tdiv {x y : Int} (hx : in32 x) (hy : in32 y) : Int32.ofInt (w32 (x.tdiv y)) = Int32.ofInt x / Int32.ofInt y := by
  apply Int32.toInt_inj.1
  rw [o32_toInt (w32_in _), Int32.toInt_div, o32_toInt hx, o32_toInt hy, w32_bmod]
theorem o64_tdiv {x y : Int} (hx : in64 x) (hy : in64 y) : Int64.ofInt (w64 (x.tdiv y)) = Int64.ofInt x / Int64.ofInt y := by
  apply Int64.toInt_inj.1
  rw [o64_toInt (w64_in _), Int64.toInt_div, o64_toInt hx, o64_toInt hy, w64_bmod]
theorem o32_tmod {x y : Int} (hx : in32 x) (hy : in32 y) : Int32.ofInt (x.tmod y) = Int32.ofInt x - Int32.ofInt x / Int32.ofInt y * Int32.ofInt y := by
  rw [← o32_tdiv hx hy, w32_of, ← Int32.ofInt_mul, ← Int32.ofInt_sub, Int.tmod_def, Int.mul_comm]
theorem o64_tmod {x y : Int} (hx : in64 x) (hy : in64 y) : Int64.ofInt (x.tmod y) = Int64.ofInt x - Int64.ofInt x / Int64.ofInt y * Int64.ofInt y := by
  rw [← o64_tdiv hx hy, w64_of, ← Int64.ofInt_mul, ← Int64.ofInt_sub, Int.tmod_def, Int.mul_comm]
theorem tmod_le (x y : Int) (a b : Int) (h1 : a ≤ 0) (h2 : 0 ≤ b) (ha : a ≤ x) (hb : x ≤ b) : a ≤ x.tmod y ∧ x.tmod y ≤ b := by
  have hn : (x.tmod y).natAbs ≤ x.natAbs := by
    rw [Int.natAbs_tmod]
    exact Nat.mod_le _ _
  rcases Int.le_total 0 x with h | h
  · have h3 := Int.tmod_nonneg y h
    omega
  · have e : x.tmod y = -((-x).tmod y) := by rw [Int.neg_tmod]; omega
    have h' : 0 ≤ -x := by omega
    have h3 := Int.tmod_nonneg y h'
    omega
theorem tmod_in32 {x y : Int} (hx : in32 x) : in32 (x.tmod y) := by
  unfold in32 at *
  have := tmod_le x y (-2147483648) 2147483647 (by omega) (by omega) (by omega) (by omega)
  omega
theorem tmod_in64 {x y : Int} (hx : in64 x) : in64 (x.tmod y) := by
  unfold in64 at *
  have := tmod_le x y (-9223372036854775808) 9223372036854775807 (by omega) (by omega) (by omega) (by omega)
  omega
/-! ===== the memory's kinds; what a world is ===== -/
def okv (k : Nat) (x : Int) : Prop := match k with
  | 0 => in32 x
  | 1 => in64 x
  | 3 => x = 0 ∨ x = 1
  | _ => True
def kdt (p : Nat) (j : Int) : Nat := match (SHt p).1 with
  | 0 => fkt (SHt p).2.1 j.toNat
  | 1 => 0
  | 2 => 1
  | 3 => 3
  | _ => 2
def okM (M : Mem) : Prop := ∀ p i j, okv (kdt p j) (M p i j)
theorem beq_eq {a b : Nat} (h : Nat.beq a b = true) : a = b := Nat.eq_of_beq_eq_true h
theorem beq_ne {a b : Nat} (h : ¬ a = b) : Nat.beq a b = false := by
  cases e : Nat.beq a b with
  | false => rfl
  | true => exact absurd (beq_eq e) h
theorem mset_at (M : Mem) (p : Nat) (i j v : Int) : mset M p i j v p i j = v := by
  simp [mset]
theorem mset_nep {M : Mem} {p q : Nat} {i j v : Int} (h : ¬ q = p) (a b : Int) : mset M p i j v q a b = M q a b := by
  simp [mset, beq_ne h]
theorem mset_nei {M : Mem} {p q : Nat} {i j v : Int} {a : Int} (h : ¬ a = i) (b : Int) : mset M p i j v q a b = M q a b := by
  unfold mset
  cases Nat.beq q p <;> simp [h]
theorem mset_nej {M : Mem} {p q : Nat} {i j v : Int} (a : Int) {b : Int} (h : ¬ b = j) : mset M p i j v q a b = M q a b := by
  unfold mset
  cases Nat.beq q p <;> simp [h]
theorem mset_ok {M : Mem} {p : Nat} {i j v : Int} (hM : okM M) (hv : okv (kdt p j) v) : okM (mset M p i j v) := by
  intro q a b
  unfold mset
  cases h : Nat.beq q p with
  | false => exact hM q a b
  | true =>
    rw [beq_eq h]
    by_cases h2 : a = i ∧ b = j
    · rw [if_pos h2, h2.2]; exact hv
    · simp only [cond_true, h2, if_false]; exact hM p a b
def spn (p : Nat) : Nat := (SHt p).2.2
def WL : List (Nat × Int) := (List.range 134).flatMap fun p => (List.range (spn p)).map fun (i : Nat) => (p, (i : Int))
theorem mem_WL {p : Nat} {i : Int} : (p, i) ∈ WL ↔ p < 134 ∧ 0 ≤ i ∧ i < spn p := by
  unfold WL
  simp only [List.mem_flatMap, List.mem_range, List.mem_map, Prod.mk.injEq]
  constructor
  · rintro ⟨a, ha, b, hb, rfl, rfl⟩
    omega
  · rintro ⟨h1, h2, h3⟩
    exact ⟨p, h1, i.toNat, by omega, rfl, by omega⟩
/-- a world's cells: the classes' numbers and slots, the addresses, the array classes -/
abbrev WP : Type := va_G × (Nat → Int → Nat) × (Nat → ClassId)
def fvl (ω : WP) (M : Mem) (p : Nat) (i : Int) (k : Nat) : Value := match fkt (SHt p).2.1 k with
  | 0 => .int (Int32.ofInt (M p i k))
  | 1 => .long (Int64.ofInt (M p i k))
  | 3 => .int (Int32.ofInt (M p i k))
  | _ => .ref (ω.2.1 (rft p k) i)
def wde (ω : WP) (M : Mem) (p : Nat) (i : Int) : va_E := match (SHt p).1 with
  | 0 => .inr ((SHt p).2.1, (List.range (nft (SHt p).2.1)).map (fvl ω M p i))
  | 1 => .inl (ω.2.2 1, (SHt p).2.1, .inl (fun j => Int32.ofInt (M p i j)))
  | 2 => .inl (ω.2.2 2, (SHt p).2.1, .inr (.inl (fun j => Int64.ofInt (M p i j))))
  | 3 => .inl (ω.2.2 3, (SHt p).2.1, .inl (fun j => Int32.ofInt (M p i j)))
  | k => .inl (ω.2.2 k, (SHt p).2.1, .inr (.inr (.inr (.inr (fun j => some (ω.2.1 (rft p 0) j))))))
def wd (ω : WP) (M : Mem) : va_W := WL.map fun q => (ω.2.1 q.1 q.2, wde ω M q.1 q.2)
abbrev tyx (ω : WP) : List (ClassId × FieldType) := [(ω.2.2 1, .int), (ω.2.2 2, .long), (ω.2.2 3, .boolean), (ω.2.2 4, .object "ValleyGuides$Rope"), (ω.2.2 5, .array .int), (ω.2.2 6, .array .long)]
theorem wd_at (ω : WP) (M : Mem) {p : Nat} {i : Int} (h : (p, i) ∈ WL) : ∃ q0 : Nat, WL[q0]? = some (p, i) ∧ (wd ω M)[q0]? = some (ω.2.1 p i, wde ω M p i) := by
  obtain ⟨q0, hq⟩ := List.getElem?_of_mem h
  exact ⟨q0, hq, by unfold wd; rw [List.getElem?_map, hq]; rfl⟩
theorem wd_set {ω : WP} {M M' : Mem} {A : Nat → Prop} (hD : va_D A (wd ω M)) {p q0 : Nat} {i : Int} (h : WL[q0]? = some (p, i)) {e : va_E} (he : wde ω M' p i = e) (hne : ∀ p' i', ¬ (p' = p ∧ i' = i) → wde ω M' p' i' = wde ω M p' i') : (wd ω M).set q0 (ω.2.1 p i, e) = wd ω M' := by
  apply List.ext_getElem?
  intro k
  have hat : (wd ω M)[q0]? = some (ω.2.1 p i, wde ω M p i) := by unfold wd; rw [List.getElem?_map, h]; rfl
  by_cases hk : k = q0
  · subst hk
    rw [List.getElem?_set_self (List.getElem?_eq_some_iff.mp hat).1]
    unfold wd
    rw [List.getElem?_map, h, ← he]
    rfl
  · rw [List.getElem?_set_ne (Ne.symm hk)]
    unfold wd
    rw [List.getElem?_map, List.getElem?_map]
    cases hq : WL[k]? with
    | none => rfl
    | some q =>
      obtain ⟨p', i'⟩ := q
      have hk2 : (wd ω M)[k]? = some (ω.2.1 p' i', wde ω M p' i') := by unfold wd; rw [List.getElem?_map, hq]; rfl
      have hn : ¬ (p' = p ∧ i' = i) := by
        rintro ⟨rfl, rfl⟩
        exact hk (hD.1 k q0 _ _ hk2 hat rfl)
      show some (ω.2.1 p' i', wde ω M p' i') = some (ω.2.1 p' i', wde ω M' p' i')
      rw [hne p' i' hn]
theorem wde_ne {ω : WP} {M : Mem} {p : Nat} {i j v : Int} (p' : Nat) (i' : Int) (h : ¬ (p' = p ∧ i' = i)) : wde ω (mset M p i j v) p' i' = wde ω M p' i' := by
  have e : ∀ b, mset M p i j v p' i' b = M p' i' b := by
    intro b
    by_cases hp : p' = p
    · exact mset_nei (fun hi => h ⟨hp, hi⟩) b
    · exact mset_nep hp _ b
  have e2 : fvl ω (mset M p i j v) p' i' = fvl ω M p' i' := by
    funext k
    unfold fvl
    rw [e]
  unfold wde
  rw [e2]
  simp only [e]
theorem WL_kind : ∀ p, p < 134 → (SHt p).1 < 7 := by decide +kernel
/-! ===== values, locals ===== -/
def cvA (ω : WP) (a : AV) : Value := match a with
  | .inl x => .int (Int32.ofInt x)
  | .inr (.inl x) => .long (Int64.ofInt x)
  | .inr (.inr (.inl (p, i))) => .ref (ω.2.1 p i)
  | .inr (.inr (.inr _)) => if ω.2.1 1020 1 = 0 then .null else .ref (ω.2.1 1020 0)
def okA (a : AV) : Prop := match a with
  | .inl x => in32 x
  | .inr (.inl x) => in64 x
  | .inr (.inr (.inl (p, i))) => ((SHt p).1 < 7 → (p, i) ∈ WL) ∧ ((SHt p).1 = 7 → p = 1002 ∧ i = 0) ∧ ((SHt p).1 = 8 → (p = 1000 ∨ p = 1001) ∧ i = 0) ∧ ((SHt p).1 = 9 → (p = 1010 ∨ p = 1011) ∧ i = 0)
  | .inr (.inr (.inr _)) => True
theorem okR {p : Nat} {i : Int} (h : (p, i) ∈ WL) : okA (vR p i) := ⟨fun _ => h, fun e => by have := WL_kind p (mem_WL.mp h).1; omega, fun e => by have := WL_kind p (mem_WL.mp h).1; omega, fun e => by have := WL_kind p (mem_WL.mp h).1; omega⟩
def okL (l : List AV) : Prop := ∀ a ∈ l, okA a
theorem okL_cons {a : AV} {l : List AV} : okL (a :: l) ↔ okA a ∧ okL l := by unfold okL; simp
def isV (a : AV) : Prop := match a with
  | .inr (.inr (.inr _)) => False
  | _ => True
def LVx (ω : WP) (lsC : Array Slot) (n : Nat) (ls : List AV) : Prop := lsC.size = n ∧ ls.length = n ∧ lv_wf lsC ∧ ∀ (i : Nat) (a : AV), ls[i]? = some a → isV a → lsC[i]? = some (.val (cvA ω a))
def lvq (ω : WP) (i : Nat) (a : AV) : Option (Nat × Value) := match a with
  | .inr (.inr (.inr _)) => none
  | b => some (i, cvA ω b)
theorem lvq_V {ω : WP} {i : Nat} {a : AV} (h : isV a) : lvq ω i a = some (i, cvA ω a) := by
  rcases a with x | x | ⟨p, j⟩ | u
  · rfl
  · rfl
  · rfl
  · exact h.elim
theorem lvq_some {ω : WP} {i : Nat} {a : AV} {q : Nat × Value} (h : lvq ω i a = some q) : isV a ∧ q = (i, cvA ω a) := by
  rcases a with x | x | ⟨p, j⟩ | u
  · exact ⟨trivial, (Option.some.inj h).symm⟩
  · exact ⟨trivial, (Option.some.inj h).symm⟩
  · exact ⟨trivial, (Option.some.inj h).symm⟩
  · cases h
def lvp (ω : WP) (ls : List AV) : List (Nat × Value) := (List.range ls.length).filterMap fun i => ls[i]?.bind (lvq ω i)
theorem mem_lvp {ω : WP} {ls : List AV} {q : Nat × Value} : q ∈ lvp ω ls ↔ ∃ a, ls[q.1]? = some a ∧ isV a ∧ q.2 = cvA ω a := by
  obtain ⟨i, v⟩ := q
  unfold lvp
  simp only [List.mem_filterMap, List.mem_range]
  constructor
  · rintro ⟨k, hk, h⟩
    obtain ⟨a, e, h⟩ := Option.bind_eq_some_iff.mp h
    obtain ⟨h1, h2⟩ := lvq_some h
    cases h2
    exact ⟨a, e, h1, rfl⟩
  · rintro ⟨a, h1, h2, h3⟩
    refine ⟨i, (List.getElem?_eq_some_iff.mp h1).1, ?_⟩
    rw [h1, h3]
    exact lvq_V h2
theorem LVx.has {ω : WP} {lsC : Array Slot} {n : Nat} {ls : List AV} (h : LVx ω lsC n ls) : lv_has lsC n (lvp ω ls) := by
  refine ⟨h.1, h.2.2.1, fun q hq => ?_⟩
  obtain ⟨a, h1, h2, h3⟩ := mem_lvp.mp hq
  rw [h3]
  exact h.2.2.2 _ _ h1 h2
theorem LVx.of {ω : WP} {lsC : Array Slot} {n : Nat} {ls : List AV} {l : List (Nat × Value)} (h : lv_has lsC n l) (hl : ls.length = n) (hs : ∀ (i : Nat) (a : AV), ls[i]? = some a → isV a → (i, cvA ω a) ∈ l) : LVx ω lsC n ls :=
  ⟨h.1, hl, h.2.1, fun i a h1 h2 => h.2.2 (i, cvA ω a) (hs i a h1 h2)⟩
theorem nthK_sp : ∀ (ls : List AV) (i : Nat) (k : AV → Prop), nthK ls i k → ∃ a, ls[i]? = some a ∧ k a
  | [], _, _, h => h.elim
  | a :: _, 0, _, h => ⟨a, rfl, h⟩
  | _ :: l, i + 1, k, h => nthK_sp l i k h
