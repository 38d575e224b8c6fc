/-! ===== roping: what a rope is worth, and how strong it is ===== -/
def smI (g : Int → Int) : Int → Int := itI (fun a s => s + g a) 0
theorem smI_s {g : Int → Int} {n : Int} (h : 0 ≤ n) : smI g (n + 1) = smI g n + g n := itI_succ h
theorem smI_cg {g1 g2 : Int → Int} : ∀ n : Nat, (∀ a, 0 ≤ a → a < (n : Int) → g1 a = g2 a) → smI g1 (n : Int) = smI g2 (n : Int)
  | 0, _ => rfl
  | n + 1, h => by
    have e : ((n + 1 : Nat) : Int) = (n : Int) + 1 := by omega
    rw [e, smI_s (by omega), smI_s (by omega), smI_cg n (fun a b c => h a b (by omega)), h (n : Int) (by omega) (by omega)]
theorem smI_add {g1 g2 : Int → Int} : ∀ n : Nat, smI (fun a => g1 a + g2 a) (n : Int) = smI g1 (n : Int) + smI g2 (n : Int)
  | 0 => rfl
  | n + 1 => by
    have e : ((n + 1 : Nat) : Int) = (n : Int) + 1 := by omega
    rw [e, smI_s (by omega), smI_s (by omega), smI_s (by omega), smI_add n]
    omega
theorem smI_one {f x : Int} (hf : 0 ≤ f) : ∀ n : Nat, smI (fun a => if a = f then x else 0) (n : Int) = if f < (n : Int) then x else 0
  | 0 => by
    rw [if_neg (by omega)]
    rfl
  | n + 1 => by
    have e : ((n + 1 : Nat) : Int) = (n : Int) + 1 := by omega
    rw [e, smI_s (by omega), smI_one hf n]
    by_cases c : f < (n : Int)
    · rw [if_pos c, if_neg (by omega), if_pos (by omega)]
      omega
    · by_cases c2 : (n : Int) = f
      · rw [if_neg c, if_pos c2, if_pos (by omega)]
        omega
      · rw [if_neg c, if_neg c2, if_neg (by omega)]
        omega
theorem smI_0 : ∀ n : Nat, smI (fun _ => 0) (n : Int) = 0
  | 0 => rfl
  | n + 1 => by
    have e : ((n + 1 : Nat) : Int) = (n : Int) + 1 := by omega
    rw [e, smI_s (by omega), smI_0 n]
    rfl
theorem sm2 {g : Int → Int} {f h x y : Int} {n : Int} (hf : 0 ≤ f) (hfh : f < h) (hn : h < n) (e : ∀ a, 0 ≤ a → a < n → g a = if a = f then x else if a = h then y else 0) : smI g n = x + y := by
  have en : ((n.toNat : Nat) : Int) = n := Int.toNat_of_nonneg (by omega)
  have c := smI_cg (g1 := g) (g2 := fun a => (fun a => if a = f then x else 0) a + (fun a => if a = h then y else 0) a) n.toNat (fun a a0 a1 => by
    rw [e a a0 (by omega)]
    show _ = (if a = f then x else 0) + (if a = h then y else 0)
    by_cases c : a = f
    · rw [if_pos c, if_pos c, if_neg (by omega)]
      omega
    · rw [if_neg c, if_neg c]
      omega)
  rw [smI_add, smI_one hf, smI_one (by omega), en, if_pos (by omega), if_pos hn] at c
  exact c
theorem sm3 {g : Int → Int} {f k h x z y : Int} {n : Int} (hf : 0 ≤ f) (hfk : f < k) (hkh : k < h) (hn : h < n) (e : ∀ a, 0 ≤ a → a < n → g a = if a = f then x else if a = k then z else if a = h then y else 0) : smI g n = x + z + y := by
  have en : ((n.toNat : Nat) : Int) = n := Int.toNat_of_nonneg (by omega)
  have c := smI_cg (g1 := g) (g2 := fun a => (fun a => (fun a => if a = f then x else 0) a + (fun a => if a = k then z else 0) a) a + (fun a => if a = h then y else 0) a) n.toNat (fun a a0 a1 => by
    rw [e a a0 (by omega)]
    show _ = ((if a = f then x else 0) + (if a = k then z else 0)) + (if a = h then y else 0)
    by_cases c : a = f
    · rw [if_pos c, if_pos c, if_neg (by omega), if_neg (by omega)]
      omega
    · by_cases c2 : a = k
      · rw [if_neg c, if_pos c2, if_neg c, if_pos c2, if_neg (by omega)]
        omega
      · rw [if_neg c, if_neg c2, if_neg c, if_neg c2]
        omega)
  rw [smI_add, smI_add, smI_one hf, smI_one (by omega), smI_one (by omega), en, if_pos (by omega), if_pos (by omega), if_pos hn] at c
  exact c
/-- strength; worth: of those whose bits a rope holds -/
def sgR (S : Int → Int) (p : Int) (r : Nat) : Int := smI (fun a => if bitI (r : Int) a = 1 then S a else 0) p
def wiA (w : Int → Int → Int) (p : Int) (r : Nat) (a : Int) : Int → Int := smI (fun b => if bitI (r : Int) a = 1 ∧ bitI (r : Int) b = 1 ∧ ¬ a = b then w a b else 0)
def wiR (w : Int → Int → Int) (p : Int) (r : Nat) : Int → Int := smI (fun a => wiA w p r a p)
theorem bt2 : ∀ f : Nat, f < 9 → ∀ h : Nat, h < 9 → f < h → ∀ a : Nat, a < 9 → bitI ((2 ^ f + 2 ^ h : Nat) : Int) (a : Int) = if a = f ∨ a = h then 1 else 0 := by decide +kernel
theorem bt3 : ∀ f : Nat, f < 9 → ∀ k : Nat, k < 9 → decide (∀ h : Nat, h < 9 → ∀ a : Nat, a < 9 → (f < k ∧ k < h) → bitI ((2 ^ f + 2 ^ k + 2 ^ h : Nat) : Int) (a : Int) = if a = f ∨ a = k ∨ a = h then 1 else 0) = true := by decide +kernel
theorem bt2I {f h : Nat} {a : Int} (hfh : f < h) (hh : h < 9) (a0 : 0 ≤ a) (a1 : a < 9) : bitI ((2 ^ f + 2 ^ h : Nat) : Int) a = 1 ↔ (a = (f : Int) ∨ a = (h : Int)) := by
  have := bt2 f (by omega) h hh hfh a.toNat (by omega)
  rw [Int.toNat_of_nonneg a0] at this
  rw [this]
  split <;> omega
theorem bt3I {f k h : Nat} {a : Int} (hfk : f < k) (hkh : k < h) (hh : h < 9) (a0 : 0 ≤ a) (a1 : a < 9) : bitI ((2 ^ f + 2 ^ k + 2 ^ h : Nat) : Int) a = 1 ↔ (a = (f : Int) ∨ a = (k : Int) ∨ a = (h : Int)) := by
  have := of_decide_eq_true (bt3 f (by omega) k (by omega)) h hh a.toNat (by omega) ⟨hfk, hkh⟩
  rw [Int.toNat_of_nonneg a0] at this
  rw [this]
  split <;> omega
theorem sg2 {S : Int → Int} {p : Int} {f h : Nat} (hfh : f < h) (hh : (h : Int) < p) (hp : p ≤ 9) : sgR S p (2 ^ f + 2 ^ h) = S (f : Int) + S (h : Int) := by
  unfold sgR
  refine sm2 (f := (f : Int)) (h := (h : Int)) (by omega) (by omega) hh (fun a a0 a1 => ?_)
  have b := bt2I (a := a) hfh (by omega) a0 (by omega)
  by_cases c : a = (f : Int)
  · rw [if_pos (b.mpr (Or.inl c)), if_pos c, c]
  · rw [if_neg c]
    by_cases c2 : a = (h : Int)
    · rw [if_pos (b.mpr (Or.inr c2)), if_pos c2, c2]
    · rw [if_neg (fun z => (b.mp z).elim c c2), if_neg c2]
theorem sg3 {S : Int → Int} {p : Int} {f k h : Nat} (hfk : f < k) (hkh : k < h) (hh : (h : Int) < p) (hp : p ≤ 9) : sgR S p (2 ^ f + 2 ^ k + 2 ^ h) = S (f : Int) + S (k : Int) + S (h : Int) := by
  unfold sgR
  refine sm3 (f := (f : Int)) (k := (k : Int)) (h := (h : Int)) (by omega) (by omega) (by omega) hh (fun a a0 a1 => ?_)
  have b := bt3I (a := a) hfk hkh (by omega) a0 (by omega)
  by_cases c : a = (f : Int)
  · rw [if_pos (b.mpr (Or.inl c)), if_pos c, c]
  · rw [if_neg c]
    by_cases c2 : a = (k : Int)
    · rw [if_pos (b.mpr (Or.inr (Or.inl c2))), if_pos c2, c2]
    · rw [if_neg c2]
      by_cases c3 : a = (h : Int)
      · rw [if_pos (b.mpr (Or.inr (Or.inr c3))), if_pos c3, c3]
      · rw [if_neg (fun z => (b.mp z).elim c (fun y => y.elim c2 c3)), if_neg c3]
theorem wi2 {w : Int → Int → Int} {p : Int} {f h : Nat} (hfh : f < h) (hh : (h : Int) < p) (hp : p ≤ 9) : wiR w p (2 ^ f + 2 ^ h) p = w (f : Int) (h : Int) + w (h : Int) (f : Int) := by
  unfold wiR
  refine sm2 (f := (f : Int)) (h := (h : Int)) (by omega) (by omega) hh (fun a a0 a1 => ?_)
  have ba := bt2I (a := a) hfh (by omega) a0 (by omega)
  unfold wiA
  by_cases c : a = (f : Int)
  · rw [if_pos c]
    refine (sm2 (f := (f : Int)) (h := (h : Int)) (x := 0) (y := w (f : Int) (h : Int)) (by omega) (by omega) hh (fun b b0 b1 => ?_)).trans (by omega)
    have bb := bt2I (a := b) hfh (by omega) b0 (by omega)
    by_cases d : b = (f : Int)
    · rw [if_pos d, if_neg (fun z => z.2.2 (by omega))]
    · rw [if_neg d]
      by_cases d2 : b = (h : Int)
      · rw [if_pos d2, if_pos ⟨ba.mpr (Or.inl c), bb.mpr (Or.inr d2), by omega⟩, c, d2]
      · rw [if_neg d2, if_neg (fun z => (bb.mp z.2.1).elim d d2)]
  · rw [if_neg c]
    by_cases c2 : a = (h : Int)
    · rw [if_pos c2]
      refine (sm2 (f := (f : Int)) (h := (h : Int)) (x := w (h : Int) (f : Int)) (y := 0) (by omega) (by omega) hh (fun b b0 b1 => ?_)).trans (by omega)
      have bb := bt2I (a := b) hfh (by omega) b0 (by omega)
      by_cases d : b = (f : Int)
      · rw [if_pos d, if_pos ⟨ba.mpr (Or.inr c2), bb.mpr (Or.inl d), by omega⟩, c2, d]
      · rw [if_neg d]
        by_cases d2 : b = (h : Int)
        · rw [if_pos d2, if_neg (fun z => z.2.2 (by omega))]
        · rw [if_neg d2, if_neg (fun z => (bb.mp z.2.1).elim d d2)]
    · rw [if_neg c2]
      have en : ((p.toNat : Nat) : Int) = p := Int.toNat_of_nonneg (by omega)
      have z := smI_cg (g1 := fun b => if bitI ((2 ^ f + 2 ^ h : Nat) : Int) a = 1 ∧ bitI ((2 ^ f + 2 ^ h : Nat) : Int) b = 1 ∧ ¬ a = b then w a b else 0) (g2 := fun _ => 0) p.toNat (fun b b0 b1 => if_neg (fun z => (ba.mp z.1).elim c c2))
      rw [smI_0, en] at z
      exact z
theorem wi3 {w : Int → Int → Int} {p : Int} {f k h : Nat} (hfk : f < k) (hkh : k < h) (hh : (h : Int) < p) (hp : p ≤ 9) : wiR w p (2 ^ f + 2 ^ k + 2 ^ h) p = (w (f : Int) (k : Int) + w (f : Int) (h : Int)) + (w (k : Int) (f : Int) + w (k : Int) (h : Int)) + (w (h : Int) (f : Int) + w (h : Int) (k : Int)) := by
  unfold wiR
  refine sm3 (f := (f : Int)) (k := (k : Int)) (h := (h : Int)) (by omega) (by omega) (by omega) hh (fun a a0 a1 => ?_)
  have ba := bt3I (a := a) hfk hkh (by omega) a0 (by omega)
  have inner : ∀ x z y : Int, ((a = (f : Int) ∨ a = (k : Int) ∨ a = (h : Int)) → (x = if a = (f : Int) then 0 else w a (f : Int)) ∧ (z = if a = (k : Int) then 0 else w a (k : Int)) ∧ (y = if a = (h : Int) then 0 else w a (h : Int))) → (a = (f : Int) ∨ a = (k : Int) ∨ a = (h : Int)) → smI (fun b => if bitI ((2 ^ f + 2 ^ k + 2 ^ h : Nat) : Int) a = 1 ∧ bitI ((2 ^ f + 2 ^ k + 2 ^ h : Nat) : Int) b = 1 ∧ ¬ a = b then w a b else 0) p = x + z + y := fun x z y hx ha => by
    obtain ⟨x1, x2, x3⟩ := hx ha
    refine sm3 (f := (f : Int)) (k := (k : Int)) (h := (h : Int)) (by omega) (by omega) (by omega) hh (fun b b0 b1 => ?_)
    have bb := bt3I (a := b) hfk hkh (by omega) b0 (by omega)
    by_cases d : b = (f : Int)
    · rw [if_pos d, x1]
      by_cases q : a = (f : Int)
      · rw [if_pos q, if_neg (fun v => v.2.2 (by omega))]
      · rw [if_neg q, if_pos ⟨ba.mpr ha, bb.mpr (Or.inl d), by omega⟩, d]
    · rw [if_neg d]
      by_cases d2 : b = (k : Int)
      · rw [if_pos d2, x2]
        by_cases q : a = (k : Int)
        · rw [if_pos q, if_neg (fun v => v.2.2 (by omega))]
        · rw [if_neg q, if_pos ⟨ba.mpr ha, bb.mpr (Or.inr (Or.inl d2)), by omega⟩, d2]
      · rw [if_neg d2]
        by_cases d3 : b = (h : Int)
        · rw [if_pos d3, x3]
          by_cases q : a = (h : Int)
          · rw [if_pos q, if_neg (fun v => v.2.2 (by omega))]
          · rw [if_neg q, if_pos ⟨ba.mpr ha, bb.mpr (Or.inr (Or.inr d3)), by omega⟩, d3]
        · rw [if_neg d3, if_neg (fun v => (bb.mp v.2.1).elim d (fun y => y.elim d2 d3))]
  unfold wiA
  by_cases c : a = (f : Int)
  · rw [if_pos c, inner 0 (w a (k : Int)) (w a (h : Int)) (fun _ => by rw [if_pos c, if_neg (by omega), if_neg (by omega)]; exact ⟨rfl, rfl, rfl⟩) (Or.inl c), c]
    omega
  · rw [if_neg c]
    by_cases c2 : a = (k : Int)
    · rw [if_pos c2, inner (w a (f : Int)) 0 (w a (h : Int)) (fun _ => by rw [if_neg c, if_pos c2, if_neg (by omega)]; exact ⟨rfl, rfl, rfl⟩) (Or.inr (Or.inl c2)), c2]
      omega
    · rw [if_neg c2]
      by_cases c3 : a = (h : Int)
      · rw [if_pos c3, inner (w a (f : Int)) (w a (k : Int)) 0 (fun _ => by rw [if_neg c, if_neg c2, if_pos c3]; exact ⟨rfl, rfl, rfl⟩) (Or.inr (Or.inr c3)), c3]
        omega
      · rw [if_neg c3]
        have en : ((p.toNat : Nat) : Int) = p := Int.toNat_of_nonneg (by omega)
        have z := smI_cg (g1 := fun b => if bitI ((2 ^ f + 2 ^ k + 2 ^ h : Nat) : Int) a = 1 ∧ bitI ((2 ^ f + 2 ^ k + 2 ^ h : Nat) : Int) b = 1 ∧ ¬ a = b then w a b else 0) (g2 := fun _ => 0) p.toNat (fun b b0 b1 => if_neg (fun z => (ba.mp z.1).elim c (fun y => y.elim c2 c3)))
        rw [smI_0, en] at z
        exact z
/-! ===== roping: both sides' rows of worths ===== -/
theorem bt_I {m g : Nat} : bitI (m : Int) (g : Int) = ((m / 2 ^ g % 2 : Nat) : Int) := by
  unfold bitI
  rw [Int.toNat_natCast]
  norm_cast
theorem bt_1 {m g : Nat} : btN m g = true ↔ bitI (m : Int) (g : Int) = 1 := by
  rw [bt_I]
  unfold btN
  refine ⟨fun h => by rw [Nat.eq_of_beq_eq_true h]; rfl, fun h => ?_⟩
  have e : m / 2 ^ g % 2 = 1 := by omega
  rw [e]
  rfl
def ckR (m r : Nat) : Bool := Nat.ble r m && Nat.ble 3 r && Nat.beq (Nat.land m r) r && Nat.ble (pcN (m - r) + 2) (pcN m) && (List.range 9).all (fun p => bif btN r p then btN m p && !(btN (m - r) p) else (btN (m - r) p == btN m p))
theorem rp_t2 : ∀ m : Nat, m < 512 → 1 ≤ m → (hiL (loN m) m 9).all (ckR m) = true := by decide +kernel
theorem pc_t : ∀ m : Nat, m < 512 → pcN m ≤ 9 := by decide +kernel
theorem rp_in {m r : Nat} (hm : m < 512) (h1 : 1 ≤ m) (hr : r ∈ hiL (loN m) m 9) : r ≤ m ∧ 3 ≤ r ∧ m &&& r = r ∧ pcN (m - r) + 2 ≤ pcN m ∧ ∀ p, p < 9 → (btN r p = true → btN m p = true ∧ btN (m - r) p = false) ∧ (btN r p = false → btN (m - r) p = btN m p) := by
  have := List.all_eq_true.mp (rp_t2 m hm h1) r hr
  unfold ckR at this
  simp only [Bool.and_eq_true] at this
  obtain ⟨⟨⟨⟨a, b⟩, c⟩, d⟩, e⟩ := this
  refine ⟨Nat.le_of_ble_eq_true a, Nat.le_of_ble_eq_true b, Nat.eq_of_beq_eq_true c, Nat.le_of_ble_eq_true d, fun p hp => ?_⟩
  have z := List.all_eq_true.mp e p (List.mem_range.mpr hp)
  cases hb : btN r p with
  | true =>
    rw [hb] at z
    have z' : (btN m p && !(btN (m - r) p)) = true := z
    simp only [Bool.and_eq_true, Bool.not_eq_true'] at z'
    exact ⟨fun _ => z', fun y => by cases y⟩
  | false =>
    rw [hb] at z
    have z' : (btN (m - r) p == btN m p) = true := z
    exact ⟨fun y => (by cases y), fun _ => eq_of_beq z'⟩
theorem hiL_s {f m h : Nat} : hiL f m (h + 1) = hiL f m h ++ (bif Nat.blt f h && btN m h then (2 ^ f + 2 ^ h) :: thL f m h h else []) := by
  unfold hiL
  rw [List.range_succ, List.flatMap_append]
  simp
theorem thL_s {f m h y : Nat} : thL f m h (y + 1) = thL f m h y ++ (bif Nat.blt f y && btN m y then [2 ^ f + 2 ^ y + 2 ^ h] else []) := by
  unfold thL
  rw [List.range_succ, List.filter_append, List.map_append]
  cases hb : (Nat.blt f y && btN m y) <;> simp [hb]
theorem hiL_hi {f m p : Nat} (hb : ∀ x, p ≤ x → btN m x = false) : ∀ d : Nat, hiL f m (p + d) = hiL f m p
  | 0 => rfl
  | d + 1 => by
    show hiL f m (p + d + 1) = _
    rw [hiL_s, hiL_hi hb d, hb (p + d) (by omega)]
    simp
theorem thL_f {f m h : Nat} : ∀ y : Nat, y ≤ f + 1 → thL f m h y = []
  | 0, _ => rfl
  | y + 1, hy => by
    have : Nat.blt f y = false := by
      cases hb : Nat.blt f y
      · rfl
      · have := Nat.le_of_ble_eq_true hb
        omega
    rw [thL_s, thL_f y (by omega), this]
    rfl
theorem hiL_f {f m : Nat} : ∀ h : Nat, h ≤ f + 1 → hiL f m h = []
  | 0, _ => rfl
  | h + 1, hh => by
    have : Nat.blt f h = false := by
      cases hb : Nat.blt f h
      · rfl
      · have := Nat.le_of_ble_eq_true hb
        omega
    rw [hiL_s, hiL_f h (by omega), this]
    rfl
theorem hiL_mem {f m : Nat} {r : Nat} : ∀ h : Nat, r ∈ hiL f m h → ∃ x, f < x ∧ x < h ∧ btN m x = true ∧ (r = 2 ^ f + 2 ^ x ∨ ∃ y, f < y ∧ y < x ∧ btN m y = true ∧ r = 2 ^ f + 2 ^ y + 2 ^ x)
  | 0, hr => by cases hr
  | h + 1, hr => by
    rw [hiL_s] at hr
    rcases List.mem_append.mp hr with z | z
    · obtain ⟨x, a, b, c⟩ := hiL_mem h z
      exact ⟨x, a, by omega, c⟩
    · cases hb : (Nat.blt f h && btN m h) with
      | false => rw [hb] at z; cases z
      | true =>
        rw [hb] at z
        simp only [Bool.and_eq_true] at hb
        have fh : f < h := by have := Nat.le_of_ble_eq_true hb.1; omega
        have z' : r ∈ (2 ^ f + 2 ^ h) :: thL f m h h := z
        rcases List.mem_cons.mp z' with y | y
        · exact ⟨h, fh, by omega, hb.2, Or.inl y⟩
        · unfold thL at y
          obtain ⟨k, k1, k2⟩ := List.mem_map.mp y
          obtain ⟨k3, k4⟩ := List.mem_filter.mp k1
          simp only [Bool.and_eq_true] at k4
          have := Nat.le_of_ble_eq_true k4.1
          exact ⟨h, fh, by omega, hb.2, Or.inr ⟨k, by omega, List.mem_range.mp k3, k4.2, k2.symm⟩⟩
def rpS (N le : Int) (sg vl : Nat → Int) (W : Int → Int) (m : Nat) (x : Int × Int) (r : Nat) : Int × Int := if le ≤ sg r ∧ ¬ W ((m - r : Nat) : Int) = N ∧ x.1 < W ((m - r : Nat) : Int) + vl r then (W ((m - r : Nat) : Int) + vl r, (r : Int)) else x
def rwF (N le : Int) (sg vl : Nat → Int) (W : Int → Int) (m : Nat) (f0 : Int) : Int × Int := (hiL (loN m) m 9).foldl (rpS N le sg vl W m) (N, f0)
def rpT (N le : Int) (sg vl : Nat → Int) (g : Int → Int) : Int → (Int → Int) × (Int → Int) → (Int → Int) × (Int → Int) := fun i x => (updI x.1 (i + 1) (rwF N le sg vl x.1 (i.toNat + 1) (g (x.2 (i + 1)))).1, updI x.2 (i + 1) (rwF N le sg vl x.1 (i.toNat + 1) (g (x.2 (i + 1)))).2)
def rpA (N le : Int) (sg vl : Nat → Int) (g : Int → Int) (W0 F0 : Int → Int) : Int → (Int → Int) × (Int → Int) := itI (rpT N le sg vl g) (updI W0 0 0, F0)
theorem rpA_s {N le : Int} {sg vl : Nat → Int} {g W0 F0 : Int → Int} {n : Int} (h : 0 ≤ n) : rpA N le sg vl g W0 F0 (n + 1) = rpT N le sg vl g n (rpA N le sg vl g W0 F0 n) := itI_succ h
/-- alike, on both sides, in the row of one lot -/
def GR (C D : (Int → Int) × (Int → Int)) (m : Nat) : Prop := (C.1 (m : Int) = -1000000 ∧ D.1 (m : Int) = -100000) ∨ (C.1 (m : Int) = D.1 (m : Int) ∧ (-60 * (m : Int) ≤ C.1 (m : Int) ∧ C.1 (m : Int) ≤ 60 * (m : Int)) ∧ (m = 0 ∨ (C.2 (m : Int) = D.2 (m : Int) ∧ ∃ r, r ∈ hiL (loN m) m 9 ∧ C.2 (m : Int) = (r : Int) ∧ ¬ C.1 ((m - r : Nat) : Int) = -1000000)))
theorem fold_rel {le : Int} {sg vl : Nat → Int} {C D : (Int → Int) × (Int → Int)} {m : Nat} (hm : m < 512) (h1 : 1 ≤ m) (hG : ∀ j, j < m → GR C D j) (hv : ∀ r, r ∈ hiL (loN m) m 9 → -60 ≤ vl r ∧ vl r ≤ 60) : ∀ (L : List Nat) (x y : Int × Int), (∀ r, r ∈ L → r ∈ hiL (loN m) m 9) → ((x.1 = -1000000 ∧ y.1 = -100000) ∨ (x = y ∧ (-60 * (m : Int) ≤ x.1 ∧ x.1 ≤ 60 * (m : Int)) ∧ ∃ r, r ∈ hiL (loN m) m 9 ∧ x.2 = (r : Int) ∧ ¬ C.1 ((m - r : Nat) : Int) = -1000000)) →
    ((L.foldl (rpS (-1000000) le sg vl C.1 m) x).1 = -1000000 ∧ (L.foldl (rpS (-100000) le sg vl D.1 m) y).1 = -100000) ∨ (L.foldl (rpS (-1000000) le sg vl C.1 m) x = L.foldl (rpS (-100000) le sg vl D.1 m) y ∧ (-60 * (m : Int) ≤ (L.foldl (rpS (-1000000) le sg vl C.1 m) x).1 ∧ (L.foldl (rpS (-1000000) le sg vl C.1 m) x).1 ≤ 60 * (m : Int)) ∧ ∃ r, r ∈ hiL (loN m) m 9 ∧ (L.foldl (rpS (-1000000) le sg vl C.1 m) x).2 = (r : Int) ∧ ¬ C.1 ((m - r : Nat) : Int) = -1000000)
  | [], x, y, _, h => h
  | r :: L, x, y, hL, h => by
    have hr := hL r List.mem_cons_self
    have q := rp_in hm h1 hr
    have v := hv r hr
    have g := hG (m - r) (by omega)
    refine fold_rel hm h1 hG hv L _ _ (fun z hz => hL z (List.mem_cons_of_mem _ hz)) ?_
    unfold rpS
    have e : ((m - r : Nat) : Int) = (m : Int) - (r : Int) := by omega
    rcases g with ⟨g1, g2⟩ | ⟨g1, g2, -⟩
    · rw [if_neg (fun z => z.2.1 g1), if_neg (fun z => z.2.1 g2)]
      exact h
    · by_cases c : le ≤ sg r ∧ ¬ C.1 ((m - r : Nat) : Int) = -1000000 ∧ x.1 < C.1 ((m - r : Nat) : Int) + vl r
      · have c2 : le ≤ sg r ∧ ¬ D.1 ((m - r : Nat) : Int) = -100000 ∧ y.1 < D.1 ((m - r : Nat) : Int) + vl r := by
          refine ⟨c.1, by omega, ?_⟩
          rcases h with ⟨a, b⟩ | ⟨a, b, _⟩
          · omega
          · rw [← a, ← g1]
            exact c.2.2
        rw [if_pos c, if_pos c2]
        refine Or.inr ⟨by rw [g1], by simp only []; omega, r, hr, rfl, c.2.1⟩
      · have c2 : ¬ (le ≤ sg r ∧ ¬ D.1 ((m - r : Nat) : Int) = -100000 ∧ y.1 < D.1 ((m - r : Nat) : Int) + vl r) := fun z => by
          refine c ⟨z.1, by omega, ?_⟩
          rcases h with ⟨a, b⟩ | ⟨a, b, _⟩
          · omega
          · rw [a, g1]
            exact z.2.2
        rw [if_neg c, if_neg c2]
        exact h
theorem rp_rel {le : Int} {sg vl : Nat → Int} {g1 g2 W1 W2 F1 F2 : Int → Int} (n : Nat) (hv : ∀ m, m ≤ n → 1 ≤ m → ∀ r, r ∈ hiL (loN m) m 9 → -60 ≤ vl r ∧ vl r ≤ 60) (hn : n < 512) : ∀ k : Nat, k ≤ n → ∀ m, m ≤ k → GR (rpA (-1000000) le sg vl g1 W1 F1 (k : Int)) (rpA (-100000) le sg vl g2 W2 F2 (k : Int)) m
  | 0, _, m, hm => by
    have e : m = 0 := by omega
    rw [e]
    have a : (rpA (-1000000) le sg vl g1 W1 F1 ((0 : Nat) : Int)).1 ((0 : Nat) : Int) = 0 := by
      show updI W1 0 0 ((0 : Nat) : Int) = 0
      unfold updI
      rw [if_pos (by omega)]
    have b : (rpA (-100000) le sg vl g2 W2 F2 ((0 : Nat) : Int)).1 ((0 : Nat) : Int) = 0 := by
      show updI W2 0 0 ((0 : Nat) : Int) = 0
      unfold updI
      rw [if_pos (by omega)]
    unfold GR
    rw [a, b]
    exact Or.inr ⟨rfl, by omega, Or.inl rfl⟩
  | k + 1, hk, m, hm => by
    have e : ((k + 1 : Nat) : Int) = (k : Int) + 1 := by omega
    have ih := rp_rel (le := le) (sg := sg) (g1 := g1) (g2 := g2) (W1 := W1) (W2 := W2) (F1 := F1) (F2 := F2) n hv hn k (by omega)
    rw [e, rpA_s (by omega), rpA_s (by omega)]
    generalize rpA (-1000000) le sg vl g1 W1 F1 (k : Int) = C at ih
    generalize rpA (-100000) le sg vl g2 W2 F2 (k : Int) = D at ih
    have up : ∀ (A : Int → Int) (v : Int) (j : Nat), j ≤ k → updI A ((k : Int) + 1) v (j : Int) = A (j : Int) := fun A v j hj => by
      unfold updI
      rw [if_neg (by omega)]
    by_cases c : m ≤ k
    · have z := ih m c
      unfold GR at z ⊢
      unfold rpT
      simp only []
      rw [up _ _ m c, up _ _ m c, up _ _ m c, up _ _ m c]
      rcases z with z | ⟨z1, z2, z3⟩
      · exact Or.inl z
      · refine Or.inr ⟨z1, z2, ?_⟩
        rcases z3 with z3 | ⟨z3, r, z4, z5, z6⟩
        · exact Or.inl z3
        · exact Or.inr ⟨z3, r, z4, z5, by rw [up _ _ (m - r) (by omega)]; exact z6⟩
    · have em : m = k + 1 := by omega
      rw [em]
      have kn : (k : Int).toNat + 1 = k + 1 := by omega
      have f := fold_rel (le := le) (sg := sg) (vl := vl) (C := C) (D := D) (m := k + 1) (by omega) (by omega) (fun j hj => ih j (by omega)) (hv (k + 1) hk (by omega)) (hiL (loN (k + 1)) (k + 1) 9) (-1000000, g1 (C.2 ((k : Int) + 1))) (-100000, g2 (D.2 ((k : Int) + 1))) (fun _ h => h) (Or.inl ⟨rfl, rfl⟩)
      have ek : ((k + 1 : Nat) : Int) = (k : Int) + 1 := by omega
      have us : ∀ (A : Int → Int) (v : Int), updI A ((k : Int) + 1) v ((k + 1 : Nat) : Int) = v := fun A v => by
        unfold updI
        rw [if_pos (by omega)]
      unfold GR rpT rwF
      simp only []
      rw [us, us, us, us, kn]
      rcases f with f | ⟨f1, f2, r, f3, f4, f5⟩
      · exact Or.inl f
      · have q := rp_in (m := k + 1) (by omega) (by omega) f3
        refine Or.inr ⟨by rw [f1], f2, Or.inr ⟨by rw [f1], r, f3, f4, ?_⟩⟩
        rw [up _ _ (k + 1 - r) (by omega)]
        exact f5
/-- the ropes of the best, one by one -/
def cntR (F : Int → Int) : Nat → Nat → Int := fun k => Nat.rec (motive := fun _ => Nat → Int) (fun _ => 0) (fun _ ih m => if m = 0 then 0 else 1 + ih (m - (F (m : Int)).toNat)) k
def rwR (F : Int → Int) (p : Nat) : Nat → Nat → Int := fun k => Nat.rec (motive := fun _ => Nat → Int) (fun _ => 0) (fun _ ih m => if btN (F (m : Int)).toNat p = true then F (m : Int) else ih (m - (F (m : Int)).toNat)) k
theorem cntR_s {F : Int → Int} {k m : Nat} : cntR F (k + 1) m = if m = 0 then 0 else 1 + cntR F k (m - (F (m : Int)).toNat) := rfl
theorem rwR_s {F : Int → Int} {p k m : Nat} : rwR F p (k + 1) m = if btN (F (m : Int)).toNat p = true then F (m : Int) else rwR F p k (m - (F (m : Int)).toNat) := rfl
theorem cntR_0 {F : Int → Int} : ∀ k : Nat, cntR F k 0 = 0
  | 0 => rfl
  | k + 1 => by rw [cntR_s, if_pos rfl]
