/-! ===== grades: numbers that nearly cancel over every entry are small in a piece whose least guide has 0 ===== -/
def PB (f g : Int → Int) (B : Int) (L : Int → Int) : Prop := ∀ k, 0 ≤ k → k < 14 → 6 ≤ L k → L k < 14 → -(B + g (L k)) ≤ f k ∧ f k ≤ B + g (L k)
theorem PB_s {a b f g L : Int → Int} {B K e : Int} (K0 : 0 ≤ K) (hx : (0 ≤ a e ∧ a e < 6) ∧ (6 ≤ b e ∧ b e < 14)) (hf : -K ≤ f (a e) + f (b e) ∧ f (a e) + f (b e) ≤ K) (h : PB f g B L) : PB f g (B + K) (rxS a b e L) := fun k k0 k1 l0 l1 => by
  by_cases c : k = a e ∨ k = b e
  · have ev : rxS a b e L k = min (L (a e)) (L (b e)) := by
      rcases c with c | c
      · rw [c]; exact rx_a.1
      · rw [c]; exact rx_a.2
    rw [ev] at l0 l1 ⊢
    have ha := h (a e) (by omega) (by omega)
    have hb := h (b e) (by omega) (by omega)
    by_cases q : L (a e) ≤ L (b e)
    · rw [Int.min_eq_left q] at l0 l1 ⊢
      have := ha l0 l1
      rcases c with c | c
      · rw [c]; omega
      · rw [c]; omega
    · rw [Int.min_eq_right (by omega)] at l0 l1 ⊢
      have := hb l0 l1
      rcases c with c | c
      · rw [c]; omega
      · rw [c]; omega
  · have ev : rxS a b e L k = L k := rx_n (fun z => c (Or.inl z)) (fun z => c (Or.inr z))
    rw [ev] at l0 l1 ⊢
    have := h k k0 k1 l0 l1
    omega
theorem PB_N {a b f g L : Int → Int} {B K n : Int} (K0 : 0 ≤ K) (hab : AB a b n) (hf : ∀ e, 0 ≤ e → e < n → -K ≤ f (a e) + f (b e) ∧ f (a e) + f (b e) ≤ K) (h : PB f g B L) : ∀ m : Nat, (m : Int) ≤ n → PB f g (B + (m : Int) * K) (rxN a b L (m : Int))
  | 0, _ => by
    have e : B + ((0 : Nat) : Int) * K = B := by simp
    rw [e]
    exact h
  | m + 1, hm => by
    have e : B + ((m + 1 : Nat) : Int) * K = B + (m : Int) * K + K := by
      rw [Int.natCast_succ]
      grind
    have e2 : ((m + 1 : Nat) : Int) = (m : Int) + 1 := Int.natCast_succ m
    rw [e, e2, rxN_s (by omega)]
    exact PB_s K0 (hab.2 _ (by omega) (by omega)) (hf _ (by omega) (by omega)) (PB_N K0 hab hf h m (by omega))
theorem PB_d {a b f g L : Int → Int} {B K n : Int} (K0 : 0 ≤ K) (hab : AB a b n) (hf : ∀ e, 0 ≤ e → e < n → -K ≤ f (a e) + f (b e) ∧ f (a e) + f (b e) ≤ K) (h : PB f g B L) : ∀ t : Nat, PB f g (B + (t : Int) * (n * K)) (rdN a b n L (t : Int))
  | 0 => by
    have e : B + ((0 : Nat) : Int) * (n * K) = B := by simp
    rw [e]
    exact h
  | t + 1 => by
    have e : B + ((t + 1 : Nat) : Int) * (n * K) = B + (t : Int) * (n * K) + n * K := by
      rw [Int.natCast_succ]
      grind
    have e2 : ((t + 1 : Nat) : Int) = (t : Int) + 1 := Int.natCast_succ t
    have i := PB_N K0 hab hf (PB_d K0 hab hf h t) n.toNat (by have := hab.1; omega)
    rw [Int.toNat_of_nonneg hab.1.1] at i
    rw [e, e2, rdN_s (by omega)]
    exact i
theorem lb_B {a b Z f : Int → Int} {n K : Int} (hab : AB a b n) (hZ : ∀ k, 0 ≤ k → k < 14 → Z k = -4) (K0 : 0 ≤ K) (hf : ∀ e, 0 ≤ e → e < n → -K ≤ f (a e) + f (b e) ∧ f (a e) + f (b e) ≤ K) : ∀ k, 0 ≤ k → k < 14 → En a b n k → f (lbC a b n Z k) = 0 → -(196 * K) ≤ f k ∧ f k ≤ 196 * K := fun k k0 k1 en z => by
  have c0 := ci_in hab hZ n.toNat (by have := hab.1; omega)
  rw [Int.toNat_of_nonneg hab.1.1] at c0
  have h0 : PB f (fun l => max (f l) (-f l)) 0 (itI (ciS a b) Z n) := fun j j0 j1 l0 l1 => by
    rcases c0 j j0 j1 with y | ⟨-, y | y⟩
    · omega
    · omega
    · rw [y.2]
      show -(0 + max (f j) (-f j)) ≤ f j ∧ f j ≤ 0 + max (f j) (-f j)
      omega
  have h1 := PB_d K0 hab hf h0 14 k k0 k1
  have l := lb_all hab hZ hZ k k0 k1
  rcases l with l | ⟨-, l, -⟩
  · exact absurd en l.2.2
  have h2 : -(0 + ((14 : Nat) : Int) * (n * K) + max (f (lbC a b n Z k)) (-f (lbC a b n Z k))) ≤ f k ∧ f k ≤ 0 + ((14 : Nat) : Int) * (n * K) + max (f (lbC a b n Z k)) (-f (lbC a b n Z k)) := h1 l.1 l.2
  rw [z] at h2
  have nk : n * K ≤ 14 * K := Int.mul_le_mul_of_nonneg_right hab.1.2 K0
  omega
/-! ===== grades: columns for nodes ===== -/
def aiE (a b col : Int → Int) (e c : Nat) : Int := if col (a e) = (c : Int) ∨ col (b e) = (c : Int) then 1 else 0
def ppE (a b t col : Int → Int) (n : Nat) (j e : Nat) : Int := if j < n then aiE a b col e j else t e
def fN (col : Int → Int) (x : Nat → Int) (k : Int) : Int := if 0 ≤ col k then x (col k).toNat else 0
def GS (a b Z col : Int → Int) (m n : Nat) : Prop := AB a b (m : Int) ∧ (∀ k, 0 ≤ k → k < 14 → Z k = -4) ∧ (∀ k, 0 ≤ k → k < 14 → col k = -4 ∨ (0 ≤ col k ∧ col k < (n : Int) ∧ En a b (m : Int) k ∧ col (lbC a b (m : Int) Z k) = -4)) ∧ (∀ j k, 0 ≤ j → j < 14 → 0 ≤ k → k < 14 → 0 ≤ col j → col j = col k → j = k) ∧ (∀ c : Nat, c < n → ∃ k, 0 ≤ k ∧ k < 14 ∧ col k = (c : Int))
theorem sm_pt {x : Nat → Int} {v : Int} : ∀ n : Nat, v < (n : Int) → sm (fun c => x c * (if v = (c : Int) then 1 else 0)) n = if 0 ≤ v then x v.toNat else 0
  | 0, h => by
    rw [if_neg (by omega)]
    rfl
  | n + 1, h => by
    rw [sm]
    by_cases c : v = (n : Int)
    · rw [if_pos c, if_pos (by omega), c, Int.toNat_natCast, Int.mul_one]
      have z : sm (fun c => x c * (if (n : Int) = (c : Int) then 1 else 0)) n = 0 := sm_z _ (fun k hk => by
        show x k * (if (n : Int) = (k : Int) then 1 else 0) = 0
        rw [if_neg (by omega), Int.mul_zero])
      omega
    · rw [if_neg c, sm_pt n (by omega)]
      simp
theorem gs_w {a b Z col : Int → Int} {m n : Nat} (h : GS a b Z col m n) {x : Nat → Int} {e : Nat} (he : e < m) : wE (aiE a b col) n x e = fN col x (a e) + fN col x (b e) := by
  obtain ⟨h1, h2, h3, h4, h5⟩ := h
  have y := h1.2 (e : Int) (by omega) (by omega)
  have ya := h3 (a e) (by omega) (by omega)
  have yb := h3 (b e) (by omega) (by omega)
  have ne : 0 ≤ col (a e) → col (a e) ≠ col (b e) := fun p q => by
    have := h4 (a e) (b e) (by omega) (by omega) (by omega) (by omega) p q
    omega
  unfold fN
  rw [← sm_pt (x := x) n (by omega : col (a e) < (n : Int)), ← sm_pt (x := x) n (by omega : col (b e) < (n : Int))]
  have := sm_lin (f := fun c => x c * (if col (a e) = (c : Int) then 1 else 0)) (g := fun c => x c * (if col (b e) = (c : Int) then 1 else 0)) (a := 1) (b := 1) n
  rw [Int.one_mul, Int.one_mul] at this
  rw [← this]
  refine sm_cg _ (fun k hk => ?_)
  show x k * aiE a b col e k = 1 * (x k * (if col (a e) = (k : Int) then 1 else 0)) + 1 * (x k * (if col (b e) = (k : Int) then 1 else 0))
  unfold aiE
  by_cases c1 : col (a e) = (k : Int)
  · have c2 : ¬ col (b e) = (k : Int) := fun z => ne (by omega) (by omega)
    rw [if_pos (Or.inl c1), if_pos c1, if_neg c2]
    omega
  · by_cases c2 : col (b e) = (k : Int)
    · rw [if_pos (Or.inr c2), if_neg c1, if_pos c2]
      omega
    · rw [if_neg (fun z => z.elim c1 c2), if_neg c1, if_neg c2]
      omega
theorem gs_H {a b Z col : Int → Int} {m n : Nat} (h : GS a b Z col m n) : Hg (aiE a b col) m n 196 := fun x K hw c hc => by
  have hW := fun e he => gs_w h (x := x) (e := e) he
  obtain ⟨h1, h2, h3, h4, h5⟩ := h
  obtain ⟨k, k0, k1, k2⟩ := h5 c hc
  have kk := h3 k k0 k1
  rcases kk with z | ⟨c0, c1, en, cr⟩
  · omega
  have fk : fN col x k = x c := by
    unfold fN
    rw [if_pos c0, k2, Int.toNat_natCast]
  have fr : fN col x (lbC a b (m : Int) Z k) = 0 := by
    unfold fN
    rw [if_neg (by omega)]
  have K0 : 0 ≤ K := by
    obtain ⟨e, e0, e1, -⟩ := en
    have := hw e.toNat (by omega)
    omega
  have := lb_B (f := fN col x) h1 h2 K0 (fun e e0 e1 => by
    have q := hw e.toNat (by omega)
    rw [hW e.toNat (by omega), Int.toNat_of_nonneg e0] at q
    exact q) k k0 k1 en fr
  rw [fk] at this
  exact this
theorem gs_d {a b Z col t : Int → Int} {m n : Nat} (h : GS a b Z col m n) : sm (fun c => qE (aiE a b col) (ppE a b t col n) m c c) n ≤ 28 := by
  have e1 : sm (fun c => qE (aiE a b col) (ppE a b t col n) m c c) n = sm (fun c => sm (fun e => 1 * aiE a b col e c) m) n := sm_cg _ (fun c hc => by
    unfold qE ppE
    refine sm_cg _ (fun e _ => ?_)
    show aiE a b col e c * (if c < n then aiE a b col e c else t e) = _
    rw [if_pos hc]
    unfold aiE
    by_cases q : col (a e) = (c : Int) ∨ col (b e) = (c : Int)
    · rw [if_pos q]
    · rw [if_neg q]
      rfl)
  rw [e1, sm_swap]
  have b1 : ∀ e, e < m → -2 ≤ sm (fun c => 1 * aiE a b col e c) n ∧ sm (fun c => 1 * aiE a b col e c) n ≤ 2 := fun e he => by
    have w := gs_w h (x := fun _ => 1) (e := e) he
    unfold wE at w
    rw [w]
    simp only [fN]
    split <;> split <;> omega
  have := sm_bd m b1
  have := h.1.1
  omega
theorem gs_p {a b t col : Int → Int} {n : Nat} : ∀ j, j < n → ppE a b t col n j = fun e => aiE a b col e j := fun j hj => by
  funext e
  exact if_pos hj
theorem gs_01 {a b col : Int → Int} (e i : Nat) : aiE a b col e i = 0 ∨ aiE a b col e i = 1 := by
  unfold aiE
  by_cases c : col (a e) = (i : Int) ∨ col (b e) = (i : Int)
  · rw [if_pos c]; exact Or.inr rfl
  · rw [if_neg c]; exact Or.inl rfl
theorem gs_all {a b Z col t : Int → Int} {m n : Nat} (h : GS a b Z col m n) : ∃ R : Nat → Nat → Nat → Int, R 0 = qE (aiE a b col) (ppE a b t col n) m ∧ (∀ k, k < n → R k k k = dA (qE (aiE a b col) (ppE a b t col n) m) (k + 1) ∧ (∀ j, R (k + 1) k j = R k k j) ∧ (∀ i j, i < n → i ≠ k → R k k k * R k i j - R k i k * R k k j = dA (qE (aiE a b col) (ppE a b t col n) m) k * R (k + 1) i j)) ∧ (∀ k, k ≤ n → 0 < dA (qE (aiE a b col) (ppE a b t col n) m) k ∧ dA (qE (aiE a b col) (ppE a b t col n) m) k ≤ 30000 ∧ El (qE (aiE a b col) (ppE a b t col n) m) n k (R k)) := by
  obtain ⟨R, r0, r1, r2⟩ := el_all (gs_p (t := t)) (gs_H h) (by have := h.1.1; omega) gs_01 (gs_d (t := t) h) n (Nat.le_refl _)
  exact ⟨R, r0, r1, fun k hk => ⟨(r2 k hk).1, (r2 k hk).2.1, (r2 k hk).2.2.2⟩⟩
theorem gs_bd {a b Z col t : Int → Int} {m n k : Nat} (h : GS a b Z col m n) (ht : ∀ e, 0 ≤ e → e < (m : Int) → 1 ≤ t e ∧ t e ≤ 95) (hk : k ≤ n) {M : Nat → Nat → Int} (el : El (qE (aiE a b col) (ppE a b t col n) m) n k M) (A0 : 0 < dA (qE (aiE a b col) (ppE a b t col n) m) k) (A1 : dA (qE (aiE a b col) (ppE a b t col n) m) k ≤ 30000) : ∀ i j, i < n → (j < n → -23520000 ≤ M i j ∧ M i j ≤ 23520000) ∧ (-2234400000 ≤ M i j ∧ M i j ≤ 2234400000) := fun i j hi => by
  have m14 : m ≤ 14 := by have := h.1.1; omega
  have B := fun P => el_sq (gs_p (t := t)) (gs_H h) hk el j (P := P)
  generalize dA (qE (aiE a b col) (ppE a b t col n) m) k = A at *
  have b1 : j < n → -23520000 ≤ M i j ∧ M i j ≤ 23520000 := fun hj => by
    have q := B 4 (by
      have z := sm_bd (f := fun e => ppE a b t col n j e * ppE a b t col n j e) (B := 1) m (fun e he => by
        show -1 ≤ ppE a b t col n j e * ppE a b t col n j e ∧ ppE a b t col n j e * ppE a b t col n j e ≤ 1
        have := gs_p (a := a) (b := b) (t := t) (col := col) j hj
        rw [this]
        show -1 ≤ aiE a b col e j * aiE a b col e j ∧ aiE a b col e j * aiE a b col e j ≤ 1
        rcases gs_01 (a := a) (b := b) (col := col) e j with r | r
        · rw [r]; decide
        · rw [r]; decide)
      omega) (by decide) A0 (by decide) (by omega) gs_01 i hi
    omega
  refine ⟨b1, ?_⟩
  by_cases hj : j < n
  · have := b1 hj
    omega
  · have q := B 380 (by
      have z := sm_bd (f := fun e => ppE a b t col n j e * ppE a b t col n j e) (B := 9025) m (fun e he => by
        show -9025 ≤ ppE a b t col n j e * ppE a b t col n j e ∧ ppE a b t col n j e * ppE a b t col n j e ≤ 9025
        unfold ppE
        rw [if_neg hj]
        have y := ht e (by omega) (by omega)
        have y1 := Int.mul_le_mul y.2 y.2 (by omega) (by decide : (0 : Int) ≤ 95)
        have y2 := sq_nn (t e)
        omega)
      omega) (by decide) A0 (by decide) (by omega) gs_01 i hi
    omega
