/-! ===== grades: the tables of a whole elimination, by whole numbers (wip/gen/gr10.body) ===== -/
def TabR (a b t col : Int → Int) (m n : Nat) (R : Int → Int → Int → Int) (A : Int → Int) : Prop :=
    (∀ i j, 0 ≤ i → i < (n : Int) → 0 ≤ j → j ≤ (n : Int) → R 0 i j = qE (aiE a b col) (ppE a b t col n) m i.toNat j.toNat) ∧ A 0 = 1 ∧
    (∀ k, 0 ≤ k → k ≤ (n : Int) → 1 ≤ A k ∧ A k ≤ 30000) ∧
    (∀ k, 0 ≤ k → k < (n : Int) → R k k k = A (k + 1)) ∧
    (∀ k j, 0 ≤ k → k < (n : Int) → 0 ≤ j → R (k + 1) k j = R k k j) ∧
    (∀ k i j, 0 ≤ k → k < (n : Int) → 0 ≤ i → i < (n : Int) → ¬ i = k → 0 ≤ j → (R k k k * R k i j - R k i k * R k k j).tdiv (A k) = R (k + 1) i j) ∧
    (∀ k i j, 0 ≤ k → k ≤ (n : Int) → 0 ≤ i → i < (n : Int) → 0 ≤ j → j ≤ (n : Int) → (j < (n : Int) → -23520000 ≤ R k i j ∧ R k i j ≤ 23520000) ∧ (-2234400000 ≤ R k i j ∧ R k i j ≤ 2234400000)) ∧
    (∀ F : Int → Int, (∀ k, 0 ≤ k → k < 14 → F k = if col k = -4 then 0 else R (n : Int) (col k) (n : Int)) → ∀ k, 0 ≤ k → k < 14 → 0 ≤ col k → eqS a b t F m (A (n : Int)) k = 0)
theorem gs_R {a b Z col t : Int → Int} {m n : Nat} (h : GS a b Z col m n) (ht : ∀ e, 0 ≤ e → e < (m : Int) → 1 ≤ t e ∧ t e ≤ 95) : ∃ (R : Int → Int → Int → Int) (A : Int → Int), TabR a b t col m n R A := by
  obtain ⟨R, r0, r1, r2⟩ := gs_all (t := t) h
  have bd := fun k (hk : k ≤ n) => gs_bd h ht hk (r2 k hk).2.2 (r2 k hk).1 (r2 k hk).2.1
  refine ⟨fun k i j => R k.toNat i.toNat j.toNat, fun k => dA (qE (aiE a b col) (ppE a b t col n) m) k.toNat, ?_, rfl, ?_, ?_, ?_, ?_, ?_, ?_⟩
  · intro i j i0 i1 j0 j1
    show R 0 i.toNat j.toNat = _
    rw [r0]
  · intro k k0 k1
    have := r2 k.toNat (by omega)
    show 1 ≤ dA (qE (aiE a b col) (ppE a b t col n) m) k.toNat ∧ dA (qE (aiE a b col) (ppE a b t col n) m) k.toNat ≤ 30000
    omega
  · intro k k0 k1
    have := (r1 k.toNat (by omega)).1
    have e : (k + 1).toNat = k.toNat + 1 := by omega
    show R k.toNat k.toNat k.toNat = dA (qE (aiE a b col) (ppE a b t col n) m) (k + 1).toNat
    rw [e]
    exact this
  · intro k j k0 k1 j0
    have e : (k + 1).toNat = k.toNat + 1 := by omega
    show R (k + 1).toNat k.toNat j.toNat = R k.toNat k.toNat j.toNat
    rw [e]
    exact (r1 k.toNat (by omega)).2.1 j.toNat
  · intro k i j k0 k1 i0 i1 ne j0
    have e : (k + 1).toNat = k.toNat + 1 := by omega
    have p := (r2 k.toNat (by omega)).1
    show (R k.toNat k.toNat k.toNat * R k.toNat i.toNat j.toNat - R k.toNat i.toNat k.toNat * R k.toNat k.toNat j.toNat).tdiv (dA (qE (aiE a b col) (ppE a b t col n) m) k.toNat) = R (k + 1).toNat i.toNat j.toNat
    rw [(r1 k.toNat (by omega)).2.2 i.toNat j.toNat (by omega) (by omega), e]
    exact Int.mul_tdiv_cancel_left _ (by omega)
  · intro k i j k0 k1 i0 i1 j0 j1
    have := bd k.toNat (by omega) i.toNat j.toNat (by omega)
    exact ⟨fun hj => this.1 (by omega), this.2⟩
  · intro F hF k k0 k1 ck
    have := gs_sol h (r2 n (Nat.le_refl _)).2.2 k0 k1 ck
    have en : ((n : Int)).toNat = n := Int.toNat_natCast n
    show eqS a b t F m (dA (qE (aiE a b col) (ppE a b t col n) m) ((n : Int)).toNat) k = 0
    rw [en]
    rw [← this]
    unfold eqS
    have ff : ∀ j, 0 ≤ j → j < 14 → F j = fN col (fun c => R n c n) j := fun j j0 j1 => by
      rw [hF j j0 j1]
      unfold fN
      have := h.2.2.1 j j0 j1
      show (if col j = -4 then 0 else R ((n : Int)).toNat (col j).toNat ((n : Int)).toNat) = _
      rw [en]
      by_cases c : col j = -4
      · rw [if_pos c, if_neg (by omega)]
      · rw [if_neg c, if_pos (by omega)]
    refine sm_cg _ (fun e he => ?_)
    have y := h.1.2 (e : Int) (by omega) (by omega)
    show (if a e = k ∨ b e = k then _ - F (a e) - F (b e) else 0) = _
    rw [ff (a e) (by omega) (by omega), ff (b e) (by omega) (by omega)]
theorem cm_lt {pr : Int → Prop} [DecidablePred pr] {Z : Int → Int} {k : Int} (hk : ¬ pr k) : ∀ m : Nat, 0 ≤ k → k < (m : Int) → (cmN pr Z (m : Int)).2 ≤ (m : Int) - 1
  | 0, a, b => absurd b (by omega)
  | m + 1, a, b => by
    have e : ((m + 1 : Nat) : Int) = (m : Int) + 1 := Int.natCast_succ m
    have es : cmN pr Z ((m : Int) + 1) = cmS pr (m : Int) (cmN pr Z (m : Int)) := itI_succ (by omega)
    rw [e, es]
    have l := (cm_in (pr := pr) (Z := Z) m).1.2
    unfold cmS
    by_cases c : k = (m : Int)
    · rw [if_neg (by rw [← c]; exact hk)]
      show (cmN pr Z (m : Int)).2 ≤ _
      omega
    · have i := cm_lt (Z := Z) hk m a (by omega)
      split
      · show (cmN pr Z (m : Int)).2 + 1 ≤ _
        omega
      · show (cmN pr Z (m : Int)).2 ≤ _
        omega
theorem prC_h {a b Z : Int → Int} {m : Nat} (hab : AB a b (m : Int)) (hZ : ∀ k, 0 ≤ k → k < 14 → Z k = -4) : ∀ k, 0 ≤ k → k < 14 → prC (lbC a b (m : Int) Z) k → En a b (m : Int) k ∧ ¬ prC (lbC a b (m : Int) Z) (lbC a b (m : Int) Z k) := fun k k0 k1 hk => by
  rcases lb_all hab hZ hZ k k0 k1 with l | ⟨en, l, -, l2, -⟩
  · exact absurd l.1 hk.1
  · exact ⟨en, fun z => z.2 l2.1⟩
theorem prM_h {a b Z X : Int → Int} {m : Nat} (hab : AB a b (m : Int)) (hZ : ∀ k, 0 ≤ k → k < 14 → Z k = -4) (hX : ∀ k, 0 ≤ k → k < 14 → X k = -4) {k : Int} (k0 : 0 ≤ k) (k1 : k < 14) (en : En a b (m : Int) k) : ∀ j, 0 ≤ j → j < 14 → prM (lbM a b (m : Int) X) (lbM a b (m : Int) X k) (lbC a b (m : Int) Z k) j → En a b (m : Int) j ∧ ¬ prM (lbM a b (m : Int) X) (lbM a b (m : Int) X k) (lbC a b (m : Int) Z k) (lbC a b (m : Int) Z j) := fun j j0 j1 hj => by
  have lk := lb_all hab hZ hX k k0 k1
  rcases lk with l | ⟨-, l, l1, l2, -⟩
  · exact absurd en l.2.2
  have lj := lb_all hab hZ hX j j0 j1
  have dj : lbM a b (m : Int) X j = lbM a b (m : Int) X k := hj.1
  rcases lj with y | ⟨ej, y, y1, y2, -⟩
  · omega
  refine ⟨ej, fun z => z.2 ?_⟩
  have := y2.2.2.1
  rw [dj, l2.2.2.1] at this
  exact this.symm
theorem cm_R {a b Z Y t col : Int → Int} {m : Nat} {nn : Int} {pr : Int → Prop} [DecidablePred pr] (hab : AB a b (m : Int)) (hZ : ∀ k, 0 ≤ k → k < 14 → Z k = -4) (h : ∀ k, 0 ≤ k → k < 14 → pr k → En a b (m : Int) k ∧ ¬ pr (lbC a b (m : Int) Z k)) (ht : ∀ e, 0 ≤ e → e < (m : Int) → 1 ≤ t e ∧ t e ≤ 95) (hc : col = (cmN pr Y 14).1) (hn : nn = (cmN pr Y 14).2) :
    (0 ≤ nn ∧ nn ≤ 13) ∧ (∀ k, 0 ≤ k → k < 14 → col k = -4 ∨ (0 ≤ col k ∧ col k < nn)) ∧ (∀ j k, 0 ≤ j → j < 14 → 0 ≤ k → k < 14 → 0 ≤ col j → col j = col k → j = k) ∧ (∀ k, 0 ≤ k → k < 14 → (col k = -4 ↔ ¬ pr k)) ∧ ∃ (n : Nat) (R : Int → Int → Int → Int) (A : Int → Int), nn = (n : Int) ∧ TabR a b t col m n R A := by
  have gs := cm_GS (Y := Y) hab hZ h
  rw [← hc, ← hn] at gs
  obtain ⟨i1, i2, i3, i4⟩ := cm_in (pr := pr) (Z := Y) 14
  have e : ((14 : Nat) : Int) = 14 := rfl
  rw [e, ← hn] at i1
  rw [e, ← hn, ← hc] at i2
  have h13 : nn ≤ 13 := by
    have key : ∃ k, 0 ≤ k ∧ k < 14 ∧ ¬ pr k := by
      by_cases c : pr 0
      · have q := h 0 (by decide) (by decide) c
        rcases lb_all hab hZ hZ 0 (by decide) (by decide) with l | ⟨-, l, -⟩
        · exact absurd q.1 l.2.2
        · exact ⟨_, by omega, by omega, q.2⟩
      · exact ⟨0, by decide, by decide, c⟩
    obtain ⟨k, k0, k1, hk⟩ := key
    have := cm_lt (Z := Y) hk 14 k0 k1
    rw [e, ← hn] at this
    omega
  obtain ⟨R, A, hR⟩ := gs_R gs ht
  refine ⟨⟨i1.1, h13⟩, fun k k0 k1 => ?_, gs.2.2.2.1, fun k k0 k1 => ?_, nn.toNat, R, A, by omega, hR⟩
  · rcases i2 k k0 k1 with z | z
    · exact Or.inl z.2
    · exact Or.inr z.2
  · rcases i2 k k0 k1 with z | z
    · exact ⟨fun _ => z.1, fun _ => z.2⟩
    · exact ⟨fun y => by omega, fun y => absurd z.1 y⟩
/-- What the class's solve leaves: F by B solves the sums of every piece, 0 at its least guide. -/
def SolC (a b t C F : Int → Int) (m B : Int) : Prop := (1 ≤ B ∧ B ≤ 30000) ∧ (∀ k, 0 ≤ k → k < 14 → -2234400000 ≤ F k ∧ F k ≤ 2234400000) ∧ (∀ k, 0 ≤ k → k < 14 → (C k = -4 ∨ C k = k) → F k = 0) ∧ (∀ k, 0 ≤ k → k < 14 → ¬ C k = -4 → ¬ C k = k → eqS a b t F m.toNat B k = 0)
/-- The model's fraction of a node is the class's. -/
theorem sol_eq {a b Z X t F G : Int → Int} {m : Nat} {B A k p : Int} (hab : AB a b (m : Int)) (hZ : ∀ k, 0 ≤ k → k < 14 → Z k = -4) (hX : ∀ k, 0 ≤ k → k < 14 → X k = -4) (k0 : 0 ≤ k) (k1 : k < 14) (en : En a b (m : Int) k) (hp : lbC a b m Z k = p)
    (S : SolC a b t (lbC a b m Z) F (m : Int) B) (A0 : 1 ≤ A) (G0 : G p = 0) (hG : ∀ j, 0 ≤ j → j < 14 → lbM a b m X j = lbM a b m X k → ¬ j = p → eqS a b t G m A j = 0) :
    (G k).tdiv ((Int.gcd (G k) A : Nat) : Int) = (F k).tdiv ((Int.gcd (F k) B : Nat) : Int) ∧ A.tdiv ((Int.gcd (G k) A : Nat) : Int) = B.tdiv ((Int.gcd (F k) B : Nat) : Int) := by
  obtain ⟨sB, sb, s0, s1⟩ := S
  have rt := root_1 hab hZ hX k0 k1 en
  have lk := lb_all hab hZ hX k k0 k1
  rcases lk with l | ⟨-, l, l1, l2, -⟩
  · exact absurd en l.2.2
  rw [hp] at l l2
  have pp : lbC a b m Z p = p := l2.1
  have mn : ((m : Int)).toNat = m := Int.toNat_natCast m
  rw [mn] at s1
  have u := gs_un (F1 := G) (F2 := F) (B1 := A) (B2 := B) (t := t) (p := p) hab hZ (by omega) (fun j j0 j1 hj hne => by
    have lj := lb_all hab hZ hX j j0 j1
    rcases lj with y | ⟨ej, y, y1, y2, -⟩
    · omega
    refine ⟨hG j j0 j1 ?_ hne, s1 j j0 j1 (by omega) (by omega)⟩
    have q1 := y2.2.2.2
    have q2 := l2.2.2.2
    rw [hj] at q1
    omega) G0 (s0 p (by omega) (by omega) (Or.inr pp)) pp k k0 k1 hp
  have q := low_eq (n1 := G k) (d1 := A) (n2 := F k) (d2 := B) (by omega) (by omega) (by
    rw [Int.mul_comm (G k) B, u, Int.mul_comm])
  exact q
theorem solve_R {a b Z Y t col : Int → Int} {mm nn : Int} (hab : AB a b mm) (hZ : ∀ k, 0 ≤ k → k < 14 → Z k = -4) (ht : ∀ e, 0 ≤ e → e < mm → 1 ≤ t e ∧ t e ≤ 95) (hc : col = (cmN (prC (lbC a b mm Z)) Y 14).1) (hn : nn = (cmN (prC (lbC a b mm Z)) Y 14).2) :
    (0 ≤ nn ∧ nn ≤ 13) ∧ (∀ k, 0 ≤ k → k < 14 → col k = -4 ∨ (0 ≤ col k ∧ col k < nn)) ∧ (∀ j k, 0 ≤ j → j < 14 → 0 ≤ k → k < 14 → 0 ≤ col j → col j = col k → j = k) ∧ (∀ k, 0 ≤ k → k < 14 → (col k = -4 ↔ ¬ prC (lbC a b mm Z) k)) ∧ ∃ (n : Nat) (R : Int → Int → Int → Int) (A : Int → Int), nn = (n : Int) ∧ TabR a b t col mm.toNat n R A := by
  obtain ⟨m, rfl⟩ : ∃ m : Nat, mm = (m : Int) := ⟨mm.toNat, by have := hab.1; omega⟩
  exact cm_R hab hZ (prC_h hab hZ) ht hc hn
theorem sol_C {a b Z t col F : Int → Int} {mm : Int} {n : Nat} {R : Int → Int → Int → Int} {A : Int → Int} (hT : TabR a b t col mm.toNat n R A) (h1 : ∀ k, 0 ≤ k → k < 14 → col k = -4 ∨ (0 ≤ col k ∧ col k < (n : Int))) (h2 : ∀ k, 0 ≤ k → k < 14 → (col k = -4 ↔ ¬ prC (lbC a b mm Z) k)) (hF : ∀ k, 0 ≤ k → k < 14 → F k = if col k = -4 then 0 else R (n : Int) (col k) (n : Int)) : SolC a b t (lbC a b mm Z) F mm (A (n : Int)) := by
  obtain ⟨-, -, tA, -, -, -, tB, tS⟩ := hT
  refine ⟨tA _ (by omega) (Int.le_refl _), fun k k0 k1 => ?_, fun k k0 k1 c => ?_, fun k k0 k1 c1 c2 => ?_⟩
  · rw [hF k k0 k1]
    rcases h1 k k0 k1 with z | z
    · rw [if_pos z]
      decide
    · rw [if_neg (by omega)]
      exact (tB _ _ _ (by omega) (Int.le_refl _) z.1 z.2 (by omega) (Int.le_refl _)).2
  · rw [hF k k0 k1, if_pos ((h2 k k0 k1).mpr (fun z => c.elim z.1 z.2))]
  · refine tS F hF k k0 k1 ?_
    rcases h1 k k0 k1 with z | z
    · exact absurd ⟨c1, c2⟩ ((h2 k k0 k1).mp z)
    · exact z.1
theorem root_R {a b Z X Y t col : Int → Int} {mm nn k p : Int} (hab : AB a b mm) (hZ : ∀ k, 0 ≤ k → k < 14 → Z k = -4) (hX : ∀ k, 0 ≤ k → k < 14 → X k = -4) (k0 : 0 ≤ k) (k1 : k < 14) (en : En a b mm k) (hp : lbC a b mm Z k = p) (ht : ∀ e, 0 ≤ e → e < mm → 1 ≤ t e ∧ t e ≤ 95) (hc : col = (cmN (prM (lbM a b mm X) (lbM a b mm X k) p) Y 14).1) (hn : nn = (cmN (prM (lbM a b mm X) (lbM a b mm X k) p) Y 14).2) :
    ((6 ≤ p ∧ p < 14) ∧ lbM a b mm X p = lbM a b mm X k ∧ ∀ j, 6 ≤ j → j < 14 → lbM a b mm X j = lbM a b mm X k → p ≤ j) ∧ (∀ e, 0 ≤ e → e < mm → lbM a b mm X (a e) = lbM a b mm X (b e)) ∧
    (0 ≤ nn ∧ nn ≤ 13) ∧ (∀ k, 0 ≤ k → k < 14 → col k = -4 ∨ (0 ≤ col k ∧ col k < nn)) ∧ (∀ j k, 0 ≤ j → j < 14 → 0 ≤ k → k < 14 → 0 ≤ col j → col j = col k → j = k) ∧ (∀ j, 0 ≤ j → j < 14 → (col j = -4 ↔ ¬ (lbM a b mm X j = lbM a b mm X k ∧ ¬ j = p))) ∧ ∃ (n : Nat) (R : Int → Int → Int → Int) (A : Int → Int), nn = (n : Int) ∧ TabR a b t col mm.toNat n R A := by
  obtain ⟨m, rfl⟩ : ∃ m : Nat, mm = (m : Int) := ⟨mm.toNat, by have := hab.1; omega⟩
  subst hp
  exact ⟨root_1 hab hZ hX k0 k1 en, fun e e0 e1 => rd_same hab.1.1 (fun e e0 e1 => by have := hab.2 e e0 e1; omega) e0 e1, cm_R hab hZ (prM_h hab hZ hX k0 k1 en) ht hc hn⟩
theorem sol_M {a b Z X t col F G : Int → Int} {mm k p B : Int} {n : Nat} {R : Int → Int → Int → Int} {A : Int → Int} (hab : AB a b mm) (hZ : ∀ k, 0 ≤ k → k < 14 → Z k = -4) (hX : ∀ k, 0 ≤ k → k < 14 → X k = -4) (k0 : 0 ≤ k) (k1 : k < 14) (en : En a b mm k) (hp : lbC a b mm Z k = p) (S : SolC a b t (lbC a b mm Z) F mm B) (hT : TabR a b t col mm.toNat n R A) (h1 : ∀ k, 0 ≤ k → k < 14 → col k = -4 ∨ (0 ≤ col k ∧ col k < (n : Int))) (h2 : ∀ j, 0 ≤ j → j < 14 → (col j = -4 ↔ ¬ (lbM a b mm X j = lbM a b mm X k ∧ ¬ j = p))) (hG : ∀ k, 0 ≤ k → k < 14 → G k = if col k = -4 then 0 else R (n : Int) (col k) (n : Int)) :
    (G k).tdiv ((Int.gcd (G k) (A (n : Int)) : Nat) : Int) = (F k).tdiv ((Int.gcd (F k) B : Nat) : Int) ∧ (A (n : Int)).tdiv ((Int.gcd (G k) (A (n : Int)) : Nat) : Int) = B.tdiv ((Int.gcd (F k) B : Nat) : Int) := by
  obtain ⟨m, rfl⟩ : ∃ m : Nat, mm = (m : Int) := ⟨mm.toNat, by have := hab.1; omega⟩
  obtain ⟨-, -, tA, -, -, -, tB, tS⟩ := hT
  have lk := lb_all hab hZ hX k k0 k1
  rcases lk with l | ⟨-, l, l1, l2, -⟩
  · exact absurd en l.2.2
  refine sol_eq hab hZ hX k0 k1 en hp S (tA _ (by omega) (Int.le_refl _)).1 ?_ (fun j j0 j1 dj ne => ?_)
  · rw [hG p (by omega) (by omega), if_pos ((h2 p (by omega) (by omega)).mpr (fun z => z.2 rfl))]
  · refine tS G hG j j0 j1 ?_
    rcases h1 j j0 j1 with z | z
    · exact absurd ⟨dj, ne⟩ ((h2 j j0 j1).mp z)
    · exact z.1
theorem sol_0 {a b t C F : Int → Int} {m B k : Int} (S : SolC a b t C F m B) (k0 : 0 ≤ k) (k1 : k < 14) (h : C k = k) : (F k).tdiv ((Int.gcd (F k) B : Nat) : Int) = 0 ∧ B.tdiv ((Int.gcd (F k) B : Nat) : Int) = 1 := by
  rw [S.2.2.1 k k0 k1 (Or.inr h), Int.zero_tdiv, Int.gcd_zero_left]
  have := S.1
  have e : ((B.natAbs : Nat) : Int) = B := by omega
  rw [e]
  exact ⟨rfl, Int.tdiv_self (by omega)⟩
