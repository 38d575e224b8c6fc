/-! ===== the ways: what both sides work out ===== -/
def updI (R : Int → Int) (a v : Int) : Int → Int := fun p => if p = a then v else R p
def nrS (R L : Int → Int) : Int → Int × Int → Int × Int := fun p w => if L p = 0 ∧ R p < w.2 then (p, R p) else w
def nrA (R L : Int → Int) (n : Int) : Int × Int := itI (nrS R L) (-4, 96) n
theorem nrA_s {R L : Int → Int} {n : Int} (h : 0 ≤ n) : nrA R L (n + 1) = nrS R L n (nrA R L n) := itI_succ h
def nrP (R L : Int → Int) (n : Int) (w : Int × Int) : Prop :=
  ((w.1 = -4 ∧ w.2 = 96) ∧ ∀ p, 0 ≤ p → p < n → L p = 0 → 96 ≤ R p) ∨ ((0 ≤ w.1 ∧ w.1 < n ∧ L w.1 = 0 ∧ R w.1 = w.2 ∧ w.2 < 96) ∧ ∀ p, 0 ≤ p → p < n → L p = 0 → w.2 ≤ R p)
theorem nrA_sp {R L : Int → Int} : ∀ k : Nat, nrP R L (k : Int) (nrA R L (k : Int))
  | 0 => Or.inl ⟨⟨rfl, rfl⟩, fun p a b => by omega⟩
  | k + 1 => by
    have ih := nrA_sp (R := R) (L := L) k
    have e : ((k + 1 : Nat) : Int) = (k : Int) + 1 := by omega
    rw [e, nrA_s (by omega)]
    generalize nrA R L (k : Int) = w at ih
    unfold nrS
    by_cases h : L (k : Int) = 0 ∧ R (k : Int) < w.2
    · rw [if_pos h]
      refine Or.inr ⟨⟨by omega, by simp only []; omega, h.1, rfl, ?_⟩, fun p p0 p1 pl => ?_⟩
      · rcases ih with ⟨⟨a, b⟩, -⟩ | ⟨⟨a, b, c, d, e⟩, -⟩ <;> (simp only []; omega)
      · by_cases q : p = (k : Int)
        · rw [q]; exact Int.le_refl _
        · rcases ih with ⟨⟨a, b⟩, c⟩ | ⟨-, c⟩
          · have := c p p0 (by omega) pl
            simp only []; omega
          · have := c p p0 (by omega) pl
            simp only []; omega
    · rw [if_neg h]
      rcases ih with ⟨a, c⟩ | ⟨⟨a, b, c, d, e⟩, f⟩
      · refine Or.inl ⟨a, fun p p0 p1 pl => ?_⟩
        by_cases q : p = (k : Int)
        · rw [q] at pl ⊢; omega
        · exact c p p0 (by omega) pl
      · refine Or.inr ⟨⟨a, by omega, c, d, e⟩, fun p p0 p1 pl => ?_⟩
        by_cases q : p = (k : Int)
        · rw [q] at pl ⊢; omega
        · exact f p p0 (by omega) pl
theorem nrA_spI {R L : Int → Int} {n : Int} (h : 0 ≤ n) : nrP R L n (nrA R L n) := by
  have := nrA_sp (R := R) (L := L) n.toNat
  rw [Int.toNat_of_nonneg h] at this
  exact this
theorem nrA_congr {R L R1 L1 : Int → Int} : ∀ (k : Nat), (∀ p, 0 ≤ p → p < (k : Int) → R1 p = R p ∧ L1 p = L p) → nrA R1 L1 (k : Int) = nrA R L (k : Int)
  | 0, _ => rfl
  | k + 1, h => by
    have e : ((k + 1 : Nat) : Int) = (k : Int) + 1 := by omega
    rw [e, nrA_s (by omega), nrA_s (by omega), nrA_congr k (fun p a b => h p a (by omega))]
    unfold nrS
    rw [(h k (by omega) (by omega)).1, (h k (by omega) (by omega)).2]
theorem nrA_congrI {R L R1 L1 : Int → Int} {n : Int} (hn : 0 ≤ n) (h : ∀ p, 0 ≤ p → p < n → R1 p = R p ∧ L1 p = L p) : nrA R1 L1 n = nrA R L n := by
  have := nrA_congr (R := R) (L := L) (R1 := R1) (L1 := L1) n.toNat (fun p a b => h p a (by omega))
  rw [Int.toNat_of_nonneg hn] at this
  exact this
def lvS (M : Mem) (s b : Int) : Int → (Int → Int) → (Int → Int) := fun k R => if M 15 0 k = b ∧ ¬ tk M k s (R b) = -5 then updI R (M 16 0 k) (min (R (M 16 0 k)) (R b + tk M k s (R b))) else R
def lvA (M : Mem) (s b : Int) (R : Int → Int) (n : Int) : Int → Int := itI (lvS M s b) R n
theorem lvA_s {M : Mem} {s b : Int} {R : Int → Int} {n : Int} (h : 0 ≤ n) : lvA M s b R (n + 1) = lvS M s b n (lvA M s b R n) := itI_succ h
/-- from a place that is left at R b no place is reached sooner than one quarter behind -/
theorem lvA_sp {M : Mem} {s b : Int} {R : Int → Int} (hS : IStp M) (h2 : 0 ≤ s) (h3 : s ≤ 9) (hb : 0 ≤ R b) : ∀ k : Nat, (k : Int) ≤ M 1 0 2 → lvA M s b R (k : Int) b = R b ∧ ∀ p, lvA M s b R (k : Int) p ≤ R p ∧ (lvA M s b R (k : Int) p = R p ∨ R b + 1 ≤ lvA M s b R (k : Int) p)
  | 0, _ => ⟨rfl, fun p => ⟨Int.le_refl _, Or.inl rfl⟩⟩
  | k + 1, hk => by
    obtain ⟨i1, i2⟩ := lvA_sp (R := R) (b := b) hS h2 h3 hb k (by omega)
    have e : ((k + 1 : Nat) : Int) = (k : Int) + 1 := by omega
    rw [e, lvA_s (by omega)]
    generalize lvA M s b R (k : Int) = R1 at i1 i2
    unfold lvS
    by_cases h : M 15 0 (k : Int) = b ∧ ¬ tk M k s (R1 b) = -5
    · rw [if_pos h]
      have t := tk_in (q := R1 b) hS (show 0 ≤ (k : Int) by omega) (by omega) h2 h3
      refine ⟨?_, fun p => ?_⟩
      · unfold updI
        split
        · rename_i q
          rw [← q]; omega
        · exact i1
      · have := i2 p
        unfold updI
        split
        · rename_i q
          rw [← q]; omega
        · exact this
    · rw [if_neg h]
      exact ⟨i1, i2⟩
theorem lvA_spI {M : Mem} {s b n : Int} {R : Int → Int} (hS : IStp M) (h2 : 0 ≤ s) (h3 : s ≤ 9) (hb : 0 ≤ R b) (h0 : 0 ≤ n) (h1 : n ≤ M 1 0 2) : lvA M s b R n b = R b ∧ ∀ p, lvA M s b R n p ≤ R p ∧ (lvA M s b R n p = R p ∨ R b + 1 ≤ lvA M s b R n p) := by
  have := lvA_sp (R := R) (b := b) hS h2 h3 hb n.toNat (by omega)
  rw [Int.toNat_of_nonneg h0] at this
  exact this
abbrev WS : Type := (Int → Int) × (Int → Int)
def wyS (M : Mem) (s : Int) : Int → WS → WS := fun _ x => let w := (nrA x.1 x.2 (M 1 0 0)).1; if w = -4 then x else (lvA M s w x.1 (M 1 0 2), updI x.2 w 1)
def wyA (M : Mem) (b s q : Int) (n : Int) : WS := itI (wyS M s) (updI (fun _ => 96) b q, fun _ => 0) n
theorem wyA_s {M : Mem} {b s q n : Int} (h : 0 ≤ n) : wyA M b s q (n + 1) = wyS M s n (wyA M b s q n) := itI_succ h
def wy (M : Mem) (b g s q : Int) : Int := if (wyA M b s q (M 1 0 0)).1 g < 96 then (wyA M b s q (M 1 0 0)).1 g else -4
theorem wyS_a {M : Mem} {s n : Int} {x : WS} (h : (nrA x.1 x.2 (M 1 0 0)).1 = -4) : wyS M s n x = x := by
  unfold wyS
  simp only [h, if_true]
theorem wyS_b {M : Mem} {s n : Int} {x : WS} (h : ¬ (nrA x.1 x.2 (M 1 0 0)).1 = -4) : wyS M s n x = (lvA M s (nrA x.1 x.2 (M 1 0 0)).1 x.1 (M 1 0 2), updI x.2 (nrA x.1 x.2 (M 1 0 0)).1 1) := by
  unfold wyS
  simp only [h, if_false]
theorem wyA_in {M : Mem} {b s q : Int} (hN : 0 ≤ M 1 0 0) (hS : IStp M) (h2 : 0 ≤ s) (h3 : s ≤ 9) (hq : 0 ≤ q ∧ q ≤ 95) : ∀ k : Nat, ∀ p, 0 ≤ (wyA M b s q (k : Int)).1 p ∧ (wyA M b s q (k : Int)).1 p ≤ 96
  | 0, p => by
    show 0 ≤ (if p = b then q else 96) ∧ (if p = b then q else 96) ≤ 96
    split <;> omega
  | k + 1, p => by
    have ih := wyA_in (b := b) hN hS h2 h3 hq k
    have e : ((k + 1 : Nat) : Int) = (k : Int) + 1 := by omega
    rw [e, wyA_s (by omega)]
    generalize wyA M b s q (k : Int) = x at ih
    by_cases h : (nrA x.1 x.2 (M 1 0 0)).1 = -4
    · rw [wyS_a h]
      exact ih p
    · rw [wyS_b h]
      have a := lvA_spI (b := (nrA x.1 x.2 (M 1 0 0)).1) (R := x.1) hS h2 h3 (ih _).1 hS.2.2.1.1 (Int.le_refl _)
      have c := a.2 p
      have d := ih p
      have f := ih (nrA x.1 x.2 (M 1 0 0)).1
      simp only []
      omega
theorem wyA_inI {M : Mem} {b s q t : Int} (hN : 0 ≤ M 1 0 0) (hS : IStp M) (h2 : 0 ≤ s) (h3 : s ≤ 9) (hq : 0 ≤ q ∧ q ≤ 95) (ht : 0 ≤ t) (p : Int) : 0 ≤ (wyA M b s q t).1 p ∧ (wyA M b s q t).1 p ≤ 96 := by
  have := wyA_in (b := b) hN hS h2 h3 hq t.toNat p
  rw [Int.toNat_of_nonneg ht] at this
  exact this
/-- nothing more to leave -/
theorem wyA_end {M : Mem} {b s q t : Int} (ht : 0 ≤ t) (h : (nrA (wyA M b s q t).1 (wyA M b s q t).2 (M 1 0 0)).1 = -4) : ∀ k : Nat, wyA M b s q (t + (k : Int)) = wyA M b s q t
  | 0 => by simp
  | k + 1 => by
    have e : t + ((k + 1 : Nat) : Int) = t + (k : Int) + 1 := by omega
    rw [e, wyA_s (by omega), wyA_end ht h k, wyS_a h]
/-- the goal is the next one: its time stays -/
theorem wyA_goal {M : Mem} {b s q t g : Int} (hN : 0 ≤ M 1 0 0) (hS : IStp M) (h2 : 0 ≤ s) (h3 : s ≤ 9) (hq : 0 ≤ q ∧ q ≤ 95) (ht : 0 ≤ t) (h : (nrA (wyA M b s q t).1 (wyA M b s q t).2 (M 1 0 0)).1 = g) (hg : ¬ g = -4) : ∀ k : Nat, (wyA M b s q (t + (k : Int))).1 g = (wyA M b s q t).1 g ∧ ∀ p, 0 ≤ p → p < M 1 0 0 → (wyA M b s q (t + (k : Int))).2 p = 0 → (wyA M b s q t).1 g ≤ (wyA M b s q (t + (k : Int))).1 p
  | 0 => by
    have n := nrA_spI (R := (wyA M b s q t).1) (L := (wyA M b s q t).2) hN
    simp only [Int.add_zero, Int.natCast_zero, true_and]
    rcases n with ⟨⟨a, -⟩, -⟩ | ⟨⟨a, c, d, e, f⟩, n⟩
    · exact absurd (h.symm.trans a) hg
    · intro p p0 p1 pl
      have := n p p0 p1 pl
      rw [h] at e
      omega
  | k + 1 => by
    obtain ⟨i1, i2⟩ := wyA_goal hN hS h2 h3 hq ht h hg k
    have hin := wyA_inI (b := b) hN hS h2 h3 hq (show 0 ≤ t + (k : Int) by omega)
    have e : t + ((k + 1 : Nat) : Int) = t + (k : Int) + 1 := by omega
    rw [e, wyA_s (by omega)]
    generalize wyA M b s q (t + (k : Int)) = x at i1 i2 hin
    generalize (wyA M b s q t).1 g = d at i1 i2
    by_cases hw : (nrA x.1 x.2 (M 1 0 0)).1 = -4
    · rw [wyS_a hw]
      exact ⟨i1, i2⟩
    · rw [wyS_b hw]
      have n := nrA_spI (R := x.1) (L := x.2) hN
      rcases n with ⟨⟨a, -⟩, -⟩ | ⟨⟨a, c, d1, e, f⟩, n⟩
      · exact absurd a hw
      · generalize (nrA x.1 x.2 (M 1 0 0)).1 = w at a c d1 e hw
        have l := lvA_spI (b := w) (R := x.1) hS h2 h3 (hin w).1 hS.2.2.1.1 (Int.le_refl _)
        have dw := i2 w a c d1
        refine ⟨?_, fun p p0 p1 pl => ?_⟩
        · have := l.2 g
          simp only []
          omega
        · have := l.2 p
          simp only [] at pl ⊢
          unfold updI at pl
          split at pl
          · omega
          · have := i2 p p0 p1 pl
            omega
theorem tk_mem {M M9 : Mem} (h : ∀ p, p ≠ 28 → p ≠ 29 → p ≠ 81 → p ≠ 82 → M9 p = M p) : tk M9 = tk M := by
  funext k s q
  unfold tk wv
  simp (disch := decide) only [h]
theorem lvA_mem {M M9 : Mem} (h : ∀ p, p ≠ 28 → p ≠ 29 → p ≠ 81 → p ≠ 82 → M9 p = M p) : lvA M9 = lvA M := by
  funext s b R n
  unfold lvA lvS
  rw [tk_mem h]
  simp (disch := decide) only [h]
theorem lvA_congr {M : Mem} {s b n : Int} {R R1 : Int → Int} (hS : IStp M) (hb : 0 ≤ b ∧ b < n) (hn : n = M 1 0 0) (h : ∀ p, 0 ≤ p → p < n → R1 p = R p) : ∀ k : Nat, (k : Int) ≤ M 1 0 2 → ∀ p, 0 ≤ p → p < n → lvA M s b R1 (k : Int) p = lvA M s b R (k : Int) p
  | 0, _, p, p0, p1 => h p p0 p1
  | k + 1, hk, p, p0, p1 => by
    have ih := lvA_congr (s := s) hS hb hn h k (by omega)
    have e : ((k + 1 : Nat) : Int) = (k : Int) + 1 := by omega
    rw [e, lvA_s (by omega), lvA_s (by omega)]
    generalize lvA M s b R1 (k : Int) = A at ih
    generalize lvA M s b R (k : Int) = B at ih
    have s4 := hS.2.2.2 (k : Int) (by omega) (by omega)
    unfold lvS
    rw [ih b hb.1 hb.2, ih (M 16 0 (k : Int)) s4.2.1.1 (by omega)]
    split
    · unfold updI
      split
      · rfl
      · exact ih p p0 p1
    · exact ih p p0 p1
