/-! ===== near: where ropes are ===== -/
def SB (X : DX) (P : Int) (D : DD) : Prop := ∀ r, 0 ≤ r → r < X.n → D.rp r 6 = -4 ∨ (0 ≤ D.rp r 6 ∧ D.rp r 6 < P)
def XP (X : DX) (P : Int) : Prop := ∀ r, 0 ≤ r → r < X.n → ∀ i, 0 ≤ i → i < X.si (X.rt r) → (0 ≤ X.fr (X.ro (X.rt r) i) ∧ X.fr (X.ro (X.rt r) i) < P) ∧ (0 ≤ X.to_ (X.ro (X.rt r) i) ∧ X.to_ (X.ro (X.rt r) i) < P)
theorem sb_come {X : DX} {P : Int} {D : DD} {r p : Int} (h : SB X P D) (hp : 0 ≤ p ∧ p < P) : SB X P (comeD r p D) := by
  intro y y0 y1
  show up2 (up2 D.rp r 4 (-4)) r 6 p y 6 = -4 ∨ (0 ≤ up2 (up2 D.rp r 4 (-4)) r 6 p y 6 ∧ up2 (up2 D.rp r 4 (-4)) r 6 p y 6 < P)
  by_cases e : y = r
  · rw [e, up2_c]
    exact Or.inr hp
  · rw [up2_a e, up2_a e]
    exact h y y0 y1
theorem wa_6 {X : DX} {D : DD} {r q y : Int} : (waD X r q D).2.rp y 6 = D.rp y 6 := by
  have f : ∀ D : DD, (finD X r q D).rp y 6 = D.rp y 6 := fun D => by
    show up2 (up2 D.rp r 8 q) r 11 (bdD X r D) y 6 = _
    rw [up2_b (by decide), up2_b (by decide)]
  unfold waD
  split
  · exact f D
  · split
    · rw [f]
      show up2 D.rp r 9 1 y 6 = _
      rw [up2_b (by decide)]
    · split
      · show up2 D.rp r 10 _ y 6 = _
        rw [up2_b (by decide)]
      · show up2 (up2 D.rp r 4 _) r 5 _ y 6 = _
        rw [up2_b (by decide), up2_b (by decide)]
theorem lg_6 {X : DX} {q y : Int} {D : DD} : ∀ k : Nat, (lgN X q D (k : Int)).2.rp y 6 = D.rp y 6
  | 0 => rfl
  | k + 1 => by
    have e : ((k + 1 : Nat) : Int) = (k : Int) + 1 := by omega
    have ih := lg_6 (X := X) (q := q) (D := D) (y := y) k
    rw [e, lgN_s (by omega)]
    have w := wa_6 (X := X) (D := (lgN X q D (k : Int)).2) (q := q) (r := (lgN X q D (k : Int)).2.qu (k : Int)) (y := y)
    unfold lgS
    simp only []
    split
    · exact w.trans ih
    · exact w.trans ih
theorem sb_lc {X : DX} {P q : Int} {D : DD} (hX : XOK X) (hP : XP X P) (hD : dOK X D) (h : SB X P D) : ∀ k : Nat, (k : Int) ≤ X.n → SB X P (lcN X q D (k : Int))
  | 0, _ => h
  | k + 1, hk => by
    have e : ((k + 1 : Nat) : Int) = (k : Int) + 1 := by omega
    have ih := sb_lc (q := q) hX hP hD h k (by omega)
    have ok := ok_lcI (q := q) hX hD (i := (k : Int)) ⟨by omega, by omega⟩
    have xr := hX.2 (k : Int) (by omega) (by omega)
    rw [e, lcN_s (by omega)]
    unfold lcS
    split
    · exact sb_come ih (hP (k : Int) (by omega) (by omega) 0 (by omega) (by omega)).1
    · split
      · rename_i h4
        obtain ⟨k1, k2⟩ := ok.2.2 (k : Int) (by omega) (by omega)
        rcases k2 with z | ⟨z, z2⟩
        · exact absurd z h4.1
        · have pp := (hP (k : Int) (by omega) (by omega) _ k1.1 z2).2
          rw [← z] at pp
          refine sb_come (D := (mkD (up2 (lcN X q D (k : Int)).rp (k : Int) 7 (w32 ((lcN X q D (k : Int)).rp (k : Int) 7 + 1))) ((lcN X q D (k : Int)).ta) ((lcN X q D (k : Int)).ly) ((lcN X q D (k : Int)).ar) ((lcN X q D (k : Int)).qu) ((lcN X q D (k : Int)).qn) ((lcN X q D (k : Int)).sn))) (fun y y0 y1 => ?_) pp
          show up2 (lcN X q D (k : Int)).rp (k : Int) 7 _ y 6 = -4 ∨ (0 ≤ up2 (lcN X q D (k : Int)).rp (k : Int) 7 _ y 6 ∧ up2 (lcN X q D (k : Int)).rp (k : Int) 7 _ y 6 < P)
          rw [up2_b (by decide)]
          exact ih y y0 y1
      · exact ih
theorem sb_qu {X : DX} {P q : Int} {D : DD} (hX : XOK X) (hP : XP X P) (hD : dOK X D) (h : SB X P D) : SB X P (quD X q D) := by
  have n1 := hX.1
  have en : ((X.n.toNat : Nat) : Int) = X.n := Int.toNat_of_nonneg n1.1
  have hl := ok_lcI (q := q) hX hD ⟨n1.1, Int.le_refl _⟩
  have e2 : ((((lcN X q D X.n).qn).toNat : Nat) : Int) = (lcN X q D X.n).qn := Int.toNat_of_nonneg hl.1.1
  have a := sb_lc (q := q) hX hP hD h X.n.toNat (by omega)
  rw [en] at a
  intro y y0 y1
  have er : (quD X q D).rp = (lgD X q (lcN X q D X.n)).rp := by
    unfold quD
    rw [lk_eqI n1.1, mk_rp]
  have g := lg_6 (X := X) (q := q) (y := y) (D := lcN X q D X.n) ((lcN X q D X.n).qn).toNat
  rw [e2] at g
  rw [er]
  show (lgN X q (lcN X q D X.n) (lcN X q D X.n).qn).2.rp y 6 = -4 ∨ (0 ≤ (lgN X q (lcN X q D X.n) (lcN X q D X.n).qn).2.rp y 6 ∧ (lgN X q (lcN X q D X.n) (lcN X q D X.n).qn).2.rp y 6 < P)
  rw [g]
  exact a y y0 y1
theorem sb_dy {X : DX} {P : Int} {D : DD} (hX : XOK X) (hP : XP X P) : ∀ k : Nat, SB X P (dyN X D (k : Int))
  | 0 => by
    have n1 := hX.1
    have r1 := rs_in (D := (mkD ((itI zeD D 12).rp) ((itI zeD D 12).ta) ((itI zeD D 12).ly) ((itI zeD D 12).ar) ((itI zeD D 12).qu) 0 ((itI zeD D 12).sn))) X.n.toNat
    rw [Int.toNat_of_nonneg n1.1] at r1
    intro y y0 y1
    exact Or.inl (r1 y y0 y1).1.2.2.1
  | k + 1 => by
    have e : ((k + 1 : Nat) : Int) = (k : Int) + 1 := by omega
    rw [e, dyN_s (by omega)]
    exact sb_qu hX hP (ok_dyN hX k) (sb_dy hX hP k)
/-- the nearest of a row -/
def nbS (V : Int → Int) (n5 : Int) : Int → Int × Int → Int × Int := fun i x => if ¬ V i = -4 ∧ V i < x.1 then (V i, if i < n5 then i else 100 + (i - n5)) else x
def nbN (V : Int → Int) (n5 i0 : Int) : Int → Int × Int := itI (nbS V n5) (i0, -4)
theorem nbN_s {V : Int → Int} {n5 i0 n : Int} (h : 0 ≤ n) : nbN V n5 i0 (n + 1) = nbS V n5 n (nbN V n5 i0 n) := itI_succ h
theorem nbN_a {V : Int → Int} {n5 i0 n : Int} (h : 0 ≤ n) (c : ¬ (¬ V n = -4 ∧ V n < (nbN V n5 i0 n).1)) : nbN V n5 i0 (n + 1) = nbN V n5 i0 n := (nbN_s h).trans (if_neg c)
theorem nbN_b {V : Int → Int} {n5 i0 n : Int} (h : 0 ≤ n) (c : ¬ V n = -4 ∧ V n < (nbN V n5 i0 n).1) : nbN V n5 i0 (n + 1) = (V n, if n < n5 then n else 100 + (n - n5)) := (nbN_s h).trans (if_pos c)
theorem nb_in {V : Int → Int} {n5 i0 m : Int} (h0 : 0 ≤ n5 ∧ n5 ≤ 8) (hm : m ≤ 16) (hi : 0 ≤ i0 ∧ i0 ≤ 1000) (hV : ∀ i, 0 ≤ i → i < m → V i = -4 ∨ (0 ≤ V i ∧ V i < 96)) : ∀ k : Nat, (k : Int) ≤ m → (0 ≤ (nbN V n5 i0 (k : Int)).1 ∧ (nbN V n5 i0 (k : Int)).1 ≤ 1000) ∧ (-4 ≤ (nbN V n5 i0 (k : Int)).2 ∧ (nbN V n5 i0 (k : Int)).2 ≤ 200)
  | 0, _ => ⟨hi, by show -4 ≤ (-4 : Int) ∧ (-4 : Int) ≤ 200; omega⟩
  | k + 1, hk => by
    have e : ((k + 1 : Nat) : Int) = (k : Int) + 1 := by omega
    have ih := nb_in (n5 := n5) h0 hm hi hV k (by omega)
    have v := hV (k : Int) (by omega) (by omega)
    rw [e]
    by_cases c : ¬ V (k : Int) = -4 ∧ V (k : Int) < (nbN V n5 i0 (k : Int)).1
    · rw [nbN_b (by omega) c]
      refine ⟨by show 0 ≤ V (k : Int) ∧ V (k : Int) ≤ 1000; omega, ?_⟩
      show -4 ≤ (if (k : Int) < n5 then (k : Int) else 100 + ((k : Int) - n5)) ∧ (if (k : Int) < n5 then (k : Int) else 100 + ((k : Int) - n5)) ≤ 200
      split <;> omega
    · rw [nbN_a (by omega) c]
      exact ih
theorem nb_two {V : Int → Int} {n5 m : Int} (h0 : 0 ≤ n5) (hV : ∀ i, 0 ≤ i → i < m → V i = -4 ∨ (0 ≤ V i ∧ V i < 96)) : ∀ k : Nat, (k : Int) ≤ m → (nbN V n5 96 (k : Int)).2 = (nbN V n5 1000 (k : Int)).2 ∧ (((nbN V n5 96 (k : Int)).2 = -4 ∧ (nbN V n5 96 (k : Int)).1 = 96 ∧ (nbN V n5 1000 (k : Int)).1 = 1000) ∨ (¬ (nbN V n5 96 (k : Int)).2 = -4 ∧ (nbN V n5 96 (k : Int)).1 = (nbN V n5 1000 (k : Int)).1 ∧ (nbN V n5 96 (k : Int)).1 < 96))
  | 0, _ => ⟨rfl, Or.inl ⟨rfl, rfl, rfl⟩⟩
  | k + 1, hk => by
    have e : ((k + 1 : Nat) : Int) = (k : Int) + 1 := by omega
    obtain ⟨h1, h2⟩ := nb_two h0 hV k (by omega)
    have v := hV (k : Int) (by omega) (by omega)
    rw [e]
    by_cases c : ¬ V (k : Int) = -4 ∧ V (k : Int) < (nbN V n5 96 (k : Int)).1
    · have c2 : ¬ V (k : Int) = -4 ∧ V (k : Int) < (nbN V n5 1000 (k : Int)).1 := by omega
      rw [nbN_b (by omega) c, nbN_b (by omega) c2]
      refine ⟨rfl, Or.inr ⟨?_, rfl, by show V (k : Int) < 96; omega⟩⟩
      show ¬ (if (k : Int) < n5 then (k : Int) else 100 + ((k : Int) - n5)) = -4
      split <;> omega
    · have c2 : ¬ (¬ V (k : Int) = -4 ∧ V (k : Int) < (nbN V n5 1000 (k : Int)).1) := by omega
      rw [nbN_a (by omega) c, nbN_a (by omega) c2]
      exact ⟨h1, h2⟩
