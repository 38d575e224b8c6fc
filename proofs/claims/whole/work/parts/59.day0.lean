/-! ===== the day: what the class steps ===== -/
abbrev DX : Type := Int × (Int → Int) × (Int → Int) × (Int → Int) × (Int → Int) × (Int → Int) × (Int → Int → Int) × (Int → Int) × (Int → Int) × (Int → Int) × (Int → Int) × (Int → Int → Int → Int) × (Int → Int → Int → Int)
abbrev DD : Type := (Int → Int → Int) × (Int → Int) × (Int → Int) × (Int → Int) × (Int → Int) × Int × (Int → Int → Int)
def DX.n (D : DX) : Int := D.1
def DX.fr (D : DX) : Int → Int := D.2.1
def DX.to_ (D : DX) : Int → Int := D.2.2.1
def DX.nw (D : DX) : Int → Int := D.2.2.2.1
def DX.be (D : DX) : Int → Int := D.2.2.2.2.1
def DX.si (D : DX) : Int → Int := D.2.2.2.2.2.1
def DX.ro (D : DX) : Int → Int → Int := D.2.2.2.2.2.2.1
def DX.rt (D : DX) : Int → Int := D.2.2.2.2.2.2.2.1
def DX.rs (D : DX) : Int → Int := D.2.2.2.2.2.2.2.2.1
def DX.sa (D : DX) : Int → Int := D.2.2.2.2.2.2.2.2.2.1
def DX.pe (D : DX) : Int → Int := D.2.2.2.2.2.2.2.2.2.2.1
def DX.tm (D : DX) : Int → Int → Int → Int := D.2.2.2.2.2.2.2.2.2.2.2.1
def DX.bk (D : DX) : Int → Int → Int → Int := D.2.2.2.2.2.2.2.2.2.2.2.2
def DD.rp (D : DD) : Int → Int → Int := D.1
def DD.ta (D : DD) : Int → Int := D.2.1
def DD.ly (D : DD) : Int → Int := D.2.2.1
def DD.ar (D : DD) : Int → Int := D.2.2.2.1
def DD.qu (D : DD) : Int → Int := D.2.2.2.2.1
def DD.qn (D : DD) : Int := D.2.2.2.2.2.1
def DD.sn (D : DD) : Int → Int → Int := D.2.2.2.2.2.2
def mkD (a : Int → Int → Int) (b c d e : Int → Int) (f : Int) (g : Int → Int → Int) : DD := (a, b, c, d, e, f, g)
theorem mk_rp {a : Int → Int → Int} {b c d e : Int → Int} {f : Int} {g : Int → Int → Int} : (mkD a b c d e f g).rp = a := rfl
theorem mk_ta {a : Int → Int → Int} {b c d e : Int → Int} {f : Int} {g : Int → Int → Int} : (mkD a b c d e f g).ta = b := rfl
theorem mk_ly {a : Int → Int → Int} {b c d e : Int → Int} {f : Int} {g : Int → Int → Int} : (mkD a b c d e f g).ly = c := rfl
theorem mk_ar {a : Int → Int → Int} {b c d e : Int → Int} {f : Int} {g : Int → Int → Int} : (mkD a b c d e f g).ar = d := rfl
theorem mk_qu {a : Int → Int → Int} {b c d e : Int → Int} {f : Int} {g : Int → Int → Int} : (mkD a b c d e f g).qu = e := rfl
theorem mk_qn {a : Int → Int → Int} {b c d e : Int → Int} {f : Int} {g : Int → Int → Int} : (mkD a b c d e f g).qn = f := rfl
theorem mk_sn {a : Int → Int → Int} {b c d e : Int → Int} {f : Int} {g : Int → Int → Int} : (mkD a b c d e f g).sn = g := rfl
def up2 (R : Int → Int → Int) (i j v : Int) : Int → Int → Int := fun a b => if a = i ∧ b = j then v else R a b
def comeD (r p : Int) (D : DD) : DD := (mkD (up2 (up2 D.rp r 4 (-4)) r 6 p) D.ta D.ly (updI D.ar p (w32 (D.ar p + 1))) (if D.qn < 8 then updI D.qu D.qn r else D.qu) (if D.qn < 8 then w32 (D.qn + 1) else D.qn) D.sn)
def lcS (X : DX) (q r : Int) (D : DD) : DD := if X.sa r = q then comeD r (X.fr (X.ro (X.rt r) 0)) D else if ¬ D.rp r 4 = -4 ∧ D.rp r 5 = q then comeD r (X.to_ (D.rp r 4)) (mkD (up2 D.rp r 7 (w32 (D.rp r 7 + 1))) D.ta D.ly D.ar D.qu D.qn D.sn) else D
def lcN (X : DX) (q : Int) (D : DD) : Int → DD := itI (lcS X q) D
def bdD (X : DX) (r : Int) (D : DD) : Int := min (X.pe r) (w32 (X.be (D.rp r 6) - D.ta (D.rp r 6)))
def finD (X : DX) (r q : Int) (D : DD) : DD := (mkD (up2 (up2 D.rp r 8 q) r 11 (bdD X r D)) (updI D.ta (D.rp r 6) (w32 (D.ta (D.rp r 6) + bdD X r D))) (updI D.ly (D.rp r 6) (w32 (D.ly (D.rp r 6) + w32 (X.pe r - bdD X r D)))) D.ar D.qu D.qn D.sn)
def brN (D : DD) (k : Int) : Int → Int := itI (fun r b => if D.rp r 4 = k then 1 else b) 0
def waD (X : DX) (r q : Int) (D : DD) : Int × DD :=
  if X.si (X.rt r) ≤ D.rp r 7 then (0, finD X r q D) else
  if X.tm (X.ro (X.rt r) (D.rp r 7)) (X.rs r) q = -5 ∨ ¬ X.bk (X.rt r) q (X.pe r) = -4 then (0, finD X r q (mkD (up2 D.rp r 9 1) D.ta D.ly D.ar D.qu D.qn D.sn)) else
  if ¬ X.nw (X.ro (X.rt r) (D.rp r 7)) = 0 ∧ brN D (X.ro (X.rt r) (D.rp r 7)) X.n = 1 then (1, (mkD (up2 D.rp r 10 (w32 (D.rp r 10 + 1))) D.ta D.ly D.ar D.qu D.qn D.sn)) else
  (0, (mkD (up2 (up2 D.rp r 4 (X.ro (X.rt r) (D.rp r 7))) r 5 (w32 (q + X.tm (X.ro (X.rt r) (D.rp r 7)) (X.rs r) q))) D.ta D.ly D.ar D.qu D.qn D.sn))
def lgS (X : DX) (q i : Int) (x : Int × DD) : Int × DD := let w := waD X (x.2.qu i) q x.2; if w.1 = 0 then (x.1, w.2) else (x.1 + 1, (mkD ((w.2).rp) ((w.2).ta) ((w.2).ly) ((w.2).ar) (updI w.2.qu x.1 (w.2.qu i)) ((w.2).qn) ((w.2).sn)))
def lgN (X : DX) (q : Int) (D : DD) : Int → Int × DD := itI (lgS X q) (0, D)
def lgD (X : DX) (q : Int) (D : DD) : DD := (mkD (((lgN X q D D.qn).2).rp) (((lgN X q D D.qn).2).ta) (((lgN X q D D.qn).2).ly) (((lgN X q D D.qn).2).ar) (((lgN X q D D.qn).2).qu) ((lgN X q D D.qn).1) (((lgN X q D D.qn).2).sn))
def lkS (q r : Int) (D : DD) : DD := (mkD D.rp D.ta D.ly D.ar D.qu D.qn (up2 D.sn r q (if D.rp r 4 = -4 then D.rp r 6 else w32 (100 + D.rp r 4))))
def lkN (q : Int) (D : DD) : Int → DD := itI (lkS q) D
def quD (X : DX) (q : Int) (D : DD) : DD := lkN q (lgD X q (lcN X q D X.n)) X.n
def rsD (r : Int) (D : DD) : DD := (mkD (up2 (up2 (up2 (up2 (up2 (up2 (up2 (up2 D.rp r 4 (-4)) r 5 (-4)) r 6 (-4)) r 7 0) r 8 (-4)) r 9 0) r 10 0) r 11 0) D.ta D.ly D.ar D.qu D.qn D.sn)
def zeD (p : Int) (D : DD) : DD := (mkD D.rp (updI D.ta p 0) (updI D.ly p 0) (updI D.ar p 0) D.qu D.qn D.sn)
def d0D (X : DX) (D : DD) : DD := itI rsD (mkD ((itI zeD D 12).rp) ((itI zeD D 12).ta) ((itI zeD D 12).ly) ((itI zeD D 12).ar) ((itI zeD D 12).qu) 0 ((itI zeD D 12).sn)) X.n
def dyN (X : DX) (D : DD) : Int → DD := itI (quD X) (d0D X D)
/-- what of the net and the ropes the day needs -/
def XOK (X : DX) : Prop := (0 ≤ X.n ∧ X.n ≤ 8) ∧ ∀ r, 0 ≤ r → r < X.n → (0 ≤ X.rt r ∧ X.rt r < 6) ∧ (0 ≤ X.rs r ∧ X.rs r ≤ 9) ∧ (0 ≤ X.sa r ∧ X.sa r ≤ 95) ∧ (1 ≤ X.pe r ∧ X.pe r ≤ 9) ∧ (1 ≤ X.si (X.rt r) ∧ X.si (X.rt r) ≤ 6) ∧ ∀ i, 0 ≤ i → i < X.si (X.rt r) → (0 ≤ X.ro (X.rt r) i ∧ X.ro (X.rt r) i < 20) ∧ (0 ≤ X.fr (X.ro (X.rt r) i) ∧ X.fr (X.ro (X.rt r) i) < 12) ∧ (0 ≤ X.to_ (X.ro (X.rt r) i) ∧ X.to_ (X.ro (X.rt r) i) < 12)
def dOK (X : DX) (D : DD) : Prop := (0 ≤ D.qn ∧ D.qn ≤ 8) ∧ (∀ i, 0 ≤ i → i < D.qn → (0 ≤ D.qu i ∧ D.qu i < X.n) ∧ (0 ≤ D.rp (D.qu i) 6 ∧ D.rp (D.qu i) 6 < 12)) ∧ ∀ r, 0 ≤ r → r < X.n → (0 ≤ D.rp r 7 ∧ D.rp r 7 ≤ X.si (X.rt r)) ∧ (D.rp r 4 = -4 ∨ (D.rp r 4 = X.ro (X.rt r) (D.rp r 7) ∧ D.rp r 7 < X.si (X.rt r)))
theorem up2_a {R : Int → Int → Int} {i j v a b : Int} (h : a ≠ i) : up2 R i j v a b = R a b := by
  unfold up2
  rw [if_neg (fun q => h q.1)]
theorem up2_b {R : Int → Int → Int} {i j v a b : Int} (h : b ≠ j) : up2 R i j v a b = R a b := by
  unfold up2
  rw [if_neg (fun q => h q.2)]
theorem up2_c {R : Int → Int → Int} {i j v : Int} : up2 R i j v i j = v := by
  unfold up2
  rw [if_pos ⟨rfl, rfl⟩]
theorem ok_come {X : DX} {D : DD} {r p : Int} (h : dOK X D) (hr : 0 ≤ r ∧ r < X.n) (hp : 0 ≤ p ∧ p < 12) : dOK X (comeD r p D) := by
  obtain ⟨h1, h2, h3⟩ := h
  refine ⟨?_, ?_, ?_⟩
  · show 0 ≤ (if D.qn < 8 then w32 (D.qn + 1) else D.qn) ∧ (if D.qn < 8 then w32 (D.qn + 1) else D.qn) ≤ 8
    split
    · rw [w32_e (by omega) (by omega)]
      omega
    · omega
  · show ∀ i, 0 ≤ i → i < (if D.qn < 8 then w32 (D.qn + 1) else D.qn) → (0 ≤ (if D.qn < 8 then updI D.qu D.qn r else D.qu) i ∧ (if D.qn < 8 then updI D.qu D.qn r else D.qu) i < X.n) ∧ (0 ≤ up2 (up2 D.rp r 4 (-4)) r 6 p ((if D.qn < 8 then updI D.qu D.qn r else D.qu) i) 6 ∧ up2 (up2 D.rp r 4 (-4)) r 6 p ((if D.qn < 8 then updI D.qu D.qn r else D.qu) i) 6 < 12)
    have key : ∀ y, (0 ≤ y ∧ y < X.n) → (y ≠ r → 0 ≤ D.rp y 6 ∧ D.rp y 6 < 12) → (0 ≤ y ∧ y < X.n) ∧ (0 ≤ up2 (up2 D.rp r 4 (-4)) r 6 p y 6 ∧ up2 (up2 D.rp r 4 (-4)) r 6 p y 6 < 12) := fun y y0 y1 => by
      refine ⟨y0, ?_⟩
      by_cases e : y = r
      · rw [e, up2_c]
        exact hp
      · rw [up2_a e, up2_a e]
        exact y1 e
    split
    · rw [w32_e (by omega) (by omega)]
      intro i i0 i1
      unfold updI
      by_cases e : i = D.qn
      · rw [if_pos e]
        exact key r hr (fun q => absurd rfl q)
      · rw [if_neg e]
        exact key _ (h2 i i0 (by omega)).1 (fun _ => (h2 i i0 (by omega)).2)
    · intro i i0 i1
      exact key _ (h2 i i0 i1).1 (fun _ => (h2 i i0 i1).2)
  · intro y y0 y1
    show (0 ≤ up2 (up2 D.rp r 4 (-4)) r 6 p y 7 ∧ up2 (up2 D.rp r 4 (-4)) r 6 p y 7 ≤ X.si (X.rt y)) ∧ (up2 (up2 D.rp r 4 (-4)) r 6 p y 4 = -4 ∨ (up2 (up2 D.rp r 4 (-4)) r 6 p y 4 = X.ro (X.rt y) (up2 (up2 D.rp r 4 (-4)) r 6 p y 7) ∧ up2 (up2 D.rp r 4 (-4)) r 6 p y 7 < X.si (X.rt y)))
    rw [up2_b (by decide), up2_b (by decide), up2_b (by decide)]
    by_cases e : y = r
    · rw [e, up2_c]
      rw [e] at y0 y1
      exact ⟨(h3 r y0 y1).1, Or.inl rfl⟩
    · rw [up2_a e]
      exact h3 y y0 y1
/-- another row of ropes, the same where it counts -/
theorem ok_rp {X : DX} {D : DD} {rp : Int → Int → Int} (h : dOK X D) (e4 : ∀ r, 0 ≤ r → r < X.n → rp r 4 = D.rp r 4 ∨ (rp r 4 = X.ro (X.rt r) (D.rp r 7) ∧ D.rp r 7 < X.si (X.rt r))) (e6 : ∀ r, rp r 6 = D.rp r 6) (e7 : ∀ r, rp r 7 = D.rp r 7) : dOK X (mkD rp D.ta D.ly D.ar D.qu D.qn D.sn) := by
  obtain ⟨h1, h2, h3⟩ := h
  refine ⟨h1, fun i i0 i1 => ⟨(h2 i i0 i1).1, ?_⟩, fun r r0 r1 => ⟨?_, ?_⟩⟩
  · show 0 ≤ rp (D.qu i) 6 ∧ rp (D.qu i) 6 < 12
    rw [e6]
    exact (h2 i i0 i1).2
  · show 0 ≤ rp r 7 ∧ rp r 7 ≤ X.si (X.rt r)
    rw [e7]
    exact (h3 r r0 r1).1
  · show rp r 4 = -4 ∨ (rp r 4 = X.ro (X.rt r) (rp r 7) ∧ rp r 7 < X.si (X.rt r))
    rw [e7]
    rcases e4 r r0 r1 with e | e
    · rw [e]
      exact (h3 r r0 r1).2
    · exact Or.inr e
theorem ok_lcS {X : DX} {D : DD} {q r : Int} (hX : XOK X) (h : dOK X D) (hr : 0 ≤ r ∧ r < X.n) : dOK X (lcS X q r D) := by
  obtain ⟨x1, x2, x3, x4, x5, x6⟩ := hX.2 r hr.1 hr.2
  unfold lcS
  split
  · exact ok_come h hr (x6 0 (by omega) (by omega)).2.1
  · split
    · rename_i h4
      have h3 := h.2.2 r hr.1 hr.2
      rcases h3.2 with e | ⟨e, e2⟩
      · exact absurd e h4.1
      · have hp := (x6 (D.rp r 7) h3.1.1 e2).2.2
        rw [← e] at hp
        obtain ⟨k1, k2, k3⟩ := h
        have ew : w32 (D.rp r 7 + 1) = D.rp r 7 + 1 := w32_e (by omega) (by omega)
        refine ⟨?_, ?_, ?_⟩
        · exact (ok_come ⟨k1, k2, k3⟩ hr hp).1
        · intro i i0 i1
          have q1 := (ok_come (p := X.to_ (D.rp r 4)) ⟨k1, k2, k3⟩ hr hp).2.1 i i0 i1
          refine ⟨q1.1, ?_⟩
          have e6 : (comeD r (X.to_ (D.rp r 4)) (mkD (up2 D.rp r 7 (w32 (D.rp r 7 + 1))) D.ta D.ly D.ar D.qu D.qn D.sn)).rp ((comeD r (X.to_ (D.rp r 4)) (mkD (up2 D.rp r 7 (w32 (D.rp r 7 + 1))) D.ta D.ly D.ar D.qu D.qn D.sn)).qu i) 6 = (comeD r (X.to_ (D.rp r 4)) D).rp ((comeD r (X.to_ (D.rp r 4)) D).qu i) 6 := by
            show up2 (up2 (up2 D.rp r 7 (w32 (D.rp r 7 + 1))) r 4 (-4)) r 6 (X.to_ (D.rp r 4)) ((comeD r (X.to_ (D.rp r 4)) D).qu i) 6 = up2 (up2 D.rp r 4 (-4)) r 6 (X.to_ (D.rp r 4)) ((comeD r (X.to_ (D.rp r 4)) D).qu i) 6
            unfold up2
            split
            · rfl
            · rw [if_neg (fun z => absurd z.2 (by decide)), if_neg (fun z => absurd z.2 (by decide)), if_neg (fun z => absurd z.2 (by decide))]
          rw [e6]
          exact q1.2
        · intro y y0 y1
          show (0 ≤ up2 (up2 (up2 D.rp r 7 (w32 (D.rp r 7 + 1))) r 4 (-4)) r 6 (X.to_ (D.rp r 4)) y 7 ∧ up2 (up2 (up2 D.rp r 7 (w32 (D.rp r 7 + 1))) r 4 (-4)) r 6 (X.to_ (D.rp r 4)) y 7 ≤ X.si (X.rt y)) ∧ (up2 (up2 (up2 D.rp r 7 (w32 (D.rp r 7 + 1))) r 4 (-4)) r 6 (X.to_ (D.rp r 4)) y 4 = -4 ∨ (up2 (up2 (up2 D.rp r 7 (w32 (D.rp r 7 + 1))) r 4 (-4)) r 6 (X.to_ (D.rp r 4)) y 4 = X.ro (X.rt y) (up2 (up2 (up2 D.rp r 7 (w32 (D.rp r 7 + 1))) r 4 (-4)) r 6 (X.to_ (D.rp r 4)) y 7) ∧ up2 (up2 (up2 D.rp r 7 (w32 (D.rp r 7 + 1))) r 4 (-4)) r 6 (X.to_ (D.rp r 4)) y 7 < X.si (X.rt y)))
          rw [up2_b (i := r) (j := 6) (by decide), up2_b (i := r) (j := 4) (a := y) (b := 7) (by decide), up2_b (i := r) (j := 6) (b := 4) (by decide)]
          by_cases e9 : y = r
          · rw [e9, up2_c, up2_c, ew]
            exact ⟨by omega, Or.inl rfl⟩
          · rw [up2_a e9, up2_a e9, up2_a e9]
            exact k3 y y0 y1
    · exact h
theorem lcN_s {X : DX} {q : Int} {D : DD} {n : Int} (h : 0 ≤ n) : lcN X q D (n + 1) = lcS X q n (lcN X q D n) := itI_succ h
theorem ok_lcN {X : DX} {D : DD} {q : Int} (hX : XOK X) (h : dOK X D) : ∀ k : Nat, (k : Int) ≤ X.n → dOK X (lcN X q D (k : Int))
  | 0, _ => h
  | k + 1, hk => by
    have e : ((k + 1 : Nat) : Int) = (k : Int) + 1 := by omega
    rw [e, lcN_s (by omega)]
    exact ok_lcS hX (ok_lcN hX h k (by omega)) ⟨by omega, by omega⟩
theorem ok_lcI {X : DX} {D : DD} {q i : Int} (hX : XOK X) (h : dOK X D) (hi : 0 ≤ i ∧ i ≤ X.n) : dOK X (lcN X q D i) := by
  have := ok_lcN (q := q) hX h i.toNat (by omega)
  rw [Int.toNat_of_nonneg hi.1] at this
  exact this
theorem ok_fin {X : DX} {D : DD} {q r : Int} (h : dOK X D) : dOK X (finD X r q D) := by
  have := ok_rp (rp := up2 (up2 D.rp r 8 q) r 11 (bdD X r D)) h (fun y _ _ => Or.inl (by rw [up2_b (by decide), up2_b (by decide)])) (fun y => by rw [up2_b (by decide), up2_b (by decide)]) (fun y => by rw [up2_b (by decide), up2_b (by decide)])
  exact this
theorem ok_wa {X : DX} {D : DD} {q r : Int} (h : dOK X D) (hr : 0 ≤ r ∧ r < X.n) : dOK X (waD X r q D).2 := by
  have h3 := h.2.2 r hr.1 hr.2
  unfold waD
  split
  · exact ok_fin h
  · split
    · exact ok_fin (ok_rp h (fun y _ _ => Or.inl (by rw [up2_b (by decide)])) (fun y => by rw [up2_b (by decide)]) (fun y => by rw [up2_b (by decide)]))
    · split
      · exact ok_rp h (fun y _ _ => Or.inl (by rw [up2_b (by decide)])) (fun y => by rw [up2_b (by decide)]) (fun y => by rw [up2_b (by decide)])
      · refine ok_rp h (fun y _ _ => ?_) (fun y => by rw [up2_b (by decide), up2_b (by decide)]) (fun y => by rw [up2_b (by decide), up2_b (by decide)])
        rw [up2_b (by decide)]
        by_cases e : y = r
        · rw [e, up2_c]
          exact Or.inr ⟨rfl, by omega⟩
        · rw [up2_a e]
          exact Or.inl rfl
theorem wa_qu {X : DX} {D : DD} {q r : Int} : (waD X r q D).2.qu = D.qu ∧ (waD X r q D).2.qn = D.qn ∧ (waD X r q D).2.ar = D.ar ∧ (waD X r q D).2.sn = D.sn := by
  unfold waD
  split
  · exact ⟨rfl, rfl, rfl, rfl⟩
  · split
    · exact ⟨rfl, rfl, rfl, rfl⟩
    · split <;> exact ⟨rfl, rfl, rfl, rfl⟩
theorem lgN_s {X : DX} {q : Int} {D : DD} {n : Int} (h : 0 ≤ n) : lgN X q D (n + 1) = lgS X q n (lgN X q D n) := itI_succ h
theorem ok_lgN {X : DX} {D : DD} {q : Int} (h : dOK X D) : ∀ k : Nat, (k : Int) ≤ D.qn → (0 ≤ (lgN X q D (k : Int)).1 ∧ (lgN X q D (k : Int)).1 ≤ (k : Int)) ∧ dOK X (lgN X q D (k : Int)).2 ∧ (lgN X q D (k : Int)).2.qn = D.qn
  | 0, _ => ⟨⟨Int.le_refl _, Int.le_refl _⟩, h, rfl⟩
  | k + 1, hk => by
    obtain ⟨h1, h2, h3⟩ := ok_lgN (q := q) h k (by omega)
    have e : ((k + 1 : Nat) : Int) = (k : Int) + 1 := by omega
    rw [e, lgN_s (by omega)]
    generalize lgN X q D (k : Int) = x at h1 h2 h3
    have hq := h2.2.1 (k : Int) (by omega) (by omega)
    have w1 := ok_wa (q := q) h2 hq.1
    have w2 := wa_qu (X := X) (D := x.2) (q := q) (r := x.2.qu (k : Int))
    unfold lgS
    simp only []
    split
    · exact ⟨by simp only []; omega, w1, w2.2.1.trans h3⟩
    · refine ⟨by simp only []; omega, ⟨w1.1, ?_, w1.2.2⟩, w2.2.1.trans h3⟩
      intro i i0 i1
      have i2 : i < D.qn := by
        have : i < (waD X (x.2.qu (k : Int)) q x.2).2.qn := i1
        rw [w2.2.1, h3] at this
        exact this
      show (0 ≤ updI _ _ _ i ∧ updI _ _ _ i < X.n) ∧ (0 ≤ (waD X (x.2.qu (k : Int)) q x.2).2.rp (updI _ _ _ i) 6 ∧ (waD X (x.2.qu (k : Int)) q x.2).2.rp (updI _ _ _ i) 6 < 12)
      unfold updI
      split
      · exact w1.2.1 (k : Int) (by omega) (by rw [w2.2.1, h3]; omega)
      · exact w1.2.1 i i0 (by rw [w2.2.1, h3]; omega)
theorem ok_lgI {X : DX} {D : DD} {q i : Int} (h : dOK X D) (hi : 0 ≤ i ∧ i ≤ D.qn) : (0 ≤ (lgN X q D i).1 ∧ (lgN X q D i).1 ≤ i) ∧ dOK X (lgN X q D i).2 ∧ (lgN X q D i).2.qn = D.qn := by
  have := ok_lgN (q := q) h i.toNat (by omega)
  rw [Int.toNat_of_nonneg hi.1] at this
  exact this
theorem ok_lg {X : DX} {D : DD} {q : Int} (h : dOK X D) : dOK X (lgD X q D) := by
  obtain ⟨h1, h2, h3⟩ := ok_lgI (q := q) h ⟨h.1.1, Int.le_refl _⟩
  have := h.1
  exact ⟨by show 0 ≤ (lgN X q D D.qn).1 ∧ (lgN X q D D.qn).1 ≤ 8; omega, fun i i0 i1 => h2.2.1 i i0 (by have : i < (lgN X q D D.qn).1 := i1; omega), h2.2.2⟩
theorem lkN_s {q : Int} {D : DD} {n : Int} (h : 0 ≤ n) : lkN q D (n + 1) = lkS q n (lkN q D n) := itI_succ h
theorem lk_eq {q : Int} {D : DD} : ∀ k : Nat, lkN q D (k : Int) = (mkD D.rp D.ta D.ly D.ar D.qu D.qn ((lkN q D (k : Int)).sn))
  | 0 => rfl
  | k + 1 => by
    have e : ((k + 1 : Nat) : Int) = (k : Int) + 1 := by omega
    rw [e, lkN_s (by omega), lk_eq k]
    rfl
theorem lk_eqI {q i : Int} {D : DD} (hi : 0 ≤ i) : lkN q D i = (mkD D.rp D.ta D.ly D.ar D.qu D.qn ((lkN q D i).sn)) := by
  have := lk_eq (q := q) (D := D) i.toNat
  rw [Int.toNat_of_nonneg hi] at this
  exact this
theorem ok_lk {X : DX} {D : DD} {q i : Int} (h : dOK X D) (hi : 0 ≤ i) : dOK X (lkN q D i) := by
  rw [lk_eqI hi]
  exact h
theorem ok_qu {X : DX} {D : DD} {q : Int} (hX : XOK X) (h : dOK X D) : dOK X (quD X q D) := ok_lk (ok_lg (ok_lcI hX h ⟨hX.1.1, Int.le_refl _⟩)) hX.1.1
theorem rs_in {D : DD} : ∀ k : Nat, ∀ r, 0 ≤ r → r < (k : Int) → ((itI rsD D (k : Int)).rp r 4 = -4 ∧ (itI rsD D (k : Int)).rp r 5 = -4 ∧ (itI rsD D (k : Int)).rp r 6 = -4 ∧ (itI rsD D (k : Int)).rp r 7 = 0) ∧ ((itI rsD D (k : Int)).rp r 8 = -4 ∧ (itI rsD D (k : Int)).rp r 9 = 0 ∧ (itI rsD D (k : Int)).rp r 10 = 0 ∧ (itI rsD D (k : Int)).rp r 11 = 0)
  | 0, r, r0, r1 => absurd r1 (by omega)
  | k + 1, r, r0, r1 => by
    have e : ((k + 1 : Nat) : Int) = (k : Int) + 1 := by omega
    rw [e, itI_succ (by omega)]
    by_cases h : r = (k : Int)
    · rw [h]
      unfold rsD up2
      simp only [mk_rp, Int.reduceEq, and_true, and_false, if_true, if_false, reduceIte, and_self]
    · have ih := rs_in (D := D) k r r0 (by omega)
      unfold rsD up2
      simp only [mk_rp, h, false_and, if_false]
      exact ih
theorem rs_qn {D : DD} : ∀ k : Nat, (itI rsD D (k : Int)) = (mkD ((itI rsD D (k : Int)).rp) D.ta D.ly D.ar D.qu D.qn D.sn)
  | 0 => rfl
  | k + 1 => by
    have e : ((k + 1 : Nat) : Int) = (k : Int) + 1 := by omega
    rw [e, itI_succ (by omega), rs_qn k]
    rfl
theorem ok_d0 {X : DX} {D : DD} (hX : XOK X) : dOK X (d0D X D) := by
  have en : ((X.n.toNat : Nat) : Int) = X.n := Int.toNat_of_nonneg hX.1.1
  have r1 := rs_in (D := (mkD ((itI zeD D 12).rp) ((itI zeD D 12).ta) ((itI zeD D 12).ly) ((itI zeD D 12).ar) ((itI zeD D 12).qu) 0 ((itI zeD D 12).sn))) X.n.toNat
  have r2 := rs_qn (D := (mkD ((itI zeD D 12).rp) ((itI zeD D 12).ta) ((itI zeD D 12).ly) ((itI zeD D 12).ar) ((itI zeD D 12).qu) 0 ((itI zeD D 12).sn))) X.n.toNat
  rw [en] at r1 r2
  unfold d0D
  have e9 : (itI rsD (mkD ((itI zeD D 12).rp) ((itI zeD D 12).ta) ((itI zeD D 12).ly) ((itI zeD D 12).ar) ((itI zeD D 12).qu) 0 ((itI zeD D 12).sn)) X.n).qn = 0 := by
    rw [r2]
    rfl
  refine ⟨by rw [e9]; omega, fun i i0 i1 => by rw [e9] at i1; omega, fun r r0 r3 => ?_⟩
  have q := (r1 r r0 r3).1
  have s := (hX.2 r r0 r3).2.2.2.2.1
  rw [q.2.2.2, q.1]
  exact ⟨by omega, Or.inl rfl⟩
theorem dyN_s {X : DX} {D : DD} {n : Int} (h : 0 ≤ n) : dyN X D (n + 1) = quD X n (dyN X D n) := itI_succ h
theorem ok_dyN {X : DX} {D : DD} (hX : XOK X) : ∀ k : Nat, dOK X (dyN X D (k : Int))
  | 0 => ok_d0 hX
  | k + 1 => by
    have e : ((k + 1 : Nat) : Int) = (k : Int) + 1 := by omega
    rw [e, dyN_s (by omega)]
    exact ok_qu hX (ok_dyN hX k)
theorem ok_dyI {X : DX} {D : DD} {i : Int} (hX : XOK X) (hi : 0 ≤ i) : dOK X (dyN X D i) := by
  have := ok_dyN (D := D) hX i.toNat
  rw [Int.toNat_of_nonneg hi] at this
  exact this
