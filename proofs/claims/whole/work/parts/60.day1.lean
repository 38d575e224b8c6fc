theorem brN_s {D : DD} {k n : Int} (h : 0 ≤ n) : brN D k (n + 1) = if D.rp n 4 = k then 1 else brN D k n := itI_succ h
theorem brN_sp {D : DD} {k : Int} : ∀ n : Nat, (brN D k (n : Int) = 1 ∧ ∃ r, 0 ≤ r ∧ r < (n : Int) ∧ D.rp r 4 = k) ∨ (brN D k (n : Int) = 0 ∧ ∀ r, 0 ≤ r → r < (n : Int) → ¬ D.rp r 4 = k)
  | 0 => Or.inr ⟨rfl, fun r a b => by omega⟩
  | n + 1 => by
    have ih := brN_sp (D := D) (k := k) n
    have e : ((n + 1 : Nat) : Int) = (n : Int) + 1 := by omega
    rw [e, brN_s (by omega)]
    by_cases h : D.rp (n : Int) 4 = k
    · rw [if_pos h]
      exact Or.inl ⟨rfl, (n : Int), by omega, by omega, h⟩
    · rw [if_neg h]
      rcases ih with ⟨a, r, b, c, d⟩ | ⟨a, b⟩
      · exact Or.inl ⟨a, r, b, by omega, d⟩
      · refine Or.inr ⟨a, fun r r0 r1 => ?_⟩
        by_cases q : r = (n : Int)
        · rw [q]
          exact h
        · exact b r r0 (by omega)
/-! ===== the day: the model beside the class ===== -/
theorem inj_le : ∀ (n : Nat) (m : Nat) (f : Int → Int), (∀ i, 0 ≤ i → i < (m : Int) → 0 ≤ f i ∧ f i < (n : Int)) → (∀ i j, 0 ≤ i → i < j → j < (m : Int) → ¬ f i = f j) → m ≤ n
  | 0, m, f, h1, _ => by
    rcases Nat.eq_zero_or_pos m with h | h
    · omega
    · have := h1 0 (by omega) (by omega)
      omega
  | n + 1, m, f, h1, h2 => by
    by_cases hx : ∃ i, 0 ≤ i ∧ i < (m : Int) ∧ f i = (n : Int)
    · obtain ⟨x, x0, x1, x2⟩ := hx
      have := inj_le n (m - 1) (fun i => if i = x then f ((m : Int) - 1) else f i) (fun i i0 i1 => by
        split
        · rename_i e
          have q := h1 ((m : Int) - 1) (by omega) (by omega)
          have := h2 x ((m : Int) - 1) x0 (by omega) (by omega)
          omega
        · rename_i e
          have q := h1 i i0 (by omega)
          have q2 : ¬ f i = (n : Int) := fun z => by
            rcases Int.lt_or_gt_of_ne e with w | w
            · exact h2 i x i0 w x1 (by rw [z, x2])
            · exact h2 x i x0 w (by omega) (by rw [z, x2])
          omega) (fun i j i0 i1 j1 => by
        by_cases e1 : i = x
        · rw [if_pos e1, if_neg (by omega)]
          exact fun z => h2 j ((m : Int) - 1) (by omega) (by omega) (by omega) z.symm
        · rw [if_neg e1]
          by_cases e2 : j = x
          · rw [if_pos e2]
            exact h2 i ((m : Int) - 1) i0 (by omega) (by omega)
          · rw [if_neg e2]
            exact h2 i j i0 i1 (by omega))
      omega
    · have := inj_le n m f (fun i i0 i1 => by
        have q := h1 i i0 i1
        have q2 : ¬ f i = (n : Int) := fun z => hx ⟨i, i0, i1, z⟩
        omega) h2
      omega
/-- one rope, on both sides -/
def RO (X : DX) (D : DD) (T : Mem) (q t o : Int) : Prop :=
  (D.rp o 6 = -4 → T 109 0 o = 0) ∧ (¬ D.rp o 6 = -4 → T 109 0 o = 1 ∧ T 113 0 o = D.rp o 6) ∧
  (D.rp o 8 = -4 → T 110 0 o = 0) ∧ (¬ D.rp o 8 = -4 → T 110 0 o = 1 ∧ T 116 0 o = D.rp o 8) ∧
  (T 111 0 o = D.rp o 9 ∧ T 112 0 o = D.rp o 7 ∧ T 117 0 o = D.rp o 10 ∧ T 118 0 o = D.rp o 11) ∧
  (D.rp o 4 = -4 → T 115 0 o = -4) ∧ (¬ D.rp o 4 = -4 → T 115 0 o = D.rp o 5) ∧
  (D.rp o 6 = -4 ↔ ¬ (X.sa o < q ∨ (X.sa o = q ∧ o < t))) ∧ (D.rp o 6 = -4 → D.rp o 4 = -4 ∧ D.rp o 8 = -4 ∧ D.rp o 7 = 0) ∧
  (¬ D.rp o 4 = -4 → 0 ≤ D.rp o 5 ∧ ¬ D.rp o 6 = -4 ∧ D.rp o 8 = -4) ∧
  (D.rp o 6 = -4 ∨ (0 ≤ D.rp o 6 ∧ D.rp o 6 < 12)) ∧ (D.rp o 8 = -4 ∨ (0 ≤ D.rp o 8 ∧ D.rp o 8 ≤ q))
def atP (D : DD) (o : Int) : Prop := ¬ D.rp o 6 = -4 ∧ D.rp o 4 = -4 ∧ D.rp o 8 = -4
def RP (D : DD) (T : Mem) : Prop := ∀ p, 0 ≤ p → p < 12 → T 119 0 p = D.ta p ∧ T 120 0 p = D.ly p ∧ T 121 0 p = D.ar p
/-- the queue: the first c of it, and those from i on -/
def RQ (X : DX) (D : DD) (T : Mem) (q t c i : Int) : Prop :=
  (0 ≤ c ∧ c ≤ i ∧ i ≤ D.qn) ∧
  (∀ o, 0 ≤ o → o < X.n → atP D o → ∃ j, 0 ≤ j ∧ j < D.qn ∧ (j < c ∨ i ≤ j) ∧ D.qu j = o) ∧
  (∀ j, 0 ≤ j → j < D.qn → (j < c ∨ i ≤ j) → (0 ≤ D.qu j ∧ D.qu j < X.n) ∧ atP D (D.qu j) ∧ (T 114 0 (D.qu j) < q ∨ (T 114 0 (D.qu j) = q ∧ D.qu j < t))) ∧
  (∀ j k, 0 ≤ j → j < k → k < D.qn → (j < c ∨ i ≤ j) → (k < c ∨ i ≤ k) → T 114 0 (D.qu j) < T 114 0 (D.qu k) ∨ (T 114 0 (D.qu j) = T 114 0 (D.qu k) ∧ D.qu j < D.qu k))
def RelD (X : DX) (D : DD) (T : Mem) (q t c i : Int) : Prop := (∀ o, 0 ≤ o → o < X.n → RO X D T q t o) ∧ RP D T ∧ RQ X D T q t c i
theorem RO.loc {X : DX} {D D' : DD} {T T' : Mem} {q t t' o : Int} (h : RO X D T q t o) (hD : ∀ f, D'.rp o f = D.rp o f) (hT : ∀ p : Nat, 109 ≤ p → p ≤ 118 → p ≠ 114 → T' p 0 o = T p 0 o) (ht : o < t ↔ o < t') : RO X D' T' q t' o := by
  unfold RO at h ⊢
  rw [hD, hD, hD, hD, hD, hD, hD, hD, hT 109 (by decide) (by decide) (by decide), hT 110 (by decide) (by decide) (by decide), hT 111 (by decide) (by decide) (by decide), hT 112 (by decide) (by decide) (by decide), hT 113 (by decide) (by decide) (by decide), hT 115 (by decide) (by decide) (by decide), hT 116 (by decide) (by decide) (by decide), hT 117 (by decide) (by decide) (by decide), hT 118 (by decide) (by decide) (by decide), ← ht]
  exact h
def cmT (o p q : Int) (T : Mem) : Mem := mset (mset (mset (mset T 113 0 o p) 114 0 o q) 115 0 o (-4)) 121 0 p (w32 (T 121 0 p + 1))
theorem RQ.full {X : DX} {D : DD} {T : Mem} {q t r : Int} (hX : XOK X) (h : RQ X D T q t 0 0) (hr : 0 ≤ r ∧ r < X.n) (h1 : ¬ atP D r) : D.qn < 8 := by
  obtain ⟨q1, q2, q3, q4⟩ := h
  have n8 := hX.1
  have := inj_le X.n.toNat (D.qn.toNat + 1) (fun i => if i = D.qn then r else D.qu i) (fun i i0 i1 => by
    split
    · omega
    · have := (q3 i i0 (by omega) (Or.inr i0)).1
      omega) (fun i j i0 i1 j1 => by
    rw [if_neg (by omega)]
    split
    · intro z
      exact h1 (by rw [← z]; exact (q3 i i0 (by omega) (Or.inr i0)).2.1)
    · have := q4 i j i0 i1 (by omega) (Or.inr i0) (Or.inr (by omega))
      intro z
      rw [z] at this
      omega)
  omega
/-- a rope comes: what is alike behind it -/
theorem rel_come {X : DX} {D D1 : DD} {T T1 : Mem} {q r p b : Int} (hX : XOK X) (h : RelD X D T q r 0 0) (hr : 0 ≤ r ∧ r < X.n) (hp : 0 ≤ p ∧ p < 12) (na : ¬ atP D r)
    (hs : X.sa r < q ∨ X.sa r = q) (h8 : D.rp r 8 = -4)
    (hD : D1 = (mkD (up2 D.rp r 7 b) D.ta D.ly D.ar D.qu D.qn D.sn)) (hT : ∀ (p : Nat) (x o : Int), p ≠ 122 → p ≠ 109 → p ≠ 112 → T1 p x o = T p x o) (hT2 : ∀ (p : Nat) (x o : Int), o ≠ r → T1 p x o = T p x o) (hT3 : T1 109 0 r = 1 ∧ T1 112 0 r = b) : RelD X (comeD r p D1) (cmT r p q T1) q (r + 1) 0 0 := by
  subst hD
  obtain ⟨h1, h2, h3⟩ := h
  have full := RQ.full hX h3 hr na
  obtain ⟨q1, q2, q3, q4⟩ := h3
  have cT : ∀ (z : Nat) (o : Int), o ≠ r → z ≠ 121 → cmT r p q T1 z 0 o = T z 0 o := fun z o h h' => by
    unfold cmT
    rw [ms_q h']
    by_cases e1 : z = 115
    · rw [e1, ms_f, if_neg (fun w => h w.2), ms_q (by decide), ms_q (by decide), hT2 _ _ _ h]
    · rw [ms_q e1]
      by_cases e2 : z = 114
      · rw [e2, ms_f, if_neg (fun w => h w.2), ms_q (by decide), hT2 _ _ _ h]
      · rw [ms_q e2]
        by_cases e3 : z = 113
        · rw [e3, ms_f, if_neg (fun w => h w.2), hT2 _ _ _ h]
        · rw [ms_q e3, hT2 _ _ _ h]
  have cR : ∀ (z : Nat), z ≠ 121 → z ≠ 115 → z ≠ 114 → z ≠ 113 → cmT r p q T1 z = T1 z := fun z a b c d => by
    unfold cmT
    rw [ms_q a, ms_q b, ms_q c, ms_q d]
  have c113 : cmT r p q T1 113 0 r = p := by
    unfold cmT
    rw [ms_q (by decide), ms_q (by decide), ms_q (by decide), ms_f, if_pos ⟨rfl, rfl⟩]
  have c114 : cmT r p q T1 114 0 r = q := by
    unfold cmT
    rw [ms_q (by decide), ms_q (by decide), ms_f, if_pos ⟨rfl, rfl⟩]
  have c115 : cmT r p q T1 115 0 r = -4 := by
    unfold cmT
    rw [ms_q (by decide), ms_f, if_pos ⟨rfl, rfl⟩]
  have dr : ∀ o f, o ≠ r → (comeD r p (mkD (up2 D.rp r 7 b) D.ta D.ly D.ar D.qu D.qn D.sn)).rp o f = D.rp o f := fun o f h => by
    show up2 (up2 (up2 D.rp r 7 b) r 4 (-4)) r 6 p o f = _
    rw [up2_a h, up2_a h, up2_a h]
  have d4 : (comeD r p (mkD (up2 D.rp r 7 b) D.ta D.ly D.ar D.qu D.qn D.sn)).rp r 4 = -4 := by
    show up2 (up2 (up2 D.rp r 7 b) r 4 (-4)) r 6 p r 4 = _
    rw [up2_b (by decide), up2_c]
  have d6 : (comeD r p (mkD (up2 D.rp r 7 b) D.ta D.ly D.ar D.qu D.qn D.sn)).rp r 6 = p := by
    show up2 (up2 (up2 D.rp r 7 b) r 4 (-4)) r 6 p r 6 = _
    rw [up2_c]
  have d7 : (comeD r p (mkD (up2 D.rp r 7 b) D.ta D.ly D.ar D.qu D.qn D.sn)).rp r 7 = b := by
    show up2 (up2 (up2 D.rp r 7 b) r 4 (-4)) r 6 p r 7 = _
    rw [up2_b (by decide), up2_b (by decide), up2_c]
  have dx : ∀ f, f ≠ 4 → f ≠ 6 → f ≠ 7 → (comeD r p (mkD (up2 D.rp r 7 b) D.ta D.ly D.ar D.qu D.qn D.sn)).rp r f = D.rp r f := fun f a c d => by
    show up2 (up2 (up2 D.rp r 7 b) r 4 (-4)) r 6 p r f = _
    rw [up2_b c, up2_b a, up2_b d]
  have dq : (comeD r p (mkD (up2 D.rp r 7 b) D.ta D.ly D.ar D.qu D.qn D.sn)).qn = D.qn + 1 := by
    show (if D.qn < 8 then w32 (D.qn + 1) else D.qn) = _
    rw [if_pos full, w32_e (by omega) (by omega)]
  have du : ∀ j, (comeD r p (mkD (up2 D.rp r 7 b) D.ta D.ly D.ar D.qu D.qn D.sn)).qu j = if j = D.qn then r else D.qu j := fun j => by
    show (if D.qn < 8 then updI D.qu D.qn r else D.qu) j = _
    rw [if_pos full]
    rfl
  have at_o : ∀ o, o ≠ r → (atP (comeD r p (mkD (up2 D.rp r 7 b) D.ta D.ly D.ar D.qu D.qn D.sn)) o ↔ atP D o) := fun o h => by
    unfold atP
    rw [dr o 6 h, dr o 4 h, dr o 8 h]
  have nq : ∀ j, 0 ≤ j → j < D.qn → D.qu j ≠ r := fun j j0 j1 e => na (by rw [← e]; exact (q3 j j0 j1 (Or.inr j0)).2.1)
  refine ⟨fun o o0 o1 => ?_, fun z z0 z1 => ?_, ⟨?_, ?_, ?_, ?_⟩⟩
  · by_cases e : o = r
    · rw [e]
      obtain ⟨w1, w2, w3, w4, w5, w6, w7, w8, w9, w10, w11, w12⟩ := h1 r hr.1 hr.2
      unfold RO
      rw [d4, d6, d7, dx 8 (by decide) (by decide) (by decide), dx 9 (by decide) (by decide) (by decide), dx 10 (by decide) (by decide) (by decide), dx 11 (by decide) (by decide) (by decide), c113, c115]
      rw [cR 109 (by decide) (by decide) (by decide) (by decide), cR 110 (by decide) (by decide) (by decide) (by decide), cR 111 (by decide) (by decide) (by decide) (by decide), cR 112 (by decide) (by decide) (by decide) (by decide), cR 116 (by decide) (by decide) (by decide) (by decide), cR 117 (by decide) (by decide) (by decide) (by decide), cR 118 (by decide) (by decide) (by decide) (by decide)]
      rw [hT 110 _ _ (by decide) (by decide) (by decide), hT 111 _ _ (by decide) (by decide) (by decide), hT 116 _ _ (by decide) (by decide) (by decide), hT 117 _ _ (by decide) (by decide) (by decide), hT 118 _ _ (by decide) (by decide) (by decide)]
      refine ⟨fun z => by omega, fun _ => ⟨hT3.1, rfl⟩, w3, w4, ⟨w5.1, hT3.2, w5.2.2⟩, fun _ => rfl, fun z => absurd rfl z, ⟨fun z => by omega, fun z => by omega⟩, fun z => by omega, fun z => absurd rfl z, Or.inr hp, w12⟩
    · exact (h1 o o0 o1).loc (fun f => dr o f e) (fun z _ _ _ => cT z o e (by omega)) ⟨fun z => by omega, fun z => by omega⟩
  · have hz := h2 z z0 z1
    refine ⟨?_, ?_, ?_⟩
    · rw [cR 119 (by decide) (by decide) (by decide) (by decide), hT 119 _ _ (by decide) (by decide) (by decide)]
      exact hz.1
    · rw [cR 120 (by decide) (by decide) (by decide) (by decide), hT 120 _ _ (by decide) (by decide) (by decide)]
      exact hz.2.1
    · show cmT r p q T1 121 0 z = updI D.ar p (w32 (D.ar p + 1)) z
      have hp2 := h2 p hp.1 hp.2
      unfold cmT updI
      rw [ms_f, ms_q (by decide), ms_q (by decide), ms_q (by decide), hT 121 _ _ (by decide) (by decide) (by decide), hT 121 _ _ (by decide) (by decide) (by decide), hp2.2.2]
      by_cases e : z = p
      · rw [if_pos ⟨rfl, e⟩, if_pos e]
      · rw [if_neg (fun w => e w.2), if_neg e]
        exact hz.2.2
  · rw [dq]
    omega
  · intro o o0 o1 ha
    rw [dq]
    by_cases e : o = r
    · exact ⟨D.qn, by omega, by omega, Or.inr (by omega), by rw [du, if_pos rfl, e]⟩
    · obtain ⟨j, j0, j1, j2, j3⟩ := q2 o o0 o1 ((at_o o e).mp ha)
      exact ⟨j, j0, by omega, j2, by rw [du, if_neg (by omega), j3]⟩
  · intro j j0 j1 _
    rw [dq] at j1
    rw [du]
    by_cases e : j = D.qn
    · rw [if_pos e]
      refine ⟨hr, ⟨by rw [d6]; omega, d4, by rw [dx 8 (by decide) (by decide) (by decide)]; exact h8⟩, Or.inr ⟨c114, by omega⟩⟩
    · rw [if_neg e]
      have z := q3 j j0 (by omega) (Or.inr j0)
      have n1 := nq j j0 (by omega)
      refine ⟨z.1, (at_o _ n1).mpr z.2.1, ?_⟩
      rw [cT 114 _ n1 (by decide)]
      rcases z.2.2 with w | w
      · exact Or.inl w
      · exact Or.inr ⟨w.1, by omega⟩
  · intro j k j0 jk k1 _ _
    rw [dq] at k1
    rw [du, du, if_neg (by omega)]
    have n1 := nq j j0 (by omega)
    by_cases e : k = D.qn
    · rw [if_pos e, c114, cT 114 _ n1 (by decide)]
      rcases (q3 j j0 (by omega) (Or.inr j0)).2.2 with w | w
      · exact Or.inl w
      · exact Or.inr w
    · rw [if_neg e, cT 114 _ n1 (by decide), cT 114 _ (nq k (by omega) (by omega)) (by decide)]
      exact q4 j k j0 jk (by omega) (Or.inr j0) (Or.inr (by omega))
/-- no rope comes -/
theorem rel_stay {X : DX} {D : DD} {T T1 : Mem} {q r : Int} (h : RelD X D T q r 0 0) (hT : ∀ p : Nat, p ≠ 122 → T1 p = T p) (hr : D.rp r 6 = -4 → ¬ X.sa r = q) : RelD X D T1 q (r + 1) 0 0 := by
  obtain ⟨h1, h2, h3, h4, h5, h6⟩ := h
  refine ⟨fun o o0 o1 => ?_, fun z z0 z1 => ?_, h3, h4, fun j j0 j1 j2 => ?_, fun j k j0 jk k1 a b => ?_⟩
  · have w := h1 o o0 o1
    unfold RO at w ⊢
    rw [hT 109 (by decide), hT 110 (by decide), hT 111 (by decide), hT 112 (by decide), hT 113 (by decide), hT 115 (by decide), hT 116 (by decide), hT 117 (by decide), hT 118 (by decide)]
    obtain ⟨w1, w2, w3, w4, w5, w6, w7, w8, w9, w10, w11, w12⟩ := w
    refine ⟨w1, w2, w3, w4, w5, w6, w7, ?_, w9, w10, w11, w12⟩
    by_cases e : o = r
    · rw [e] at w8 ⊢
      refine ⟨fun z => ?_, fun z => ?_⟩
      · have := hr z
        have := w8.mp z
        omega
      · rw [w8]
        omega
    · refine ⟨fun z => ?_, fun z => ?_⟩
      · have := w8.mp z
        omega
      · rw [w8]
        omega
  · rw [hT 119 (by decide), hT 120 (by decide), hT 121 (by decide)]
    exact h2 z z0 z1
  · rw [hT 114 (by decide)]
    have z := h5 j j0 j1 j2
    exact ⟨z.1, z.2.1, by omega⟩
  · rw [hT 114 (by decide)]
    exact h6 j k j0 jk k1 a b
