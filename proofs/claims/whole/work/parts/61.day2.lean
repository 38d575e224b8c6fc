def bdT (X : DX) (o : Int) (T : Mem) : Int := if X.pe o < w32 (X.be (T 113 0 o) - T 119 0 (T 113 0 o)) then X.pe o else w32 (X.be (T 113 0 o) - T 119 0 (T 113 0 o))
def doT (X : DX) (o q : Int) (T : Mem) : Mem := mset (mset (mset (mset (mset T 110 0 o 1) 116 0 o q) 118 0 o (bdT X o T)) 119 0 (T 113 0 o) (w32 (T 119 0 (T 113 0 o) + bdT X o T))) 120 0 (T 113 0 o) (w32 (T 120 0 (T 113 0 o) + w32 (X.pe o - bdT X o T)))
def brT (X : DX) (T : Mem) (k : Int) : Int → Int := itI (fun o b => if ¬ b = 0 ∨ (¬ T 109 0 o = 0 ∧ ¬ T 115 0 o = -4 ∧ X.ro (X.rt o) (T 112 0 o) = k) then 1 else 0) 0
def deT (X : DX) (o q : Int) (T : Mem) : Mem :=
  if T 112 0 o = X.si (X.rt o) then doT X o q T else
  if X.tm (X.ro (X.rt o) (T 112 0 o)) (X.rs o) q = -5 ∨ ¬ X.bk (X.rt o) q (X.pe o) = -4 then doT X o q (mset T 111 0 o 1) else
  if ¬ X.nw (X.ro (X.rt o) (T 112 0 o)) = 0 ∧ brT X T (X.ro (X.rt o) (T 112 0 o)) X.n = 1 then mset T 117 0 o (w32 (T 117 0 o + 1)) else
  mset T 115 0 o (w32 (q + X.tm (X.ro (X.rt o) (T 112 0 o)) (X.rs o) q))
theorem brT_s {X : DX} {T : Mem} {k n : Int} (h : 0 ≤ n) : brT X T k (n + 1) = if ¬ brT X T k n = 0 ∨ (¬ T 109 0 n = 0 ∧ ¬ T 115 0 n = -4 ∧ X.ro (X.rt n) (T 112 0 n) = k) then 1 else 0 := itI_succ h
theorem brT_sp {X : DX} {D : DD} {T : Mem} {q t k : Int} (h : ∀ o, 0 ≤ o → o < X.n → RO X D T q t o) (hk : dOK X D) (k0 : ¬ k = -4) : ∀ n : Nat, (n : Int) ≤ X.n → brT X T k (n : Int) = brN D k (n : Int)
  | 0, _ => rfl
  | n + 1, hn => by
    have ih := brT_sp h hk k0 n (by omega)
    have e : ((n + 1 : Nat) : Int) = (n : Int) + 1 := by omega
    have w := h (n : Int) (by omega) (by omega)
    have w' := hk.2.2 (n : Int) (by omega) (by omega)
    obtain ⟨w1, w2, w3, w4, w5, w6, w7, w8, w9, w10, w11, w12⟩ := w
    have bb := brN_sp (D := D) (k := k) n
    rw [e, brT_s (by omega), brN_s (by omega), ih, w5.2.1]
    by_cases c : D.rp (n : Int) 4 = k
    · clear bb
      have v := w10 (by omega)
      have v2 := w2 v.2.1
      have v3 := w7 (by omega)
      rcases w'.2 with z | ⟨z, z2⟩
      · omega
      · rw [if_pos c, if_pos (Or.inr ⟨by omega, by omega, by omega⟩)]
    · rw [if_neg c]
      have nn : ¬ (¬ T 109 0 (n : Int) = 0 ∧ ¬ T 115 0 (n : Int) = -4 ∧ X.ro (X.rt (n : Int)) (D.rp (n : Int) 7) = k) := fun ⟨a, b, d⟩ => by
        rcases w'.2 with z | ⟨z, z2⟩
        · exact b (w6 z)
        · omega
      rcases bb with ⟨z, -⟩ | ⟨z, -⟩
      · rw [z, if_pos (Or.inl (by decide))]
      · rw [z, if_neg (fun y => y.elim (fun a => a rfl) nn)]
theorem rq_ne {X : DX} {D : DD} {T : Mem} {q t c i : Int} (h : RQ X D T q t c i) (hi : i < D.qn) {j : Int} (j0 : 0 ≤ j) (j1 : j < D.qn) (j2 : j < c ∨ i + 1 ≤ j) : D.qu j ≠ D.qu i := by
  obtain ⟨q1, q2, q3, q4⟩ := h
  intro z
  rcases j2 with w | w
  · have := q4 j i j0 (by omega) hi (Or.inl w) (Or.inr (Int.le_refl _))
    rw [z] at this
    omega
  · have := q4 i j (by omega) (by omega) j1 (Or.inr (Int.le_refl _)) (Or.inr (by omega))
    rw [z] at this
    omega
theorem rq_drop {X : DX} {D D' : DD} {T T' : Mem} {q t c i : Int} (h : RQ X D T q t c i) (hi : i < D.qn) (e1 : D'.qu = D.qu) (e2 : D'.qn = D.qn) (e3 : ∀ o, o ≠ D.qu i → (atP D' o ↔ atP D o)) (e4 : ¬ atP D' (D.qu i)) (e5 : ∀ o, T' 114 0 o = T 114 0 o) : RQ X D' T' q t c (i + 1) := by
  have ne := fun {j : Int} => rq_ne (j := j) h hi
  obtain ⟨q1, q2, q3, q4⟩ := h
  unfold RQ
  rw [e1, e2]
  refine ⟨by omega, fun o o0 o1 ha => ?_, fun j j0 j1 j2 => ?_, fun j k j0 jk k1 j2 k2 => ?_⟩
  · have n1 : o ≠ D.qu i := fun z => e4 (by rw [← z]; exact ha)
    obtain ⟨j, j0, j1, j2, j3⟩ := q2 o o0 o1 ((e3 o n1).mp ha)
    refine ⟨j, j0, j1, ?_, j3⟩
    have : j ≠ i := fun z => n1 (by rw [← j3, z])
    omega
  · have w := q3 j j0 j1 (by omega)
    rw [e5]
    exact ⟨w.1, (e3 _ (ne j0 j1 j2)).mpr w.2.1, w.2.2⟩
  · rw [e5, e5]
    exact q4 j k j0 jk k1 (by omega) (by omega)
theorem rq_keep {X : DX} {D D' : DD} {T T' : Mem} {q t c i : Int} (h : RQ X D T q t c i) (hi : i < D.qn) (e1 : D'.qu = updI D.qu c (D.qu i)) (e2 : D'.qn = D.qn) (e3 : ∀ o, atP D' o ↔ atP D o) (e5 : ∀ o, T' 114 0 o = T 114 0 o) : RQ X D' T' q t (c + 1) (i + 1) := by
  obtain ⟨q1, q2, q3, q4⟩ := h
  have u1 : updI D.qu c (D.qu i) c = D.qu i := by unfold updI; rw [if_pos rfl]
  have u2 : ∀ j, j ≠ c → updI D.qu c (D.qu i) j = D.qu j := fun j hj => by unfold updI; rw [if_neg hj]
  unfold RQ
  rw [e1, e2]
  refine ⟨by omega, fun o o0 o1 ha => ?_, fun j j0 j1 j2 => ?_, fun j k j0 jk k1 j2 k2 => ?_⟩
  · obtain ⟨j, j0, j1, j2, j3⟩ := q2 o o0 o1 ((e3 o).mp ha)
    by_cases e : j = i
    · exact ⟨c, by omega, by omega, Or.inl (by omega), by rw [u1, ← e]; exact j3⟩
    · exact ⟨j, j0, j1, by omega, by rw [u2 j (by omega)]; exact j3⟩
  · rw [e5]
    by_cases e : j = c
    · rw [e, u1]
      have w := q3 i (by omega) hi (Or.inr (Int.le_refl _))
      exact ⟨w.1, (e3 _).mpr w.2.1, w.2.2⟩
    · rw [u2 j e]
      have w := q3 j j0 j1 (by omega)
      exact ⟨w.1, (e3 _).mpr w.2.1, w.2.2⟩
  · rw [e5, e5]
    by_cases e : j = c
    · rw [e, u1, u2 k (by omega)]
      exact q4 i k (by omega) (by omega) k1 (Or.inr (Int.le_refl _)) (by omega)
    · rw [u2 j e]
      by_cases e9 : k = c
      · rw [e9, u1]
        exact q4 j i j0 (by omega) hi (by omega) (Or.inr (Int.le_refl _))
      · rw [u2 k e9]
        exact q4 j k j0 jk k1 (by omega) (by omega)
/-- a rope at its end -/
theorem rel_fin {X : DX} {D : DD} {T : Mem} {q t c i : Int} (hq : 0 ≤ q) (h : RelD X D T q t c i) (hi : i < D.qn) : RelD X (finD X (D.qu i) q D) (doT X (D.qu i) q T) q t c (i + 1) := by
  obtain ⟨h1, h2, h3⟩ := h
  have w := h3.2.2.1 i (by have := h3.1; omega) hi (Or.inr (Int.le_refl _))
  generalize hr : D.qu i = r at w
  have wo := h1 r w.1.1 w.1.2
  obtain ⟨a1, a2, a3⟩ := w.2.1
  obtain ⟨w1, w2, w3, w4, w5, w6, w7, w8, w9, w10, w11, w12⟩ := id wo
  have e113 : T 113 0 r = D.rp r 6 := (w2 a1).2
  have hp : 0 ≤ D.rp r 6 ∧ D.rp r 6 < 12 := by omega
  have p2 := h2 (D.rp r 6) hp.1 hp.2
  have eb : bdT X r T = bdD X r D := by
    unfold bdT bdD
    rw [e113, p2.1]
    split <;> omega
  have dq : ∀ z : Nat, z ≠ 110 → z ≠ 116 → z ≠ 118 → z ≠ 119 → z ≠ 120 → doT X r q T z = T z := fun z a b c d e => by
    unfold doT
    rw [ms_q e, ms_q d, ms_q c, ms_q b, ms_q a]
  have dn : ∀ (z : Nat) (o : Int), o ≠ r → z ≠ 119 → z ≠ 120 → doT X r q T z 0 o = T z 0 o := fun z o h d e => by
    unfold doT
    rw [ms_q e, ms_q d]
    by_cases e1 : z = 118
    · rw [e1, ms_f, if_neg (fun w => h w.2), ms_q (by decide), ms_q (by decide)]
    · rw [ms_q e1]
      by_cases e2 : z = 116
      · rw [e2, ms_f, if_neg (fun w => h w.2), ms_q (by decide)]
      · rw [ms_q e2]
        by_cases e3 : z = 110
        · rw [e3, ms_f, if_neg (fun w => h w.2)]
        · rw [ms_q e3]
  have d110 : doT X r q T 110 0 r = 1 := by
    unfold doT
    rw [ms_q (by decide), ms_q (by decide), ms_q (by decide), ms_q (by decide), ms_f, if_pos ⟨rfl, rfl⟩]
  have d116 : doT X r q T 116 0 r = q := by
    unfold doT
    rw [ms_q (by decide), ms_q (by decide), ms_q (by decide), ms_f, if_pos ⟨rfl, rfl⟩]
  have d118 : doT X r q T 118 0 r = bdD X r D := by
    unfold doT
    rw [ms_q (by decide), ms_q (by decide), ms_f, if_pos ⟨rfl, rfl⟩, eb]
  have dr : ∀ o f, o ≠ r → (finD X r q D).rp o f = D.rp o f := fun o f h => by
    show up2 (up2 D.rp r 8 q) r 11 (bdD X r D) o f = _
    rw [up2_a h, up2_a h]
  have dx : ∀ f, f ≠ 8 → f ≠ 11 → (finD X r q D).rp r f = D.rp r f := fun f a b => by
    show up2 (up2 D.rp r 8 q) r 11 (bdD X r D) r f = _
    rw [up2_b b, up2_b a]
  have d8 : (finD X r q D).rp r 8 = q := by
    show up2 (up2 D.rp r 8 q) r 11 (bdD X r D) r 8 = _
    rw [up2_b (by decide), up2_c]
  have d11 : (finD X r q D).rp r 11 = bdD X r D := by
    show up2 (up2 D.rp r 8 q) r 11 (bdD X r D) r 11 = _
    rw [up2_c]
  refine ⟨fun o o0 o1 => ?_, fun z z0 z1 => ?_, ?_⟩
  · by_cases e : o = r
    · rw [e]
      unfold RO
      rw [d8, d11, dx 4 (by decide) (by decide), dx 5 (by decide) (by decide), dx 6 (by decide) (by decide), dx 7 (by decide) (by decide), dx 9 (by decide) (by decide), dx 10 (by decide) (by decide), d110, d116, d118]
      rw [dq 109 (by decide) (by decide) (by decide) (by decide) (by decide), dq 111 (by decide) (by decide) (by decide) (by decide) (by decide), dq 112 (by decide) (by decide) (by decide) (by decide) (by decide), dq 113 (by decide) (by decide) (by decide) (by decide) (by decide), dq 115 (by decide) (by decide) (by decide) (by decide) (by decide), dq 117 (by decide) (by decide) (by decide) (by decide) (by decide)]
      exact ⟨w1, w2, fun z => by omega, fun _ => ⟨rfl, rfl⟩, ⟨w5.1, w5.2.1, w5.2.2.1, rfl⟩, w6, w7, w8, fun z => absurd z a1, fun z => absurd a2 z, w11, Or.inr ⟨hq, Int.le_refl _⟩⟩
    · exact (h1 o o0 o1).loc (fun f => dr o f e) (fun z z0 z1 _ => dn z o e (by omega) (by omega)) Iff.rfl
  · have hz := h2 z z0 z1
    refine ⟨?_, ?_, ?_⟩
    · show doT X r q T 119 0 z = updI D.ta (D.rp r 6) (w32 (D.ta (D.rp r 6) + bdD X r D)) z
      unfold doT updI
      rw [ms_q (by decide), ms_f, ms_q (by decide), ms_q (by decide), ms_q (by decide), e113, eb, p2.1]
      by_cases e : z = D.rp r 6
      · rw [if_pos ⟨rfl, e⟩, if_pos e]
      · rw [if_neg (fun w => e w.2), if_neg e]
        exact hz.1
    · show doT X r q T 120 0 z = updI D.ly (D.rp r 6) (w32 (D.ly (D.rp r 6) + w32 (X.pe r - bdD X r D))) z
      unfold doT updI
      rw [ms_f, ms_q (by decide), ms_q (by decide), ms_q (by decide), ms_q (by decide), e113, eb, p2.2.1]
      by_cases e : z = D.rp r 6
      · rw [if_pos ⟨rfl, e⟩, if_pos e]
      · rw [if_neg (fun w => e w.2), if_neg e]
        exact hz.2.1
    · rw [dq 121 (by decide) (by decide) (by decide) (by decide) (by decide)]
      exact hz.2.2
  · rw [← hr]
    rw [← hr] at dr d8 dq
    refine rq_drop h3 hi rfl rfl (fun o ho => ?_) (fun z => ?_) (fun o => ?_)
    · unfold atP
      rw [dr o 4 ho, dr o 6 ho, dr o 8 ho]
    · have := z.2.2
      rw [d8] at this
      omega
    · rw [dq 114 (by decide) (by decide) (by decide) (by decide) (by decide)]
/-- a rope turns back -/
theorem rel_turn {X : DX} {D : DD} {T : Mem} {q t c i r : Int} (h : RelD X D T q t c i) : RelD X (mkD (up2 D.rp r 9 1) D.ta D.ly D.ar D.qu D.qn D.sn) (mset T 111 0 r 1) q t c i := by
  obtain ⟨h1, h2, q1, q2, q3, q4⟩ := h
  have ea : ∀ o, atP (mkD (up2 D.rp r 9 1) D.ta D.ly D.ar D.qu D.qn D.sn) o ↔ atP D o := fun o => by
    unfold atP
    show (¬ up2 D.rp r 9 1 o 6 = -4 ∧ up2 D.rp r 9 1 o 4 = -4 ∧ up2 D.rp r 9 1 o 8 = -4) ↔ _
    rw [up2_b (by decide), up2_b (by decide), up2_b (by decide)]
  refine ⟨fun o o0 o1 => ?_, fun z z0 z1 => ?_, q1, fun o o0 o1 ha => q2 o o0 o1 ((ea o).mp ha), fun j j0 j1 j2 => ?_, fun j k j0 jk k1 j2 k2 => ?_⟩
  · by_cases e : o = r
    · rw [e] at o0 o1 ⊢
      have w := h1 r o0 o1
      unfold RO at w ⊢
      show (up2 D.rp r 9 1 r 6 = -4 → _) ∧ (¬ up2 D.rp r 9 1 r 6 = -4 → _ ∧ _ = up2 D.rp r 9 1 r 6) ∧ (up2 D.rp r 9 1 r 8 = -4 → _) ∧ (¬ up2 D.rp r 9 1 r 8 = -4 → _ ∧ _ = up2 D.rp r 9 1 r 8) ∧ (_ = up2 D.rp r 9 1 r 9 ∧ _ = up2 D.rp r 9 1 r 7 ∧ _ = up2 D.rp r 9 1 r 10 ∧ _ = up2 D.rp r 9 1 r 11) ∧ (up2 D.rp r 9 1 r 4 = -4 → _) ∧ (¬ up2 D.rp r 9 1 r 4 = -4 → _ = up2 D.rp r 9 1 r 5) ∧ (up2 D.rp r 9 1 r 6 = -4 ↔ _) ∧ (up2 D.rp r 9 1 r 6 = -4 → up2 D.rp r 9 1 r 4 = -4 ∧ up2 D.rp r 9 1 r 8 = -4 ∧ up2 D.rp r 9 1 r 7 = 0) ∧ (¬ up2 D.rp r 9 1 r 4 = -4 → 0 ≤ up2 D.rp r 9 1 r 5 ∧ ¬ up2 D.rp r 9 1 r 6 = -4 ∧ up2 D.rp r 9 1 r 8 = -4) ∧ (up2 D.rp r 9 1 r 6 = -4 ∨ (0 ≤ up2 D.rp r 9 1 r 6 ∧ up2 D.rp r 9 1 r 6 < 12)) ∧ (up2 D.rp r 9 1 r 8 = -4 ∨ (0 ≤ up2 D.rp r 9 1 r 8 ∧ up2 D.rp r 9 1 r 8 ≤ q))
      rw [up2_c, up2_b (by decide), up2_b (by decide), up2_b (by decide), up2_b (by decide), up2_b (by decide), up2_b (by decide), up2_b (by decide)]
      simp (disch := decide) only [ms_q, ms_f, and_self, if_true]
      obtain ⟨w1, w2, w3, w4, w5, w6, w7, w8, w9, w10, w11, w12⟩ := w
      exact ⟨w1, w2, w3, w4, ⟨trivial, w5.2⟩, w6, w7, w8, w9, w10, w11, w12⟩
    · refine (h1 o o0 o1).loc (fun f => up2_a e) (fun z z0 z1 _ => ?_) Iff.rfl
      by_cases e1 : z = 111
      · rw [e1, ms_f, if_neg (fun w => e w.2)]
      · rw [ms_q e1]
  · have := h2 z z0 z1
    rw [ms_q (by decide), ms_q (by decide), ms_q (by decide)]
    exact this
  · have w := q3 j j0 j1 j2
    rw [ms_q (by decide)]
    exact ⟨w.1, (ea _).mpr w.2.1, w.2.2⟩
  · rw [ms_q (by decide)]
    exact q4 j k j0 jk k1 j2 k2
/-- a rope waits -/
theorem rel_wait {X : DX} {D : DD} {T : Mem} {q t c i : Int} (h : RelD X D T q t c i) (hi : i < D.qn) : RelD X (mkD (up2 D.rp (D.qu i) 10 (w32 (D.rp (D.qu i) 10 + 1))) D.ta D.ly D.ar (updI D.qu c (D.qu i)) D.qn D.sn) (mset T 117 0 (D.qu i) (w32 (T 117 0 (D.qu i) + 1))) q t (c + 1) (i + 1) := by
  obtain ⟨h1, h2, h3⟩ := h
  have w := h3.2.2.1 i (by have := h3.1; omega) hi (Or.inr (Int.le_refl _))
  refine ⟨fun o o0 o1 => ?_, fun z z0 z1 => ?_, rq_keep h3 hi rfl rfl (fun o => ?_) (fun o => by rw [ms_q (by decide)])⟩
  · by_cases e : o = D.qu i
    · rw [e]
      have w := h1 _ w.1.1 w.1.2
      unfold RO at w ⊢
      simp (disch := decide) only [mk_rp, ms_q, ms_f, and_self, if_true, up2_c, up2_b]
      obtain ⟨w1, w2, w3, w4, w5, w6, w7, w8, w9, w10, w11, w12⟩ := w
      exact ⟨w1, w2, w3, w4, ⟨w5.1, w5.2.1, by rw [w5.2.2.1], w5.2.2.2⟩, w6, w7, w8, w9, w10, w11, w12⟩
    · refine (h1 o o0 o1).loc (fun f => up2_a e) (fun z z0 z1 _ => ?_) Iff.rfl
      by_cases e1 : z = 117
      · rw [e1, ms_f, if_neg (fun w => e w.2)]
      · rw [ms_q e1]
  · have := h2 z z0 z1
    rw [ms_q (by decide), ms_q (by decide), ms_q (by decide)]
    exact this
  · unfold atP
    show (¬ up2 D.rp (D.qu i) 10 _ o 6 = -4 ∧ up2 D.rp (D.qu i) 10 _ o 4 = -4 ∧ up2 D.rp (D.qu i) 10 _ o 8 = -4) ↔ _
    rw [up2_b (by decide), up2_b (by decide), up2_b (by decide)]
/-- a rope goes on -/
theorem rel_goes {X : DX} {D : DD} {T : Mem} {q t c i k u : Int} (h : RelD X D T q t c i) (hi : i < D.qn) (hk : 0 ≤ k) (hu : 0 ≤ u) : RelD X (mkD (up2 (up2 D.rp (D.qu i) 4 k) (D.qu i) 5 u) D.ta D.ly D.ar D.qu D.qn D.sn) (mset T 115 0 (D.qu i) u) q t c (i + 1) := by
  obtain ⟨h1, h2, h3⟩ := h
  have w := h3.2.2.1 i (by have := h3.1; omega) hi (Or.inr (Int.le_refl _))
  refine ⟨fun o o0 o1 => ?_, fun z z0 z1 => ?_, rq_drop h3 hi rfl rfl (fun o ho => ?_) (fun z => ?_) (fun o => by rw [ms_q (by decide)])⟩
  · by_cases e : o = D.qu i
    · rw [e]
      obtain ⟨a1, a2, a3⟩ := w.2.1
      have w := h1 _ w.1.1 w.1.2
      unfold RO at w ⊢
      simp (disch := decide) only [mk_rp, ms_q, ms_f, and_self, if_true, up2_c, up2_b]
      obtain ⟨w1, w2, w3, w4, w5, w6, w7, w8, w9, w10, w11, w12⟩ := w
      exact ⟨w1, w2, w3, w4, w5, fun z => by omega, fun _ => trivial, w8, fun z => absurd z a1, fun _ => ⟨hu, a1, a3⟩, w11, w12⟩
    · refine (h1 o o0 o1).loc (fun f => by show up2 (up2 D.rp (D.qu i) 4 k) (D.qu i) 5 u o f = _; rw [up2_a e, up2_a e]) (fun z z0 z1 _ => ?_) Iff.rfl
      by_cases e1 : z = 115
      · rw [e1, ms_f, if_neg (fun w => e w.2)]
      · rw [ms_q e1]
  · have := h2 z z0 z1
    rw [ms_q (by decide), ms_q (by decide), ms_q (by decide)]
    exact this
  · unfold atP
    show (¬ up2 (up2 D.rp (D.qu i) 4 k) (D.qu i) 5 u o 6 = -4 ∧ up2 (up2 D.rp (D.qu i) 4 k) (D.qu i) 5 u o 4 = -4 ∧ up2 (up2 D.rp (D.qu i) 4 k) (D.qu i) 5 u o 8 = -4) ↔ _
    rw [up2_a ho, up2_a ho, up2_a ho, up2_a ho, up2_a ho, up2_a ho]
  · have := z.2.1
    have e : up2 (up2 D.rp (D.qu i) 4 k) (D.qu i) 5 u (D.qu i) 4 = k := by rw [up2_b (by decide), up2_c]
    have e2 : up2 (up2 D.rp (D.qu i) 4 k) (D.qu i) 5 u (D.qu i) 4 = -4 := this
    omega
theorem RelD.sw {X : DX} {D : DD} {T T1 : Mem} {q t c i : Int} (h : RelD X D T q t c i) (hT : ∀ p : Nat, p ≠ 122 → T1 p = T p) : RelD X D T1 q t c i := by
  obtain ⟨h1, h2, h3, h4, h5, h6⟩ := h
  refine ⟨fun o o0 o1 => ?_, fun z z0 z1 => ?_, h3, h4, fun j j0 j1 j2 => ?_, fun j k j0 jk k1 a b => ?_⟩
  · exact (h1 o o0 o1).loc (fun _ => rfl) (fun z z0 z1 _ => by rw [hT z (by omega)]) Iff.rfl
  · rw [hT 119 (by decide), hT 120 (by decide), hT 121 (by decide)]
    exact h2 z z0 z1
  · rw [hT 114 (by decide)]
    exact h5 j j0 j1 j2
  · rw [hT 114 (by decide)]
    exact h6 j k j0 jk k1 a b
theorem lgS_0 {X : DX} {q i c : Int} {D : DD} (h : (waD X (D.qu i) q D).1 = 0) : lgS X q i (c, D) = (c, (waD X (D.qu i) q D).2) := if_pos h
theorem lgS_1 {X : DX} {q i c : Int} {D : DD} (h : ¬ (waD X (D.qu i) q D).1 = 0) : lgS X q i (c, D) = (c + 1, (mkD (((waD X (D.qu i) q D).2).rp) (((waD X (D.qu i) q D).2).ta) (((waD X (D.qu i) q D).2).ly) (((waD X (D.qu i) q D).2).ar) (updI (waD X (D.qu i) q D).2.qu c ((waD X (D.qu i) q D).2.qu i)) (((waD X (D.qu i) q D).2).qn) (((waD X (D.qu i) q D).2).sn))) := if_neg h
/-- what is decided -/
theorem rel_wa {X : DX} {D : DD} {T : Mem} {q t c i : Int} (hX : XOK X) (hk : dOK X D) (hq : 0 ≤ q ∧ q ≤ 95) (ht : ∀ r, 0 ≤ r → r < X.n → ∀ j, 0 ≤ j → j < X.si (X.rt r) → X.tm (X.ro (X.rt r) j) (X.rs r) q = -5 ∨ (0 ≤ X.tm (X.ro (X.rt r) j) (X.rs r) q ∧ X.tm (X.ro (X.rt r) j) (X.rs r) q ≤ 1000000)) (h : RelD X D T q t c i) (hi : i < D.qn) :
    RelD X (lgS X q i (c, D)).2 (deT X (D.qu i) q T) q t (lgS X q i (c, D)).1 (i + 1) := by
  have w := h.2.2.2.2.1 i (by have := h.2.2.1; omega) hi (Or.inr (Int.le_refl _))
  have wo := h.1 _ w.1.1 w.1.2
  have wk := hk.2.2 _ w.1.1 w.1.2
  obtain ⟨x1, x2, x3, x4, x5, x6⟩ := hX.2 _ w.1.1 w.1.2
  have e7 : T 112 0 (D.qu i) = D.rp (D.qu i) 7 := wo.2.2.2.2.1.2.1
  have qe := wa_qu (X := X) (D := D) (q := q) (r := D.qu i)
  by_cases c1 : X.si (X.rt (D.qu i)) ≤ D.rp (D.qu i) 7
  · have ew : waD X (D.qu i) q D = (0, finD X (D.qu i) q D) := by
      unfold waD
      rw [if_pos c1]
    have em : deT X (D.qu i) q T = doT X (D.qu i) q T := by
      unfold deT
      rw [e7, if_pos (by omega)]
    rw [lgS_0 (by rw [ew]), em, ew]
    exact rel_fin hq.1 h hi
  · by_cases c2 : X.tm (X.ro (X.rt (D.qu i)) (D.rp (D.qu i) 7)) (X.rs (D.qu i)) q = -5 ∨ ¬ X.bk (X.rt (D.qu i)) q (X.pe (D.qu i)) = -4
    · have ew : waD X (D.qu i) q D = (0, finD X (D.qu i) q (mkD (up2 D.rp (D.qu i) 9 1) D.ta D.ly D.ar D.qu D.qn D.sn)) := by
        unfold waD
        rw [if_neg c1, if_pos c2]
      have em : deT X (D.qu i) q T = doT X (D.qu i) q (mset T 111 0 (D.qu i) 1) := by
        unfold deT
        rw [e7, if_neg (by omega), if_pos c2]
      rw [lgS_0 (by rw [ew]), em, ew]
      exact rel_fin hq.1 (rel_turn (r := D.qu i) h) hi
    · have ts := ht (D.qu i) w.1.1 w.1.2 (D.rp (D.qu i) 7) wk.1.1 (by omega)
      have k6 := x6 (D.rp (D.qu i) 7) wk.1.1 (by omega)
      have n1 := hX.1
      have eb := brT_sp (k := X.ro (X.rt (D.qu i)) (D.rp (D.qu i) 7)) h.1 hk (by omega) X.n.toNat (by omega)
      rw [Int.toNat_of_nonneg n1.1] at eb
      by_cases c3 : ¬ X.nw (X.ro (X.rt (D.qu i)) (D.rp (D.qu i) 7)) = 0 ∧ brN D (X.ro (X.rt (D.qu i)) (D.rp (D.qu i) 7)) X.n = 1
      · have ew : waD X (D.qu i) q D = (1, (mkD (up2 D.rp (D.qu i) 10 (w32 (D.rp (D.qu i) 10 + 1))) D.ta D.ly D.ar D.qu D.qn D.sn)) := by
          unfold waD
          rw [if_neg c1, if_neg c2, if_pos c3]
        have em : deT X (D.qu i) q T = mset T 117 0 (D.qu i) (w32 (T 117 0 (D.qu i) + 1)) := by
          unfold deT
          rw [e7, if_neg (by omega), if_neg c2, eb, if_pos c3]
        rw [lgS_1 (by rw [ew]; exact fun z : (1 : Int) = 0 => absurd z (by decide)), em, ew]
        exact rel_wait h hi
      · have ew : waD X (D.qu i) q D = (0, (mkD (up2 (up2 D.rp (D.qu i) 4 (X.ro (X.rt (D.qu i)) (D.rp (D.qu i) 7))) (D.qu i) 5 (w32 (q + X.tm (X.ro (X.rt (D.qu i)) (D.rp (D.qu i) 7)) (X.rs (D.qu i)) q))) D.ta D.ly D.ar D.qu D.qn D.sn)) := by
          unfold waD
          rw [if_neg c1, if_neg c2, if_neg c3]
        have em : deT X (D.qu i) q T = mset T 115 0 (D.qu i) (w32 (q + X.tm (X.ro (X.rt (D.qu i)) (D.rp (D.qu i) 7)) (X.rs (D.qu i)) q)) := by
          unfold deT
          rw [e7, if_neg (by omega), if_neg c2, eb, if_neg c3]
        rw [lgS_0 (by rw [ew]), em, ew]
        refine rel_goes h hi k6.1.1 ?_
        rw [w32_e (by omega) (by omega)]
        omega
/-- who is decided in this quarter -/
def RE (D : DD) (T : Mem) (c i : Int) : Prop := (∀ j, 0 ≤ j → j < c → T 122 0 (D.qu j) = 1) ∧ (∀ j, i ≤ j → j < D.qn → T 122 0 (D.qu j) = 0)
theorem de_122 {X : DX} {o q : Int} {T : Mem} : deT X o q T 122 = T 122 := by
  have d : ∀ T : Mem, doT X o q T 122 = T 122 := fun T => by
    unfold doT
    rw [ms_q (by decide), ms_q (by decide), ms_q (by decide), ms_q (by decide), ms_q (by decide)]
  unfold deT
  split
  · exact d T
  · split
    · rw [d, ms_q (by decide)]
    · split <;> rw [ms_q (by decide)]
theorem re_wa {X : DX} {D : DD} {T : Mem} {q t c i : Int} (h : RelD X D T q t c i) (he : RE D T c i) (hi : i < D.qn) : RE (lgS X q i (c, D)).2 (deT X (D.qu i) q (mset T 122 0 (D.qu i) 1)) (lgS X q i (c, D)).1 (i + 1) := by
  have ne := fun {j : Int} => rq_ne (j := j) h.2.2 hi
  have q1 := h.2.2.1
  have qe := wa_qu (X := X) (D := D) (q := q) (r := D.qu i)
  unfold RE
  rw [de_122]
  by_cases c0 : (waD X (D.qu i) q D).1 = 0
  · rw [lgS_0 c0]
    show (∀ j, 0 ≤ j → j < c → mset T 122 0 (D.qu i) 1 122 0 ((waD X (D.qu i) q D).2.qu j) = 1) ∧ (∀ j, i + 1 ≤ j → j < (waD X (D.qu i) q D).2.qn → mset T 122 0 (D.qu i) 1 122 0 ((waD X (D.qu i) q D).2.qu j) = 0)
    rw [qe.1, qe.2.1]
    refine ⟨fun j j0 j1 => ?_, fun j j0 j1 => ?_⟩
    · rw [ms_f, if_neg (fun z => ne j0 (by omega) (Or.inl j1) z.2)]
      exact he.1 j j0 j1
    · rw [ms_f, if_neg (fun z => ne (by omega) j1 (Or.inr j0) z.2)]
      exact he.2 j (by omega) j1
  · rw [lgS_1 c0, qe.1]
    show (∀ j, 0 ≤ j → j < c + 1 → mset T 122 0 (D.qu i) 1 122 0 (updI D.qu c (D.qu i) j) = 1) ∧ (∀ j, i + 1 ≤ j → j < (waD X (D.qu i) q D).2.qn → mset T 122 0 (D.qu i) 1 122 0 (updI D.qu c (D.qu i) j) = 0)
    rw [qe.2.1]
    unfold updI
    refine ⟨fun j j0 j1 => ?_, fun j j0 j1 => ?_⟩
    · by_cases e : j = c
      · rw [if_pos e, ms_f, if_pos ⟨rfl, rfl⟩]
      · rw [if_neg e, ms_f, if_neg (fun z => ne j0 (by omega) (Or.inl (by omega)) z.2)]
        exact he.1 j j0 (by omega)
    · rw [if_neg (by omega), ms_f, if_neg (fun z => ne (by omega) j1 (Or.inr j0) z.2)]
      exact he.2 j (by omega) j1
/-- who may be decided, and who is first -/
def mayT (T : Mem) (o : Int) : Prop := ¬ T 109 0 o = 0 ∧ T 115 0 o = -4 ∧ T 110 0 o = 0 ∧ T 122 0 o = 0
theorem may_q {X : DX} {D : DD} {T : Mem} {q t c i : Int} (h : RelD X D T q t c i) (he : RE D T c i) {o : Int} (o0 : 0 ≤ o) (o1 : o < X.n) : mayT T o ↔ ∃ j, i ≤ j ∧ j < D.qn ∧ D.qu j = o := by
  obtain ⟨h1, h2, q1, q2, q3, q4⟩ := h
  obtain ⟨w1, w2, w3, w4, w5, w6, w7, w8, w9, w10, w11, w12⟩ := h1 o o0 o1
  unfold mayT
  refine ⟨fun ⟨a, b, d, e⟩ => ?_, fun ⟨j, j0, j1, j2⟩ => ?_⟩
  · have n6 : ¬ D.rp o 6 = -4 := fun z => a (w1 z)
    have n4 : D.rp o 4 = -4 := by
      rcases Classical.em (D.rp o 4 = -4) with z | z
      · exact z
      · have := w7 z
        have := w10 z
        omega
    have n8 : D.rp o 8 = -4 := by
      rcases Classical.em (D.rp o 8 = -4) with z | z
      · exact z
      · have := (w4 z).1
        omega
    obtain ⟨j, j0, j1, j2, j3⟩ := q2 o o0 o1 ⟨n6, n4, n8⟩
    rcases j2 with z | z
    · have := he.1 j j0 z
      rw [j3] at this
      omega
    · exact ⟨j, z, j1, j3⟩
  · have z := (q3 j (by omega) j1 (Or.inr j0)).2.1
    rw [j2] at z
    have y := he.2 j j0 j1
    rw [j2] at y
    exact ⟨by have := (w2 z.1).1; omega, w6 z.2.1, w3 z.2.2, y⟩
def FI (T : Mem) (f m : Int) : Prop := (f = -4 ∧ ∀ o, 0 ≤ o → o < m → ¬ mayT T o) ∨ ((0 ≤ f ∧ f < m) ∧ mayT T f ∧ ∀ o, 0 ≤ o → o < m → mayT T o → T 114 0 f < T 114 0 o ∨ (T 114 0 f = T 114 0 o ∧ f ≤ o))
theorem FI.a {T : Mem} {f m : Int} (h : FI T f m) (hm : 0 ≤ m) (c : mayT T m) (c2 : f = -4 ∨ T 114 0 m < T 114 0 f) : FI T m (m + 1) := by
  refine Or.inr ⟨⟨hm, by omega⟩, c, fun o o0 o1 ho => ?_⟩
  by_cases e : o = m
  · rw [e]
    exact Or.inr ⟨rfl, Int.le_refl _⟩
  · rcases h with ⟨a, b⟩ | ⟨a, b, d⟩
    · exact absurd ho (b o o0 (by omega))
    · have := d o o0 (by omega) ho
      omega
theorem FI.b {T : Mem} {f m : Int} (h : FI T f m) (c : ¬ mayT T m ∨ (¬ f = -4 ∧ ¬ T 114 0 m < T 114 0 f)) : FI T f (m + 1) := by
  rcases h with ⟨a, b⟩ | ⟨a, b, d⟩
  · refine Or.inl ⟨a, fun o o0 o1 ho => ?_⟩
    by_cases e : o = m
    · rw [e] at ho
      exact c.elim (fun z => z ho) (fun z => z.1 a)
    · exact b o o0 (by omega) ho
  · refine Or.inr ⟨⟨a.1, by omega⟩, b, fun o o0 o1 ho => ?_⟩
    by_cases e : o = m
    · rw [e] at ho ⊢
      rcases c with z | z
      · exact absurd ho z
      · omega
    · exact d o o0 (by omega) ho
theorem FI.of {X : DX} {D : DD} {T : Mem} {q t c i f : Int} (h : RelD X D T q t c i) (he : RE D T c i) (hf : FI T f X.n) : (f = -4 ∧ i = D.qn) ∨ (i < D.qn ∧ f = D.qu i) := by
  have q1 := h.2.2.1
  have q3 := h.2.2.2.2.1
  have q4 := h.2.2.2.2.2
  rcases Int.lt_or_le i D.qn with hi | hi
  · have z := q3 i (by omega) hi (Or.inr (Int.le_refl _))
    have m := (may_q h he z.1.1 z.1.2).mpr ⟨i, Int.le_refl _, hi, rfl⟩
    rcases hf with ⟨a, b⟩ | ⟨a, b, d⟩
    · exact absurd m (b _ z.1.1 z.1.2)
    · refine Or.inr ⟨hi, ?_⟩
      obtain ⟨j, j0, j1, j2⟩ := (may_q h he a.1 a.2).mp b
      have y := d _ z.1.1 z.1.2 m
      by_cases e : j = i
      · rw [← j2, e]
      · have := q4 i j (by omega) (by omega) j1 (Or.inr (Int.le_refl _)) (Or.inr j0)
        rw [j2] at this
        omega
  · refine Or.inl ⟨?_, by omega⟩
    rcases hf with ⟨a, b⟩ | ⟨a, b, d⟩
    · exact a
    · obtain ⟨j, j0, j1, j2⟩ := (may_q h he a.1 a.2).mp b
      omega
/-- the next quarter -/
theorem rel_next {X : DX} {D : DD} {T : Mem} {q c : Int} {sn : Int → Int → Int} (h : RelD X D T q X.n c D.qn) : RelD X (mkD D.rp D.ta D.ly D.ar D.qu c sn) T (q + 1) 0 0 0 := by
  obtain ⟨h1, h2, q1, q2, q3, q4⟩ := h
  refine ⟨fun o o0 o1 => ?_, h2, ⟨Int.le_refl _, Int.le_refl _, q1.1⟩, fun o o0 o1 ha => ?_, fun j j0 j1 _ => ?_, fun j k j0 jk k1 _ _ => ?_⟩
  · obtain ⟨w1, w2, w3, w4, w5, w6, w7, w8, w9, w10, w11, w12⟩ := h1 o o0 o1
    refine ⟨w1, w2, w3, w4, w5, w6, w7, ?_, w9, w10, w11, ?_⟩
    · show D.rp o 6 = -4 ↔ _
      rw [w8]
      omega
    · show D.rp o 8 = -4 ∨ (0 ≤ D.rp o 8 ∧ D.rp o 8 ≤ q + 1)
      omega
  · obtain ⟨j, j0, j1, j2, j3⟩ := q2 o o0 o1 ha
    exact ⟨j, j0, by show j < c; omega, Or.inr j0, j3⟩
  · have j1' : j < c := j1
    have z := q3 j j0 (by omega) (Or.inl j1')
    exact ⟨z.1, z.2.1, Or.inl (by show T 114 0 (D.qu j) < q + 1; omega)⟩
  · have k1' : k < c := k1
    exact q4 j k j0 jk (by omega) (Or.inl (by omega)) (Or.inl k1')
theorem ze_in {D : DD} : ∀ k : Nat, (∀ p, 0 ≤ p → p < (k : Int) → (itI zeD D (k : Int)).ta p = 0 ∧ (itI zeD D (k : Int)).ly p = 0 ∧ (itI zeD D (k : Int)).ar p = 0)
  | 0, p, p0, p1 => absurd p1 (by omega)
  | k + 1, p, p0, p1 => by
    have e : ((k + 1 : Nat) : Int) = (k : Int) + 1 := by omega
    rw [e, itI_succ (by omega)]
    show updI _ _ _ p = 0 ∧ updI _ _ _ p = 0 ∧ updI _ _ _ p = 0
    unfold updI
    by_cases h : p = (k : Int)
    · simp only [if_pos h]
      exact ⟨trivial, trivial, trivial⟩
    · simp only [if_neg h]
      exact ze_in k p p0 (by omega)
theorem rel_0z {X : DX} {Z : DD} {T : Mem} (hX : XOK X) (z1 : ∀ p, 0 ≤ p → p < 12 → Z.ta p = 0 ∧ Z.ly p = 0 ∧ Z.ar p = 0) (h1 : ∀ o, 0 ≤ o → o < 8 → T 109 0 o = 0 ∧ T 110 0 o = 0 ∧ T 111 0 o = 0 ∧ T 112 0 o = 0 ∧ T 115 0 o = -4 ∧ T 117 0 o = 0 ∧ T 118 0 o = 0) (h2 : ∀ p, 0 ≤ p → p < 12 → T 119 0 p = 0 ∧ T 120 0 p = 0 ∧ T 121 0 p = 0) : RelD X (itI rsD (mkD Z.rp Z.ta Z.ly Z.ar Z.qu 0 Z.sn) X.n) T 0 0 0 0 := by
  have n1 := hX.1
  have en : ((X.n.toNat : Nat) : Int) = X.n := Int.toNat_of_nonneg n1.1
  have r1 := rs_in (D := mkD Z.rp Z.ta Z.ly Z.ar Z.qu 0 Z.sn) X.n.toNat
  have r2 := rs_qn (D := mkD Z.rp Z.ta Z.ly Z.ar Z.qu 0 Z.sn) X.n.toNat
  rw [en] at r1 r2
  have eq : (itI rsD (mkD Z.rp Z.ta Z.ly Z.ar Z.qu 0 Z.sn) X.n).qn = 0 := by
    rw [r2, mk_qn, mk_qn]
  refine ⟨fun o o0 o1 => ?_, fun p p0 p1 => ?_, ?_, fun o o0 o1 ha => ?_, fun j j0 j1 => ?_, fun j k j0 jk k1 => ?_⟩
  · obtain ⟨⟨a1, a2, a3, a4⟩, a5, a6, a7, a8⟩ := r1 o o0 o1
    obtain ⟨b1, b2, b3, b4, b5, b6, b7⟩ := h1 o o0 (by omega)
    have x3 := (hX.2 o o0 o1).2.2.1
    unfold RO
    rw [a1, a3, a4, a5, a6, a7, a8, b1, b2, b3, b4, b5, b6, b7]
    exact ⟨fun _ => rfl, fun z => absurd rfl z, fun _ => rfl, fun z => absurd rfl z, ⟨rfl, rfl, rfl, rfl⟩, fun _ => rfl, fun z => absurd rfl z, ⟨fun _ => by omega, fun _ => rfl⟩, fun _ => ⟨rfl, rfl, rfl⟩, fun z => absurd rfl z, Or.inl rfl, Or.inl rfl⟩
  · have z := z1 p p0 p1
    have y := h2 p p0 p1
    rw [r2, mk_ta, mk_ta, mk_ly, mk_ly, mk_ar, mk_ar]
    omega
  · rw [eq]
    omega
  · have := ha.1
    have a3 := (r1 o o0 o1).1.2.2.1
    exact absurd a3 this
  · rw [eq] at j1
    omega
  · rw [eq] at k1
    omega
theorem rel_0 {X : DX} {D : DD} {T : Mem} (hX : XOK X) (h1 : ∀ o, 0 ≤ o → o < 8 → T 109 0 o = 0 ∧ T 110 0 o = 0 ∧ T 111 0 o = 0 ∧ T 112 0 o = 0 ∧ T 115 0 o = -4 ∧ T 117 0 o = 0 ∧ T 118 0 o = 0) (h2 : ∀ p, 0 ≤ p → p < 12 → T 119 0 p = 0 ∧ T 120 0 p = 0 ∧ T 121 0 p = 0) : RelD X (d0D X D) T 0 0 0 0 := by
  unfold d0D
  exact rel_0z hX (fun p a b => ze_in (D := D) 12 p a b) h1 h2
def lkV (D : DD) (r : Int) : Int := if D.rp r 4 = -4 then D.rp r 6 else w32 (100 + D.rp r 4)
theorem lk_sn {q : Int} {D : DD} : ∀ k : Nat, ∀ r, 0 ≤ r → r < (k : Int) → (lkN q D (k : Int)).sn r q = lkV D r
  | 0, r, r0, r1 => absurd r1 (by omega)
  | k + 1, r, r0, r1 => by
    have e : ((k + 1 : Nat) : Int) = (k : Int) + 1 := by omega
    have ek := lk_eq (q := q) (D := D) k
    rw [e, lkN_s (by omega)]
    show up2 (lkN q D (k : Int)).sn (k : Int) q (if (lkN q D (k : Int)).rp (k : Int) 4 = -4 then (lkN q D (k : Int)).rp (k : Int) 6 else w32 (100 + (lkN q D (k : Int)).rp (k : Int) 4)) r q = _
    have er : (lkN q D (k : Int)).rp = D.rp := by rw [ek, mk_rp]
    rw [er]
    by_cases h : r = (k : Int)
    · rw [h, up2_c]
      rfl
    · rw [up2_a h]
      exact lk_sn k r r0 (by omega)
theorem lk_sn' {q q' : Int} {D : DD} (hq : q' ≠ q) : ∀ k : Nat, ∀ r, (lkN q D (k : Int)).sn r q' = D.sn r q'
  | 0, r => rfl
  | k + 1, r => by
    have e : ((k + 1 : Nat) : Int) = (k : Int) + 1 := by omega
    rw [e, lkN_s (by omega)]
    show up2 (lkN q D (k : Int)).sn (k : Int) q _ r q' = _
    rw [up2_b hq]
    exact lk_sn' hq k r
theorem lc_sn {X : DX} {q : Int} {D : DD} : ∀ k : Nat, (lcN X q D (k : Int)).sn = D.sn
  | 0 => rfl
  | k + 1 => by
    have e : ((k + 1 : Nat) : Int) = (k : Int) + 1 := by omega
    have ih := lc_sn (X := X) (q := q) (D := D) k
    rw [e, lcN_s (by omega)]
    unfold lcS
    split
    · exact ih
    · split
      · exact ih
      · exact ih
theorem lg_sn {X : DX} {q : Int} {D : DD} : ∀ k : Nat, (lgN X q D (k : Int)).2.sn = D.sn
  | 0 => rfl
  | k + 1 => by
    have e : ((k + 1 : Nat) : Int) = (k : Int) + 1 := by omega
    have ih := lg_sn (X := X) (q := q) (D := D) k
    rw [e, lgN_s (by omega)]
    have w := (wa_qu (X := X) (D := (lgN X q D (k : Int)).2) (q := q) (r := (lgN X q D (k : Int)).2.qu (k : Int))).2.2.2
    unfold lgS
    simp only []
    split
    · exact w.trans ih
    · exact w.trans ih
theorem qu_sn {X : DX} {q q' r : Int} {D : DD} (hX : XOK X) (hD : dOK X D) (hr : 0 ≤ r ∧ r < X.n) : (quD X q D).sn r q' = if q' = q then lkV (quD X q D) r else D.sn r q' := by
  have n1 := hX.1
  have en : ((X.n.toNat : Nat) : Int) = X.n := Int.toNat_of_nonneg n1.1
  have hl := ok_lcI (q := q) hX hD ⟨n1.1, Int.le_refl _⟩
  have hg := (hl.1).1
  have e2 : ((((lcN X q D X.n).qn).toNat : Nat) : Int) = (lcN X q D X.n).qn := Int.toNat_of_nonneg hg
  have er : (quD X q D).rp = (lgD X q (lcN X q D X.n)).rp := by
    unfold quD
    rw [lk_eqI n1.1, mk_rp]
  by_cases h : q' = q
  · rw [if_pos h, h]
    have := lk_sn (q := q) (D := lgD X q (lcN X q D X.n)) X.n.toNat r hr.1 (by omega)
    rw [en] at this
    unfold lkV at this ⊢
    rw [er, ← this]
    rfl
  · rw [if_neg h]
    have a := lk_sn' (D := lgD X q (lcN X q D X.n)) h X.n.toNat r
    rw [en] at a
    have b := lg_sn (X := X) (q := q) (D := lcN X q D X.n) ((lcN X q D X.n).qn).toNat
    rw [e2] at b
    have c := lc_sn (X := X) (q := q) (D := D) X.n.toNat
    rw [en] at c
    show (lkN q (lgD X q (lcN X q D X.n)) X.n).sn r q' = _
    rw [a]
    show (lgN X q (lcN X q D X.n) (lcN X q D X.n).qn).2.sn r q' = _
    rw [b, c]
/-- what was seen in a quarter -/
theorem dy_sn {X : DX} {D : DD} {r q : Int} (hX : XOK X) (hr : 0 ≤ r ∧ r < X.n) (hq : 0 ≤ q) : ∀ k : Nat, q < (k : Int) → (dyN X D (k : Int)).sn r q = lkV (dyN X D (q + 1)) r
  | 0, h => absurd h (by omega)
  | k + 1, h => by
    have e : ((k + 1 : Nat) : Int) = (k : Int) + 1 := by omega
    rw [e, dyN_s (by omega), qu_sn hX (ok_dyN hX k) hr]
    by_cases c : q = (k : Int)
    · rw [if_pos c, c, dyN_s (by omega)]
    · rw [if_neg c]
      exact dy_sn hX hr hq k (by omega)
/-! ===== the day: what the model's quarter keeps ===== -/
theorem RelD.cg {X : DX} {D : DD} {T T1 : Mem} {q t c i : Int} (h : RelD X D T q t c i) (hT : ∀ p : Nat, 109 ≤ p → p ≤ 121 → T1 p = T p) : RelD X D T1 q t c i := by
  obtain ⟨h1, h2, h3, h4, h5, h6⟩ := h
  refine ⟨fun o o0 o1 => ?_, fun z z0 z1 => ?_, h3, h4, fun j j0 j1 j2 => ?_, fun j k j0 jk k1 a b => ?_⟩
  · exact (h1 o o0 o1).loc (fun _ => rfl) (fun z z0 z1 _ => by rw [hT z (by omega) (by omega)]) Iff.rfl
  · rw [hT 119 (by decide) (by decide), hT 120 (by decide) (by decide), hT 121 (by decide) (by decide)]
    exact h2 z z0 z1
  · rw [hT 114 (by decide) (by decide)]
    exact h5 j j0 j1 j2
  · rw [hT 114 (by decide) (by decide)]
    exact h6 j k j0 jk k1 a b
theorem up2_self {R : Int → Int → Int} {i j : Int} : up2 R i j (R i j) = R := by
  funext a b
  unfold up2
  split
  · rename_i h
    rw [h.1, h.2]
  · rfl
theorem rel_lcA {X : DX} {D : DD} {T : Mem} {q o : Int} (hX : XOK X) (h : RelD X D T q o 0 0) (ho : 0 ≤ o ∧ o < X.n) (c1 : T 109 0 o = 0) (c2 : X.sa o = q) : RelD X (lcS X q o D) (cmT o (X.fr (X.ro (X.rt o) 0)) q (mset (mset T 122 0 o 0) 109 0 o 1)) q (o + 1) 0 0 := by
  obtain ⟨w1, w2, w3, w4, w5, w6, w7, w8, w9, w10, w11, w12⟩ := h.1 o ho.1 ho.2
  obtain ⟨x1, x2, x3, x4, x5, x6⟩ := hX.2 o ho.1 ho.2
  have n6 : D.rp o 6 = -4 := by
    rcases Classical.em (D.rp o 6 = -4) with z | z
    · exact z
    · have := (w2 z).1
      omega
  have eD : D = (mkD (up2 D.rp o 7 (D.rp o 7)) D.ta D.ly D.ar D.qu D.qn D.sn) := by
    rw [up2_self]
    rfl
  have z := rel_come (r := o) (p := X.fr (X.ro (X.rt o) 0)) (b := D.rp o 7) (D1 := (mkD (up2 D.rp o 7 (D.rp o 7)) D.ta D.ly D.ar D.qu D.qn D.sn)) (T1 := mset (mset T 122 0 o 0) 109 0 o 1) hX h ho (x6 0 (by omega) (by omega)).2.1 (fun a => a.1 n6) (Or.inr c2) (w9 n6).2.1 rfl
    (fun p x y a b c => by rw [ms_q b, ms_q a]) (fun p x y a => by
      by_cases e : p = 109
      · rw [e, ms_f, if_neg (fun z => a z.2), ms_q (by decide)]
      · rw [ms_q e]
        by_cases e2 : p = 122
        · rw [e2, ms_f, if_neg (fun z => a z.2)]
        · rw [ms_q e2]) ⟨by rw [ms_f, if_pos ⟨rfl, rfl⟩], by rw [ms_q (by decide), ms_q (by decide)]; exact w5.2.1⟩
  rw [← eD] at z
  unfold lcS
  rw [if_pos c2]
  exact z
theorem rel_lcB {X : DX} {D : DD} {T : Mem} {q o : Int} (hX : XOK X) (hD : dOK X D) (hq : 0 ≤ q) (h : RelD X D T q o 0 0) (ho : 0 ≤ o ∧ o < X.n) (c1 : ¬ T 109 0 o = 0) (c2 : T 115 0 o = q) : RelD X (lcS X q o D) (cmT o (X.to_ (X.ro (X.rt o) (T 112 0 o))) q (mset (mset T 122 0 o 0) 112 0 o (w32 (T 112 0 o + 1)))) q (o + 1) 0 0 := by
  obtain ⟨w1, w2, w3, w4, w5, w6, w7, w8, w9, w10, w11, w12⟩ := h.1 o ho.1 ho.2
  obtain ⟨x1, x2, x3, x4, x5, x6⟩ := hX.2 o ho.1 ho.2
  have k := hD.2.2 o ho.1 ho.2
  have n6 : ¬ D.rp o 6 = -4 := fun z => c1 (w1 z)
  have n4 : ¬ D.rp o 4 = -4 := fun z => by
    have := w6 z
    omega
  have sn : X.sa o < q := by
    have : ¬ ¬ (X.sa o < q ∨ (X.sa o = q ∧ o < o)) := fun z => n6 (w8.mpr z)
    omega
  obtain ⟨k1, k2⟩ := k
  rcases k2 with k2 | ⟨k2, k3⟩
  · exact absurd k2 n4
  have pp := (x6 (D.rp o 7) k1.1 k3).2.2
  have z := rel_come (r := o) (p := X.to_ (X.ro (X.rt o) (D.rp o 7))) (b := w32 (D.rp o 7 + 1)) (D1 := (mkD (up2 D.rp o 7 (w32 (D.rp o 7 + 1))) D.ta D.ly D.ar D.qu D.qn D.sn)) (T1 := mset (mset T 122 0 o 0) 112 0 o (w32 (D.rp o 7 + 1))) hX h ho pp (fun a => n4 a.2.1) (Or.inl sn) (w10 n4).2.2 rfl
    (fun p x y a b c => by rw [ms_q c, ms_q a]) (fun p x y a => by
      by_cases e : p = 112
      · rw [e, ms_f, if_neg (fun z => a z.2), ms_q (by decide)]
      · rw [ms_q e]
        by_cases e2 : p = 122
        · rw [e2, ms_f, if_neg (fun z => a z.2)]
        · rw [ms_q e2]) ⟨by rw [ms_q (by decide), ms_q (by decide)]; exact (w2 n6).1, by rw [ms_f, if_pos ⟨rfl, rfl⟩]⟩
  have u : D.rp o 5 = q := by
    rw [← w7 n4]
    exact c2
  unfold lcS
  rw [if_neg (by omega), if_pos ⟨n4, u⟩, w5.2.1, k2]
  exact z
theorem rel_lcC {X : DX} {D : DD} {T : Mem} {q o : Int} (h : RelD X D T q o 0 0) (ho : 0 ≤ o ∧ o < X.n) (c1 : T 109 0 o = 0 → ¬ X.sa o = q) (c2 : ¬ T 109 0 o = 0 → ¬ T 115 0 o = q) : RelD X (lcS X q o D) (mset T 122 0 o 0) q (o + 1) 0 0 := by
  obtain ⟨w1, w2, w3, w4, w5, w6, w7, w8, w9, w10, w11, w12⟩ := h.1 o ho.1 ho.2
  have z := rel_stay (T1 := mset T 122 0 o 0) h (fun p hp => ms_q hp) (fun z => c1 (w1 z))
  have n1 : ¬ X.sa o = q := fun z => by
    have n6 : D.rp o 6 = -4 := w8.mpr (by omega)
    exact c1 (w1 n6) z
  have n2 : ¬ (¬ D.rp o 4 = -4 ∧ D.rp o 5 = q) := fun ⟨a, b⟩ => by
    have y := w10 a
    have y2 := (w2 y.2.1).1
    exact c2 (by omega) (by rw [w7 a]; exact b)
  unfold lcS
  rw [if_neg n1, if_neg n2]
  exact z
theorem rel_end {X : DX} {D : DD} {T : Mem} {q i : Int} (hX : XOK X) (hD : dOK X D) (h : RelD X (lgN X q (lcN X q D X.n) i).2 T q X.n (lgN X q (lcN X q D X.n) i).1 i) (hi : i = (lcN X q D X.n).qn) : RelD X (quD X q D) T (q + 1) 0 0 0 := by
  have n1 := hX.1
  have hl := ok_lcI (q := q) hX hD ⟨n1.1, Int.le_refl _⟩
  have hg := ok_lgI (q := q) hl (i := i) ⟨by have := hl.1.1; omega, by omega⟩
  have e2 : (lgN X q (lcN X q D X.n) i).2.qn = i := by rw [hg.2.2, hi]
  rw [← e2] at h
  have z := rel_next (sn := (quD X q D).sn) (c := (lgN X q (lcN X q D X.n) i).1) (D := (lgN X q (lcN X q D X.n) i).2) (by
    have h' := h
    rw [e2] at h' ⊢
    exact h')
  have e3 : quD X q D = (mkD (((lgN X q (lcN X q D X.n) i).2).rp) (((lgN X q (lcN X q D X.n) i).2).ta) (((lgN X q (lcN X q D X.n) i).2).ly) (((lgN X q (lcN X q D X.n) i).2).ar) (((lgN X q (lcN X q D X.n) i).2).qu) ((lgN X q (lcN X q D X.n) i).1) ((quD X q D).sn)) := by
    have a := lk_eqI (q := q) (D := lgD X q (lcN X q D X.n)) n1.1
    have b : quD X q D = lkN q (lgD X q (lcN X q D X.n)) X.n := rfl
    rw [b, a]
    unfold lgD
    rw [← hi]
    simp only [mk_rp, mk_ta, mk_ly, mk_ar, mk_qu, mk_qn, mk_sn]
  rw [e3]
  exact z
