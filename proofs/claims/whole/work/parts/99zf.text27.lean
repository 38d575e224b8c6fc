/-! ===== text: the statute of both sides (wip/gen/txD.body) ===== -/
theorem LN_en {kd en mk mb : Int → Int} : ∀ (z : Nat) {c m : List Int}, LN kd en mk mb z c m → (if (z : Int) = 0 then 0 else en ((z : Int) - 1)) = (c.length : Int) ∧ (0 < z → mb (z : Int) = (m.length : Int))
  | 0, c, m, h => by
    rw [h.1, h.2]
    exact ⟨rfl, fun z => absurd z (by decide)⟩
  | z + 1, c, m, h => by
    obtain ⟨cur, mcur, prev, mprev, τ, h1, h2, h3, h4, h5, h6, h7, h8, h9, h10⟩ := h
    have ez : ((z + 1 : Nat) : Int) = (z : Int) + 1 := by omega
    rw [ez, if_neg (by omega), Int.add_sub_cancel]
    exact ⟨h6, fun _ => h8⟩
theorem LN_all {kd en mk mb C R : Int → Int} : ∀ (z : Nat) {c m : List Int}, LN kd en mk mb z c m → Hd C (c.length : Int) c → Hd R (m.length : Int) m → ∀ i : Int, 0 ≤ i → i < (z : Int) → (mk i = kd i ∧ 0 ≤ kd i ∧ kd i ≤ 3) ∧ (0 ≤ (if i = 0 then 0 else en (i - 1)) ∧ (if i = 0 then 0 else en (i - 1)) ≤ en i ∧ en i ≤ (c.length : Int)) ∧ (0 ≤ mb i ∧ mb (i + 1) ≤ (m.length : Int)) ∧ Seg C R (mb (i + 1)) (en i - (if i = 0 then 0 else en (i - 1))).toNat (if i = 0 then 0 else en (i - 1)) (mb i) false []
  | 0, c, m, _, _, _, i, h0, h1 => absurd h1 (by omega)
  | z + 1, c, m, h, hc, hm, i, h0, h1 => by
    obtain ⟨cur, mcur, prev, mprev, τ, g1, g2, g3, g4, g5, g6, g7, g8, g9, g10⟩ := h
    have lc := congrArg List.length g1
    have lm := congrArg List.length g2
    rw [List.length_append] at lc lm
    rw [g1] at hc
    rw [g2] at hm
    have hc2 := Hd_app _ _ _ hc
    have hm2 := Hd_app _ _ _ hm
    have ec : ((cur ++ prev).length : Int) - (cur.length : Int) = (prev.length : Int) := by rw [List.length_append]; omega
    have em : ((mcur ++ mprev).length : Int) - (mcur.length : Int) = (mprev.length : Int) := by rw [List.length_append]; omega
    rw [ec] at hc2
    rw [em] at hm2
    by_cases q : i < (z : Int)
    · have r := LN_all z g3 hc2.2 hm2.2 i h0 q
      have r1 := r.2.1.2.2
      have r2 := r.2.2.1.2
      exact ⟨r.1, ⟨r.2.1.1, r.2.1.2.1, by omega⟩, ⟨r.2.2.1.1, by omega⟩, r.2.2.2⟩
    · have ei : i = (z : Int) := by omega
      subst ei
      have e0 := (LN_en z g3).1
      rw [e0, g6, g7, g8]
      refine ⟨⟨g9, g10⟩, ⟨by omega, by omega, by omega⟩, ⟨by omega, by omega⟩, ?_⟩
      have s := Pre_Seg (f := (m.length : Int)) cur mcur false τ 0 _ _ g4 hc2.1 hm2.1 (show Seg C R _ 0 _ _ false τ from ⟨by rw [g2], rfl, g5⟩)
      rw [ec, em] at s
      have en : ((c.length : Int) - (prev.length : Int)).toNat = 0 + cur.length := by omega
      rw [en]
      exact s
/-- the model's text, read to its end -/
abbrev FRS (M M9 : Mem) : Prop := (∀ p, p ≠ 13 → p ≠ 91 → p ≠ 92 → p ≠ 93 → p ≠ 94 → p ≠ 95 → p ≠ 96 → p ≠ 97 → M9 p = M p) ∧ (∀ j, j ≠ 28 → j ≠ 29 → j ≠ 30 → j ≠ 31 → j ≠ 32 → j ≠ 33 → j ≠ 34 → j ≠ 35 → j ≠ 39 → j ≠ 43 → j ≠ 45 → M9 13 0 j = M 13 0 j)
def TxD (E : RSS) (M M9 : Mem) : Prop := FRS M M9 ∧ M9 13 0 28 = 0 ∧ (M9 13 0 33 = 0 ∧ E.1 = 0) ∧ (M9 13 0 35 = M9 13 0 39 ∧ 0 ≤ M9 13 0 39 ∧ M9 13 0 39 ≤ 12) ∧ (0 ≤ M9 13 0 43 ∧ M9 13 0 43 ≤ 240) ∧ cL E.2.2 = M9 13 0 39 ∧ LN (cK E.2.2) (cE E.2.2) (M9 94 0) (M9 95 0) (M9 13 0 39).toNat (cO E.2.2) (stk (M9 96 0) (M9 13 0 43).toNat)
def TxC (M9 : Mem) (i : Int) : Prop := ∀ j, 0 ≤ j → j < i → M9 91 0 j = M9 94 0 j ∧ M9 92 0 j = M9 95 0 j
def TxW (M9 : Mem) (i : Int) : Prop := ∀ j, 0 ≤ j → j < i → M9 93 0 j = M9 96 0 j
/-- before each line -/
def TxL (E : RSS) (M M9 : Mem) : Prop := FRL M M9 ∧ TPE M9 ∧ (0 ≤ M9 13 0 43 ∧ M9 13 0 43 ≤ 285) ∧ (0 ≤ M9 13 0 39 ∧ M9 13 0 39 ≤ 12) ∧ (FB M9 E ∨ (LinZ E M9 ∧ M9 13 0 43 ≤ 240))
section TEXT
variable {E : RSS} {M M9 v w : Mem}
def mTx (M9 : Mem) : Nat := if M9 13 0 33 = 0 then (20 - M9 13 0 39).toNat else 0
theorem tl_pre (h : TxL E M M9) (h0 : M9 13 0 33 = 0) : TPE M9 ∧ (0 ≤ M9 13 0 43 ∧ M9 13 0 43 ≤ 240) ∧ (0 ≤ M9 13 0 39 ∧ M9 13 0 39 ≤ 12) ∧ LinZ E M9 := by
  obtain ⟨hf, hT, h43, h39, hs⟩ := h
  have q := hs.resolve_left (fun z => absurd z.1 (by omega))
  exact ⟨hT, ⟨h43.1, q.2⟩, h39, q.1⟩
theorem tl_go (h : TxL E M M9) (h0 : M9 13 0 33 = 0) (hv : POSTL E M9 v) : TxL E M v ∧ mTx v < mTx M9 := by
  obtain ⟨hf, hT, h43, h39, hs⟩ := h
  obtain ⟨vf, vT, v43, v39, vs⟩ := hv
  refine ⟨⟨hf.trans vf, vT, v43, v39, vs.elim Or.inl (fun q => Or.inr ⟨q.1, q.2.2⟩)⟩, ?_⟩
  unfold mTx
  rw [if_pos h0]
  rcases vs with z | z
  · have := z.1
    rw [if_neg (by omega)]
    omega
  · split
    · have := z.2.1
      omega
    · omega
theorem tl_bad (h : TxL E M M9) (h0 : ¬ M9 13 0 33 = 0) : FRL M M9 ∧ FB M9 E := by
  obtain ⟨hf, hT, h43, h39, hs⟩ := h
  exact ⟨hf, hs.resolve_right (fun z => h0 (lin_0 z.1))⟩
theorem tl_end (h : TxL E M M9) (h0 : M9 13 0 33 = 0) (h31 : M9 13 0 31 = 0) : TxD E M (mset (mset M9 13 0 28 0) 13 0 35 (M9 13 0 39)) ∧ (0 ≤ M9 13 0 43 ∧ M9 13 0 43 ≤ 240) := by
  obtain ⟨hT, h43, h39, s, p, hL, hR, hS, hP, hW, hLn, hLN⟩ := tl_pre h h0
  have hf := h.1
  have t26 : tkT (M9 90 0) (M9 13 0 28) p = 26 := (SV_f hL.2.2.2.2).2.2.2.2.2.2.1.mp h31
  have e := rn_end2 hR hS t26
  refine ⟨?_, h43⟩
  have e1 : E.1 = 0 := by rw [e]
  have e2 : E.2.2 = s := by rw [e]
  unfold TxD
  rw [e2]
  refine ⟨⟨fun p a b c d e f g k => ?_, fun j a b c d e f g k l m n => ?_⟩, ?_, ⟨?_, e1⟩, ⟨?_, ?_⟩, ?_, ?_, ?_⟩
  · rw [ms_q (by omega), ms_q (by omega)]
    exact hf.1 p a e f g k
  · rw [ms_f, if_neg (by omega), ms_f, if_neg (by omega)]
    exact hf.2 j b c d e f g l m n
  · simp (disch := decide) only [ms_q, ms_f, true_and, and_true, Int.reduceEq, if_true, if_false, reduceIte]
  · simp (disch := decide) only [ms_q, ms_f, true_and, and_true, Int.reduceEq, if_true, if_false, reduceIte]
    exact h0
  · simp (disch := decide) only [ms_q, ms_f, true_and, and_true, Int.reduceEq, if_true, if_false, reduceIte]
  · simp (disch := decide) only [ms_q, ms_f, true_and, and_true, Int.reduceEq, if_true, if_false, reduceIte]
    exact h39
  · simp (disch := decide) only [ms_q, ms_f, true_and, and_true, Int.reduceEq, if_true, if_false, reduceIte]
    exact h43
  · simp (disch := decide) only [ms_q, ms_f, true_and, and_true, Int.reduceEq, if_true, if_false, reduceIte]
    exact hLn
  · simp (disch := decide) only [ms_q, ms_f, true_and, and_true, Int.reduceEq, if_true, if_false, reduceIte]
    exact hLN
theorem td_k {i x y : Int} (h : TxD E M M9) : TxD E M (mset (mset M9 91 0 i x) 92 0 i y) := by
  unfold TxD FRS at *
  refine ⟨⟨fun p a b c d e f g k => ?_, fun j a b c d e f g k l m n => ?_⟩, ?_⟩
  · rw [ms_q (by omega), ms_q (by omega)]
    exact h.1.1 p a b c d e f g k
  · rw [ms_q (by decide), ms_q (by decide)]
    exact h.1.2 j a b c d e f g k l m n
  · simp (disch := decide) only [ms_q]
    exact h.2
theorem td_w {i x : Int} (h : TxD E M M9) : TxD E M (mset M9 93 0 i x) := by
  unfold TxD FRS at *
  refine ⟨⟨fun p a b c d e f g k => ?_, fun j a b c d e f g k l m n => ?_⟩, ?_⟩
  · rw [ms_q (by omega)]
    exact h.1.1 p a b c d e f g k
  · rw [ms_q (by decide)]
    exact h.1.2 j a b c d e f g k l m n
  · simp (disch := decide) only [ms_q]
    exact h.2
theorem tc_k {i : Int} (h : TxC M9 i) : TxC (mset (mset M9 91 0 i (M9 94 0 i)) 92 0 i (M9 95 0 i)) (i + 1) := by
  intro j a b
  simp (disch := decide) only [ms_q, ms_f, true_and]
  by_cases c : j = i
  · subst c
    exact ⟨if_pos rfl, if_pos rfl⟩
  · rw [if_neg c, if_neg c]
    exact h j a (by omega)
theorem tc_w {i x k : Int} (h : TxC M9 k) : TxC (mset M9 93 0 i x) k := by
  intro j a b
  simp (disch := decide) only [ms_q]
  exact h j a b
theorem tw_w {i : Int} (h : TxW M9 i) : TxW (mset M9 93 0 i (M9 96 0 i)) (i + 1) := by
  intro j a b
  simp (disch := decide) only [ms_q, ms_f, true_and]
  by_cases c : j = i
  · subst c
    exact if_pos rfl
  · rw [if_neg c]
    exact h j a (by omega)
/-- the first token read -/
theorem tl_0 {x y : Int} {fk fe : Int → Int} (hu : 0 ≤ M 13 0 28 ∧ M 13 0 28 ≤ 240) (ht : ∀ j, 0 ≤ j → j < M 13 0 28 → 0 ≤ M 90 0 j ∧ M 90 0 j ≤ 255) (hw : w = mset (mset (mset (mset (mset M 13 0 33 0) 13 0 29 0) 13 0 43 0) 13 0 39 0) 95 0 0 0) (hE : E = rnC (M 90 0) (M 13 0 28) 241 ([], [], 0, x, 0, y, 0, fk, fe) 0) (hN : NXP w v) : TxL E M v := by
  have e90 : w 90 = M 90 := by rw [hw, ms_q (by decide), ms_q (by decide), ms_q (by decide), ms_q (by decide), ms_q (by decide)]
  have e28 : w 13 0 28 = M 13 0 28 := by
    rw [hw]
    simp (disch := decide) only [ms_q, ms_f, true_and, and_true, Int.reduceEq, if_true, if_false, reduceIte]
  have e29 : w 13 0 29 = 0 := by
    rw [hw]
    simp (disch := decide) only [ms_q, ms_f, true_and, and_true, Int.reduceEq, if_true, if_false, reduceIte]
  have e33 : w 13 0 33 = 0 := by
    rw [hw]
    simp (disch := decide) only [ms_q, ms_f, true_and, and_true, Int.reduceEq, if_true, if_false, reduceIte]
  have e39 : w 13 0 39 = 0 := by
    rw [hw]
    simp (disch := decide) only [ms_q, ms_f, true_and, and_true, Int.reduceEq, if_true, if_false, reduceIte]
  have e43 : w 13 0 43 = 0 := by
    rw [hw]
    simp (disch := decide) only [ms_q, ms_f, true_and, and_true, Int.reduceEq, if_true, if_false, reduceIte]
  have Tw : TPE w := ⟨by omega, by rw [e90, e28]; exact ht, by omega⟩
  have f1 : FRL M w := ⟨fun p a b c d e => by rw [hw, ms_q (by omega), ms_q (by omega), ms_q (by omega), ms_q (by omega), ms_q (by omega)], fun j a b c d e f g k l => by
    rw [hw, ms_q (by decide), ms_f, if_neg (by omega), ms_f, if_neg (by omega), ms_f, if_neg (by omega), ms_f, if_neg (by omega)]⟩
  have Tv := nx_tpe Tw hN
  have q := nx_39 hN
  have R0 : RN (w 90 0) (w 13 0 28) E ([], [], 0, x, 0, y, 0, fk, fe) (w 13 0 29) := by
    rw [e90, e28, e29]
    exact ⟨⟨241, by omega, hE.symm⟩, by omega, ⟨rfl, ⟨Int.le_refl 0, by show (0 : Int) ≤ 6; decide⟩, fun _ h => absurd h List.not_mem_nil, ⟨Int.le_refl 0, by show (0 : Int) ≤ 12; decide⟩, ⟨Int.le_refl 0, by show (0 : Int) ≤ 2; decide⟩, Or.inl rfl, Or.inl rfl⟩, Int.le_refl 0⟩
  refine ⟨f1.trans (frl_t (frt_nx hN)), Tv, by omega, by omega, (nx_go hN R0).elim Or.inl (fun z => Or.inr ⟨⟨_, _, z.2, z.1, rfl, rfl, rfl, ?_, ?_⟩, by omega⟩)⟩
  · show (0 : Int) = _
    omega
  · have z39 : (v 13 0 39).toNat = 0 := by omega
    have z43 : (v 13 0 43).toNat = 0 := by omega
    rw [z39, z43]
    exact ⟨rfl, rfl⟩
theorem tl_fin (h : FRL M M9) (hb : FB M9 E) : FRS M (mset M9 13 0 28 0) ∧ mset M9 13 0 28 0 13 0 28 = 0 ∧ mset M9 13 0 28 0 13 0 35 = M 13 0 35 ∧ (mset M9 13 0 28 0 91 = M 91 ∧ mset M9 13 0 28 0 92 = M 92 ∧ mset M9 13 0 28 0 93 = M 93) ∧ FB (mset M9 13 0 28 0) E ∧ w32 (-10 - mset M9 13 0 28 0 13 0 34) = w32 (-10 - E.2.1) := by
  refine ⟨⟨fun p a b c d e f g k => ?_, fun j a b c d e f g k l m n => ?_⟩, ?_, ?_, ⟨?_, ?_, ?_⟩, ?_, ?_⟩
  · rw [ms_q (by omega)]
    exact h.1 p a e f g k
  · rw [ms_f, if_neg (by omega)]
    exact h.2 j b c d e f g l m n
  · simp (disch := decide) only [ms_q, ms_f, true_and, and_true, Int.reduceEq, if_true, if_false, reduceIte]
  · rw [ms_f, if_neg (fun z => absurd z.2 (by decide))]
    exact h.2 35 (by decide) (by decide) (by decide) (by decide) (by decide) (by decide) (by decide) (by decide) (by decide)
  · rw [ms_q (by decide)]
    exact h.1 91 (by decide) (by decide) (by decide) (by decide) (by decide)
  · rw [ms_q (by decide)]
    exact h.1 92 (by decide) (by decide) (by decide) (by decide) (by decide)
  · rw [ms_q (by decide)]
    exact h.1 93 (by decide) (by decide) (by decide) (by decide) (by decide)
  · unfold FB at *
    simp (disch := decide) only [ms_q, ms_f, true_and, and_true, Int.reduceEq, if_true, if_false, reduceIte]
    exact hb
  · rw [ms_f, if_neg (fun z => absurd z.2 (by decide)), hb.2.2]
end TEXT
