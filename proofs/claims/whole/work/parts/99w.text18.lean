/-! ===== text: a sum, the loop's ways (wip/gen/tx8.body) ===== -/
theorem hw_push {F : Int → Int} {n c : Int} (hc : 0 ≤ c ∧ c ≤ 255) (h : ∀ j, 0 ≤ j → j < n → 0 ≤ F j ∧ F j ≤ 255) : ∀ j, 0 ≤ j → j < n + 1 → 0 ≤ updI F n c j ∧ updI F n c j ≤ 255 := fun j a b => by
  rw [updI_f]
  by_cases z : j = n
  · rw [if_pos z]
    exact hc
  · rw [if_neg z]
    exact h j a (by omega)
section SUMW
variable {E : RSS} {base prev mprev : List Int} {τb : List Bool} {dd ln a wv on x b : Int} {kd en : Int → Int} {M M9 M8 v w : Mem}
theorem rsi_A (hR : RSI E base prev mprev τb dd ln kd en M M9 a wv 1) (h33 : M9 13 0 33 = 0) : a ≤ 6 ∧ SumA E base prev mprev τb dd ln kd en M9 a wv := by
  rcases hR.2.2.2.2.2 with q | q | q
  · exact absurd q.1 (by omega)
  · exact q.2.2
  · exact absurd q.1 (by decide)
theorem rsi_b (hR : RSI E base prev mprev τb dd ln kd en M M9 a wv 1) (hml : mprev.length ≤ prev.length) (h33 : M9 13 0 33 = 0) : (0 ≤ a ∧ a ≤ 6) ∧ M9 13 0 45 ≤ 20 ∧ M9 13 0 43 + M9 13 0 45 ≤ 240 ∧ (∀ j, 0 ≤ j → j < M9 13 0 45 → 0 ≤ M9 97 0 j ∧ M9 97 0 j ≤ 255) := sum_bd (rsi_A hR h33).2 hml hR.2.1 hR.2.2.1.1 hR.2.2.1.2.1
theorem rsi_30 (hR : RSI E base prev mprev τb dd ln kd en M M9 a wv 1) (h33 : M9 13 0 33 = 0) : M9 13 0 30 ≤ 240 := by
  obtain ⟨-, s, p, wc, cur, mcur, hL, hRN, -⟩ := rsi_A hR h33
  have ti := tkn_in (T := M9 90 0) (u := M9 13 0 28) (p := p) hRN.2.1.2
  have t := hR.2.1.1
  rw [hL.2.2.2.1]
  omega
theorem rs_open (hR : RSI E base prev mprev τb dd ln kd en M M9 a 1 1) (hml : mprev.length ≤ prev.length) (h33 : M9 13 0 33 = 0) (h31 : M9 13 0 31 = 3) (h32 : M9 13 0 32 = 40) (ha : a < 6) (hN : NXP (mset (mset M9 97 0 (M9 13 0 45) 40) 13 0 45 (M9 13 0 45 + 1)) v) : RSI E base prev mprev τb dd ln kd en M v (a + 1) 1 1 ∧ RSM v 1 < RSM M9 1 := by
  have A := rsi_A hR h33
  have B := rsi_b hR hml h33
  have b0 := hR.2.2.1
  have e43 : mset (mset M9 97 0 (M9 13 0 45) 40) 13 0 45 (M9 13 0 45 + 1) 13 0 43 = M9 13 0 43 := by rw [ms_f, if_neg (fun z => absurd z.2 (by decide)), ms_q (by decide)]
  have e45 : mset (mset M9 97 0 (M9 13 0 45) 40) 13 0 45 (M9 13 0 45 + 1) 13 0 45 = M9 13 0 45 + 1 := by rw [ms_f, if_pos ⟨rfl, rfl⟩]
  refine rsi_nx hR h33 (sum_lt A.2 (by omega)) (fun p p1 p2 p3 => by rw [ms_q p1, ms_q p3]) (fun j j1 j2 => by rw [ms_f, if_neg (fun z => j2 z.2), ms_q (by decide)]) (by rw [e43, e45]; omega) (fun j j0 j1 => ?_) hN (sum_open A.2 h31 h32 ha b0.2.1 hN) (by omega) (Or.inr rfl)
  rw [e45] at j1
  rw [ms_q (by decide), ms_n]
  exact hw_push (by decide) B.2.2.2 j j0 j1
theorem rs_open_bad (hR : RSI E base prev mprev τb dd ln kd en M M9 a 1 1) (hml : mprev.length ≤ prev.length) (h33 : M9 13 0 33 = 0) (h31 : M9 13 0 31 = 3) (h32 : M9 13 0 32 = 40) (ha : ¬ a < 6) : RSI E base prev mprev τb dd ln kd en M (mset (mset (mset (mset M9 13 0 33 3) 13 0 34 (M9 13 0 30)) 97 0 (M9 13 0 45) 40) 13 0 45 (M9 13 0 45 + 1)) (a + 1) 1 1 ∧ RSM (mset (mset (mset (mset M9 13 0 33 3) 13 0 34 (M9 13 0 30)) 97 0 (M9 13 0 45) 40) 13 0 45 (M9 13 0 45 + 1)) 1 < RSM M9 1 := by
  have A := rsi_A hR h33
  have B := rsi_b hR hml h33
  have b0 := hR.2.2.1
  obtain ⟨M8, hM8⟩ : ∃ M8, M8 = mset (mset (mset (mset M9 13 0 33 3) 13 0 34 (M9 13 0 30)) 97 0 (M9 13 0 45) 40) 13 0 45 (M9 13 0 45 + 1) := ⟨_, rfl⟩
  have e43 : M8 13 0 43 = M9 13 0 43 := by rw [hM8]; simp (disch := decide) only [ms_q, ms_f, true_and, and_true, Int.reduceEq, if_true, if_false, reduceIte]
  have e45 : M8 13 0 45 = M9 13 0 45 + 1 := by rw [hM8]; simp (disch := decide) only [ms_q, ms_f, true_and, and_true, Int.reduceEq, if_true, if_false, reduceIte]
  have e33 : M8 13 0 33 = 3 := by rw [hM8]; simp (disch := decide) only [ms_q, ms_f, true_and, and_true, Int.reduceEq, if_true, if_false, reduceIte]
  have e34 : M8 13 0 34 = M9 13 0 30 := by rw [hM8]; simp (disch := decide) only [ms_q, ms_f, true_and, and_true, Int.reduceEq, if_true, if_false, reduceIte]
  rw [← hM8]
  have bad := sum_open_bad A.2 h31 h32 ha
  refine rsi_f hR h33 (fun p p1 p2 p3 => by rw [hM8, ms_q p1, ms_q p3, ms_q p1, ms_q p1]) (fun j j1 j2 j3 j4 => by rw [hM8, ms_f, if_neg (fun z => j4 z.2), ms_q (by decide), ms_f, if_neg (fun z => j2 z.2), ms_f, if_neg (fun z => j1 z.2)]) (by rw [e43, e45]; omega) (fun j j0 j1 => ?_) (by omega) ⟨by rw [e33]; exact bad.1, by rw [e34]; exact bad.2⟩ (by omega) (Or.inr rfl) (Or.inr rfl) (rsi_30 hR h33)
  rw [e45] at j1
  rw [hM8, ms_q (by decide), ms_n, ms_q (by decide), ms_q (by decide)]
  exact hw_push (by decide) B.2.2.2 j j0 j1
theorem rs_val (hR : RSI E base prev mprev τb dd ln kd en M M9 a 1 1) (hml : mprev.length ≤ prev.length) (h33 : M9 13 0 33 = 0) (hc : M9 13 0 31 = 2 ∨ (M9 13 0 31 = 1 ∧ 10 ≤ M9 13 0 32)) (hx : x = if M9 13 0 31 = 2 then M9 13 0 32 else -1 - (M9 13 0 32 - 10)) (hN : NXP (mset (mset M9 96 0 (M9 13 0 43) x) 13 0 43 (M9 13 0 43 + 1)) v) : RSI E base prev mprev τb dd ln kd en M v a 0 1 ∧ RSM v 1 < RSM M9 1 := by
  have A := rsi_A hR h33
  have B := rsi_b hR hml h33
  have b0 := hR.2.2.1
  have e43 : mset (mset M9 96 0 (M9 13 0 43) x) 13 0 43 (M9 13 0 43 + 1) 13 0 43 = M9 13 0 43 + 1 := by rw [ms_f, if_pos ⟨rfl, rfl⟩]
  have e45 : mset (mset M9 96 0 (M9 13 0 43) x) 13 0 43 (M9 13 0 43 + 1) 13 0 45 = M9 13 0 45 := by rw [ms_f, if_neg (fun z => absurd z.2 (by decide)), ms_q (by decide)]
  refine rsi_nx hR h33 (sum_lt A.2 (by omega)) (fun p p1 p2 p3 => by rw [ms_q p1, ms_q p2]) (fun j j1 j2 => by rw [ms_f, if_neg (fun z => j1 z.2), ms_q (by decide)]) (by rw [e43, e45]; omega) (fun j j0 j1 => ?_) hN (sum_val A.2 hc hx b0.1 hN) (by omega) (Or.inl rfl)
  rw [e45] at j1
  rw [ms_q (by decide), ms_q (by decide)]
  exact B.2.2.2 j j0 j1
theorem rs_val_bad (hR : RSI E base prev mprev τb dd ln kd en M M9 a 1 1) (hml : mprev.length ≤ prev.length) (h33 : M9 13 0 33 = 0) (h1 : ¬ (M9 13 0 31 = 3 ∧ M9 13 0 32 = 40)) (h2 : ¬ M9 13 0 31 = 2) (h3 : ¬ (M9 13 0 31 = 1 ∧ 10 ≤ M9 13 0 32)) : RSI E base prev mprev τb dd ln kd en M (mset (mset (mset (mset M9 13 0 33 2) 13 0 34 (M9 13 0 30)) 96 0 (M9 13 0 43) x) 13 0 43 (M9 13 0 43 + 1)) a 0 1 ∧ RSM (mset (mset (mset (mset M9 13 0 33 2) 13 0 34 (M9 13 0 30)) 96 0 (M9 13 0 43) x) 13 0 43 (M9 13 0 43 + 1)) 1 < RSM M9 1 := by
  have A := rsi_A hR h33
  have B := rsi_b hR hml h33
  have b0 := hR.2.2.1
  obtain ⟨M8, hM8⟩ : ∃ M8, M8 = mset (mset (mset (mset M9 13 0 33 2) 13 0 34 (M9 13 0 30)) 96 0 (M9 13 0 43) x) 13 0 43 (M9 13 0 43 + 1) := ⟨_, rfl⟩
  have e43 : M8 13 0 43 = M9 13 0 43 + 1 := by rw [hM8]; simp (disch := decide) only [ms_q, ms_f, true_and, and_true, Int.reduceEq, if_true, if_false, reduceIte]
  have e45 : M8 13 0 45 = M9 13 0 45 := by rw [hM8]; simp (disch := decide) only [ms_q, ms_f, true_and, and_true, Int.reduceEq, if_true, if_false, reduceIte]
  have e33 : M8 13 0 33 = 2 := by rw [hM8]; simp (disch := decide) only [ms_q, ms_f, true_and, and_true, Int.reduceEq, if_true, if_false, reduceIte]
  have e34 : M8 13 0 34 = M9 13 0 30 := by rw [hM8]; simp (disch := decide) only [ms_q, ms_f, true_and, and_true, Int.reduceEq, if_true, if_false, reduceIte]
  rw [← hM8]
  have bad := sum_val_bad A.2 h1 h2 h3
  refine rsi_f hR h33 (fun p p1 p2 p3 => by rw [hM8, ms_q p1, ms_q p2, ms_q p1, ms_q p1]) (fun j j1 j2 j3 j4 => by rw [hM8, ms_f, if_neg (fun z => j3 z.2), ms_q (by decide), ms_f, if_neg (fun z => j2 z.2), ms_f, if_neg (fun z => j1 z.2)]) (by rw [e43, e45]; omega) (fun j j0 j1 => ?_) (by omega) ⟨by rw [e33]; exact bad.1, by rw [e34]; exact bad.2⟩ (by omega) (Or.inl rfl) (Or.inr rfl) (rsi_30 hR h33)
  rw [e45] at j1
  rw [hM8, ms_q (by decide), ms_q (by decide), ms_q (by decide), ms_q (by decide)]
  exact B.2.2.2 j j0 j1
theorem rs_op (hR : RSI E base prev mprev τb dd ln kd en M M9 a 0 1) (hml : mprev.length ≤ prev.length) (hb5 : topb base < 5) (h33 : M9 13 0 33 = 0) (h31 : M9 13 0 31 = 3) (h32 : M9 13 0 32 = 42 ∨ M9 13 0 32 = 43 ∨ M9 13 0 32 = 45) (hb : b = rkM (M9 13 0 32)) (hp : POP b M9 v) (hN : NXP (mset (mset v 97 0 (v 13 0 45) (M9 13 0 32)) 13 0 45 (v 13 0 45 + 1)) w) : RSI E base prev mprev τb dd ln kd en M w a 1 1 ∧ RSM w 1 < RSM M9 1 := by
  have A := rsi_A hR h33
  have B := rsi_b hR hml h33
  have b0 := hR.2.2.1
  have p0 := hp.2.2.1
  subst hb
  have e43 : mset (mset v 97 0 (v 13 0 45) (M9 13 0 32)) 13 0 45 (v 13 0 45 + 1) 13 0 43 = v 13 0 43 := by rw [ms_f, if_neg (fun z => absurd z.2 (by decide)), ms_q (by decide)]
  have e45 : mset (mset v 97 0 (v 13 0 45) (M9 13 0 32)) 13 0 45 (v 13 0 45 + 1) 13 0 45 = v 13 0 45 + 1 := by rw [ms_f, if_pos ⟨rfl, rfl⟩]
  refine rsi_nx hR h33 (sum_lt A.2 (by omega)) (fun p p1 p2 p3 => by rw [ms_q p1, ms_q p3]; exact hp.1 p p1 p2) (fun j j1 j2 => by rw [ms_f, if_neg (fun z => j2 z.2), ms_q (by decide)]; exact hp.2.1 j j1 j2) (by rw [e43, e45]; omega) (fun j j0 j1 => ?_) hN (sum_op A.2 hb5 h31 h32 hp hN) (by omega) (Or.inr rfl)
  rw [e45] at j1
  rw [ms_q (by decide), ms_n, hp.1 97 (by decide) (by decide)]
  exact hw_push (by omega) (fun j a b => B.2.2.2 j a (by omega)) j j0 j1
theorem rs_close (hR : RSI E base prev mprev τb dd ln kd en M M9 a 0 1) (hml : mprev.length ≤ prev.length) (h33 : M9 13 0 33 = 0) (h31 : M9 13 0 31 = 3) (h32 : M9 13 0 32 = 41) (ha : 0 < a) (hp : POP 1 M9 v) : 1 ≤ v 13 0 45 ∧ (NXP (mset v 13 0 45 (v 13 0 45 - 1)) w → RSI E base prev mprev τb dd ln kd en M w (a - 1) 0 1 ∧ RSM w 1 < RSM M9 1) := by
  have A := rsi_A hR h33
  have B := rsi_b hR hml h33
  have b0 := hR.2.2.1
  have p0 := hp.2.2.1
  obtain ⟨c1, c2⟩ := sum_close (M9 := w) A.2 h31 h32 ha hp
  refine ⟨c1, fun hN => ?_⟩
  have e43 : mset v 13 0 45 (v 13 0 45 - 1) 13 0 43 = v 13 0 43 := by rw [ms_f, if_neg (fun z => absurd z.2 (by decide))]
  have e45 : mset v 13 0 45 (v 13 0 45 - 1) 13 0 45 = v 13 0 45 - 1 := by rw [ms_f, if_pos ⟨rfl, rfl⟩]
  refine rsi_nx hR h33 (sum_lt A.2 (by omega)) (fun p p1 p2 p3 => by rw [ms_q p1]; exact hp.1 p p1 p2) (fun j j1 j2 => by rw [ms_f, if_neg (fun z => j2 z.2)]; exact hp.2.1 j j1 j2) (by rw [e43, e45]; omega) (fun j j0 j1 => ?_) hN (c2 hN) (by omega) (Or.inl rfl)
  rw [e45] at j1
  rw [ms_q (by decide), hp.1 97 (by decide) (by decide)]
  exact B.2.2.2 j j0 (by omega)
theorem rs_end (hR : RSI E base prev mprev τb dd ln kd en M M9 0 0 1) (h33 : M9 13 0 33 = 0) (h : NOP M9) : RSI E base prev mprev τb dd ln kd en M M9 0 0 0 ∧ RSM M9 0 < RSM M9 1 := by
  have A := rsi_A hR h33
  have q := rsi_30 hR h33
  obtain ⟨r1, r2, r3, r4, r5, -⟩ := hR
  refine ⟨⟨r1, r2, r3, r4, ⟨by omega, Or.inl rfl, Or.inl rfl, r5.2.2.2⟩, Or.inr (Or.inr ⟨rfl, h33, rfl, rfl, h, A.2⟩)⟩, ?_⟩
  unfold RSM
  omega
theorem rs_end_bad (hR : RSI E base prev mprev τb dd ln kd en M M9 a 0 1) (hml : mprev.length ≤ prev.length) (h33 : M9 13 0 33 = 0) (h : NOP M9) (h2 : ¬ (M9 13 0 31 = 3 ∧ M9 13 0 32 = 41 ∧ 0 < a)) (ha : ¬ a = 0) : RSI E base prev mprev τb dd ln kd en M (mset (mset M9 13 0 33 2) 13 0 34 (M9 13 0 30)) a 0 0 ∧ RSM (mset (mset M9 13 0 33 2) 13 0 34 (M9 13 0 30)) 0 < RSM M9 1 := by
  have A := rsi_A hR h33
  have B := rsi_b hR hml h33
  have b0 := hR.2.2.1
  have bad := sum_end_bad A.2 h h2 ha
  refine rsi_f hR h33 (fun p p1 p2 p3 => by rw [ms_q p1, ms_q p1]) (fun j j1 j2 j3 j4 => by rw [ms_f, if_neg (fun z => j2 z.2), ms_f, if_neg (fun z => j1 z.2)]) (by simp (disch := decide) only [ms_q, ms_f, true_and, and_true, Int.reduceEq, if_true, if_false, reduceIte]; exact b0) (fun j j0 j1 => ?_) (by simp (disch := decide) only [ms_q, ms_f, true_and, and_true, Int.reduceEq, if_true, if_false, reduceIte]; decide) (by simp (disch := decide) only [ms_q, ms_f, true_and, and_true, Int.reduceEq, if_true, if_false, reduceIte]; exact bad) (by omega) (Or.inl rfl) (Or.inl rfl) (rsi_30 hR h33)
  rw [ms_q (by decide), ms_q (by decide)]
  exact B.2.2.2 j j0 (by simp (disch := decide) only [ms_q, ms_f, true_and, and_true, Int.reduceEq, if_true, if_false, reduceIte] at j1; exact j1)
theorem rs_fin (hR : RSI E base prev mprev τb dd ln kd en M M9 a wv on) (hb5 : topb base < 5) (h : on = 0 ∨ ¬ M9 13 0 33 = 0) (hp : POP 1 M9 v) : ((∀ p, p ≠ 13 → p ≠ 96 → p ≠ 97 → v p = M p) ∧ (∀ j, j ≠ 29 → j ≠ 30 → j ≠ 31 → j ≠ 32 → j ≠ 33 → j ≠ 34 → j ≠ 43 → j ≠ 45 → v 13 0 j = M 13 0 j)) ∧ TPE v ∧ (0 ≤ v 13 0 43 ∧ v 13 0 43 ≤ 281 ∧ (v 13 0 33 = 0 → M 13 0 33 = 0 ∧ M 13 0 30 ≤ v 13 0 30)) ∧ (FB v E ∨ SumZ E base prev mprev τb dd ln kd en v) := by
  obtain ⟨⟨r1, r2⟩, rT, b0, r4, r5, r6⟩ := hR
  have p0 := hp.2.2.1
  refine ⟨⟨fun p p1 p2 p3 => (hp.1 p p1 p2).trans (r1 p p1 p2 p3), fun j j1 j2 j3 j4 j5 j6 j7 j8 => (hp.2.1 j j7 j8).trans (r2 j j1 j2 j3 j4 j5 j6 j7 j8)⟩, tpe_pop rT hp, ⟨by omega, by omega, by rw [hp.2.1 33 (by decide) (by decide), hp.2.1 30 (by decide) (by decide)]; exact r5.2.2.2⟩, ?_⟩
  rcases r6 with q | q | q
  · refine Or.inl ?_
    unfold FB at *
    rw [hp.2.1 33 (by decide) (by decide), hp.2.1 34 (by decide) (by decide)]
    exact q
  · exfalso
    rcases h with z | z
    · exact absurd (z.symm.trans q.1) (by decide)
    · exact z q.2.1
  · obtain ⟨q1, q2, rfl, rfl, q5, q6⟩ := q
    exact Or.inr (sum_end q6 hb5 q5 hp)
theorem rs_begin (hT : TPE M) (h43 : 0 ≤ M 13 0 43 ∧ M 13 0 43 ≤ 281) (h : FB M E ∨ SumS E base prev mprev τb dd ln kd en M) : RSI E base prev mprev τb dd ln kd en M (mset M 13 0 45 0) 0 1 1 := by
  have e45 : mset M 13 0 45 0 13 0 45 = 0 := by rw [ms_f, if_pos ⟨rfl, rfl⟩]
  have ef : ∀ j, ¬ j = 45 → mset M 13 0 45 0 13 0 j = M 13 0 j := fun j hj => by rw [ms_f, if_neg (fun z => hj z.2)]
  refine ⟨⟨fun p p1 p2 p3 => ms_q p1, fun j j1 j2 j3 j4 j5 j6 j7 j8 => ef j j8⟩, tpe_13 (by decide) (by decide) (by decide) hT, by rw [e45, ef 43 (by decide)]; omega, fun j j0 j1 => ?_, ⟨by omega, Or.inr rfl, Or.inr rfl, fun z => ⟨by rw [ef 33 (by decide)] at z; exact z, by rw [ef 30 (by decide)]; exact Int.le_refl _⟩⟩, ?_⟩
  · rw [e45] at j1
    omega
  · rcases h with q | q
    · refine Or.inl ?_
      unfold FB at *
      rw [ef 33 (by decide), ef 34 (by decide)]
      exact q
    · have q2 := sum_s q
      exact Or.inr (Or.inl ⟨rfl, sum_0 q2, by decide, q2⟩)
theorem sum_v (h : SumA E base prev mprev τb dd ln kd en M a wv) (h31 : M 13 0 31 = 1) (h32 : 10 ≤ M 13 0 32) : M 13 0 32 ≤ 18 := by
  obtain ⟨s, p, wc, cur, mcur, hL, -⟩ := h
  have q := (SV_f hL.2.2.2.2).2.2.2.2.2.2.2.1.mp ⟨h31, h32⟩
  have q2 := (SV_f hL.2.2.2.2).2.2.2.2.2.2.2.2.2.2.2.2.1 h31 q.1
  omega
end SUMW
