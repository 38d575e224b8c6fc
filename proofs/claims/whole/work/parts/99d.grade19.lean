/-! ===== the pair over (wip/gen/p56.py) ===== -/
theorem ov_0 {M v : Mem} {e : Int} (h : PS M v) (hH : IHrs M) (hab : AB (M 61 0) (M 62 0) (M 12 0 0)) (e0 : 0 ≤ e) (e1 : e < M 12 0 0) : v 123 0 e = M 61 0 e ∧ w32 (6 + v 124 0 e) = M 62 0 e ∧ v 125 0 e = M 63 0 e ∧ v 61 = M 61 ∧ v 62 = M 62 ∧ v 63 = M 63 ∧ v 12 0 0 = M 12 0 0 := by
  obtain ⟨f, fj, -, -⟩ := h
  have q := hH.2.2 e e0 e1
  rw [f 123 (by decide) (by decide) (by decide) (by decide) (by decide), f 124 (by decide) (by decide) (by decide) (by decide) (by decide), f 125 (by decide) (by decide) (by decide) (by decide) (by decide)]
  refine ⟨q.1.1, ?_, q.1.2.2, f 61 (by decide) (by decide) (by decide) (by decide) (by decide), f 62 (by decide) (by decide) (by decide) (by decide) (by decide), f 63 (by decide) (by decide) (by decide) (by decide) (by decide), fj 0 (by decide) (by decide)⟩
  have b := hab.2 e e0 e1
  rw [q.1.2.1]
  exact w32_e (by omega) (by omega)
theorem ov_1 {M v : Mem} {e : Int} (h : PS M v) (hH : IHrs M) (hab : AB (M 61 0) (M 62 0) (M 12 0 0)) (e0 : 0 ≤ e) (e1 : e < M 12 0 0) : ((0 ≤ (v 123 0 e) ∧ (v 123 0 e) < 14) ∧ IHrs v ∧ AB (v 61 0) (v 62 0) (v 12 0 0) ∧ En (v 61 0) (v 62 0) (v 12 0 0) (v 123 0 e) ∧ ∃ Z : Int → Int, (∀ k, 0 ≤ k → k < 14 → Z k = -4) ∧ SolC (v 61 0) (v 62 0) (v 63 0) (lbC (v 61 0) (v 62 0) (v 12 0 0) Z) (v 68 0) (v 12 0 0) (v 12 0 9)) := by
  have q := ov_0 h hH hab e0 e1
  have b := hab.2 e e0 e1
  rw [q.1]
  exact gr_3 h hH hab (by omega) (by omega) ⟨e, e0, e1, Or.inl rfl⟩
theorem ov_2 {M v w : Mem} {e : Int} (h : PS M v) (hg : PG v w (v 123 0 e)) (hH : IHrs M) (hab : AB (M 61 0) (M 62 0) (M 12 0 0)) (e0 : 0 ≤ e) (e1 : e < M 12 0 0) : ((0 ≤ (w32 (6 + w 124 0 e)) ∧ (w32 (6 + w 124 0 e)) < 14) ∧ IHrs w ∧ AB (w 61 0) (w 62 0) (w 12 0 0) ∧ En (w 61 0) (w 62 0) (w 12 0 0) (w32 (6 + w 124 0 e)) ∧ ∃ Z : Int → Int, (∀ k, 0 ≤ k → k < 14 → Z k = -4) ∧ SolC (w 61 0) (w 62 0) (w 63 0) (lbC (w 61 0) (w 62 0) (w 12 0 0) Z) (w 68 0) (w 12 0 0) (w 12 0 9)) := by
  have q := ov_0 h hH hab e0 e1
  have b := hab.2 e e0 e1
  rw [hg.1 124 (by decide) (by decide) (by decide) (by decide) (by decide), q.2.1]
  exact gr_4 (gr_3 h hH hab (by omega) (by omega) ⟨e, e0, e1, Or.inr rfl⟩) hg.1 (hg.2.1 73 (by decide) (by decide))
theorem ov_4 {M v : Mem} {e : Int} (h : PS M v) (hH : IHrs M) (hab : AB (M 61 0) (M 62 0) (M 12 0 0)) (e0 : 0 ≤ e) (e1 : e < M 12 0 0) : (((0 ≤ e ∧ e < v 12 0 0) ∧ AB (v 61 0) (v 62 0) (v 12 0 0)) ∧ (1 ≤ v 63 0 e ∧ v 63 0 e ≤ 95) ∧ (1 ≤ v 12 0 9 ∧ v 12 0 9 ≤ 30000) ∧ (∀ k, 0 ≤ k → k < 14 → -3000000000 ≤ v 68 0 k ∧ v 68 0 k ≤ 3000000000)) ∧ (-1000000000000000000 ≤ (v 63 0 e * v 12 0 9 - v 68 0 (v 61 0 e) - v 68 0 (v 62 0 e)) ∧ (v 63 0 e * v 12 0 9 - v 68 0 (v 61 0 e) - v 68 0 (v 62 0 e)) ≤ 1000000000000000000) := by
  have q := ov_0 h hH hab e0 e1
  have b := hab.2 e e0 e1
  have t := (hH.2.2 e e0 e1).2.2.2
  have S := h.2.2.2
  have g := gr_1 h hH hab
  rw [← q.2.2.2.2.2.1] at t
  have b1 := S.2.1 (v 61 0 e) (by rw [q.2.2.2.1]; omega) (by rw [q.2.2.2.1]; omega)
  have b2 := S.2.1 (v 62 0 e) (by rw [q.2.2.2.2.1]; omega) (by rw [q.2.2.2.2.1]; omega)
  have m : (v 63 0 e * v 12 0 9).natAbs ≤ 95 * 30000 := by rw [Int.natAbs_mul]; exact Nat.mul_le_mul (by omega) (by have := S.1; omega)
  refine ⟨⟨⟨⟨e0, by rw [q.2.2.2.2.2.2]; exact e1⟩, g.2.1⟩, t, S.1, fun k k0 k1 => ?_⟩, ?_⟩
  · have := S.2.1 k k0 k1
    omega
  · omega
theorem ov_3 {M v w y : Mem} {e : Int} (h : PS M v) (hg : PG v w (v 123 0 e)) (hg2 : PG w y (w32 (6 + w 124 0 e))) (hH : IHrs M) (hab : AB (M 61 0) (M 62 0) (M 12 0 0)) (e0 : 0 ≤ e) (e1 : e < M 12 0 0) :
    ((-1000000000000000000 ≤ (w64 (w64 (w64 (w64 (y 125 0 e * w 13 0 82) * y 13 0 82) - w64 (w 13 0 81 * y 13 0 82)) - w64 (y 13 0 81 * w 13 0 82))) ∧ (w64 (w64 (w64 (w64 (y 125 0 e * w 13 0 82) * y 13 0 82) - w64 (w 13 0 81 * y 13 0 82)) - w64 (y 13 0 81 * w 13 0 82))) ≤ 1000000000000000000) ∧ (1 ≤ (w64 (w 13 0 82 * y 13 0 82)) ∧ (w64 (w 13 0 82 * y 13 0 82)) ≤ 1000000000000000000)) ∧ (w64 (w64 (w64 (w64 (y 125 0 e * w 13 0 82) * y 13 0 82) - w64 (w 13 0 81 * y 13 0 82)) - w64 (y 13 0 81 * w 13 0 82))).tdiv ((Int.gcd (w64 (w64 (w64 (w64 (y 125 0 e * w 13 0 82) * y 13 0 82) - w64 (w 13 0 81 * y 13 0 82)) - w64 (y 13 0 81 * w 13 0 82))) (w64 (w 13 0 82 * y 13 0 82)) : Nat) : Int) = (v 63 0 e * v 12 0 9 - v 68 0 (v 61 0 e) - v 68 0 (v 62 0 e)).tdiv ((Int.gcd (v 63 0 e * v 12 0 9 - v 68 0 (v 61 0 e) - v 68 0 (v 62 0 e)) (v 12 0 9) : Nat) : Int) ∧ (w64 (w 13 0 82 * y 13 0 82)).tdiv ((Int.gcd (w64 (w64 (w64 (w64 (y 125 0 e * w 13 0 82) * y 13 0 82) - w64 (w 13 0 81 * y 13 0 82)) - w64 (y 13 0 81 * w 13 0 82))) (w64 (w 13 0 82 * y 13 0 82)) : Nat) : Int) = (v 12 0 9).tdiv ((Int.gcd (v 63 0 e * v 12 0 9 - v 68 0 (v 61 0 e) - v 68 0 (v 62 0 e)) (v 12 0 9) : Nat) : Int) := by
  have q := ov_0 h hH hab e0 e1
  have b := hab.2 e e0 e1
  have t := (hH.2.2 e e0 e1).2.2.2
  have S := h.2.2.2
  have b1 := S.2.1 (M 61 0 e) (by omega) (by omega)
  have b2 := S.2.1 (M 62 0 e) (by omega) (by omega)
  have h1 := hg.2.2
  have h2 := hg2.2.2
  rw [hg.1 124 (by decide) (by decide) (by decide) (by decide) (by decide), q.2.1, hg.1 68 (by decide) (by decide) (by decide) (by decide) (by decide), hg.1 12 (by decide) (by decide) (by decide) (by decide) (by decide)] at h2
  rw [q.1] at h1
  have y5 : y 125 0 e = M 63 0 e := by rw [hg2.1 125 (by decide) (by decide) (by decide) (by decide) (by decide), hg.1 125 (by decide) (by decide) (by decide) (by decide) (by decide)]; exact q.2.2.1
  have k := ov_eq S.1 b1 b2 t h1.1 h1.2 h2.1 h2.2
  rw [y5, q.2.2.2.1, q.2.2.2.2.1, q.2.2.2.2.2.1, k.1.1, k.1.2]
  exact k.2

theorem pair_over {l : Launch} {ω : WP} {c : Int} {M : Mem} {e : Int} {w : Int} (he : in32 e) (hw : in32 w)  (hc : c < 512) (hI : Inv c M) : Vd l ω 9 151 [vR 0 0, vI e, vI w] M (PQ1 l ω c 256 [vI e, vI w]) := by
  have hI0 := hI
  obtain ⟨h0, hN, hS, hR, hK, hG, hW, hJ, hT, hA, hP, hO, hH⟩ := hI
  have b1 := hN.1
  have b2 := hN.2.2.1
  have b3 := hS.1
  have b4 := hS.2.2.1
  have b5 := hR.1
  have b6 := hR.2.2.2.1
  have b7 := hG.1
  have b8 := hG.2.2.1
  have hab := hrs_ab hH b6 b8
  have e13 := b1
  have e73 := hH.1
  have n14 : 0 ≤ M 12 0 0 ∧ M 12 0 0 ≤ 14 := hab.1
  refine Vd_run (GGR_ok (l := l) (ω := ω)) 400 (cut := fun _ => none) (by decide) CutOK_none ?_
  conv => whnf
  repeat' first
    | (refine And.intro (fun h => ?_) (fun h => ?_) <;> (try simp (disch := decide) only [cmp3_lt, cmp3_ge, cmp3_gt, cmp3_le, cmp3_eq, ms_q, ms_f, mf_q, mf_f, mc_q, mc_f, and_self, and_true, true_and, and_false, false_and, or_true, true_or, or_false, false_or, if_true, if_false, not_true_eq_false, not_false_eq_true, eq_self, reduceIte, Int.reduceEq, Int.reduceLT, Int.reduceLE, Int.reduceNeg, Int.reduceAdd, Int.reduceSub, Int.reduceMul, Int.add_sub_cancel] at h) <;> (try simp (disch := omega) only [w32_e, w64_e, td_pos, tm_pos, Int.add_sub_cancel, e13, e73] at h) <;> first | exact absurd rfl h | exact absurd h (by decide) | (exfalso; omega) | (conv => whnf))
    | (refine And.intro (by first | omega | ((try simp (disch := decide) only [cmp3_lt, cmp3_ge, cmp3_gt, cmp3_le, cmp3_eq, ms_q, ms_f, mf_q, mf_f, mc_q, mc_f, and_self, and_true, true_and, and_false, false_and, or_true, true_or, or_false, false_or, if_true, if_false, not_true_eq_false, not_false_eq_true, eq_self, reduceIte, Int.reduceEq, Int.reduceLT, Int.reduceLE, Int.reduceNeg, Int.reduceAdd, Int.reduceSub, Int.reduceMul, Int.add_sub_cancel]); (try simp (disch := omega) only [w32_e, w64_e, td_pos, tm_pos, Int.add_sub_cancel, e13, e73]); first | assumption | omega) | exact ⟨rfl, hH, hab⟩ | exact ⟨rfl, (ov_4 hv hH hab (by omega) (by omega)).1⟩ | exact ⟨rfl, (ov_4 hv hH hab (by omega) (by omega)).2, hv.2.2.2.1, by omega⟩ | exact ⟨rfl, ov_1 hS9 hH hab (by omega) (by omega)⟩ | exact ⟨rfl, ov_2 hS9 hv hH hab (by omega) (by omega)⟩ | exact ⟨rfl, (ov_3 hS9 (by assumption) hv hH hab (by omega) (by omega)).1⟩ | ((try simp (disch := decide) only [cmp3_lt, cmp3_ge, cmp3_gt, cmp3_le, cmp3_eq, ms_q, ms_f, mf_q, mf_f, mc_q, mc_f, and_self, and_true, true_and, and_false, false_and, or_true, true_or, or_false, false_or, if_true, if_false, not_true_eq_false, not_false_eq_true, eq_self, reduceIte, Int.reduceEq, Int.reduceLT, Int.reduceLE, Int.reduceNeg, Int.reduceAdd, Int.reduceSub, Int.reduceMul, Int.add_sub_cancel]); (try simp (disch := omega) only [w32_e, w64_e, td_pos, tm_pos, Int.add_sub_cancel, e13, e73]); ((repeat' (first | assumption | omega | with_reducible rfl | apply And.intro)); done))) ?_; conv => whnf)
    | (intro v; intro hv; conv => whnf)
  all_goals try (have hS9 := hv; have e13 : v 13 = M 13 := hS9.1 13 (by decide) (by decide) (by decide) (by decide) (by decide))
  all_goals refine ⟨0, _, rfl, ?_⟩
  all_goals refine Vd_run (GGR_ok (l := l) (ω := ω)) 400 (cut := fun _ => none) (by decide) CutOK_none ?_
  all_goals conv => whnf
  all_goals repeat' first
    | (refine And.intro (fun h => ?_) (fun h => ?_) <;> (try simp (disch := decide) only [cmp3_lt, cmp3_ge, cmp3_gt, cmp3_le, cmp3_eq, ms_q, ms_f, mf_q, mf_f, mc_q, mc_f, and_self, and_true, true_and, and_false, false_and, or_true, true_or, or_false, false_or, if_true, if_false, not_true_eq_false, not_false_eq_true, eq_self, reduceIte, Int.reduceEq, Int.reduceLT, Int.reduceLE, Int.reduceNeg, Int.reduceAdd, Int.reduceSub, Int.reduceMul, Int.add_sub_cancel] at h) <;> (try simp (disch := omega) only [w32_e, w64_e, td_pos, tm_pos, Int.add_sub_cancel, e13, e73] at h) <;> first | exact absurd rfl h | exact absurd h (by decide) | (exfalso; omega) | (conv => whnf))
    | (refine And.intro (by first | omega | ((try simp (disch := decide) only [cmp3_lt, cmp3_ge, cmp3_gt, cmp3_le, cmp3_eq, ms_q, ms_f, mf_q, mf_f, mc_q, mc_f, and_self, and_true, true_and, and_false, false_and, or_true, true_or, or_false, false_or, if_true, if_false, not_true_eq_false, not_false_eq_true, eq_self, reduceIte, Int.reduceEq, Int.reduceLT, Int.reduceLE, Int.reduceNeg, Int.reduceAdd, Int.reduceSub, Int.reduceMul, Int.add_sub_cancel]); (try simp (disch := omega) only [w32_e, w64_e, td_pos, tm_pos, Int.add_sub_cancel, e13, e73]); first | assumption | omega) | exact ⟨rfl, hH, hab⟩ | exact ⟨rfl, (ov_4 hv hH hab (by omega) (by omega)).1⟩ | exact ⟨rfl, (ov_4 hv hH hab (by omega) (by omega)).2, hv.2.2.2.1, by omega⟩ | exact ⟨rfl, ov_1 hS9 hH hab (by omega) (by omega)⟩ | exact ⟨rfl, ov_2 hS9 hv hH hab (by omega) (by omega)⟩ | exact ⟨rfl, (ov_3 hS9 (by assumption) hv hH hab (by omega) (by omega)).1⟩ | ((try simp (disch := decide) only [cmp3_lt, cmp3_ge, cmp3_gt, cmp3_le, cmp3_eq, ms_q, ms_f, mf_q, mf_f, mc_q, mc_f, and_self, and_true, true_and, and_false, false_and, or_true, true_or, or_false, false_or, if_true, if_false, not_true_eq_false, not_false_eq_true, eq_self, reduceIte, Int.reduceEq, Int.reduceLT, Int.reduceLE, Int.reduceNeg, Int.reduceAdd, Int.reduceSub, Int.reduceMul, Int.add_sub_cancel]); (try simp (disch := omega) only [w32_e, w64_e, td_pos, tm_pos, Int.add_sub_cancel, e13, e73]); ((repeat' (first | assumption | omega | with_reducible rfl | apply And.intro)); done))) ?_; conv => whnf)
    | (intro v; intro hv; conv => whnf)
  all_goals first
    | exact ⟨0, by with_reducible rfl, Inv.next hc hI0⟩
    | (refine ⟨0, congrArg (fun z => some (vL z)) ?_, inv_gr3 hS9 (by assumption) hv hc hI0⟩
       have g := (ov_3 hS9 (by assumption) hv hH hab (by omega) (by omega)).2
       first
         | (rw [if_pos (by assumption), ← g.1, ms_f, if_neg (fun z => absurd z.2 (by decide)), ms_f, if_pos ⟨rfl, rfl⟩])
         | (rw [if_neg (by assumption), ← g.2, ms_f, if_pos ⟨rfl, rfl⟩]))
