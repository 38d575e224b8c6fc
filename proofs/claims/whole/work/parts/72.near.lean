/-! ===== the pair near (wip/gen/p36.py) ===== -/
theorem nV_nf {M M9 : Mem} (nf : NFr M M9) : nV M9 = nV M := by
  funext p q D i
  unfold nV
  rw [wy_nf nf, nf.1 5 (by decide) (by decide) (by decide) (by decide) (by decide) (by decide) (by decide) (by decide) (by decide) (by decide) (by decide) (by decide) (by decide) (by decide) (by decide) (by decide), nf.1 31 (by decide) (by decide) (by decide) (by decide) (by decide) (by decide) (by decide) (by decide) (by decide) (by decide) (by decide) (by decide) (by decide) (by decide) (by decide) (by decide), nf.1 1 (by decide) (by decide) (by decide) (by decide) (by decide) (by decide) (by decide) (by decide) (by decide) (by decide) (by decide) (by decide) (by decide) (by decide) (by decide) (by decide), nf.2.2 (i - M 5 0 0) 1 (by decide) (by decide)]
theorem nV_96 {M : Mem} {p q : Int} {D : DD} (hH : DayH M) (hg : IGui M) (hq : 0 ≤ q ∧ q ≤ 95) : ∀ i, 0 ≤ i → i < M 5 0 0 + M 10 0 3 → nV M p q D i = -4 ∨ (0 ≤ nV M p q D i ∧ nV M p q D i < 96) := fun i i0 i1 => by
  have n12 := hH.1.2.2.1
  obtain ⟨hN, hS, hR, hK, hA, hO, hd⟩ := id hH
  by_cases x : i < M 5 0 0
  · by_cases y : bitI (M 5 0 3) i = 1
    · rw [nV_1 x y]; exact Or.inl rfl
    · rw [nV_2 x y]
      have s := (hg.2.2.2 i i0 x).2.1
      exact wy_96 (by omega) hS s.1 s.2 hq
  · by_cases y : 0 ≤ lkV D (i - M 5 0 0) ∧ lkV D (i - M 5 0 0) < M 1 0 0
    · rw [nV_3 x y]
      have s := (dm_facts hH (o := i - M 5 0 0) (by omega) (by omega)).2.2.1
      exact wy_96 (by omega) hS s.1 s.2 hq
    · rw [nV_4 x y]; exact Or.inl rfl

theorem pair_near {l : Launch} {ω : WP} {c : Int} {M : Mem} {p : Int} {q : Int} {w : Int} (hp : in32 p) (hq : in32 q) (hw : in32 w)  (hc : c < 512) (hI : Inv c M) : Vd l ω 9 146 [vR 0 0, vI p, vI q, vI w] M (PQ1 l ω c 248 [vI p, vI q, vI w]) := by
  have hI0 := hI
  obtain ⟨h0, hN, hS, hR, hK, hG, hW, hJ, hT, hA, hP, hO, hH⟩ := hI
  have b1 := hN.1
  have b2 := hN.2.2.1
  have b3 := hS.1
  have b4 := hS.2.2.1
  have b5 := hR.1
  have b6 := hR.2.2.2.1
  have b7 := hG.1
  have b8 := hG.2.2.1
  have hH9 : DayH M := ⟨hN, hS, hR, hK, hA, hO, hW.2.2.2.1, hW.2.2.1⟩
  obtain ⟨w1, w2, w3, w4, w5, w6, w7, w8, w9⟩ := id hW
  have o3 : 0 ≤ M 5 0 3 ∧ M 5 0 3 < 512 := by
    have := pw_in b8.1 (show M 5 0 0 ≤ 9 by omega)
    omega
  by_cases hg : (0 ≤ p ∧ p < M 1 0 0) ∧ (0 ≤ q ∧ q ≤ 95) ∧ (0 ≤ w ∧ w ≤ 1)
  · refine ok_neC _ _ _ ⟨⟨rfl, hH9, hg.1, hg.2.1, hg.2.2, hG, o3⟩, fun M1 ⟨v, rp, fv⟩ => ⟨0, _, rfl, ?_⟩⟩
    have nf := NFr.ofC rp fv
    have e5 : M1 5 = M 5 := nf.1 5 (by decide) (by decide) (by decide) (by decide) (by decide) (by decide) (by decide) (by decide) (by decide) (by decide) (by decide) (by decide) (by decide) (by decide) (by decide) (by decide)
    have g1 : IGui M1 := by
      have f := nf.1
      simp (disch := decide) only [IGui, f]; exact hG
    refine ok_neM _ _ _ ⟨⟨rfl, nf.day hH9, by rw [nf.1 1 (by decide) (by decide) (by decide) (by decide) (by decide) (by decide) (by decide) (by decide) (by decide) (by decide) (by decide) (by decide) (by decide) (by decide) (by decide) (by decide)]; exact hg.1, hg.2.1, hg.2.2, g1, by rw [e5, nf.1 86 (by decide) (by decide) (by decide) (by decide) (by decide) (by decide) (by decide) (by decide) (by decide) (by decide) (by decide) (by decide) (by decide) (by decide) (by decide) (by decide)]; exact w6⟩, dOf M, fun M2 nf2 => ⟨0, ?_, inv_near hc hI0 (nf.trans nf2)⟩⟩
    have tw := nb_two (V := nV M p q (dyN (dx M) (dOf M) (q + 1))) (n5 := M 5 0 0) (m := M 5 0 0 + M 10 0 3) b8.1 (nV_96 hH9 hG hg.2.1) (M 5 0 0 + M 10 0 3).toNat (by have := hO.2.1; omega)
    rw [Int.toNat_of_nonneg (by have := hO.2.1; omega)] at tw
    rw [nV_nf nf, dx_nf nf, e5, nf.2.1 0 3 (by decide)]
    refine congrArg (fun z => some (vI z)) ?_
    obtain ⟨t1, t2⟩ := tw
    generalize nbN (nV M p q (dyN (dx M) (dOf M) (q + 1))) (M 5 0 0) 96 (M 5 0 0 + M 10 0 3) = x at t1 t2
    generalize nbN (nV M p q (dyN (dx M) (dOf M) (q + 1))) (M 5 0 0) 1000 (M 5 0 0 + M 10 0 3) = y at t1 t2
    by_cases c : y.2 = -4
    · rw [if_pos c, if_neg (fun z => by have := z.2; omega)]
      omega
    · rw [if_neg c]
      by_cases c2 : w = 0
      · rw [if_pos c2, if_pos ⟨c2, by omega⟩]
        omega
      · rw [if_neg c2, if_neg (fun z => c2 z.1)]
        omega
  refine Vd_run (GGB_ok (l := l) (ω := ω)) 400 (cut := fun _ => none) (by decide) CutOK_none ?_
  conv => whnf
  repeat' first
    | (refine And.intro (fun h => ?_) (fun h => ?_) <;> (try simp (disch := decide) only [cmp3_lt, cmp3_ge, cmp3_gt, cmp3_le, cmp3_eq, ms_q, ms_f, mf_q, mf_f, mc_q, mc_f, and_self, and_true, true_and, and_false, false_and, or_true, true_or, or_false, false_or, if_true, if_false, not_true_eq_false, not_false_eq_true, eq_self, reduceIte, Int.reduceEq, Int.reduceLT, Int.reduceLE, Int.reduceNeg, Int.reduceAdd, Int.reduceSub, Int.reduceMul, Int.add_sub_cancel] at h) <;> (try simp (disch := omega) only [w32_e, w64_e, td_pos, tm_pos, Int.add_sub_cancel] at h) <;> first | exact absurd rfl h | exact absurd h (by decide) | (exfalso; omega) | (conv => whnf))
    | (refine And.intro (by first | omega | ((try simp (disch := decide) only [cmp3_lt, cmp3_ge, cmp3_gt, cmp3_le, cmp3_eq, ms_q, ms_f, mf_q, mf_f, mc_q, mc_f, and_self, and_true, true_and, and_false, false_and, or_true, true_or, or_false, false_or, if_true, if_false, not_true_eq_false, not_false_eq_true, eq_self, reduceIte, Int.reduceEq, Int.reduceLT, Int.reduceLE, Int.reduceNeg, Int.reduceAdd, Int.reduceSub, Int.reduceMul, Int.add_sub_cancel]); (try simp (disch := omega) only [w32_e, w64_e, td_pos, tm_pos, Int.add_sub_cancel]); first | assumption | omega) | ((try simp (disch := decide) only [cmp3_lt, cmp3_ge, cmp3_gt, cmp3_le, cmp3_eq, ms_q, ms_f, mf_q, mf_f, mc_q, mc_f, and_self, and_true, true_and, and_false, false_and, or_true, true_or, or_false, false_or, if_true, if_false, not_true_eq_false, not_false_eq_true, eq_self, reduceIte, Int.reduceEq, Int.reduceLT, Int.reduceLE, Int.reduceNeg, Int.reduceAdd, Int.reduceSub, Int.reduceMul, Int.add_sub_cancel]); (try simp (disch := omega) only [w32_e, w64_e, td_pos, tm_pos, Int.add_sub_cancel]); ((repeat' (first | assumption | omega | with_reducible rfl | apply And.intro)); done))) ?_; conv => whnf)
    | (intro v; intro hv; conv => whnf)
  all_goals refine ⟨0, _, rfl, ?_⟩
  all_goals refine Vd_run (GGB_ok (l := l) (ω := ω)) 400 (cut := fun _ => none) (by decide) CutOK_none ?_
  all_goals conv => whnf
  all_goals repeat' first
    | (refine And.intro (fun h => ?_) (fun h => ?_) <;> (try simp (disch := decide) only [cmp3_lt, cmp3_ge, cmp3_gt, cmp3_le, cmp3_eq, ms_q, ms_f, mf_q, mf_f, mc_q, mc_f, and_self, and_true, true_and, and_false, false_and, or_true, true_or, or_false, false_or, if_true, if_false, not_true_eq_false, not_false_eq_true, eq_self, reduceIte, Int.reduceEq, Int.reduceLT, Int.reduceLE, Int.reduceNeg, Int.reduceAdd, Int.reduceSub, Int.reduceMul, Int.add_sub_cancel] at h) <;> (try simp (disch := omega) only [w32_e, w64_e, td_pos, tm_pos, Int.add_sub_cancel] at h) <;> first | exact absurd rfl h | exact absurd h (by decide) | (exfalso; omega) | (conv => whnf))
    | (refine And.intro (by first | omega | ((try simp (disch := decide) only [cmp3_lt, cmp3_ge, cmp3_gt, cmp3_le, cmp3_eq, ms_q, ms_f, mf_q, mf_f, mc_q, mc_f, and_self, and_true, true_and, and_false, false_and, or_true, true_or, or_false, false_or, if_true, if_false, not_true_eq_false, not_false_eq_true, eq_self, reduceIte, Int.reduceEq, Int.reduceLT, Int.reduceLE, Int.reduceNeg, Int.reduceAdd, Int.reduceSub, Int.reduceMul, Int.add_sub_cancel]); (try simp (disch := omega) only [w32_e, w64_e, td_pos, tm_pos, Int.add_sub_cancel]); first | assumption | omega) | ((try simp (disch := decide) only [cmp3_lt, cmp3_ge, cmp3_gt, cmp3_le, cmp3_eq, ms_q, ms_f, mf_q, mf_f, mc_q, mc_f, and_self, and_true, true_and, and_false, false_and, or_true, true_or, or_false, false_or, if_true, if_false, not_true_eq_false, not_false_eq_true, eq_self, reduceIte, Int.reduceEq, Int.reduceLT, Int.reduceLE, Int.reduceNeg, Int.reduceAdd, Int.reduceSub, Int.reduceMul, Int.add_sub_cancel]); (try simp (disch := omega) only [w32_e, w64_e, td_pos, tm_pos, Int.add_sub_cancel]); ((repeat' (first | assumption | omega | with_reducible rfl | apply And.intro)); done))) ?_; conv => whnf)
    | (intro v; intro hv; conv => whnf)
  all_goals refine ⟨0, ?_, ?_⟩
  all_goals ((try simp (disch := decide) only [cmp3_lt, cmp3_ge, cmp3_gt, cmp3_le, cmp3_eq, ms_q, ms_f, mf_q, mf_f, mc_q, mc_f, and_self, and_true, true_and, and_false, false_and, or_true, true_or, or_false, false_or, if_true, if_false, not_true_eq_false, not_false_eq_true, eq_self, reduceIte, Int.reduceEq, Int.reduceLT, Int.reduceLE, Int.reduceNeg, Int.reduceAdd, Int.reduceSub, Int.reduceMul, Int.add_sub_cancel] at *); (try simp (disch := omega) only [w32_e, w64_e, td_pos, tm_pos, Int.add_sub_cancel] at *))
  all_goals first
    | exact Inv.next hc hI0
    | exact congrArg (fun z => some (vI z)) (by omega)
    | exact congrArg (fun z => some (vL z)) (by omega)
    | (exfalso; omega)
    | skip
