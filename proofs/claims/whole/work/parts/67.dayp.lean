/-! ===== the day: the pairs (wip/gen/p32.py) ===== -/
def GLA : List (Nat × Nat × Spec1) := (243, 8, sp_gtM) :: (246, 1, sp_whM) :: GLz
abbrev GGA : Env1 := fun n => getG n GLA
theorem GGA_all {l : Launch} {ω : WP} : ∀ e ∈ GLA, ∀ as M Q, e.2.2 as M Q → Vd l ω e.2.1 e.1 as M Q := List.forall_mem_cons.mpr ⟨ok_gtM, List.forall_mem_cons.mpr ⟨ok_whM, GGz_all⟩⟩
theorem GGA_ok {l : Launch} {ω : WP} : GOK l ω GGA := getG_ok GLA GGA_all
theorem inv_stepDay {c : Int} {M M1 M2 : Mem} {D : DD} (hc : c < 512) (hI : Inv c M) (rp : Rep M D M1) (ft : FT M1 M2) : Inv (c + 1) M2 := by
  obtain ⟨h0, hN, hS, hR, hK, hG, hW, hJ, hT, hA, hP, hO, hH⟩ := hI
  obtain ⟨-, fr, f10, f11⟩ := rp
  have g : ∀ p, p ≠ 10 → p ≠ 11 → p ≠ 48 → p ≠ 49 → p ≠ 56 → p ≠ 57 → p ≠ 58 → p ≠ 59 → p ≠ 60 → p ≠ 98 → p ≠ 99 → (p < 109 ∨ 122 < p) → M2 p = M p := fun p a b c d e f g h i j k l => (ft p j k l).trans (fr p a b c d e f g h i)
  have g10 : ∀ x f, f ≠ 9 → M2 10 x f = M 10 x f := fun x f h => by rw [ft 10 (by decide) (by decide) (by decide)]; exact f10 x f h
  have g11 : ∀ x f, 0 ≤ f → f < 4 → M2 11 x f = M 11 x f := fun x f h h2 => by rw [ft 11 (by decide) (by decide) (by decide)]; exact f11 x f h h2
  refine ⟨by omega, ?_, ?_, ?_, ?_, ?_, ?_, ?_, ?_, ?_, ?_, ?_, ?_⟩
  · simp (disch := decide) only [INet, g]; exact hN
  · simp (disch := decide) only [IStp, g]; exact hS
  · simp (disch := decide) only [IRou, g]; exact hR
  · simp (disch := decide) only [ISky, g]; exact hK
  · simp (disch := decide) only [IGui, g]; exact hG
  · have q := hW.next
    simp (disch := decide) only [INow, g] at q ⊢
    exact q
  · have q := hJ.next
    simp (disch := decide) only [IImg, g] at q ⊢
    exact q
  · simp (disch := decide) only [ITap, g]; exact hT
  · simp (disch := decide) only [ISta, g]; exact hA
  · simp (disch := decide) only [IPpl, g]; exact hP
  · simp (disch := decide) only [IRop, g, g10, g11]; exact hO
  · simp (disch := decide) only [IHrs, g]; exact hH
theorem rel_day {M M1 M2 : Mem} {q : Int} (rp : Rep M (dyN (dx M) (dOf M) 96) M1) (h : RelD (dx M1) (dyN (dx M1) (dOf M) (q + 1)) M2 (q + 1) 0 0 0) : RelD (dx M) (dyN (dx M) (dOf M) (q + 1)) M2 (q + 1) 0 0 0 := by
  rw [dx_rep rp] at h
  exact h

theorem pair_stayed {l : Launch} {ω : WP} {c : Int} {M : Mem} {p : Int} {w : Int} (hp : in32 p) (hw : in32 w)  (hc : c < 512) (hI : Inv c M) : Vd l ω 9 144 [vR 0 0, vI p, vI w] M (PQ1 l ω c 245 [vI p, vI w]) := by
  have hI0 := hI
  obtain ⟨h0, hN, hS, hR, hK, hG, hW, hJ, hT, hA, hP, hO, hH⟩ := hI
  have b1 := hN.1
  have b2 := hN.2.2.1
  have b3 := hS.1
  have b4 := hS.2.2.1
  have b5 := hR.1
  have b6 := hR.2.2.2.1
  have b7 := hG.1
  have b8 := hG.2.2.1
  have hH9 : DayH M := ⟨hN, hS, hR, hK, hA, hO, hW.2.2.2.1, hW.2.2.1⟩
  have b9 := hO.1
  have b10 := hO.2.1
  have e13 := b1
  have e1 := b1
  have e10 := b1
  refine Vd_run (GGA_ok (l := l) (ω := ω)) 500 (cut := fun _ => none) (by decide) CutOK_none ?_
  conv => whnf
  repeat' first
    | (refine And.intro (fun h => ?_) (fun h => ?_) <;> (try simp (disch := decide) only [cmp3_lt, cmp3_ge, cmp3_gt, cmp3_le, cmp3_eq, ms_q, ms_f, mf_q, mf_f, mc_q, mc_f, and_self, and_true, true_and, and_false, false_and, or_true, true_or, or_false, false_or, if_true, if_false, not_true_eq_false, not_false_eq_true, eq_self, reduceIte, Int.reduceEq, Int.reduceLT, Int.reduceLE, Int.reduceNeg, Int.reduceAdd, Int.reduceSub, Int.reduceMul, Int.add_sub_cancel] at h) <;> (try simp (disch := omega) only [w32_e, w64_e, td_pos, tm_pos, Int.add_sub_cancel, e13, e1, e10] at h) <;> first | exact absurd rfl h | exact absurd h (by decide) | (exfalso; omega) | (conv => whnf))
    | (refine And.intro (by first | omega | ((try simp (disch := decide) only [cmp3_lt, cmp3_ge, cmp3_gt, cmp3_le, cmp3_eq, ms_q, ms_f, mf_q, mf_f, mc_q, mc_f, and_self, and_true, true_and, and_false, false_and, or_true, true_or, or_false, false_or, if_true, if_false, not_true_eq_false, not_false_eq_true, eq_self, reduceIte, Int.reduceEq, Int.reduceLT, Int.reduceLE, Int.reduceNeg, Int.reduceAdd, Int.reduceSub, Int.reduceMul, Int.add_sub_cancel]); (try simp (disch := omega) only [w32_e, w64_e, td_pos, tm_pos, Int.add_sub_cancel, e13, e1, e10]); first | assumption | omega) | exact ⟨rfl, hH9⟩ | exact ⟨rfl, (by assumption : Rep M (dyN (dx M) (dOf M) 96) _).day hH9, by omega, by omega⟩ | ((try simp (disch := decide) only [cmp3_lt, cmp3_ge, cmp3_gt, cmp3_le, cmp3_eq, ms_q, ms_f, mf_q, mf_f, mc_q, mc_f, and_self, and_true, true_and, and_false, false_and, or_true, true_or, or_false, false_or, if_true, if_false, not_true_eq_false, not_false_eq_true, eq_self, reduceIte, Int.reduceEq, Int.reduceLT, Int.reduceLE, Int.reduceNeg, Int.reduceAdd, Int.reduceSub, Int.reduceMul, Int.add_sub_cancel]); (try simp (disch := omega) only [w32_e, w64_e, td_pos, tm_pos, Int.add_sub_cancel, e13, e1, e10]); ((repeat' (first | assumption | omega | with_reducible rfl | apply And.intro)); done))) ?_; conv => whnf)
    | (intro v; intro hv; conv => whnf)
  all_goals first
    | (have e13 : v 13 = M 13 := hv.2.1 13 (by decide) (by decide) (by decide) (by decide) (by decide) (by decide) (by decide) (by decide) (by decide)
       have e1 : v 1 = M 1 := hv.2.1 1 (by decide) (by decide) (by decide) (by decide) (by decide) (by decide) (by decide) (by decide) (by decide)
       have e10 : v 10 0 3 = M 10 0 3 := hv.2.2.1 0 3 (by decide))
    | (have e13 := b1
       have e1 := b1
       have e10 := b1)
  all_goals refine ⟨0, _, rfl, ?_⟩
  all_goals refine Vd_run (GGA_ok (l := l) (ω := ω)) 500 (cut := fun _ => none) (by decide) CutOK_none ?_
  all_goals conv => whnf
  all_goals repeat' first
    | (refine And.intro (fun h => ?_) (fun h => ?_) <;> (try simp (disch := decide) only [cmp3_lt, cmp3_ge, cmp3_gt, cmp3_le, cmp3_eq, ms_q, ms_f, mf_q, mf_f, mc_q, mc_f, and_self, and_true, true_and, and_false, false_and, or_true, true_or, or_false, false_or, if_true, if_false, not_true_eq_false, not_false_eq_true, eq_self, reduceIte, Int.reduceEq, Int.reduceLT, Int.reduceLE, Int.reduceNeg, Int.reduceAdd, Int.reduceSub, Int.reduceMul, Int.add_sub_cancel] at h) <;> (try simp (disch := omega) only [w32_e, w64_e, td_pos, tm_pos, Int.add_sub_cancel, e13, e1, e10] at h) <;> first | exact absurd rfl h | exact absurd h (by decide) | (exfalso; omega) | (conv => whnf))
    | (refine And.intro (by first | omega | ((try simp (disch := decide) only [cmp3_lt, cmp3_ge, cmp3_gt, cmp3_le, cmp3_eq, ms_q, ms_f, mf_q, mf_f, mc_q, mc_f, and_self, and_true, true_and, and_false, false_and, or_true, true_or, or_false, false_or, if_true, if_false, not_true_eq_false, not_false_eq_true, eq_self, reduceIte, Int.reduceEq, Int.reduceLT, Int.reduceLE, Int.reduceNeg, Int.reduceAdd, Int.reduceSub, Int.reduceMul, Int.add_sub_cancel]); (try simp (disch := omega) only [w32_e, w64_e, td_pos, tm_pos, Int.add_sub_cancel, e13, e1, e10]); first | assumption | omega) | exact ⟨rfl, hH9⟩ | exact ⟨rfl, (by assumption : Rep M (dyN (dx M) (dOf M) 96) _).day hH9, by omega, by omega⟩ | ((try simp (disch := decide) only [cmp3_lt, cmp3_ge, cmp3_gt, cmp3_le, cmp3_eq, ms_q, ms_f, mf_q, mf_f, mc_q, mc_f, and_self, and_true, true_and, and_false, false_and, or_true, true_or, or_false, false_or, if_true, if_false, not_true_eq_false, not_false_eq_true, eq_self, reduceIte, Int.reduceEq, Int.reduceLT, Int.reduceLE, Int.reduceNeg, Int.reduceAdd, Int.reduceSub, Int.reduceMul, Int.add_sub_cancel]); (try simp (disch := omega) only [w32_e, w64_e, td_pos, tm_pos, Int.add_sub_cancel, e13, e1, e10]); ((repeat' (first | assumption | omega | with_reducible rfl | apply And.intro)); done))) ?_; conv => whnf)
    | (intro v; intro hv; conv => whnf)
  all_goals first
    | refine ⟨dOf M, fun w2 hw2 => ?_⟩
    | skip
  all_goals first
    | (have rel := rel_day hv hw2.2
       have f13 : w2 13 = M 13 := by rw [hw2.1 13 (by decide) (by decide) (by decide), e13]
       have n54 : M 13 0 54 = M 10 0 3 := b9
       conv => whnf)
    | skip
  all_goals repeat' first
    | (refine And.intro (fun h => ?_) (fun h => ?_) <;> (try simp (disch := decide) only [cmp3_lt, cmp3_ge, cmp3_gt, cmp3_le, cmp3_eq, ms_q, ms_f, mf_q, mf_f, mc_q, mc_f, and_self, and_true, true_and, and_false, false_and, or_true, true_or, or_false, false_or, if_true, if_false, not_true_eq_false, not_false_eq_true, eq_self, reduceIte, Int.reduceEq, Int.reduceLT, Int.reduceLE, Int.reduceNeg, Int.reduceAdd, Int.reduceSub, Int.reduceMul, Int.add_sub_cancel] at h) <;> (try simp (disch := omega) only [w32_e, w64_e, td_pos, tm_pos, Int.add_sub_cancel, f13, e13, e1, e10] at h) <;> first | exact absurd rfl h | exact absurd h (by decide) | (exfalso; omega) | (conv => whnf))
    | (refine And.intro (by first | omega | ((try simp (disch := decide) only [cmp3_lt, cmp3_ge, cmp3_gt, cmp3_le, cmp3_eq, ms_q, ms_f, mf_q, mf_f, mc_q, mc_f, and_self, and_true, true_and, and_false, false_and, or_true, true_or, or_false, false_or, if_true, if_false, not_true_eq_false, not_false_eq_true, eq_self, reduceIte, Int.reduceEq, Int.reduceLT, Int.reduceLE, Int.reduceNeg, Int.reduceAdd, Int.reduceSub, Int.reduceMul, Int.add_sub_cancel]); (try simp (disch := omega) only [w32_e, w64_e, td_pos, tm_pos, Int.add_sub_cancel, f13, e13, e1, e10]); first | assumption | omega) | exact ⟨rfl, hH9⟩ | exact ⟨rfl, (by assumption : Rep M (dyN (dx M) (dOf M) 96) _).day hH9, by omega, by omega⟩ | ((try simp (disch := decide) only [cmp3_lt, cmp3_ge, cmp3_gt, cmp3_le, cmp3_eq, ms_q, ms_f, mf_q, mf_f, mc_q, mc_f, and_self, and_true, true_and, and_false, false_and, or_true, true_or, or_false, false_or, if_true, if_false, not_true_eq_false, not_false_eq_true, eq_self, reduceIte, Int.reduceEq, Int.reduceLT, Int.reduceLE, Int.reduceNeg, Int.reduceAdd, Int.reduceSub, Int.reduceMul, Int.add_sub_cancel]); (try simp (disch := omega) only [w32_e, w64_e, td_pos, tm_pos, Int.add_sub_cancel, f13, e13, e1, e10]); ((repeat' (first | assumption | omega | with_reducible rfl | apply And.intro)); done))) ?_; conv => whnf)
    | (intro v; intro hv; conv => whnf)
  all_goals refine ⟨0, ?_, ?_⟩
  all_goals first
    | exact Inv.next hc hI0
    | exact inv_stepDay hc hI0 hv FT.refl
    | exact inv_stepDay hc hI0 hv hw2.1
    | skip
  all_goals first
    | rfl
    | ((try simp (disch := decide) only [cmp3_lt, cmp3_ge, cmp3_gt, cmp3_le, cmp3_eq, ms_q, ms_f, mf_q, mf_f, mc_q, mc_f, and_self, and_true, true_and, and_false, false_and, or_true, true_or, or_false, false_or, if_true, if_false, not_true_eq_false, not_false_eq_true, eq_self, reduceIte, Int.reduceEq, Int.reduceLT, Int.reduceLE, Int.reduceNeg, Int.reduceAdd, Int.reduceSub, Int.reduceMul, Int.add_sub_cancel] at *); (try simp (disch := omega) only [w32_e, w64_e, td_pos, tm_pos, Int.add_sub_cancel, e13, e1, e10] at *)
       exact congrArg (fun z => some (vI z)) (by omega))
    | (have rel2 : RelD (dx M) (dOf v) w2 96 0 0 0 := by
         rw [hv.1]
         exact rel
       have z := rel2.2.1 p (by omega) (by omega)
       have z1 : w2 119 0 p = v 56 0 p := z.1
       have z2 : w2 120 0 p = v 57 0 p := z.2.1
       have z3 : w2 121 0 p = v 58 0 p := z.2.2
       first
         | exact congrArg (fun z => some (vI z)) z1
         | exact congrArg (fun z => some (vI z)) z2
         | exact congrArg (fun z => some (vI z)) z3)


theorem pair_went {l : Launch} {ω : WP} {c : Int} {M : Mem} {r : Int} {w : Int} (hr : in32 r) (hw : in32 w)  (hc : c < 512) (hI : Inv c M) : Vd l ω 9 143 [vR 0 0, vI r, vI w] M (PQ1 l ω c 244 [vI r, vI w]) := by
  have hI0 := hI
  obtain ⟨h0, hN, hS, hR, hK, hG, hW, hJ, hT, hA, hP, hO, hH⟩ := hI
  have b1 := hN.1
  have b2 := hN.2.2.1
  have b3 := hS.1
  have b4 := hS.2.2.1
  have b5 := hR.1
  have b6 := hR.2.2.2.1
  have b7 := hG.1
  have b8 := hG.2.2.1
  have hH9 : DayH M := ⟨hN, hS, hR, hK, hA, hO, hW.2.2.2.1, hW.2.2.1⟩
  have b9 := hO.1
  have b10 := hO.2.1
  have e54 := b9
  have e13 := b1
  have e1 := b1
  have e10 := b1
  refine Vd_run (GGA_ok (l := l) (ω := ω)) 500 (cut := fun _ => none) (by decide) CutOK_none ?_
  conv => whnf
  repeat' first
    | (refine And.intro (fun h => ?_) (fun h => ?_) <;> (try simp (disch := decide) only [cmp3_lt, cmp3_ge, cmp3_gt, cmp3_le, cmp3_eq, ms_q, ms_f, mf_q, mf_f, mc_q, mc_f, and_self, and_true, true_and, and_false, false_and, or_true, true_or, or_false, false_or, if_true, if_false, not_true_eq_false, not_false_eq_true, eq_self, reduceIte, Int.reduceEq, Int.reduceLT, Int.reduceLE, Int.reduceNeg, Int.reduceAdd, Int.reduceSub, Int.reduceMul, Int.add_sub_cancel] at h) <;> (try simp (disch := omega) only [w32_e, w64_e, td_pos, tm_pos, Int.add_sub_cancel, e13, e1, e10, e54] at h) <;> first | exact absurd rfl h | exact absurd h (by decide) | (exfalso; omega) | (conv => whnf))
    | (refine And.intro (by first | omega | ((try simp (disch := decide) only [cmp3_lt, cmp3_ge, cmp3_gt, cmp3_le, cmp3_eq, ms_q, ms_f, mf_q, mf_f, mc_q, mc_f, and_self, and_true, true_and, and_false, false_and, or_true, true_or, or_false, false_or, if_true, if_false, not_true_eq_false, not_false_eq_true, eq_self, reduceIte, Int.reduceEq, Int.reduceLT, Int.reduceLE, Int.reduceNeg, Int.reduceAdd, Int.reduceSub, Int.reduceMul, Int.add_sub_cancel]); (try simp (disch := omega) only [w32_e, w64_e, td_pos, tm_pos, Int.add_sub_cancel, e13, e1, e10, e54]); first | assumption | omega) | exact ⟨rfl, hH9⟩ | exact ⟨rfl, (by assumption : Rep M (dyN (dx M) (dOf M) 96) _).day hH9, by omega, by omega⟩ | ((try simp (disch := decide) only [cmp3_lt, cmp3_ge, cmp3_gt, cmp3_le, cmp3_eq, ms_q, ms_f, mf_q, mf_f, mc_q, mc_f, and_self, and_true, true_and, and_false, false_and, or_true, true_or, or_false, false_or, if_true, if_false, not_true_eq_false, not_false_eq_true, eq_self, reduceIte, Int.reduceEq, Int.reduceLT, Int.reduceLE, Int.reduceNeg, Int.reduceAdd, Int.reduceSub, Int.reduceMul, Int.add_sub_cancel]); (try simp (disch := omega) only [w32_e, w64_e, td_pos, tm_pos, Int.add_sub_cancel, e13, e1, e10, e54]); ((repeat' (first | assumption | omega | with_reducible rfl | apply And.intro)); done))) ?_; conv => whnf)
    | (intro v; intro hv; conv => whnf)
  all_goals first
    | (have e13 : v 13 = M 13 := hv.2.1 13 (by decide) (by decide) (by decide) (by decide) (by decide) (by decide) (by decide) (by decide) (by decide)
       have e1 : v 1 = M 1 := hv.2.1 1 (by decide) (by decide) (by decide) (by decide) (by decide) (by decide) (by decide) (by decide) (by decide)
       have e10 : v 10 0 3 = M 10 0 3 := hv.2.2.1 0 3 (by decide))
    | (have e13 := b1
       have e1 := b1
       have e10 := b1)
  all_goals refine ⟨0, _, rfl, ?_⟩
  all_goals refine Vd_run (GGA_ok (l := l) (ω := ω)) 500 (cut := fun _ => none) (by decide) CutOK_none ?_
  all_goals conv => whnf
  all_goals repeat' first
    | (refine And.intro (fun h => ?_) (fun h => ?_) <;> (try simp (disch := decide) only [cmp3_lt, cmp3_ge, cmp3_gt, cmp3_le, cmp3_eq, ms_q, ms_f, mf_q, mf_f, mc_q, mc_f, and_self, and_true, true_and, and_false, false_and, or_true, true_or, or_false, false_or, if_true, if_false, not_true_eq_false, not_false_eq_true, eq_self, reduceIte, Int.reduceEq, Int.reduceLT, Int.reduceLE, Int.reduceNeg, Int.reduceAdd, Int.reduceSub, Int.reduceMul, Int.add_sub_cancel] at h) <;> (try simp (disch := omega) only [w32_e, w64_e, td_pos, tm_pos, Int.add_sub_cancel, e13, e1, e10, e54] at h) <;> first | exact absurd rfl h | exact absurd h (by decide) | (exfalso; omega) | (conv => whnf))
    | (refine And.intro (by first | omega | ((try simp (disch := decide) only [cmp3_lt, cmp3_ge, cmp3_gt, cmp3_le, cmp3_eq, ms_q, ms_f, mf_q, mf_f, mc_q, mc_f, and_self, and_true, true_and, and_false, false_and, or_true, true_or, or_false, false_or, if_true, if_false, not_true_eq_false, not_false_eq_true, eq_self, reduceIte, Int.reduceEq, Int.reduceLT, Int.reduceLE, Int.reduceNeg, Int.reduceAdd, Int.reduceSub, Int.reduceMul, Int.add_sub_cancel]); (try simp (disch := omega) only [w32_e, w64_e, td_pos, tm_pos, Int.add_sub_cancel, e13, e1, e10, e54]); first | assumption | omega) | exact ⟨rfl, hH9⟩ | exact ⟨rfl, (by assumption : Rep M (dyN (dx M) (dOf M) 96) _).day hH9, by omega, by omega⟩ | ((try simp (disch := decide) only [cmp3_lt, cmp3_ge, cmp3_gt, cmp3_le, cmp3_eq, ms_q, ms_f, mf_q, mf_f, mc_q, mc_f, and_self, and_true, true_and, and_false, false_and, or_true, true_or, or_false, false_or, if_true, if_false, not_true_eq_false, not_false_eq_true, eq_self, reduceIte, Int.reduceEq, Int.reduceLT, Int.reduceLE, Int.reduceNeg, Int.reduceAdd, Int.reduceSub, Int.reduceMul, Int.add_sub_cancel]); (try simp (disch := omega) only [w32_e, w64_e, td_pos, tm_pos, Int.add_sub_cancel, e13, e1, e10, e54]); ((repeat' (first | assumption | omega | with_reducible rfl | apply And.intro)); done))) ?_; conv => whnf)
    | (intro v; intro hv; conv => whnf)
  all_goals first
    | refine ⟨dOf M, fun w2 hw2 => ?_⟩
    | skip
  all_goals first
    | (have rel := rel_day hv hw2.2
       have f13 : w2 13 = M 13 := by rw [hw2.1 13 (by decide) (by decide) (by decide), e13]
       have n54 : M 13 0 54 = M 10 0 3 := b9
       conv => whnf)
    | skip
  all_goals repeat' first
    | (refine And.intro (fun h => ?_) (fun h => ?_) <;> (try simp (disch := decide) only [cmp3_lt, cmp3_ge, cmp3_gt, cmp3_le, cmp3_eq, ms_q, ms_f, mf_q, mf_f, mc_q, mc_f, and_self, and_true, true_and, and_false, false_and, or_true, true_or, or_false, false_or, if_true, if_false, not_true_eq_false, not_false_eq_true, eq_self, reduceIte, Int.reduceEq, Int.reduceLT, Int.reduceLE, Int.reduceNeg, Int.reduceAdd, Int.reduceSub, Int.reduceMul, Int.add_sub_cancel] at h) <;> (try simp (disch := omega) only [w32_e, w64_e, td_pos, tm_pos, Int.add_sub_cancel, f13, e13, e1, e10, e54] at h) <;> first | exact absurd rfl h | exact absurd h (by decide) | (exfalso; omega) | (conv => whnf))
    | (refine And.intro (by first | omega | ((try simp (disch := decide) only [cmp3_lt, cmp3_ge, cmp3_gt, cmp3_le, cmp3_eq, ms_q, ms_f, mf_q, mf_f, mc_q, mc_f, and_self, and_true, true_and, and_false, false_and, or_true, true_or, or_false, false_or, if_true, if_false, not_true_eq_false, not_false_eq_true, eq_self, reduceIte, Int.reduceEq, Int.reduceLT, Int.reduceLE, Int.reduceNeg, Int.reduceAdd, Int.reduceSub, Int.reduceMul, Int.add_sub_cancel]); (try simp (disch := omega) only [w32_e, w64_e, td_pos, tm_pos, Int.add_sub_cancel, f13, e13, e1, e10, e54]); first | assumption | omega) | exact ⟨rfl, hH9⟩ | exact ⟨rfl, (by assumption : Rep M (dyN (dx M) (dOf M) 96) _).day hH9, by omega, by omega⟩ | ((try simp (disch := decide) only [cmp3_lt, cmp3_ge, cmp3_gt, cmp3_le, cmp3_eq, ms_q, ms_f, mf_q, mf_f, mc_q, mc_f, and_self, and_true, true_and, and_false, false_and, or_true, true_or, or_false, false_or, if_true, if_false, not_true_eq_false, not_false_eq_true, eq_self, reduceIte, Int.reduceEq, Int.reduceLT, Int.reduceLE, Int.reduceNeg, Int.reduceAdd, Int.reduceSub, Int.reduceMul, Int.add_sub_cancel]); (try simp (disch := omega) only [w32_e, w64_e, td_pos, tm_pos, Int.add_sub_cancel, f13, e13, e1, e10, e54]); ((repeat' (first | assumption | omega | with_reducible rfl | apply And.intro)); done))) ?_; conv => whnf)
    | (intro v; intro hv; conv => whnf)
  all_goals refine ⟨0, ?_, ?_⟩
  all_goals first
    | exact Inv.next hc hI0
    | exact inv_stepDay hc hI0 hv FT.refl
    | exact inv_stepDay hc hI0 hv hw2.1
    | skip
  all_goals first
    | rfl
    | ((try simp (disch := decide) only [cmp3_lt, cmp3_ge, cmp3_gt, cmp3_le, cmp3_eq, ms_q, ms_f, mf_q, mf_f, mc_q, mc_f, and_self, and_true, true_and, and_false, false_and, or_true, true_or, or_false, false_or, if_true, if_false, not_true_eq_false, not_false_eq_true, eq_self, reduceIte, Int.reduceEq, Int.reduceLT, Int.reduceLE, Int.reduceNeg, Int.reduceAdd, Int.reduceSub, Int.reduceMul, Int.add_sub_cancel] at *); (try simp (disch := omega) only [w32_e, w64_e, td_pos, tm_pos, Int.add_sub_cancel, e13, e1, e10] at *)
       first | (exact congrArg (fun z => some (vI z)) (by omega)) | (exfalso; omega))
    | (have rel2 : RelD (dx M) (dOf v) w2 96 0 0 0 := by
         rw [hv.1]
         exact rel
       have z : ((v 11 r 6 = -4 → w2 109 0 r = 0) ∧ (¬ v 11 r 6 = -4 → w2 109 0 r = 1 ∧ w2 113 0 r = v 11 r 6) ∧ (v 11 r 8 = -4 → w2 110 0 r = 0) ∧ (¬ v 11 r 8 = -4 → w2 110 0 r = 1 ∧ w2 116 0 r = v 11 r 8) ∧ (w2 111 0 r = v 11 r 9 ∧ w2 112 0 r = v 11 r 7 ∧ w2 117 0 r = v 11 r 10 ∧ w2 118 0 r = v 11 r 11) ∧ (v 11 r 4 = -4 → w2 115 0 r = -4) ∧ (¬ v 11 r 4 = -4 → w2 115 0 r = v 11 r 5) ∧ (v 11 r 6 = -4 ↔ ¬ (M 11 r 2 < 96 ∨ (M 11 r 2 = 96 ∧ r < 0))) ∧ (v 11 r 6 = -4 → v 11 r 4 = -4 ∧ v 11 r 8 = -4 ∧ v 11 r 7 = 0) ∧ (¬ v 11 r 4 = -4 → 0 ≤ v 11 r 5 ∧ ¬ v 11 r 6 = -4 ∧ v 11 r 8 = -4) ∧ (v 11 r 6 = -4 ∨ (0 ≤ v 11 r 6 ∧ v 11 r 6 < 12)) ∧ (v 11 r 8 = -4 ∨ (0 ≤ v 11 r 8 ∧ v 11 r 8 ≤ 96))) := rel2.1 r (by omega) (show r < M 10 0 3 by omega)
       have sa := (dm_facts hH9 (show 0 ≤ r by omega) (show r < M 10 0 3 by omega)).2.2.2.1
       first | (exact congrArg (fun z => some (vI z)) (by omega)) | (exfalso; omega))


theorem pair_at {l : Launch} {ω : WP} {c : Int} {M : Mem} {r : Int} {q : Int} (hr : in32 r) (hq : in32 q)  (hc : c < 512) (hI : Inv c M) : Vd l ω 9 145 [vR 0 0, vI r, vI q] M (PQ1 l ω c 247 [vI r, vI q]) := by
  have hI0 := hI
  obtain ⟨h0, hN, hS, hR, hK, hG, hW, hJ, hT, hA, hP, hO, hH⟩ := hI
  have b1 := hN.1
  have b2 := hN.2.2.1
  have b3 := hS.1
  have b4 := hS.2.2.1
  have b5 := hR.1
  have b6 := hR.2.2.2.1
  have b7 := hG.1
  have b8 := hG.2.2.1
  have hH9 : DayH M := ⟨hN, hS, hR, hK, hA, hO, hW.2.2.2.1, hW.2.2.1⟩
  have b9 := hO.1
  have b10 := hO.2.1
  have e54 := b9
  have e13 := b1
  have e1 := b1
  have e10 := b1
  refine Vd_run (GGA_ok (l := l) (ω := ω)) 500 (cut := fun _ => none) (by decide) CutOK_none ?_
  conv => whnf
  repeat' first
    | (refine And.intro (fun h => ?_) (fun h => ?_) <;> (try simp (disch := decide) only [cmp3_lt, cmp3_ge, cmp3_gt, cmp3_le, cmp3_eq, ms_q, ms_f, mf_q, mf_f, mc_q, mc_f, and_self, and_true, true_and, and_false, false_and, or_true, true_or, or_false, false_or, if_true, if_false, not_true_eq_false, not_false_eq_true, eq_self, reduceIte, Int.reduceEq, Int.reduceLT, Int.reduceLE, Int.reduceNeg, Int.reduceAdd, Int.reduceSub, Int.reduceMul, Int.add_sub_cancel] at h) <;> (try simp (disch := omega) only [w32_e, w64_e, td_pos, tm_pos, Int.add_sub_cancel, e13, e1, e10, e54] at h) <;> first | exact absurd rfl h | exact absurd h (by decide) | (exfalso; omega) | (conv => whnf))
    | (refine And.intro (by first | omega | ((try simp (disch := decide) only [cmp3_lt, cmp3_ge, cmp3_gt, cmp3_le, cmp3_eq, ms_q, ms_f, mf_q, mf_f, mc_q, mc_f, and_self, and_true, true_and, and_false, false_and, or_true, true_or, or_false, false_or, if_true, if_false, not_true_eq_false, not_false_eq_true, eq_self, reduceIte, Int.reduceEq, Int.reduceLT, Int.reduceLE, Int.reduceNeg, Int.reduceAdd, Int.reduceSub, Int.reduceMul, Int.add_sub_cancel]); (try simp (disch := omega) only [w32_e, w64_e, td_pos, tm_pos, Int.add_sub_cancel, e13, e1, e10, e54]); first | assumption | omega) | exact ⟨rfl, hH9⟩ | exact ⟨rfl, (by assumption : Rep M (dyN (dx M) (dOf M) 96) _).day hH9, by omega, by omega⟩ | ((try simp (disch := decide) only [cmp3_lt, cmp3_ge, cmp3_gt, cmp3_le, cmp3_eq, ms_q, ms_f, mf_q, mf_f, mc_q, mc_f, and_self, and_true, true_and, and_false, false_and, or_true, true_or, or_false, false_or, if_true, if_false, not_true_eq_false, not_false_eq_true, eq_self, reduceIte, Int.reduceEq, Int.reduceLT, Int.reduceLE, Int.reduceNeg, Int.reduceAdd, Int.reduceSub, Int.reduceMul, Int.add_sub_cancel]); (try simp (disch := omega) only [w32_e, w64_e, td_pos, tm_pos, Int.add_sub_cancel, e13, e1, e10, e54]); ((repeat' (first | assumption | omega | with_reducible rfl | apply And.intro)); done))) ?_; conv => whnf)
    | (intro v; intro hv; conv => whnf)
  all_goals first
    | (have e13 : v 13 = M 13 := hv.2.1 13 (by decide) (by decide) (by decide) (by decide) (by decide) (by decide) (by decide) (by decide) (by decide)
       have e1 : v 1 = M 1 := hv.2.1 1 (by decide) (by decide) (by decide) (by decide) (by decide) (by decide) (by decide) (by decide) (by decide)
       have e10 : v 10 0 3 = M 10 0 3 := hv.2.2.1 0 3 (by decide))
    | (have e13 := b1
       have e1 := b1
       have e10 := b1)
  all_goals refine ⟨0, _, rfl, ?_⟩
  all_goals refine Vd_run (GGA_ok (l := l) (ω := ω)) 500 (cut := fun _ => none) (by decide) CutOK_none ?_
  all_goals conv => whnf
  all_goals repeat' first
    | (refine And.intro (fun h => ?_) (fun h => ?_) <;> (try simp (disch := decide) only [cmp3_lt, cmp3_ge, cmp3_gt, cmp3_le, cmp3_eq, ms_q, ms_f, mf_q, mf_f, mc_q, mc_f, and_self, and_true, true_and, and_false, false_and, or_true, true_or, or_false, false_or, if_true, if_false, not_true_eq_false, not_false_eq_true, eq_self, reduceIte, Int.reduceEq, Int.reduceLT, Int.reduceLE, Int.reduceNeg, Int.reduceAdd, Int.reduceSub, Int.reduceMul, Int.add_sub_cancel] at h) <;> (try simp (disch := omega) only [w32_e, w64_e, td_pos, tm_pos, Int.add_sub_cancel, e13, e1, e10, e54] at h) <;> first | exact absurd rfl h | exact absurd h (by decide) | (exfalso; omega) | (conv => whnf))
    | (refine And.intro (by first | omega | ((try simp (disch := decide) only [cmp3_lt, cmp3_ge, cmp3_gt, cmp3_le, cmp3_eq, ms_q, ms_f, mf_q, mf_f, mc_q, mc_f, and_self, and_true, true_and, and_false, false_and, or_true, true_or, or_false, false_or, if_true, if_false, not_true_eq_false, not_false_eq_true, eq_self, reduceIte, Int.reduceEq, Int.reduceLT, Int.reduceLE, Int.reduceNeg, Int.reduceAdd, Int.reduceSub, Int.reduceMul, Int.add_sub_cancel]); (try simp (disch := omega) only [w32_e, w64_e, td_pos, tm_pos, Int.add_sub_cancel, e13, e1, e10, e54]); first | assumption | omega) | exact ⟨rfl, hH9⟩ | exact ⟨rfl, (by assumption : Rep M (dyN (dx M) (dOf M) 96) _).day hH9, by omega, by omega⟩ | ((try simp (disch := decide) only [cmp3_lt, cmp3_ge, cmp3_gt, cmp3_le, cmp3_eq, ms_q, ms_f, mf_q, mf_f, mc_q, mc_f, and_self, and_true, true_and, and_false, false_and, or_true, true_or, or_false, false_or, if_true, if_false, not_true_eq_false, not_false_eq_true, eq_self, reduceIte, Int.reduceEq, Int.reduceLT, Int.reduceLE, Int.reduceNeg, Int.reduceAdd, Int.reduceSub, Int.reduceMul, Int.add_sub_cancel]); (try simp (disch := omega) only [w32_e, w64_e, td_pos, tm_pos, Int.add_sub_cancel, e13, e1, e10, e54]); ((repeat' (first | assumption | omega | with_reducible rfl | apply And.intro)); done))) ?_; conv => whnf)
    | (intro v; intro hv; conv => whnf)
  all_goals first
    | refine ⟨dOf M, fun w2 hw2 => ?_⟩
    | skip
  all_goals first
    | (have rel := rel_day hv hw2.2
       have f13 : w2 13 = M 13 := by rw [hw2.1 13 (by decide) (by decide) (by decide), e13]
       have n54 : M 13 0 54 = M 10 0 3 := b9
       conv => whnf)
    | skip
  all_goals repeat' first
    | (refine And.intro (fun h => ?_) (fun h => ?_) <;> (try simp (disch := decide) only [cmp3_lt, cmp3_ge, cmp3_gt, cmp3_le, cmp3_eq, ms_q, ms_f, mf_q, mf_f, mc_q, mc_f, and_self, and_true, true_and, and_false, false_and, or_true, true_or, or_false, false_or, if_true, if_false, not_true_eq_false, not_false_eq_true, eq_self, reduceIte, Int.reduceEq, Int.reduceLT, Int.reduceLE, Int.reduceNeg, Int.reduceAdd, Int.reduceSub, Int.reduceMul, Int.add_sub_cancel] at h) <;> (try simp (disch := omega) only [w32_e, w64_e, td_pos, tm_pos, Int.add_sub_cancel, f13, e13, e1, e10, e54] at h) <;> first | exact absurd rfl h | exact absurd h (by decide) | (exfalso; omega) | (conv => whnf))
    | (refine And.intro (by first | omega | ((try simp (disch := decide) only [cmp3_lt, cmp3_ge, cmp3_gt, cmp3_le, cmp3_eq, ms_q, ms_f, mf_q, mf_f, mc_q, mc_f, and_self, and_true, true_and, and_false, false_and, or_true, true_or, or_false, false_or, if_true, if_false, not_true_eq_false, not_false_eq_true, eq_self, reduceIte, Int.reduceEq, Int.reduceLT, Int.reduceLE, Int.reduceNeg, Int.reduceAdd, Int.reduceSub, Int.reduceMul, Int.add_sub_cancel]); (try simp (disch := omega) only [w32_e, w64_e, td_pos, tm_pos, Int.add_sub_cancel, f13, e13, e1, e10, e54]); first | assumption | omega) | exact ⟨rfl, hH9⟩ | exact ⟨rfl, (by assumption : Rep M (dyN (dx M) (dOf M) 96) _).day hH9, by omega, by omega⟩ | ((try simp (disch := decide) only [cmp3_lt, cmp3_ge, cmp3_gt, cmp3_le, cmp3_eq, ms_q, ms_f, mf_q, mf_f, mc_q, mc_f, and_self, and_true, true_and, and_false, false_and, or_true, true_or, or_false, false_or, if_true, if_false, not_true_eq_false, not_false_eq_true, eq_self, reduceIte, Int.reduceEq, Int.reduceLT, Int.reduceLE, Int.reduceNeg, Int.reduceAdd, Int.reduceSub, Int.reduceMul, Int.add_sub_cancel]); (try simp (disch := omega) only [w32_e, w64_e, td_pos, tm_pos, Int.add_sub_cancel, f13, e13, e1, e10, e54]); ((repeat' (first | assumption | omega | with_reducible rfl | apply And.intro)); done))) ?_; conv => whnf)
    | (intro v; intro hv; conv => whnf)
  all_goals first
    | refine ⟨dyN (dx M) (dOf M) (q + 1), q + 1, ⟨hw2.1.day (hv.day hH9), by rw [dx_ft hw2.1, dx_rep hv]; exact ok_dyI hH9.x (by omega), by rw [dx_ft hw2.1, dx_rep hv]; exact rel, by rw [hw2.1 10 (by decide) (by decide) (by decide), e10]; omega⟩, ?_⟩
    | skip
  all_goals (conv => whnf)
  all_goals refine ⟨0, ?_, ?_⟩
  all_goals first
    | exact Inv.next hc hI0
    | exact inv_stepDay hc hI0 hv hw2.1
    | rfl
    | (have s := dy_sn (D := dOf M) hH9.x (r := r) (q := q) (show 0 ≤ r ∧ r < M 10 0 3 by omega) (by omega) 96 (by omega)
       have s2 : (dOf v).sn = (dyN (dx M) (dOf M) 96).sn := by rw [hv.1]
       have s3 : v 60 r q = (dyN (dx M) (dOf M) ((96 : Nat) : Int)).sn r q := congrFun (congrFun s2 r) q
       rw [s3, s])
