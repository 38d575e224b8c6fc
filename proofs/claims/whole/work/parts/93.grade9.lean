/-! ===== grades, the class: commonOf (wip/gen/p48.py) ===== -/
def sp_coC : Spec1 := fun as M Q => match as with
  | [.inr (.inr (.inl (q0, i0))), .inr (.inl x), .inr (.inl y)] => match Nat.beq q0 12 with
    | true => (i0 = 0 ∧ (0 ≤ x ∧ x < 4000000000000000000) ∧ (0 ≤ y ∧ y < 4000000000000000000)) ∧ Q (some (vL (eu 100 x y))) M
    | false => False
  | _ => False
theorem ok_coC {l : Launch} {ω : WP} : ∀ as M Q, sp_coC as M Q → Vd l ω 1 20 as M Q := by
  intro as M Q h
  unfold sp_coC at h
  split at h
  case h_2 => exact h.elim
  rename_i q0 i0 x y
  cases hb : Nat.beq q0 12 with
  | false => rw [hb] at h; exact h.elim
  | true =>
  rw [hb] at h
  obtain ⟨⟨hi, hx, hy⟩, hQ⟩ := h
  have hb := beq_eq hb
  subst hb
  subst hi
  refine Vd.ok fun hok hal => ?_
  have key : ∀ n9, CutOK l ω 1 20 (cutL [(9, [0, 1, 3, 5, 7, 9], fun kk vs M9 => ∃ g r i : Int, vs = [vR 12 0, vL x, vL y, vL g, vL r, vI i] ∧ M = M9 ∧ kk = (1000 - i).toNat ∧ (0 ≤ i ∧ i ≤ 100) ∧ (0 ≤ g ∧ g < 4000000000000000000) ∧ (0 ≤ r ∧ r < 4000000000000000000) ∧ eu (100 - i).toNat g r = eu 100 x y)] n9) Q := by
    refine loops (GGM_ok (l := l) (ω := ω)) 600 _ ?_
    refine List.forall_mem_cons.mpr ⟨?_, fun _ h => absurd h List.not_mem_nil⟩
    · rintro n9 vs M9 ⟨g, r, i, rfl, rfl, rfl, i0, g0, r0, hu⟩
      have ei : w32 (i + 1) = i + 1 := w32_e (by omega) (by omega)
      have em : ¬ r = 0 → w64 (g.tmod r) = g.tmod r ∧ 0 ≤ g.tmod r ∧ g.tmod r < 4000000000000000000 := fun z => by
        have a1 : 0 ≤ g.tmod r := Int.tmod_nonneg _ g0.1
        have a2 : g.tmod r < r := Int.tmod_lt_of_pos _ (by omega)
        exact ⟨w64_e (by omega) (by omega), a1, by omega⟩
      have es : i < 100 → (100 - i).toNat = (100 - (i + 1)).toNat + 1 := fun z => by omega
      show wpH _ 600 _ 20 _ true 9 [vR 12 0, vL x, vU, vL y, vU, vL g, vU, vL r, vU, vI i, vU, vU] [] _ Q
      conv => whnf
      repeat' first
        | (refine And.intro (fun h => ?_) (fun h => ?_) <;> (try simp (disch := decide) only [cmp3_lt, cmp3_ge, cmp3_gt, cmp3_le, cmp3_eq, ms_q, ms_f, mf_q, mf_f, mc_q, mc_f, and_self, and_true, true_and, and_false, false_and, or_true, true_or, or_false, false_or, if_true, if_false, not_true_eq_false, not_false_eq_true, eq_self, reduceIte, Int.reduceEq, Int.reduceLT, Int.reduceLE, Int.reduceNeg, Int.reduceAdd, Int.reduceSub, Int.reduceMul, Int.add_sub_cancel] at h) <;> (try simp (disch := omega) only [w32_e, w64_e, td_pos, tm_pos, Int.add_sub_cancel] at h) <;> first | exact absurd rfl h | exact absurd h (by decide) | (exfalso; omega) | (conv => whnf))
        | (refine And.intro (by first | omega | ((try simp (disch := decide) only [cmp3_lt, cmp3_ge, cmp3_gt, cmp3_le, cmp3_eq, ms_q, ms_f, mf_q, mf_f, mc_q, mc_f, and_self, and_true, true_and, and_false, false_and, or_true, true_or, or_false, false_or, if_true, if_false, not_true_eq_false, not_false_eq_true, eq_self, reduceIte, Int.reduceEq, Int.reduceLT, Int.reduceLE, Int.reduceNeg, Int.reduceAdd, Int.reduceSub, Int.reduceMul, Int.add_sub_cancel]); (try simp (disch := omega) only [w32_e, w64_e, td_pos, tm_pos, Int.add_sub_cancel]); first | assumption | omega) | ((try simp (disch := decide) only [cmp3_lt, cmp3_ge, cmp3_gt, cmp3_le, cmp3_eq, ms_q, ms_f, mf_q, mf_f, mc_q, mc_f, and_self, and_true, true_and, and_false, false_and, or_true, true_or, or_false, false_or, if_true, if_false, not_true_eq_false, not_false_eq_true, eq_self, reduceIte, Int.reduceEq, Int.reduceLT, Int.reduceLE, Int.reduceNeg, Int.reduceAdd, Int.reduceSub, Int.reduceMul, Int.add_sub_cancel]); (try simp (disch := omega) only [w32_e, w64_e, td_pos, tm_pos, Int.add_sub_cancel]); ((repeat' (first | assumption | omega | with_reducible rfl | apply And.intro)); done))) ?_; conv => whnf)
        | (intro v; intro hv; conv => whnf)
      all_goals first
        | (have e9 : i = 100 := by omega
           refine Eq.mp (congrArg (fun z => Q (some (vL z)) M) ?_) hQ
           rw [← hu, e9]
           rfl)
        | (have e9 : r = 0 := by omega
           refine Eq.mp (congrArg (fun z => Q (some (vL z)) M) ?_) hQ
           rw [← hu, es (by omega), eu, if_pos e9])
        | (have e9 : ¬ r = 0 := by omega
           have q := em e9
           refine ⟨_, ?_, r, g.tmod r, i + 1, by rw [ei], rfl, rfl, ⟨by omega, by omega⟩, r0, q.2, ?_⟩
           · omega
           · rw [← hu, es (by omega), eu, if_neg e9])
  refine Vd_run (GGM_ok (l := l) (ω := ω)) 600 (hC := key 5000) (by decide) ?_
  conv => whnf
  repeat' first
    | (refine And.intro (fun h => ?_) (fun h => ?_) <;> (try simp (disch := decide) only [cmp3_lt, cmp3_ge, cmp3_gt, cmp3_le, cmp3_eq, ms_q, ms_f, mf_q, mf_f, mc_q, mc_f, and_self, and_true, true_and, and_false, false_and, or_true, true_or, or_false, false_or, if_true, if_false, not_true_eq_false, not_false_eq_true, eq_self, reduceIte, Int.reduceEq, Int.reduceLT, Int.reduceLE, Int.reduceNeg, Int.reduceAdd, Int.reduceSub, Int.reduceMul, Int.add_sub_cancel] at h) <;> (try simp (disch := omega) only [w32_e, w64_e, td_pos, tm_pos, Int.add_sub_cancel] at h) <;> first | exact absurd rfl h | exact absurd h (by decide) | (exfalso; omega) | (conv => whnf))
    | (refine And.intro (by first | omega | ((try simp (disch := decide) only [cmp3_lt, cmp3_ge, cmp3_gt, cmp3_le, cmp3_eq, ms_q, ms_f, mf_q, mf_f, mc_q, mc_f, and_self, and_true, true_and, and_false, false_and, or_true, true_or, or_false, false_or, if_true, if_false, not_true_eq_false, not_false_eq_true, eq_self, reduceIte, Int.reduceEq, Int.reduceLT, Int.reduceLE, Int.reduceNeg, Int.reduceAdd, Int.reduceSub, Int.reduceMul, Int.add_sub_cancel]); (try simp (disch := omega) only [w32_e, w64_e, td_pos, tm_pos, Int.add_sub_cancel]); first | assumption | omega) | ((try simp (disch := decide) only [cmp3_lt, cmp3_ge, cmp3_gt, cmp3_le, cmp3_eq, ms_q, ms_f, mf_q, mf_f, mc_q, mc_f, and_self, and_true, true_and, and_false, false_and, or_true, true_or, or_false, false_or, if_true, if_false, not_true_eq_false, not_false_eq_true, eq_self, reduceIte, Int.reduceEq, Int.reduceLT, Int.reduceLE, Int.reduceNeg, Int.reduceAdd, Int.reduceSub, Int.reduceMul, Int.add_sub_cancel]); (try simp (disch := omega) only [w32_e, w64_e, td_pos, tm_pos, Int.add_sub_cancel]); ((repeat' (first | assumption | omega | with_reducible rfl | apply And.intro)); done))) ?_; conv => whnf)
    | (intro v; intro hv; conv => whnf)
  all_goals
    (refine ⟨_, ?_, x, y, 0, rfl, rfl, rfl, ⟨Int.le_refl _, by decide⟩, hx, hy, rfl⟩
     omega)
