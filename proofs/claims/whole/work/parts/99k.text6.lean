/-! ===== text, the class: tokens (wip/gen/p60.py) ===== -/
def sp_inC : Spec1 := fun as M Q => match as with
  | [.inr (.inr (.inl (q0, i0))), .inl f, .inl t] => match Nat.beq q0 7 with
    | true => (i0 = 0 ∧ (0 ≤ f ∧ f ≤ t ∧ t ≤ 80) ∧ (0 ≤ M 7 0 3 ∧ M 7 0 3 ≤ M 7 0 2 ∧ M 7 0 2 ≤ 240)) ∧ Q (some (vI (if t - f = M 7 0 2 - M 7 0 3 ∧ isB (M 40 0) (t - f).toNat (M 7 0 3) f = true then 1 else 0))) M
    | false => False
  | _ => False
theorem ok_inC {l : Launch} {ω : WP} : ∀ as M Q, sp_inC as M Q → Vd l ω 5 59 as M Q := by
  intro as M Q h
  unfold sp_inC at h
  split at h
  case h_2 => exact h.elim
  rename_i q0 i0 f t
  cases hb : Nat.beq q0 7 with
  | false => rw [hb] at h; exact h.elim
  | true =>
  rw [hb] at h
  obtain ⟨⟨hi, hf, hs⟩, hQ⟩ := h
  have hb := beq_eq hb
  subst hb
  subst hi
  refine Vd.ok fun hok hal => ?_
  have hne : t - f = M 7 0 2 - M 7 0 3 ∨ ¬ t - f = M 7 0 2 - M 7 0 3 := Decidable.em _
  by_cases c : t - f = M 7 0 2 - M 7 0 3
  case neg =>
    rw [if_neg (fun z => c z.1)] at hQ
    refine Vd_run (GGS_ok (l := l) (ω := ω)) 200 (cut := fun _ => none) (by decide) CutOK_none ?_
    conv => whnf
    repeat' first
      | (refine And.intro (fun h => ?_) (fun h => ?_) <;> (try simp (disch := decide) only [cmp3_lt, cmp3_ge, cmp3_gt, cmp3_le, cmp3_eq, ms_q, ms_f, mf_q, mf_f, mc_q, mc_f, and_self, and_true, true_and, and_false, false_and, or_true, true_or, or_false, false_or, if_true, if_false, not_true_eq_false, not_false_eq_true, eq_self, reduceIte, Int.reduceEq, Int.reduceLT, Int.reduceLE, Int.reduceNeg, Int.reduceAdd, Int.reduceSub, Int.reduceMul, Int.add_sub_cancel] at h) <;> (try simp (disch := omega) only [w32_e, w64_e, td_pos, tm_pos, Int.add_sub_cancel] at h) <;> first | exact absurd rfl h | exact absurd h (by decide) | (exfalso; omega) | (conv => whnf))
      | (refine And.intro (by first | omega | ((try simp (disch := decide) only [cmp3_lt, cmp3_ge, cmp3_gt, cmp3_le, cmp3_eq, ms_q, ms_f, mf_q, mf_f, mc_q, mc_f, and_self, and_true, true_and, and_false, false_and, or_true, true_or, or_false, false_or, if_true, if_false, not_true_eq_false, not_false_eq_true, eq_self, reduceIte, Int.reduceEq, Int.reduceLT, Int.reduceLE, Int.reduceNeg, Int.reduceAdd, Int.reduceSub, Int.reduceMul, Int.add_sub_cancel]); (try simp (disch := omega) only [w32_e, w64_e, td_pos, tm_pos, Int.add_sub_cancel]); first | assumption | omega) | ((try simp (disch := decide) only [cmp3_lt, cmp3_ge, cmp3_gt, cmp3_le, cmp3_eq, ms_q, ms_f, mf_q, mf_f, mc_q, mc_f, and_self, and_true, true_and, and_false, false_and, or_true, true_or, or_false, false_or, if_true, if_false, not_true_eq_false, not_false_eq_true, eq_self, reduceIte, Int.reduceEq, Int.reduceLT, Int.reduceLE, Int.reduceNeg, Int.reduceAdd, Int.reduceSub, Int.reduceMul, Int.add_sub_cancel]); (try simp (disch := omega) only [w32_e, w64_e, td_pos, tm_pos, Int.add_sub_cancel]); ((repeat' (first | assumption | omega | with_reducible rfl | apply And.intro)); done))) ?_; conv => whnf)
      | (intro v; intro hv; conv => whnf)
    all_goals first
      | exact hQ
      | (exfalso; omega)
  case pos =>
    have key : ∀ n9, CutOK l ω 5 59 (cutL [(19, [0, 1, 2, 3], fun kk vs M9 => ∃ i : Int, vs = [vR 7 0, vI f, vI t, vI i] ∧ M = M9 ∧ kk = (100 - i).toNat ∧ (f ≤ i ∧ i ≤ t) ∧ isB (M 40 0) (t - i).toNat (M 7 0 3 + i - f) i = isB (M 40 0) (t - f).toNat (M 7 0 3) f)] n9) Q := by
      refine loops (GGS_ok (l := l) (ω := ω)) 300 _ ?_
      refine List.forall_mem_cons.mpr ⟨?_, fun _ h => absurd h List.not_mem_nil⟩
      · rintro n9 vs M9 ⟨i, rfl, rfl, rfl, i0, hi⟩
        have ei : w32 (i + 1) = i + 1 := w32_e (by omega) (by omega)
        have e1 : w32 (M 7 0 3 + i) = M 7 0 3 + i := w32_e (by omega) (by omega)
        have e2 : w32 (M 7 0 3 + i - f) = M 7 0 3 + i - f := w32_e (by omega) (by omega)
        have es : i < t → (t - i).toNat = (t - (i + 1)).toNat + 1 := fun z => by omega
        have e3 : M 7 0 3 + i - f + 1 = M 7 0 3 + (i + 1) - f := by omega
        show wpH _ 300 _ 59 _ true 19 [vR 7 0, vI f, vI t, vI i] [] _ Q
        conv => whnf
        repeat' first
          | (refine And.intro (fun h => ?_) (fun h => ?_) <;> (try simp (disch := decide) only [cmp3_lt, cmp3_ge, cmp3_gt, cmp3_le, cmp3_eq, ms_q, ms_f, mf_q, mf_f, mc_q, mc_f, and_self, and_true, true_and, and_false, false_and, or_true, true_or, or_false, false_or, if_true, if_false, not_true_eq_false, not_false_eq_true, eq_self, reduceIte, Int.reduceEq, Int.reduceLT, Int.reduceLE, Int.reduceNeg, Int.reduceAdd, Int.reduceSub, Int.reduceMul, Int.add_sub_cancel] at h) <;> (try simp (disch := omega) only [w32_e, w64_e, td_pos, tm_pos, Int.add_sub_cancel, e1, e2] at h) <;> first | exact absurd rfl h | exact absurd h (by decide) | (exfalso; omega) | (conv => whnf))
          | (refine And.intro (by first | omega | ((try simp (disch := decide) only [cmp3_lt, cmp3_ge, cmp3_gt, cmp3_le, cmp3_eq, ms_q, ms_f, mf_q, mf_f, mc_q, mc_f, and_self, and_true, true_and, and_false, false_and, or_true, true_or, or_false, false_or, if_true, if_false, not_true_eq_false, not_false_eq_true, eq_self, reduceIte, Int.reduceEq, Int.reduceLT, Int.reduceLE, Int.reduceNeg, Int.reduceAdd, Int.reduceSub, Int.reduceMul, Int.add_sub_cancel]); (try simp (disch := omega) only [w32_e, w64_e, td_pos, tm_pos, Int.add_sub_cancel, e1, e2]); first | assumption | omega) | ((try simp (disch := decide) only [cmp3_lt, cmp3_ge, cmp3_gt, cmp3_le, cmp3_eq, ms_q, ms_f, mf_q, mf_f, mc_q, mc_f, and_self, and_true, true_and, and_false, false_and, or_true, true_or, or_false, false_or, if_true, if_false, not_true_eq_false, not_false_eq_true, eq_self, reduceIte, Int.reduceEq, Int.reduceLT, Int.reduceLE, Int.reduceNeg, Int.reduceAdd, Int.reduceSub, Int.reduceMul, Int.add_sub_cancel]); (try simp (disch := omega) only [w32_e, w64_e, td_pos, tm_pos, Int.add_sub_cancel, e1, e2]); ((repeat' (first | assumption | omega | with_reducible rfl | apply And.intro)); done))) ?_; conv => whnf)
          | (intro v; intro hv; conv => whnf)
        all_goals first
          | (have e9 : i = t := by omega
             rw [e9, Int.sub_self] at hi
             rw [if_pos ⟨c, by rw [← hi]; rfl⟩] at hQ
             exact hQ)
          | (have hlt : i < t := by omega
             have hq : ¬ strB 1010 i = M 40 0 (M 7 0 3 + i - f) := by
               first
                 | assumption
                 | (rw [← e2]; first | assumption | (rw [← e1]; assumption))
             rw [es hlt, isB, decide_eq_false hq, Bool.false_and] at hi
             rw [if_neg (fun z => absurd (hi.trans z.2) (by decide))] at hQ
             exact hQ)
          | (have hlt : i < t := by omega
             have hq : strB 1010 i = M 40 0 (M 7 0 3 + i - f) := by
               first
                 | assumption
                 | (rw [← e2]; first | assumption | (rw [← e1]; assumption))
             rw [es hlt, isB, decide_eq_true hq, Bool.true_and, e3] at hi
             refine ⟨_, ?_, i + 1, by rw [ei], rfl, rfl, ⟨by omega, by omega⟩, hi⟩
             omega)
    refine Vd_run (GGS_ok (l := l) (ω := ω)) 300 (hC := key 1000) (by decide) ?_
    conv => whnf
    repeat' first
      | (refine And.intro (fun h => ?_) (fun h => ?_) <;> (try simp (disch := decide) only [cmp3_lt, cmp3_ge, cmp3_gt, cmp3_le, cmp3_eq, ms_q, ms_f, mf_q, mf_f, mc_q, mc_f, and_self, and_true, true_and, and_false, false_and, or_true, true_or, or_false, false_or, if_true, if_false, not_true_eq_false, not_false_eq_true, eq_self, reduceIte, Int.reduceEq, Int.reduceLT, Int.reduceLE, Int.reduceNeg, Int.reduceAdd, Int.reduceSub, Int.reduceMul, Int.add_sub_cancel] at h) <;> (try simp (disch := omega) only [w32_e, w64_e, td_pos, tm_pos, Int.add_sub_cancel, e1, e2] at h) <;> first | exact absurd rfl h | exact absurd h (by decide) | (exfalso; omega) | (conv => whnf))
      | (refine And.intro (by first | omega | ((try simp (disch := decide) only [cmp3_lt, cmp3_ge, cmp3_gt, cmp3_le, cmp3_eq, ms_q, ms_f, mf_q, mf_f, mc_q, mc_f, and_self, and_true, true_and, and_false, false_and, or_true, true_or, or_false, false_or, if_true, if_false, not_true_eq_false, not_false_eq_true, eq_self, reduceIte, Int.reduceEq, Int.reduceLT, Int.reduceLE, Int.reduceNeg, Int.reduceAdd, Int.reduceSub, Int.reduceMul, Int.add_sub_cancel]); (try simp (disch := omega) only [w32_e, w64_e, td_pos, tm_pos, Int.add_sub_cancel, e1, e2]); first | assumption | omega) | ((try simp (disch := decide) only [cmp3_lt, cmp3_ge, cmp3_gt, cmp3_le, cmp3_eq, ms_q, ms_f, mf_q, mf_f, mc_q, mc_f, and_self, and_true, true_and, and_false, false_and, or_true, true_or, or_false, false_or, if_true, if_false, not_true_eq_false, not_false_eq_true, eq_self, reduceIte, Int.reduceEq, Int.reduceLT, Int.reduceLE, Int.reduceNeg, Int.reduceAdd, Int.reduceSub, Int.reduceMul, Int.add_sub_cancel]); (try simp (disch := omega) only [w32_e, w64_e, td_pos, tm_pos, Int.add_sub_cancel, e1, e2]); ((repeat' (first | assumption | omega | with_reducible rfl | apply And.intro)); done))) ?_; conv => whnf)
      | (intro v; intro hv; conv => whnf)
    all_goals first
      | exact absurd (by rw [c]) h
      | (refine ⟨_, ?_, f, rfl, rfl, rfl, ⟨Int.le_refl _, hf.2.1⟩, by rw [show M 7 0 3 + f - f = M 7 0 3 by omega]⟩
         omega)
  
