/-! ===== grades, the model: rootOf (wip/gen/p50.py) ===== -/
def GLP : List (Nat × Nat × Spec1) := (19, 2, sp_paC) :: (18, 1, sp_toC) :: (16, 2, sp_clC) :: (14, 2, sp_srC) :: GLN
abbrev GGP : Env1 := fun n => getG n GLP
theorem GGP_all {l : Launch} {ω : WP} : ∀ e ∈ GLP, ∀ as M Q, e.2.2 as M Q → Vd l ω e.2.1 e.1 as M Q := List.forall_mem_cons.mpr ⟨ok_paC, List.forall_mem_cons.mpr ⟨ok_toC, List.forall_mem_cons.mpr ⟨ok_clC, List.forall_mem_cons.mpr ⟨ok_srC, GGN_all⟩⟩⟩⟩
theorem GGP_ok {l : Launch} {ω : WP} : GOK l ω GGP := getG_ok GLP GGP_all

def sp_roo : Spec1 := fun as M Q => match as with
  | [.inr (.inr (.inl (q0, i0))), .inl v] => match Nat.beq q0 13 with
    | true => (i0 = 0 ∧ ∃ p, (6 ≤ p ∧ p < 14) ∧ M 126 0 p = v) ∧ ∀ k, ((6 ≤ k ∧ k < 14) ∧ M 126 0 k = v ∧ (∀ j, 6 ≤ j → j < k → ¬ M 126 0 j = v)) → Q (some (vI k)) M
    | false => False
  | _ => False
theorem ok_roo {l : Launch} {ω : WP} : ∀ as M Q, sp_roo as M Q → Vd l ω 1 251 as M Q := by
  intro as M Q h
  unfold sp_roo at h
  split at h
  case h_2 => exact h.elim
  rename_i q0 i0 v
  cases hb : Nat.beq q0 13 with
  | false => rw [hb] at h; exact h.elim
  | true =>
  rw [hb] at h
  obtain ⟨⟨hi, ⟨p, hp, ep⟩⟩, hQ⟩ := h
  have hb := beq_eq hb
  subst hb
  subst hi
  refine Vd.ok fun hok hal => ?_
  have key : ∀ n9, CutOK l ω 1 251 (cutL [(3, [0, 1, 2], fun kk vs M9 => ∃ k : Int, vs = [vR 13 0, vI v, vI k] ∧ M = M9 ∧ kk = (1000 - k).toNat ∧ (6 ≤ k ∧ k ≤ p) ∧ (∀ j, 6 ≤ j → j < k → ¬ M 126 0 j = v))] n9) Q := by
    refine loops (GGP_ok (l := l) (ω := ω)) 600 _ ?_
    refine List.forall_mem_cons.mpr ⟨?_, fun _ h => absurd h List.not_mem_nil⟩
    · rintro n9 vs M9 ⟨k, rfl, rfl, rfl, k0, hj⟩
      have ek : w32 (k + 1) = k + 1 := w32_e (by omega) (by omega)
      show wpH _ 600 _ 251 _ true 3 [vR 13 0, vI v, vI k] [] _ Q
      conv => whnf
      repeat' first
        | (refine And.intro (fun h => ?_) (fun h => ?_) <;> (try simp (disch := decide) only [cmp3_lt, cmp3_ge, cmp3_gt, cmp3_le, cmp3_eq, ms_q, ms_f, mf_q, mf_f, mc_q, mc_f, and_self, and_true, true_and, and_false, false_and, or_true, true_or, or_false, false_or, if_true, if_false, not_true_eq_false, not_false_eq_true, eq_self, reduceIte, Int.reduceEq, Int.reduceLT, Int.reduceLE, Int.reduceNeg, Int.reduceAdd, Int.reduceSub, Int.reduceMul, Int.add_sub_cancel] at h) <;> (try simp (disch := omega) only [w32_e, w64_e, td_pos, tm_pos, Int.add_sub_cancel] at h) <;> first | exact absurd rfl h | exact absurd h (by decide) | (exfalso; omega) | (conv => whnf))
        | (refine And.intro (by first | omega | ((try simp (disch := decide) only [cmp3_lt, cmp3_ge, cmp3_gt, cmp3_le, cmp3_eq, ms_q, ms_f, mf_q, mf_f, mc_q, mc_f, and_self, and_true, true_and, and_false, false_and, or_true, true_or, or_false, false_or, if_true, if_false, not_true_eq_false, not_false_eq_true, eq_self, reduceIte, Int.reduceEq, Int.reduceLT, Int.reduceLE, Int.reduceNeg, Int.reduceAdd, Int.reduceSub, Int.reduceMul, Int.add_sub_cancel]); (try simp (disch := omega) only [w32_e, w64_e, td_pos, tm_pos, Int.add_sub_cancel]); first | assumption | omega) | ((try simp (disch := decide) only [cmp3_lt, cmp3_ge, cmp3_gt, cmp3_le, cmp3_eq, ms_q, ms_f, mf_q, mf_f, mc_q, mc_f, and_self, and_true, true_and, and_false, false_and, or_true, true_or, or_false, false_or, if_true, if_false, not_true_eq_false, not_false_eq_true, eq_self, reduceIte, Int.reduceEq, Int.reduceLT, Int.reduceLE, Int.reduceNeg, Int.reduceAdd, Int.reduceSub, Int.reduceMul, Int.add_sub_cancel]); (try simp (disch := omega) only [w32_e, w64_e, td_pos, tm_pos, Int.add_sub_cancel]); ((repeat' (first | assumption | omega | with_reducible rfl | apply And.intro)); done))) ?_; conv => whnf)
        | (intro v; intro hv; conv => whnf)
      all_goals first
        | exact hQ k ⟨⟨by omega, by omega⟩, by assumption, hj⟩
        | (have hne : ¬ M 126 0 k = v := by assumption
           have hkp : ¬ k = p := fun z => hne (by rw [z]; exact ep)
           refine ⟨_, ?_, k + 1, by rw [ek], rfl, rfl, ⟨by omega, by omega⟩, fun j a b => ?_⟩
           · omega
           · by_cases q : j = k
             · rw [q]; exact hne
             · exact hj j a (by omega))
  refine Vd_run (GGP_ok (l := l) (ω := ω)) 600 (hC := key 5000) (by decide) ?_
  conv => whnf
  repeat' first
    | (refine And.intro (fun h => ?_) (fun h => ?_) <;> (try simp (disch := decide) only [cmp3_lt, cmp3_ge, cmp3_gt, cmp3_le, cmp3_eq, ms_q, ms_f, mf_q, mf_f, mc_q, mc_f, and_self, and_true, true_and, and_false, false_and, or_true, true_or, or_false, false_or, if_true, if_false, not_true_eq_false, not_false_eq_true, eq_self, reduceIte, Int.reduceEq, Int.reduceLT, Int.reduceLE, Int.reduceNeg, Int.reduceAdd, Int.reduceSub, Int.reduceMul, Int.add_sub_cancel] at h) <;> (try simp (disch := omega) only [w32_e, w64_e, td_pos, tm_pos, Int.add_sub_cancel] at h) <;> first | exact absurd rfl h | exact absurd h (by decide) | (exfalso; omega) | (conv => whnf))
    | (refine And.intro (by first | omega | ((try simp (disch := decide) only [cmp3_lt, cmp3_ge, cmp3_gt, cmp3_le, cmp3_eq, ms_q, ms_f, mf_q, mf_f, mc_q, mc_f, and_self, and_true, true_and, and_false, false_and, or_true, true_or, or_false, false_or, if_true, if_false, not_true_eq_false, not_false_eq_true, eq_self, reduceIte, Int.reduceEq, Int.reduceLT, Int.reduceLE, Int.reduceNeg, Int.reduceAdd, Int.reduceSub, Int.reduceMul, Int.add_sub_cancel]); (try simp (disch := omega) only [w32_e, w64_e, td_pos, tm_pos, Int.add_sub_cancel]); first | assumption | omega) | ((try simp (disch := decide) only [cmp3_lt, cmp3_ge, cmp3_gt, cmp3_le, cmp3_eq, ms_q, ms_f, mf_q, mf_f, mc_q, mc_f, and_self, and_true, true_and, and_false, false_and, or_true, true_or, or_false, false_or, if_true, if_false, not_true_eq_false, not_false_eq_true, eq_self, reduceIte, Int.reduceEq, Int.reduceLT, Int.reduceLE, Int.reduceNeg, Int.reduceAdd, Int.reduceSub, Int.reduceMul, Int.add_sub_cancel]); (try simp (disch := omega) only [w32_e, w64_e, td_pos, tm_pos, Int.add_sub_cancel]); ((repeat' (first | assumption | omega | with_reducible rfl | apply And.intro)); done))) ?_; conv => whnf)
    | (intro v; intro hv; conv => whnf)
  all_goals
    (refine ⟨_, ?_, 6, rfl, rfl, rfl, ⟨Int.le_refl _, by omega⟩, fun j a b => absurd b (by omega)⟩
     omega)
