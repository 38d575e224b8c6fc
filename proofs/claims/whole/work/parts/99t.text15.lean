/-! ===== text, the model: pops (wip/gen/p66.py) ===== -/
def GLAB : List (Nat × Nat × Spec1) := (204, 4, sp_nxM) :: GLAA
abbrev GGAB : Env1 := fun n => getG n GLAB
theorem GGAB_all {l : Launch} {ω : WP} : ∀ e ∈ GLAB, ∀ as M Q, e.2.2 as M Q → Vd l ω e.2.1 e.1 as M Q := List.forall_mem_cons.mpr ⟨ok_nxM, GGAA_all⟩
theorem GGAB_ok {l : Launch} {ω : WP} : GOK l ω GGAB := getG_ok GLAB GGAB_all

def sp_poM : Spec1 := fun as M Q => match as with
  | [.inr (.inr (.inl (q0, i0))), .inl b] => match Nat.beq q0 13 with
    | true => (i0 = 0 ∧ (0 ≤ M 13 0 43 ∧ 0 ≤ M 13 0 45 ∧ M 13 0 45 ≤ 40 ∧ M 13 0 43 + M 13 0 45 ≤ 300) ∧ (∀ j, 0 ≤ j → j < M 13 0 45 → 0 ≤ M 97 0 j ∧ M 97 0 j ≤ 255)) ∧ ∀ M9, ((∀ p, p ≠ 13 → p ≠ 96 → M9 p = M p) ∧ (∀ j, j ≠ 43 → j ≠ 45 → M9 13 0 j = M 13 0 j) ∧ (0 ≤ M9 13 0 43 ∧ 0 ≤ M9 13 0 45 ∧ M9 13 0 45 ≤ M 13 0 45 ∧ M9 13 0 43 + M9 13 0 45 = M 13 0 43 + M 13 0 45) ∧ (stk (M9 96 0) (M9 13 0 43).toNat, stk (M 97 0) (M9 13 0 45).toNat) = pq b (stk (M 96 0) (M 13 0 43).toNat) (stk (M 97 0) (M 13 0 45).toNat)) → Q none M9
    | false => False
  | _ => False
theorem ok_poM {l : Launch} {ω : WP} : ∀ as M Q, sp_poM as M Q → Vd l ω 2 210 as M Q := by
  intro as M Q h
  unfold sp_poM at h
  split at h
  case h_2 => exact h.elim
  rename_i q0 i0 b
  cases hb : Nat.beq q0 13 with
  | false => rw [hb] at h; exact h.elim
  | true =>
  rw [hb] at h
  obtain ⟨⟨hi, h0, hw⟩, hQ⟩ := h
  have hb := beq_eq hb
  subst hb
  subst hi
  refine Vd.ok fun hok hal => ?_
  have e97 := h0
  have key : ∀ n9, CutOK l ω 2 210 (cutL [(0, [0, 1], fun kk vs M9 => vs = [vR 13 0, vI b] ∧ kk = (M9 13 0 45).toNat ∧ (∀ p, p ≠ 13 → p ≠ 96 → M9 p = M p) ∧ (∀ j, j ≠ 43 → j ≠ 45 → M9 13 0 j = M 13 0 j) ∧ (0 ≤ M9 13 0 43 ∧ 0 ≤ M9 13 0 45 ∧ M9 13 0 45 ≤ M 13 0 45 ∧ M9 13 0 43 + M9 13 0 45 = M 13 0 43 + M 13 0 45) ∧ pq b (stk (M9 96 0) (M9 13 0 43).toNat) (stk (M 97 0) (M9 13 0 45).toNat) = pq b (stk (M 96 0) (M 13 0 43).toNat) (stk (M 97 0) (M 13 0 45).toNat))] n9) Q := by
    refine loops (GGAB_ok (l := l) (ω := ω)) 400 _ ?_
    refine List.forall_mem_cons.mpr ⟨?_, fun _ h => absurd h List.not_mem_nil⟩
    · rintro n9 vs M9 ⟨rfl, rfl, fr, fj, f0, hp⟩
      have e97 : M9 97 = M 97 := fr 97 (by decide) (by decide)
      have w1 : w32 (M9 13 0 45 - 1) = M9 13 0 45 - 1 := w32_e (by omega) (by omega)
      have w2 : w32 (M9 13 0 43 + 1) = M9 13 0 43 + 1 := w32_e (by omega) (by omega)
      show wpH _ 400 _ 210 _ true 0 [vR 13 0, vI b] [] _ Q
      conv => whnf
      repeat' first
        | (refine And.intro (fun h => ?_) (fun h => ?_) <;> (try simp (disch := decide) only [cmp3_lt, cmp3_ge, cmp3_gt, cmp3_le, cmp3_eq, ms_q, ms_f, mf_q, mf_f, mc_q, mc_f, and_self, and_true, true_and, and_false, false_and, or_true, true_or, or_false, false_or, if_true, if_false, not_true_eq_false, not_false_eq_true, eq_self, reduceIte, Int.reduceEq, Int.reduceLT, Int.reduceLE, Int.reduceNeg, Int.reduceAdd, Int.reduceSub, Int.reduceMul, Int.add_sub_cancel] at h) <;> (try simp (disch := omega) only [w32_e, w64_e, td_pos, tm_pos, Int.add_sub_cancel, e97, w1, w2] at h) <;> first | exact absurd rfl h | exact absurd h (by decide) | (exfalso; omega) | (conv => whnf))
        | (refine And.intro (by first | omega | ((try simp (disch := decide) only [cmp3_lt, cmp3_ge, cmp3_gt, cmp3_le, cmp3_eq, ms_q, ms_f, mf_q, mf_f, mc_q, mc_f, and_self, and_true, true_and, and_false, false_and, or_true, true_or, or_false, false_or, if_true, if_false, not_true_eq_false, not_false_eq_true, eq_self, reduceIte, Int.reduceEq, Int.reduceLT, Int.reduceLE, Int.reduceNeg, Int.reduceAdd, Int.reduceSub, Int.reduceMul, Int.add_sub_cancel]); (try simp (disch := omega) only [w32_e, w64_e, td_pos, tm_pos, Int.add_sub_cancel, e97, w1, w2]); first | assumption | omega) | ((try simp (disch := decide) only [cmp3_lt, cmp3_ge, cmp3_gt, cmp3_le, cmp3_eq, ms_q, ms_f, mf_q, mf_f, mc_q, mc_f, and_self, and_true, true_and, and_false, false_and, or_true, true_or, or_false, false_or, if_true, if_false, not_true_eq_false, not_false_eq_true, eq_self, reduceIte, Int.reduceEq, Int.reduceLT, Int.reduceLE, Int.reduceNeg, Int.reduceAdd, Int.reduceSub, Int.reduceMul, Int.add_sub_cancel]); (try simp (disch := omega) only [w32_e, w64_e, td_pos, tm_pos, Int.add_sub_cancel, e97, w1, w2]); ((repeat' (first | assumption | omega | with_reducible rfl | apply And.intro)); done))) ?_; conv => whnf)
        | (intro v; intro hv; conv => whnf)
      all_goals first
        | (have z : M9 13 0 45 = 0 := by omega
           refine hQ M9 ⟨fr, fj, f0, ?_⟩
           rw [← hp, z]
           rfl)
        | (have z : 1 ≤ M9 13 0 45 := by omega
           have hw1 := hw (M9 13 0 45 - 1) (by omega) (by omega)
           have lt : ¬ b ≤ rkM (M 97 0 (M9 13 0 45 - 1)) := by
             unfold rkM
             repeat' split
             all_goals omega
           refine hQ M9 ⟨fr, fj, f0, ?_⟩
           rw [← hp, stk_pop z, pq, if_neg lt])
        | (have z : 1 ≤ M9 13 0 45 := by omega
           have hw1 := hw (M9 13 0 45 - 1) (by omega) (by omega)
           have lt : b ≤ rkM (M 97 0 (M9 13 0 45 - 1)) := by
             unfold rkM
             repeat' split
             all_goals omega
           have w3 : w32 (-100 - M 97 0 (M9 13 0 45 - 1)) = -100 - M 97 0 (M9 13 0 45 - 1) := w32_e (by omega) (by omega)
           simp (disch := decide) only [ms_q, ms_f, true_and, and_true, Int.reduceEq, if_true, if_false, reduceIte, e97, w1, w2, w3]
           refine ⟨_, ?_, rfl, fun p a b => ?_, fun j a b => ?_, ?_, ?_⟩
           · omega
           · rw [ms_q a, ms_q b, ms_q a]
             exact fr p a b
           · rw [if_neg a, if_neg b]
             exact fj j a b
           · omega
           · rw [← hp, ms_n, stk_push f0.1, stk_pop z, pq, if_pos lt, ms_q (by decide)])
  refine Vd_in (by decide) ?_
  show Vx l ω 2 210 0 [vR 13 0, vI b] [] M Q
  refine key 1000 0 _ rfl [vR 13 0, vI b] M ?_
  refine ⟨_, ?_, rfl, rfl, fun _ _ _ => rfl, fun _ _ _ => rfl, ⟨h0.1, h0.2.1, Int.le_refl _, rfl⟩, rfl⟩
  omega
