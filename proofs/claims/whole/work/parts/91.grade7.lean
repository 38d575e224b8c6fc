/-! ===== grades, the class: clearColumn (wip/gen/p46.py) ===== -/
def GLM : List (Nat × Nat × Spec1) := (15, 1, sp_adC) :: (17, 1, sp_ccC) :: (13, 1, sp_scC) :: GLL
abbrev GGM : Env1 := fun n => getG n GLM
theorem GGM_all {l : Launch} {ω : WP} : ∀ e ∈ GLM, ∀ as M Q, e.2.2 as M Q → Vd l ω e.2.1 e.1 as M Q := List.forall_mem_cons.mpr ⟨ok_adC, List.forall_mem_cons.mpr ⟨ok_ccC, List.forall_mem_cons.mpr ⟨ok_scC, GGL_all⟩⟩⟩
theorem GGM_ok {l : Launch} {ω : WP} : GOK l ω GGM := getG_ok GLM GGM_all

def sp_clC : Spec1 := fun as M Q => match as with
  | [.inr (.inr (.inl (q0, i0))), .inl k] => match Nat.beq q0 12 with
    | true => (i0 = 0 ∧ (0 ≤ k ∧ k < M 12 0 6) ∧ (0 ≤ M 12 0 6 ∧ M 12 0 6 ≤ 13) ∧ 1 ≤ M 12 0 9 ∧ (∀ i j, 0 ≤ i → i < M 12 0 6 → ¬ i = k → 0 ≤ j → j ≤ M 12 0 6 → (-1000000000000000000 ≤ M 67 k k * M 67 i j ∧ M 67 k k * M 67 i j ≤ 1000000000000000000) ∧ (-1000000000000000000 ≤ M 67 i k * M 67 k j ∧ M 67 i k * M 67 k j ≤ 1000000000000000000))) ∧ ∀ M9, ((∀ p, p ≠ 67 → p ≠ 12 → M9 p = M p) ∧ (∀ j, j ≠ 9 → M9 12 0 j = M 12 0 j) ∧ M9 12 0 9 = M 67 k k ∧ M9 67 k = M 67 k ∧ (∀ r x, 0 ≤ r → r < M 12 0 6 → ¬ r = k → 0 ≤ x → x ≤ M 12 0 6 → M9 67 r x = (M 67 k k * M 67 r x - M 67 r k * M 67 k x).tdiv (M 12 0 9))) → Q none M9
    | false => False
  | _ => False
theorem ok_clC {l : Launch} {ω : WP} : ∀ as M Q, sp_clC as M Q → Vd l ω 2 16 as M Q := by
  intro as M Q h
  unfold sp_clC at h
  split at h
  case h_2 => exact h.elim
  rename_i q0 i0 k
  cases hb : Nat.beq q0 12 with
  | false => rw [hb] at h; exact h.elim
  | true =>
  rw [hb] at h
  obtain ⟨⟨hi, hk, n13, b1, hbd⟩, hQ⟩ := h
  have hb := beq_eq hb
  subst hb
  subst hi
  refine Vd.ok fun hok hal => ?_
  have e12 := n13
  have hpre := n13
  have key : ∀ n9, CutOK l ω 2 16 (cutL [(12, [0, 1, 2, 4], fun kk vs M9 => ∃ i : Int, vs = [vR 12 0, vI k, vL (M 67 k k), vI i] ∧ kk = (1000 - i).toNat ∧ (0 ≤ i ∧ i ≤ M 12 0 6) ∧ (∀ p, p ≠ 67 → M9 p = M p) ∧ (∀ r, r < 0 ∨ i ≤ r ∨ r = k → M9 67 r = M 67 r) ∧ (∀ r x, 0 ≤ r → r < i → ¬ r = k → 0 ≤ x → x ≤ M 12 0 6 → M9 67 r x = (M 67 k k * M 67 r x - M 67 r k * M 67 k x).tdiv (M 12 0 9)))] n9) Q := by
    refine loops (GGM_ok (l := l) (ω := ω)) 600 _ ?_
    refine List.forall_mem_cons.mpr ⟨?_, fun _ h => absurd h List.not_mem_nil⟩
    · rintro n9 vs M9 ⟨i, rfl, rfl, i0, fr, fa, hd⟩
      have e12 : M9 12 = M 12 := fr 12 (by decide)
      have ei : w32 (i + 1) = i + 1 := w32_e (by omega) (by omega)
      have ek : M9 67 k = M 67 k := fa k (Or.inr (Or.inr rfl))
      have eri : M9 67 i = M 67 i := fa i (Or.inr (Or.inl (Int.le_refl _)))
      have hpre : i < M 12 0 6 → ¬ i = k → ((0 ≤ i ∧ i < 14) ∧ (0 ≤ k ∧ k < 14) ∧ ¬ k = i) ∧ (0 ≤ M9 12 0 6 ∧ M9 12 0 6 ≤ 13) ∧ 1 ≤ M9 12 0 9 ∧ (∀ j, 0 ≤ j → j ≤ M9 12 0 6 → (-1000000000000000000 ≤ M 67 k k * M9 67 i j ∧ M 67 k k * M9 67 i j ≤ 1000000000000000000) ∧ (-1000000000000000000 ≤ M9 67 i k * M9 67 k j ∧ M9 67 i k * M9 67 k j ≤ 1000000000000000000)) := fun a b => by
        rw [e12, ek, eri]
        exact ⟨⟨⟨i0.1, by omega⟩, ⟨hk.1, by omega⟩, fun z => b z.symm⟩, n13, b1, fun j c d => hbd i j i0.1 a b c d⟩
      show wpH _ 600 _ 16 _ true 12 [vR 12 0, vI k, vL (M 67 k k), vU, vI i] [] _ Q
      conv => whnf
      repeat' first
        | (refine And.intro (fun h => ?_) (fun h => ?_) <;> (try simp (disch := decide) only [cmp3_lt, cmp3_ge, cmp3_gt, cmp3_le, cmp3_eq, ms_q, ms_f, mf_q, mf_f, mc_q, mc_f, and_self, and_true, true_and, and_false, false_and, or_true, true_or, or_false, false_or, if_true, if_false, not_true_eq_false, not_false_eq_true, eq_self, reduceIte, Int.reduceEq, Int.reduceLT, Int.reduceLE, Int.reduceNeg, Int.reduceAdd, Int.reduceSub, Int.reduceMul, Int.add_sub_cancel] at h) <;> (try simp (disch := omega) only [w32_e, w64_e, td_pos, tm_pos, Int.add_sub_cancel, e12] at h) <;> first | exact absurd rfl h | exact absurd h (by decide) | (exfalso; omega) | (conv => whnf))
        | (refine And.intro (by first | omega | ((try simp (disch := decide) only [cmp3_lt, cmp3_ge, cmp3_gt, cmp3_le, cmp3_eq, ms_q, ms_f, mf_q, mf_f, mc_q, mc_f, and_self, and_true, true_and, and_false, false_and, or_true, true_or, or_false, false_or, if_true, if_false, not_true_eq_false, not_false_eq_true, eq_self, reduceIte, Int.reduceEq, Int.reduceLT, Int.reduceLE, Int.reduceNeg, Int.reduceAdd, Int.reduceSub, Int.reduceMul, Int.add_sub_cancel]); (try simp (disch := omega) only [w32_e, w64_e, td_pos, tm_pos, Int.add_sub_cancel, e12]); first | assumption | omega) | exact ⟨rfl, hpre (by omega) (by omega)⟩ | ((try simp (disch := decide) only [cmp3_lt, cmp3_ge, cmp3_gt, cmp3_le, cmp3_eq, ms_q, ms_f, mf_q, mf_f, mc_q, mc_f, and_self, and_true, true_and, and_false, false_and, or_true, true_or, or_false, false_or, if_true, if_false, not_true_eq_false, not_false_eq_true, eq_self, reduceIte, Int.reduceEq, Int.reduceLT, Int.reduceLE, Int.reduceNeg, Int.reduceAdd, Int.reduceSub, Int.reduceMul, Int.add_sub_cancel]); (try simp (disch := omega) only [w32_e, w64_e, td_pos, tm_pos, Int.add_sub_cancel, e12]); ((repeat' (first | assumption | omega | with_reducible rfl | apply And.intro)); done))) ?_; conv => whnf)
        | (intro v; intro hv; conv => whnf)
      all_goals first
        | (refine hQ _ ⟨fun p a b => by rw [ms_q b]; exact fr p a, fun j a => by rw [ms_f, if_neg (fun z => a z.2), e12], by rw [ms_f, if_pos ⟨rfl, rfl⟩], by rw [ms_q (by decide)]; exact ek, fun r x a b c d e => ?_⟩
           rw [ms_q (by decide)]
           exact hd r x a (by omega) c d e)
        | (have hlt : i = k := by assumption
           refine ⟨_, ?_, i + 1, by rw [ei], rfl, ⟨by omega, by omega⟩, fr, fun r z => fa r (by omega), fun r x a b c => hd r x a (by omega) c⟩
           omega)
        | (have hlt : i < M 12 0 6 := by omega
           have hne : ¬ i = k := by assumption
           obtain ⟨f1, f2, f3⟩ := hv
           refine ⟨_, ?_, i + 1, by rw [ei], rfl, ⟨by omega, by omega⟩, fun p z => (f1 p z).trans (fr p z), fun r z => (f2 r (by omega)).trans (fa r (by omega)), fun r x a b c d e => ?_⟩
           · omega
           · by_cases q : r = i
             · have := f3 x d (by rw [e12]; exact e)
               rw [eri, ek, e12] at this
               rw [q]
               exact this
             · rw [f2 r q]
               exact hd r x a (by omega) c d e)
  refine Vd_run (GGM_ok (l := l) (ω := ω)) 600 (hC := key 5000) (by decide) ?_
  conv => whnf
  repeat' first
    | (refine And.intro (fun h => ?_) (fun h => ?_) <;> (try simp (disch := decide) only [cmp3_lt, cmp3_ge, cmp3_gt, cmp3_le, cmp3_eq, ms_q, ms_f, mf_q, mf_f, mc_q, mc_f, and_self, and_true, true_and, and_false, false_and, or_true, true_or, or_false, false_or, if_true, if_false, not_true_eq_false, not_false_eq_true, eq_self, reduceIte, Int.reduceEq, Int.reduceLT, Int.reduceLE, Int.reduceNeg, Int.reduceAdd, Int.reduceSub, Int.reduceMul, Int.add_sub_cancel] at h) <;> (try simp (disch := omega) only [w32_e, w64_e, td_pos, tm_pos, Int.add_sub_cancel, e12] at h) <;> first | exact absurd rfl h | exact absurd h (by decide) | (exfalso; omega) | (conv => whnf))
    | (refine And.intro (by first | omega | ((try simp (disch := decide) only [cmp3_lt, cmp3_ge, cmp3_gt, cmp3_le, cmp3_eq, ms_q, ms_f, mf_q, mf_f, mc_q, mc_f, and_self, and_true, true_and, and_false, false_and, or_true, true_or, or_false, false_or, if_true, if_false, not_true_eq_false, not_false_eq_true, eq_self, reduceIte, Int.reduceEq, Int.reduceLT, Int.reduceLE, Int.reduceNeg, Int.reduceAdd, Int.reduceSub, Int.reduceMul, Int.add_sub_cancel]); (try simp (disch := omega) only [w32_e, w64_e, td_pos, tm_pos, Int.add_sub_cancel, e12]); first | assumption | omega) | exact ⟨rfl, hpre (by omega) (by omega)⟩ | ((try simp (disch := decide) only [cmp3_lt, cmp3_ge, cmp3_gt, cmp3_le, cmp3_eq, ms_q, ms_f, mf_q, mf_f, mc_q, mc_f, and_self, and_true, true_and, and_false, false_and, or_true, true_or, or_false, false_or, if_true, if_false, not_true_eq_false, not_false_eq_true, eq_self, reduceIte, Int.reduceEq, Int.reduceLT, Int.reduceLE, Int.reduceNeg, Int.reduceAdd, Int.reduceSub, Int.reduceMul, Int.add_sub_cancel]); (try simp (disch := omega) only [w32_e, w64_e, td_pos, tm_pos, Int.add_sub_cancel, e12]); ((repeat' (first | assumption | omega | with_reducible rfl | apply And.intro)); done))) ?_; conv => whnf)
    | (intro v; intro hv; conv => whnf)
  all_goals
    (refine ⟨_, ?_, 0, rfl, rfl, ⟨Int.le_refl _, by omega⟩, fun _ _ => rfl, fun _ _ => rfl, fun r x a b => absurd b (by omega)⟩
     omega)
