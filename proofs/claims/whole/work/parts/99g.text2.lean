/-! ===== text, the class: writeWaiting (wip/gen/p57.py) ===== -/
theorem Vd_in {l : Launch} {ω : WP} {d y : Nat} {as : List AV} {M : Mem} {Q : Post} (hy : y ∈ ckl) (h : padK (mxt y) as (fun ls' => Vx l ω d y 0 ls' [] M Q)) : Vd l ω d y as M Q := Vd_of (plain_all y hy).1 (plain_all y hy).2 h
theorem roX_e {t : Int} (h : 0 ≤ t ∧ t ≤ 27) : roX t = bndT t := by
  obtain ⟨n, rfl⟩ := Int.eq_ofNat_of_zero_le h.1
  have hn : n < 28 := by omega
  have key : ∀ k, k < 28 → roX (k : Nat) = bndT (k : Nat) := by decide
  exact key n hn

def sp_wwC : Spec1 := fun as M Q => match as with
  | [.inr (.inr (.inl (q0, i0))), .inl b] => match Nat.beq q0 7 with
    | true => (i0 = 0 ∧ (0 ≤ M 7 0 8 ∧ 0 ≤ M 7 0 13 ∧ M 7 0 8 + M 7 0 13 ≤ 240) ∧ (∀ j, 0 ≤ j → j < M 7 0 13 → 0 ≤ M 44 0 j ∧ M 44 0 j ≤ 27)) ∧ ∀ M9, ((∀ p, p ≠ 7 → p ≠ 41 → M9 p = M p) ∧ (∀ j, j ≠ 8 → j ≠ 13 → M9 7 0 j = M 7 0 j) ∧ (0 ≤ M9 7 0 8 ∧ 0 ≤ M9 7 0 13 ∧ M9 7 0 13 ≤ M 7 0 13 ∧ M9 7 0 8 + M9 7 0 13 = M 7 0 8 + M 7 0 13) ∧ (stk (M9 41 0) (M9 7 0 8).toNat, stk (M 44 0) (M9 7 0 13).toNat) = pp b (stk (M 41 0) (M 7 0 8).toNat) (stk (M 44 0) (M 7 0 13).toNat)) → Q none M9
    | false => False
  | _ => False
theorem ok_wwC {l : Launch} {ω : WP} : ∀ as M Q, sp_wwC as M Q → Vd l ω 2 68 as M Q := by
  intro as M Q h
  unfold sp_wwC at h
  split at h
  case h_2 => exact h.elim
  rename_i q0 i0 b
  cases hb : Nat.beq q0 7 with
  | false => rw [hb] at h; exact h.elim
  | true =>
  rw [hb] at h
  obtain ⟨⟨hi, h0, hw⟩, hQ⟩ := h
  have hb := beq_eq hb
  subst hb
  subst hi
  refine Vd.ok fun hok hal => ?_
  have e44 := h0
  have hw9 := h0
  have key : ∀ n9, CutOK l ω 2 68 (cutL [(0, [0, 1], fun kk vs M9 => vs = [vR 7 0, vI b] ∧ kk = (M9 7 0 13).toNat ∧ (∀ p, p ≠ 7 → p ≠ 41 → M9 p = M p) ∧ (∀ j, j ≠ 8 → j ≠ 13 → M9 7 0 j = M 7 0 j) ∧ (0 ≤ M9 7 0 8 ∧ 0 ≤ M9 7 0 13 ∧ M9 7 0 13 ≤ M 7 0 13 ∧ M9 7 0 8 + M9 7 0 13 = M 7 0 8 + M 7 0 13) ∧ pp b (stk (M9 41 0) (M9 7 0 8).toNat) (stk (M 44 0) (M9 7 0 13).toNat) = pp b (stk (M 41 0) (M 7 0 8).toNat) (stk (M 44 0) (M 7 0 13).toNat))] n9) Q := by
    refine loops (GGR_ok (l := l) (ω := ω)) 400 _ ?_
    refine List.forall_mem_cons.mpr ⟨?_, fun _ h => absurd h List.not_mem_nil⟩
    · rintro n9 vs M9 ⟨rfl, rfl, fr, fj, f0, hp⟩
      have e44 : M9 44 = M 44 := fr 44 (by decide) (by decide)
      have hw9 := hw (M9 7 0 13 - 1)
      have w1 : w32 (M9 7 0 13 - 1) = M9 7 0 13 - 1 := w32_e (by omega) (by omega)
      have w2 : w32 (M9 7 0 8 + 1) = M9 7 0 8 + 1 := w32_e (by omega) (by omega)
      show wpH _ 400 _ 68 _ true 0 [vR 7 0, vI b] [] _ Q
      conv => whnf
      repeat' first
        | (refine And.intro (fun h => ?_) (fun h => ?_) <;> (try simp (disch := decide) only [cmp3_lt, cmp3_ge, cmp3_gt, cmp3_le, cmp3_eq, ms_q, ms_f, mf_q, mf_f, mc_q, mc_f, and_self, and_true, true_and, and_false, false_and, or_true, true_or, or_false, false_or, if_true, if_false, not_true_eq_false, not_false_eq_true, eq_self, reduceIte, Int.reduceEq, Int.reduceLT, Int.reduceLE, Int.reduceNeg, Int.reduceAdd, Int.reduceSub, Int.reduceMul, Int.add_sub_cancel] at h) <;> (try simp (disch := omega) only [w32_e, w64_e, td_pos, tm_pos, Int.add_sub_cancel, e44, w1, w2] at h) <;> first | exact absurd rfl h | exact absurd h (by decide) | (exfalso; omega) | (conv => whnf))
        | (refine And.intro (by first | omega | ((try simp (disch := decide) only [cmp3_lt, cmp3_ge, cmp3_gt, cmp3_le, cmp3_eq, ms_q, ms_f, mf_q, mf_f, mc_q, mc_f, and_self, and_true, true_and, and_false, false_and, or_true, true_or, or_false, false_or, if_true, if_false, not_true_eq_false, not_false_eq_true, eq_self, reduceIte, Int.reduceEq, Int.reduceLT, Int.reduceLE, Int.reduceNeg, Int.reduceAdd, Int.reduceSub, Int.reduceMul, Int.add_sub_cancel]); (try simp (disch := omega) only [w32_e, w64_e, td_pos, tm_pos, Int.add_sub_cancel, e44, w1, w2]); first | assumption | omega) | (have hw1 := hw9 (by omega) (by omega); omega) | ((try simp (disch := decide) only [cmp3_lt, cmp3_ge, cmp3_gt, cmp3_le, cmp3_eq, ms_q, ms_f, mf_q, mf_f, mc_q, mc_f, and_self, and_true, true_and, and_false, false_and, or_true, true_or, or_false, false_or, if_true, if_false, not_true_eq_false, not_false_eq_true, eq_self, reduceIte, Int.reduceEq, Int.reduceLT, Int.reduceLE, Int.reduceNeg, Int.reduceAdd, Int.reduceSub, Int.reduceMul, Int.add_sub_cancel]); (try simp (disch := omega) only [w32_e, w64_e, td_pos, tm_pos, Int.add_sub_cancel, e44, w1, w2]); ((repeat' (first | assumption | omega | with_reducible rfl | apply And.intro)); done))) ?_; conv => whnf)
        | (intro v; intro hv; conv => whnf)
      all_goals first
        | (have z : M9 7 0 13 = 0 := by omega
           refine hQ M9 ⟨fr, fj, f0, ?_⟩
           rw [← hp, z]
           rfl)
        | (have z : 1 ≤ M9 7 0 13 := by omega
           have hw1 := hw9 (by omega) (by omega)
           have lt : roX (M 44 0 (M9 7 0 13 - 1)) < b := by assumption
           rw [roX_e hw1] at lt
           refine hQ M9 ⟨fr, fj, f0, ?_⟩
           rw [← hp, stk_pop z, pp, if_neg (by omega)])
        | (have z : 1 ≤ M9 7 0 13 := by omega
           have hw1 := hw9 (by omega) (by omega)
           have lt : ¬ roX (M 44 0 (M9 7 0 13 - 1)) < b := by omega
           rw [roX_e hw1] at lt
           simp (disch := decide) only [ms_q, ms_f, e44, w1, and_true, true_and, Int.reduceEq, if_true, if_false, w2, and_false, reduceIte]
           refine ⟨_, ?_, rfl, fun p a b => ?_, fun j a b => ?_, ?_, ?_⟩
           · omega
           · rw [ms_q a, ms_q b, ms_q a]
             exact fr p a b
           · rw [if_neg a, if_neg b]
             exact fj j a b
           · omega
           · try simp (disch := decide) only [ms_q, ms_f, true_and, and_true, Int.reduceEq, if_true, if_false, reduceIte]
             rw [← hp, ms_n, stk_push f0.1, stk_pop z, pp, if_pos (by omega), ms_q (by decide)])
  refine Vd_in (by decide) ?_
  show Vx l ω 2 68 0 [vR 7 0, vI b] [] M Q
  refine key 1000 0 _ rfl [vR 7 0, vI b] M ?_
  refine ⟨_, ?_, rfl, rfl, fun _ _ _ => rfl, fun _ _ _ => rfl, ⟨h0.1, h0.2.1, Int.le_refl _, rfl⟩, rfl⟩
  omega
