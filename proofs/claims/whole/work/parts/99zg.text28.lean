/-! ===== text of the model (wip/gen/p71.py) ===== -/
def GLAG : List (Nat × Nat × Spec1) := (213, 8, sp_r3M) :: GLAF
abbrev GGAG : Env1 := fun n => getG n GLAG
theorem GGAG_all {l : Launch} {ω : WP} : ∀ e ∈ GLAG, ∀ as M Q, e.2.2 as M Q → Vd l ω e.2.1 e.1 as M Q := List.forall_mem_cons.mpr ⟨ok_r3M, GGAF_all⟩
theorem GGAG_ok {l : Launch} {ω : WP} : GOK l ω GGAG := getG_ok GLAG GGAG_all

def sp_txM : Spec1 := fun as M Q => match as with
  | [.inr (.inr (.inl (q0, i0)))] => match Nat.beq q0 13 with
    | true => (i0 = 0 ∧ True) ∧ ∃ (E : RSS) (x y : Int) (fk fe : Int → Int), ((0 ≤ M 13 0 28 ∧ M 13 0 28 ≤ 240) ∧ (∀ j, 0 ≤ j → j < M 13 0 28 → 0 ≤ M 90 0 j ∧ M 90 0 j ≤ 255) ∧ E = rnC (M 90 0) (M 13 0 28) 241 ([], [], 0, x, 0, y, 0, fk, fe) 0) ∧ ∀ M9 r, ((FRS M M9 ∧ M9 13 0 28 = 0 ∧ M9 13 0 35 = M 13 0 35 ∧ (M9 91 = M 91 ∧ M9 92 = M 92 ∧ M9 93 = M 93) ∧ FB M9 E ∧ r = w32 (-10 - E.2.1)) ∨ (TxD E M M9 ∧ TxC M9 13 ∧ TxW M9 (M9 13 0 43) ∧ r = M9 13 0 35)) → Q (some (vI r)) M9
    | false => False
  | _ => False
theorem ok_txM {l : Launch} {ω : WP} : ∀ as M Q, sp_txM as M Q → Vd l ω 9 214 as M Q := by
  intro as M Q h
  unfold sp_txM at h
  split at h
  case h_2 => exact h.elim
  rename_i q0 i0 
  cases hb : Nat.beq q0 13 with
  | false => rw [hb] at h; exact h.elim
  | true =>
  rw [hb] at h
  obtain ⟨⟨hi, _⟩, hQ⟩ := h
  have hb := beq_eq hb
  subst hb
  subst hi
  refine Vd.ok fun hok hal => ?_
  obtain ⟨E, x, y, fk, fe, ⟨hu, ht, hE⟩, hQ⟩ := hQ
  have key : ∀ n9, CutOK l ω 9 214 (cutL [(31, [0], fun kk vs M9 => vs = [vR 13 0] ∧ kk = mTx M9 + 1000 ∧ TxL E M M9), (82, [0, 1], fun kk vs M9 => ∃ i : Int, vs = [vR 13 0, vI i] ∧ kk = (20 - i).toNat + 500 ∧ (0 ≤ i ∧ i ≤ 13) ∧ TxD E M M9 ∧ TxC M9 i), (120, [0, 1], fun kk vs M9 => ∃ i : Int, vs = [vR 13 0, vI i] ∧ kk = (M9 13 0 43 - i).toNat ∧ (0 ≤ i ∧ i ≤ M9 13 0 43) ∧ TxD E M M9 ∧ TxC M9 13 ∧ TxW M9 i)] n9) Q := by
    refine loops (GGAG_ok (l := l) (ω := ω)) 600 _ ?_
    refine List.forall_mem_cons.mpr ⟨?_, List.forall_mem_cons.mpr ⟨?_, List.forall_mem_cons.mpr ⟨?_, fun _ h => absurd h List.not_mem_nil⟩⟩⟩
    · rintro n9 vs M9 ⟨rfl, rfl, hR⟩
      have bT := hR.2.1.2.2
      show wpH _ 600 _ 214 _ true 31 [vR 13 0, vU] [] _ Q
      conv => whnf
      repeat' first
        | (refine And.intro (fun h => ?_) (fun h => ?_) <;> (try simp (disch := decide) only [cmp3_lt, cmp3_ge, cmp3_gt, cmp3_le, cmp3_eq, ms_q, ms_f, mf_q, mf_f, mc_q, mc_f, and_self, and_true, true_and, and_false, false_and, or_true, true_or, or_false, false_or, if_true, if_false, not_true_eq_false, not_false_eq_true, eq_self, reduceIte, Int.reduceEq, Int.reduceLT, Int.reduceLE, Int.reduceNeg, Int.reduceAdd, Int.reduceSub, Int.reduceMul, Int.add_sub_cancel] at h) <;> (try simp (disch := omega) only [w32_e, w64_e, td_pos, tm_pos, Int.add_sub_cancel] at h) <;> first | exact absurd rfl h | exact absurd h (by decide) | (exfalso; omega) | (conv => whnf))
        | (refine And.intro (by first | omega | ((try simp (disch := decide) only [cmp3_lt, cmp3_ge, cmp3_gt, cmp3_le, cmp3_eq, ms_q, ms_f, mf_q, mf_f, mc_q, mc_f, and_self, and_true, true_and, and_false, false_and, or_true, true_or, or_false, false_or, if_true, if_false, not_true_eq_false, not_false_eq_true, eq_self, reduceIte, Int.reduceEq, Int.reduceLT, Int.reduceLE, Int.reduceNeg, Int.reduceAdd, Int.reduceSub, Int.reduceMul, Int.add_sub_cancel]); (try simp (disch := omega) only [w32_e, w64_e, td_pos, tm_pos, Int.add_sub_cancel]); first | assumption | omega) | (refine ⟨rfl, ?_⟩; show TPE _; (first | exact hT | assumption))  | ((try simp (disch := decide) only [cmp3_lt, cmp3_ge, cmp3_gt, cmp3_le, cmp3_eq, ms_q, ms_f, mf_q, mf_f, mc_q, mc_f, and_self, and_true, true_and, and_false, false_and, or_true, true_or, or_false, false_or, if_true, if_false, not_true_eq_false, not_false_eq_true, eq_self, reduceIte, Int.reduceEq, Int.reduceLT, Int.reduceLE, Int.reduceNeg, Int.reduceAdd, Int.reduceSub, Int.reduceMul, Int.add_sub_cancel]); (try simp (disch := omega) only [w32_e, w64_e, td_pos, tm_pos, Int.add_sub_cancel]); ((repeat' (first | assumption | omega | with_reducible rfl | apply And.intro)); done))) ?_; conv => whnf)
        | (intro v; intro hv; conv => whnf)
      all_goals first
        | (have q := tl_bad hR (by omega)
           have z := tl_fin q.1 q.2
           exact hQ _ _ (Or.inl z))
        | (refine ⟨E, ⟨(tl_pre hR (by omega)).1, (tl_pre hR (by omega)).2.1, (tl_pre hR (by omega)).2.2.1, by omega, (tl_pre hR (by omega)).2.2.2⟩, fun v hv => ?_⟩
           have hv : POSTL E M9 v := hv
           conv => whnf
           have q := tl_go hR (by omega) hv
           exact ⟨_, Nat.add_lt_add_right q.2 1000, rfl, rfl, q.1⟩)
        | (have q := tl_end hR (by omega) (by omega)
           refine ⟨_, ?_, _, rfl, rfl, ⟨by omega, by omega⟩, q.1, fun j a b => absurd b (by omega)⟩
           omega)
    · rintro n9 vs M9 ⟨i, rfl, rfl, hi, hD, hC⟩
      have b43 := hD.2.2.2.2.1
      have b39 := hD.2.2.2.1
      show wpH _ 600 _ 214 _ true 82 [vR 13 0, vI i] [] _ Q
      conv => whnf
      repeat' first
        | (refine And.intro (fun h => ?_) (fun h => ?_) <;> (try simp (disch := decide) only [cmp3_lt, cmp3_ge, cmp3_gt, cmp3_le, cmp3_eq, ms_q, ms_f, mf_q, mf_f, mc_q, mc_f, and_self, and_true, true_and, and_false, false_and, or_true, true_or, or_false, false_or, if_true, if_false, not_true_eq_false, not_false_eq_true, eq_self, reduceIte, Int.reduceEq, Int.reduceLT, Int.reduceLE, Int.reduceNeg, Int.reduceAdd, Int.reduceSub, Int.reduceMul, Int.add_sub_cancel] at h) <;> (try simp (disch := omega) only [w32_e, w64_e, td_pos, tm_pos, Int.add_sub_cancel] at h) <;> first | exact absurd rfl h | exact absurd h (by decide) | (exfalso; omega) | (conv => whnf))
        | (refine And.intro (by first | omega | ((try simp (disch := decide) only [cmp3_lt, cmp3_ge, cmp3_gt, cmp3_le, cmp3_eq, ms_q, ms_f, mf_q, mf_f, mc_q, mc_f, and_self, and_true, true_and, and_false, false_and, or_true, true_or, or_false, false_or, if_true, if_false, not_true_eq_false, not_false_eq_true, eq_self, reduceIte, Int.reduceEq, Int.reduceLT, Int.reduceLE, Int.reduceNeg, Int.reduceAdd, Int.reduceSub, Int.reduceMul, Int.add_sub_cancel]); (try simp (disch := omega) only [w32_e, w64_e, td_pos, tm_pos, Int.add_sub_cancel]); first | assumption | omega) | (refine ⟨rfl, ?_⟩; show TPE _; (first | exact hT | assumption))  | ((try simp (disch := decide) only [cmp3_lt, cmp3_ge, cmp3_gt, cmp3_le, cmp3_eq, ms_q, ms_f, mf_q, mf_f, mc_q, mc_f, and_self, and_true, true_and, and_false, false_and, or_true, true_or, or_false, false_or, if_true, if_false, not_true_eq_false, not_false_eq_true, eq_self, reduceIte, Int.reduceEq, Int.reduceLT, Int.reduceLE, Int.reduceNeg, Int.reduceAdd, Int.reduceSub, Int.reduceMul, Int.add_sub_cancel]); (try simp (disch := omega) only [w32_e, w64_e, td_pos, tm_pos, Int.add_sub_cancel]); ((repeat' (first | assumption | omega | with_reducible rfl | apply And.intro)); done))) ?_; conv => whnf)
        | (intro v; intro hv; conv => whnf)
      all_goals first
        | (refine ⟨_, ?_, _, rfl, rfl, ⟨by omega, by omega⟩, hD, (by have e : i = 13 := (by omega); subst e; exact hC), fun j a b => absurd b (by omega)⟩
           omega)
        | (have w1 : w32 (i + 1) = i + 1 := w32_e (by omega) (by omega)
           rw [w1]
           refine ⟨_, ?_, _, rfl, rfl, ⟨by omega, by omega⟩, td_k hD, tc_k hC⟩
           omega)
    · rintro n9 vs M9 ⟨i, rfl, rfl, hi, hD, hC, hW⟩
      have b43 := hD.2.2.2.2.1
      have b39 := hD.2.2.2.1
      show wpH _ 600 _ 214 _ true 120 [vR 13 0, vI i] [] _ Q
      conv => whnf
      repeat' first
        | (refine And.intro (fun h => ?_) (fun h => ?_) <;> (try simp (disch := decide) only [cmp3_lt, cmp3_ge, cmp3_gt, cmp3_le, cmp3_eq, ms_q, ms_f, mf_q, mf_f, mc_q, mc_f, and_self, and_true, true_and, and_false, false_and, or_true, true_or, or_false, false_or, if_true, if_false, not_true_eq_false, not_false_eq_true, eq_self, reduceIte, Int.reduceEq, Int.reduceLT, Int.reduceLE, Int.reduceNeg, Int.reduceAdd, Int.reduceSub, Int.reduceMul, Int.add_sub_cancel] at h) <;> (try simp (disch := omega) only [w32_e, w64_e, td_pos, tm_pos, Int.add_sub_cancel] at h) <;> first | exact absurd rfl h | exact absurd h (by decide) | (exfalso; omega) | (conv => whnf))
        | (refine And.intro (by first | omega | ((try simp (disch := decide) only [cmp3_lt, cmp3_ge, cmp3_gt, cmp3_le, cmp3_eq, ms_q, ms_f, mf_q, mf_f, mc_q, mc_f, and_self, and_true, true_and, and_false, false_and, or_true, true_or, or_false, false_or, if_true, if_false, not_true_eq_false, not_false_eq_true, eq_self, reduceIte, Int.reduceEq, Int.reduceLT, Int.reduceLE, Int.reduceNeg, Int.reduceAdd, Int.reduceSub, Int.reduceMul, Int.add_sub_cancel]); (try simp (disch := omega) only [w32_e, w64_e, td_pos, tm_pos, Int.add_sub_cancel]); first | assumption | omega) | (refine ⟨rfl, ?_⟩; show TPE _; (first | exact hT | assumption))  | ((try simp (disch := decide) only [cmp3_lt, cmp3_ge, cmp3_gt, cmp3_le, cmp3_eq, ms_q, ms_f, mf_q, mf_f, mc_q, mc_f, and_self, and_true, true_and, and_false, false_and, or_true, true_or, or_false, false_or, if_true, if_false, not_true_eq_false, not_false_eq_true, eq_self, reduceIte, Int.reduceEq, Int.reduceLT, Int.reduceLE, Int.reduceNeg, Int.reduceAdd, Int.reduceSub, Int.reduceMul, Int.add_sub_cancel]); (try simp (disch := omega) only [w32_e, w64_e, td_pos, tm_pos, Int.add_sub_cancel]); ((repeat' (first | assumption | omega | with_reducible rfl | apply And.intro)); done))) ?_; conv => whnf)
        | (intro v; intro hv; conv => whnf)
      all_goals first
        | (refine hQ _ _ (Or.inr ⟨hD, hC, (by have e : i = M9 13 0 43 := (by omega); rw [← e]; exact hW), rfl⟩))
        | (have w1 : w32 (i + 1) = i + 1 := w32_e (by omega) (by omega)
           rw [w1]
           have e43 : mset M9 93 0 i (M9 96 0 i) 13 0 43 = M9 13 0 43 := (by rw [ms_q (by decide)])
           refine ⟨_, ?_, _, rfl, rfl, ⟨by omega, by omega⟩, td_w hD, tc_w hC, tw_w hW⟩
           omega)
  refine Vd_run (GGAG_ok (l := l) (ω := ω)) 600 (hC := key 5000) (by decide) ?_
  conv => whnf
  repeat' first
    | (refine And.intro (fun h => ?_) (fun h => ?_) <;> (try simp (disch := decide) only [cmp3_lt, cmp3_ge, cmp3_gt, cmp3_le, cmp3_eq, ms_q, ms_f, mf_q, mf_f, mc_q, mc_f, and_self, and_true, true_and, and_false, false_and, or_true, true_or, or_false, false_or, if_true, if_false, not_true_eq_false, not_false_eq_true, eq_self, reduceIte, Int.reduceEq, Int.reduceLT, Int.reduceLE, Int.reduceNeg, Int.reduceAdd, Int.reduceSub, Int.reduceMul, Int.add_sub_cancel] at h) <;> (try simp (disch := omega) only [w32_e, w64_e, td_pos, tm_pos, Int.add_sub_cancel] at h) <;> first | exact absurd rfl h | exact absurd h (by decide) | (exfalso; omega) | (conv => whnf))
    | (refine And.intro (by first | omega | ((try simp (disch := decide) only [cmp3_lt, cmp3_ge, cmp3_gt, cmp3_le, cmp3_eq, ms_q, ms_f, mf_q, mf_f, mc_q, mc_f, and_self, and_true, true_and, and_false, false_and, or_true, true_or, or_false, false_or, if_true, if_false, not_true_eq_false, not_false_eq_true, eq_self, reduceIte, Int.reduceEq, Int.reduceLT, Int.reduceLE, Int.reduceNeg, Int.reduceAdd, Int.reduceSub, Int.reduceMul, Int.add_sub_cancel]); (try simp (disch := omega) only [w32_e, w64_e, td_pos, tm_pos, Int.add_sub_cancel]); first | assumption | omega) | (refine ⟨rfl, ?_⟩; show TPE _; (first | exact hT | assumption))  | ((try simp (disch := decide) only [cmp3_lt, cmp3_ge, cmp3_gt, cmp3_le, cmp3_eq, ms_q, ms_f, mf_q, mf_f, mc_q, mc_f, and_self, and_true, true_and, and_false, false_and, or_true, true_or, or_false, false_or, if_true, if_false, not_true_eq_false, not_false_eq_true, eq_self, reduceIte, Int.reduceEq, Int.reduceLT, Int.reduceLE, Int.reduceNeg, Int.reduceAdd, Int.reduceSub, Int.reduceMul, Int.add_sub_cancel]); (try simp (disch := omega) only [w32_e, w64_e, td_pos, tm_pos, Int.add_sub_cancel]); ((repeat' (first | assumption | omega | with_reducible rfl | apply And.intro)); done))) ?_; conv => whnf)
    | (intro v; intro hv; conv => whnf)
  all_goals have q := tl_0 hu ht rfl hE hv
  all_goals refine ⟨_, ?_, rfl, rfl, q⟩
  all_goals have q39 := q.2.2.2.1
  all_goals unfold mTx
  all_goals split
  all_goals omega
