/-! ===== whose turn, by the model (wip/gen/p19.py) ===== -/
def sp_ftM : Spec1 := fun as M Q => match as with
  | [.inr (.inr (.inl (q0, i0)))] => match Nat.beq q0 13 with
    | true => (i0 = 0 ∧ ISta M ∧ okV (M 98 0) ∧ M 13 0 35 = M 8 0 6 ∧ IGui M ∧ IPerm (M 5 0 0) (M 34 0) ∧ (∀ i, 0 ≤ i → i < M 5 0 0 → M 89 0 i = M 34 0 i) ∧ (∀ g, 0 ≤ g → g < 8 → M 86 0 g = bitI (M 5 0 3) g) ∧ M 13 0 25 = M 5 0 2) ∧ ∀ M9, ((∀ p, p ≠ 99 → p ≠ 100 → M9 p = M p) ∧ (∀ j, 0 ≤ j → j < (tnA M (min (asS (M 46 0) (wkL M (M 98 0)) (M 8 0 6)) 8) (M 98 0 4) (M 5 0 0)).1 → M9 100 0 j = (tnA M (min (asS (M 46 0) (wkL M (M 98 0)) (M 8 0 6)) 8) (M 98 0 4) (M 5 0 0)).2 j)) → Q (some (vI (if (tnA M (min (asS (M 46 0) (wkL M (M 98 0)) (M 8 0 6)) 8) (M 98 0 4) (M 5 0 0)).1 = (min (asS (M 46 0) (wkL M (M 98 0)) (M 8 0 6)) 8) then (tnA M (min (asS (M 46 0) (wkL M (M 98 0)) (M 8 0 6)) 8) (M 98 0 4) (M 5 0 0)).1 else 0))) M9
    | false => False
  | _ => False
theorem ok_ftM {l : Launch} {ω : WP} : ∀ as M Q, sp_ftM as M Q → Vd l ω 7 226 as M Q := by
  intro as M Q h
  unfold sp_ftM at h
  split at h
  case h_2 => exact h.elim
  rename_i q0 i0 
  cases hb : Nat.beq q0 13 with
  | false => rw [hb] at h; exact h.elim
  | true =>
  rw [hb] at h
  obtain ⟨⟨hi, hA, ho, hl, hG, hP, w1, w6, w3⟩, hQ⟩ := h
  have hb := beq_eq hb
  subst hb
  subst hi
  refine Vd.ok fun hok hal => ?_
  obtain ⟨b7, ⟨g5, g6, g7⟩, b8, -⟩ := hG
  generalize ha : min (asS (M 46 0) (wkL M (M 98 0)) (M 8 0 6)) 8 = a at hQ
  generalize hnd : M 98 0 4 = nd at hQ
  have ha1 : 0 ≤ a ∧ a ≤ 8 := by
    have := asS_ge (K := M 46 0) (W := wkL M (M 98 0)) (M 8 0 6).toNat
    rw [Int.toNat_of_nonneg hA.2.1.1] at this
    omega
  have e13 := b8
  have e83 := b8
  have e85 := b8
  have e86 := b8
  have e89 := b8
  have e98 := b8
  have c89 := b8
  have c86 := b8
  have key : ∀ n9, CutOK l ω 7 226 (cutL [(9, [0, 1, 2, 3], fun kk vs M9 => ∃ m i : Int, vs = [vR 13 0, vI a, vI m, vI i] ∧ kk = (M 5 0 0 - i).toNat ∧ (0 ≤ i ∧ i ≤ M 5 0 0) ∧ (∀ p, p ≠ 99 → p ≠ 100 → M9 p = M p) ∧ m = (tnA M a nd i).1 ∧ (∀ j, 0 ≤ j → j < (tnA M a nd i).1 → M9 100 0 j = (tnA M a nd i).2 j))] n9) Q := by
    refine loops (GGn_ok (l := l) (ω := ω)) 300 _ ?_
    refine List.forall_mem_cons.mpr ⟨?_, fun _ h => absurd h List.not_mem_nil⟩
    · rintro n9 vs M9 ⟨m, i, rfl, rfl, i0, fr, hm, rw_⟩
      have e13 : M9 13 = M 13 := fr 13 (by decide) (by decide)
      have e83 : M9 83 = M 83 := fr 83 (by decide) (by decide)
      have e85 : M9 85 = M 85 := fr 85 (by decide) (by decide)
      have e86 : M9 86 = M 86 := fr 86 (by decide) (by decide)
      have e89 : M9 89 = M 89 := fr 89 (by decide) (by decide)
      have e98 : M9 98 = M 98 := fr 98 (by decide) (by decide)
      have ti := tnA_inI (M := M) (a := a) (nd := nd) ha1.1 i0.1
      have pg : i < M 5 0 0 → _ := fun z => hP.1 i i0.1 z
      have ts := tnA_s (M := M) (a := a) (nd := nd) i0.1
      have q7 := bit_01 (M 5 0 3) (M 34 0 i)
      have c89 : i < M 5 0 0 → M 89 0 i = M 34 0 i := fun z => w1 i i0.1 z
      have c86 : i < M 5 0 0 → M 86 0 (M 34 0 i) = bitI (M 5 0 3) (M 34 0 i) := fun z => w6 _ (pg z).1 (by have := pg z; omega)
      show wpH _ 300 _ 226 _ true 9 [vR 13 0, vI a, vI m, vI i, vU] [] _ Q
      conv => whnf
      repeat' first
        | (refine And.intro (fun h => ?_) (fun h => ?_) <;> (try simp (disch := decide) only [cmp3_lt, cmp3_ge, cmp3_gt, cmp3_le, cmp3_eq, ms_q, ms_f, mf_q, mf_f, mc_q, mc_f, and_self, and_true, true_and, and_false, false_and, or_true, true_or, or_false, false_or, if_true, if_false, not_true_eq_false, not_false_eq_true, eq_self, reduceIte, Int.reduceEq, Int.reduceLT, Int.reduceLE, Int.reduceNeg, Int.reduceAdd, Int.reduceSub, Int.reduceMul, Int.add_sub_cancel] at h) <;> (try simp (disch := omega) only [w32_e, w64_e, td_pos, tm_pos, Int.add_sub_cancel, e13, e83, e85, e86, e89, e98, g5, g7, w3, b7, c89, c86] at h) <;> first | exact absurd rfl h | exact absurd h (by decide) | (exfalso; omega) | (conv => whnf))
        | (refine And.intro (by first | omega | ((try simp (disch := decide) only [cmp3_lt, cmp3_ge, cmp3_gt, cmp3_le, cmp3_eq, ms_q, ms_f, mf_q, mf_f, mc_q, mc_f, and_self, and_true, true_and, and_false, false_and, or_true, true_or, or_false, false_or, if_true, if_false, not_true_eq_false, not_false_eq_true, eq_self, reduceIte, Int.reduceEq, Int.reduceLT, Int.reduceLE, Int.reduceNeg, Int.reduceAdd, Int.reduceSub, Int.reduceMul, Int.add_sub_cancel]); (try simp (disch := omega) only [w32_e, w64_e, td_pos, tm_pos, Int.add_sub_cancel, e13, e83, e85, e86, e89, e98, g5, g7, w3, b7, c89, c86]); first | assumption | omega) | exact ⟨rfl, hA, ho, hl⟩ | ((try simp (disch := decide) only [cmp3_lt, cmp3_ge, cmp3_gt, cmp3_le, cmp3_eq, ms_q, ms_f, mf_q, mf_f, mc_q, mc_f, and_self, and_true, true_and, and_false, false_and, or_true, true_or, or_false, false_or, if_true, if_false, not_true_eq_false, not_false_eq_true, eq_self, reduceIte, Int.reduceEq, Int.reduceLT, Int.reduceLE, Int.reduceNeg, Int.reduceAdd, Int.reduceSub, Int.reduceMul, Int.add_sub_cancel]); (try simp (disch := omega) only [w32_e, w64_e, td_pos, tm_pos, Int.add_sub_cancel, e13, e83, e85, e86, e89, e98, g5, g7, w3, b7, c89, c86]); ((repeat' (first | assumption | omega | with_reducible rfl | apply And.intro)); done))) ?_; conv => whnf)
        | (intro v; intro hv; conv => whnf)
      all_goals first
        | (have ex := tnA_to (M := M) (nd := nd) (a := a) i0.1 i0.2 (by omega)
           refine Eq.mp (congrArg (fun z => Q (some (vI z)) M9) ?_) (hQ M9 ⟨fr, by rw [ex]; exact rw_⟩)
           rw [ex]
           first | (rw [if_pos (by omega)]; omega) | (rw [if_neg (by omega)]; done))
        | (have z1 : i < M 5 0 0 := by omega
           by_cases hc : (tnA M a nd i).1 < a ∧ bitI (M 5 0 3) (M 34 0 i) = 0 ∧ M 5 0 2 ≤ M 32 0 (M 34 0 i) ∧ nd ≤ M 30 0 (M 34 0 i)
           · first
               | (exfalso; omega)
               | (unfold tnS at ts
                  rw [if_pos hc] at ts
                  refine ⟨_, ?_, _, _, rfl, rfl, ?_, ?_, ?_, ?_⟩
                  · ((try simp (disch := decide) only [cmp3_lt, cmp3_ge, cmp3_gt, cmp3_le, cmp3_eq, ms_q, ms_f, mf_q, mf_f, mc_q, mc_f, and_self, and_true, true_and, and_false, false_and, or_true, true_or, or_false, false_or, if_true, if_false, not_true_eq_false, not_false_eq_true, eq_self, reduceIte, Int.reduceEq, Int.reduceLT, Int.reduceLE, Int.reduceNeg, Int.reduceAdd, Int.reduceSub, Int.reduceMul, Int.add_sub_cancel]); (try simp (disch := omega) only [w32_e, w64_e, td_pos, tm_pos, Int.add_sub_cancel, e13, e83, e85, e86, e89, e98, g5, g7, w3, b7, c89, c86])) <;> omega
                  · ((try simp (disch := decide) only [cmp3_lt, cmp3_ge, cmp3_gt, cmp3_le, cmp3_eq, ms_q, ms_f, mf_q, mf_f, mc_q, mc_f, and_self, and_true, true_and, and_false, false_and, or_true, true_or, or_false, false_or, if_true, if_false, not_true_eq_false, not_false_eq_true, eq_self, reduceIte, Int.reduceEq, Int.reduceLT, Int.reduceLE, Int.reduceNeg, Int.reduceAdd, Int.reduceSub, Int.reduceMul, Int.add_sub_cancel]); (try simp (disch := omega) only [w32_e, w64_e, td_pos, tm_pos, Int.add_sub_cancel, e13, e83, e85, e86, e89, e98, g5, g7, w3, b7, c89, c86])) <;> omega
                  · intro p z0 z1; rw [ms_q z1]; exact fr p z0 z1
                  · ((try simp (disch := decide) only [cmp3_lt, cmp3_ge, cmp3_gt, cmp3_le, cmp3_eq, ms_q, ms_f, mf_q, mf_f, mc_q, mc_f, and_self, and_true, true_and, and_false, false_and, or_true, true_or, or_false, false_or, if_true, if_false, not_true_eq_false, not_false_eq_true, eq_self, reduceIte, Int.reduceEq, Int.reduceLT, Int.reduceLE, Int.reduceNeg, Int.reduceAdd, Int.reduceSub, Int.reduceMul, Int.add_sub_cancel]); (try simp (disch := omega) only [w32_e, w64_e, td_pos, tm_pos, Int.add_sub_cancel, e13, e83, e85, e86, e89, e98, g5, g7, w3, b7, c89, c86]))
                    rw [ts, hm]
                  · intro j j0 j1
                    (try simp (disch := omega) only [w32_e] at j1)
                    rw [ts] at j1
                    simp only [] at j1
                    ((try simp (disch := decide) only [cmp3_lt, cmp3_ge, cmp3_gt, cmp3_le, cmp3_eq, ms_q, ms_f, mf_q, mf_f, mc_q, mc_f, and_self, and_true, true_and, and_false, false_and, or_true, true_or, or_false, false_or, if_true, if_false, not_true_eq_false, not_false_eq_true, eq_self, reduceIte, Int.reduceEq, Int.reduceLT, Int.reduceLE, Int.reduceNeg, Int.reduceAdd, Int.reduceSub, Int.reduceMul, Int.add_sub_cancel]); (try simp (disch := omega) only [w32_e, w64_e, td_pos, tm_pos, Int.add_sub_cancel, e13, e83, e85, e86, e89, e98, g5, g7, w3, b7, c89, c86]))
                    rw [ts]
                    unfold updI
                    by_cases e : j = (tnA M a nd i).1
                    · simp only [if_pos e, e, hm, and_self, and_true, true_and, and_false, false_and, or_true, true_or, or_false, false_or, if_true, if_false, not_true_eq_false, not_false_eq_true, eq_self, reduceIte, Int.reduceEq, Int.reduceLT, Int.reduceLE, Int.reduceNeg, Int.reduceAdd, Int.reduceSub, Int.reduceMul, Int.add_sub_cancel]
                    · simp only [if_neg e, hm]
                      exact rw_ j j0 (by omega))
           · first
               | (exfalso; omega)
               | (unfold tnS at ts
                  rw [if_neg hc] at ts
                  refine ⟨_, ?_, _, _, rfl, rfl, ?_, ?_, ?_, ?_⟩
                  · ((try simp (disch := decide) only [cmp3_lt, cmp3_ge, cmp3_gt, cmp3_le, cmp3_eq, ms_q, ms_f, mf_q, mf_f, mc_q, mc_f, and_self, and_true, true_and, and_false, false_and, or_true, true_or, or_false, false_or, if_true, if_false, not_true_eq_false, not_false_eq_true, eq_self, reduceIte, Int.reduceEq, Int.reduceLT, Int.reduceLE, Int.reduceNeg, Int.reduceAdd, Int.reduceSub, Int.reduceMul, Int.add_sub_cancel]); (try simp (disch := omega) only [w32_e, w64_e, td_pos, tm_pos, Int.add_sub_cancel, e13, e83, e85, e86, e89, e98, g5, g7, w3, b7, c89, c86])) <;> omega
                  · ((try simp (disch := decide) only [cmp3_lt, cmp3_ge, cmp3_gt, cmp3_le, cmp3_eq, ms_q, ms_f, mf_q, mf_f, mc_q, mc_f, and_self, and_true, true_and, and_false, false_and, or_true, true_or, or_false, false_or, if_true, if_false, not_true_eq_false, not_false_eq_true, eq_self, reduceIte, Int.reduceEq, Int.reduceLT, Int.reduceLE, Int.reduceNeg, Int.reduceAdd, Int.reduceSub, Int.reduceMul, Int.add_sub_cancel]); (try simp (disch := omega) only [w32_e, w64_e, td_pos, tm_pos, Int.add_sub_cancel, e13, e83, e85, e86, e89, e98, g5, g7, w3, b7, c89, c86])) <;> omega
                  · exact fr
                  · ((try simp (disch := decide) only [cmp3_lt, cmp3_ge, cmp3_gt, cmp3_le, cmp3_eq, ms_q, ms_f, mf_q, mf_f, mc_q, mc_f, and_self, and_true, true_and, and_false, false_and, or_true, true_or, or_false, false_or, if_true, if_false, not_true_eq_false, not_false_eq_true, eq_self, reduceIte, Int.reduceEq, Int.reduceLT, Int.reduceLE, Int.reduceNeg, Int.reduceAdd, Int.reduceSub, Int.reduceMul, Int.add_sub_cancel]); (try simp (disch := omega) only [w32_e, w64_e, td_pos, tm_pos, Int.add_sub_cancel, e13, e83, e85, e86, e89, e98, g5, g7, w3, b7, c89, c86]))
                    rw [ts]
                    exact hm
                  · intro j j0 j1
                    (try simp (disch := omega) only [w32_e] at j1)
                    rw [ts] at j1
                    ((try simp (disch := decide) only [cmp3_lt, cmp3_ge, cmp3_gt, cmp3_le, cmp3_eq, ms_q, ms_f, mf_q, mf_f, mc_q, mc_f, and_self, and_true, true_and, and_false, false_and, or_true, true_or, or_false, false_or, if_true, if_false, not_true_eq_false, not_false_eq_true, eq_self, reduceIte, Int.reduceEq, Int.reduceLT, Int.reduceLE, Int.reduceNeg, Int.reduceAdd, Int.reduceSub, Int.reduceMul, Int.add_sub_cancel]); (try simp (disch := omega) only [w32_e, w64_e, td_pos, tm_pos, Int.add_sub_cancel, e13, e83, e85, e86, e89, e98, g5, g7, w3, b7, c89, c86]))
                    rw [ts]
                    exact rw_ j j0 j1))
  refine Vd_run (GGn_ok (l := l) (ω := ω)) 300 (hC := key 100) (by decide) ?_
  conv => whnf
  repeat' first
    | (refine And.intro (fun h => ?_) (fun h => ?_) <;> (try simp (disch := decide) only [cmp3_lt, cmp3_ge, cmp3_gt, cmp3_le, cmp3_eq, ms_q, ms_f, mf_q, mf_f, mc_q, mc_f, and_self, and_true, true_and, and_false, false_and, or_true, true_or, or_false, false_or, if_true, if_false, not_true_eq_false, not_false_eq_true, eq_self, reduceIte, Int.reduceEq, Int.reduceLT, Int.reduceLE, Int.reduceNeg, Int.reduceAdd, Int.reduceSub, Int.reduceMul, Int.add_sub_cancel] at h) <;> (try simp (disch := omega) only [w32_e, w64_e, td_pos, tm_pos, Int.add_sub_cancel, e13, e83, e85, e86, e89, e98, g5, g7, w3, b7, c89, c86] at h) <;> first | exact absurd rfl h | exact absurd h (by decide) | (exfalso; omega) | (conv => whnf))
    | (refine And.intro (by first | omega | ((try simp (disch := decide) only [cmp3_lt, cmp3_ge, cmp3_gt, cmp3_le, cmp3_eq, ms_q, ms_f, mf_q, mf_f, mc_q, mc_f, and_self, and_true, true_and, and_false, false_and, or_true, true_or, or_false, false_or, if_true, if_false, not_true_eq_false, not_false_eq_true, eq_self, reduceIte, Int.reduceEq, Int.reduceLT, Int.reduceLE, Int.reduceNeg, Int.reduceAdd, Int.reduceSub, Int.reduceMul, Int.add_sub_cancel]); (try simp (disch := omega) only [w32_e, w64_e, td_pos, tm_pos, Int.add_sub_cancel, e13, e83, e85, e86, e89, e98, g5, g7, w3, b7, c89, c86]); first | assumption | omega) | exact ⟨rfl, hA, ho, hl⟩ | ((try simp (disch := decide) only [cmp3_lt, cmp3_ge, cmp3_gt, cmp3_le, cmp3_eq, ms_q, ms_f, mf_q, mf_f, mc_q, mc_f, and_self, and_true, true_and, and_false, false_and, or_true, true_or, or_false, false_or, if_true, if_false, not_true_eq_false, not_false_eq_true, eq_self, reduceIte, Int.reduceEq, Int.reduceLT, Int.reduceLE, Int.reduceNeg, Int.reduceAdd, Int.reduceSub, Int.reduceMul, Int.add_sub_cancel]); (try simp (disch := omega) only [w32_e, w64_e, td_pos, tm_pos, Int.add_sub_cancel, e13, e83, e85, e86, e89, e98, g5, g7, w3, b7, c89, c86]); ((repeat' (first | assumption | omega | with_reducible rfl | apply And.intro)); done))) ?_; conv => whnf)
    | (intro v; intro hv; conv => whnf)
  all_goals
    (refine ⟨_, ?_, _, _, by rw [ha], rfl, ?_, ?_, ?_, ?_⟩
     · omega
     · omega
     · intro p z0 z1; exact hv p z0
     · rfl
     · intro j j0 j1; exact absurd j1 (by show ¬ j < 0; omega))
