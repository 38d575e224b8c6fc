/-! ===== text, the model: readOne (wip/gen/p68.py) ===== -/
def GLAD : List (Nat × Nat × Spec1) := (209, 5, sp_rsM) :: GLAC
abbrev GGAD : Env1 := fun n => getG n GLAD
theorem GGAD_all {l : Launch} {ω : WP} : ∀ e ∈ GLAD, ∀ as M Q, e.2.2 as M Q → Vd l ω e.2.1 e.1 as M Q := List.forall_mem_cons.mpr ⟨ok_rsM, GGAC_all⟩
theorem GGAD_ok {l : Launch} {ω : WP} : GOK l ω GGAD := getG_ok GLAD GGAD_all

def sp_r1M : Spec1 := fun as M Q => match as with
  | [.inr (.inr (.inl (q0, i0)))] => match Nat.beq q0 13 with
    | true => (i0 = 0 ∧ True) ∧ ∃ (E : RSS) (W prev mprev : List Int) (τ : List Bool) (ln : Int) (kd en : Int → Int), (TPE M ∧ (0 ≤ M 13 0 43 ∧ M 13 0 43 ≤ 281) ∧ topb W < 3 ∧ mprev.length ≤ prev.length ∧ NotS E W prev mprev τ ln kd en 0 M) ∧ ∀ M9, POSTO E W prev mprev τ ln kd en M M9 → Q none M9
    | false => False
  | _ => False
theorem ok_r1M {l : Launch} {ω : WP} : ∀ as M Q, sp_r1M as M Q → Vd l ω 6 211 as M Q := by
  intro as M Q h
  unfold sp_r1M at h
  split at h
  case h_2 => exact h.elim
  rename_i q0 i0 
  cases hb : Nat.beq q0 13 with
  | false => rw [hb] at h; exact h.elim
  | true =>
  rw [hb] at h
  obtain ⟨⟨hi, _⟩, hQ⟩ := h
  have hb := beq_eq hb
  subst hb
  subst hi
  refine Vd.ok fun hok hal => ?_
  obtain ⟨E, W, prev, mprev, τ, ln, kd, en, ⟨hT, h43, hW, hml, hst⟩, hQ⟩ := hQ
  have key : ∀ n9, CutOK l ω 6 211 (cutL [(2, [0, 1], fun kk vs M9 => ∃ k : Int, vs = [vR 13 0, vI k] ∧ kk = RSM M9 0 ∧ ROI E W prev mprev τ ln kd en M M9 k)] n9) Q := by
    refine loops (GGAD_ok (l := l) (ω := ω)) 600 _ ?_
    refine List.forall_mem_cons.mpr ⟨?_, fun _ h => absurd h List.not_mem_nil⟩
    · rintro n9 vs M9 ⟨k, rfl, rfl, hR⟩
      have hW := hW
      have hml := hml
      have hT := hR.2.1
      have hT1 := hT.1
      have htp := hT.2.1
      have hf0 := hT.2.2
      have b0 := hR.2.2.1
      have bk := hR.2.2.2.1
      show wpH _ 600 _ 211 _ true 2 [vR 13 0, vI k, vU] [] _ Q
      conv => whnf
      repeat' first
        | (refine And.intro (fun h => ?_) (fun h => ?_) <;> (try simp (disch := decide) only [cmp3_lt, cmp3_ge, cmp3_gt, cmp3_le, cmp3_eq, ms_q, ms_f, mf_q, mf_f, mc_q, mc_f, and_self, and_true, true_and, and_false, false_and, or_true, true_or, or_false, false_or, if_true, if_false, not_true_eq_false, not_false_eq_true, eq_self, reduceIte, Int.reduceEq, Int.reduceLT, Int.reduceLE, Int.reduceNeg, Int.reduceAdd, Int.reduceSub, Int.reduceMul, Int.add_sub_cancel] at h) <;> (try simp (disch := omega) only [w32_e, w64_e, td_pos, tm_pos, Int.add_sub_cancel] at h) <;> first | exact absurd rfl h | exact absurd h (by decide) | (exfalso; omega) | (conv => whnf))
        | (refine And.intro (by first | omega | ((try simp (disch := decide) only [cmp3_lt, cmp3_ge, cmp3_gt, cmp3_le, cmp3_eq, ms_q, ms_f, mf_q, mf_f, mc_q, mc_f, and_self, and_true, true_and, and_false, false_and, or_true, true_or, or_false, false_or, if_true, if_false, not_true_eq_false, not_false_eq_true, eq_self, reduceIte, Int.reduceEq, Int.reduceLT, Int.reduceLE, Int.reduceNeg, Int.reduceAdd, Int.reduceSub, Int.reduceMul, Int.add_sub_cancel]); (try simp (disch := omega) only [w32_e, w64_e, td_pos, tm_pos, Int.add_sub_cancel]); first | assumption | omega) | (refine ⟨rfl, ?_⟩; show TPE _; (first | exact hT | exact hv.2.1 | (refine tpe_f (by decide) ?_; exact hv.2.1) | (refine tpe_f (by decide) ?_; assumption) | assumption)) | (have q := hv.2.2.1; omega) | ((try simp (disch := decide) only [cmp3_lt, cmp3_ge, cmp3_gt, cmp3_le, cmp3_eq, ms_q, ms_f, mf_q, mf_f, mc_q, mc_f, and_self, and_true, true_and, and_false, false_and, or_true, true_or, or_false, false_or, if_true, if_false, not_true_eq_false, not_false_eq_true, eq_self, reduceIte, Int.reduceEq, Int.reduceLT, Int.reduceLE, Int.reduceNeg, Int.reduceAdd, Int.reduceSub, Int.reduceMul, Int.add_sub_cancel]); (try simp (disch := omega) only [w32_e, w64_e, td_pos, tm_pos, Int.add_sub_cancel]); ((repeat' (first | assumption | omega | with_reducible rfl | apply And.intro)); done))) ?_; conv => whnf)
        | (intro v; intro hv; conv => whnf)
      all_goals first
        | (have z33 : M9 13 0 33 = 0 := (by omega)
           have key := ro_6 hR z33 (by omega) (by omega) hv
           have wk : w32 (k + 1) = k + 1 := w32_e (by omega) (by omega)
           rw [wk]
           exact ⟨_, key.2, _, rfl, rfl, key.1.2⟩)
        | (exfalso
           omega)
        | (have hp := ro_pre hR hW hml (by omega)
           refine ⟨E, nts k.toNat W, prev, mprev, τ, 1, ln, kd, en, hp, fun v hv => ?_⟩
           have hv : POSTS E (nts k.toNat W) prev mprev τ 1 ln kd en M9 v := hv
           have e30 : mset v 13 0 33 2 13 0 30 = v 13 0 30 := (by rw [ms_f, if_neg (fun z => absurd z.2 (by decide))])
           have v0 := hv.2.2.1
           have vT := hv.2.1
           have vT1 := hv.2.1.1
           have vT3 := hv.2.1.2.2
           conv => whnf)
        | skip
      all_goals repeat' first
        | (refine And.intro (fun h => ?_) (fun h => ?_) <;> (try simp (disch := decide) only [cmp3_lt, cmp3_ge, cmp3_gt, cmp3_le, cmp3_eq, ms_q, ms_f, mf_q, mf_f, mc_q, mc_f, and_self, and_true, true_and, and_false, false_and, or_true, true_or, or_false, false_or, if_true, if_false, not_true_eq_false, not_false_eq_true, eq_self, reduceIte, Int.reduceEq, Int.reduceLT, Int.reduceLE, Int.reduceNeg, Int.reduceAdd, Int.reduceSub, Int.reduceMul, Int.add_sub_cancel] at h) <;> (try simp (disch := omega) only [w32_e, w64_e, td_pos, tm_pos, Int.add_sub_cancel] at h) <;> first | exact absurd rfl h | exact absurd h (by decide) | (exfalso; omega) | (conv => whnf))
        | (refine And.intro (by first | omega | ((try simp (disch := decide) only [cmp3_lt, cmp3_ge, cmp3_gt, cmp3_le, cmp3_eq, ms_q, ms_f, mf_q, mf_f, mc_q, mc_f, and_self, and_true, true_and, and_false, false_and, or_true, true_or, or_false, false_or, if_true, if_false, not_true_eq_false, not_false_eq_true, eq_self, reduceIte, Int.reduceEq, Int.reduceLT, Int.reduceLE, Int.reduceNeg, Int.reduceAdd, Int.reduceSub, Int.reduceMul, Int.add_sub_cancel]); (try simp (disch := omega) only [w32_e, w64_e, td_pos, tm_pos, Int.add_sub_cancel]); first | assumption | omega) | (refine ⟨rfl, ?_⟩; show TPE _; (first | exact hT | exact hv.2.1 | (refine tpe_f (by decide) ?_; exact hv.2.1) | (refine tpe_f (by decide) ?_; assumption) | assumption)) | (have q := hv.2.2.1; omega) | ((try simp (disch := decide) only [cmp3_lt, cmp3_ge, cmp3_gt, cmp3_le, cmp3_eq, ms_q, ms_f, mf_q, mf_f, mc_q, mc_f, and_self, and_true, true_and, and_false, false_and, or_true, true_or, or_false, false_or, if_true, if_false, not_true_eq_false, not_false_eq_true, eq_self, reduceIte, Int.reduceEq, Int.reduceLT, Int.reduceLE, Int.reduceNeg, Int.reduceAdd, Int.reduceSub, Int.reduceMul, Int.add_sub_cancel]); (try simp (disch := omega) only [w32_e, w64_e, td_pos, tm_pos, Int.add_sub_cancel]); ((repeat' (first | assumption | omega | with_reducible rfl | apply And.intro)); done))) ?_; conv => whnf)
        | (intro v; intro hv; conv => whnf)
      all_goals first
        | exact hQ _ (ro_c1 hR hv (by assumption))
        | (rw [e30]
           exact hQ _ (ro_c2 hR hv (by omega) (by omega)))
        | (rename POSTS _ _ _ _ _ _ _ _ _ M9 _ => hv8
           obtain ⟨t, t1, t2, t3, t4, t5, t6, t7⟩ := ro_d hR hW hml hv8 (by omega) (by omega) (by omega) hv
           first
             | exact hQ _ ⟨t3, t4, ⟨by omega, by omega, fun z => absurd z (by assumption)⟩, Or.inl (t7.resolve_right (fun z => absurd (sumS_0 z) (by assumption)))⟩
             | (refine ⟨E, t :: nts k.toNat W, prev, mprev, false :: τ, 2, ln, kd, en, ⟨t4, ⟨t5.1, t5.2.1⟩, t6, hml, t7⟩, fun x hx => ?_⟩
                have hx : POSTS E (t :: nts k.toNat W) prev mprev (false :: τ) 2 ln kd en v x := hx
                have x0 := hx.2.2.1
                have w0 : ∀ z, z = 60 ∨ z = 62 ∨ z = 61 → w32 (-100 - z) = -100 - z := fun z c => w32_e (by omega) (by omega)
                have w1 : w32 (x 13 0 43 + 1) = x 13 0 43 + 1 := w32_e (by omega) (by omega)
                have w2 : w32 (x 13 0 43 + 1 + 1) = x 13 0 43 + 1 + 1 := w32_e (by omega) (by omega)
                conv => whnf))
      all_goals repeat' first
        | (refine And.intro (fun h => ?_) (fun h => ?_) <;> (try simp (disch := decide) only [cmp3_lt, cmp3_ge, cmp3_gt, cmp3_le, cmp3_eq, ms_q, ms_f, mf_q, mf_f, mc_q, mc_f, and_self, and_true, true_and, and_false, false_and, or_true, true_or, or_false, false_or, if_true, if_false, not_true_eq_false, not_false_eq_true, eq_self, reduceIte, Int.reduceEq, Int.reduceLT, Int.reduceLE, Int.reduceNeg, Int.reduceAdd, Int.reduceSub, Int.reduceMul, Int.add_sub_cancel] at h) <;> (try simp (disch := omega) only [w32_e, w64_e, td_pos, tm_pos, Int.add_sub_cancel] at h) <;> first | exact absurd rfl h | exact absurd h (by decide) | (exfalso; omega) | (conv => whnf))
        | (refine And.intro (by first | omega | ((try simp (disch := decide) only [cmp3_lt, cmp3_ge, cmp3_gt, cmp3_le, cmp3_eq, ms_q, ms_f, mf_q, mf_f, mc_q, mc_f, and_self, and_true, true_and, and_false, false_and, or_true, true_or, or_false, false_or, if_true, if_false, not_true_eq_false, not_false_eq_true, eq_self, reduceIte, Int.reduceEq, Int.reduceLT, Int.reduceLE, Int.reduceNeg, Int.reduceAdd, Int.reduceSub, Int.reduceMul, Int.add_sub_cancel]); (try simp (disch := omega) only [w32_e, w64_e, td_pos, tm_pos, Int.add_sub_cancel]); first | assumption | omega) | (simp (disch := decide) only [ms_q, ms_f, true_and, and_true, Int.reduceEq, if_true, if_false, reduceIte]; (try rw [w1]); omega) | ((try simp (disch := decide) only [cmp3_lt, cmp3_ge, cmp3_gt, cmp3_le, cmp3_eq, ms_q, ms_f, mf_q, mf_f, mc_q, mc_f, and_self, and_true, true_and, and_false, false_and, or_true, true_or, or_false, false_or, if_true, if_false, not_true_eq_false, not_false_eq_true, eq_self, reduceIte, Int.reduceEq, Int.reduceLT, Int.reduceLE, Int.reduceNeg, Int.reduceAdd, Int.reduceSub, Int.reduceMul, Int.add_sub_cancel]); (try simp (disch := omega) only [w32_e, w64_e, td_pos, tm_pos, Int.add_sub_cancel]); ((repeat' (first | assumption | omega | with_reducible rfl | apply And.intro)); done))) ?_; conv => whnf)
        | (intro v; intro hv; conv => whnf)
      all_goals simp (disch := decide) only [ms_q, ms_f, true_and, and_true, Int.reduceEq, if_true, if_false, reduceIte, w1, w2]
      all_goals rw [w0 _ (by omega)]
      all_goals first
        | exact hQ _ ((ro_e t5.2.2 bk.1 hW t1 t2 t3 hx).1 (by rw [tm_pos bk.1]; omega))
        | exact hQ _ ((ro_e t5.2.2 bk.1 hW t1 t2 t3 hx).2 (by rw [tm_pos bk.1]; omega))

  refine Vd_run (GGAD_ok (l := l) (ω := ω)) 600 (hC := key (RSM M 0 + 1)) (by decide) ?_
  conv => whnf
  repeat' first
    | (refine And.intro (fun h => ?_) (fun h => ?_) <;> (try simp (disch := decide) only [cmp3_lt, cmp3_ge, cmp3_gt, cmp3_le, cmp3_eq, ms_q, ms_f, mf_q, mf_f, mc_q, mc_f, and_self, and_true, true_and, and_false, false_and, or_true, true_or, or_false, false_or, if_true, if_false, not_true_eq_false, not_false_eq_true, eq_self, reduceIte, Int.reduceEq, Int.reduceLT, Int.reduceLE, Int.reduceNeg, Int.reduceAdd, Int.reduceSub, Int.reduceMul, Int.add_sub_cancel] at h) <;> (try simp (disch := omega) only [w32_e, w64_e, td_pos, tm_pos, Int.add_sub_cancel] at h) <;> first | exact absurd rfl h | exact absurd h (by decide) | (exfalso; omega) | (conv => whnf))
    | (refine And.intro (by first | omega | ((try simp (disch := decide) only [cmp3_lt, cmp3_ge, cmp3_gt, cmp3_le, cmp3_eq, ms_q, ms_f, mf_q, mf_f, mc_q, mc_f, and_self, and_true, true_and, and_false, false_and, or_true, true_or, or_false, false_or, if_true, if_false, not_true_eq_false, not_false_eq_true, eq_self, reduceIte, Int.reduceEq, Int.reduceLT, Int.reduceLE, Int.reduceNeg, Int.reduceAdd, Int.reduceSub, Int.reduceMul, Int.add_sub_cancel]); (try simp (disch := omega) only [w32_e, w64_e, td_pos, tm_pos, Int.add_sub_cancel]); first | assumption | omega) | (refine ⟨rfl, ?_⟩; show TPE _; (first | exact hT | exact hv.2.1 | (refine tpe_f (by decide) ?_; exact hv.2.1) | (refine tpe_f (by decide) ?_; assumption) | assumption)) | (have q := hv.2.2.1; omega) | ((try simp (disch := decide) only [cmp3_lt, cmp3_ge, cmp3_gt, cmp3_le, cmp3_eq, ms_q, ms_f, mf_q, mf_f, mc_q, mc_f, and_self, and_true, true_and, and_false, false_and, or_true, true_or, or_false, false_or, if_true, if_false, not_true_eq_false, not_false_eq_true, eq_self, reduceIte, Int.reduceEq, Int.reduceLT, Int.reduceLE, Int.reduceNeg, Int.reduceAdd, Int.reduceSub, Int.reduceMul, Int.add_sub_cancel]); (try simp (disch := omega) only [w32_e, w64_e, td_pos, tm_pos, Int.add_sub_cancel]); ((repeat' (first | assumption | omega | with_reducible rfl | apply And.intro)); done))) ?_; conv => whnf)
    | (intro v; intro hv; conv => whnf)
  exact ⟨_, Nat.lt_succ_self _, 0, rfl, rfl, FRT.refl, hT, h43, ⟨by decide, by decide, fun _ => Int.le_refl _⟩, Or.inr ⟨notS_0 hst, 0, rfl, hst⟩⟩
