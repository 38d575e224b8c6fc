/-! ===== text, the model: readLine (wip/gen/p70.py) ===== -/
def GLAF : List (Nat × Nat × Spec1) := (212, 7, sp_r2M) :: GLAE
abbrev GGAF : Env1 := fun n => getG n GLAF
theorem GGAF_all {l : Launch} {ω : WP} : ∀ e ∈ GLAF, ∀ as M Q, e.2.2 as M Q → Vd l ω e.2.1 e.1 as M Q := List.forall_mem_cons.mpr ⟨ok_r2M, GGAE_all⟩
theorem GGAF_ok {l : Launch} {ω : WP} : GOK l ω GGAF := getG_ok GLAF GGAF_all

def sp_r3M : Spec1 := fun as M Q => match as with
  | [.inr (.inr (.inl (q0, i0)))] => match Nat.beq q0 13 with
    | true => (i0 = 0 ∧ True) ∧ ∃ E : RSS, (TPE M ∧ (0 ≤ M 13 0 43 ∧ M 13 0 43 ≤ 240) ∧ (0 ≤ M 13 0 39 ∧ M 13 0 39 ≤ 12) ∧ ¬ M 13 0 31 = 0 ∧ LinZ E M) ∧ ∀ M9, POSTL E M M9 → Q none M9
    | false => False
  | _ => False
theorem ok_r3M {l : Launch} {ω : WP} : ∀ as M Q, sp_r3M as M Q → Vd l ω 8 213 as M Q := by
  intro as M Q h
  unfold sp_r3M at h
  split at h
  case h_2 => exact h.elim
  rename_i q0 i0 
  cases hb : Nat.beq q0 13 with
  | false => rw [hb] at h; exact h.elim
  | true =>
  rw [hb] at h
  obtain ⟨⟨hi, _⟩, hQ⟩ := h
  have hb := beq_eq hb
  subst hb
  subst hi
  refine Vd.ok fun hok hal => ?_
  obtain ⟨E, ⟨hT, h43, h39, h31, hst⟩, hQ⟩ := hQ
  have h33 := lin_0 hst
  refine Vd_run (GGAF_ok (l := l) (ω := ω)) 600 (cut := fun _ => none) (by decide) CutOK_none ?_
  conv => whnf
  repeat' first
    | (refine And.intro (fun h => ?_) (fun h => ?_) <;> (try simp (disch := decide) only [cmp3_lt, cmp3_ge, cmp3_gt, cmp3_le, cmp3_eq, ms_q, ms_f, mf_q, mf_f, mc_q, mc_f, and_self, and_true, true_and, and_false, false_and, or_true, true_or, or_false, false_or, if_true, if_false, not_true_eq_false, not_false_eq_true, eq_self, reduceIte, Int.reduceEq, Int.reduceLT, Int.reduceLE, Int.reduceNeg, Int.reduceAdd, Int.reduceSub, Int.reduceMul, Int.add_sub_cancel] at h) <;> (try simp (disch := omega) only [w32_e, w64_e, td_pos, tm_pos, Int.add_sub_cancel] at h) <;> first | exact absurd rfl h | exact absurd h (by decide) | (exfalso; omega) | (conv => whnf))
    | (refine And.intro (by first | omega | ((try simp (disch := decide) only [cmp3_lt, cmp3_ge, cmp3_gt, cmp3_le, cmp3_eq, ms_q, ms_f, mf_q, mf_f, mc_q, mc_f, and_self, and_true, true_and, and_false, false_and, or_true, true_or, or_false, false_or, if_true, if_false, not_true_eq_false, not_false_eq_true, eq_self, reduceIte, Int.reduceEq, Int.reduceLT, Int.reduceLE, Int.reduceNeg, Int.reduceAdd, Int.reduceSub, Int.reduceMul, Int.add_sub_cancel]); (try simp (disch := omega) only [w32_e, w64_e, td_pos, tm_pos, Int.add_sub_cancel]); first | assumption | omega) | (refine ⟨rfl, ?_⟩; show TPE _; (first | exact hT | exact xT | (refine tpe_f (by decide) ?_; exact xT) | (refine tpe_p (by decide) (by decide) (tpe_p (by decide) (by decide) ?_); exact hT) | assumption)) | (have q := nx_39 (M := x) (w := v) hv; have q2 : w32 (v 13 0 39 + 1) = v 13 0 39 + 1 := w32_e (by omega) (by omega); simp (disch := decide) only [ms_q, ms_f, true_and, and_true, Int.reduceEq, if_true, if_false, reduceIte]; (try rw [q2]); omega)  | (have q2 : w32 (x 13 0 39 + 1) = x 13 0 39 + 1 := w32_e (by omega) (by omega); simp (disch := decide) only [ms_q, ms_f, true_and, and_true, Int.reduceEq, if_true, if_false, reduceIte]; (try rw [q2]); omega) | ((try simp (disch := decide) only [cmp3_lt, cmp3_ge, cmp3_gt, cmp3_le, cmp3_eq, ms_q, ms_f, mf_q, mf_f, mc_q, mc_f, and_self, and_true, true_and, and_false, false_and, or_true, true_or, or_false, false_or, if_true, if_false, not_true_eq_false, not_false_eq_true, eq_self, reduceIte, Int.reduceEq, Int.reduceLT, Int.reduceLE, Int.reduceNeg, Int.reduceAdd, Int.reduceSub, Int.reduceMul, Int.add_sub_cancel]); (try simp (disch := omega) only [w32_e, w64_e, td_pos, tm_pos, Int.add_sub_cancel]); ((repeat' (first | assumption | omega | with_reducible rfl | apply And.intro)); done))) ?_; conv => whnf)
    | (intro v; intro hv; conv => whnf)
  all_goals first
    | (rw [show mset M 13 0 33 _ 13 0 30 = M 13 0 30 from (by simp (disch := decide) only [ms_q, ms_f, true_and, and_true, Int.reduceEq, if_true, if_false, reduceIte])]
       exact hQ _ (post_f hT h43 h39 (by decide) (lin_bad2 hst h31 (by omega))))
    | (rw [show mset M 13 0 33 _ 13 0 30 = M 13 0 30 from (by simp (disch := decide) only [ms_q, ms_f, true_and, and_true, Int.reduceEq, if_true, if_false, reduceIte])]
       exact hQ _ (post_f hT h43 h39 (by decide) (lin_bad4 hst (by omega) (by omega))))
    | (have hv1 : NXP (mset (mset M 94 0 (M 13 0 39) (M 13 0 32)) 95 0 (M 13 0 39) (M 13 0 43)) v := hv
       obtain ⟨kd, en, kd', prev, mprev, hC, hml, hF, vT, v43, gS, gN⟩ := lin_go hT hst (by omega) (by omega) h43 hv1
       first
         | (have hst2 := gS (by omega)
            clear gS gN
            refine ⟨E, [], prev, mprev, [], 0, M 13 0 39, kd', en, ⟨vT, by omega, by decide, hml, hst2⟩, fun x hx => ?_⟩
            have hx : POSTS E [] prev mprev [] 0 (M 13 0 39) kd' en v x := hx
            have xL : LEnd E M x := ⟨0, [false], kd, en, kd', prev, mprev, _, lcx_t hC hx.1, hml, hF.trans (frl_t hx.1), hx.2.1, (by have q := hx.2.2.1; omega), hx.2.2.2.elim Or.inl (fun q => Or.inr (end_s q))⟩
            clear hx
            obtain ⟨xT, x43, x39, xz⟩ := le_1 xL
            conv => whnf)
         | (have hst2 := gN (by omega)
            clear gS gN
            refine ⟨E, prev, mprev, M 13 0 39, kd', en, ⟨vT, by omega, hml, hst2⟩, fun x hx => ?_⟩
            have xL : LEnd E M x := ⟨2, [true], kd, en, kd', prev, mprev, _, lcx_t hC hx.1, hml, hF.trans (frl_t hx.1), hx.2.1, (by have q := hx.2.2.1; omega), hx.2.2.2.elim Or.inl (fun q => Or.inr (end_t q))⟩
            clear hx
            obtain ⟨xT, x43, x39, xz⟩ := le_1 xL
            conv => whnf))
    | skip
  repeat' first
    | (refine And.intro (fun h => ?_) (fun h => ?_) <;> (try simp (disch := decide) only [cmp3_lt, cmp3_ge, cmp3_gt, cmp3_le, cmp3_eq, ms_q, ms_f, mf_q, mf_f, mc_q, mc_f, and_self, and_true, true_and, and_false, false_and, or_true, true_or, or_false, false_or, if_true, if_false, not_true_eq_false, not_false_eq_true, eq_self, reduceIte, Int.reduceEq, Int.reduceLT, Int.reduceLE, Int.reduceNeg, Int.reduceAdd, Int.reduceSub, Int.reduceMul, Int.add_sub_cancel] at h) <;> (try simp (disch := omega) only [w32_e, w64_e, td_pos, tm_pos, Int.add_sub_cancel] at h) <;> first | exact absurd rfl h | exact absurd h (by decide) | (exfalso; omega) | (conv => whnf))
    | (refine And.intro (by first | omega | ((try simp (disch := decide) only [cmp3_lt, cmp3_ge, cmp3_gt, cmp3_le, cmp3_eq, ms_q, ms_f, mf_q, mf_f, mc_q, mc_f, and_self, and_true, true_and, and_false, false_and, or_true, true_or, or_false, false_or, if_true, if_false, not_true_eq_false, not_false_eq_true, eq_self, reduceIte, Int.reduceEq, Int.reduceLT, Int.reduceLE, Int.reduceNeg, Int.reduceAdd, Int.reduceSub, Int.reduceMul, Int.add_sub_cancel]); (try simp (disch := omega) only [w32_e, w64_e, td_pos, tm_pos, Int.add_sub_cancel]); first | assumption | omega) | (refine ⟨rfl, ?_⟩; show TPE _; (first | exact hT | exact xT | (refine tpe_f (by decide) ?_; exact xT) | (refine tpe_p (by decide) (by decide) (tpe_p (by decide) (by decide) ?_); exact hT) | assumption)) | (have q := nx_39 (M := x) (w := v) hv; have q2 : w32 (v 13 0 39 + 1) = v 13 0 39 + 1 := w32_e (by omega) (by omega); simp (disch := decide) only [ms_q, ms_f, true_and, and_true, Int.reduceEq, if_true, if_false, reduceIte]; (try rw [q2]); omega)  | (have q2 : w32 (x 13 0 39 + 1) = x 13 0 39 + 1 := w32_e (by omega) (by omega); simp (disch := decide) only [ms_q, ms_f, true_and, and_true, Int.reduceEq, if_true, if_false, reduceIte]; (try rw [q2]); omega) | ((try simp (disch := decide) only [cmp3_lt, cmp3_ge, cmp3_gt, cmp3_le, cmp3_eq, ms_q, ms_f, mf_q, mf_f, mc_q, mc_f, and_self, and_true, true_and, and_false, false_and, or_true, true_or, or_false, false_or, if_true, if_false, not_true_eq_false, not_false_eq_true, eq_self, reduceIte, Int.reduceEq, Int.reduceLT, Int.reduceLE, Int.reduceNeg, Int.reduceAdd, Int.reduceSub, Int.reduceMul, Int.add_sub_cancel]); (try simp (disch := omega) only [w32_e, w64_e, td_pos, tm_pos, Int.add_sub_cancel]); ((repeat' (first | assumption | omega | with_reducible rfl | apply And.intro)); done))) ?_; conv => whnf)
    | (intro v; intro hv; conv => whnf)
  all_goals refine hQ _ ?_
  all_goals first
    | (rw [le_eq x39 xz]
       exact le_fb xL (by omega))
    | (rw [le_eq ((nx_39 (M := x) hv).1.trans x39) xz]
       exact le_ok xL (by omega) (by omega) (by omega) hv)
    | (generalize hu : mset (mset x 13 0 33 2) 13 0 34 (mset x 13 0 33 2 13 0 30) = u
       have q := le_w hu
       rw [le_eq (q.2.1.trans x39) xz]
       exact le_bad xL (by omega) (by omega) q.2.1 q.2.2 q.1)
