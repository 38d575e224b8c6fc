/-! ===== text, the model: readSum (wip/gen/p67.py) ===== -/
def GLAC : List (Nat × Nat × Spec1) := (210, 2, sp_poM) :: GLAB
abbrev GGAC : Env1 := fun n => getG n GLAC
theorem GGAC_all {l : Launch} {ω : WP} : ∀ e ∈ GLAC, ∀ as M Q, e.2.2 as M Q → Vd l ω e.2.1 e.1 as M Q := List.forall_mem_cons.mpr ⟨ok_poM, GGAB_all⟩
theorem GGAC_ok {l : Launch} {ω : WP} : GOK l ω GGAC := getG_ok GLAC GGAC_all

def sp_rsM : Spec1 := fun as M Q => match as with
  | [.inr (.inr (.inl (q0, i0)))] => match Nat.beq q0 13 with
    | true => (i0 = 0 ∧ True) ∧ ∃ (E : RSS) (base prev mprev : List Int) (τb : List Bool) (dd ln : Int) (kd en : Int → Int), (TPE M ∧ (0 ≤ M 13 0 43 ∧ M 13 0 43 ≤ 281) ∧ topb base < 5 ∧ mprev.length ≤ prev.length ∧ (FB M E ∨ SumS E base prev mprev τb dd ln kd en M)) ∧ ∀ M9, (((∀ p, p ≠ 13 → p ≠ 96 → p ≠ 97 → M9 p = M p) ∧ (∀ j, j ≠ 29 → j ≠ 30 → j ≠ 31 → j ≠ 32 → j ≠ 33 → j ≠ 34 → j ≠ 43 → j ≠ 45 → M9 13 0 j = M 13 0 j)) ∧ TPE M9 ∧ (0 ≤ M9 13 0 43 ∧ M9 13 0 43 ≤ 281 ∧ (M9 13 0 33 = 0 → M 13 0 33 = 0 ∧ M 13 0 30 ≤ M9 13 0 30)) ∧ (FB M9 E ∨ SumZ E base prev mprev τb dd ln kd en M9)) → Q none M9
    | false => False
  | _ => False
theorem ok_rsM {l : Launch} {ω : WP} : ∀ as M Q, sp_rsM as M Q → Vd l ω 5 209 as M Q := by
  intro as M Q h
  unfold sp_rsM at h
  split at h
  case h_2 => exact h.elim
  rename_i q0 i0 
  cases hb : Nat.beq q0 13 with
  | false => rw [hb] at h; exact h.elim
  | true =>
  rw [hb] at h
  obtain ⟨⟨hi, _⟩, hQ⟩ := h
  have hb := beq_eq hb
  subst hb
  subst hi
  refine Vd.ok fun hok hal => ?_
  obtain ⟨E, base, prev, mprev, τb, dd, ln, kd, en, ⟨hT, h43, hb5, hml, hst⟩, hQ⟩ := hQ
  have key : ∀ n9, CutOK l ω 5 209 (cutL [(11, [0, 1, 2, 3], fun kk vs M9 => ∃ a wv on : Int, vs = [vR 13 0, vI a, vI wv, vI on] ∧ kk = RSM M9 on ∧ RSI E base prev mprev τb dd ln kd en M M9 a wv on)] n9) Q := by
    refine loops (GGAC_ok (l := l) (ω := ω)) 600 _ ?_
    refine List.forall_mem_cons.mpr ⟨?_, fun _ h => absurd h List.not_mem_nil⟩
    · rintro n9 vs M9 ⟨a, wv, on, rfl, rfl, hR⟩
      have hml := hml
      have hT := hR.2.1
      have hT1 := hT.1
      have htp := hT.2.1
      have hf0 := hT.2.2
      have b0 := hR.2.2.1
      have hen := hR.2.2.2.1
      have fl := hR.2.2.2.2.1
      have hor := hR.2.2.2.2.2
      have hA1 : M9 13 0 33 = 0 → ¬ on = 0 → on = 1 ∧ a ≤ 6 ∧ SumA E base prev mprev τb dd ln kd en M9 a wv := fun z1 z2 => by
        rcases hor with q | q | q
        · exact absurd q.1 (by omega)
        · exact ⟨q.1, q.2.2⟩
        · exact absurd q.1 z2
      have hbd : M9 13 0 33 = 0 → ¬ on = 0 → (0 ≤ a ∧ a ≤ 6) ∧ M9 13 0 45 ≤ 20 ∧ M9 13 0 43 + M9 13 0 45 ≤ 240 := fun z1 z2 => by
        have q := sum_bd (hA1 z1 z2).2.2 hml hT b0.1 b0.2.1
        exact ⟨q.1, q.2.1, q.2.2.1⟩
      have hlt : M9 13 0 33 = 0 → ¬ on = 0 → ¬ M9 13 0 31 = 0 → M9 13 0 30 < M9 13 0 29 ∧ 0 ≤ M9 13 0 30 := fun z1 z2 z3 => sum_lt (hA1 z1 z2).2.2 z3
      clear hor
      show wpH _ 600 _ 209 _ true 11 [vR 13 0, vI a, vI wv, vI on] [] _ Q
      conv => whnf
      repeat' first
        | (refine And.intro (fun h => ?_) (fun h => ?_) <;> (try simp (disch := decide) only [cmp3_lt, cmp3_ge, cmp3_gt, cmp3_le, cmp3_eq, ms_q, ms_f, mf_q, mf_f, mc_q, mc_f, and_self, and_true, true_and, and_false, false_and, or_true, true_or, or_false, false_or, if_true, if_false, not_true_eq_false, not_false_eq_true, eq_self, reduceIte, Int.reduceEq, Int.reduceLT, Int.reduceLE, Int.reduceNeg, Int.reduceAdd, Int.reduceSub, Int.reduceMul, Int.add_sub_cancel] at h) <;> (try simp (disch := omega) only [w32_e, w64_e, td_pos, tm_pos, Int.add_sub_cancel] at h) <;> first | exact absurd rfl h | exact absurd h (by decide) | (exfalso; omega) | (conv => whnf))
        | (refine And.intro (by first | omega | ((try simp (disch := decide) only [cmp3_lt, cmp3_ge, cmp3_gt, cmp3_le, cmp3_eq, ms_q, ms_f, mf_q, mf_f, mc_q, mc_f, and_self, and_true, true_and, and_false, false_and, or_true, true_or, or_false, false_or, if_true, if_false, not_true_eq_false, not_false_eq_true, eq_self, reduceIte, Int.reduceEq, Int.reduceLT, Int.reduceLE, Int.reduceNeg, Int.reduceAdd, Int.reduceSub, Int.reduceMul, Int.add_sub_cancel]); (try simp (disch := omega) only [w32_e, w64_e, td_pos, tm_pos, Int.add_sub_cancel]); first | assumption | omega) | (refine ⟨rfl, ?_⟩; show TPE _; repeat (first | exact hT | exact tpe_pop hT hv | refine tpe_33 (by decide) ?_ | refine tpe_13 (by decide) (by decide) (by decide) ?_ | refine tpe_p (by decide) (by decide) ?_)) | (have q := hbd (by omega) (by omega); omega) | (have q := hbd (by omega) (by omega); have q2 := hv.2.2.1; omega) | ((try simp (disch := decide) only [cmp3_lt, cmp3_ge, cmp3_gt, cmp3_le, cmp3_eq, ms_q, ms_f, mf_q, mf_f, mc_q, mc_f, and_self, and_true, true_and, and_false, false_and, or_true, true_or, or_false, false_or, if_true, if_false, not_true_eq_false, not_false_eq_true, eq_self, reduceIte, Int.reduceEq, Int.reduceLT, Int.reduceLE, Int.reduceNeg, Int.reduceAdd, Int.reduceSub, Int.reduceMul, Int.add_sub_cancel]); (try simp (disch := omega) only [w32_e, w64_e, td_pos, tm_pos, Int.add_sub_cancel]); ((repeat' (first | assumption | omega | with_reducible rfl | apply And.intro)); done))) ?_; conv => whnf)
        | (intro v; intro hv; conv => whnf)
      all_goals first
        | exact hQ v (rs_fin hR hb5 (by omega) hv)
        | (exfalso
           have q := hv.2.1 33 (by decide) (by decide)
           omega)
        | (have o1 : on = 1 := (by omega); have w1 : wv = 0 := (by omega); have z33 : M9 13 0 33 = 0 := (by omega); subst o1; subst w1; have hb9 := rsi_b hR hml z33
           have a0 : a = 0 := by omega
           subst a0
           have key := rs_end hR z33 (by unfold NOP; omega)
           exact ⟨_, key.2, _, _, _, rfl, rfl, key.1⟩)
        | (have o1 : on = 1 := (by omega); have w1 : wv = 0 := (by omega); have z33 : M9 13 0 33 = 0 := (by omega); subst o1; subst w1; have hb9 := rsi_b hR hml z33
           simp (disch := decide) only [ms_q, ms_f, true_and, and_true, Int.reduceEq, if_true, if_false, reduceIte]
           have key := rs_end_bad hR hml z33 (by unfold NOP; omega) (by omega) (by omega)
           exact ⟨_, key.2, _, _, _, rfl, rfl, key.1⟩)
        | (have o1 : on = 1 := (by omega); have w1 : wv = 1 := (by omega); have z33 : M9 13 0 33 = 0 := (by omega); subst o1; subst w1; have hb9 := rsi_b hR hml z33
           have e : ∀ x, w32 (mset M9 96 0 (M9 13 0 43) x 13 0 43 + 1) = M9 13 0 43 + 1 := fun x => by rw [ms_q (by decide)]; exact w32_e (by omega) (by omega)
           rw [e] at hv
           have key := rs_val hR hml z33 (Or.inl (by omega)) (by rw [if_pos (by omega)]) hv
           exact ⟨_, key.2, _, _, _, rfl, rfl, key.1⟩)
        | (have o1 : on = 1 := (by omega); have w1 : wv = 1 := (by omega); have z33 : M9 13 0 33 = 0 := (by omega); subst o1; subst w1; have hb9 := rsi_b hR hml z33
           have e : ∀ x, w32 (mset M9 96 0 (M9 13 0 43) x 13 0 43 + 1) = M9 13 0 43 + 1 := fun x => by rw [ms_q (by decide)]; exact w32_e (by omega) (by omega)
           rw [e] at hv
           have c31 : M9 13 0 31 = 1 := by omega
           have c32 : 10 ≤ M9 13 0 32 := by omega
           have c18 := sum_v (rsi_A hR z33).2 c31 c32
           have e2 : w32 (-1 - w32 (M9 13 0 32 - 10)) = -1 - (M9 13 0 32 - 10) := by rw [w32_e (x := M9 13 0 32 - 10) (by omega) (by omega)]; exact w32_e (by omega) (by omega)
           rw [e2] at hv
           have key := rs_val hR hml z33 (Or.inr ⟨c31, c32⟩) (by rw [if_neg (by omega)]) hv
           exact ⟨_, key.2, _, _, _, rfl, rfl, key.1⟩)
        | (have o1 : on = 1 := (by omega); have w1 : wv = 1 := (by omega); have z33 : M9 13 0 33 = 0 := (by omega); subst o1; subst w1; have hb9 := rsi_b hR hml z33
           have w43 : w32 (M9 13 0 43 + 1) = M9 13 0 43 + 1 := w32_e (by omega) (by omega)
           simp (disch := decide) only [ms_q, ms_f, true_and, and_true, Int.reduceEq, if_true, if_false, reduceIte]
           rw [w43]
           have key := fun x => rs_val_bad (x := x) hR hml z33 (by omega) (by omega) (by omega)
           exact ⟨_, (key _).2, _, _, _, rfl, rfl, (key _).1⟩)
        | (have o1 : on = 1 := (by omega); have w1 : wv = 1 := (by omega); have z33 : M9 13 0 33 = 0 := (by omega); subst o1; subst w1; have hb9 := rsi_b hR hml z33
           have w45 : w32 (M9 13 0 45 + 1) = M9 13 0 45 + 1 := w32_e (by omega) (by omega)
           have wa : w32 (a + 1) = a + 1 := w32_e (by omega) (by omega)
           simp (disch := decide) only [ms_q, ms_f, true_and, and_true, Int.reduceEq, if_true, if_false, reduceIte]
           rw [w45, wa]
           have key := rs_open_bad hR hml z33 (by omega) (by omega) (by omega)
           exact ⟨_, key.2, _, _, _, rfl, rfl, key.1⟩)
        | (have o1 : on = 1 := (by omega); have w1 : wv = 1 := (by omega); have z33 : M9 13 0 33 = 0 := (by omega); subst o1; subst w1; have hb9 := rsi_b hR hml z33
           have e : w32 (mset M9 97 0 (M9 13 0 45) 40 13 0 45 + 1) = M9 13 0 45 + 1 := by rw [ms_q (by decide)]; exact w32_e (by omega) (by omega)
           have wa : w32 (a + 1) = a + 1 := w32_e (by omega) (by omega)
           rw [e] at hv
           rw [wa]
           have key := rs_open hR hml z33 (by omega) (by omega) (by omega) hv
           exact ⟨_, key.2, _, _, _, rfl, rfl, key.1⟩)
        | (have o1 : on = 1 := (by omega); have w1 : wv = 0 := (by omega); have z33 : M9 13 0 33 = 0 := (by omega); subst o1; subst w1; have hb9 := rsi_b hR hml z33
           obtain ⟨v8, hp8, hn8⟩ : ∃ v8, POP 1 M9 v8 ∧ NXP (mset v8 13 0 45 (w32 (v8 13 0 45 - 1))) v := ⟨_, by assumption, hv⟩
           have p0 := hp8.2.2.1
           have wa : w32 (a + -1) = a - 1 := by rw [w32_e (by omega) (by omega)]; omega
           have cl := rs_close (w := v) hR hml z33 (by omega) (by omega) (by omega) hp8
           rw [w32_e (by omega) (by omega)] at hn8
           rw [wa]
           have key := cl.2 hn8
           exact ⟨_, key.2, _, _, _, rfl, rfl, key.1⟩)
        | (have o1 : on = 1 := (by omega); have w1 : wv = 0 := (by omega); have z33 : M9 13 0 33 = 0 := (by omega); subst o1; subst w1; have hb9 := rsi_b hR hml z33
           obtain ⟨v8, hp8, hn8⟩ : ∃ v8, POP 1 M9 v8 ∧ NXP (mset (mset v8 97 0 (v8 13 0 45) (v8 13 0 32)) 13 0 45 (w32 (mset v8 97 0 (v8 13 0 45) (v8 13 0 32) 13 0 45 + 1))) v := ⟨_, by assumption, hv⟩
           have p0 := hp8.2.2.1
           have e : ∀ x, w32 (mset v8 97 0 (v8 13 0 45) x 13 0 45 + 1) = v8 13 0 45 + 1 := fun x => by rw [ms_q (by decide)]; exact w32_e (by omega) (by omega)
           rw [e, hp8.2.1 32 (by decide) (by decide)] at hn8
           have c32 : M9 13 0 32 = 43 ∨ M9 13 0 32 = 45 := by omega
           have key := rs_op hR hml hb5 z33 (by omega) (Or.inr c32) (by rcases c32 with q | q <;> rw [q] <;> rfl) hp8 hn8
           exact ⟨_, key.2, _, _, _, rfl, rfl, key.1⟩)
        | (have o1 : on = 1 := (by omega); have w1 : wv = 0 := (by omega); have z33 : M9 13 0 33 = 0 := (by omega); subst o1; subst w1; have hb9 := rsi_b hR hml z33
           obtain ⟨v8, hp8, hn8⟩ : ∃ v8, POP 2 M9 v8 ∧ NXP (mset (mset v8 97 0 (v8 13 0 45) (v8 13 0 32)) 13 0 45 (w32 (mset v8 97 0 (v8 13 0 45) (v8 13 0 32) 13 0 45 + 1))) v := ⟨_, by assumption, hv⟩
           have p0 := hp8.2.2.1
           have e : ∀ x, w32 (mset v8 97 0 (v8 13 0 45) x 13 0 45 + 1) = v8 13 0 45 + 1 := fun x => by rw [ms_q (by decide)]; exact w32_e (by omega) (by omega)
           rw [e, hp8.2.1 32 (by decide) (by decide)] at hn8
           have c32 : M9 13 0 32 = 42 := by omega
           have key := rs_op hR hml hb5 z33 (by omega) (Or.inl c32) (by rw [c32]; rfl) hp8 hn8
           exact ⟨_, key.2, _, _, _, rfl, rfl, key.1⟩)
        | skip
  refine Vd_run (GGAC_ok (l := l) (ω := ω)) 600 (hC := key (RSM (mset M 13 0 45 0) 1 + 1)) (by decide) ?_
  conv => whnf
  repeat' first
    | (refine And.intro (fun h => ?_) (fun h => ?_) <;> (try simp (disch := decide) only [cmp3_lt, cmp3_ge, cmp3_gt, cmp3_le, cmp3_eq, ms_q, ms_f, mf_q, mf_f, mc_q, mc_f, and_self, and_true, true_and, and_false, false_and, or_true, true_or, or_false, false_or, if_true, if_false, not_true_eq_false, not_false_eq_true, eq_self, reduceIte, Int.reduceEq, Int.reduceLT, Int.reduceLE, Int.reduceNeg, Int.reduceAdd, Int.reduceSub, Int.reduceMul, Int.add_sub_cancel] at h) <;> (try simp (disch := omega) only [w32_e, w64_e, td_pos, tm_pos, Int.add_sub_cancel] at h) <;> first | exact absurd rfl h | exact absurd h (by decide) | (exfalso; omega) | (conv => whnf))
    | (refine And.intro (by first | omega | ((try simp (disch := decide) only [cmp3_lt, cmp3_ge, cmp3_gt, cmp3_le, cmp3_eq, ms_q, ms_f, mf_q, mf_f, mc_q, mc_f, and_self, and_true, true_and, and_false, false_and, or_true, true_or, or_false, false_or, if_true, if_false, not_true_eq_false, not_false_eq_true, eq_self, reduceIte, Int.reduceEq, Int.reduceLT, Int.reduceLE, Int.reduceNeg, Int.reduceAdd, Int.reduceSub, Int.reduceMul, Int.add_sub_cancel]); (try simp (disch := omega) only [w32_e, w64_e, td_pos, tm_pos, Int.add_sub_cancel]); first | assumption | omega) | (refine ⟨rfl, ?_⟩; show TPE _; repeat (first | exact hT | exact tpe_pop hT hv | refine tpe_33 (by decide) ?_ | refine tpe_13 (by decide) (by decide) (by decide) ?_ | refine tpe_p (by decide) (by decide) ?_)) | (have q := hbd (by omega) (by omega); omega) | (have q := hbd (by omega) (by omega); have q2 := hv.2.2.1; omega) | ((try simp (disch := decide) only [cmp3_lt, cmp3_ge, cmp3_gt, cmp3_le, cmp3_eq, ms_q, ms_f, mf_q, mf_f, mc_q, mc_f, and_self, and_true, true_and, and_false, false_and, or_true, true_or, or_false, false_or, if_true, if_false, not_true_eq_false, not_false_eq_true, eq_self, reduceIte, Int.reduceEq, Int.reduceLT, Int.reduceLE, Int.reduceNeg, Int.reduceAdd, Int.reduceSub, Int.reduceMul, Int.add_sub_cancel]); (try simp (disch := omega) only [w32_e, w64_e, td_pos, tm_pos, Int.add_sub_cancel]); ((repeat' (first | assumption | omega | with_reducible rfl | apply And.intro)); done))) ?_; conv => whnf)
    | (intro v; intro hv; conv => whnf)
  have key0 := rs_begin hT h43 hst
  exact ⟨_, Nat.lt_succ_self _, 0, 1, 1, rfl, rfl, key0⟩
