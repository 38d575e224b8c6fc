/-! ===== text, the model: readTest (wip/gen/p69.py) ===== -/
def GLAE : List (Nat × Nat × Spec1) := (211, 6, sp_r1M) :: GLAD
abbrev GGAE : Env1 := fun n => getG n GLAE
theorem GGAE_all {l : Launch} {ω : WP} : ∀ e ∈ GLAE, ∀ as M Q, e.2.2 as M Q → Vd l ω e.2.1 e.1 as M Q := List.forall_mem_cons.mpr ⟨ok_r1M, GGAD_all⟩
theorem GGAE_ok {l : Launch} {ω : WP} : GOK l ω GGAE := getG_ok GLAE GGAE_all

def sp_r2M : Spec1 := fun as M Q => match as with
  | [.inr (.inr (.inl (q0, i0)))] => match Nat.beq q0 13 with
    | true => (i0 = 0 ∧ True) ∧ ∃ (E : RSS) (prev mprev : List Int) (ln : Int) (kd en : Int → Int), (TPE M ∧ (0 ≤ M 13 0 43 ∧ M 13 0 43 ≤ 285) ∧ mprev.length ≤ prev.length ∧ (FB M E ∨ NotS E [] prev mprev [] ln kd en 0 M)) ∧ ∀ M9, (FRT M M9 ∧ TPE M9 ∧ (0 ≤ M9 13 0 43 ∧ M9 13 0 43 ≤ 285) ∧ (FB M9 E ∨ TstZ E prev mprev ln kd en M9)) → Q none M9
    | false => False
  | _ => False
theorem ok_r2M {l : Launch} {ω : WP} : ∀ as M Q, sp_r2M as M Q → Vd l ω 7 212 as M Q := by
  intro as M Q h
  unfold sp_r2M at h
  split at h
  case h_2 => exact h.elim
  rename_i q0 i0 
  cases hb : Nat.beq q0 13 with
  | false => rw [hb] at h; exact h.elim
  | true =>
  rw [hb] at h
  obtain ⟨⟨hi, _⟩, hQ⟩ := h
  have hb := beq_eq hb
  subst hb
  subst hi
  refine Vd.ok fun hok hal => ?_
  obtain ⟨E, prev, mprev, ln, kd, en, ⟨hT, h43, hml, hst⟩, hQ⟩ := hQ
  have key : ∀ n9, CutOK l ω 7 212 (cutL [(4, [0, 1, 2], fun kk vs M9 => ∃ or on : Int, vs = [vR 13 0, vI or, vI on] ∧ kk = mOu M9 on ∧ TOu E prev mprev ln kd en M M9 or on), (20, [0, 1, 2, 3, 4], fun kk vs M9 => ∃ or on an part : Int, vs = [vR 13 0, vI or, vI on, vI an, vI part] ∧ kk = mIn M9 part ∧ TIn E prev mprev ln kd en M M9 or on an part)] n9) Q := by
    refine loops (GGAE_ok (l := l) (ω := ω)) 600 _ ?_
    refine List.forall_mem_cons.mpr ⟨?_, List.forall_mem_cons.mpr ⟨?_, fun _ h => absurd h List.not_mem_nil⟩⟩
    · rintro n9 vs M9 ⟨or, on, rfl, rfl, hR⟩
      have hml := hml
      have hT := hR.2.1
      have b0 := hR.2.2.1
      have fl := hR.2.2.2.1
      show wpH _ 600 _ 212 _ true 4 [vR 13 0, vI or, vI on, vU, vU] [] _ Q
      conv => whnf
      repeat' first
        | (refine And.intro (fun h => ?_) (fun h => ?_) <;> (try simp (disch := decide) only [cmp3_lt, cmp3_ge, cmp3_gt, cmp3_le, cmp3_eq, ms_q, ms_f, mf_q, mf_f, mc_q, mc_f, and_self, and_true, true_and, and_false, false_and, or_true, true_or, or_false, false_or, if_true, if_false, not_true_eq_false, not_false_eq_true, eq_self, reduceIte, Int.reduceEq, Int.reduceLT, Int.reduceLE, Int.reduceNeg, Int.reduceAdd, Int.reduceSub, Int.reduceMul, Int.add_sub_cancel] at h) <;> (try simp (disch := omega) only [w32_e, w64_e, td_pos, tm_pos, Int.add_sub_cancel] at h) <;> first | exact absurd rfl h | exact absurd h (by decide) | (exfalso; omega) | (conv => whnf))
        | (refine And.intro (by first | omega | ((try simp (disch := decide) only [cmp3_lt, cmp3_ge, cmp3_gt, cmp3_le, cmp3_eq, ms_q, ms_f, mf_q, mf_f, mc_q, mc_f, and_self, and_true, true_and, and_false, false_and, or_true, true_or, or_false, false_or, if_true, if_false, not_true_eq_false, not_false_eq_true, eq_self, reduceIte, Int.reduceEq, Int.reduceLT, Int.reduceLE, Int.reduceNeg, Int.reduceAdd, Int.reduceSub, Int.reduceMul, Int.add_sub_cancel]); (try simp (disch := omega) only [w32_e, w64_e, td_pos, tm_pos, Int.add_sub_cancel]); first | assumption | omega) | (refine ⟨rfl, ?_⟩; show TPE _; (first | exact hT | exact hT2 | exact hv.2.1 | (refine tpe_code ?_; first | exact hT | exact hv.2.1) | assumption)) | (have q := hv.2.2.1; omega) | ((try simp (disch := decide) only [cmp3_lt, cmp3_ge, cmp3_gt, cmp3_le, cmp3_eq, ms_q, ms_f, mf_q, mf_f, mc_q, mc_f, and_self, and_true, true_and, and_false, false_and, or_true, true_or, or_false, false_or, if_true, if_false, not_true_eq_false, not_false_eq_true, eq_self, reduceIte, Int.reduceEq, Int.reduceLT, Int.reduceLE, Int.reduceNeg, Int.reduceAdd, Int.reduceSub, Int.reduceMul, Int.add_sub_cancel]); (try simp (disch := omega) only [w32_e, w64_e, td_pos, tm_pos, Int.add_sub_cancel]); ((repeat' (first | assumption | omega | with_reducible rfl | apply And.intro)); done))) ?_; conv => whnf)
        | (intro v; intro hv; conv => whnf)
      all_goals first
        | exact hQ M9 (ou_fin hR (by omega))
        | (have key := ou_in hR hml (by omega) (by omega)
           exact ⟨_, key.2, _, _, _, _, rfl, rfl, key.1⟩)
        | skip
    · rintro n9 vs M9 ⟨or, on, an, part, rfl, rfl, hR⟩
      have hml := hml
      have hT := hR.2.1
      have b0 := hR.2.2.1
      have fl := hR.2.2.2.1
      show wpH _ 600 _ 212 _ true 20 [vR 13 0, vI or, vI on, vI an, vI part] [] _ Q
      conv => whnf
      repeat' first
        | (refine And.intro (fun h => ?_) (fun h => ?_) <;> (try simp (disch := decide) only [cmp3_lt, cmp3_ge, cmp3_gt, cmp3_le, cmp3_eq, ms_q, ms_f, mf_q, mf_f, mc_q, mc_f, and_self, and_true, true_and, and_false, false_and, or_true, true_or, or_false, false_or, if_true, if_false, not_true_eq_false, not_false_eq_true, eq_self, reduceIte, Int.reduceEq, Int.reduceLT, Int.reduceLE, Int.reduceNeg, Int.reduceAdd, Int.reduceSub, Int.reduceMul, Int.add_sub_cancel] at h) <;> (try simp (disch := omega) only [w32_e, w64_e, td_pos, tm_pos, Int.add_sub_cancel] at h) <;> first | exact absurd rfl h | exact absurd h (by decide) | (exfalso; omega) | (conv => whnf))
        | (refine And.intro (by first | omega | ((try simp (disch := decide) only [cmp3_lt, cmp3_ge, cmp3_gt, cmp3_le, cmp3_eq, ms_q, ms_f, mf_q, mf_f, mc_q, mc_f, and_self, and_true, true_and, and_false, false_and, or_true, true_or, or_false, false_or, if_true, if_false, not_true_eq_false, not_false_eq_true, eq_self, reduceIte, Int.reduceEq, Int.reduceLT, Int.reduceLE, Int.reduceNeg, Int.reduceAdd, Int.reduceSub, Int.reduceMul, Int.add_sub_cancel]); (try simp (disch := omega) only [w32_e, w64_e, td_pos, tm_pos, Int.add_sub_cancel]); first | assumption | omega) | (refine ⟨rfl, ?_⟩; show TPE _; (first | exact hT | exact hT2 | exact hv.2.1 | (refine tpe_code ?_; first | exact hT | exact hv.2.1) | assumption)) | (have q := hv.2.2.1; omega) | ((try simp (disch := decide) only [cmp3_lt, cmp3_ge, cmp3_gt, cmp3_le, cmp3_eq, ms_q, ms_f, mf_q, mf_f, mc_q, mc_f, and_self, and_true, true_and, and_false, false_and, or_true, true_or, or_false, false_or, if_true, if_false, not_true_eq_false, not_false_eq_true, eq_self, reduceIte, Int.reduceEq, Int.reduceLT, Int.reduceLE, Int.reduceNeg, Int.reduceAdd, Int.reduceSub, Int.reduceMul, Int.add_sub_cancel]); (try simp (disch := omega) only [w32_e, w64_e, td_pos, tm_pos, Int.add_sub_cancel]); ((repeat' (first | assumption | omega | with_reducible rfl | apply And.intro)); done))) ?_; conv => whnf)
        | (intro v; intro hv; conv => whnf)
      all_goals first
        | (have z33 : M9 13 0 33 = 0 := (by omega)
           have hp := ti_pre hR hml (by omega) z33
           refine ⟨E, Wof an or, prev, mprev, tof an or, ln, kd, en, hp.1, fun v hv => ?_⟩
           have hv : POSTO E (Wof an or) prev mprev (tof an or) ln kd en M9 v := hv
           have p1 := hp.2.2
           have p30 := hp.2.1
           have v0 := hv.2.2.1
           have vT := hv.2.1
           have vT1 := hv.2.1.1
           have vT3 := hv.2.1.2.2
           have w1 : w32 (v 13 0 43 + 1) = v 13 0 43 + 1 := w32_e (by omega) (by omega)
           conv => whnf)
        | skip
      all_goals repeat' first
        | (refine And.intro (fun h => ?_) (fun h => ?_) <;> (try simp (disch := decide) only [cmp3_lt, cmp3_ge, cmp3_gt, cmp3_le, cmp3_eq, ms_q, ms_f, mf_q, mf_f, mc_q, mc_f, and_self, and_true, true_and, and_false, false_and, or_true, true_or, or_false, false_or, if_true, if_false, not_true_eq_false, not_false_eq_true, eq_self, reduceIte, Int.reduceEq, Int.reduceLT, Int.reduceLE, Int.reduceNeg, Int.reduceAdd, Int.reduceSub, Int.reduceMul, Int.add_sub_cancel] at h) <;> (try simp (disch := omega) only [w32_e, w64_e, td_pos, tm_pos, Int.add_sub_cancel] at h) <;> first | exact absurd rfl h | exact absurd h (by decide) | (exfalso; omega) | (conv => whnf))
        | (refine And.intro (by first | omega | ((try simp (disch := decide) only [cmp3_lt, cmp3_ge, cmp3_gt, cmp3_le, cmp3_eq, ms_q, ms_f, mf_q, mf_f, mc_q, mc_f, and_self, and_true, true_and, and_false, false_and, or_true, true_or, or_false, false_or, if_true, if_false, not_true_eq_false, not_false_eq_true, eq_self, reduceIte, Int.reduceEq, Int.reduceLT, Int.reduceLE, Int.reduceNeg, Int.reduceAdd, Int.reduceSub, Int.reduceMul, Int.add_sub_cancel]); (try simp (disch := omega) only [w32_e, w64_e, td_pos, tm_pos, Int.add_sub_cancel]); first | assumption | omega) | (refine ⟨rfl, ?_⟩; show TPE _; (first | exact hT | exact hT2 | exact hv.2.1 | (refine tpe_code ?_; first | exact hT | exact hv.2.1) | assumption)) | (have q := hv.2.2.1; omega) | ((try simp (disch := decide) only [cmp3_lt, cmp3_ge, cmp3_gt, cmp3_le, cmp3_eq, ms_q, ms_f, mf_q, mf_f, mc_q, mc_f, and_self, and_true, true_and, and_false, false_and, or_true, true_or, or_false, false_or, if_true, if_false, not_true_eq_false, not_false_eq_true, eq_self, reduceIte, Int.reduceEq, Int.reduceLT, Int.reduceLE, Int.reduceNeg, Int.reduceAdd, Int.reduceSub, Int.reduceMul, Int.add_sub_cancel]); (try simp (disch := omega) only [w32_e, w64_e, td_pos, tm_pos, Int.add_sub_cancel]); ((repeat' (first | assumption | omega | with_reducible rfl | apply And.intro)); done))) ?_; conv => whnf)
        | (intro v; intro hv; conv => whnf)
      all_goals have t30 := fun z => ti_30 hR hml z
      all_goals have w9 : w32 (M9 13 0 43 + 1) = M9 13 0 43 + 1 := w32_e (by omega) (by omega)
      all_goals have e9 : ∀ x, w32 (mset M9 96 0 (M9 13 0 43) x 13 0 43 + 1) = M9 13 0 43 + 1 := fun x => (by rw [ms_q (by decide)]; exact w9)
      all_goals first
        | (have o0 : or = 0 := (by omega)
           subst o0
           have m2 := to_o0 hR (by omega)
           first
             | (have key := md_nor m2 fl.2.2 rfl t30 (by omega)
                exact ⟨_, key.2, _, _, rfl, rfl, key.1⟩)
             | (have key := md_or1 (part := part) m2 rfl (by omega)
                exact ⟨_, key.2, _, _, rfl, rfl, key.1⟩)
             | (have key := md_or m2 hml fl.2.2 rfl t30 (by omega) (by omega) (by omega) hv
                exact ⟨_, key.2, _, _, rfl, rfl, key.1⟩))
        | (have o1 : or = 1 := (by omega)
           subst o1
           have m2 := to_o1 hR (by omega)
           have e33 : mset (mset M9 96 0 (M9 13 0 43) (-224)) 13 0 43 (M9 13 0 43 + 1) 13 0 33 = M9 13 0 33 := (by simp (disch := decide) only [ms_q, ms_f, true_and, and_true, Int.reduceEq, if_true, if_false, reduceIte])
           have e31 : mset (mset M9 96 0 (M9 13 0 43) (-224)) 13 0 43 (M9 13 0 43 + 1) 13 0 31 = M9 13 0 31 := (by simp (disch := decide) only [ms_q, ms_f, true_and, and_true, Int.reduceEq, if_true, if_false, reduceIte])
           have e32 : mset (mset M9 96 0 (M9 13 0 43) (-224)) 13 0 43 (M9 13 0 43 + 1) 13 0 32 = M9 13 0 32 := (by simp (disch := decide) only [ms_q, ms_f, true_and, and_true, Int.reduceEq, if_true, if_false, reduceIte])
           first
             | (rw [e9]
                have key := md_nor m2 fl.2.2 e33 t30 (by rw [e31, e32]; omega)
                exact ⟨_, key.2, _, _, rfl, rfl, key.1⟩)
             | (rw [e9]
                have key := md_or1 (part := part) m2 e33 (by rw [e33]; omega)
                exact ⟨_, key.2, _, _, rfl, rfl, key.1⟩)
             | (rw [e9] at hv
                have key := md_or m2 hml fl.2.2 e33 t30 (by rw [e33]; omega) (by rw [e31]; omega) (by rw [e32]; omega) hv
                exact ⟨_, key.2, _, _, rfl, rfl, key.1⟩))
        | (have a0 : an = 0 := (by omega)
           have hn8 := hv
           subst a0
           subst p1
           rename POSTO _ _ _ _ _ _ _ _ M9 _ => hv8
           have m2 := ti_a0 hR hv8
           first
             | (have key := md_nand (on := on) m2 fl.1 z33 p30 (by omega)
                exact ⟨_, key.2, _, _, _, _, rfl, rfl, key.1⟩)
             | (have key := md_and1 (on := on) m2 fl.1 z33 p30 (by omega)
                exact ⟨_, key.2, _, _, _, _, rfl, rfl, key.1⟩)
             | (have key := md_and (on := on) m2 hml fl.1 z33 p30 (by omega) (by omega) (by omega) hn8
                exact ⟨_, key.2, _, _, _, _, rfl, rfl, key.1⟩))
        | (have a1 : an = 1 := (by omega)
           have hn8 := hv
           subst a1
           subst p1
           rename POSTO _ _ _ _ _ _ _ _ M9 _ => hv8
           have m2 := ti_a1 hR hv8
           have e8 : ∀ v8 : Mem, 0 ≤ v8 13 0 43 ∧ v8 13 0 43 ≤ 283 → w32 (mset v8 96 0 (v8 13 0 43) (-138) 13 0 43 + 1) = v8 13 0 43 + 1 := fun v8 c => (by rw [ms_q (by decide)]; exact w32_e (by omega) (by omega))
           have q0 : _ ∧ _ := ⟨hv8.2.2.1.1, hv8.2.2.1.2.1⟩
           have f33 : ∀ v8 : Mem, mset (mset v8 96 0 (v8 13 0 43) (-138)) 13 0 43 (v8 13 0 43 + 1) 13 0 33 = v8 13 0 33 := fun v8 => (by simp (disch := decide) only [ms_q, ms_f, true_and, and_true, Int.reduceEq, if_true, if_false, reduceIte])
           have f31 : ∀ v8 : Mem, mset (mset v8 96 0 (v8 13 0 43) (-138)) 13 0 43 (v8 13 0 43 + 1) 13 0 31 = v8 13 0 31 := fun v8 => (by simp (disch := decide) only [ms_q, ms_f, true_and, and_true, Int.reduceEq, if_true, if_false, reduceIte])
           have f32 : ∀ v8 : Mem, mset (mset v8 96 0 (v8 13 0 43) (-138)) 13 0 43 (v8 13 0 43 + 1) 13 0 32 = v8 13 0 32 := fun v8 => (by simp (disch := decide) only [ms_q, ms_f, true_and, and_true, Int.reduceEq, if_true, if_false, reduceIte])
           first
             | (rw [e8 _ q0]
                have key := md_nand (on := on) m2 fl.1 z33 p30 (by rw [f31, f32]; omega)
                exact ⟨_, key.2, _, _, _, _, rfl, rfl, key.1⟩)
             | (rw [e8 _ q0]
                have key := md_and1 (on := on) m2 fl.1 z33 p30 (by rw [f33]; omega)
                exact ⟨_, key.2, _, _, _, _, rfl, rfl, key.1⟩)
             | (rw [e8 _ q0] at hn8
                have key := md_and (on := on) m2 hml fl.1 z33 p30 (by rw [f33]; omega) (by rw [f31]; omega) (by rw [f32]; omega) hn8
                exact ⟨_, key.2, _, _, _, _, rfl, rfl, key.1⟩))
        | skip
  refine Vd_run (GGAE_ok (l := l) (ω := ω)) 600 (hC := key (mOu M 1 + 1)) (by decide) ?_
  conv => whnf
  repeat' first
    | (refine And.intro (fun h => ?_) (fun h => ?_) <;> (try simp (disch := decide) only [cmp3_lt, cmp3_ge, cmp3_gt, cmp3_le, cmp3_eq, ms_q, ms_f, mf_q, mf_f, mc_q, mc_f, and_self, and_true, true_and, and_false, false_and, or_true, true_or, or_false, false_or, if_true, if_false, not_true_eq_false, not_false_eq_true, eq_self, reduceIte, Int.reduceEq, Int.reduceLT, Int.reduceLE, Int.reduceNeg, Int.reduceAdd, Int.reduceSub, Int.reduceMul, Int.add_sub_cancel] at h) <;> (try simp (disch := omega) only [w32_e, w64_e, td_pos, tm_pos, Int.add_sub_cancel] at h) <;> first | exact absurd rfl h | exact absurd h (by decide) | (exfalso; omega) | (conv => whnf))
    | (refine And.intro (by first | omega | ((try simp (disch := decide) only [cmp3_lt, cmp3_ge, cmp3_gt, cmp3_le, cmp3_eq, ms_q, ms_f, mf_q, mf_f, mc_q, mc_f, and_self, and_true, true_and, and_false, false_and, or_true, true_or, or_false, false_or, if_true, if_false, not_true_eq_false, not_false_eq_true, eq_self, reduceIte, Int.reduceEq, Int.reduceLT, Int.reduceLE, Int.reduceNeg, Int.reduceAdd, Int.reduceSub, Int.reduceMul, Int.add_sub_cancel]); (try simp (disch := omega) only [w32_e, w64_e, td_pos, tm_pos, Int.add_sub_cancel]); first | assumption | omega) | (refine ⟨rfl, ?_⟩; show TPE _; (first | exact hT | exact hT2 | exact hv.2.1 | (refine tpe_code ?_; first | exact hT | exact hv.2.1) | assumption)) | (have q := hv.2.2.1; omega) | ((try simp (disch := decide) only [cmp3_lt, cmp3_ge, cmp3_gt, cmp3_le, cmp3_eq, ms_q, ms_f, mf_q, mf_f, mc_q, mc_f, and_self, and_true, true_and, and_false, false_and, or_true, true_or, or_false, false_or, if_true, if_false, not_true_eq_false, not_false_eq_true, eq_self, reduceIte, Int.reduceEq, Int.reduceLT, Int.reduceLE, Int.reduceNeg, Int.reduceAdd, Int.reduceSub, Int.reduceMul, Int.add_sub_cancel]); (try simp (disch := omega) only [w32_e, w64_e, td_pos, tm_pos, Int.add_sub_cancel]); ((repeat' (first | assumption | omega | with_reducible rfl | apply And.intro)); done))) ?_; conv => whnf)
    | (intro v; intro hv; conv => whnf)
  exact ⟨_, Nat.lt_succ_self _, 0, 1, rfl, rfl, FRT.refl, hT, h43, ⟨Or.inl rfl, Or.inr rfl⟩, hst.elim Or.inl (fun q => Or.inr (Or.inl ⟨rfl, q⟩))⟩
