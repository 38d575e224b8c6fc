/-! ===== pair way (wip/gen/p12.py) ===== -/
def sp_nrC : Spec1 := fun as M Q => match as with
  | [.inr (.inr (.inl (q0, i0)))] => match Nat.beq q0 3 with
    | true => (i0 = 0 ∧ (0 ≤ M 1 0 0 ∧ M 1 0 0 ≤ 12)) ∧ Q (some (vI (nrA (M 28 0) (M 29 0) (M 1 0 0)).1)) M
    | false => False
  | _ => False
theorem ok_nrC {l : Launch} {ω : WP} : ∀ as M Q, sp_nrC as M Q → Vd l ω 1 101 as M Q := by
  intro as M Q h
  unfold sp_nrC at h
  split at h
  case h_2 => exact h.elim
  rename_i q0 i0 
  cases hb : Nat.beq q0 3 with
  | false => rw [hb] at h; exact h.elim
  | true =>
  rw [hb] at h
  obtain ⟨⟨hi, h1⟩, hQ⟩ := h
  have hb := beq_eq hb
  subst hb
  subst hi
  refine Vd.ok fun hok hal => ?_
  have key : ∀ n9, CutOK l ω 1 101 (cutL [(8, [0, 1, 2, 3], fun kk vs M9 => ∃ w v i : Int, vs = [vR 3 0, vI w, vI v, vI i] ∧ M = M9 ∧ kk = (M 1 0 0 - i).toNat ∧ (0 ≤ i ∧ i ≤ M 1 0 0) ∧ w = (nrA (M 28 0) (M 29 0) i).1 ∧ v = (nrA (M 28 0) (M 29 0) i).2)] n9) Q := by
    refine loops (GGi_ok (l := l) (ω := ω)) 100 _ ?_
    refine List.forall_mem_cons.mpr ⟨?_, fun _ h => absurd h List.not_mem_nil⟩
    · rintro n9 vs M9 ⟨w, v, i, rfl, rfl, rfl, i0, w1, v1⟩
      show wpH _ 100 _ 101 _ true 8 [vR 3 0, vI w, vI v, vI i] [] _ Q
      conv => whnf
      repeat' first
        | (refine And.intro (fun h => ?_) (fun h => ?_) <;> (try simp (disch := decide) only [cmp3_lt, cmp3_ge, cmp3_gt, cmp3_le, cmp3_eq, ms_q, ms_f, mf_q, mf_f, mc_q, mc_f, and_self, and_true, true_and, and_false, false_and, or_true, true_or, or_false, false_or, if_true, if_false, not_true_eq_false, not_false_eq_true, eq_self, reduceIte, Int.reduceEq, Int.reduceLT, Int.reduceLE, Int.reduceNeg, Int.reduceAdd, Int.reduceSub, Int.reduceMul, Int.add_sub_cancel] at h) <;> (try simp (disch := omega) only [w32_e, w64_e, td_pos, tm_pos, Int.add_sub_cancel] at h) <;> first | exact absurd rfl h | exact absurd h (by decide) | (exfalso; omega) | (conv => whnf))
        | (refine And.intro (by first | omega | ((try simp (disch := decide) only [cmp3_lt, cmp3_ge, cmp3_gt, cmp3_le, cmp3_eq, ms_q, ms_f, mf_q, mf_f, mc_q, mc_f, and_self, and_true, true_and, and_false, false_and, or_true, true_or, or_false, false_or, if_true, if_false, not_true_eq_false, not_false_eq_true, eq_self, reduceIte, Int.reduceEq, Int.reduceLT, Int.reduceLE, Int.reduceNeg, Int.reduceAdd, Int.reduceSub, Int.reduceMul, Int.add_sub_cancel]); (try simp (disch := omega) only [w32_e, w64_e, td_pos, tm_pos, Int.add_sub_cancel]); first | assumption | omega) | ((try simp (disch := decide) only [cmp3_lt, cmp3_ge, cmp3_gt, cmp3_le, cmp3_eq, ms_q, ms_f, mf_q, mf_f, mc_q, mc_f, and_self, and_true, true_and, and_false, false_and, or_true, true_or, or_false, false_or, if_true, if_false, not_true_eq_false, not_false_eq_true, eq_self, reduceIte, Int.reduceEq, Int.reduceLT, Int.reduceLE, Int.reduceNeg, Int.reduceAdd, Int.reduceSub, Int.reduceMul, Int.add_sub_cancel]); (try simp (disch := omega) only [w32_e, w64_e, td_pos, tm_pos, Int.add_sub_cancel]); (repeat' (first | assumption | omega | with_reducible rfl | apply And.intro)))) ?_; conv => whnf)
        | (intro v; intro hv; conv => whnf)
      all_goals first
        | (have e9 : i = M 1 0 0 := by omega
           subst e9
           rw [w1]
           exact hQ)
        | (refine ⟨_, ?_, _, _, _, rfl, rfl, rfl, ?_, ?_, ?_⟩ <;> ((try simp (disch := decide) only [cmp3_lt, cmp3_ge, cmp3_gt, cmp3_le, cmp3_eq, ms_q, ms_f, mf_q, mf_f, mc_q, mc_f, and_self, and_true, true_and, and_false, false_and, or_true, true_or, or_false, false_or, if_true, if_false, not_true_eq_false, not_false_eq_true, eq_self, reduceIte, Int.reduceEq, Int.reduceLT, Int.reduceLE, Int.reduceNeg, Int.reduceAdd, Int.reduceSub, Int.reduceMul, Int.add_sub_cancel]); (try simp (disch := omega) only [w32_e, w64_e, td_pos, tm_pos, Int.add_sub_cancel])) <;> first | omega | (rw [nrA_s (by omega)]; unfold nrS; first | (rw [if_pos ⟨by omega, by omega⟩]) | (rw [if_neg (by omega)]; assumption)))
  refine Vd_run (GGi_ok (l := l) (ω := ω)) 100 (hC := key 100) (by decide) ?_
  conv => whnf
  repeat' first
    | (refine And.intro (fun h => ?_) (fun h => ?_) <;> (try simp (disch := decide) only [cmp3_lt, cmp3_ge, cmp3_gt, cmp3_le, cmp3_eq, ms_q, ms_f, mf_q, mf_f, mc_q, mc_f, and_self, and_true, true_and, and_false, false_and, or_true, true_or, or_false, false_or, if_true, if_false, not_true_eq_false, not_false_eq_true, eq_self, reduceIte, Int.reduceEq, Int.reduceLT, Int.reduceLE, Int.reduceNeg, Int.reduceAdd, Int.reduceSub, Int.reduceMul, Int.add_sub_cancel] at h) <;> (try simp (disch := omega) only [w32_e, w64_e, td_pos, tm_pos, Int.add_sub_cancel] at h) <;> first | exact absurd rfl h | exact absurd h (by decide) | (exfalso; omega) | (conv => whnf))
    | (refine And.intro (by first | omega | ((try simp (disch := decide) only [cmp3_lt, cmp3_ge, cmp3_gt, cmp3_le, cmp3_eq, ms_q, ms_f, mf_q, mf_f, mc_q, mc_f, and_self, and_true, true_and, and_false, false_and, or_true, true_or, or_false, false_or, if_true, if_false, not_true_eq_false, not_false_eq_true, eq_self, reduceIte, Int.reduceEq, Int.reduceLT, Int.reduceLE, Int.reduceNeg, Int.reduceAdd, Int.reduceSub, Int.reduceMul, Int.add_sub_cancel]); (try simp (disch := omega) only [w32_e, w64_e, td_pos, tm_pos, Int.add_sub_cancel]); first | assumption | omega) | ((try simp (disch := decide) only [cmp3_lt, cmp3_ge, cmp3_gt, cmp3_le, cmp3_eq, ms_q, ms_f, mf_q, mf_f, mc_q, mc_f, and_self, and_true, true_and, and_false, false_and, or_true, true_or, or_false, false_or, if_true, if_false, not_true_eq_false, not_false_eq_true, eq_self, reduceIte, Int.reduceEq, Int.reduceLT, Int.reduceLE, Int.reduceNeg, Int.reduceAdd, Int.reduceSub, Int.reduceMul, Int.add_sub_cancel]); (try simp (disch := omega) only [w32_e, w64_e, td_pos, tm_pos, Int.add_sub_cancel]); (repeat' (first | assumption | omega | with_reducible rfl | apply And.intro)))) ?_; conv => whnf)
    | (intro v; intro hv; conv => whnf)
  all_goals refine ⟨_, ?_, _, _, _, rfl, rfl, rfl, ?_, ?_, ?_⟩ <;> first | rfl | omega

def sp_lvC : Spec1 := fun as M Q => match as with
  | [.inr (.inr (.inl (q0, i0))), .inl b, .inl s] => match Nat.beq q0 3 with
    | true => (i0 = 0 ∧ (0 ≤ b ∧ b < M 1 0 0) ∧ (0 ≤ s ∧ s ≤ 9) ∧ (0 ≤ M 1 0 0 ∧ M 1 0 0 ≤ 12) ∧ (0 ≤ M 28 0 b ∧ M 28 0 b ≤ 95) ∧ (∀ p, 0 ≤ p → p < M 1 0 0 → 0 ≤ M 28 0 p ∧ M 28 0 p ≤ 96) ∧ IStp M ∧ ISky M) ∧ ∀ M9, ((∀ p, p ≠ 28 → p ≠ 29 → M9 p = M p) ∧ (∀ p, 0 ≤ p → p < M 1 0 0 → M9 28 0 p = lvA M s b (M 28 0) (M 1 0 2) p) ∧ (∀ p, M9 29 0 p = if p = b then 1 else M 29 0 p)) → Q none M9
    | false => False
  | _ => False
theorem ok_lvC {l : Launch} {ω : WP} : ∀ as M Q, sp_lvC as M Q → Vd l ω 4 102 as M Q := by
  intro as M Q h
  unfold sp_lvC at h
  split at h
  case h_2 => exact h.elim
  rename_i q0 i0 b s
  cases hb : Nat.beq q0 3 with
  | false => rw [hb] at h; exact h.elim
  | true =>
  rw [hb] at h
  obtain ⟨⟨hi, h1, h2, h3, h4, h5, hS, hK⟩, hQ⟩ := h
  have hb := beq_eq hb
  subst hb
  subst hi
  refine Vd.ok fun hok hal => ?_
  obtain ⟨s1, s2, s3, s4⟩ := id hS
  have tq := s3
  have e1 := s3
  have e15 := s3
  have e16 := s3
  have l2 := s3
  have key : ∀ n9, CutOK l ω 4 102 (cutL [(9, [0, 1, 2, 3], fun kk vs M9 => ∃ i : Int, vs = [vR 3 0, vI b, vI s, vI i] ∧ kk = (M 1 0 2 - i).toNat ∧ (0 ≤ i ∧ i ≤ M 1 0 2) ∧ (∀ p, p ≠ 28 → p ≠ 29 → M9 p = M p) ∧ (∀ p, 0 ≤ p → p < M 1 0 0 → M9 28 0 p = lvA M s b (M 28 0) (i) p) ∧ (∀ p, M9 29 0 p = if p = b then 1 else M 29 0 p))] n9) Q := by
    refine loops (GGi_ok (l := l) (ω := ω)) 200 _ ?_
    refine List.forall_mem_cons.mpr ⟨?_, fun _ h => absurd h List.not_mem_nil⟩
    · rintro n9 vs M9 ⟨i, rfl, rfl, i0, fr, rb, lf⟩
      have hm : ∀ p, p ≠ 28 → p ≠ 29 → p ≠ 81 → p ≠ 82 → M9 p = M p := fun p a b _ _ => fr p a b
      have tq := tk_mem hm
      have e1 : M9 1 = M 1 := fr 1 (by decide) (by decide)
      have e15 : M9 15 = M 15 := fr 15 (by decide) (by decide)
      have e16 : M9 16 = M 16 := fr 16 (by decide) (by decide)
      have hS9 : IStp M9 := by simp (disch := decide) only [IStp, fr]; exact hS
      have hK9 : ISky M9 := by simp (disch := decide) only [ISky, fr]; exact hK
      have l0 := lvA_spI (b := b) (R := M 28 0) hS h2.1 h2.2 h4.1 i0.1 i0.2
      have l1 := rb b h1.1 h1.2
      have l2 : M9 28 0 b = M 28 0 b := l1.trans l0.1
      have l3 : i < M 1 0 2 → _ := fun z => s4 i i0.1 z
      have l4 : i < M 1 0 2 → _ := fun z => rb (M 16 0 i) (l3 z).2.1.1 (l3 z).2.1.2
      have l5 : i < M 1 0 2 → _ := fun z => tk_in (q := M 28 0 b) hS i0.1 z h2.1 h2.2
      have l6 := lvA_s (M := M) (s := s) (b := b) (R := M 28 0) i0.1
      show wpH _ 200 _ 102 _ true 9 [vR 3 0, vI b, vI s, vI i, vU] [] _ Q
      conv => whnf
      repeat' first
        | (refine And.intro (fun h => ?_) (fun h => ?_) <;> (try simp (disch := decide) only [cmp3_lt, cmp3_ge, cmp3_gt, cmp3_le, cmp3_eq, ms_q, ms_f, mf_q, mf_f, mc_q, mc_f, and_self, and_true, true_and, and_false, false_and, or_true, true_or, or_false, false_or, if_true, if_false, not_true_eq_false, not_false_eq_true, eq_self, reduceIte, Int.reduceEq, Int.reduceLT, Int.reduceLE, Int.reduceNeg, Int.reduceAdd, Int.reduceSub, Int.reduceMul, Int.add_sub_cancel] at h) <;> (try simp (disch := omega) only [w32_e, w64_e, td_pos, tm_pos, Int.add_sub_cancel, tq, e1, e15, e16, l2] at h) <;> first | exact absurd rfl h | exact absurd h (by decide) | (exfalso; omega) | (conv => whnf))
        | (refine And.intro (by first | omega | ((try simp (disch := decide) only [cmp3_lt, cmp3_ge, cmp3_gt, cmp3_le, cmp3_eq, ms_q, ms_f, mf_q, mf_f, mc_q, mc_f, and_self, and_true, true_and, and_false, false_and, or_true, true_or, or_false, false_or, if_true, if_false, not_true_eq_false, not_false_eq_true, eq_self, reduceIte, Int.reduceEq, Int.reduceLT, Int.reduceLE, Int.reduceNeg, Int.reduceAdd, Int.reduceSub, Int.reduceMul, Int.add_sub_cancel]); (try simp (disch := omega) only [w32_e, w64_e, td_pos, tm_pos, Int.add_sub_cancel, tq, e1, e15, e16, l2]); first | assumption | omega) | ((try simp (disch := decide) only [cmp3_lt, cmp3_ge, cmp3_gt, cmp3_le, cmp3_eq, ms_q, ms_f, mf_q, mf_f, mc_q, mc_f, and_self, and_true, true_and, and_false, false_and, or_true, true_or, or_false, false_or, if_true, if_false, not_true_eq_false, not_false_eq_true, eq_self, reduceIte, Int.reduceEq, Int.reduceLT, Int.reduceLE, Int.reduceNeg, Int.reduceAdd, Int.reduceSub, Int.reduceMul, Int.add_sub_cancel]); (try simp (disch := omega) only [w32_e, w64_e, td_pos, tm_pos, Int.add_sub_cancel, tq, e1, e15, e16, l2]); (repeat' (first | assumption | omega | with_reducible rfl | apply And.intro)))) ?_; conv => whnf)
        | (intro v; intro hv; conv => whnf)
      all_goals first
        | (have e9 : i = M 1 0 2 := by first | omega | (rw [e1] at *; omega)
           subst e9
           exact hQ M9 ⟨fr, rb, lf⟩)
        | (have z1 : i < M 1 0 2 := by first | omega | (rw [e1] at *; omega)
           refine ⟨_, ?_, _, rfl, rfl, ?_, ?_, ?_, ?_⟩
           · ((try simp (disch := decide) only [cmp3_lt, cmp3_ge, cmp3_gt, cmp3_le, cmp3_eq, ms_q, ms_f, mf_q, mf_f, mc_q, mc_f, and_self, and_true, true_and, and_false, false_and, or_true, true_or, or_false, false_or, if_true, if_false, not_true_eq_false, not_false_eq_true, eq_self, reduceIte, Int.reduceEq, Int.reduceLT, Int.reduceLE, Int.reduceNeg, Int.reduceAdd, Int.reduceSub, Int.reduceMul, Int.add_sub_cancel]); (try simp (disch := omega) only [w32_e, w64_e, td_pos, tm_pos, Int.add_sub_cancel, tq, e1, e15, e16, l2])) <;> omega
           · ((try simp (disch := decide) only [cmp3_lt, cmp3_ge, cmp3_gt, cmp3_le, cmp3_eq, ms_q, ms_f, mf_q, mf_f, mc_q, mc_f, and_self, and_true, true_and, and_false, false_and, or_true, true_or, or_false, false_or, if_true, if_false, not_true_eq_false, not_false_eq_true, eq_self, reduceIte, Int.reduceEq, Int.reduceLT, Int.reduceLE, Int.reduceNeg, Int.reduceAdd, Int.reduceSub, Int.reduceMul, Int.add_sub_cancel]); (try simp (disch := omega) only [w32_e, w64_e, td_pos, tm_pos, Int.add_sub_cancel, tq, e1, e15, e16, l2])) <;> omega
           · first | exact fr | (intro p z0 z1; rw [ms_q z0]; exact fr p z0 z1)
           · intro p p0 p1
             ((try simp (disch := decide) only [cmp3_lt, cmp3_ge, cmp3_gt, cmp3_le, cmp3_eq, ms_q, ms_f, mf_q, mf_f, mc_q, mc_f, and_self, and_true, true_and, and_false, false_and, or_true, true_or, or_false, false_or, if_true, if_false, not_true_eq_false, not_false_eq_true, eq_self, reduceIte, Int.reduceEq, Int.reduceLT, Int.reduceLE, Int.reduceNeg, Int.reduceAdd, Int.reduceSub, Int.reduceMul, Int.add_sub_cancel]); (try simp (disch := omega) only [w32_e, w64_e, td_pos, tm_pos, Int.add_sub_cancel, tq, e1, e15, e16, l2]))
             rw [l6]
             unfold lvS
             rw [l0.1]
             by_cases hc : M 15 0 i = b ∧ ¬ tk M i s (M 28 0 b) = -5
             · rw [if_pos hc]
               first
                 | (exfalso; omega)
                 | (unfold updI
                    by_cases e : p = M 16 0 i
                    · simp only [if_pos e]
                      have := l4 z1
                      omega
                    · simp only [if_neg e]
                      exact rb p p0 p1)
             · rw [if_neg hc]
               first
                 | exact rb p p0 p1
                 | (exfalso; omega)
           · intro p
             ((try simp (disch := decide) only [cmp3_lt, cmp3_ge, cmp3_gt, cmp3_le, cmp3_eq, ms_q, ms_f, mf_q, mf_f, mc_q, mc_f, and_self, and_true, true_and, and_false, false_and, or_true, true_or, or_false, false_or, if_true, if_false, not_true_eq_false, not_false_eq_true, eq_self, reduceIte, Int.reduceEq, Int.reduceLT, Int.reduceLE, Int.reduceNeg, Int.reduceAdd, Int.reduceSub, Int.reduceMul, Int.add_sub_cancel]); (try simp (disch := omega) only [w32_e, w64_e, td_pos, tm_pos, Int.add_sub_cancel, tq, e1, e15, e16, l2]))
             exact lf p)
  refine Vd_run (GGi_ok (l := l) (ω := ω)) 200 (hC := key 100) (by decide) ?_
  conv => whnf
  repeat' first
    | (refine And.intro (fun h => ?_) (fun h => ?_) <;> (try simp (disch := decide) only [cmp3_lt, cmp3_ge, cmp3_gt, cmp3_le, cmp3_eq, ms_q, ms_f, mf_q, mf_f, mc_q, mc_f, and_self, and_true, true_and, and_false, false_and, or_true, true_or, or_false, false_or, if_true, if_false, not_true_eq_false, not_false_eq_true, eq_self, reduceIte, Int.reduceEq, Int.reduceLT, Int.reduceLE, Int.reduceNeg, Int.reduceAdd, Int.reduceSub, Int.reduceMul, Int.add_sub_cancel] at h) <;> (try simp (disch := omega) only [w32_e, w64_e, td_pos, tm_pos, Int.add_sub_cancel, tq, e1, e15, e16, l2] at h) <;> first | exact absurd rfl h | exact absurd h (by decide) | (exfalso; omega) | (conv => whnf))
    | (refine And.intro (by first | omega | ((try simp (disch := decide) only [cmp3_lt, cmp3_ge, cmp3_gt, cmp3_le, cmp3_eq, ms_q, ms_f, mf_q, mf_f, mc_q, mc_f, and_self, and_true, true_and, and_false, false_and, or_true, true_or, or_false, false_or, if_true, if_false, not_true_eq_false, not_false_eq_true, eq_self, reduceIte, Int.reduceEq, Int.reduceLT, Int.reduceLE, Int.reduceNeg, Int.reduceAdd, Int.reduceSub, Int.reduceMul, Int.add_sub_cancel]); (try simp (disch := omega) only [w32_e, w64_e, td_pos, tm_pos, Int.add_sub_cancel, tq, e1, e15, e16, l2]); first | assumption | omega) | ((try simp (disch := decide) only [cmp3_lt, cmp3_ge, cmp3_gt, cmp3_le, cmp3_eq, ms_q, ms_f, mf_q, mf_f, mc_q, mc_f, and_self, and_true, true_and, and_false, false_and, or_true, true_or, or_false, false_or, if_true, if_false, not_true_eq_false, not_false_eq_true, eq_self, reduceIte, Int.reduceEq, Int.reduceLT, Int.reduceLE, Int.reduceNeg, Int.reduceAdd, Int.reduceSub, Int.reduceMul, Int.add_sub_cancel]); (try simp (disch := omega) only [w32_e, w64_e, td_pos, tm_pos, Int.add_sub_cancel, tq, e1, e15, e16, l2]); (repeat' (first | assumption | omega | with_reducible rfl | apply And.intro)))) ?_; conv => whnf)
    | (intro v; intro hv; conv => whnf)
  all_goals refine ⟨_, ?_, _, rfl, rfl, ?_, ?_, ?_, ?_⟩ <;> first | omega | (intro p z0 z1; rw [ms_q z1]) | (intro p p0 p1; simp (disch := decide) only [ms_q, ms_f, mf_q, mf_f, mc_q, mc_f, and_self, and_true, true_and, and_false, false_and, or_true, true_or, or_false, false_or, if_true, if_false, not_true_eq_false, not_false_eq_true, eq_self, reduceIte, Int.reduceEq, Int.reduceLT, Int.reduceLE, Int.reduceNeg, Int.reduceAdd, Int.reduceSub, Int.reduceMul, Int.add_sub_cancel]; rfl) | (intro p; simp (disch := decide) only [ms_q, ms_f, mf_q, mf_f, mc_q, mc_f, and_self, and_true, true_and, and_false, false_and, or_true, true_or, or_false, false_or, if_true, if_false, not_true_eq_false, not_false_eq_true, eq_self, reduceIte, Int.reduceEq, Int.reduceLT, Int.reduceLE, Int.reduceNeg, Int.reduceAdd, Int.reduceSub, Int.reduceMul, Int.add_sub_cancel])

def GLj : List (Nat × Nat × Spec1) := (101, 1, sp_nrC) :: (102, 4, sp_lvC) :: GLi
abbrev GGj : Env1 := fun n => getG n GLj
theorem GGj_all {l : Launch} {ω : WP} : ∀ e ∈ GLj, ∀ as M Q, e.2.2 as M Q → Vd l ω e.2.1 e.1 as M Q := List.forall_mem_cons.mpr ⟨ok_nrC, List.forall_mem_cons.mpr ⟨ok_lvC, GGi_all⟩⟩
theorem GGj_ok {l : Launch} {ω : WP} : GOK l ω GGj := getG_ok GLj GGj_all

theorem lvA_congrI {M : Mem} {s b n : Int} {R R1 : Int → Int} (hS : IStp M) (hb : 0 ≤ b ∧ b < M 1 0 0) (h : ∀ p, 0 ≤ p → p < M 1 0 0 → R1 p = R p) (h0 : 0 ≤ n) (h1 : n ≤ M 1 0 2) (p : Int) (p0 : 0 ≤ p) (p1 : p < M 1 0 0) : lvA M s b R1 n p = lvA M s b R n p := by
  have := lvA_congr (s := s) hS hb rfl h n.toNat (by omega) p p0 p1
  rw [Int.toNat_of_nonneg h0] at this
  exact this
theorem wy_exit {M : Mem} {b s q t g : Int} (hN : 0 ≤ M 1 0 0) (hS : IStp M) (h2 : 0 ≤ s) (h3 : s ≤ 9) (hq : 0 ≤ q ∧ q ≤ 95) (ht : 0 ≤ t ∧ t ≤ M 1 0 0) (hg : 0 ≤ g) (h : t = M 1 0 0 ∨ (nrA (wyA M b s q t).1 (wyA M b s q t).2 (M 1 0 0)).1 = -4 ∨ (nrA (wyA M b s q t).1 (wyA M b s q t).2 (M 1 0 0)).1 = g) : (wyA M b s q (M 1 0 0)).1 g = (wyA M b s q t).1 g := by
  have e : t + ((M 1 0 0 - t).toNat : Int) = M 1 0 0 := by omega
  rcases h with h | h | h
  · rw [h]
  · have := wyA_end ht.1 h (M 1 0 0 - t).toNat
    rw [e] at this
    rw [this]
  · have := (wyA_goal hN hS h2 h3 hq ht.1 h (by omega) (M 1 0 0 - t).toNat).1
    rw [e] at this
    exact this

def sp_arC : Spec1 := fun as M Q => match as with
  | [.inr (.inr (.inl (q0, i0))), .inl b, .inl g, .inl s, .inl q] => match Nat.beq q0 3 with
    | true => (i0 = 0 ∧ (0 ≤ b ∧ b < M 1 0 0) ∧ (0 ≤ g ∧ g < M 1 0 0) ∧ (0 ≤ s ∧ s ≤ 9) ∧ (0 ≤ q ∧ q ≤ 95) ∧ (0 ≤ M 1 0 0 ∧ M 1 0 0 ≤ 12) ∧ IStp M ∧ ISky M) ∧ ∀ M9, (∀ p, p ≠ 28 → p ≠ 29 → M9 p = M p) → Q (some (vI (wy M b g s q))) M9
    | false => False
  | _ => False
theorem ok_arC {l : Launch} {ω : WP} : ∀ as M Q, sp_arC as M Q → Vd l ω 5 100 as M Q := by
  intro as M Q h
  unfold sp_arC at h
  split at h
  case h_2 => exact h.elim
  rename_i q0 i0 b g s q
  cases hb : Nat.beq q0 3 with
  | false => rw [hb] at h; exact h.elim
  | true =>
  rw [hb] at h
  obtain ⟨⟨hi, h1, h2, h3, h4, hN, hS, hK⟩, hQ⟩ := h
  have hb := beq_eq hb
  subst hb
  subst hi
  refine Vd.ok fun hok hal => ?_
  have e1 := hN
  have nn := hN
  have key : ∀ n9, CutOK l ω 5 100 (cutL [(3, [0, 1, 2, 3, 4, 5], fun kk vs M9 => ∃ i : Int, vs = [vR 3 0, vI b, vI g, vI s, vI q, vI i] ∧ kk = (200 - i).toNat ∧ (0 ≤ i ∧ i ≤ M 1 0 0) ∧ (∀ p, p ≠ 28 → p ≠ 29 → M9 p = M p) ∧ (∀ j, 0 ≤ j → j < i → M9 28 0 j = 96 ∧ M9 29 0 j = 0)), (49, [0, 1, 2, 3, 4, 5], fun kk vs M9 => ∃ t : Int, vs = [vR 3 0, vI b, vI g, vI s, vI q, vI t] ∧ kk = (M 1 0 0 - t).toNat ∧ (0 ≤ t ∧ t ≤ M 1 0 0) ∧ (∀ p, p ≠ 28 → p ≠ 29 → M9 p = M p) ∧ (∀ p, 0 ≤ p → p < M 1 0 0 → M9 28 0 p = (wyA M b s q (t)).1 p ∧ M9 29 0 p = (wyA M b s q (t)).2 p))] n9) Q := by
    refine loops (GGj_ok (l := l) (ω := ω)) 300 _ ?_
    refine List.forall_mem_cons.mpr ⟨?_, List.forall_mem_cons.mpr ⟨?_, fun _ h => absurd h List.not_mem_nil⟩⟩
    · rintro n9 vs M9 ⟨i, rfl, rfl, i0, fr, fi⟩
      have e1 : M9 1 = M 1 := fr 1 (by decide) (by decide)
      show wpH _ 300 _ 100 _ true 3 [vR 3 0, vI b, vI g, vI s, vI q, vI i, vU] [] _ Q
      conv => whnf
      repeat' first
        | (refine And.intro (fun h => ?_) (fun h => ?_) <;> (try simp (disch := decide) only [cmp3_lt, cmp3_ge, cmp3_gt, cmp3_le, cmp3_eq, ms_q, ms_f, mf_q, mf_f, mc_q, mc_f, and_self, and_true, true_and, and_false, false_and, or_true, true_or, or_false, false_or, if_true, if_false, not_true_eq_false, not_false_eq_true, eq_self, reduceIte, Int.reduceEq, Int.reduceLT, Int.reduceLE, Int.reduceNeg, Int.reduceAdd, Int.reduceSub, Int.reduceMul, Int.add_sub_cancel] at h) <;> (try simp (disch := omega) only [w32_e, w64_e, td_pos, tm_pos, Int.add_sub_cancel, e1, nn] at h) <;> first | exact absurd rfl h | exact absurd h (by decide) | (exfalso; omega) | (conv => whnf))
        | (refine And.intro (by first | omega | ((try simp (disch := decide) only [cmp3_lt, cmp3_ge, cmp3_gt, cmp3_le, cmp3_eq, ms_q, ms_f, mf_q, mf_f, mc_q, mc_f, and_self, and_true, true_and, and_false, false_and, or_true, true_or, or_false, false_or, if_true, if_false, not_true_eq_false, not_false_eq_true, eq_self, reduceIte, Int.reduceEq, Int.reduceLT, Int.reduceLE, Int.reduceNeg, Int.reduceAdd, Int.reduceSub, Int.reduceMul, Int.add_sub_cancel]); (try simp (disch := omega) only [w32_e, w64_e, td_pos, tm_pos, Int.add_sub_cancel, e1, nn]); first | assumption | omega) | ((try simp (disch := decide) only [cmp3_lt, cmp3_ge, cmp3_gt, cmp3_le, cmp3_eq, ms_q, ms_f, mf_q, mf_f, mc_q, mc_f, and_self, and_true, true_and, and_false, false_and, or_true, true_or, or_false, false_or, if_true, if_false, not_true_eq_false, not_false_eq_true, eq_self, reduceIte, Int.reduceEq, Int.reduceLT, Int.reduceLE, Int.reduceNeg, Int.reduceAdd, Int.reduceSub, Int.reduceMul, Int.add_sub_cancel]); (try simp (disch := omega) only [w32_e, w64_e, td_pos, tm_pos, Int.add_sub_cancel, e1, nn]); (repeat' (first | assumption | omega | with_reducible rfl | apply And.intro)))) ?_; conv => whnf)
        | (intro v; intro hv; conv => whnf)
      all_goals first
        | (have z1 : i < M 1 0 0 := by omega
           refine ⟨_, ?_, _, rfl, rfl, ?_, ?_, ?_⟩
           · ((try simp (disch := decide) only [cmp3_lt, cmp3_ge, cmp3_gt, cmp3_le, cmp3_eq, ms_q, ms_f, mf_q, mf_f, mc_q, mc_f, and_self, and_true, true_and, and_false, false_and, or_true, true_or, or_false, false_or, if_true, if_false, not_true_eq_false, not_false_eq_true, eq_self, reduceIte, Int.reduceEq, Int.reduceLT, Int.reduceLE, Int.reduceNeg, Int.reduceAdd, Int.reduceSub, Int.reduceMul, Int.add_sub_cancel]); (try simp (disch := omega) only [w32_e, w64_e, td_pos, tm_pos, Int.add_sub_cancel, e1, nn])) <;> omega
           · ((try simp (disch := decide) only [cmp3_lt, cmp3_ge, cmp3_gt, cmp3_le, cmp3_eq, ms_q, ms_f, mf_q, mf_f, mc_q, mc_f, and_self, and_true, true_and, and_false, false_and, or_true, true_or, or_false, false_or, if_true, if_false, not_true_eq_false, not_false_eq_true, eq_self, reduceIte, Int.reduceEq, Int.reduceLT, Int.reduceLE, Int.reduceNeg, Int.reduceAdd, Int.reduceSub, Int.reduceMul, Int.add_sub_cancel]); (try simp (disch := omega) only [w32_e, w64_e, td_pos, tm_pos, Int.add_sub_cancel, e1, nn])) <;> omega
           · intro p z0 z1; rw [ms_q z1, ms_q z0]; exact fr p z0 z1
           · intro j j0 j1
             (try simp (disch := omega) only [w32_e] at j1)
             have q1 := fi j j0
             ((try simp (disch := decide) only [cmp3_lt, cmp3_ge, cmp3_gt, cmp3_le, cmp3_eq, ms_q, ms_f, mf_q, mf_f, mc_q, mc_f, and_self, and_true, true_and, and_false, false_and, or_true, true_or, or_false, false_or, if_true, if_false, not_true_eq_false, not_false_eq_true, eq_self, reduceIte, Int.reduceEq, Int.reduceLT, Int.reduceLE, Int.reduceNeg, Int.reduceAdd, Int.reduceSub, Int.reduceMul, Int.add_sub_cancel]); (try simp (disch := omega) only [w32_e, w64_e, td_pos, tm_pos, Int.add_sub_cancel, e1, nn]))
             by_cases e : j = i
             · simp only [e, and_self, and_true, true_and, and_false, false_and, or_true, true_or, or_false, false_or, if_true, if_false, not_true_eq_false, not_false_eq_true, eq_self, reduceIte, Int.reduceEq, Int.reduceLT, Int.reduceLE, Int.reduceNeg, Int.reduceAdd, Int.reduceSub, Int.reduceMul, Int.add_sub_cancel]
             · simp only [e, and_self, and_true, true_and, and_false, false_and, or_true, true_or, or_false, false_or, if_true, if_false, not_true_eq_false, not_false_eq_true, eq_self, reduceIte, Int.reduceEq, Int.reduceLT, Int.reduceLE, Int.reduceNeg, Int.reduceAdd, Int.reduceSub, Int.reduceMul, Int.add_sub_cancel]
               exact q1 (by omega))
        | (have z1 : M 1 0 0 ≤ i := by omega
           refine ⟨_, ?_, _, rfl, rfl, ?_, ?_, ?_⟩
           · ((try simp (disch := decide) only [cmp3_lt, cmp3_ge, cmp3_gt, cmp3_le, cmp3_eq, ms_q, ms_f, mf_q, mf_f, mc_q, mc_f, and_self, and_true, true_and, and_false, false_and, or_true, true_or, or_false, false_or, if_true, if_false, not_true_eq_false, not_false_eq_true, eq_self, reduceIte, Int.reduceEq, Int.reduceLT, Int.reduceLE, Int.reduceNeg, Int.reduceAdd, Int.reduceSub, Int.reduceMul, Int.add_sub_cancel]); (try simp (disch := omega) only [w32_e, w64_e, td_pos, tm_pos, Int.add_sub_cancel, e1, nn])) <;> omega
           · ((try simp (disch := decide) only [cmp3_lt, cmp3_ge, cmp3_gt, cmp3_le, cmp3_eq, ms_q, ms_f, mf_q, mf_f, mc_q, mc_f, and_self, and_true, true_and, and_false, false_and, or_true, true_or, or_false, false_or, if_true, if_false, not_true_eq_false, not_false_eq_true, eq_self, reduceIte, Int.reduceEq, Int.reduceLT, Int.reduceLE, Int.reduceNeg, Int.reduceAdd, Int.reduceSub, Int.reduceMul, Int.add_sub_cancel]); (try simp (disch := omega) only [w32_e, w64_e, td_pos, tm_pos, Int.add_sub_cancel, e1, nn])) <;> omega
           · intro p z0 z1; rw [ms_q z0]; exact fr p z0 z1
           · intro p p0 p1
             have q1 := fi p p0 (by omega)
             ((try simp (disch := decide) only [cmp3_lt, cmp3_ge, cmp3_gt, cmp3_le, cmp3_eq, ms_q, ms_f, mf_q, mf_f, mc_q, mc_f, and_self, and_true, true_and, and_false, false_and, or_true, true_or, or_false, false_or, if_true, if_false, not_true_eq_false, not_false_eq_true, eq_self, reduceIte, Int.reduceEq, Int.reduceLT, Int.reduceLE, Int.reduceNeg, Int.reduceAdd, Int.reduceSub, Int.reduceMul, Int.add_sub_cancel]); (try simp (disch := omega) only [w32_e, w64_e, td_pos, tm_pos, Int.add_sub_cancel, e1, nn]))
             show (if p = b then q else M9 28 0 p) = (if p = b then q else 96) ∧ M9 29 0 p = 0
             rw [q1.1]
             exact ⟨rfl, q1.2⟩)
    · rintro n9 vs M9 ⟨t, rfl, rfl, i0, fr, rb⟩
      have hm : ∀ p, p ≠ 28 → p ≠ 29 → p ≠ 81 → p ≠ 82 → M9 p = M p := fun p a b _ _ => fr p a b
      have e1 : M9 1 = M 1 := fr 1 (by decide) (by decide)
      have hS9 : IStp M9 := by simp (disch := decide) only [IStp, fr]; exact hS
      have hK9 : ISky M9 := by simp (disch := decide) only [ISky, fr]; exact hK
      have nn : nrA (M9 28 0) (M9 29 0) (M 1 0 0) = nrA (wyA M b s q t).1 (wyA M b s q t).2 (M 1 0 0) := nrA_congrI hN.1 rb
      have sp := nrA_spI (R := (wyA M b s q t).1) (L := (wyA M b s q t).2) hN.1
      have hin := wyA_inI (b := b) hN.1 hS h3.1 h3.2 h4 i0.1
      have wf : (nrA (wyA M b s q t).1 (wyA M b s q t).2 (M 1 0 0)).1 = -4 ∨ ((0 ≤ (nrA (wyA M b s q t).1 (wyA M b s q t).2 (M 1 0 0)).1 ∧ (nrA (wyA M b s q t).1 (wyA M b s q t).2 (M 1 0 0)).1 < M 1 0 0) ∧ 0 ≤ M9 28 0 (nrA (wyA M b s q t).1 (wyA M b s q t).2 (M 1 0 0)).1 ∧ M9 28 0 (nrA (wyA M b s q t).1 (wyA M b s q t).2 (M 1 0 0)).1 ≤ 95) := by
        rcases sp with ⟨⟨a, -⟩, -⟩ | ⟨⟨a, c, d, e, f⟩, -⟩
        · exact Or.inl a
        · have r := (rb _ a c).1
          have r2 := hin (nrA (wyA M b s q t).1 (wyA M b s q t).2 (M 1 0 0)).1
          exact Or.inr ⟨⟨a, c⟩, by omega, by omega⟩
      have r5 : ∀ p, 0 ≤ p → p < M 1 0 0 → 0 ≤ M9 28 0 p ∧ M9 28 0 p ≤ 96 := fun p a c => by
        rw [(rb p a c).1]
        exact hin p
      have lm := lvA_mem hm
      have rg := (rb g h2.1 h2.2).1
      show wpH _ 300 _ 100 _ true 49 [vR 3 0, vI b, vI g, vI s, vI q, vI t, vU] [] _ Q
      conv => whnf
      repeat' first
        | (refine And.intro (fun h => ?_) (fun h => ?_) <;> (try simp (disch := decide) only [cmp3_lt, cmp3_ge, cmp3_gt, cmp3_le, cmp3_eq, ms_q, ms_f, mf_q, mf_f, mc_q, mc_f, and_self, and_true, true_and, and_false, false_and, or_true, true_or, or_false, false_or, if_true, if_false, not_true_eq_false, not_false_eq_true, eq_self, reduceIte, Int.reduceEq, Int.reduceLT, Int.reduceLE, Int.reduceNeg, Int.reduceAdd, Int.reduceSub, Int.reduceMul, Int.add_sub_cancel] at h) <;> (try simp (disch := omega) only [w32_e, w64_e, td_pos, tm_pos, Int.add_sub_cancel, e1, nn] at h) <;> first | exact absurd rfl h | exact absurd h (by decide) | (exfalso; omega) | (conv => whnf))
        | (refine And.intro (by first | omega | ((try simp (disch := decide) only [cmp3_lt, cmp3_ge, cmp3_gt, cmp3_le, cmp3_eq, ms_q, ms_f, mf_q, mf_f, mc_q, mc_f, and_self, and_true, true_and, and_false, false_and, or_true, true_or, or_false, false_or, if_true, if_false, not_true_eq_false, not_false_eq_true, eq_self, reduceIte, Int.reduceEq, Int.reduceLT, Int.reduceLE, Int.reduceNeg, Int.reduceAdd, Int.reduceSub, Int.reduceMul, Int.add_sub_cancel]); (try simp (disch := omega) only [w32_e, w64_e, td_pos, tm_pos, Int.add_sub_cancel, e1, nn]); first | assumption | omega) | ((try simp (disch := decide) only [cmp3_lt, cmp3_ge, cmp3_gt, cmp3_le, cmp3_eq, ms_q, ms_f, mf_q, mf_f, mc_q, mc_f, and_self, and_true, true_and, and_false, false_and, or_true, true_or, or_false, false_or, if_true, if_false, not_true_eq_false, not_false_eq_true, eq_self, reduceIte, Int.reduceEq, Int.reduceLT, Int.reduceLE, Int.reduceNeg, Int.reduceAdd, Int.reduceSub, Int.reduceMul, Int.add_sub_cancel]); (try simp (disch := omega) only [w32_e, w64_e, td_pos, tm_pos, Int.add_sub_cancel, e1, nn]); (repeat' (first | assumption | omega | with_reducible rfl | apply And.intro)))) ?_; conv => whnf)
        | (intro v; intro hv; conv => whnf)
      all_goals first
        | (have ex := wy_exit (g := g) hN.1 hS h3.1 h3.2 h4 i0 h2.1 (b := b) (by omega)
           refine Eq.mp (congrArg (fun z => Q (some (vI z)) M9) ?_) (hQ M9 fr)
           unfold wy
           rw [ex, ← rg]
           split <;> omega)
        | (have hne : ¬ (nrA (wyA M b s q t).1 (wyA M b s q t).2 (M 1 0 0)).1 = -4 := by omega
           refine ⟨_, ?_, _, rfl, rfl, ?_, ?_, ?_⟩
           · ((try simp (disch := decide) only [cmp3_lt, cmp3_ge, cmp3_gt, cmp3_le, cmp3_eq, ms_q, ms_f, mf_q, mf_f, mc_q, mc_f, and_self, and_true, true_and, and_false, false_and, or_true, true_or, or_false, false_or, if_true, if_false, not_true_eq_false, not_false_eq_true, eq_self, reduceIte, Int.reduceEq, Int.reduceLT, Int.reduceLE, Int.reduceNeg, Int.reduceAdd, Int.reduceSub, Int.reduceMul, Int.add_sub_cancel]); (try simp (disch := omega) only [w32_e, w64_e, td_pos, tm_pos, Int.add_sub_cancel, e1, nn])) <;> omega
           · ((try simp (disch := decide) only [cmp3_lt, cmp3_ge, cmp3_gt, cmp3_le, cmp3_eq, ms_q, ms_f, mf_q, mf_f, mc_q, mc_f, and_self, and_true, true_and, and_false, false_and, or_true, true_or, or_false, false_or, if_true, if_false, not_true_eq_false, not_false_eq_true, eq_self, reduceIte, Int.reduceEq, Int.reduceLT, Int.reduceLE, Int.reduceNeg, Int.reduceAdd, Int.reduceSub, Int.reduceMul, Int.add_sub_cancel]); (try simp (disch := omega) only [w32_e, w64_e, td_pos, tm_pos, Int.add_sub_cancel, e1, nn])) <;> omega
           · intro p z0 z1; rw [hv.1 p z0 z1]; exact fr p z0 z1
           · intro p p0 p1
             have a := hv.2.1 p p0 (by rw [e1]; exact p1)
             have a2 := hv.2.2 p
             rw [lm, e1, nn] at a
             rw [e1, nn] at a2
             ((try simp (disch := decide) only [cmp3_lt, cmp3_ge, cmp3_gt, cmp3_le, cmp3_eq, ms_q, ms_f, mf_q, mf_f, mc_q, mc_f, and_self, and_true, true_and, and_false, false_and, or_true, true_or, or_false, false_or, if_true, if_false, not_true_eq_false, not_false_eq_true, eq_self, reduceIte, Int.reduceEq, Int.reduceLT, Int.reduceLE, Int.reduceNeg, Int.reduceAdd, Int.reduceSub, Int.reduceMul, Int.add_sub_cancel]); (try simp (disch := omega) only [w32_e, w64_e, td_pos, tm_pos, Int.add_sub_cancel, e1, nn]))
             rw [wyA_s (by omega), wyS_b hne]
             refine ⟨a.trans (lvA_congrI hS (by omega) (fun x x0 x1 => (rb x x0 x1).1) hS.2.2.1.1 (Int.le_refl _) p p0 p1), a2.trans ?_⟩
             show _ = (if p = _ then 1 else _)
             rw [(rb p p0 p1).2])
  refine Vd_run (GGj_ok (l := l) (ω := ω)) 300 (hC := key 1000) (by decide) ?_
  conv => whnf
  repeat' first
    | (refine And.intro (fun h => ?_) (fun h => ?_) <;> (try simp (disch := decide) only [cmp3_lt, cmp3_ge, cmp3_gt, cmp3_le, cmp3_eq, ms_q, ms_f, mf_q, mf_f, mc_q, mc_f, and_self, and_true, true_and, and_false, false_and, or_true, true_or, or_false, false_or, if_true, if_false, not_true_eq_false, not_false_eq_true, eq_self, reduceIte, Int.reduceEq, Int.reduceLT, Int.reduceLE, Int.reduceNeg, Int.reduceAdd, Int.reduceSub, Int.reduceMul, Int.add_sub_cancel] at h) <;> (try simp (disch := omega) only [w32_e, w64_e, td_pos, tm_pos, Int.add_sub_cancel, e1, nn] at h) <;> first | exact absurd rfl h | exact absurd h (by decide) | (exfalso; omega) | (conv => whnf))
    | (refine And.intro (by first | omega | ((try simp (disch := decide) only [cmp3_lt, cmp3_ge, cmp3_gt, cmp3_le, cmp3_eq, ms_q, ms_f, mf_q, mf_f, mc_q, mc_f, and_self, and_true, true_and, and_false, false_and, or_true, true_or, or_false, false_or, if_true, if_false, not_true_eq_false, not_false_eq_true, eq_self, reduceIte, Int.reduceEq, Int.reduceLT, Int.reduceLE, Int.reduceNeg, Int.reduceAdd, Int.reduceSub, Int.reduceMul, Int.add_sub_cancel]); (try simp (disch := omega) only [w32_e, w64_e, td_pos, tm_pos, Int.add_sub_cancel, e1, nn]); first | assumption | omega) | ((try simp (disch := decide) only [cmp3_lt, cmp3_ge, cmp3_gt, cmp3_le, cmp3_eq, ms_q, ms_f, mf_q, mf_f, mc_q, mc_f, and_self, and_true, true_and, and_false, false_and, or_true, true_or, or_false, false_or, if_true, if_false, not_true_eq_false, not_false_eq_true, eq_self, reduceIte, Int.reduceEq, Int.reduceLT, Int.reduceLE, Int.reduceNeg, Int.reduceAdd, Int.reduceSub, Int.reduceMul, Int.add_sub_cancel]); (try simp (disch := omega) only [w32_e, w64_e, td_pos, tm_pos, Int.add_sub_cancel, e1, nn]); (repeat' (first | assumption | omega | with_reducible rfl | apply And.intro)))) ?_; conv => whnf)
    | (intro v; intro hv; conv => whnf)
  all_goals refine ⟨_, ?_, _, rfl, rfl, ?_, ?_, ?_⟩ <;> first | omega | (intro p _ _; rfl) | (intro j j0 j1; omega)

def sp_wyM : Spec1 := fun as M Q => match as with
  | [.inr (.inr (.inl (q0, i0))), .inl b, .inl g, .inl s, .inl q] => match Nat.beq q0 13 with
    | true => (i0 = 0 ∧ (0 ≤ b ∧ b < M 1 0 0) ∧ (0 ≤ g ∧ g < M 1 0 0) ∧ (0 ≤ s ∧ s ≤ 9) ∧ (0 ≤ q ∧ q ≤ 95) ∧ (0 ≤ M 1 0 0 ∧ M 1 0 0 ≤ 12) ∧ IStp M ∧ ISky M ∧ M 13 0 0 = M 1 0 0) ∧ ∀ M9, (∀ p, p ≠ 81 → p ≠ 82 → M9 p = M p) → Q (some (vI (wy M b g s q))) M9
    | false => False
  | _ => False
theorem ok_wyM {l : Launch} {ω : WP} : ∀ as M Q, sp_wyM as M Q → Vd l ω 4 187 as M Q := by
  intro as M Q h
  unfold sp_wyM at h
  split at h
  case h_2 => exact h.elim
  rename_i q0 i0 b g s q
  cases hb : Nat.beq q0 13 with
  | false => rw [hb] at h; exact h.elim
  | true =>
  rw [hb] at h
  obtain ⟨⟨hi, h1, h2, h3, h4, hN, hS, hK, hz⟩, hQ⟩ := h
  have hb := beq_eq hb
  subst hb
  subst hi
  refine Vd.ok fun hok hal => ?_
  obtain ⟨s1, ⟨t1, t2, t3, t4, t5, t6⟩, s3, s4⟩ := id hS
  have e13 := hN
  have e70 := hN
  have e71 := hN
  have tq := hN
  have e1 := hN
  have e2 := hN
  have l2 := hN
  have key : ∀ n9, CutOK l ω 4 187 (cutL [(3, [0, 1, 2, 3, 4, 5], fun kk vs M9 => ∃ i : Int, vs = [vR 13 0, vI b, vI g, vI s, vI q, vI i] ∧ kk = (300000 - i).toNat ∧ (0 ≤ i ∧ i ≤ 12) ∧ (∀ p, p ≠ 81 → p ≠ 82 → M9 p = M p) ∧ (∀ j, 0 ≤ j → j < i → M9 81 0 j = 1000 ∧ M9 82 0 j = 0)), (45, [0, 1, 2, 3, 4, 5], fun kk vs M9 => ∃ n : Int, vs = [vR 13 0, vI b, vI g, vI s, vI q, vI n] ∧ kk = ((M 1 0 0 - n) * 2000 + 1900).toNat ∧ (0 ≤ n ∧ n ≤ M 1 0 0) ∧ (∀ p, p ≠ 81 → p ≠ 82 → M9 p = M p) ∧ (∀ p, 0 ≤ p → p < M 1 0 0 → min 96 (M9 81 0 p) = (wyA M b s q (n)).1 p ∧ (0 ≤ M9 81 0 p ∧ M9 81 0 p ≤ 1000) ∧ M9 82 0 p = (wyA M b s q (n)).2 p)), (61, [0, 1, 2, 3, 4, 5, 6, 7], fun kk vs M9 => ∃ n v i : Int, vs = [vR 13 0, vI b, vI g, vI s, vI q, vI n, vI v, vI i] ∧ kk = ((M 1 0 0 - n) * 2000 + 1000 + (M 1 0 0 - i)).toNat ∧ (0 ≤ n ∧ n < M 1 0 0) ∧ (0 ≤ i ∧ i ≤ M 1 0 0) ∧ (∀ p, p ≠ 81 → p ≠ 82 → M9 p = M p) ∧ (∀ p, 0 ≤ p → p < M 1 0 0 → min 96 (M9 81 0 p) = (wyA M b s q (n)).1 p ∧ (0 ≤ M9 81 0 p ∧ M9 81 0 p ≤ 1000) ∧ M9 82 0 p = (wyA M b s q (n)).2 p) ∧ v = (nrA (wyA M b s q n).1 (wyA M b s q n).2 (i)).1), (149, [0, 1, 2, 3, 4, 5, 6, 7], fun kk vs M9 => ∃ n w i : Int, vs = [vR 13 0, vI b, vI g, vI s, vI q, vI n, vI w, vI i] ∧ kk = ((M 1 0 0 - n) * 2000 + (M 1 0 2 - i)).toNat ∧ (0 ≤ n ∧ n < M 1 0 0) ∧ (0 ≤ i ∧ i ≤ M 1 0 2) ∧ (∀ p, p ≠ 81 → p ≠ 82 → M9 p = M p) ∧ (w = (nrA (wyA M b s q n).1 (wyA M b s q n).2 (M 1 0 0)).1 ∧ ¬ w = -4) ∧ (∀ p, 0 ≤ p → p < M 1 0 0 → min 96 (M9 81 0 p) = lvA M s w (wyA M b s q n).1 i p ∧ (0 ≤ M9 81 0 p ∧ M9 81 0 p ≤ 1000) ∧ M9 82 0 p = updI (wyA M b s q n).2 w 1 p))] n9) Q := by
    refine loops (GGj_ok (l := l) (ω := ω)) 400 _ ?_
    refine List.forall_mem_cons.mpr ⟨?_, List.forall_mem_cons.mpr ⟨?_, List.forall_mem_cons.mpr ⟨?_, List.forall_mem_cons.mpr ⟨?_, fun _ h => absurd h List.not_mem_nil⟩⟩⟩⟩
    · rintro n9 vs M9 ⟨i, rfl, rfl, i0, fr, fi⟩
      have e13 : M9 13 = M 13 := fr 13 (by decide) (by decide)
      have e70 : M9 70 = M 70 := fr 70 (by decide) (by decide)
      have e71 : M9 71 = M 71 := fr 71 (by decide) (by decide)
      have e1 : M9 1 = M 1 := fr 1 (by decide) (by decide)
      have hm : ∀ p, p ≠ 28 → p ≠ 29 → p ≠ 81 → p ≠ 82 → M9 p = M p := fun p _ _ a b => fr p a b
      have tq := tk_mem hm
      show wpH _ 400 _ 187 _ true 3 [vR 13 0, vI b, vI g, vI s, vI q, vI i, vU, vU, vU] [] _ Q
      conv => whnf
      repeat' first
        | (refine And.intro (fun h => ?_) (fun h => ?_) <;> (try simp (disch := decide) only [cmp3_lt, cmp3_ge, cmp3_gt, cmp3_le, cmp3_eq, ms_q, ms_f, mf_q, mf_f, mc_q, mc_f, and_self, and_true, true_and, and_false, false_and, or_true, true_or, or_false, false_or, if_true, if_false, not_true_eq_false, not_false_eq_true, eq_self, reduceIte, Int.reduceEq, Int.reduceLT, Int.reduceLE, Int.reduceNeg, Int.reduceAdd, Int.reduceSub, Int.reduceMul, Int.add_sub_cancel] at h) <;> (try simp (disch := omega) only [w32_e, w64_e, td_pos, tm_pos, Int.add_sub_cancel, e13, e70, e71, hz, t1, t2, tq, e1, e2, s1, l2] at h) <;> first | exact absurd rfl h | exact absurd h (by decide) | (exfalso; omega) | (conv => whnf))
        | (refine And.intro (by first | omega | ((try simp (disch := decide) only [cmp3_lt, cmp3_ge, cmp3_gt, cmp3_le, cmp3_eq, ms_q, ms_f, mf_q, mf_f, mc_q, mc_f, and_self, and_true, true_and, and_false, false_and, or_true, true_or, or_false, false_or, if_true, if_false, not_true_eq_false, not_false_eq_true, eq_self, reduceIte, Int.reduceEq, Int.reduceLT, Int.reduceLE, Int.reduceNeg, Int.reduceAdd, Int.reduceSub, Int.reduceMul, Int.add_sub_cancel]); (try simp (disch := omega) only [w32_e, w64_e, td_pos, tm_pos, Int.add_sub_cancel, e13, e70, e71, hz, t1, t2, tq, e1, e2, s1, l2]); first | assumption | omega) | ((try simp (disch := decide) only [cmp3_lt, cmp3_ge, cmp3_gt, cmp3_le, cmp3_eq, ms_q, ms_f, mf_q, mf_f, mc_q, mc_f, and_self, and_true, true_and, and_false, false_and, or_true, true_or, or_false, false_or, if_true, if_false, not_true_eq_false, not_false_eq_true, eq_self, reduceIte, Int.reduceEq, Int.reduceLT, Int.reduceLE, Int.reduceNeg, Int.reduceAdd, Int.reduceSub, Int.reduceMul, Int.add_sub_cancel]); (try simp (disch := omega) only [w32_e, w64_e, td_pos, tm_pos, Int.add_sub_cancel, e13, e70, e71, hz, t1, t2, tq, e1, e2, s1, l2]); (repeat' (first | assumption | omega | with_reducible rfl | apply And.intro)))) ?_; conv => whnf)
        | (intro v; intro hv; conv => whnf)
      all_goals first
        | (have z1 : i < 12 := by omega
           refine ⟨_, ?_, _, rfl, rfl, ?_, ?_, ?_⟩
           · ((try simp (disch := decide) only [cmp3_lt, cmp3_ge, cmp3_gt, cmp3_le, cmp3_eq, ms_q, ms_f, mf_q, mf_f, mc_q, mc_f, and_self, and_true, true_and, and_false, false_and, or_true, true_or, or_false, false_or, if_true, if_false, not_true_eq_false, not_false_eq_true, eq_self, reduceIte, Int.reduceEq, Int.reduceLT, Int.reduceLE, Int.reduceNeg, Int.reduceAdd, Int.reduceSub, Int.reduceMul, Int.add_sub_cancel]); (try simp (disch := omega) only [w32_e, w64_e, td_pos, tm_pos, Int.add_sub_cancel, e13, e70, e71, hz, t1, t2, tq, e1, e2])) <;> omega
           · ((try simp (disch := decide) only [cmp3_lt, cmp3_ge, cmp3_gt, cmp3_le, cmp3_eq, ms_q, ms_f, mf_q, mf_f, mc_q, mc_f, and_self, and_true, true_and, and_false, false_and, or_true, true_or, or_false, false_or, if_true, if_false, not_true_eq_false, not_false_eq_true, eq_self, reduceIte, Int.reduceEq, Int.reduceLT, Int.reduceLE, Int.reduceNeg, Int.reduceAdd, Int.reduceSub, Int.reduceMul, Int.add_sub_cancel]); (try simp (disch := omega) only [w32_e, w64_e, td_pos, tm_pos, Int.add_sub_cancel, e13, e70, e71, hz, t1, t2, tq, e1, e2])) <;> omega
           · intro p z0 z1; rw [ms_q z1, ms_q z0]; exact fr p z0 z1
           · intro j j0 j1
             (try simp (disch := omega) only [w32_e] at j1)
             have q1 := fi j j0
             ((try simp (disch := decide) only [cmp3_lt, cmp3_ge, cmp3_gt, cmp3_le, cmp3_eq, ms_q, ms_f, mf_q, mf_f, mc_q, mc_f, and_self, and_true, true_and, and_false, false_and, or_true, true_or, or_false, false_or, if_true, if_false, not_true_eq_false, not_false_eq_true, eq_self, reduceIte, Int.reduceEq, Int.reduceLT, Int.reduceLE, Int.reduceNeg, Int.reduceAdd, Int.reduceSub, Int.reduceMul, Int.add_sub_cancel]); (try simp (disch := omega) only [w32_e, w64_e, td_pos, tm_pos, Int.add_sub_cancel, e13, e70, e71, hz, t1, t2, tq, e1, e2]))
             by_cases e : j = i
             · simp only [e, and_self, and_true, true_and, and_false, false_and, or_true, true_or, or_false, false_or, if_true, if_false, not_true_eq_false, not_false_eq_true, eq_self, reduceIte, Int.reduceEq, Int.reduceLT, Int.reduceLE, Int.reduceNeg, Int.reduceAdd, Int.reduceSub, Int.reduceMul, Int.add_sub_cancel]
             · simp only [e, and_self, and_true, true_and, and_false, false_and, or_true, true_or, or_false, false_or, if_true, if_false, not_true_eq_false, not_false_eq_true, eq_self, reduceIte, Int.reduceEq, Int.reduceLT, Int.reduceLE, Int.reduceNeg, Int.reduceAdd, Int.reduceSub, Int.reduceMul, Int.add_sub_cancel]
               exact q1 (by omega))
        | (have z1 : 12 ≤ i := by omega
           refine ⟨_, ?_, _, rfl, rfl, ?_, ?_, ?_⟩
           · ((try simp (disch := decide) only [cmp3_lt, cmp3_ge, cmp3_gt, cmp3_le, cmp3_eq, ms_q, ms_f, mf_q, mf_f, mc_q, mc_f, and_self, and_true, true_and, and_false, false_and, or_true, true_or, or_false, false_or, if_true, if_false, not_true_eq_false, not_false_eq_true, eq_self, reduceIte, Int.reduceEq, Int.reduceLT, Int.reduceLE, Int.reduceNeg, Int.reduceAdd, Int.reduceSub, Int.reduceMul, Int.add_sub_cancel]); (try simp (disch := omega) only [w32_e, w64_e, td_pos, tm_pos, Int.add_sub_cancel, e13, e70, e71, hz, t1, t2, tq, e1, e2])) <;> omega
           · ((try simp (disch := decide) only [cmp3_lt, cmp3_ge, cmp3_gt, cmp3_le, cmp3_eq, ms_q, ms_f, mf_q, mf_f, mc_q, mc_f, and_self, and_true, true_and, and_false, false_and, or_true, true_or, or_false, false_or, if_true, if_false, not_true_eq_false, not_false_eq_true, eq_self, reduceIte, Int.reduceEq, Int.reduceLT, Int.reduceLE, Int.reduceNeg, Int.reduceAdd, Int.reduceSub, Int.reduceMul, Int.add_sub_cancel]); (try simp (disch := omega) only [w32_e, w64_e, td_pos, tm_pos, Int.add_sub_cancel, e13, e70, e71, hz, t1, t2, tq, e1, e2])) <;> omega
           · intro p z0 z1; rw [ms_q z0]; exact fr p z0 z1
           · intro p p0 p1
             have q1 := fi p p0 (by omega)
             ((try simp (disch := decide) only [cmp3_lt, cmp3_ge, cmp3_gt, cmp3_le, cmp3_eq, ms_q, ms_f, mf_q, mf_f, mc_q, mc_f, and_self, and_true, true_and, and_false, false_and, or_true, true_or, or_false, false_or, if_true, if_false, not_true_eq_false, not_false_eq_true, eq_self, reduceIte, Int.reduceEq, Int.reduceLT, Int.reduceLE, Int.reduceNeg, Int.reduceAdd, Int.reduceSub, Int.reduceMul, Int.add_sub_cancel]); (try simp (disch := omega) only [w32_e, w64_e, td_pos, tm_pos, Int.add_sub_cancel, e13, e70, e71, hz, t1, t2, tq, e1, e2]))
             show _ = (if p = b then q else 96) ∧ _ ∧ M9 82 0 p = 0
             rw [q1.1]
             by_cases e : p = b
             · simp only [if_pos e]
               exact ⟨by omega, by omega, q1.2⟩
             · simp only [if_neg e]
               exact ⟨by omega, by omega, q1.2⟩)
    · rintro n9 vs M9 ⟨n, rfl, rfl, i0, fr, rb⟩
      have e13 : M9 13 = M 13 := fr 13 (by decide) (by decide)
      have e70 : M9 70 = M 70 := fr 70 (by decide) (by decide)
      have e71 : M9 71 = M 71 := fr 71 (by decide) (by decide)
      have e1 : M9 1 = M 1 := fr 1 (by decide) (by decide)
      have hm : ∀ p, p ≠ 28 → p ≠ 29 → p ≠ 81 → p ≠ 82 → M9 p = M p := fun p _ _ a b => fr p a b
      have tq := tk_mem hm
      show wpH _ 400 _ 187 _ true 45 [vR 13 0, vI b, vI g, vI s, vI q, vI n, vU, vU, vU] [] _ Q
      conv => whnf
      repeat' first
        | (refine And.intro (fun h => ?_) (fun h => ?_) <;> (try simp (disch := decide) only [cmp3_lt, cmp3_ge, cmp3_gt, cmp3_le, cmp3_eq, ms_q, ms_f, mf_q, mf_f, mc_q, mc_f, and_self, and_true, true_and, and_false, false_and, or_true, true_or, or_false, false_or, if_true, if_false, not_true_eq_false, not_false_eq_true, eq_self, reduceIte, Int.reduceEq, Int.reduceLT, Int.reduceLE, Int.reduceNeg, Int.reduceAdd, Int.reduceSub, Int.reduceMul, Int.add_sub_cancel] at h) <;> (try simp (disch := omega) only [w32_e, w64_e, td_pos, tm_pos, Int.add_sub_cancel, e13, e70, e71, hz, t1, t2, tq, e1, e2, s1, l2] at h) <;> first | exact absurd rfl h | exact absurd h (by decide) | (exfalso; omega) | (conv => whnf))
        | (refine And.intro (by first | omega | ((try simp (disch := decide) only [cmp3_lt, cmp3_ge, cmp3_gt, cmp3_le, cmp3_eq, ms_q, ms_f, mf_q, mf_f, mc_q, mc_f, and_self, and_true, true_and, and_false, false_and, or_true, true_or, or_false, false_or, if_true, if_false, not_true_eq_false, not_false_eq_true, eq_self, reduceIte, Int.reduceEq, Int.reduceLT, Int.reduceLE, Int.reduceNeg, Int.reduceAdd, Int.reduceSub, Int.reduceMul, Int.add_sub_cancel]); (try simp (disch := omega) only [w32_e, w64_e, td_pos, tm_pos, Int.add_sub_cancel, e13, e70, e71, hz, t1, t2, tq, e1, e2, s1, l2]); first | assumption | omega) | ((try simp (disch := decide) only [cmp3_lt, cmp3_ge, cmp3_gt, cmp3_le, cmp3_eq, ms_q, ms_f, mf_q, mf_f, mc_q, mc_f, and_self, and_true, true_and, and_false, false_and, or_true, true_or, or_false, false_or, if_true, if_false, not_true_eq_false, not_false_eq_true, eq_self, reduceIte, Int.reduceEq, Int.reduceLT, Int.reduceLE, Int.reduceNeg, Int.reduceAdd, Int.reduceSub, Int.reduceMul, Int.add_sub_cancel]); (try simp (disch := omega) only [w32_e, w64_e, td_pos, tm_pos, Int.add_sub_cancel, e13, e70, e71, hz, t1, t2, tq, e1, e2, s1, l2]); (repeat' (first | assumption | omega | with_reducible rfl | apply And.intro)))) ?_; conv => whnf)
        | (intro v; intro hv; conv => whnf)
      all_goals first
        | (have e9 : n = M 1 0 0 := by omega
           subst e9
           have rg := rb g h2.1 h2.2
           refine Eq.mp (congrArg (fun z => Q (some (vI z)) M9) ?_) (hQ M9 fr)
           unfold wy
           rw [← rg.1]
           split <;> omega)
        | (refine ⟨_, ?_, _, _, _, rfl, rfl, ?_, ?_, ?_, ?_, ?_⟩
           · ((try simp (disch := decide) only [cmp3_lt, cmp3_ge, cmp3_gt, cmp3_le, cmp3_eq, ms_q, ms_f, mf_q, mf_f, mc_q, mc_f, and_self, and_true, true_and, and_false, false_and, or_true, true_or, or_false, false_or, if_true, if_false, not_true_eq_false, not_false_eq_true, eq_self, reduceIte, Int.reduceEq, Int.reduceLT, Int.reduceLE, Int.reduceNeg, Int.reduceAdd, Int.reduceSub, Int.reduceMul, Int.add_sub_cancel]); (try simp (disch := omega) only [w32_e, w64_e, td_pos, tm_pos, Int.add_sub_cancel, e13, e70, e71, hz, t1, t2, tq, e1, e2])) <;> omega
           · ((try simp (disch := decide) only [cmp3_lt, cmp3_ge, cmp3_gt, cmp3_le, cmp3_eq, ms_q, ms_f, mf_q, mf_f, mc_q, mc_f, and_self, and_true, true_and, and_false, false_and, or_true, true_or, or_false, false_or, if_true, if_false, not_true_eq_false, not_false_eq_true, eq_self, reduceIte, Int.reduceEq, Int.reduceLT, Int.reduceLE, Int.reduceNeg, Int.reduceAdd, Int.reduceSub, Int.reduceMul, Int.add_sub_cancel]); (try simp (disch := omega) only [w32_e, w64_e, td_pos, tm_pos, Int.add_sub_cancel, e13, e70, e71, hz, t1, t2, tq, e1, e2])) <;> omega
           · ((try simp (disch := decide) only [cmp3_lt, cmp3_ge, cmp3_gt, cmp3_le, cmp3_eq, ms_q, ms_f, mf_q, mf_f, mc_q, mc_f, and_self, and_true, true_and, and_false, false_and, or_true, true_or, or_false, false_or, if_true, if_false, not_true_eq_false, not_false_eq_true, eq_self, reduceIte, Int.reduceEq, Int.reduceLT, Int.reduceLE, Int.reduceNeg, Int.reduceAdd, Int.reduceSub, Int.reduceMul, Int.add_sub_cancel]); (try simp (disch := omega) only [w32_e, w64_e, td_pos, tm_pos, Int.add_sub_cancel, e13, e70, e71, hz, t1, t2, tq, e1, e2])) <;> omega
           · exact fr
           · exact rb
           · rfl)
    · rintro n9 vs M9 ⟨n, v, i, rfl, rfl, i0, i1, fr, rb, hw⟩
      have e13 : M9 13 = M 13 := fr 13 (by decide) (by decide)
      have e70 : M9 70 = M 70 := fr 70 (by decide) (by decide)
      have e71 : M9 71 = M 71 := fr 71 (by decide) (by decide)
      have e1 : M9 1 = M 1 := fr 1 (by decide) (by decide)
      have hm : ∀ p, p ≠ 28 → p ≠ 29 → p ≠ 81 → p ≠ 82 → M9 p = M p := fun p _ _ a b => fr p a b
      have tq := tk_mem hm
      have sp := nrA_spI (R := (wyA M b s q n).1) (L := (wyA M b s q n).2) i1.1
      have spv : (v = -4 ∧ (nrA (wyA M b s q n).1 (wyA M b s q n).2 (i)).2 = 96) ∨ ((0 ≤ v ∧ v < i) ∧ M9 81 0 v = (nrA (wyA M b s q n).1 (wyA M b s q n).2 (i)).2 ∧ (nrA (wyA M b s q n).1 (wyA M b s q n).2 (i)).2 < 96 ∧ M9 82 0 v = 0) := by
        rw [hw]
        rcases sp with ⟨⟨a, c⟩, -⟩ | ⟨⟨a, c, d, e, f⟩, -⟩
        · exact Or.inl ⟨a, c⟩
        · have r := rb _ a (by omega)
          refine Or.inr ⟨⟨a, c⟩, by omega, f, by omega⟩
      have rp : i < M 1 0 0 → _ := fun z => rb i i1.1 z
      have nx := nrA_s (R := (wyA M b s q n).1) (L := (wyA M b s q n).2) i1.1
      show wpH _ 400 _ 187 _ true 61 [vR 13 0, vI b, vI g, vI s, vI q, vI n, vI v, vI i, vU] [] _ Q
      conv => whnf
      repeat' first
        | (refine And.intro (fun h => ?_) (fun h => ?_) <;> (try simp (disch := decide) only [cmp3_lt, cmp3_ge, cmp3_gt, cmp3_le, cmp3_eq, ms_q, ms_f, mf_q, mf_f, mc_q, mc_f, and_self, and_true, true_and, and_false, false_and, or_true, true_or, or_false, false_or, if_true, if_false, not_true_eq_false, not_false_eq_true, eq_self, reduceIte, Int.reduceEq, Int.reduceLT, Int.reduceLE, Int.reduceNeg, Int.reduceAdd, Int.reduceSub, Int.reduceMul, Int.add_sub_cancel] at h) <;> (try simp (disch := omega) only [w32_e, w64_e, td_pos, tm_pos, Int.add_sub_cancel, e13, e70, e71, hz, t1, t2, tq, e1, e2, s1, l2] at h) <;> first | exact absurd rfl h | exact absurd h (by decide) | (exfalso; omega) | (conv => whnf))
        | (refine And.intro (by first | omega | ((try simp (disch := decide) only [cmp3_lt, cmp3_ge, cmp3_gt, cmp3_le, cmp3_eq, ms_q, ms_f, mf_q, mf_f, mc_q, mc_f, and_self, and_true, true_and, and_false, false_and, or_true, true_or, or_false, false_or, if_true, if_false, not_true_eq_false, not_false_eq_true, eq_self, reduceIte, Int.reduceEq, Int.reduceLT, Int.reduceLE, Int.reduceNeg, Int.reduceAdd, Int.reduceSub, Int.reduceMul, Int.add_sub_cancel]); (try simp (disch := omega) only [w32_e, w64_e, td_pos, tm_pos, Int.add_sub_cancel, e13, e70, e71, hz, t1, t2, tq, e1, e2, s1, l2]); first | assumption | omega) | ((try simp (disch := decide) only [cmp3_lt, cmp3_ge, cmp3_gt, cmp3_le, cmp3_eq, ms_q, ms_f, mf_q, mf_f, mc_q, mc_f, and_self, and_true, true_and, and_false, false_and, or_true, true_or, or_false, false_or, if_true, if_false, not_true_eq_false, not_false_eq_true, eq_self, reduceIte, Int.reduceEq, Int.reduceLT, Int.reduceLE, Int.reduceNeg, Int.reduceAdd, Int.reduceSub, Int.reduceMul, Int.add_sub_cancel]); (try simp (disch := omega) only [w32_e, w64_e, td_pos, tm_pos, Int.add_sub_cancel, e13, e70, e71, hz, t1, t2, tq, e1, e2, s1, l2]); (repeat' (first | assumption | omega | with_reducible rfl | apply And.intro)))) ?_; conv => whnf)
        | (intro v; intro hv; conv => whnf)
      all_goals first
        | (have z1 : i < M 1 0 0 := by omega
           refine ⟨_, ?_, _, _, _, rfl, rfl, ?_, ?_, ?_, ?_, ?_⟩
           · ((try simp (disch := decide) only [cmp3_lt, cmp3_ge, cmp3_gt, cmp3_le, cmp3_eq, ms_q, ms_f, mf_q, mf_f, mc_q, mc_f, and_self, and_true, true_and, and_false, false_and, or_true, true_or, or_false, false_or, if_true, if_false, not_true_eq_false, not_false_eq_true, eq_self, reduceIte, Int.reduceEq, Int.reduceLT, Int.reduceLE, Int.reduceNeg, Int.reduceAdd, Int.reduceSub, Int.reduceMul, Int.add_sub_cancel]); (try simp (disch := omega) only [w32_e, w64_e, td_pos, tm_pos, Int.add_sub_cancel, e13, e70, e71, hz, t1, t2, tq, e1, e2])) <;> omega
           · ((try simp (disch := decide) only [cmp3_lt, cmp3_ge, cmp3_gt, cmp3_le, cmp3_eq, ms_q, ms_f, mf_q, mf_f, mc_q, mc_f, and_self, and_true, true_and, and_false, false_and, or_true, true_or, or_false, false_or, if_true, if_false, not_true_eq_false, not_false_eq_true, eq_self, reduceIte, Int.reduceEq, Int.reduceLT, Int.reduceLE, Int.reduceNeg, Int.reduceAdd, Int.reduceSub, Int.reduceMul, Int.add_sub_cancel]); (try simp (disch := omega) only [w32_e, w64_e, td_pos, tm_pos, Int.add_sub_cancel, e13, e70, e71, hz, t1, t2, tq, e1, e2])) <;> omega
           · ((try simp (disch := decide) only [cmp3_lt, cmp3_ge, cmp3_gt, cmp3_le, cmp3_eq, ms_q, ms_f, mf_q, mf_f, mc_q, mc_f, and_self, and_true, true_and, and_false, false_and, or_true, true_or, or_false, false_or, if_true, if_false, not_true_eq_false, not_false_eq_true, eq_self, reduceIte, Int.reduceEq, Int.reduceLT, Int.reduceLE, Int.reduceNeg, Int.reduceAdd, Int.reduceSub, Int.reduceMul, Int.add_sub_cancel]); (try simp (disch := omega) only [w32_e, w64_e, td_pos, tm_pos, Int.add_sub_cancel, e13, e70, e71, hz, t1, t2, tq, e1, e2])) <;> omega
           · exact fr
           · exact rb
           · ((try simp (disch := decide) only [cmp3_lt, cmp3_ge, cmp3_gt, cmp3_le, cmp3_eq, ms_q, ms_f, mf_q, mf_f, mc_q, mc_f, and_self, and_true, true_and, and_false, false_and, or_true, true_or, or_false, false_or, if_true, if_false, not_true_eq_false, not_false_eq_true, eq_self, reduceIte, Int.reduceEq, Int.reduceLT, Int.reduceLE, Int.reduceNeg, Int.reduceAdd, Int.reduceSub, Int.reduceMul, Int.add_sub_cancel]); (try simp (disch := omega) only [w32_e, w64_e, td_pos, tm_pos, Int.add_sub_cancel, e13, e70, e71, hz, t1, t2, tq, e1, e2]))
             rw [nx]
             unfold nrS
             have r1 := rp z1
             by_cases hc : (wyA M b s q n).2 i = 0 ∧ (wyA M b s q n).1 i < (nrA (wyA M b s q n).1 (wyA M b s q n).2 (i)).2
             · first
                 | (rw [if_pos hc]; done)
                 | (rw [if_pos hc]; show _ = i; omega)
             · rw [if_neg hc]
               first | exact hw | (exfalso; omega))
        | (have e9 : i = M 1 0 0 := by omega
           subst e9
           have z1 : v = -4 := by omega
           have hn1 : (nrA (wyA M b s q n).1 (wyA M b s q n).2 (M 1 0 0)).1 = -4 := by omega
           refine ⟨_, ?_, _, rfl, rfl, ?_, ?_, ?_⟩
           · ((try simp (disch := decide) only [cmp3_lt, cmp3_ge, cmp3_gt, cmp3_le, cmp3_eq, ms_q, ms_f, mf_q, mf_f, mc_q, mc_f, and_self, and_true, true_and, and_false, false_and, or_true, true_or, or_false, false_or, if_true, if_false, not_true_eq_false, not_false_eq_true, eq_self, reduceIte, Int.reduceEq, Int.reduceLT, Int.reduceLE, Int.reduceNeg, Int.reduceAdd, Int.reduceSub, Int.reduceMul, Int.add_sub_cancel]); (try simp (disch := omega) only [w32_e, w64_e, td_pos, tm_pos, Int.add_sub_cancel, e13, e70, e71, hz, t1, t2, tq, e1, e2])) <;> omega
           · ((try simp (disch := decide) only [cmp3_lt, cmp3_ge, cmp3_gt, cmp3_le, cmp3_eq, ms_q, ms_f, mf_q, mf_f, mc_q, mc_f, and_self, and_true, true_and, and_false, false_and, or_true, true_or, or_false, false_or, if_true, if_false, not_true_eq_false, not_false_eq_true, eq_self, reduceIte, Int.reduceEq, Int.reduceLT, Int.reduceLE, Int.reduceNeg, Int.reduceAdd, Int.reduceSub, Int.reduceMul, Int.add_sub_cancel]); (try simp (disch := omega) only [w32_e, w64_e, td_pos, tm_pos, Int.add_sub_cancel, e13, e70, e71, hz, t1, t2, tq, e1, e2])) <;> omega
           · exact fr
           · intro p p0 p1
             ((try simp (disch := decide) only [cmp3_lt, cmp3_ge, cmp3_gt, cmp3_le, cmp3_eq, ms_q, ms_f, mf_q, mf_f, mc_q, mc_f, and_self, and_true, true_and, and_false, false_and, or_true, true_or, or_false, false_or, if_true, if_false, not_true_eq_false, not_false_eq_true, eq_self, reduceIte, Int.reduceEq, Int.reduceLT, Int.reduceLE, Int.reduceNeg, Int.reduceAdd, Int.reduceSub, Int.reduceMul, Int.add_sub_cancel]); (try simp (disch := omega) only [w32_e, w64_e, td_pos, tm_pos, Int.add_sub_cancel, e13, e70, e71, hz, t1, t2, tq, e1, e2]))
             rw [wyA_s (by omega), wyS_a hn1]
             exact rb p p0 p1)
        | (have e9 : i = M 1 0 0 := by omega
           subst e9
           have z1 : ¬ v = -4 := by omega
           refine ⟨_, ?_, _, _, _, rfl, rfl, ?_, ?_, ?_, ?_, ?_⟩
           · ((try simp (disch := decide) only [cmp3_lt, cmp3_ge, cmp3_gt, cmp3_le, cmp3_eq, ms_q, ms_f, mf_q, mf_f, mc_q, mc_f, and_self, and_true, true_and, and_false, false_and, or_true, true_or, or_false, false_or, if_true, if_false, not_true_eq_false, not_false_eq_true, eq_self, reduceIte, Int.reduceEq, Int.reduceLT, Int.reduceLE, Int.reduceNeg, Int.reduceAdd, Int.reduceSub, Int.reduceMul, Int.add_sub_cancel]); (try simp (disch := omega) only [w32_e, w64_e, td_pos, tm_pos, Int.add_sub_cancel, e13, e70, e71, hz, t1, t2, tq, e1, e2])) <;> omega
           · ((try simp (disch := decide) only [cmp3_lt, cmp3_ge, cmp3_gt, cmp3_le, cmp3_eq, ms_q, ms_f, mf_q, mf_f, mc_q, mc_f, and_self, and_true, true_and, and_false, false_and, or_true, true_or, or_false, false_or, if_true, if_false, not_true_eq_false, not_false_eq_true, eq_self, reduceIte, Int.reduceEq, Int.reduceLT, Int.reduceLE, Int.reduceNeg, Int.reduceAdd, Int.reduceSub, Int.reduceMul, Int.add_sub_cancel]); (try simp (disch := omega) only [w32_e, w64_e, td_pos, tm_pos, Int.add_sub_cancel, e13, e70, e71, hz, t1, t2, tq, e1, e2])) <;> omega
           · ((try simp (disch := decide) only [cmp3_lt, cmp3_ge, cmp3_gt, cmp3_le, cmp3_eq, ms_q, ms_f, mf_q, mf_f, mc_q, mc_f, and_self, and_true, true_and, and_false, false_and, or_true, true_or, or_false, false_or, if_true, if_false, not_true_eq_false, not_false_eq_true, eq_self, reduceIte, Int.reduceEq, Int.reduceLT, Int.reduceLE, Int.reduceNeg, Int.reduceAdd, Int.reduceSub, Int.reduceMul, Int.add_sub_cancel]); (try simp (disch := omega) only [w32_e, w64_e, td_pos, tm_pos, Int.add_sub_cancel, e13, e70, e71, hz, t1, t2, tq, e1, e2])) <;> omega
           · intro p z0 z1; rw [ms_q z1]; exact fr p z0 z1
           · exact ⟨hw, by omega⟩
           · intro p p0 p1
             have r1 := rb p p0 p1
             ((try simp (disch := decide) only [cmp3_lt, cmp3_ge, cmp3_gt, cmp3_le, cmp3_eq, ms_q, ms_f, mf_q, mf_f, mc_q, mc_f, and_self, and_true, true_and, and_false, false_and, or_true, true_or, or_false, false_or, if_true, if_false, not_true_eq_false, not_false_eq_true, eq_self, reduceIte, Int.reduceEq, Int.reduceLT, Int.reduceLE, Int.reduceNeg, Int.reduceAdd, Int.reduceSub, Int.reduceMul, Int.add_sub_cancel]); (try simp (disch := omega) only [w32_e, w64_e, td_pos, tm_pos, Int.add_sub_cancel, e13, e70, e71, hz, t1, t2, tq, e1, e2]))
             show _ = (wyA M b s q n).1 p ∧ _ ∧ _ = (if p = v then 1 else (wyA M b s q n).2 p)
             refine ⟨r1.1, r1.2.1, ?_⟩
             by_cases e : p = v
             · simp only [if_pos e, e, and_self, and_true, true_and, and_false, false_and, or_true, true_or, or_false, false_or, if_true, if_false, not_true_eq_false, not_false_eq_true, eq_self, reduceIte, Int.reduceEq, Int.reduceLT, Int.reduceLE, Int.reduceNeg, Int.reduceAdd, Int.reduceSub, Int.reduceMul, Int.add_sub_cancel]
             · simp only [if_neg e]
               exact r1.2.2)
    · rintro n9 vs M9 ⟨n, w, i, rfl, rfl, i0, i1, fr, hw, rb⟩
      have e13 : M9 13 = M 13 := fr 13 (by decide) (by decide)
      have e70 : M9 70 = M 70 := fr 70 (by decide) (by decide)
      have e71 : M9 71 = M 71 := fr 71 (by decide) (by decide)
      have e1 : M9 1 = M 1 := fr 1 (by decide) (by decide)
      have hm : ∀ p, p ≠ 28 → p ≠ 29 → p ≠ 81 → p ≠ 82 → M9 p = M p := fun p _ _ a b => fr p a b
      have tq := tk_mem hm
      have e2 := e1
      have hS9 : IStp M9 := by simp (disch := decide) only [IStp, fr]; exact hS
      have hK9 : ISky M9 := by simp (disch := decide) only [ISky, fr]; exact hK
      obtain ⟨hw, hw4⟩ := hw
      have hin := wyA_inI (b := b) hN.1 hS h3.1 h3.2 h4 i0.1
      have sp := nrA_spI (R := (wyA M b s q n).1) (L := (wyA M b s q n).2) hN.1
      have wf : (0 ≤ w ∧ w < M 1 0 0) ∧ 0 ≤ (wyA M b s q n).1 w ∧ (wyA M b s q n).1 w ≤ 95 := by
        rcases sp with ⟨⟨a, c⟩, -⟩ | ⟨⟨a, c, d, e, f⟩, -⟩
        · exact absurd (hw.trans a) hw4
        · rw [← hw] at a c d e
          have := hin w
          exact ⟨⟨a, c⟩, this.1, by omega⟩
      have l0 := lvA_spI (b := w) (R := (wyA M b s q n).1) hS h3.1 h3.2 wf.2.1 i1.1 i1.2
      have l1 := rb w wf.1.1 wf.1.2
      have l2 : M9 81 0 w = (wyA M b s q n).1 w := by omega
      have l3 : i < M 1 0 2 → _ := fun z => s4 i i1.1 z
      have l4 : i < M 1 0 2 → _ := fun z => rb (M 16 0 i) (l3 z).2.1.1 (l3 z).2.1.2
      have l5 : i < M 1 0 2 → _ := fun z => tk_in (q := (wyA M b s q n).1 w) hS i1.1 z h3.1 h3.2
      have l6 := lvA_s (M := M) (s := s) (b := w) (R := (wyA M b s q n).1) i1.1
      show wpH _ 400 _ 187 _ true 149 [vR 13 0, vI b, vI g, vI s, vI q, vI n, vI w, vI i, vU] [] _ Q
      conv => whnf
      repeat' first
        | (refine And.intro (fun h => ?_) (fun h => ?_) <;> (try simp (disch := decide) only [cmp3_lt, cmp3_ge, cmp3_gt, cmp3_le, cmp3_eq, ms_q, ms_f, mf_q, mf_f, mc_q, mc_f, and_self, and_true, true_and, and_false, false_and, or_true, true_or, or_false, false_or, if_true, if_false, not_true_eq_false, not_false_eq_true, eq_self, reduceIte, Int.reduceEq, Int.reduceLT, Int.reduceLE, Int.reduceNeg, Int.reduceAdd, Int.reduceSub, Int.reduceMul, Int.add_sub_cancel] at h) <;> (try simp (disch := omega) only [w32_e, w64_e, td_pos, tm_pos, Int.add_sub_cancel, e13, e70, e71, hz, t1, t2, tq, e1, e2, s1, l2] at h) <;> first | exact absurd rfl h | exact absurd h (by decide) | (exfalso; omega) | (conv => whnf))
        | (refine And.intro (by first | omega | ((try simp (disch := decide) only [cmp3_lt, cmp3_ge, cmp3_gt, cmp3_le, cmp3_eq, ms_q, ms_f, mf_q, mf_f, mc_q, mc_f, and_self, and_true, true_and, and_false, false_and, or_true, true_or, or_false, false_or, if_true, if_false, not_true_eq_false, not_false_eq_true, eq_self, reduceIte, Int.reduceEq, Int.reduceLT, Int.reduceLE, Int.reduceNeg, Int.reduceAdd, Int.reduceSub, Int.reduceMul, Int.add_sub_cancel]); (try simp (disch := omega) only [w32_e, w64_e, td_pos, tm_pos, Int.add_sub_cancel, e13, e70, e71, hz, t1, t2, tq, e1, e2, s1, l2]); first | assumption | omega) | ((try simp (disch := decide) only [cmp3_lt, cmp3_ge, cmp3_gt, cmp3_le, cmp3_eq, ms_q, ms_f, mf_q, mf_f, mc_q, mc_f, and_self, and_true, true_and, and_false, false_and, or_true, true_or, or_false, false_or, if_true, if_false, not_true_eq_false, not_false_eq_true, eq_self, reduceIte, Int.reduceEq, Int.reduceLT, Int.reduceLE, Int.reduceNeg, Int.reduceAdd, Int.reduceSub, Int.reduceMul, Int.add_sub_cancel]); (try simp (disch := omega) only [w32_e, w64_e, td_pos, tm_pos, Int.add_sub_cancel, e13, e70, e71, hz, t1, t2, tq, e1, e2, s1, l2]); (repeat' (first | assumption | omega | with_reducible rfl | apply And.intro)))) ?_; conv => whnf)
        | (intro v; intro hv; conv => whnf)
      all_goals first
        | (have z1 : i < M 1 0 2 := by omega
           refine ⟨_, ?_, _, _, _, rfl, rfl, ?_, ?_, ?_, ?_, ?_⟩
           · ((try simp (disch := decide) only [cmp3_lt, cmp3_ge, cmp3_gt, cmp3_le, cmp3_eq, ms_q, ms_f, mf_q, mf_f, mc_q, mc_f, and_self, and_true, true_and, and_false, false_and, or_true, true_or, or_false, false_or, if_true, if_false, not_true_eq_false, not_false_eq_true, eq_self, reduceIte, Int.reduceEq, Int.reduceLT, Int.reduceLE, Int.reduceNeg, Int.reduceAdd, Int.reduceSub, Int.reduceMul, Int.add_sub_cancel]); (try simp (disch := omega) only [w32_e, w64_e, td_pos, tm_pos, Int.add_sub_cancel, e13, e70, e71, hz, t1, t2, tq, e1, e2, s1, l2])) <;> omega
           · ((try simp (disch := decide) only [cmp3_lt, cmp3_ge, cmp3_gt, cmp3_le, cmp3_eq, ms_q, ms_f, mf_q, mf_f, mc_q, mc_f, and_self, and_true, true_and, and_false, false_and, or_true, true_or, or_false, false_or, if_true, if_false, not_true_eq_false, not_false_eq_true, eq_self, reduceIte, Int.reduceEq, Int.reduceLT, Int.reduceLE, Int.reduceNeg, Int.reduceAdd, Int.reduceSub, Int.reduceMul, Int.add_sub_cancel]); (try simp (disch := omega) only [w32_e, w64_e, td_pos, tm_pos, Int.add_sub_cancel, e13, e70, e71, hz, t1, t2, tq, e1, e2, s1, l2])) <;> omega
           · ((try simp (disch := decide) only [cmp3_lt, cmp3_ge, cmp3_gt, cmp3_le, cmp3_eq, ms_q, ms_f, mf_q, mf_f, mc_q, mc_f, and_self, and_true, true_and, and_false, false_and, or_true, true_or, or_false, false_or, if_true, if_false, not_true_eq_false, not_false_eq_true, eq_self, reduceIte, Int.reduceEq, Int.reduceLT, Int.reduceLE, Int.reduceNeg, Int.reduceAdd, Int.reduceSub, Int.reduceMul, Int.add_sub_cancel]); (try simp (disch := omega) only [w32_e, w64_e, td_pos, tm_pos, Int.add_sub_cancel, e13, e70, e71, hz, t1, t2, tq, e1, e2, s1, l2])) <;> omega
           · first | exact fr | (intro p z0 z1; rw [ms_q z0]; exact fr p z0 z1)
           · exact ⟨hw, hw4⟩
           · intro p p0 p1
             have r1 := rb p p0 p1
             have r4 := l4 z1
             have r5 := l5 z1
             ((try simp (disch := decide) only [cmp3_lt, cmp3_ge, cmp3_gt, cmp3_le, cmp3_eq, ms_q, ms_f, mf_q, mf_f, mc_q, mc_f, and_self, and_true, true_and, and_false, false_and, or_true, true_or, or_false, false_or, if_true, if_false, not_true_eq_false, not_false_eq_true, eq_self, reduceIte, Int.reduceEq, Int.reduceLT, Int.reduceLE, Int.reduceNeg, Int.reduceAdd, Int.reduceSub, Int.reduceMul, Int.add_sub_cancel]); (try simp (disch := omega) only [w32_e, w64_e, td_pos, tm_pos, Int.add_sub_cancel, e13, e70, e71, hz, t1, t2, tq, e1, e2, s1, l2]))
             rw [l6]
             unfold lvS
             rw [l0.1]
             by_cases hc : M 15 0 i = w ∧ ¬ tk M i s ((wyA M b s q n).1 w) = -5
             · rw [if_pos hc]
               unfold updI
               by_cases e : p = M 16 0 i
               · simp only [if_pos e, e, and_self, and_true, true_and, and_false, false_and, or_true, true_or, or_false, false_or, if_true, if_false, not_true_eq_false, not_false_eq_true, eq_self, reduceIte, Int.reduceEq, Int.reduceLT, Int.reduceLE, Int.reduceNeg, Int.reduceAdd, Int.reduceSub, Int.reduceMul, Int.add_sub_cancel] at r1 ⊢
                 refine ⟨by omega, by omega, r1.2.2⟩
               · simp only [if_neg e]
                 exact r1
             · rw [if_neg hc]
               first
                 | exact r1
                 | (exfalso; omega))
        | (have e9 : i = M 1 0 2 := by omega
           subst e9
           refine ⟨_, ?_, _, rfl, rfl, ?_, ?_, ?_⟩
           · ((try simp (disch := decide) only [cmp3_lt, cmp3_ge, cmp3_gt, cmp3_le, cmp3_eq, ms_q, ms_f, mf_q, mf_f, mc_q, mc_f, and_self, and_true, true_and, and_false, false_and, or_true, true_or, or_false, false_or, if_true, if_false, not_true_eq_false, not_false_eq_true, eq_self, reduceIte, Int.reduceEq, Int.reduceLT, Int.reduceLE, Int.reduceNeg, Int.reduceAdd, Int.reduceSub, Int.reduceMul, Int.add_sub_cancel]); (try simp (disch := omega) only [w32_e, w64_e, td_pos, tm_pos, Int.add_sub_cancel, e13, e70, e71, hz, t1, t2, tq, e1, e2, s1, l2])) <;> omega
           · ((try simp (disch := decide) only [cmp3_lt, cmp3_ge, cmp3_gt, cmp3_le, cmp3_eq, ms_q, ms_f, mf_q, mf_f, mc_q, mc_f, and_self, and_true, true_and, and_false, false_and, or_true, true_or, or_false, false_or, if_true, if_false, not_true_eq_false, not_false_eq_true, eq_self, reduceIte, Int.reduceEq, Int.reduceLT, Int.reduceLE, Int.reduceNeg, Int.reduceAdd, Int.reduceSub, Int.reduceMul, Int.add_sub_cancel]); (try simp (disch := omega) only [w32_e, w64_e, td_pos, tm_pos, Int.add_sub_cancel, e13, e70, e71, hz, t1, t2, tq, e1, e2, s1, l2])) <;> omega
           · exact fr
           · intro p p0 p1
             have r1 := rb p p0 p1
             ((try simp (disch := decide) only [cmp3_lt, cmp3_ge, cmp3_gt, cmp3_le, cmp3_eq, ms_q, ms_f, mf_q, mf_f, mc_q, mc_f, and_self, and_true, true_and, and_false, false_and, or_true, true_or, or_false, false_or, if_true, if_false, not_true_eq_false, not_false_eq_true, eq_self, reduceIte, Int.reduceEq, Int.reduceLT, Int.reduceLE, Int.reduceNeg, Int.reduceAdd, Int.reduceSub, Int.reduceMul, Int.add_sub_cancel]); (try simp (disch := omega) only [w32_e, w64_e, td_pos, tm_pos, Int.add_sub_cancel, e13, e70, e71, hz, t1, t2, tq, e1, e2, s1, l2]))
             rw [wyA_s (by omega), wyS_b (by omega)]
             rw [hw] at r1
             exact r1)
  refine Vd_run (GGj_ok (l := l) (ω := ω)) 400 (hC := key 400000) (by decide) ?_
  conv => whnf
  repeat' first
    | (refine And.intro (fun h => ?_) (fun h => ?_) <;> (try simp (disch := decide) only [cmp3_lt, cmp3_ge, cmp3_gt, cmp3_le, cmp3_eq, ms_q, ms_f, mf_q, mf_f, mc_q, mc_f, and_self, and_true, true_and, and_false, false_and, or_true, true_or, or_false, false_or, if_true, if_false, not_true_eq_false, not_false_eq_true, eq_self, reduceIte, Int.reduceEq, Int.reduceLT, Int.reduceLE, Int.reduceNeg, Int.reduceAdd, Int.reduceSub, Int.reduceMul, Int.add_sub_cancel] at h) <;> (try simp (disch := omega) only [w32_e, w64_e, td_pos, tm_pos, Int.add_sub_cancel, e13, e70, e71, hz, t1, t2, tq, e1, e2, s1, l2] at h) <;> first | exact absurd rfl h | exact absurd h (by decide) | (exfalso; omega) | (conv => whnf))
    | (refine And.intro (by first | omega | ((try simp (disch := decide) only [cmp3_lt, cmp3_ge, cmp3_gt, cmp3_le, cmp3_eq, ms_q, ms_f, mf_q, mf_f, mc_q, mc_f, and_self, and_true, true_and, and_false, false_and, or_true, true_or, or_false, false_or, if_true, if_false, not_true_eq_false, not_false_eq_true, eq_self, reduceIte, Int.reduceEq, Int.reduceLT, Int.reduceLE, Int.reduceNeg, Int.reduceAdd, Int.reduceSub, Int.reduceMul, Int.add_sub_cancel]); (try simp (disch := omega) only [w32_e, w64_e, td_pos, tm_pos, Int.add_sub_cancel, e13, e70, e71, hz, t1, t2, tq, e1, e2, s1, l2]); first | assumption | omega) | ((try simp (disch := decide) only [cmp3_lt, cmp3_ge, cmp3_gt, cmp3_le, cmp3_eq, ms_q, ms_f, mf_q, mf_f, mc_q, mc_f, and_self, and_true, true_and, and_false, false_and, or_true, true_or, or_false, false_or, if_true, if_false, not_true_eq_false, not_false_eq_true, eq_self, reduceIte, Int.reduceEq, Int.reduceLT, Int.reduceLE, Int.reduceNeg, Int.reduceAdd, Int.reduceSub, Int.reduceMul, Int.add_sub_cancel]); (try simp (disch := omega) only [w32_e, w64_e, td_pos, tm_pos, Int.add_sub_cancel, e13, e70, e71, hz, t1, t2, tq, e1, e2, s1, l2]); (repeat' (first | assumption | omega | with_reducible rfl | apply And.intro)))) ?_; conv => whnf)
    | (intro v; intro hv; conv => whnf)
  all_goals refine ⟨_, ?_, _, rfl, rfl, ?_, ?_, ?_⟩ <;> first | omega | (intro p _ _; rfl) | (intro j j0 j1; omega)

def GLk : List (Nat × Nat × Spec1) := (100, 5, sp_arC) :: (187, 4, sp_wyM) :: GLj
abbrev GGk : Env1 := fun n => getG n GLk
theorem GGk_all {l : Launch} {ω : WP} : ∀ e ∈ GLk, ∀ as M Q, e.2.2 as M Q → Vd l ω e.2.1 e.1 as M Q := List.forall_mem_cons.mpr ⟨ok_arC, List.forall_mem_cons.mpr ⟨ok_wyM, GGj_all⟩⟩
theorem GGk_ok {l : Launch} {ω : WP} : GOK l ω GGk := getG_ok GLk GGk_all

def sp_wayR : Spec1 := fun as M Q => match as with
  | [.inr (.inr (.inl (q0, i0))), .inl b, .inl g, .inl s, .inl q] => match Nat.beq q0 13 with
    | true => (i0 = 0 ∧ (0 ≤ b ∧ b < M 1 0 0) ∧ (0 ≤ g ∧ g < M 1 0 0) ∧ (0 ≤ s ∧ s ≤ 9) ∧ (0 ≤ q ∧ q ≤ 95) ∧ (0 ≤ M 1 0 0 ∧ M 1 0 0 ≤ 12) ∧ IStp M ∧ ISky M ∧ M 13 0 0 = M 1 0 0) ∧ ∀ M9, (∀ p, p ≠ 81 → p ≠ 82 → M9 p = M p) → Q (some (vI (wy M b g s q))) M9
    | false => False
  | _ => False
theorem ok_wayR {l : Launch} {ω : WP} : ∀ as M Q, sp_wayR as M Q → Vd l ω 9 188 as M Q := by
  intro as M Q h
  unfold sp_wayR at h
  split at h
  case h_2 => exact h.elim
  rename_i q0 i0 b g s q
  cases hb : Nat.beq q0 13 with
  | false => rw [hb] at h; exact h.elim
  | true =>
  rw [hb] at h
  obtain ⟨⟨hi, h1, h2, h3, h4, hN, hS, hK, hz⟩, hQ⟩ := h
  have hb := beq_eq hb
  subst hb
  subst hi
  refine Vd.ok fun hok hal => ?_
  refine Vd_run (GGk_ok (l := l) (ω := ω)) 200 (cut := fun _ => none) (by decide) CutOK_none ?_
  conv => whnf
  repeat' first
    | (refine And.intro (fun h => ?_) (fun h => ?_) <;> (try simp (disch := decide) only [cmp3_lt, cmp3_ge, cmp3_gt, cmp3_le, cmp3_eq, ms_q, ms_f, mf_q, mf_f, mc_q, mc_f, and_self, and_true, true_and, and_false, false_and, or_true, true_or, or_false, false_or, if_true, if_false, not_true_eq_false, not_false_eq_true, eq_self, reduceIte, Int.reduceEq, Int.reduceLT, Int.reduceLE, Int.reduceNeg, Int.reduceAdd, Int.reduceSub, Int.reduceMul, Int.add_sub_cancel] at h) <;> (try simp (disch := omega) only [w32_e, w64_e, td_pos, tm_pos, Int.add_sub_cancel] at h) <;> first | exact absurd rfl h | exact absurd h (by decide) | (exfalso; omega) | (conv => whnf))
    | (refine And.intro (by first | omega | ((try simp (disch := decide) only [cmp3_lt, cmp3_ge, cmp3_gt, cmp3_le, cmp3_eq, ms_q, ms_f, mf_q, mf_f, mc_q, mc_f, and_self, and_true, true_and, and_false, false_and, or_true, true_or, or_false, false_or, if_true, if_false, not_true_eq_false, not_false_eq_true, eq_self, reduceIte, Int.reduceEq, Int.reduceLT, Int.reduceLE, Int.reduceNeg, Int.reduceAdd, Int.reduceSub, Int.reduceMul, Int.add_sub_cancel]); (try simp (disch := omega) only [w32_e, w64_e, td_pos, tm_pos, Int.add_sub_cancel]); first | assumption | omega) | ((try simp (disch := decide) only [cmp3_lt, cmp3_ge, cmp3_gt, cmp3_le, cmp3_eq, ms_q, ms_f, mf_q, mf_f, mc_q, mc_f, and_self, and_true, true_and, and_false, false_and, or_true, true_or, or_false, false_or, if_true, if_false, not_true_eq_false, not_false_eq_true, eq_self, reduceIte, Int.reduceEq, Int.reduceLT, Int.reduceLE, Int.reduceNeg, Int.reduceAdd, Int.reduceSub, Int.reduceMul, Int.add_sub_cancel]); (try simp (disch := omega) only [w32_e, w64_e, td_pos, tm_pos, Int.add_sub_cancel]); (repeat' (first | assumption | omega | with_reducible rfl | apply And.intro)))) ?_; conv => whnf)
    | (intro v; intro hv; conv => whnf)
  all_goals exact hQ _ hv

theorem wy_mem {M M9 : Mem} (h : (∀ p, p ≠ 28 → p ≠ 29 → p ≠ 81 → p ≠ 82 → M9 p = M p)) : wy M9 = wy M := by
  funext b g s q
  have e : wyS M9 s = wyS M s := by
    funext k x
    unfold wyS
    rw [lvA_mem h]
    simp (disch := decide) only [h]
  unfold wy wyA
  rw [e]
  simp (disch := decide) only [h]
theorem inv_way {c : Int} {M : Mem} {M9 : Mem} (fr : (∀ p, p ≠ 28 → p ≠ 29 → p ≠ 81 → p ≠ 82 → M9 p = M p)) (hc : c < 512) (hI : Inv c M) : Inv (c + 1) (M9) := by
  obtain ⟨h0, hN, hS, hR, hK, hG, hW, hJ, hT, hA, hP, hO, hH⟩ := hI
  refine ⟨by omega, ?_, ?_, ?_, ?_, ?_, ?_, ?_, ?_, ?_, ?_, ?_, ?_⟩
  all_goals first
    | (have q := hN; simp (disch := decide) only [INet, ms_q, ms_f, mf_q, mf_f, mc_q, mc_f, fr] at q ⊢; exact q)
    | (have q := hS; simp (disch := decide) only [IStp, ms_q, ms_f, mf_q, mf_f, mc_q, mc_f, fr] at q ⊢; exact q)
    | (have q := hR; simp (disch := decide) only [IRou, ms_q, ms_f, mf_q, mf_f, mc_q, mc_f, fr] at q ⊢; exact q)
    | (have q := hK; simp (disch := decide) only [ISky, ms_q, ms_f, mf_q, mf_f, mc_q, mc_f, fr] at q ⊢; exact q)
    | (have q := hG; simp (disch := decide) only [IGui, ms_q, ms_f, mf_q, mf_f, mc_q, mc_f, fr] at q ⊢; exact q)
    | (have q := hW.next; simp (disch := decide) only [INow, ms_q, ms_f, mf_q, mf_f, mc_q, mc_f, fr] at q ⊢; exact q)
    | (have q := hJ.next; simp (disch := decide) only [IImg, ms_q, ms_f, mf_q, mf_f, mc_q, mc_f, fr] at q ⊢; exact q)
    | (have q := hT; simp (disch := decide) only [ITap, ms_q, ms_f, mf_q, mf_f, mc_q, mc_f, fr] at q ⊢; exact q)
    | (have q := hA; simp (disch := decide) only [ISta, ms_q, ms_f, mf_q, mf_f, mc_q, mc_f, fr] at q ⊢; exact q)
    | (have q := hP; simp (disch := decide) only [IPpl, ms_q, ms_f, mf_q, mf_f, mc_q, mc_f, fr] at q ⊢; exact q)
    | (have q := hO; simp (disch := decide) only [IRop, ms_q, ms_f, mf_q, mf_f, mc_q, mc_f, fr] at q ⊢; exact q)
    | (have q := hH; simp (disch := decide) only [IHrs, ms_q, ms_f, mf_q, mf_f, mc_q, mc_f, fr] at q ⊢; exact q)
    | skip

theorem pair_way {l : Launch} {ω : WP} {c : Int} {M : Mem} {b : Int} {g : Int} {s : Int} {q : Int} (hb : in32 b) (hg : in32 g) (hs : in32 s) (hq : in32 q)  (hc : c < 512) (hI : Inv c M) : Vd l ω 9 122 [vR 0 0, vI b, vI g, vI s, vI q] M (PQ1 l ω c 188 [vI b, vI g, vI s, vI q]) := by
  have hI0 := hI
  obtain ⟨h0, hN, hS, hR, hK, hG, hW, hJ, hT, hA, hP, hO, hH⟩ := hI
  have b1 := hN.1
  have b2 := hN.2.2.1
  have b3 := hS.1
  have b4 := hS.2.2.1
  have b5 := hR.1
  have b6 := hR.2.2.2.1
  have b7 := hG.1
  have b8 := hG.2.2.1
  refine Vd_run (GGk_ok (l := l) (ω := ω)) 400 (cut := fun _ => none) (by decide) CutOK_none ?_
  conv => whnf
  repeat' first
    | (refine And.intro (fun h => ?_) (fun h => ?_) <;> (try simp (disch := decide) only [cmp3_lt, cmp3_ge, cmp3_gt, cmp3_le, cmp3_eq, ms_q, ms_f, mf_q, mf_f, mc_q, mc_f, and_self, and_true, true_and, and_false, false_and, or_true, true_or, or_false, false_or, if_true, if_false, not_true_eq_false, not_false_eq_true, eq_self, reduceIte, Int.reduceEq, Int.reduceLT, Int.reduceLE, Int.reduceNeg, Int.reduceAdd, Int.reduceSub, Int.reduceMul, Int.add_sub_cancel] at h) <;> (try simp (disch := omega) only [w32_e, w64_e, td_pos, tm_pos, Int.add_sub_cancel] at h) <;> first | exact absurd rfl h | exact absurd h (by decide) | (exfalso; omega) | (conv => whnf))
    | (refine And.intro (by first | omega | ((try simp (disch := decide) only [cmp3_lt, cmp3_ge, cmp3_gt, cmp3_le, cmp3_eq, ms_q, ms_f, mf_q, mf_f, mc_q, mc_f, and_self, and_true, true_and, and_false, false_and, or_true, true_or, or_false, false_or, if_true, if_false, not_true_eq_false, not_false_eq_true, eq_self, reduceIte, Int.reduceEq, Int.reduceLT, Int.reduceLE, Int.reduceNeg, Int.reduceAdd, Int.reduceSub, Int.reduceMul, Int.add_sub_cancel]); (try simp (disch := omega) only [w32_e, w64_e, td_pos, tm_pos, Int.add_sub_cancel]); first | assumption | omega) | ((try simp (disch := decide) only [cmp3_lt, cmp3_ge, cmp3_gt, cmp3_le, cmp3_eq, ms_q, ms_f, mf_q, mf_f, mc_q, mc_f, and_self, and_true, true_and, and_false, false_and, or_true, true_or, or_false, false_or, if_true, if_false, not_true_eq_false, not_false_eq_true, eq_self, reduceIte, Int.reduceEq, Int.reduceLT, Int.reduceLE, Int.reduceNeg, Int.reduceAdd, Int.reduceSub, Int.reduceMul, Int.add_sub_cancel]); (try simp (disch := omega) only [w32_e, w64_e, td_pos, tm_pos, Int.add_sub_cancel]); (repeat' (first | assumption | omega | with_reducible rfl | apply And.intro)))) ?_; conv => whnf)
    | (intro v; intro hv; conv => whnf)
  all_goals refine ⟨0, _, rfl, ?_⟩
  all_goals first
    | (have fr : ∀ p, p ≠ 28 → p ≠ 29 → v p = M p := hv
       have hm : ∀ p, p ≠ 28 → p ≠ 29 → p ≠ 81 → p ≠ 82 → v p = M p := fun p a b _ _ => fr p a b
       have e1 : v 1 = M 1 := fr 1 (by decide) (by decide)
       have e13 : v 13 = M 13 := fr 13 (by decide) (by decide)
       have hS9 : IStp v := by simp (disch := decide) only [IStp, fr]; exact hS
       have hK9 : ISky v := by simp (disch := decide) only [ISky, fr]; exact hK
       refine ok_wayR _ _ _ ⟨⟨rfl, by rw [e1]; omega, by rw [e1]; omega, by omega, by omega, by rw [e1]; omega, hS9, hK9, by rw [e1, e13]; omega⟩, fun M9 q2 => ⟨0, by rw [wy_mem hm], ?_⟩⟩
       exact inv_way (fun p a c d f => (q2 p d f).trans (fr p a c)) hc hI0)
    | skip
  all_goals refine Vd_run (GGk_ok (l := l) (ω := ω)) 400 (cut := fun _ => none) (by decide) CutOK_none ?_
  all_goals conv => whnf
  all_goals repeat' first
    | (refine And.intro (fun h => ?_) (fun h => ?_) <;> (try simp (disch := decide) only [cmp3_lt, cmp3_ge, cmp3_gt, cmp3_le, cmp3_eq, ms_q, ms_f, mf_q, mf_f, mc_q, mc_f, and_self, and_true, true_and, and_false, false_and, or_true, true_or, or_false, false_or, if_true, if_false, not_true_eq_false, not_false_eq_true, eq_self, reduceIte, Int.reduceEq, Int.reduceLT, Int.reduceLE, Int.reduceNeg, Int.reduceAdd, Int.reduceSub, Int.reduceMul, Int.add_sub_cancel] at h) <;> (try simp (disch := omega) only [w32_e, w64_e, td_pos, tm_pos, Int.add_sub_cancel] at h) <;> first | exact absurd rfl h | exact absurd h (by decide) | (exfalso; omega) | (conv => whnf))
    | (refine And.intro (by first | omega | ((try simp (disch := decide) only [cmp3_lt, cmp3_ge, cmp3_gt, cmp3_le, cmp3_eq, ms_q, ms_f, mf_q, mf_f, mc_q, mc_f, and_self, and_true, true_and, and_false, false_and, or_true, true_or, or_false, false_or, if_true, if_false, not_true_eq_false, not_false_eq_true, eq_self, reduceIte, Int.reduceEq, Int.reduceLT, Int.reduceLE, Int.reduceNeg, Int.reduceAdd, Int.reduceSub, Int.reduceMul, Int.add_sub_cancel]); (try simp (disch := omega) only [w32_e, w64_e, td_pos, tm_pos, Int.add_sub_cancel]); first | assumption | omega) | ((try simp (disch := decide) only [cmp3_lt, cmp3_ge, cmp3_gt, cmp3_le, cmp3_eq, ms_q, ms_f, mf_q, mf_f, mc_q, mc_f, and_self, and_true, true_and, and_false, false_and, or_true, true_or, or_false, false_or, if_true, if_false, not_true_eq_false, not_false_eq_true, eq_self, reduceIte, Int.reduceEq, Int.reduceLT, Int.reduceLE, Int.reduceNeg, Int.reduceAdd, Int.reduceSub, Int.reduceMul, Int.add_sub_cancel]); (try simp (disch := omega) only [w32_e, w64_e, td_pos, tm_pos, Int.add_sub_cancel]); (repeat' (first | assumption | omega | with_reducible rfl | apply And.intro)))) ?_; conv => whnf)
    | (intro v; intro hv; conv => whnf)
  all_goals refine ⟨0, ?_, ?_⟩
  all_goals ((try simp (disch := decide) only [cmp3_lt, cmp3_ge, cmp3_gt, cmp3_le, cmp3_eq, ms_q, ms_f, mf_q, mf_f, mc_q, mc_f, and_self, and_true, true_and, and_false, false_and, or_true, true_or, or_false, false_or, if_true, if_false, not_true_eq_false, not_false_eq_true, eq_self, reduceIte, Int.reduceEq, Int.reduceLT, Int.reduceLE, Int.reduceNeg, Int.reduceAdd, Int.reduceSub, Int.reduceMul, Int.add_sub_cancel] at *); (try simp (disch := omega) only [w32_e, w64_e, td_pos, tm_pos, Int.add_sub_cancel] at *))
  all_goals first
    | exact Inv.next hc hI0
    | exact congrArg (fun z => some (vI z)) (by omega)
    | exact congrArg (fun z => some (vL z)) (by omega)
    | (exfalso; omega)
    | skip
