/-! ===== pairs image, back, feed (wip/gen/p9.py) ===== -/
def sp_imM : Spec1 := fun as M Q => match as with
  | [.inr (.inr (.inl (q0, i0)))] => match Nat.beq q0 13 with
    | true => (i0 = 0 ∧ True) ∧ ∀ M9, ((∀ p, p ≠ 130 → p ≠ 131 → p ≠ 132 → p ≠ 133 → M9 p = (mset (mset (mset M 13 0 83 (M 13 0 17)) 13 0 88 (M 13 0 25)) 13 0 89 (M 13 0 26)) p) ∧ (∀ j, 0 ≤ j → j < 8 → M9 130 0 j = M 89 0 j ∧ M9 131 0 j = M 86 0 j ∧ M9 132 0 j = M 87 0 j ∧ M9 133 0 j = M 88 0 j)) → Q (some (vI 1)) M9
    | false => False
  | _ => False
theorem ok_imM {l : Launch} {ω : WP} : ∀ as M Q, sp_imM as M Q → Vd l ω 9 260 as M Q := by
  intro as M Q h
  unfold sp_imM at h
  split at h
  case h_2 => exact h.elim
  rename_i q0 i0 
  cases hb : Nat.beq q0 13 with
  | false => rw [hb] at h; exact h.elim
  | true =>
  rw [hb] at h
  obtain ⟨⟨hi, _⟩, hQ⟩ := h
  have hb := beq_eq hb
  subst hb
  subst hi
  refine Vd.ok fun hok hal => ?_
  have key : ∀ n9, CutOK l ω 9 260 (cutL [(26, [0, 1], fun kk vs M9 => ∃ i : Int, vs = [vR 13 0, vI i] ∧ kk = (8 - i).toNat ∧ (0 ≤ i ∧ i ≤ 8) ∧ (∀ p, p ≠ 130 → p ≠ 131 → p ≠ 132 → p ≠ 133 → M9 p = (mset (mset (mset M 13 0 83 (M 13 0 17)) 13 0 88 (M 13 0 25)) 13 0 89 (M 13 0 26)) p) ∧ (∀ j, 0 ≤ j → j < i → M9 130 0 j = M 89 0 j ∧ M9 131 0 j = M 86 0 j ∧ M9 132 0 j = M 87 0 j ∧ M9 133 0 j = M 88 0 j))] n9) Q := by
    refine loops (GGf_ok (l := l) (ω := ω)) 200 _ ?_
    refine List.forall_mem_cons.mpr ⟨?_, fun _ h => absurd h List.not_mem_nil⟩
    · rintro n9 vs M9 ⟨i, rfl, rfl, i0, fr, hv⟩
      show wpH _ 200 _ 260 _ true 26 [vR 13 0, vI i] [] _ Q
      conv => whnf
      repeat' first
        | (refine And.intro (fun h => ?_) (fun h => ?_) <;> (try simp (disch := decide) only [cmp3_lt, cmp3_ge, cmp3_gt, cmp3_le, cmp3_eq, ms_q, ms_f, mf_q, mf_f, mc_q, mc_f, and_self, and_true, true_and, and_false, false_and, or_true, true_or, or_false, false_or, if_true, if_false, not_true_eq_false, not_false_eq_true, eq_self, reduceIte, Int.reduceEq, Int.reduceLT, Int.reduceLE, Int.reduceNeg, Int.reduceAdd, Int.reduceSub, Int.reduceMul, Int.add_sub_cancel] at h) <;> (try simp (disch := omega) only [w32_e, w64_e, td_pos, tm_pos, Int.add_sub_cancel] at h) <;> first | exact absurd rfl h | exact absurd h (by decide) | (exfalso; omega) | (conv => whnf))
        | (refine And.intro (by first | omega | ((try simp (disch := decide) only [cmp3_lt, cmp3_ge, cmp3_gt, cmp3_le, cmp3_eq, ms_q, ms_f, mf_q, mf_f, mc_q, mc_f, and_self, and_true, true_and, and_false, false_and, or_true, true_or, or_false, false_or, if_true, if_false, not_true_eq_false, not_false_eq_true, eq_self, reduceIte, Int.reduceEq, Int.reduceLT, Int.reduceLE, Int.reduceNeg, Int.reduceAdd, Int.reduceSub, Int.reduceMul, Int.add_sub_cancel]); (try simp (disch := omega) only [w32_e, w64_e, td_pos, tm_pos, Int.add_sub_cancel]); first | assumption | omega) | (refine ⟨by omega, ?_⟩; have q8 := hok 86 0 i; (try simp (disch := decide) only [cmp3_lt, cmp3_ge, cmp3_gt, cmp3_le, cmp3_eq, ms_q, ms_f, mf_q, mf_f, mc_q, mc_f, and_self, and_true, true_and, and_false, false_and, or_true, true_or, or_false, false_or, if_true, if_false, not_true_eq_false, not_false_eq_true, eq_self, reduceIte, Int.reduceEq, Int.reduceLT, Int.reduceLE, Int.reduceNeg, Int.reduceAdd, Int.reduceSub, Int.reduceMul, Int.add_sub_cancel, fr]); (try simp (disch := omega) only [w32_e]); exact q8)) ?_; conv => whnf)
        | (intro v; intro hv; conv => whnf)
      all_goals first
        | (have e9 : i = 8 := by omega
           subst e9
           exact hQ M9 ⟨fr, hv⟩)
        | (refine ⟨_, ?_, _, rfl, rfl, ?_, ?_, ?_⟩
           · ((try simp (disch := decide) only [cmp3_lt, cmp3_ge, cmp3_gt, cmp3_le, cmp3_eq, ms_q, ms_f, mf_q, mf_f, mc_q, mc_f, and_self, and_true, true_and, and_false, false_and, or_true, true_or, or_false, false_or, if_true, if_false, not_true_eq_false, not_false_eq_true, eq_self, reduceIte, Int.reduceEq, Int.reduceLT, Int.reduceLE, Int.reduceNeg, Int.reduceAdd, Int.reduceSub, Int.reduceMul, Int.add_sub_cancel]); (try simp (disch := omega) only [w32_e, w64_e, td_pos, tm_pos, Int.add_sub_cancel])); omega
           · ((try simp (disch := decide) only [cmp3_lt, cmp3_ge, cmp3_gt, cmp3_le, cmp3_eq, ms_q, ms_f, mf_q, mf_f, mc_q, mc_f, and_self, and_true, true_and, and_false, false_and, or_true, true_or, or_false, false_or, if_true, if_false, not_true_eq_false, not_false_eq_true, eq_self, reduceIte, Int.reduceEq, Int.reduceLT, Int.reduceLE, Int.reduceNeg, Int.reduceAdd, Int.reduceSub, Int.reduceMul, Int.add_sub_cancel]); (try simp (disch := omega) only [w32_e, w64_e, td_pos, tm_pos, Int.add_sub_cancel])); omega
           · intro p z0 z1 z2 z3; rw [ms_q (by assumption), ms_q (by assumption), ms_q (by assumption), ms_q (by assumption)]; exact fr p z0 z1 z2 z3
           · intro j j0 j1
             (try simp (disch := omega) only [w32_e] at j1)
             have q := hv j j0
             ((try simp (disch := decide) only [cmp3_lt, cmp3_ge, cmp3_gt, cmp3_le, cmp3_eq, ms_q, ms_f, mf_q, mf_f, mc_q, mc_f, and_self, and_true, true_and, and_false, false_and, or_true, true_or, or_false, false_or, if_true, if_false, not_true_eq_false, not_false_eq_true, eq_self, reduceIte, Int.reduceEq, Int.reduceLT, Int.reduceLE, Int.reduceNeg, Int.reduceAdd, Int.reduceSub, Int.reduceMul, Int.add_sub_cancel, fr]); (try simp (disch := omega) only [w32_e]))
             by_cases e : j = i
             · simp only [e, and_self, and_true, true_and, and_false, false_and, or_true, true_or, or_false, false_or, if_true, if_false, not_true_eq_false, not_false_eq_true, eq_self, reduceIte, Int.reduceEq, Int.reduceLT, Int.reduceLE, Int.reduceNeg, Int.reduceAdd, Int.reduceSub, Int.reduceMul, Int.add_sub_cancel]
             · simp only [e, and_self, and_true, true_and, and_false, false_and, or_true, true_or, or_false, false_or, if_true, if_false, not_true_eq_false, not_false_eq_true, eq_self, reduceIte, Int.reduceEq, Int.reduceLT, Int.reduceLE, Int.reduceNeg, Int.reduceAdd, Int.reduceSub, Int.reduceMul, Int.add_sub_cancel]
               exact q (by omega))
  refine Vd_run (GGf_ok (l := l) (ω := ω)) 200 (hC := key 100) (by decide) ?_
  conv => whnf
  repeat' first
    | (refine And.intro (fun h => ?_) (fun h => ?_) <;> (try simp (disch := decide) only [cmp3_lt, cmp3_ge, cmp3_gt, cmp3_le, cmp3_eq, ms_q, ms_f, mf_q, mf_f, mc_q, mc_f, and_self, and_true, true_and, and_false, false_and, or_true, true_or, or_false, false_or, if_true, if_false, not_true_eq_false, not_false_eq_true, eq_self, reduceIte, Int.reduceEq, Int.reduceLT, Int.reduceLE, Int.reduceNeg, Int.reduceAdd, Int.reduceSub, Int.reduceMul, Int.add_sub_cancel] at h) <;> (try simp (disch := omega) only [w32_e, w64_e, td_pos, tm_pos, Int.add_sub_cancel] at h) <;> first | exact absurd rfl h | exact absurd h (by decide) | (exfalso; omega) | (conv => whnf))
    | (refine And.intro (by first | omega | ((try simp (disch := decide) only [cmp3_lt, cmp3_ge, cmp3_gt, cmp3_le, cmp3_eq, ms_q, ms_f, mf_q, mf_f, mc_q, mc_f, and_self, and_true, true_and, and_false, false_and, or_true, true_or, or_false, false_or, if_true, if_false, not_true_eq_false, not_false_eq_true, eq_self, reduceIte, Int.reduceEq, Int.reduceLT, Int.reduceLE, Int.reduceNeg, Int.reduceAdd, Int.reduceSub, Int.reduceMul, Int.add_sub_cancel]); (try simp (disch := omega) only [w32_e, w64_e, td_pos, tm_pos, Int.add_sub_cancel]); first | assumption | omega) | (refine ⟨by omega, ?_⟩; have q8 := hok 86 0 i; (try simp (disch := decide) only [cmp3_lt, cmp3_ge, cmp3_gt, cmp3_le, cmp3_eq, ms_q, ms_f, mf_q, mf_f, mc_q, mc_f, and_self, and_true, true_and, and_false, false_and, or_true, true_or, or_false, false_or, if_true, if_false, not_true_eq_false, not_false_eq_true, eq_self, reduceIte, Int.reduceEq, Int.reduceLT, Int.reduceLE, Int.reduceNeg, Int.reduceAdd, Int.reduceSub, Int.reduceMul, Int.add_sub_cancel, fr]); (try simp (disch := omega) only [w32_e]); exact q8)) ?_; conv => whnf)
    | (intro v; intro hv; conv => whnf)
  all_goals refine ⟨_, ?_, _, rfl, rfl, ?_, ?_, ?_⟩ <;> first | omega | (intro p _ _ _ _; rfl) | (intro j j0 j1; omega)

theorem IPerm.congr {n : Int} {f f1 : Int → Int} (e : ∀ i, 0 ≤ i → i < n → f1 i = f i) (h : IPerm n f) : IPerm n f1 := by
  obtain ⟨a, b, c⟩ := h
  refine ⟨fun i i0 i1 => by rw [e i i0 i1]; exact a i i0 i1, fun i j i0 i1 j0 j1 q => b i j i0 i1 j0 j1 (by rw [← e i i0 i1, ← e j j0 j1]; exact q), fun g g0 g1 => ?_⟩
  obtain ⟨i, i0, i1, i2⟩ := c g g0 g1
  exact ⟨i, i0, i1, by rw [e i i0 i1]; exact i2⟩

theorem inv_image {c : Int} {M : Mem} {M9 : Mem} (fr : (∀ p, p ≠ 130 → p ≠ 131 → p ≠ 132 → p ≠ 133 → M9 p = (mset (mset (mset ((mset (mcopy (mcopy (mcopy (mset (mset (mset (mset M 6 0 0 (M 5 0 0)) 6 0 2 (M 5 0 2)) 6 0 3 (M 5 0 3)) 6 0 6 (M 5 0 6)) 34 0 0 37 0 0 8) 35 0 0 38 0 0 8) 36 0 0 39 0 0 8) 4 0 5 1)) 13 0 83 (((mset (mcopy (mcopy (mcopy (mset (mset (mset (mset M 6 0 0 (M 5 0 0)) 6 0 2 (M 5 0 2)) 6 0 3 (M 5 0 3)) 6 0 6 (M 5 0 6)) 34 0 0 37 0 0 8) 35 0 0 38 0 0 8) 36 0 0 39 0 0 8) 4 0 5 1)) 13 0 17)) 13 0 88 (((mset (mcopy (mcopy (mcopy (mset (mset (mset (mset M 6 0 0 (M 5 0 0)) 6 0 2 (M 5 0 2)) 6 0 3 (M 5 0 3)) 6 0 6 (M 5 0 6)) 34 0 0 37 0 0 8) 35 0 0 38 0 0 8) 36 0 0 39 0 0 8) 4 0 5 1)) 13 0 25)) 13 0 89 (((mset (mcopy (mcopy (mcopy (mset (mset (mset (mset M 6 0 0 (M 5 0 0)) 6 0 2 (M 5 0 2)) 6 0 3 (M 5 0 3)) 6 0 6 (M 5 0 6)) 34 0 0 37 0 0 8) 35 0 0 38 0 0 8) 36 0 0 39 0 0 8) 4 0 5 1)) 13 0 26)) p)) (hv : (∀ j, 0 ≤ j → j < 8 → M9 130 0 j = ((mset (mcopy (mcopy (mcopy (mset (mset (mset (mset M 6 0 0 (M 5 0 0)) 6 0 2 (M 5 0 2)) 6 0 3 (M 5 0 3)) 6 0 6 (M 5 0 6)) 34 0 0 37 0 0 8) 35 0 0 38 0 0 8) 36 0 0 39 0 0 8) 4 0 5 1)) 89 0 j ∧ M9 131 0 j = ((mset (mcopy (mcopy (mcopy (mset (mset (mset (mset M 6 0 0 (M 5 0 0)) 6 0 2 (M 5 0 2)) 6 0 3 (M 5 0 3)) 6 0 6 (M 5 0 6)) 34 0 0 37 0 0 8) 35 0 0 38 0 0 8) 36 0 0 39 0 0 8) 4 0 5 1)) 86 0 j ∧ M9 132 0 j = ((mset (mcopy (mcopy (mcopy (mset (mset (mset (mset M 6 0 0 (M 5 0 0)) 6 0 2 (M 5 0 2)) 6 0 3 (M 5 0 3)) 6 0 6 (M 5 0 6)) 34 0 0 37 0 0 8) 35 0 0 38 0 0 8) 36 0 0 39 0 0 8) 4 0 5 1)) 87 0 j ∧ M9 133 0 j = ((mset (mcopy (mcopy (mcopy (mset (mset (mset (mset M 6 0 0 (M 5 0 0)) 6 0 2 (M 5 0 2)) 6 0 3 (M 5 0 3)) 6 0 6 (M 5 0 6)) 34 0 0 37 0 0 8) 35 0 0 38 0 0 8) 36 0 0 39 0 0 8) 4 0 5 1)) 88 0 j)) (hc : c < 512) (hI : Inv c M) : Inv (c + 1) (M9) := by
  obtain ⟨h0, hN, hS, hR, hK, hG, hW, hJ, hT, hA, hP, hO, hH⟩ := hI
  refine ⟨by omega, ?_, ?_, ?_, ?_, ?_, ?_, ?_, ?_, ?_, ?_, ?_, ?_⟩
  all_goals first
    | (have q := hN; simp (disch := decide) only [INet, ms_q, ms_f, mf_q, mf_f, mc_q, mc_f, fr] at q ⊢; exact q)
    | (have q := hS; simp (disch := decide) only [IStp, ms_q, ms_f, mf_q, mf_f, mc_q, mc_f, fr] at q ⊢; exact q)
    | (have q := hR; simp (disch := decide) only [IRou, ms_q, ms_f, mf_q, mf_f, mc_q, mc_f, fr] at q ⊢; exact q)
    | (have q := hK; simp (disch := decide) only [ISky, ms_q, ms_f, mf_q, mf_f, mc_q, mc_f, fr] at q ⊢; exact q)
    | (have q := hG; simp (disch := decide) only [IGui, ms_q, ms_f, mf_q, mf_f, mc_q, mc_f, fr] at q ⊢; exact q)
    | (have q := hW.next; simp (disch := decide) only [INow, ms_q, ms_f, mf_q, mf_f, mc_q, mc_f, fr] at q ⊢; exact q)
    | (have q := hT; simp (disch := decide) only [ITap, ms_q, ms_f, mf_q, mf_f, mc_q, mc_f, fr] at q ⊢; exact q)
    | (have q := hA; simp (disch := decide) only [ISta, ms_q, ms_f, mf_q, mf_f, mc_q, mc_f, fr] at q ⊢; exact q)
    | (have q := hP; simp (disch := decide) only [IPpl, ms_q, ms_f, mf_q, mf_f, mc_q, mc_f, fr] at q ⊢; exact q)
    | (have q := hO; simp (disch := decide) only [IRop, ms_q, ms_f, mf_q, mf_f, mc_q, mc_f, fr] at q ⊢; exact q)
    | (have q := hH; simp (disch := decide) only [IHrs, ms_q, ms_f, mf_q, mf_f, mc_q, mc_f, fr] at q ⊢; exact q)
    | skip
  simp (disch := decide) only [IImg, ms_q, ms_f, mf_q, mf_f, mc_q, mc_f, and_self, and_true, true_and, and_false, false_and, or_true, true_or, or_false, false_or, if_true, if_false, not_true_eq_false, not_false_eq_true, eq_self, reduceIte, Int.reduceEq, Int.reduceLT, Int.reduceLE, Int.reduceNeg, Int.reduceAdd, Int.reduceSub, Int.reduceMul, Int.add_sub_cancel, fr]
  obtain ⟨w1, w2, w3, w4, w5, w6, w7, w8, w9⟩ := hW
  have b8 := hG.2.2.1
  have b7 := hG.1
  refine ⟨b7, by omega, fun i i0 i1 => ?_, ?_, w3, by omega, w5, fun g g0 g1 => ?_, fun g g0 g1 => ?_, w8, by omega⟩
  · have q := hv i i0 (by omega)
    simp (disch := decide) only [ms_q, ms_f, mf_q, mf_f, mc_q, mc_f, and_self, and_true, true_and, and_false, false_and, or_true, true_or, or_false, false_or, if_true, if_false, not_true_eq_false, not_false_eq_true, eq_self, reduceIte, Int.reduceEq, Int.reduceLT, Int.reduceLE, Int.reduceNeg, Int.reduceAdd, Int.reduceSub, Int.reduceMul, Int.add_sub_cancel] at q
    rw [q.1, w1 i i0 i1, if_pos (by omega), Int.sub_zero, Int.add_zero]
  · refine IPerm.congr (fun i i0 i1 => ?_) w2
    simp (disch := decide) only [ms_q, ms_f, mf_q, mf_f, mc_q, mc_f, and_self, and_true, true_and, and_false, false_and, or_true, true_or, or_false, false_or, if_true, if_false, not_true_eq_false, not_false_eq_true, eq_self, reduceIte, Int.reduceEq, Int.reduceLT, Int.reduceLE, Int.reduceNeg, Int.reduceAdd, Int.reduceSub, Int.reduceMul, Int.add_sub_cancel]
    rw [if_pos (by omega), Int.sub_zero, Int.add_zero]
  · have q := hv g g0 g1
    simp (disch := decide) only [ms_q, ms_f, mf_q, mf_f, mc_q, mc_f, and_self, and_true, true_and, and_false, false_and, or_true, true_or, or_false, false_or, if_true, if_false, not_true_eq_false, not_false_eq_true, eq_self, reduceIte, Int.reduceEq, Int.reduceLT, Int.reduceLE, Int.reduceNeg, Int.reduceAdd, Int.reduceSub, Int.reduceMul, Int.add_sub_cancel] at q
    rw [q.2.1, w6 g g0 g1]
  · have q := hv g g0 (by omega)
    simp (disch := decide) only [ms_q, ms_f, mf_q, mf_f, mc_q, mc_f, and_self, and_true, true_and, and_false, false_and, or_true, true_or, or_false, false_or, if_true, if_false, not_true_eq_false, not_false_eq_true, eq_self, reduceIte, Int.reduceEq, Int.reduceLT, Int.reduceLE, Int.reduceNeg, Int.reduceAdd, Int.reduceSub, Int.reduceMul, Int.add_sub_cancel] at q
    have := w7 g g0 g1
    rw [q.2.2.1, q.2.2.2, if_pos (by omega), if_pos (by omega), Int.sub_zero, Int.add_zero]
    exact this

theorem pair_image {l : Launch} {ω : WP} {c : Int} {M : Mem}    (hc : c < 512) (hI : Inv c M) : Vd l ω 9 155 [vR 0 0] M (PQ1 l ω c 260 []) := by
  have hI0 := hI
  obtain ⟨h0, hN, hS, hR, hK, hG, hW, hJ, hT, hA, hP, hO, hH⟩ := hI
  have b1 := hN.1
  have b2 := hN.2.2.1
  have b3 := hS.1
  have b4 := hS.2.2.1
  have b5 := hR.1
  have b6 := hR.2.2.2.1
  have b7 := hG.1
  have b8 := hG.2.2.1
  refine Vd_run (GGf_ok (l := l) (ω := ω)) 400 (cut := fun _ => none) (by decide) CutOK_none ?_
  conv => whnf
  repeat' first
    | (refine And.intro (fun h => ?_) (fun h => ?_) <;> (try simp (disch := decide) only [cmp3_lt, cmp3_ge, cmp3_gt, cmp3_le, cmp3_eq, ms_q, ms_f, mf_q, mf_f, mc_q, mc_f, and_self, and_true, true_and, and_false, false_and, or_true, true_or, or_false, false_or, if_true, if_false, not_true_eq_false, not_false_eq_true, eq_self, reduceIte, Int.reduceEq, Int.reduceLT, Int.reduceLE, Int.reduceNeg, Int.reduceAdd, Int.reduceSub, Int.reduceMul, Int.add_sub_cancel] at h) <;> (try simp (disch := omega) only [w32_e, w64_e, td_pos, tm_pos, Int.add_sub_cancel] at h) <;> first | exact absurd rfl h | exact absurd h (by decide) | (exfalso; omega) | (conv => whnf))
    | (refine And.intro (by first | omega | ((try simp (disch := decide) only [cmp3_lt, cmp3_ge, cmp3_gt, cmp3_le, cmp3_eq, ms_q, ms_f, mf_q, mf_f, mc_q, mc_f, and_self, and_true, true_and, and_false, false_and, or_true, true_or, or_false, false_or, if_true, if_false, not_true_eq_false, not_false_eq_true, eq_self, reduceIte, Int.reduceEq, Int.reduceLT, Int.reduceLE, Int.reduceNeg, Int.reduceAdd, Int.reduceSub, Int.reduceMul, Int.add_sub_cancel]); (try simp (disch := omega) only [w32_e, w64_e, td_pos, tm_pos, Int.add_sub_cancel]); first | assumption | omega) | ((try simp (disch := decide) only [cmp3_lt, cmp3_ge, cmp3_gt, cmp3_le, cmp3_eq, ms_q, ms_f, mf_q, mf_f, mc_q, mc_f, and_self, and_true, true_and, and_false, false_and, or_true, true_or, or_false, false_or, if_true, if_false, not_true_eq_false, not_false_eq_true, eq_self, reduceIte, Int.reduceEq, Int.reduceLT, Int.reduceLE, Int.reduceNeg, Int.reduceAdd, Int.reduceSub, Int.reduceMul, Int.add_sub_cancel]); (try simp (disch := omega) only [w32_e, w64_e, td_pos, tm_pos, Int.add_sub_cancel]); (repeat' (first | assumption | rfl | omega | apply And.intro)))) ?_; conv => whnf)
    | (intro v; intro hv; conv => whnf)
  all_goals refine ⟨0, _, rfl, ?_⟩
  all_goals first
    | (refine ok_imM _ _ _ ⟨⟨rfl, trivial⟩, fun M9 q => ⟨0, rfl, ?_⟩⟩; exact inv_image q.1 q.2 hc hI0)
    | skip
  all_goals refine Vd_run (GGf_ok (l := l) (ω := ω)) 400 (cut := fun _ => none) (by decide) CutOK_none ?_
  all_goals conv => whnf
  all_goals repeat' first
    | (refine And.intro (fun h => ?_) (fun h => ?_) <;> (try simp (disch := decide) only [cmp3_lt, cmp3_ge, cmp3_gt, cmp3_le, cmp3_eq, ms_q, ms_f, mf_q, mf_f, mc_q, mc_f, and_self, and_true, true_and, and_false, false_and, or_true, true_or, or_false, false_or, if_true, if_false, not_true_eq_false, not_false_eq_true, eq_self, reduceIte, Int.reduceEq, Int.reduceLT, Int.reduceLE, Int.reduceNeg, Int.reduceAdd, Int.reduceSub, Int.reduceMul, Int.add_sub_cancel] at h) <;> (try simp (disch := omega) only [w32_e, w64_e, td_pos, tm_pos, Int.add_sub_cancel] at h) <;> first | exact absurd rfl h | exact absurd h (by decide) | (exfalso; omega) | (conv => whnf))
    | (refine And.intro (by first | omega | ((try simp (disch := decide) only [cmp3_lt, cmp3_ge, cmp3_gt, cmp3_le, cmp3_eq, ms_q, ms_f, mf_q, mf_f, mc_q, mc_f, and_self, and_true, true_and, and_false, false_and, or_true, true_or, or_false, false_or, if_true, if_false, not_true_eq_false, not_false_eq_true, eq_self, reduceIte, Int.reduceEq, Int.reduceLT, Int.reduceLE, Int.reduceNeg, Int.reduceAdd, Int.reduceSub, Int.reduceMul, Int.add_sub_cancel]); (try simp (disch := omega) only [w32_e, w64_e, td_pos, tm_pos, Int.add_sub_cancel]); first | assumption | omega) | ((try simp (disch := decide) only [cmp3_lt, cmp3_ge, cmp3_gt, cmp3_le, cmp3_eq, ms_q, ms_f, mf_q, mf_f, mc_q, mc_f, and_self, and_true, true_and, and_false, false_and, or_true, true_or, or_false, false_or, if_true, if_false, not_true_eq_false, not_false_eq_true, eq_self, reduceIte, Int.reduceEq, Int.reduceLT, Int.reduceLE, Int.reduceNeg, Int.reduceAdd, Int.reduceSub, Int.reduceMul, Int.add_sub_cancel]); (try simp (disch := omega) only [w32_e, w64_e, td_pos, tm_pos, Int.add_sub_cancel]); (repeat' (first | assumption | rfl | omega | apply And.intro)))) ?_; conv => whnf)
    | (intro v; intro hv; conv => whnf)
  all_goals refine ⟨0, ?_, ?_⟩
  all_goals ((try simp (disch := decide) only [cmp3_lt, cmp3_ge, cmp3_gt, cmp3_le, cmp3_eq, ms_q, ms_f, mf_q, mf_f, mc_q, mc_f, and_self, and_true, true_and, and_false, false_and, or_true, true_or, or_false, false_or, if_true, if_false, not_true_eq_false, not_false_eq_true, eq_self, reduceIte, Int.reduceEq, Int.reduceLT, Int.reduceLE, Int.reduceNeg, Int.reduceAdd, Int.reduceSub, Int.reduceMul, Int.add_sub_cancel] at *); (try simp (disch := omega) only [w32_e, w64_e, td_pos, tm_pos, Int.add_sub_cancel] at *))
  all_goals first
    | exact Inv.next hc hI0
    | exact congrArg (fun z => some (vI z)) (by omega)
    | exact congrArg (fun z => some (vL z)) (by omega)
    | (exfalso; omega)
    | skip

def bytS (v s : Int) : Int := w32 ((Int64.ofInt (Int64.ofInt v >>> ((Int32.ofInt s).toInt64 &&& 63)).toInt &&& Int64.ofInt 255).toInt)
theorem and255 (a : Int64) : 0 ≤ (a &&& Int64.ofInt 255).toInt ∧ (a &&& Int64.ofInt 255).toInt ≤ 255 := by
  have h : (a &&& Int64.ofInt 255).toBitVec.toNat ≤ 255 := by
    show (a.toBitVec &&& (Int64.ofInt 255).toBitVec).toNat ≤ 255
    rw [BitVec.toNat_and]
    exact Nat.and_le_right
  have e : (a &&& Int64.ofInt 255).toInt = ((a &&& Int64.ofInt 255).toBitVec.toNat : Int) := by
    show (a &&& Int64.ofInt 255).toBitVec.toInt = _
    rw [BitVec.toInt_eq_toNat_cond]
    rw [if_pos (by omega)]
  omega
theorem bytS_in (v s : Int) : 0 ≤ bytS v s ∧ bytS v s ≤ 255 := by
  have := and255 (Int64.ofInt (Int64.ofInt v >>> ((Int32.ofInt s).toInt64 &&& 63)).toInt)
  unfold bytS
  rw [w32_e (by omega) (by omega)]
  exact this

def sp_appC : Spec1 := fun as M Q => match as with
  | [.inr (.inr (.inl (q0, i0))), .inr (.inl v)] => match Nat.beq q0 7 with
    | true => (i0 = 0 ∧ (0 ≤ M 7 0 1 ∧ M 7 0 1 ≤ 232)) ∧ ∀ M9, (M9 7 0 1 = M 7 0 1 + 8 ∧ (∀ p, p ≠ 7 → p ≠ 40 → M9 p = M p) ∧ (∀ i f, f ≠ 1 → M9 7 i f = M 7 i f) ∧ (∀ j, j < M 7 0 1 → M9 40 0 j = M 40 0 j) ∧ (∀ t, 0 ≤ t → t < 8 → M9 40 0 (M 7 0 1 + t) = bytS v (56 - 8 * t))) → Q none M9
    | false => False
  | _ => False
theorem ok_appC {l : Launch} {ω : WP} : ∀ as M Q, sp_appC as M Q → Vd l ω 1 55 as M Q := by
  intro as M Q h
  unfold sp_appC at h
  split at h
  case h_2 => exact h.elim
  rename_i q0 i0 v
  cases hb : Nat.beq q0 7 with
  | false => rw [hb] at h; exact h.elim
  | true =>
  rw [hb] at h
  obtain ⟨⟨hi, h1⟩, hQ⟩ := h
  have hb := beq_eq hb
  subst hb
  subst hi
  refine Vd.ok fun hok hal => ?_
  have key : ∀ n9, CutOK l ω 1 55 (cutL [(3, [0, 1, 3], fun kk vs M9 => ∃ s : Int, vs = [vR 7 0, vL v, vI s] ∧ kk = (s + 8).toNat ∧ (-8 ≤ s ∧ s ≤ 56) ∧ 8 * (M9 7 0 1 - M 7 0 1) = 56 - s ∧ (∀ p, p ≠ 7 → p ≠ 40 → M9 p = M p) ∧ (∀ i f, f ≠ 1 → M9 7 i f = M 7 i f) ∧ (∀ j, j < M 7 0 1 → M9 40 0 j = M 40 0 j) ∧ (∀ t, 0 ≤ t → 8 * t < 56 - s → M9 40 0 (M 7 0 1 + t) = bytS v (56 - 8 * t)))] n9) Q := by
    refine loops (GGf_ok (l := l) (ω := ω)) 200 _ ?_
    refine List.forall_mem_cons.mpr ⟨?_, fun _ h => absurd h List.not_mem_nil⟩
    · rintro n9 vs M9 ⟨s, rfl, rfl, i0, cn, fr, f2, lo, by_⟩
      show wpH _ 200 _ 55 _ true 3 [vR 7 0, vL v, vU, vI s] [] _ Q
      conv => whnf
      repeat' first
        | (refine And.intro (fun h => ?_) (fun h => ?_) <;> (try simp (disch := decide) only [cmp3_lt, cmp3_ge, cmp3_gt, cmp3_le, cmp3_eq, ms_q, ms_f, mf_q, mf_f, mc_q, mc_f, and_self, and_true, true_and, and_false, false_and, or_true, true_or, or_false, false_or, if_true, if_false, not_true_eq_false, not_false_eq_true, eq_self, reduceIte, Int.reduceEq, Int.reduceLT, Int.reduceLE, Int.reduceNeg, Int.reduceAdd, Int.reduceSub, Int.reduceMul, Int.add_sub_cancel] at h) <;> (try simp (disch := omega) only [w32_e, w64_e, td_pos, tm_pos, Int.add_sub_cancel] at h) <;> first | exact absurd rfl h | exact absurd h (by decide) | (exfalso; omega) | (conv => whnf))
        | (refine And.intro (by first | omega | ((try simp (disch := decide) only [cmp3_lt, cmp3_ge, cmp3_gt, cmp3_le, cmp3_eq, ms_q, ms_f, mf_q, mf_f, mc_q, mc_f, and_self, and_true, true_and, and_false, false_and, or_true, true_or, or_false, false_or, if_true, if_false, not_true_eq_false, not_false_eq_true, eq_self, reduceIte, Int.reduceEq, Int.reduceLT, Int.reduceLE, Int.reduceNeg, Int.reduceAdd, Int.reduceSub, Int.reduceMul, Int.add_sub_cancel]); (try simp (disch := omega) only [w32_e, w64_e, td_pos, tm_pos, Int.add_sub_cancel]); first | assumption | omega) | ((try simp (disch := decide) only [cmp3_lt, cmp3_ge, cmp3_gt, cmp3_le, cmp3_eq, ms_q, ms_f, mf_q, mf_f, mc_q, mc_f, and_self, and_true, true_and, and_false, false_and, or_true, true_or, or_false, false_or, if_true, if_false, not_true_eq_false, not_false_eq_true, eq_self, reduceIte, Int.reduceEq, Int.reduceLT, Int.reduceLE, Int.reduceNeg, Int.reduceAdd, Int.reduceSub, Int.reduceMul, Int.add_sub_cancel]); (try simp (disch := omega) only [w32_e, w64_e, td_pos, tm_pos, Int.add_sub_cancel]); (repeat' (first | assumption | rfl | omega | apply And.intro)))) ?_; conv => whnf)
        | (intro v; intro hv; conv => whnf)
      all_goals first
        | (have e9 : s = -8 := by omega
           subst e9
           first
             | exact hQ M9 ⟨by omega, fr, f2, lo, fun t t0 t1 => by_ t t0 (by omega)⟩
             | (refine Eq.mp (congrArg (fun z => Q (some (vI z)) M9) ?_) (hQ M9 ⟨by omega, fr, f2, lo, fun t t0 t1 => by_ t t0 (by omega)⟩); omega))
        | (refine ⟨_, ?_, _, rfl, rfl, ?_, ?_, ?_, ?_, ?_, ?_⟩
           · ((try simp (disch := decide) only [cmp3_lt, cmp3_ge, cmp3_gt, cmp3_le, cmp3_eq, ms_q, ms_f, mf_q, mf_f, mc_q, mc_f, and_self, and_true, true_and, and_false, false_and, or_true, true_or, or_false, false_or, if_true, if_false, not_true_eq_false, not_false_eq_true, eq_self, reduceIte, Int.reduceEq, Int.reduceLT, Int.reduceLE, Int.reduceNeg, Int.reduceAdd, Int.reduceSub, Int.reduceMul, Int.add_sub_cancel]); (try simp (disch := omega) only [w32_e, w64_e, td_pos, tm_pos, Int.add_sub_cancel])); omega
           · ((try simp (disch := decide) only [cmp3_lt, cmp3_ge, cmp3_gt, cmp3_le, cmp3_eq, ms_q, ms_f, mf_q, mf_f, mc_q, mc_f, and_self, and_true, true_and, and_false, false_and, or_true, true_or, or_false, false_or, if_true, if_false, not_true_eq_false, not_false_eq_true, eq_self, reduceIte, Int.reduceEq, Int.reduceLT, Int.reduceLE, Int.reduceNeg, Int.reduceAdd, Int.reduceSub, Int.reduceMul, Int.add_sub_cancel]); (try simp (disch := omega) only [w32_e, w64_e, td_pos, tm_pos, Int.add_sub_cancel])); omega
           · ((try simp (disch := decide) only [cmp3_lt, cmp3_ge, cmp3_gt, cmp3_le, cmp3_eq, ms_q, ms_f, mf_q, mf_f, mc_q, mc_f, and_self, and_true, true_and, and_false, false_and, or_true, true_or, or_false, false_or, if_true, if_false, not_true_eq_false, not_false_eq_true, eq_self, reduceIte, Int.reduceEq, Int.reduceLT, Int.reduceLE, Int.reduceNeg, Int.reduceAdd, Int.reduceSub, Int.reduceMul, Int.add_sub_cancel]); (try simp (disch := omega) only [w32_e, w64_e, td_pos, tm_pos, Int.add_sub_cancel])); omega
           · intro p z0 z1; rw [ms_q z0, ms_q z1]; exact fr p z0 z1
           · intro i f zf
             have q := f2 i f zf
             simp (disch := decide) only [ms_q, ms_f, mf_q, mf_f, mc_q, mc_f]
             rw [if_neg (by omega)]
             exact q
           · intro j j0
             have q := lo j j0
             simp (disch := decide) only [ms_q, ms_f, mf_q, mf_f, mc_q, mc_f, and_self, and_true, true_and, and_false, false_and, or_true, true_or, or_false, false_or, if_true, if_false, not_true_eq_false, not_false_eq_true, eq_self, reduceIte, Int.reduceEq, Int.reduceLT, Int.reduceLE, Int.reduceNeg, Int.reduceAdd, Int.reduceSub, Int.reduceMul, Int.add_sub_cancel]
             rw [if_neg (by omega)]
             exact q
           · intro t t0 t1
             (try simp (disch := omega) only [w32_e] at t1)
             have q := by_ t t0
             simp (disch := decide) only [ms_q, ms_f, mf_q, mf_f, mc_q, mc_f, and_self, and_true, true_and, and_false, false_and, or_true, true_or, or_false, false_or, if_true, if_false, not_true_eq_false, not_false_eq_true, eq_self, reduceIte, Int.reduceEq, Int.reduceLT, Int.reduceLE, Int.reduceNeg, Int.reduceAdd, Int.reduceSub, Int.reduceMul, Int.add_sub_cancel]
             by_cases e : M 7 0 1 + t = M9 7 0 1
             · rw [if_pos e]
               have e2 : 56 - 8 * t = s := by omega
               rw [e2]
               rfl
             · rw [if_neg e]
               exact q (by omega))
  refine Vd_run (GGf_ok (l := l) (ω := ω)) 200 (hC := key 100) (by decide) ?_
  conv => whnf
  repeat' first
    | (refine And.intro (fun h => ?_) (fun h => ?_) <;> (try simp (disch := decide) only [cmp3_lt, cmp3_ge, cmp3_gt, cmp3_le, cmp3_eq, ms_q, ms_f, mf_q, mf_f, mc_q, mc_f, and_self, and_true, true_and, and_false, false_and, or_true, true_or, or_false, false_or, if_true, if_false, not_true_eq_false, not_false_eq_true, eq_self, reduceIte, Int.reduceEq, Int.reduceLT, Int.reduceLE, Int.reduceNeg, Int.reduceAdd, Int.reduceSub, Int.reduceMul, Int.add_sub_cancel] at h) <;> (try simp (disch := omega) only [w32_e, w64_e, td_pos, tm_pos, Int.add_sub_cancel] at h) <;> first | exact absurd rfl h | exact absurd h (by decide) | (exfalso; omega) | (conv => whnf))
    | (refine And.intro (by first | omega | ((try simp (disch := decide) only [cmp3_lt, cmp3_ge, cmp3_gt, cmp3_le, cmp3_eq, ms_q, ms_f, mf_q, mf_f, mc_q, mc_f, and_self, and_true, true_and, and_false, false_and, or_true, true_or, or_false, false_or, if_true, if_false, not_true_eq_false, not_false_eq_true, eq_self, reduceIte, Int.reduceEq, Int.reduceLT, Int.reduceLE, Int.reduceNeg, Int.reduceAdd, Int.reduceSub, Int.reduceMul, Int.add_sub_cancel]); (try simp (disch := omega) only [w32_e, w64_e, td_pos, tm_pos, Int.add_sub_cancel]); first | assumption | omega) | ((try simp (disch := decide) only [cmp3_lt, cmp3_ge, cmp3_gt, cmp3_le, cmp3_eq, ms_q, ms_f, mf_q, mf_f, mc_q, mc_f, and_self, and_true, true_and, and_false, false_and, or_true, true_or, or_false, false_or, if_true, if_false, not_true_eq_false, not_false_eq_true, eq_self, reduceIte, Int.reduceEq, Int.reduceLT, Int.reduceLE, Int.reduceNeg, Int.reduceAdd, Int.reduceSub, Int.reduceMul, Int.add_sub_cancel]); (try simp (disch := omega) only [w32_e, w64_e, td_pos, tm_pos, Int.add_sub_cancel]); (repeat' (first | assumption | rfl | omega | apply And.intro)))) ?_; conv => whnf)
    | (intro v; intro hv; conv => whnf)
  all_goals refine ⟨_, ?_, _, rfl, rfl, ?_, ?_, ?_, ?_, ?_, ?_⟩ <;> first | omega | (intro p _ _; rfl) | (intro i f _; rfl) | (intro j _; rfl) | (intro t t0 t1; omega)

def sp_feedM : Spec1 := fun as M Q => match as with
  | [.inr (.inr (.inl (q0, i0))), .inr (.inl v)] => match Nat.beq q0 13 with
    | true => (i0 = 0 ∧ (0 ≤ M 13 0 28 ∧ M 13 0 28 ≤ 232)) ∧ ∀ M9, (M9 13 0 28 = M 13 0 28 + 8 ∧ (∀ p, p ≠ 13 → p ≠ 90 → M9 p = M p) ∧ (∀ i f, f ≠ 28 → M9 13 i f = M 13 i f) ∧ (∀ j, j < M 13 0 28 → M9 90 0 j = M 90 0 j) ∧ (∀ t, 0 ≤ t → t < 8 → M9 90 0 (M 13 0 28 + t) = bytS v (56 - 8 * t))) → Q (some (vI (M 13 0 28 + 8))) M9
    | false => False
  | _ => False
theorem ok_feedM {l : Launch} {ω : WP} : ∀ as M Q, sp_feedM as M Q → Vd l ω 9 196 as M Q := by
  intro as M Q h
  unfold sp_feedM at h
  split at h
  case h_2 => exact h.elim
  rename_i q0 i0 v
  cases hb : Nat.beq q0 13 with
  | false => rw [hb] at h; exact h.elim
  | true =>
  rw [hb] at h
  obtain ⟨⟨hi, h1⟩, hQ⟩ := h
  have hb := beq_eq hb
  subst hb
  subst hi
  refine Vd.ok fun hok hal => ?_
  have key : ∀ n9, CutOK l ω 9 196 (cutL [(19, [0, 1, 3], fun kk vs M9 => ∃ s : Int, vs = [vR 13 0, vL v, vI s] ∧ kk = (s + 8).toNat ∧ (-8 ≤ s ∧ s ≤ 56) ∧ 8 * (M9 13 0 28 - M 13 0 28) = 56 - s ∧ (∀ p, p ≠ 13 → p ≠ 90 → M9 p = M p) ∧ (∀ i f, f ≠ 28 → M9 13 i f = M 13 i f) ∧ (∀ j, j < M 13 0 28 → M9 90 0 j = M 90 0 j) ∧ (∀ t, 0 ≤ t → 8 * t < 56 - s → M9 90 0 (M 13 0 28 + t) = bytS v (56 - 8 * t)))] n9) Q := by
    refine loops (GGf_ok (l := l) (ω := ω)) 200 _ ?_
    refine List.forall_mem_cons.mpr ⟨?_, fun _ h => absurd h List.not_mem_nil⟩
    · rintro n9 vs M9 ⟨s, rfl, rfl, i0, cn, fr, f2, lo, by_⟩
      show wpH _ 200 _ 196 _ true 19 [vR 13 0, vL v, vU, vI s] [] _ Q
      conv => whnf
      repeat' first
        | (refine And.intro (fun h => ?_) (fun h => ?_) <;> (try simp (disch := decide) only [cmp3_lt, cmp3_ge, cmp3_gt, cmp3_le, cmp3_eq, ms_q, ms_f, mf_q, mf_f, mc_q, mc_f, and_self, and_true, true_and, and_false, false_and, or_true, true_or, or_false, false_or, if_true, if_false, not_true_eq_false, not_false_eq_true, eq_self, reduceIte, Int.reduceEq, Int.reduceLT, Int.reduceLE, Int.reduceNeg, Int.reduceAdd, Int.reduceSub, Int.reduceMul, Int.add_sub_cancel] at h) <;> (try simp (disch := omega) only [w32_e, w64_e, td_pos, tm_pos, Int.add_sub_cancel] at h) <;> first | exact absurd rfl h | exact absurd h (by decide) | (exfalso; omega) | (conv => whnf))
        | (refine And.intro (by first | omega | ((try simp (disch := decide) only [cmp3_lt, cmp3_ge, cmp3_gt, cmp3_le, cmp3_eq, ms_q, ms_f, mf_q, mf_f, mc_q, mc_f, and_self, and_true, true_and, and_false, false_and, or_true, true_or, or_false, false_or, if_true, if_false, not_true_eq_false, not_false_eq_true, eq_self, reduceIte, Int.reduceEq, Int.reduceLT, Int.reduceLE, Int.reduceNeg, Int.reduceAdd, Int.reduceSub, Int.reduceMul, Int.add_sub_cancel]); (try simp (disch := omega) only [w32_e, w64_e, td_pos, tm_pos, Int.add_sub_cancel]); first | assumption | omega) | ((try simp (disch := decide) only [cmp3_lt, cmp3_ge, cmp3_gt, cmp3_le, cmp3_eq, ms_q, ms_f, mf_q, mf_f, mc_q, mc_f, and_self, and_true, true_and, and_false, false_and, or_true, true_or, or_false, false_or, if_true, if_false, not_true_eq_false, not_false_eq_true, eq_self, reduceIte, Int.reduceEq, Int.reduceLT, Int.reduceLE, Int.reduceNeg, Int.reduceAdd, Int.reduceSub, Int.reduceMul, Int.add_sub_cancel]); (try simp (disch := omega) only [w32_e, w64_e, td_pos, tm_pos, Int.add_sub_cancel]); (repeat' (first | assumption | rfl | omega | apply And.intro)))) ?_; conv => whnf)
        | (intro v; intro hv; conv => whnf)
      all_goals first
        | (have e9 : s = -8 := by omega
           subst e9
           first
             | exact hQ M9 ⟨by omega, fr, f2, lo, fun t t0 t1 => by_ t t0 (by omega)⟩
             | (refine Eq.mp (congrArg (fun z => Q (some (vI z)) M9) ?_) (hQ M9 ⟨by omega, fr, f2, lo, fun t t0 t1 => by_ t t0 (by omega)⟩); omega))
        | (refine ⟨_, ?_, _, rfl, rfl, ?_, ?_, ?_, ?_, ?_, ?_⟩
           · ((try simp (disch := decide) only [cmp3_lt, cmp3_ge, cmp3_gt, cmp3_le, cmp3_eq, ms_q, ms_f, mf_q, mf_f, mc_q, mc_f, and_self, and_true, true_and, and_false, false_and, or_true, true_or, or_false, false_or, if_true, if_false, not_true_eq_false, not_false_eq_true, eq_self, reduceIte, Int.reduceEq, Int.reduceLT, Int.reduceLE, Int.reduceNeg, Int.reduceAdd, Int.reduceSub, Int.reduceMul, Int.add_sub_cancel]); (try simp (disch := omega) only [w32_e, w64_e, td_pos, tm_pos, Int.add_sub_cancel])); omega
           · ((try simp (disch := decide) only [cmp3_lt, cmp3_ge, cmp3_gt, cmp3_le, cmp3_eq, ms_q, ms_f, mf_q, mf_f, mc_q, mc_f, and_self, and_true, true_and, and_false, false_and, or_true, true_or, or_false, false_or, if_true, if_false, not_true_eq_false, not_false_eq_true, eq_self, reduceIte, Int.reduceEq, Int.reduceLT, Int.reduceLE, Int.reduceNeg, Int.reduceAdd, Int.reduceSub, Int.reduceMul, Int.add_sub_cancel]); (try simp (disch := omega) only [w32_e, w64_e, td_pos, tm_pos, Int.add_sub_cancel])); omega
           · ((try simp (disch := decide) only [cmp3_lt, cmp3_ge, cmp3_gt, cmp3_le, cmp3_eq, ms_q, ms_f, mf_q, mf_f, mc_q, mc_f, and_self, and_true, true_and, and_false, false_and, or_true, true_or, or_false, false_or, if_true, if_false, not_true_eq_false, not_false_eq_true, eq_self, reduceIte, Int.reduceEq, Int.reduceLT, Int.reduceLE, Int.reduceNeg, Int.reduceAdd, Int.reduceSub, Int.reduceMul, Int.add_sub_cancel]); (try simp (disch := omega) only [w32_e, w64_e, td_pos, tm_pos, Int.add_sub_cancel])); omega
           · intro p z0 z1; rw [ms_q z0, ms_q z1]; exact fr p z0 z1
           · intro i f zf
             have q := f2 i f zf
             simp (disch := decide) only [ms_q, ms_f, mf_q, mf_f, mc_q, mc_f]
             rw [if_neg (by omega)]
             exact q
           · intro j j0
             have q := lo j j0
             simp (disch := decide) only [ms_q, ms_f, mf_q, mf_f, mc_q, mc_f, and_self, and_true, true_and, and_false, false_and, or_true, true_or, or_false, false_or, if_true, if_false, not_true_eq_false, not_false_eq_true, eq_self, reduceIte, Int.reduceEq, Int.reduceLT, Int.reduceLE, Int.reduceNeg, Int.reduceAdd, Int.reduceSub, Int.reduceMul, Int.add_sub_cancel]
             rw [if_neg (by omega)]
             exact q
           · intro t t0 t1
             (try simp (disch := omega) only [w32_e] at t1)
             have q := by_ t t0
             simp (disch := decide) only [ms_q, ms_f, mf_q, mf_f, mc_q, mc_f, and_self, and_true, true_and, and_false, false_and, or_true, true_or, or_false, false_or, if_true, if_false, not_true_eq_false, not_false_eq_true, eq_self, reduceIte, Int.reduceEq, Int.reduceLT, Int.reduceLE, Int.reduceNeg, Int.reduceAdd, Int.reduceSub, Int.reduceMul, Int.add_sub_cancel]
             by_cases e : M 13 0 28 + t = M9 13 0 28
             · rw [if_pos e]
               have e2 : 56 - 8 * t = s := by omega
               rw [e2]
               rfl
             · rw [if_neg e]
               exact q (by omega))
  refine Vd_run (GGf_ok (l := l) (ω := ω)) 200 (hC := key 100) (by decide) ?_
  conv => whnf
  repeat' first
    | (refine And.intro (fun h => ?_) (fun h => ?_) <;> (try simp (disch := decide) only [cmp3_lt, cmp3_ge, cmp3_gt, cmp3_le, cmp3_eq, ms_q, ms_f, mf_q, mf_f, mc_q, mc_f, and_self, and_true, true_and, and_false, false_and, or_true, true_or, or_false, false_or, if_true, if_false, not_true_eq_false, not_false_eq_true, eq_self, reduceIte, Int.reduceEq, Int.reduceLT, Int.reduceLE, Int.reduceNeg, Int.reduceAdd, Int.reduceSub, Int.reduceMul, Int.add_sub_cancel] at h) <;> (try simp (disch := omega) only [w32_e, w64_e, td_pos, tm_pos, Int.add_sub_cancel] at h) <;> first | exact absurd rfl h | exact absurd h (by decide) | (exfalso; omega) | (conv => whnf))
    | (refine And.intro (by first | omega | ((try simp (disch := decide) only [cmp3_lt, cmp3_ge, cmp3_gt, cmp3_le, cmp3_eq, ms_q, ms_f, mf_q, mf_f, mc_q, mc_f, and_self, and_true, true_and, and_false, false_and, or_true, true_or, or_false, false_or, if_true, if_false, not_true_eq_false, not_false_eq_true, eq_self, reduceIte, Int.reduceEq, Int.reduceLT, Int.reduceLE, Int.reduceNeg, Int.reduceAdd, Int.reduceSub, Int.reduceMul, Int.add_sub_cancel]); (try simp (disch := omega) only [w32_e, w64_e, td_pos, tm_pos, Int.add_sub_cancel]); first | assumption | omega) | ((try simp (disch := decide) only [cmp3_lt, cmp3_ge, cmp3_gt, cmp3_le, cmp3_eq, ms_q, ms_f, mf_q, mf_f, mc_q, mc_f, and_self, and_true, true_and, and_false, false_and, or_true, true_or, or_false, false_or, if_true, if_false, not_true_eq_false, not_false_eq_true, eq_self, reduceIte, Int.reduceEq, Int.reduceLT, Int.reduceLE, Int.reduceNeg, Int.reduceAdd, Int.reduceSub, Int.reduceMul, Int.add_sub_cancel]); (try simp (disch := omega) only [w32_e, w64_e, td_pos, tm_pos, Int.add_sub_cancel]); (repeat' (first | assumption | rfl | omega | apply And.intro)))) ?_; conv => whnf)
    | (intro v; intro hv; conv => whnf)
  all_goals refine ⟨_, ?_, _, rfl, rfl, ?_, ?_, ?_, ?_, ?_, ?_⟩ <;> first | omega | (intro p _ _; rfl) | (intro i f _; rfl) | (intro j _; rfl) | (intro t t0 t1; omega)

def GLg : List (Nat × Nat × Spec1) := (55, 1, sp_appC) :: GLf
abbrev GGg : Env1 := fun n => getG n GLg
theorem GGg_all {l : Launch} {ω : WP} : ∀ e ∈ GLg, ∀ as M Q, e.2.2 as M Q → Vd l ω e.2.1 e.1 as M Q := List.forall_mem_cons.mpr ⟨ok_appC, GGf_all⟩
theorem GGg_ok {l : Launch} {ω : WP} : GOK l ω GGg := getG_ok GLg GGg_all

theorem inv_feed {c : Int} {M M1 M2 : Mem} {v : Int} (hu : M 7 0 1 ≤ 232) (h1 : M1 7 0 1 = M 7 0 1 + 8 ∧ (∀ p, p ≠ 7 → p ≠ 40 → M1 p = M p) ∧ (∀ i f, f ≠ 1 → M1 7 i f = M 7 i f) ∧ (∀ j, j < M 7 0 1 → M1 40 0 j = M 40 0 j) ∧ (∀ t, 0 ≤ t → t < 8 → M1 40 0 (M 7 0 1 + t) = bytS v (56 - 8 * t))) (h2 : M2 13 0 28 = M1 13 0 28 + 8 ∧ (∀ p, p ≠ 13 → p ≠ 90 → M2 p = M1 p) ∧ (∀ i f, f ≠ 28 → M2 13 i f = M1 13 i f) ∧ (∀ j, j < M1 13 0 28 → M2 90 0 j = M1 90 0 j) ∧ (∀ t, 0 ≤ t → t < 8 → M2 90 0 (M1 13 0 28 + t) = bytS v (56 - 8 * t))) (hc : c < 512) (hI : Inv c M) : Inv (c + 1) M2 := by
  obtain ⟨h0, hN, hS, hR, hK, hG, hW, hJ, hT, hA, hP, hO, hH⟩ := hI
  obtain ⟨c1, f1, g1, l1, v1⟩ := h1
  obtain ⟨c2, f2, g2, l2, v2⟩ := h2
  have fr : ∀ p, p ≠ 7 → p ≠ 40 → p ≠ 13 → p ≠ 90 → M2 p = M p := fun p a b c d => (f2 p c d).trans (f1 p a b)
  have e13 : M1 13 = M 13 := f1 13 (by decide) (by decide)
  have e90 : M1 90 = M 90 := f1 90 (by decide) (by decide)
  have e40 : M2 40 = M1 40 := f2 40 (by decide) (by decide)
  have e7 : M2 7 = M1 7 := f2 7 (by decide) (by decide)
  rw [e13, e90] at l2
  rw [e13] at v2
  rw [e13] at c2 g2
  refine ⟨by omega, ?_, ?_, ?_, ?_, ?_, ?_, ?_, ?_, ?_, ?_, ?_, ?_⟩
  all_goals first
    | (have q := hN; simp (disch := decide) only [INet, ms_q, ms_f, mf_q, mf_f, mc_q, mc_f, fr, g2] at q ⊢; exact q)
    | (have q := hS; simp (disch := decide) only [IStp, ms_q, ms_f, mf_q, mf_f, mc_q, mc_f, fr, g2] at q ⊢; exact q)
    | (have q := hR; simp (disch := decide) only [IRou, ms_q, ms_f, mf_q, mf_f, mc_q, mc_f, fr, g2] at q ⊢; exact q)
    | (have q := hK; simp (disch := decide) only [ISky, ms_q, ms_f, mf_q, mf_f, mc_q, mc_f, fr, g2] at q ⊢; exact q)
    | (have q := hG; simp (disch := decide) only [IGui, ms_q, ms_f, mf_q, mf_f, mc_q, mc_f, fr, g2] at q ⊢; exact q)
    | (have q := hW.next; simp (disch := decide) only [INow, ms_q, ms_f, mf_q, mf_f, mc_q, mc_f, fr, g2] at q ⊢; exact q)
    | (have q := hJ.next; simp (disch := decide) only [IImg, ms_q, ms_f, mf_q, mf_f, mc_q, mc_f, fr, g2] at q ⊢; exact q)
    | (have q := hA; simp (disch := decide) only [ISta, ms_q, ms_f, mf_q, mf_f, mc_q, mc_f, fr, g2] at q ⊢; exact q)
    | (have q := hP; simp (disch := decide) only [IPpl, ms_q, ms_f, mf_q, mf_f, mc_q, mc_f, fr, g2] at q ⊢; exact q)
    | (have q := hO; simp (disch := decide) only [IRop, ms_q, ms_f, mf_q, mf_f, mc_q, mc_f, fr, g2] at q ⊢; exact q)
    | (have q := hH; simp (disch := decide) only [IHrs, ms_q, ms_f, mf_q, mf_f, mc_q, mc_f, fr, g2] at q ⊢; exact q)
    | skip
  · obtain ⟨t1, t2, t3, t4⟩ := hT
    have q6 : M2 7 0 6 = M 7 0 6 := by rw [e7]; exact g1 0 6 (by decide)
    have q33 : M2 13 0 33 = M 13 0 33 := g2 0 33 (by decide)
    have q1 : M2 7 0 1 = M 7 0 1 + 8 := by rw [e7]; exact c1
    refine ⟨by omega, by omega, fun j j0 j1 => ?_, by omega⟩
    rw [e40]
    by_cases e : j < M 7 0 1
    · rw [l2 j (by omega), l1 j e]
      exact t3 j j0 e
    · have a := v1 (j - M 7 0 1) (by omega) (by omega)
      have b := v2 (j - M 13 0 28) (by omega) (by omega)
      have ea : M 7 0 1 + (j - M 7 0 1) = j := by omega
      have eb : M 13 0 28 + (j - M 13 0 28) = j := by omega
      rw [ea] at a
      rw [eb] at b
      rw [a, b, t1]
      exact ⟨rfl, bytS_in v _⟩

theorem pair_feed {l : Launch} {ω : WP} {c : Int} {M : Mem} {v : Int} (hv : in64 v)  (hc : c < 512) (hI : Inv c M) : Vd l ω 9 128 [vR 0 0, vL v] M (PQ1 l ω c 196 [vL v]) := by
  have hI0 := hI
  obtain ⟨h0, hN, hS, hR, hK, hG, hW, hJ, hT, hA, hP, hO, hH⟩ := hI
  have b1 := hN.1
  have b2 := hN.2.2.1
  have b3 := hS.1
  have b4 := hS.2.2.1
  have b5 := hR.1
  have b6 := hR.2.2.2.1
  have b7 := hG.1
  have b8 := hG.2.2.1
  have c1 := hT.1
  have c2 := hT.2.1
  refine Vd_run (GGg_ok (l := l) (ω := ω)) 400 (cut := fun _ => none) (by decide) CutOK_none ?_
  conv => whnf
  repeat' first
    | (refine And.intro (fun h => ?_) (fun h => ?_) <;> (try simp (disch := decide) only [cmp3_lt, cmp3_ge, cmp3_gt, cmp3_le, cmp3_eq, ms_q, ms_f, mf_q, mf_f, mc_q, mc_f, and_self, and_true, true_and, and_false, false_and, or_true, true_or, or_false, false_or, if_true, if_false, not_true_eq_false, not_false_eq_true, eq_self, reduceIte, Int.reduceEq, Int.reduceLT, Int.reduceLE, Int.reduceNeg, Int.reduceAdd, Int.reduceSub, Int.reduceMul, Int.add_sub_cancel] at h) <;> (try simp (disch := omega) only [w32_e, w64_e, td_pos, tm_pos, Int.add_sub_cancel] at h) <;> first | exact absurd rfl h | exact absurd h (by decide) | (exfalso; omega) | (conv => whnf))
    | (refine And.intro (by first | omega | ((try simp (disch := decide) only [cmp3_lt, cmp3_ge, cmp3_gt, cmp3_le, cmp3_eq, ms_q, ms_f, mf_q, mf_f, mc_q, mc_f, and_self, and_true, true_and, and_false, false_and, or_true, true_or, or_false, false_or, if_true, if_false, not_true_eq_false, not_false_eq_true, eq_self, reduceIte, Int.reduceEq, Int.reduceLT, Int.reduceLE, Int.reduceNeg, Int.reduceAdd, Int.reduceSub, Int.reduceMul, Int.add_sub_cancel]); (try simp (disch := omega) only [w32_e, w64_e, td_pos, tm_pos, Int.add_sub_cancel]); first | assumption | omega) | ((try simp (disch := decide) only [cmp3_lt, cmp3_ge, cmp3_gt, cmp3_le, cmp3_eq, ms_q, ms_f, mf_q, mf_f, mc_q, mc_f, and_self, and_true, true_and, and_false, false_and, or_true, true_or, or_false, false_or, if_true, if_false, not_true_eq_false, not_false_eq_true, eq_self, reduceIte, Int.reduceEq, Int.reduceLT, Int.reduceLE, Int.reduceNeg, Int.reduceAdd, Int.reduceSub, Int.reduceMul, Int.add_sub_cancel]); (try simp (disch := omega) only [w32_e, w64_e, td_pos, tm_pos, Int.add_sub_cancel]); (repeat' (first | assumption | rfl | omega | apply And.intro)))) ?_; conv => whnf)
    | (intro v; intro hv; conv => whnf)
  all_goals refine ⟨0, _, rfl, ?_⟩
  all_goals first
    | (obtain ⟨k1, k2, k3⟩ := id hv
       have e13 : v 13 = M 13 := k2 13 (by decide) (by decide)
       refine ok_feedM _ _ _ ⟨⟨rfl, by rw [e13]; omega⟩, fun M9 q => ⟨0, congrArg (fun z => some (vI z)) (by rw [e13]; omega), ?_⟩⟩
       exact inv_feed (by omega) hv q hc hI0)
    | skip
  all_goals refine Vd_run (GGg_ok (l := l) (ω := ω)) 400 (cut := fun _ => none) (by decide) CutOK_none ?_
  all_goals conv => whnf
  all_goals repeat' first
    | (refine And.intro (fun h => ?_) (fun h => ?_) <;> (try simp (disch := decide) only [cmp3_lt, cmp3_ge, cmp3_gt, cmp3_le, cmp3_eq, ms_q, ms_f, mf_q, mf_f, mc_q, mc_f, and_self, and_true, true_and, and_false, false_and, or_true, true_or, or_false, false_or, if_true, if_false, not_true_eq_false, not_false_eq_true, eq_self, reduceIte, Int.reduceEq, Int.reduceLT, Int.reduceLE, Int.reduceNeg, Int.reduceAdd, Int.reduceSub, Int.reduceMul, Int.add_sub_cancel] at h) <;> (try simp (disch := omega) only [w32_e, w64_e, td_pos, tm_pos, Int.add_sub_cancel] at h) <;> first | exact absurd rfl h | exact absurd h (by decide) | (exfalso; omega) | (conv => whnf))
    | (refine And.intro (by first | omega | ((try simp (disch := decide) only [cmp3_lt, cmp3_ge, cmp3_gt, cmp3_le, cmp3_eq, ms_q, ms_f, mf_q, mf_f, mc_q, mc_f, and_self, and_true, true_and, and_false, false_and, or_true, true_or, or_false, false_or, if_true, if_false, not_true_eq_false, not_false_eq_true, eq_self, reduceIte, Int.reduceEq, Int.reduceLT, Int.reduceLE, Int.reduceNeg, Int.reduceAdd, Int.reduceSub, Int.reduceMul, Int.add_sub_cancel]); (try simp (disch := omega) only [w32_e, w64_e, td_pos, tm_pos, Int.add_sub_cancel]); first | assumption | omega) | ((try simp (disch := decide) only [cmp3_lt, cmp3_ge, cmp3_gt, cmp3_le, cmp3_eq, ms_q, ms_f, mf_q, mf_f, mc_q, mc_f, and_self, and_true, true_and, and_false, false_and, or_true, true_or, or_false, false_or, if_true, if_false, not_true_eq_false, not_false_eq_true, eq_self, reduceIte, Int.reduceEq, Int.reduceLT, Int.reduceLE, Int.reduceNeg, Int.reduceAdd, Int.reduceSub, Int.reduceMul, Int.add_sub_cancel]); (try simp (disch := omega) only [w32_e, w64_e, td_pos, tm_pos, Int.add_sub_cancel]); (repeat' (first | assumption | rfl | omega | apply And.intro)))) ?_; conv => whnf)
    | (intro v; intro hv; conv => whnf)
  all_goals refine ⟨0, ?_, ?_⟩
  all_goals ((try simp (disch := decide) only [cmp3_lt, cmp3_ge, cmp3_gt, cmp3_le, cmp3_eq, ms_q, ms_f, mf_q, mf_f, mc_q, mc_f, and_self, and_true, true_and, and_false, false_and, or_true, true_or, or_false, false_or, if_true, if_false, not_true_eq_false, not_false_eq_true, eq_self, reduceIte, Int.reduceEq, Int.reduceLT, Int.reduceLE, Int.reduceNeg, Int.reduceAdd, Int.reduceSub, Int.reduceMul, Int.add_sub_cancel] at *); (try simp (disch := omega) only [w32_e, w64_e, td_pos, tm_pos, Int.add_sub_cancel] at *))
  all_goals first
    | exact Inv.next hc hI0
    | exact congrArg (fun z => some (vI z)) (by omega)
    | exact congrArg (fun z => some (vL z)) (by omega)
    | (exfalso; omega)
    | skip
