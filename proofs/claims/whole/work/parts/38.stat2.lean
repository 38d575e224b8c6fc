/-! ===== lines asked (wip/gen/p16.py) ===== -/
def sp_fhC : Spec1 := fun as M Q => match as with
  | [.inr (.inr (.inl (q0, i0))), .inl κ] => match Nat.beq q0 8 with
    | true => (i0 = 0 ∧ ISta M ∧ okV (M 48 0) ∧ M 13 0 35 = M 8 0 6) ∧ ∀ M9, (∀ p, p ≠ 49 → M9 p = M p) → Q (some (vI (fhN (M 46 0) (wkL M (M 48 0)) κ (M 8 0 6 - 0).toNat 0))) M9
    | false => False
  | _ => False
theorem ok_fhC {l : Launch} {ω : WP} : ∀ as M Q, sp_fhC as M Q → Vd l ω 5 24 as M Q := by
  intro as M Q h
  unfold sp_fhC at h
  split at h
  case h_2 => exact h.elim
  rename_i q0 i0 κ
  cases hb : Nat.beq q0 8 with
  | false => rw [hb] at h; exact h.elim
  | true =>
  rw [hb] at h
  obtain ⟨⟨hi, hA, ho, hl⟩, hQ⟩ := h
  have hb := beq_eq hb
  subst hb
  subst hi
  refine Vd.ok fun hok hal => ?_
  have hn := hA.2.1
  have key : ∀ n9, CutOK l ω 5 24 (cutL [(2, [0, 1, 2], fun kk vs M9 => ∃ z : Int, vs = [vR 8 0, vI κ, vI z] ∧ kk = (M 8 0 6 - z).toNat ∧ (0 ≤ z ∧ z ≤ M 8 0 6) ∧ (∀ p, p ≠ 49 → M9 p = M p) ∧ fhN (M 46 0) (wkL M (M 48 0)) κ (M 8 0 6 - z).toNat z = fhN (M 46 0) (wkL M (M 48 0)) κ (M 8 0 6 - 0).toNat 0)] n9) Q := by
    refine loops (GGl_ok (l := l) (ω := ω)) 300 _ ?_
    refine List.forall_mem_cons.mpr ⟨?_, fun _ h => absurd h List.not_mem_nil⟩
    · rintro n9 vs M9 ⟨z, rfl, rfl, z0, fr, iv⟩
      have e8 : M9 8 = M 8 := fr 8 (by decide)
      have e13 : M9 13 = M 13 := fr 13 (by decide)
      have e45 : M9 45 = M 45 := fr 45 (by decide)
      have e46 : M9 46 = M 46 := fr 46 (by decide)
      have e47 : M9 47 = M 47 := fr 47 (by decide)
      have e48 : M9 48 = M 48 := fr 48 (by decide)
      have e91 : M9 91 = M 91 := fr 91 (by decide)
      have e92 : M9 92 = M 92 := fr 92 (by decide)
      have e93 : M9 93 = M 93 := fr 93 (by decide)
      have e98 : M9 98 = M 98 := fr 98 (by decide)
      have wm : wkL M9 = wkL M := wkL_mem e45 e47
      have kz := hl
      have hA9 : ISta M9 := by simp (disch := decide) only [ISta, fr]; exact hA
      have ho9 : okV (M9 48 0) := by rw [e48]; exact ho
      by_cases hi : z < M 8 0 6
      case neg =>
        show wpH _ 300 _ 24 _ true 2 [vR 8 0, vI κ, vI z] [] _ Q
        conv => whnf
        repeat' first
          | (refine And.intro (fun h => ?_) (fun h => ?_) <;> (try simp (disch := decide) only [cmp3_lt, cmp3_ge, cmp3_gt, cmp3_le, cmp3_eq, ms_q, ms_f, mf_q, mf_f, mc_q, mc_f, and_self, and_true, true_and, and_false, false_and, or_true, true_or, or_false, false_or, if_true, if_false, not_true_eq_false, not_false_eq_true, eq_self, reduceIte, Int.reduceEq, Int.reduceLT, Int.reduceLE, Int.reduceNeg, Int.reduceAdd, Int.reduceSub, Int.reduceMul, Int.add_sub_cancel] at h) <;> (try simp (disch := omega) only [w32_e, w64_e, td_pos, tm_pos, Int.add_sub_cancel, e8, e13, e46, e91, e48, e98, wm, hl, kz] at h) <;> first | exact absurd rfl h | exact absurd h (by decide) | (exfalso; omega) | (conv => whnf))
          | (refine And.intro (by first | omega | ((try simp (disch := decide) only [cmp3_lt, cmp3_ge, cmp3_gt, cmp3_le, cmp3_eq, ms_q, ms_f, mf_q, mf_f, mc_q, mc_f, and_self, and_true, true_and, and_false, false_and, or_true, true_or, or_false, false_or, if_true, if_false, not_true_eq_false, not_false_eq_true, eq_self, reduceIte, Int.reduceEq, Int.reduceLT, Int.reduceLE, Int.reduceNeg, Int.reduceAdd, Int.reduceSub, Int.reduceMul, Int.add_sub_cancel]); (try simp (disch := omega) only [w32_e, w64_e, td_pos, tm_pos, Int.add_sub_cancel, e8, e13, e46, e91, e48, e98, wm, hl, kz]); first | assumption | omega) | ((try simp (disch := decide) only [cmp3_lt, cmp3_ge, cmp3_gt, cmp3_le, cmp3_eq, ms_q, ms_f, mf_q, mf_f, mc_q, mc_f, and_self, and_true, true_and, and_false, false_and, or_true, true_or, or_false, false_or, if_true, if_false, not_true_eq_false, not_false_eq_true, eq_self, reduceIte, Int.reduceEq, Int.reduceLT, Int.reduceLE, Int.reduceNeg, Int.reduceAdd, Int.reduceSub, Int.reduceMul, Int.add_sub_cancel]); (try simp (disch := omega) only [w32_e, w64_e, td_pos, tm_pos, Int.add_sub_cancel, e8, e13, e46, e91, e48, e98, wm, hl, kz]); (repeat' (first | assumption | omega | with_reducible rfl | apply And.intro)))) ?_; conv => whnf)
          | (intro v; intro hv; conv => whnf)
        all_goals (refine Eq.mp (congrArg (fun z => Q (some (vI z)) M9) ?_) (hQ M9 fr); rw [← iv]; exact fhN_c (by omega))
      have hsg : SegL M9 z := hA9.seg z0.1 (by rw [e8]; exact hi)
      have hbg : 0 ≤ bgC M9 z ∧ bgC M9 z ≤ M9 47 0 z ∧ M9 47 0 z ≤ 240 := (hA9.2.2 z z0.1 (by rw [e8]; exact hi)).2.1
      have hbm : 0 ≤ M9 92 0 z ∧ M9 92 0 (z + 1) ≤ 300 := (hA9.2.2 z z0.1 (by rw [e8]; exact hi)).2.2.1
      have kz : M 91 0 z = M 46 0 z := (hA.2.2 z z0.1 hi).1.1
      have wi := wkL_in hA ho z0.1 hi
      show wpH _ 300 _ 24 _ true 2 [vR 8 0, vI κ, vI z] [] _ Q
      conv => whnf
      repeat' first
        | (refine And.intro (fun h => ?_) (fun h => ?_) <;> (try simp (disch := decide) only [cmp3_lt, cmp3_ge, cmp3_gt, cmp3_le, cmp3_eq, ms_q, ms_f, mf_q, mf_f, mc_q, mc_f, and_self, and_true, true_and, and_false, false_and, or_true, true_or, or_false, false_or, if_true, if_false, not_true_eq_false, not_false_eq_true, eq_self, reduceIte, Int.reduceEq, Int.reduceLT, Int.reduceLE, Int.reduceNeg, Int.reduceAdd, Int.reduceSub, Int.reduceMul, Int.add_sub_cancel] at h) <;> (try simp (disch := omega) only [w32_e, w64_e, td_pos, tm_pos, Int.add_sub_cancel, e8, e13, e46, e91, e48, e98, wm, hl, kz] at h) <;> first | exact absurd rfl h | exact absurd h (by decide) | (exfalso; omega) | (conv => whnf))
        | (refine And.intro (by first | omega | ((try simp (disch := decide) only [cmp3_lt, cmp3_ge, cmp3_gt, cmp3_le, cmp3_eq, ms_q, ms_f, mf_q, mf_f, mc_q, mc_f, and_self, and_true, true_and, and_false, false_and, or_true, true_or, or_false, false_or, if_true, if_false, not_true_eq_false, not_false_eq_true, eq_self, reduceIte, Int.reduceEq, Int.reduceLT, Int.reduceLE, Int.reduceNeg, Int.reduceAdd, Int.reduceSub, Int.reduceMul, Int.add_sub_cancel]); (try simp (disch := omega) only [w32_e, w64_e, td_pos, tm_pos, Int.add_sub_cancel, e8, e13, e46, e91, e48, e98, wm, hl, kz]); first | assumption | omega) | ((try simp (disch := decide) only [cmp3_lt, cmp3_ge, cmp3_gt, cmp3_le, cmp3_eq, ms_q, ms_f, mf_q, mf_f, mc_q, mc_f, and_self, and_true, true_and, and_false, false_and, or_true, true_or, or_false, false_or, if_true, if_false, not_true_eq_false, not_false_eq_true, eq_self, reduceIte, Int.reduceEq, Int.reduceLT, Int.reduceLE, Int.reduceNeg, Int.reduceAdd, Int.reduceSub, Int.reduceMul, Int.add_sub_cancel]); (try simp (disch := omega) only [w32_e, w64_e, td_pos, tm_pos, Int.add_sub_cancel, e8, e13, e46, e91, e48, e98, wm, hl, kz]); (repeat' (first | assumption | omega | with_reducible rfl | apply And.intro)))) ?_; conv => whnf)
        | (intro v; intro hv; conv => whnf)
      all_goals first
        | (refine Eq.mp (congrArg (fun z => Q (some (vI z)) v) ?_) (hQ v (fun p z0 => (hv p z0).trans (fr p z0))); rw [← iv]; exact fhN_a hi ⟨by omega, by omega⟩)
        | (refine ⟨_, ?_, _, rfl, rfl, ?_, ?_, ?_⟩
           · ((try simp (disch := decide) only [cmp3_lt, cmp3_ge, cmp3_gt, cmp3_le, cmp3_eq, ms_q, ms_f, mf_q, mf_f, mc_q, mc_f, and_self, and_true, true_and, and_false, false_and, or_true, true_or, or_false, false_or, if_true, if_false, not_true_eq_false, not_false_eq_true, eq_self, reduceIte, Int.reduceEq, Int.reduceLT, Int.reduceLE, Int.reduceNeg, Int.reduceAdd, Int.reduceSub, Int.reduceMul, Int.add_sub_cancel]); (try simp (disch := omega) only [w32_e, w64_e, td_pos, tm_pos, Int.add_sub_cancel, e8, e13, e46, e91, e48, e98, wm, hl, kz])) <;> omega
           · ((try simp (disch := decide) only [cmp3_lt, cmp3_ge, cmp3_gt, cmp3_le, cmp3_eq, ms_q, ms_f, mf_q, mf_f, mc_q, mc_f, and_self, and_true, true_and, and_false, false_and, or_true, true_or, or_false, false_or, if_true, if_false, not_true_eq_false, not_false_eq_true, eq_self, reduceIte, Int.reduceEq, Int.reduceLT, Int.reduceLE, Int.reduceNeg, Int.reduceAdd, Int.reduceSub, Int.reduceMul, Int.add_sub_cancel]); (try simp (disch := omega) only [w32_e, w64_e, td_pos, tm_pos, Int.add_sub_cancel, e8, e13, e46, e91, e48, e98, wm, hl, kz])) <;> omega
           · first | exact fr | exact fun p z0 => (hv p z0).trans (fr p z0)
           · ((try simp (disch := decide) only [cmp3_lt, cmp3_ge, cmp3_gt, cmp3_le, cmp3_eq, ms_q, ms_f, mf_q, mf_f, mc_q, mc_f, and_self, and_true, true_and, and_false, false_and, or_true, true_or, or_false, false_or, if_true, if_false, not_true_eq_false, not_false_eq_true, eq_self, reduceIte, Int.reduceEq, Int.reduceLT, Int.reduceLE, Int.reduceNeg, Int.reduceAdd, Int.reduceSub, Int.reduceMul, Int.add_sub_cancel]); (try simp (disch := omega) only [w32_e, w64_e, td_pos, tm_pos, Int.add_sub_cancel, e8, e13, e46, e91, e48, e98, wm, hl, kz]))
             rw [← iv]
             exact (fhN_b hi (by omega)).symm)
  refine Vd_run (GGl_ok (l := l) (ω := ω)) 300 (hC := key 1000) (by decide) ?_
  conv => whnf
  repeat' first
    | (refine And.intro (fun h => ?_) (fun h => ?_) <;> (try simp (disch := decide) only [cmp3_lt, cmp3_ge, cmp3_gt, cmp3_le, cmp3_eq, ms_q, ms_f, mf_q, mf_f, mc_q, mc_f, and_self, and_true, true_and, and_false, false_and, or_true, true_or, or_false, false_or, if_true, if_false, not_true_eq_false, not_false_eq_true, eq_self, reduceIte, Int.reduceEq, Int.reduceLT, Int.reduceLE, Int.reduceNeg, Int.reduceAdd, Int.reduceSub, Int.reduceMul, Int.add_sub_cancel] at h) <;> (try simp (disch := omega) only [w32_e, w64_e, td_pos, tm_pos, Int.add_sub_cancel, hl] at h) <;> first | exact absurd rfl h | exact absurd h (by decide) | (exfalso; omega) | (conv => whnf))
    | (refine And.intro (by first | omega | ((try simp (disch := decide) only [cmp3_lt, cmp3_ge, cmp3_gt, cmp3_le, cmp3_eq, ms_q, ms_f, mf_q, mf_f, mc_q, mc_f, and_self, and_true, true_and, and_false, false_and, or_true, true_or, or_false, false_or, if_true, if_false, not_true_eq_false, not_false_eq_true, eq_self, reduceIte, Int.reduceEq, Int.reduceLT, Int.reduceLE, Int.reduceNeg, Int.reduceAdd, Int.reduceSub, Int.reduceMul, Int.add_sub_cancel]); (try simp (disch := omega) only [w32_e, w64_e, td_pos, tm_pos, Int.add_sub_cancel, hl]); first | assumption | omega) | ((try simp (disch := decide) only [cmp3_lt, cmp3_ge, cmp3_gt, cmp3_le, cmp3_eq, ms_q, ms_f, mf_q, mf_f, mc_q, mc_f, and_self, and_true, true_and, and_false, false_and, or_true, true_or, or_false, false_or, if_true, if_false, not_true_eq_false, not_false_eq_true, eq_self, reduceIte, Int.reduceEq, Int.reduceLT, Int.reduceLE, Int.reduceNeg, Int.reduceAdd, Int.reduceSub, Int.reduceMul, Int.add_sub_cancel]); (try simp (disch := omega) only [w32_e, w64_e, td_pos, tm_pos, Int.add_sub_cancel, hl]); (repeat' (first | assumption | omega | with_reducible rfl | apply And.intro)))) ?_; conv => whnf)
    | (intro v; intro hv; conv => whnf)
  all_goals refine ⟨_, ?_, _, rfl, rfl, ?_, ?_, rfl⟩ <;> first | omega | (intro p _; rfl)

def sp_fhM : Spec1 := fun as M Q => match as with
  | [.inr (.inr (.inl (q0, i0)))] => match Nat.beq q0 13 with
    | true => (i0 = 0 ∧ ISta M ∧ okV (M 98 0) ∧ M 13 0 35 = M 8 0 6) ∧ ∀ M9, (∀ p, p ≠ 99 → M9 p = M p) → Q (some (vI (fhN (M 46 0) (wkL M (M 98 0)) 0 (M 8 0 6 - 0).toNat 0))) M9
    | false => False
  | _ => False
theorem ok_fhM {l : Launch} {ω : WP} : ∀ as M Q, sp_fhM as M Q → Vd l ω 5 220 as M Q := by
  intro as M Q h
  unfold sp_fhM at h
  split at h
  case h_2 => exact h.elim
  rename_i q0 i0 
  cases hb : Nat.beq q0 13 with
  | false => rw [hb] at h; exact h.elim
  | true =>
  rw [hb] at h
  obtain ⟨⟨hi, hA, ho, hl⟩, hQ⟩ := h
  have hb := beq_eq hb
  subst hb
  subst hi
  refine Vd.ok fun hok hal => ?_
  have hn := hA.2.1
  have key : ∀ n9, CutOK l ω 5 220 (cutL [(2, [0, 1], fun kk vs M9 => ∃ z : Int, vs = [vR 13 0, vI z] ∧ kk = (M 8 0 6 - z).toNat ∧ (0 ≤ z ∧ z ≤ M 8 0 6) ∧ (∀ p, p ≠ 99 → M9 p = M p) ∧ fhN (M 46 0) (wkL M (M 98 0)) 0 (M 8 0 6 - z).toNat z = fhN (M 46 0) (wkL M (M 98 0)) 0 (M 8 0 6 - 0).toNat 0)] n9) Q := by
    refine loops (GGl_ok (l := l) (ω := ω)) 300 _ ?_
    refine List.forall_mem_cons.mpr ⟨?_, fun _ h => absurd h List.not_mem_nil⟩
    · rintro n9 vs M9 ⟨z, rfl, rfl, z0, fr, iv⟩
      have e8 : M9 8 = M 8 := fr 8 (by decide)
      have e13 : M9 13 = M 13 := fr 13 (by decide)
      have e45 : M9 45 = M 45 := fr 45 (by decide)
      have e46 : M9 46 = M 46 := fr 46 (by decide)
      have e47 : M9 47 = M 47 := fr 47 (by decide)
      have e48 : M9 48 = M 48 := fr 48 (by decide)
      have e91 : M9 91 = M 91 := fr 91 (by decide)
      have e92 : M9 92 = M 92 := fr 92 (by decide)
      have e93 : M9 93 = M 93 := fr 93 (by decide)
      have e98 : M9 98 = M 98 := fr 98 (by decide)
      have wm : wkL M9 = wkL M := wkL_mem e45 e47
      have kz := hl
      have hA9 : ISta M9 := by simp (disch := decide) only [ISta, fr]; exact hA
      have ho9 : okV (M9 98 0) := by rw [e98]; exact ho
      by_cases hi : z < M 8 0 6
      case neg =>
        show wpH _ 300 _ 220 _ true 2 [vR 13 0, vI z] [] _ Q
        conv => whnf
        repeat' first
          | (refine And.intro (fun h => ?_) (fun h => ?_) <;> (try simp (disch := decide) only [cmp3_lt, cmp3_ge, cmp3_gt, cmp3_le, cmp3_eq, ms_q, ms_f, mf_q, mf_f, mc_q, mc_f, and_self, and_true, true_and, and_false, false_and, or_true, true_or, or_false, false_or, if_true, if_false, not_true_eq_false, not_false_eq_true, eq_self, reduceIte, Int.reduceEq, Int.reduceLT, Int.reduceLE, Int.reduceNeg, Int.reduceAdd, Int.reduceSub, Int.reduceMul, Int.add_sub_cancel] at h) <;> (try simp (disch := omega) only [w32_e, w64_e, td_pos, tm_pos, Int.add_sub_cancel, e8, e13, e46, e91, e48, e98, wm, hl, kz] at h) <;> first | exact absurd rfl h | exact absurd h (by decide) | (exfalso; omega) | (conv => whnf))
          | (refine And.intro (by first | omega | ((try simp (disch := decide) only [cmp3_lt, cmp3_ge, cmp3_gt, cmp3_le, cmp3_eq, ms_q, ms_f, mf_q, mf_f, mc_q, mc_f, and_self, and_true, true_and, and_false, false_and, or_true, true_or, or_false, false_or, if_true, if_false, not_true_eq_false, not_false_eq_true, eq_self, reduceIte, Int.reduceEq, Int.reduceLT, Int.reduceLE, Int.reduceNeg, Int.reduceAdd, Int.reduceSub, Int.reduceMul, Int.add_sub_cancel]); (try simp (disch := omega) only [w32_e, w64_e, td_pos, tm_pos, Int.add_sub_cancel, e8, e13, e46, e91, e48, e98, wm, hl, kz]); first | assumption | omega) | ((try simp (disch := decide) only [cmp3_lt, cmp3_ge, cmp3_gt, cmp3_le, cmp3_eq, ms_q, ms_f, mf_q, mf_f, mc_q, mc_f, and_self, and_true, true_and, and_false, false_and, or_true, true_or, or_false, false_or, if_true, if_false, not_true_eq_false, not_false_eq_true, eq_self, reduceIte, Int.reduceEq, Int.reduceLT, Int.reduceLE, Int.reduceNeg, Int.reduceAdd, Int.reduceSub, Int.reduceMul, Int.add_sub_cancel]); (try simp (disch := omega) only [w32_e, w64_e, td_pos, tm_pos, Int.add_sub_cancel, e8, e13, e46, e91, e48, e98, wm, hl, kz]); (repeat' (first | assumption | omega | with_reducible rfl | apply And.intro)))) ?_; conv => whnf)
          | (intro v; intro hv; conv => whnf)
        all_goals (refine Eq.mp (congrArg (fun z => Q (some (vI z)) M9) ?_) (hQ M9 fr); rw [← iv]; exact fhN_c (by omega))
      have hsg : SegL M9 z := hA9.seg z0.1 (by rw [e8]; exact hi)
      have hbg : 0 ≤ bgC M9 z ∧ bgC M9 z ≤ M9 47 0 z ∧ M9 47 0 z ≤ 240 := (hA9.2.2 z z0.1 (by rw [e8]; exact hi)).2.1
      have hbm : 0 ≤ M9 92 0 z ∧ M9 92 0 (z + 1) ≤ 300 := (hA9.2.2 z z0.1 (by rw [e8]; exact hi)).2.2.1
      have kz : M 91 0 z = M 46 0 z := (hA.2.2 z z0.1 hi).1.1
      have wi := wkL_in hA ho z0.1 hi
      show wpH _ 300 _ 220 _ true 2 [vR 13 0, vI z] [] _ Q
      conv => whnf
      repeat' first
        | (refine And.intro (fun h => ?_) (fun h => ?_) <;> (try simp (disch := decide) only [cmp3_lt, cmp3_ge, cmp3_gt, cmp3_le, cmp3_eq, ms_q, ms_f, mf_q, mf_f, mc_q, mc_f, and_self, and_true, true_and, and_false, false_and, or_true, true_or, or_false, false_or, if_true, if_false, not_true_eq_false, not_false_eq_true, eq_self, reduceIte, Int.reduceEq, Int.reduceLT, Int.reduceLE, Int.reduceNeg, Int.reduceAdd, Int.reduceSub, Int.reduceMul, Int.add_sub_cancel] at h) <;> (try simp (disch := omega) only [w32_e, w64_e, td_pos, tm_pos, Int.add_sub_cancel, e8, e13, e46, e91, e48, e98, wm, hl, kz] at h) <;> first | exact absurd rfl h | exact absurd h (by decide) | (exfalso; omega) | (conv => whnf))
        | (refine And.intro (by first | omega | ((try simp (disch := decide) only [cmp3_lt, cmp3_ge, cmp3_gt, cmp3_le, cmp3_eq, ms_q, ms_f, mf_q, mf_f, mc_q, mc_f, and_self, and_true, true_and, and_false, false_and, or_true, true_or, or_false, false_or, if_true, if_false, not_true_eq_false, not_false_eq_true, eq_self, reduceIte, Int.reduceEq, Int.reduceLT, Int.reduceLE, Int.reduceNeg, Int.reduceAdd, Int.reduceSub, Int.reduceMul, Int.add_sub_cancel]); (try simp (disch := omega) only [w32_e, w64_e, td_pos, tm_pos, Int.add_sub_cancel, e8, e13, e46, e91, e48, e98, wm, hl, kz]); first | assumption | omega) | ((try simp (disch := decide) only [cmp3_lt, cmp3_ge, cmp3_gt, cmp3_le, cmp3_eq, ms_q, ms_f, mf_q, mf_f, mc_q, mc_f, and_self, and_true, true_and, and_false, false_and, or_true, true_or, or_false, false_or, if_true, if_false, not_true_eq_false, not_false_eq_true, eq_self, reduceIte, Int.reduceEq, Int.reduceLT, Int.reduceLE, Int.reduceNeg, Int.reduceAdd, Int.reduceSub, Int.reduceMul, Int.add_sub_cancel]); (try simp (disch := omega) only [w32_e, w64_e, td_pos, tm_pos, Int.add_sub_cancel, e8, e13, e46, e91, e48, e98, wm, hl, kz]); (repeat' (first | assumption | omega | with_reducible rfl | apply And.intro)))) ?_; conv => whnf)
        | (intro v; intro hv; conv => whnf)
      all_goals first
        | (refine Eq.mp (congrArg (fun z => Q (some (vI z)) v) ?_) (hQ v (fun p z0 => (hv p z0).trans (fr p z0))); rw [← iv]; exact fhN_a hi ⟨by omega, by omega⟩)
        | (refine ⟨_, ?_, _, rfl, rfl, ?_, ?_, ?_⟩
           · ((try simp (disch := decide) only [cmp3_lt, cmp3_ge, cmp3_gt, cmp3_le, cmp3_eq, ms_q, ms_f, mf_q, mf_f, mc_q, mc_f, and_self, and_true, true_and, and_false, false_and, or_true, true_or, or_false, false_or, if_true, if_false, not_true_eq_false, not_false_eq_true, eq_self, reduceIte, Int.reduceEq, Int.reduceLT, Int.reduceLE, Int.reduceNeg, Int.reduceAdd, Int.reduceSub, Int.reduceMul, Int.add_sub_cancel]); (try simp (disch := omega) only [w32_e, w64_e, td_pos, tm_pos, Int.add_sub_cancel, e8, e13, e46, e91, e48, e98, wm, hl, kz])) <;> omega
           · ((try simp (disch := decide) only [cmp3_lt, cmp3_ge, cmp3_gt, cmp3_le, cmp3_eq, ms_q, ms_f, mf_q, mf_f, mc_q, mc_f, and_self, and_true, true_and, and_false, false_and, or_true, true_or, or_false, false_or, if_true, if_false, not_true_eq_false, not_false_eq_true, eq_self, reduceIte, Int.reduceEq, Int.reduceLT, Int.reduceLE, Int.reduceNeg, Int.reduceAdd, Int.reduceSub, Int.reduceMul, Int.add_sub_cancel]); (try simp (disch := omega) only [w32_e, w64_e, td_pos, tm_pos, Int.add_sub_cancel, e8, e13, e46, e91, e48, e98, wm, hl, kz])) <;> omega
           · first | exact fr | exact fun p z0 => (hv p z0).trans (fr p z0)
           · ((try simp (disch := decide) only [cmp3_lt, cmp3_ge, cmp3_gt, cmp3_le, cmp3_eq, ms_q, ms_f, mf_q, mf_f, mc_q, mc_f, and_self, and_true, true_and, and_false, false_and, or_true, true_or, or_false, false_or, if_true, if_false, not_true_eq_false, not_false_eq_true, eq_self, reduceIte, Int.reduceEq, Int.reduceLT, Int.reduceLE, Int.reduceNeg, Int.reduceAdd, Int.reduceSub, Int.reduceMul, Int.add_sub_cancel]); (try simp (disch := omega) only [w32_e, w64_e, td_pos, tm_pos, Int.add_sub_cancel, e8, e13, e46, e91, e48, e98, wm, hl, kz]))
             rw [← iv]
             exact (fhN_b hi (by omega)).symm)
  refine Vd_run (GGl_ok (l := l) (ω := ω)) 300 (hC := key 1000) (by decide) ?_
  conv => whnf
  repeat' first
    | (refine And.intro (fun h => ?_) (fun h => ?_) <;> (try simp (disch := decide) only [cmp3_lt, cmp3_ge, cmp3_gt, cmp3_le, cmp3_eq, ms_q, ms_f, mf_q, mf_f, mc_q, mc_f, and_self, and_true, true_and, and_false, false_and, or_true, true_or, or_false, false_or, if_true, if_false, not_true_eq_false, not_false_eq_true, eq_self, reduceIte, Int.reduceEq, Int.reduceLT, Int.reduceLE, Int.reduceNeg, Int.reduceAdd, Int.reduceSub, Int.reduceMul, Int.add_sub_cancel] at h) <;> (try simp (disch := omega) only [w32_e, w64_e, td_pos, tm_pos, Int.add_sub_cancel, hl] at h) <;> first | exact absurd rfl h | exact absurd h (by decide) | (exfalso; omega) | (conv => whnf))
    | (refine And.intro (by first | omega | ((try simp (disch := decide) only [cmp3_lt, cmp3_ge, cmp3_gt, cmp3_le, cmp3_eq, ms_q, ms_f, mf_q, mf_f, mc_q, mc_f, and_self, and_true, true_and, and_false, false_and, or_true, true_or, or_false, false_or, if_true, if_false, not_true_eq_false, not_false_eq_true, eq_self, reduceIte, Int.reduceEq, Int.reduceLT, Int.reduceLE, Int.reduceNeg, Int.reduceAdd, Int.reduceSub, Int.reduceMul, Int.add_sub_cancel]); (try simp (disch := omega) only [w32_e, w64_e, td_pos, tm_pos, Int.add_sub_cancel, hl]); first | assumption | omega) | ((try simp (disch := decide) only [cmp3_lt, cmp3_ge, cmp3_gt, cmp3_le, cmp3_eq, ms_q, ms_f, mf_q, mf_f, mc_q, mc_f, and_self, and_true, true_and, and_false, false_and, or_true, true_or, or_false, false_or, if_true, if_false, not_true_eq_false, not_false_eq_true, eq_self, reduceIte, Int.reduceEq, Int.reduceLT, Int.reduceLE, Int.reduceNeg, Int.reduceAdd, Int.reduceSub, Int.reduceMul, Int.add_sub_cancel]); (try simp (disch := omega) only [w32_e, w64_e, td_pos, tm_pos, Int.add_sub_cancel, hl]); (repeat' (first | assumption | omega | with_reducible rfl | apply And.intro)))) ?_; conv => whnf)
    | (intro v; intro hv; conv => whnf)
  all_goals refine ⟨_, ?_, _, rfl, rfl, ?_, ?_, rfl⟩ <;> first | omega | (intro p _; rfl)

def sp_spC : Spec1 := fun as M Q => match as with
  | [.inr (.inr (.inl (q0, i0)))] => match Nat.beq q0 8 with
    | true => (i0 = 0 ∧ ISta M ∧ okV (M 48 0) ∧ M 13 0 35 = M 8 0 6) ∧ ∀ M9, (∀ p, p ≠ 49 → M9 p = M p) → Q (some (vI (max 0 (min 1000000 (spS (M 46 0) (wkL M (M 48 0)) (M 8 0 6)))))) M9
    | false => False
  | _ => False
theorem ok_spC {l : Launch} {ω : WP} : ∀ as M Q, sp_spC as M Q → Vd l ω 5 25 as M Q := by
  intro as M Q h
  unfold sp_spC at h
  split at h
  case h_2 => exact h.elim
  rename_i q0 i0 
  cases hb : Nat.beq q0 8 with
  | false => rw [hb] at h; exact h.elim
  | true =>
  rw [hb] at h
  obtain ⟨⟨hi, hA, ho, hl⟩, hQ⟩ := h
  have hb := beq_eq hb
  subst hb
  subst hi
  refine Vd.ok fun hok hal => ?_
  have hn := hA.2.1
  have key : ∀ n9, CutOK l ω 5 25 (cutL [(4, [0, 1, 2], fun kk vs M9 => ∃ s z : Int, vs = [vR 8 0, vI s, vI z] ∧ kk = (M 8 0 6 - z).toNat ∧ (0 ≤ z ∧ z ≤ M 8 0 6) ∧ (∀ p, p ≠ 49 → M9 p = M p) ∧ (-1000000 * z ≤ s ∧ s ≤ 1000000 * z) ∧ s = spS (M 46 0) (wkL M (M 48 0)) z)] n9) Q := by
    refine loops (GGl_ok (l := l) (ω := ω)) 300 _ ?_
    refine List.forall_mem_cons.mpr ⟨?_, fun _ h => absurd h List.not_mem_nil⟩
    · rintro n9 vs M9 ⟨s, z, rfl, rfl, z0, fr, bd, iv⟩
      have e8 : M9 8 = M 8 := fr 8 (by decide)
      have e13 : M9 13 = M 13 := fr 13 (by decide)
      have e45 : M9 45 = M 45 := fr 45 (by decide)
      have e46 : M9 46 = M 46 := fr 46 (by decide)
      have e47 : M9 47 = M 47 := fr 47 (by decide)
      have e48 : M9 48 = M 48 := fr 48 (by decide)
      have e91 : M9 91 = M 91 := fr 91 (by decide)
      have e92 : M9 92 = M 92 := fr 92 (by decide)
      have e93 : M9 93 = M 93 := fr 93 (by decide)
      have e98 : M9 98 = M 98 := fr 98 (by decide)
      have wm : wkL M9 = wkL M := wkL_mem e45 e47
      have kz := hl
      have hA9 : ISta M9 := by simp (disch := decide) only [ISta, fr]; exact hA
      have ho9 : okV (M9 48 0) := by rw [e48]; exact ho
      by_cases hi : z < M 8 0 6
      case neg =>
        show wpH _ 300 _ 25 _ true 4 [vR 8 0, vI s, vI z] [] _ Q
        conv => whnf
        repeat' first
          | (refine And.intro (fun h => ?_) (fun h => ?_) <;> (try simp (disch := decide) only [cmp3_lt, cmp3_ge, cmp3_gt, cmp3_le, cmp3_eq, ms_q, ms_f, mf_q, mf_f, mc_q, mc_f, and_self, and_true, true_and, and_false, false_and, or_true, true_or, or_false, false_or, if_true, if_false, not_true_eq_false, not_false_eq_true, eq_self, reduceIte, Int.reduceEq, Int.reduceLT, Int.reduceLE, Int.reduceNeg, Int.reduceAdd, Int.reduceSub, Int.reduceMul, Int.add_sub_cancel] at h) <;> (try simp (disch := omega) only [w32_e, w64_e, td_pos, tm_pos, Int.add_sub_cancel, e8, e13, e46, e91, e48, e98, wm, hl, kz] at h) <;> first | exact absurd rfl h | exact absurd h (by decide) | (exfalso; omega) | (conv => whnf))
          | (refine And.intro (by first | omega | ((try simp (disch := decide) only [cmp3_lt, cmp3_ge, cmp3_gt, cmp3_le, cmp3_eq, ms_q, ms_f, mf_q, mf_f, mc_q, mc_f, and_self, and_true, true_and, and_false, false_and, or_true, true_or, or_false, false_or, if_true, if_false, not_true_eq_false, not_false_eq_true, eq_self, reduceIte, Int.reduceEq, Int.reduceLT, Int.reduceLE, Int.reduceNeg, Int.reduceAdd, Int.reduceSub, Int.reduceMul, Int.add_sub_cancel]); (try simp (disch := omega) only [w32_e, w64_e, td_pos, tm_pos, Int.add_sub_cancel, e8, e13, e46, e91, e48, e98, wm, hl, kz]); first | assumption | omega) | ((try simp (disch := decide) only [cmp3_lt, cmp3_ge, cmp3_gt, cmp3_le, cmp3_eq, ms_q, ms_f, mf_q, mf_f, mc_q, mc_f, and_self, and_true, true_and, and_false, false_and, or_true, true_or, or_false, false_or, if_true, if_false, not_true_eq_false, not_false_eq_true, eq_self, reduceIte, Int.reduceEq, Int.reduceLT, Int.reduceLE, Int.reduceNeg, Int.reduceAdd, Int.reduceSub, Int.reduceMul, Int.add_sub_cancel]); (try simp (disch := omega) only [w32_e, w64_e, td_pos, tm_pos, Int.add_sub_cancel, e8, e13, e46, e91, e48, e98, wm, hl, kz]); (repeat' (first | assumption | omega | with_reducible rfl | apply And.intro)))) ?_; conv => whnf)
          | (intro v; intro hv; conv => whnf)
        all_goals (refine Eq.mp (congrArg (fun z => Q (some (vI z)) M9) ?_) (hQ M9 fr); (rw [show M 8 0 6 = z by omega, ← iv]) <;> (((try simp (disch := decide) only [cmp3_lt, cmp3_ge, cmp3_gt, cmp3_le, cmp3_eq, ms_q, ms_f, mf_q, mf_f, mc_q, mc_f, and_self, and_true, true_and, and_false, false_and, or_true, true_or, or_false, false_or, if_true, if_false, not_true_eq_false, not_false_eq_true, eq_self, reduceIte, Int.reduceEq, Int.reduceLT, Int.reduceLE, Int.reduceNeg, Int.reduceAdd, Int.reduceSub, Int.reduceMul, Int.add_sub_cancel]); (try simp (disch := omega) only [w32_e, w64_e, td_pos, tm_pos, Int.add_sub_cancel, e8, e13, e46, e91, e48, e98, wm, hl, kz])) <;> omega))
      have hsg : SegL M9 z := hA9.seg z0.1 (by rw [e8]; exact hi)
      have hbg : 0 ≤ bgC M9 z ∧ bgC M9 z ≤ M9 47 0 z ∧ M9 47 0 z ≤ 240 := (hA9.2.2 z z0.1 (by rw [e8]; exact hi)).2.1
      have hbm : 0 ≤ M9 92 0 z ∧ M9 92 0 (z + 1) ≤ 300 := (hA9.2.2 z z0.1 (by rw [e8]; exact hi)).2.2.1
      have kz : M 91 0 z = M 46 0 z := (hA.2.2 z z0.1 hi).1.1
      have wi := wkL_in hA ho z0.1 hi
      show wpH _ 300 _ 25 _ true 4 [vR 8 0, vI s, vI z] [] _ Q
      conv => whnf
      repeat' first
        | (refine And.intro (fun h => ?_) (fun h => ?_) <;> (try simp (disch := decide) only [cmp3_lt, cmp3_ge, cmp3_gt, cmp3_le, cmp3_eq, ms_q, ms_f, mf_q, mf_f, mc_q, mc_f, and_self, and_true, true_and, and_false, false_and, or_true, true_or, or_false, false_or, if_true, if_false, not_true_eq_false, not_false_eq_true, eq_self, reduceIte, Int.reduceEq, Int.reduceLT, Int.reduceLE, Int.reduceNeg, Int.reduceAdd, Int.reduceSub, Int.reduceMul, Int.add_sub_cancel] at h) <;> (try simp (disch := omega) only [w32_e, w64_e, td_pos, tm_pos, Int.add_sub_cancel, e8, e13, e46, e91, e48, e98, wm, hl, kz] at h) <;> first | exact absurd rfl h | exact absurd h (by decide) | (exfalso; omega) | (conv => whnf))
        | (refine And.intro (by first | omega | ((try simp (disch := decide) only [cmp3_lt, cmp3_ge, cmp3_gt, cmp3_le, cmp3_eq, ms_q, ms_f, mf_q, mf_f, mc_q, mc_f, and_self, and_true, true_and, and_false, false_and, or_true, true_or, or_false, false_or, if_true, if_false, not_true_eq_false, not_false_eq_true, eq_self, reduceIte, Int.reduceEq, Int.reduceLT, Int.reduceLE, Int.reduceNeg, Int.reduceAdd, Int.reduceSub, Int.reduceMul, Int.add_sub_cancel]); (try simp (disch := omega) only [w32_e, w64_e, td_pos, tm_pos, Int.add_sub_cancel, e8, e13, e46, e91, e48, e98, wm, hl, kz]); first | assumption | omega) | ((try simp (disch := decide) only [cmp3_lt, cmp3_ge, cmp3_gt, cmp3_le, cmp3_eq, ms_q, ms_f, mf_q, mf_f, mc_q, mc_f, and_self, and_true, true_and, and_false, false_and, or_true, true_or, or_false, false_or, if_true, if_false, not_true_eq_false, not_false_eq_true, eq_self, reduceIte, Int.reduceEq, Int.reduceLT, Int.reduceLE, Int.reduceNeg, Int.reduceAdd, Int.reduceSub, Int.reduceMul, Int.add_sub_cancel]); (try simp (disch := omega) only [w32_e, w64_e, td_pos, tm_pos, Int.add_sub_cancel, e8, e13, e46, e91, e48, e98, wm, hl, kz]); (repeat' (first | assumption | omega | with_reducible rfl | apply And.intro)))) ?_; conv => whnf)
        | (intro v; intro hv; conv => whnf)
      all_goals
        (refine ⟨_, ?_, _, _, rfl, rfl, ?_, ?_, ?_, ?_⟩
         · ((try simp (disch := decide) only [cmp3_lt, cmp3_ge, cmp3_gt, cmp3_le, cmp3_eq, ms_q, ms_f, mf_q, mf_f, mc_q, mc_f, and_self, and_true, true_and, and_false, false_and, or_true, true_or, or_false, false_or, if_true, if_false, not_true_eq_false, not_false_eq_true, eq_self, reduceIte, Int.reduceEq, Int.reduceLT, Int.reduceLE, Int.reduceNeg, Int.reduceAdd, Int.reduceSub, Int.reduceMul, Int.add_sub_cancel]); (try simp (disch := omega) only [w32_e, w64_e, td_pos, tm_pos, Int.add_sub_cancel, e8, e13, e46, e91, e48, e98, wm, hl, kz])) <;> omega
         · ((try simp (disch := decide) only [cmp3_lt, cmp3_ge, cmp3_gt, cmp3_le, cmp3_eq, ms_q, ms_f, mf_q, mf_f, mc_q, mc_f, and_self, and_true, true_and, and_false, false_and, or_true, true_or, or_false, false_or, if_true, if_false, not_true_eq_false, not_false_eq_true, eq_self, reduceIte, Int.reduceEq, Int.reduceLT, Int.reduceLE, Int.reduceNeg, Int.reduceAdd, Int.reduceSub, Int.reduceMul, Int.add_sub_cancel]); (try simp (disch := omega) only [w32_e, w64_e, td_pos, tm_pos, Int.add_sub_cancel, e8, e13, e46, e91, e48, e98, wm, hl, kz])) <;> omega
         · first | exact fr | exact fun p z0 => (hv p z0).trans (fr p z0)
         · ((try simp (disch := decide) only [cmp3_lt, cmp3_ge, cmp3_gt, cmp3_le, cmp3_eq, ms_q, ms_f, mf_q, mf_f, mc_q, mc_f, and_self, and_true, true_and, and_false, false_and, or_true, true_or, or_false, false_or, if_true, if_false, not_true_eq_false, not_false_eq_true, eq_self, reduceIte, Int.reduceEq, Int.reduceLT, Int.reduceLE, Int.reduceNeg, Int.reduceAdd, Int.reduceSub, Int.reduceMul, Int.add_sub_cancel]); (try simp (disch := omega) only [w32_e, w64_e, td_pos, tm_pos, Int.add_sub_cancel, e8, e13, e46, e91, e48, e98, wm, hl, kz])) <;> omega
         · ((try simp (disch := decide) only [cmp3_lt, cmp3_ge, cmp3_gt, cmp3_le, cmp3_eq, ms_q, ms_f, mf_q, mf_f, mc_q, mc_f, and_self, and_true, true_and, and_false, false_and, or_true, true_or, or_false, false_or, if_true, if_false, not_true_eq_false, not_false_eq_true, eq_self, reduceIte, Int.reduceEq, Int.reduceLT, Int.reduceLE, Int.reduceNeg, Int.reduceAdd, Int.reduceSub, Int.reduceMul, Int.add_sub_cancel]); (try simp (disch := omega) only [w32_e, w64_e, td_pos, tm_pos, Int.add_sub_cancel, e8, e13, e46, e91, e48, e98, wm, hl, kz]))
           rw [spS_s z0.1]
           first
             | (rw [if_pos (by omega)]; omega)
             | (rw [if_neg (by omega)]; first | exact iv | omega))
  refine Vd_run (GGl_ok (l := l) (ω := ω)) 300 (hC := key 1000) (by decide) ?_
  conv => whnf
  repeat' first
    | (refine And.intro (fun h => ?_) (fun h => ?_) <;> (try simp (disch := decide) only [cmp3_lt, cmp3_ge, cmp3_gt, cmp3_le, cmp3_eq, ms_q, ms_f, mf_q, mf_f, mc_q, mc_f, and_self, and_true, true_and, and_false, false_and, or_true, true_or, or_false, false_or, if_true, if_false, not_true_eq_false, not_false_eq_true, eq_self, reduceIte, Int.reduceEq, Int.reduceLT, Int.reduceLE, Int.reduceNeg, Int.reduceAdd, Int.reduceSub, Int.reduceMul, Int.add_sub_cancel] at h) <;> (try simp (disch := omega) only [w32_e, w64_e, td_pos, tm_pos, Int.add_sub_cancel, hl] at h) <;> first | exact absurd rfl h | exact absurd h (by decide) | (exfalso; omega) | (conv => whnf))
    | (refine And.intro (by first | omega | ((try simp (disch := decide) only [cmp3_lt, cmp3_ge, cmp3_gt, cmp3_le, cmp3_eq, ms_q, ms_f, mf_q, mf_f, mc_q, mc_f, and_self, and_true, true_and, and_false, false_and, or_true, true_or, or_false, false_or, if_true, if_false, not_true_eq_false, not_false_eq_true, eq_self, reduceIte, Int.reduceEq, Int.reduceLT, Int.reduceLE, Int.reduceNeg, Int.reduceAdd, Int.reduceSub, Int.reduceMul, Int.add_sub_cancel]); (try simp (disch := omega) only [w32_e, w64_e, td_pos, tm_pos, Int.add_sub_cancel, hl]); first | assumption | omega) | ((try simp (disch := decide) only [cmp3_lt, cmp3_ge, cmp3_gt, cmp3_le, cmp3_eq, ms_q, ms_f, mf_q, mf_f, mc_q, mc_f, and_self, and_true, true_and, and_false, false_and, or_true, true_or, or_false, false_or, if_true, if_false, not_true_eq_false, not_false_eq_true, eq_self, reduceIte, Int.reduceEq, Int.reduceLT, Int.reduceLE, Int.reduceNeg, Int.reduceAdd, Int.reduceSub, Int.reduceMul, Int.add_sub_cancel]); (try simp (disch := omega) only [w32_e, w64_e, td_pos, tm_pos, Int.add_sub_cancel, hl]); (repeat' (first | assumption | omega | with_reducible rfl | apply And.intro)))) ?_; conv => whnf)
    | (intro v; intro hv; conv => whnf)
  all_goals refine ⟨_, ?_, _, _, rfl, rfl, ?_, ?_, ?_, ?_⟩ <;> first | omega | (intro p _; rfl) | rfl

def sp_spM : Spec1 := fun as M Q => match as with
  | [.inr (.inr (.inl (q0, i0)))] => match Nat.beq q0 13 with
    | true => (i0 = 0 ∧ ISta M ∧ okV (M 98 0) ∧ M 13 0 35 = M 8 0 6) ∧ ∀ M9, (∀ p, p ≠ 99 → M9 p = M p) → Q (some (vI (max 0 (min 1000000 (spS (M 46 0) (wkL M (M 98 0)) (M 8 0 6)))))) M9
    | false => False
  | _ => False
theorem ok_spM {l : Launch} {ω : WP} : ∀ as M Q, sp_spM as M Q → Vd l ω 5 222 as M Q := by
  intro as M Q h
  unfold sp_spM at h
  split at h
  case h_2 => exact h.elim
  rename_i q0 i0 
  cases hb : Nat.beq q0 13 with
  | false => rw [hb] at h; exact h.elim
  | true =>
  rw [hb] at h
  obtain ⟨⟨hi, hA, ho, hl⟩, hQ⟩ := h
  have hb := beq_eq hb
  subst hb
  subst hi
  refine Vd.ok fun hok hal => ?_
  have hn := hA.2.1
  have key : ∀ n9, CutOK l ω 5 222 (cutL [(4, [0, 1, 2], fun kk vs M9 => ∃ s z : Int, vs = [vR 13 0, vI s, vI z] ∧ kk = (M 8 0 6 - z).toNat ∧ (0 ≤ z ∧ z ≤ M 8 0 6) ∧ (∀ p, p ≠ 99 → M9 p = M p) ∧ (-1000000 * z ≤ s ∧ s ≤ 1000000 * z) ∧ s = spS (M 46 0) (wkL M (M 98 0)) z)] n9) Q := by
    refine loops (GGl_ok (l := l) (ω := ω)) 300 _ ?_
    refine List.forall_mem_cons.mpr ⟨?_, fun _ h => absurd h List.not_mem_nil⟩
    · rintro n9 vs M9 ⟨s, z, rfl, rfl, z0, fr, bd, iv⟩
      have e8 : M9 8 = M 8 := fr 8 (by decide)
      have e13 : M9 13 = M 13 := fr 13 (by decide)
      have e45 : M9 45 = M 45 := fr 45 (by decide)
      have e46 : M9 46 = M 46 := fr 46 (by decide)
      have e47 : M9 47 = M 47 := fr 47 (by decide)
      have e48 : M9 48 = M 48 := fr 48 (by decide)
      have e91 : M9 91 = M 91 := fr 91 (by decide)
      have e92 : M9 92 = M 92 := fr 92 (by decide)
      have e93 : M9 93 = M 93 := fr 93 (by decide)
      have e98 : M9 98 = M 98 := fr 98 (by decide)
      have wm : wkL M9 = wkL M := wkL_mem e45 e47
      have kz := hl
      have hA9 : ISta M9 := by simp (disch := decide) only [ISta, fr]; exact hA
      have ho9 : okV (M9 98 0) := by rw [e98]; exact ho
      by_cases hi : z < M 8 0 6
      case neg =>
        show wpH _ 300 _ 222 _ true 4 [vR 13 0, vI s, vI z] [] _ Q
        conv => whnf
        repeat' first
          | (refine And.intro (fun h => ?_) (fun h => ?_) <;> (try simp (disch := decide) only [cmp3_lt, cmp3_ge, cmp3_gt, cmp3_le, cmp3_eq, ms_q, ms_f, mf_q, mf_f, mc_q, mc_f, and_self, and_true, true_and, and_false, false_and, or_true, true_or, or_false, false_or, if_true, if_false, not_true_eq_false, not_false_eq_true, eq_self, reduceIte, Int.reduceEq, Int.reduceLT, Int.reduceLE, Int.reduceNeg, Int.reduceAdd, Int.reduceSub, Int.reduceMul, Int.add_sub_cancel] at h) <;> (try simp (disch := omega) only [w32_e, w64_e, td_pos, tm_pos, Int.add_sub_cancel, e8, e13, e46, e91, e48, e98, wm, hl, kz] at h) <;> first | exact absurd rfl h | exact absurd h (by decide) | (exfalso; omega) | (conv => whnf))
          | (refine And.intro (by first | omega | ((try simp (disch := decide) only [cmp3_lt, cmp3_ge, cmp3_gt, cmp3_le, cmp3_eq, ms_q, ms_f, mf_q, mf_f, mc_q, mc_f, and_self, and_true, true_and, and_false, false_and, or_true, true_or, or_false, false_or, if_true, if_false, not_true_eq_false, not_false_eq_true, eq_self, reduceIte, Int.reduceEq, Int.reduceLT, Int.reduceLE, Int.reduceNeg, Int.reduceAdd, Int.reduceSub, Int.reduceMul, Int.add_sub_cancel]); (try simp (disch := omega) only [w32_e, w64_e, td_pos, tm_pos, Int.add_sub_cancel, e8, e13, e46, e91, e48, e98, wm, hl, kz]); first | assumption | omega) | ((try simp (disch := decide) only [cmp3_lt, cmp3_ge, cmp3_gt, cmp3_le, cmp3_eq, ms_q, ms_f, mf_q, mf_f, mc_q, mc_f, and_self, and_true, true_and, and_false, false_and, or_true, true_or, or_false, false_or, if_true, if_false, not_true_eq_false, not_false_eq_true, eq_self, reduceIte, Int.reduceEq, Int.reduceLT, Int.reduceLE, Int.reduceNeg, Int.reduceAdd, Int.reduceSub, Int.reduceMul, Int.add_sub_cancel]); (try simp (disch := omega) only [w32_e, w64_e, td_pos, tm_pos, Int.add_sub_cancel, e8, e13, e46, e91, e48, e98, wm, hl, kz]); (repeat' (first | assumption | omega | with_reducible rfl | apply And.intro)))) ?_; conv => whnf)
          | (intro v; intro hv; conv => whnf)
        all_goals (refine Eq.mp (congrArg (fun z => Q (some (vI z)) M9) ?_) (hQ M9 fr); (rw [show M 8 0 6 = z by omega, ← iv]) <;> (((try simp (disch := decide) only [cmp3_lt, cmp3_ge, cmp3_gt, cmp3_le, cmp3_eq, ms_q, ms_f, mf_q, mf_f, mc_q, mc_f, and_self, and_true, true_and, and_false, false_and, or_true, true_or, or_false, false_or, if_true, if_false, not_true_eq_false, not_false_eq_true, eq_self, reduceIte, Int.reduceEq, Int.reduceLT, Int.reduceLE, Int.reduceNeg, Int.reduceAdd, Int.reduceSub, Int.reduceMul, Int.add_sub_cancel]); (try simp (disch := omega) only [w32_e, w64_e, td_pos, tm_pos, Int.add_sub_cancel, e8, e13, e46, e91, e48, e98, wm, hl, kz])) <;> omega))
      have hsg : SegL M9 z := hA9.seg z0.1 (by rw [e8]; exact hi)
      have hbg : 0 ≤ bgC M9 z ∧ bgC M9 z ≤ M9 47 0 z ∧ M9 47 0 z ≤ 240 := (hA9.2.2 z z0.1 (by rw [e8]; exact hi)).2.1
      have hbm : 0 ≤ M9 92 0 z ∧ M9 92 0 (z + 1) ≤ 300 := (hA9.2.2 z z0.1 (by rw [e8]; exact hi)).2.2.1
      have kz : M 91 0 z = M 46 0 z := (hA.2.2 z z0.1 hi).1.1
      have wi := wkL_in hA ho z0.1 hi
      show wpH _ 300 _ 222 _ true 4 [vR 13 0, vI s, vI z] [] _ Q
      conv => whnf
      repeat' first
        | (refine And.intro (fun h => ?_) (fun h => ?_) <;> (try simp (disch := decide) only [cmp3_lt, cmp3_ge, cmp3_gt, cmp3_le, cmp3_eq, ms_q, ms_f, mf_q, mf_f, mc_q, mc_f, and_self, and_true, true_and, and_false, false_and, or_true, true_or, or_false, false_or, if_true, if_false, not_true_eq_false, not_false_eq_true, eq_self, reduceIte, Int.reduceEq, Int.reduceLT, Int.reduceLE, Int.reduceNeg, Int.reduceAdd, Int.reduceSub, Int.reduceMul, Int.add_sub_cancel] at h) <;> (try simp (disch := omega) only [w32_e, w64_e, td_pos, tm_pos, Int.add_sub_cancel, e8, e13, e46, e91, e48, e98, wm, hl, kz] at h) <;> first | exact absurd rfl h | exact absurd h (by decide) | (exfalso; omega) | (conv => whnf))
        | (refine And.intro (by first | omega | ((try simp (disch := decide) only [cmp3_lt, cmp3_ge, cmp3_gt, cmp3_le, cmp3_eq, ms_q, ms_f, mf_q, mf_f, mc_q, mc_f, and_self, and_true, true_and, and_false, false_and, or_true, true_or, or_false, false_or, if_true, if_false, not_true_eq_false, not_false_eq_true, eq_self, reduceIte, Int.reduceEq, Int.reduceLT, Int.reduceLE, Int.reduceNeg, Int.reduceAdd, Int.reduceSub, Int.reduceMul, Int.add_sub_cancel]); (try simp (disch := omega) only [w32_e, w64_e, td_pos, tm_pos, Int.add_sub_cancel, e8, e13, e46, e91, e48, e98, wm, hl, kz]); first | assumption | omega) | ((try simp (disch := decide) only [cmp3_lt, cmp3_ge, cmp3_gt, cmp3_le, cmp3_eq, ms_q, ms_f, mf_q, mf_f, mc_q, mc_f, and_self, and_true, true_and, and_false, false_and, or_true, true_or, or_false, false_or, if_true, if_false, not_true_eq_false, not_false_eq_true, eq_self, reduceIte, Int.reduceEq, Int.reduceLT, Int.reduceLE, Int.reduceNeg, Int.reduceAdd, Int.reduceSub, Int.reduceMul, Int.add_sub_cancel]); (try simp (disch := omega) only [w32_e, w64_e, td_pos, tm_pos, Int.add_sub_cancel, e8, e13, e46, e91, e48, e98, wm, hl, kz]); (repeat' (first | assumption | omega | with_reducible rfl | apply And.intro)))) ?_; conv => whnf)
        | (intro v; intro hv; conv => whnf)
      all_goals
        (refine ⟨_, ?_, _, _, rfl, rfl, ?_, ?_, ?_, ?_⟩
         · ((try simp (disch := decide) only [cmp3_lt, cmp3_ge, cmp3_gt, cmp3_le, cmp3_eq, ms_q, ms_f, mf_q, mf_f, mc_q, mc_f, and_self, and_true, true_and, and_false, false_and, or_true, true_or, or_false, false_or, if_true, if_false, not_true_eq_false, not_false_eq_true, eq_self, reduceIte, Int.reduceEq, Int.reduceLT, Int.reduceLE, Int.reduceNeg, Int.reduceAdd, Int.reduceSub, Int.reduceMul, Int.add_sub_cancel]); (try simp (disch := omega) only [w32_e, w64_e, td_pos, tm_pos, Int.add_sub_cancel, e8, e13, e46, e91, e48, e98, wm, hl, kz])) <;> omega
         · ((try simp (disch := decide) only [cmp3_lt, cmp3_ge, cmp3_gt, cmp3_le, cmp3_eq, ms_q, ms_f, mf_q, mf_f, mc_q, mc_f, and_self, and_true, true_and, and_false, false_and, or_true, true_or, or_false, false_or, if_true, if_false, not_true_eq_false, not_false_eq_true, eq_self, reduceIte, Int.reduceEq, Int.reduceLT, Int.reduceLE, Int.reduceNeg, Int.reduceAdd, Int.reduceSub, Int.reduceMul, Int.add_sub_cancel]); (try simp (disch := omega) only [w32_e, w64_e, td_pos, tm_pos, Int.add_sub_cancel, e8, e13, e46, e91, e48, e98, wm, hl, kz])) <;> omega
         · first | exact fr | exact fun p z0 => (hv p z0).trans (fr p z0)
         · ((try simp (disch := decide) only [cmp3_lt, cmp3_ge, cmp3_gt, cmp3_le, cmp3_eq, ms_q, ms_f, mf_q, mf_f, mc_q, mc_f, and_self, and_true, true_and, and_false, false_and, or_true, true_or, or_false, false_or, if_true, if_false, not_true_eq_false, not_false_eq_true, eq_self, reduceIte, Int.reduceEq, Int.reduceLT, Int.reduceLE, Int.reduceNeg, Int.reduceAdd, Int.reduceSub, Int.reduceMul, Int.add_sub_cancel]); (try simp (disch := omega) only [w32_e, w64_e, td_pos, tm_pos, Int.add_sub_cancel, e8, e13, e46, e91, e48, e98, wm, hl, kz])) <;> omega
         · ((try simp (disch := decide) only [cmp3_lt, cmp3_ge, cmp3_gt, cmp3_le, cmp3_eq, ms_q, ms_f, mf_q, mf_f, mc_q, mc_f, and_self, and_true, true_and, and_false, false_and, or_true, true_or, or_false, false_or, if_true, if_false, not_true_eq_false, not_false_eq_true, eq_self, reduceIte, Int.reduceEq, Int.reduceLT, Int.reduceLE, Int.reduceNeg, Int.reduceAdd, Int.reduceSub, Int.reduceMul, Int.add_sub_cancel]); (try simp (disch := omega) only [w32_e, w64_e, td_pos, tm_pos, Int.add_sub_cancel, e8, e13, e46, e91, e48, e98, wm, hl, kz]))
           rw [spS_s z0.1]
           first
             | (rw [if_pos (by omega)]; omega)
             | (rw [if_neg (by omega)]; first | exact iv | omega))
  refine Vd_run (GGl_ok (l := l) (ω := ω)) 300 (hC := key 1000) (by decide) ?_
  conv => whnf
  repeat' first
    | (refine And.intro (fun h => ?_) (fun h => ?_) <;> (try simp (disch := decide) only [cmp3_lt, cmp3_ge, cmp3_gt, cmp3_le, cmp3_eq, ms_q, ms_f, mf_q, mf_f, mc_q, mc_f, and_self, and_true, true_and, and_false, false_and, or_true, true_or, or_false, false_or, if_true, if_false, not_true_eq_false, not_false_eq_true, eq_self, reduceIte, Int.reduceEq, Int.reduceLT, Int.reduceLE, Int.reduceNeg, Int.reduceAdd, Int.reduceSub, Int.reduceMul, Int.add_sub_cancel] at h) <;> (try simp (disch := omega) only [w32_e, w64_e, td_pos, tm_pos, Int.add_sub_cancel, hl] at h) <;> first | exact absurd rfl h | exact absurd h (by decide) | (exfalso; omega) | (conv => whnf))
    | (refine And.intro (by first | omega | ((try simp (disch := decide) only [cmp3_lt, cmp3_ge, cmp3_gt, cmp3_le, cmp3_eq, ms_q, ms_f, mf_q, mf_f, mc_q, mc_f, and_self, and_true, true_and, and_false, false_and, or_true, true_or, or_false, false_or, if_true, if_false, not_true_eq_false, not_false_eq_true, eq_self, reduceIte, Int.reduceEq, Int.reduceLT, Int.reduceLE, Int.reduceNeg, Int.reduceAdd, Int.reduceSub, Int.reduceMul, Int.add_sub_cancel]); (try simp (disch := omega) only [w32_e, w64_e, td_pos, tm_pos, Int.add_sub_cancel, hl]); first | assumption | omega) | ((try simp (disch := decide) only [cmp3_lt, cmp3_ge, cmp3_gt, cmp3_le, cmp3_eq, ms_q, ms_f, mf_q, mf_f, mc_q, mc_f, and_self, and_true, true_and, and_false, false_and, or_true, true_or, or_false, false_or, if_true, if_false, not_true_eq_false, not_false_eq_true, eq_self, reduceIte, Int.reduceEq, Int.reduceLT, Int.reduceLE, Int.reduceNeg, Int.reduceAdd, Int.reduceSub, Int.reduceMul, Int.add_sub_cancel]); (try simp (disch := omega) only [w32_e, w64_e, td_pos, tm_pos, Int.add_sub_cancel, hl]); (repeat' (first | assumption | omega | with_reducible rfl | apply And.intro)))) ?_; conv => whnf)
    | (intro v; intro hv; conv => whnf)
  all_goals refine ⟨_, ?_, _, _, rfl, rfl, ?_, ?_, ?_, ?_⟩ <;> first | omega | (intro p _; rfl) | rfl

def sp_asC : Spec1 := fun as M Q => match as with
  | [.inr (.inr (.inl (q0, i0)))] => match Nat.beq q0 8 with
    | true => (i0 = 0 ∧ ISta M ∧ okV (M 48 0) ∧ M 13 0 35 = M 8 0 6) ∧ ∀ M9, (∀ p, p ≠ 49 → M9 p = M p) → Q (some (vI (min (asS (M 46 0) (wkL M (M 48 0)) (M 8 0 6)) 8))) M9
    | false => False
  | _ => False
theorem ok_asC {l : Launch} {ω : WP} : ∀ as M Q, sp_asC as M Q → Vd l ω 5 26 as M Q := by
  intro as M Q h
  unfold sp_asC at h
  split at h
  case h_2 => exact h.elim
  rename_i q0 i0 
  cases hb : Nat.beq q0 8 with
  | false => rw [hb] at h; exact h.elim
  | true =>
  rw [hb] at h
  obtain ⟨⟨hi, hA, ho, hl⟩, hQ⟩ := h
  have hb := beq_eq hb
  subst hb
  subst hi
  refine Vd.ok fun hok hal => ?_
  have hn := hA.2.1
  have key : ∀ n9, CutOK l ω 5 26 (cutL [(4, [0, 1, 2], fun kk vs M9 => ∃ s z : Int, vs = [vR 8 0, vI s, vI z] ∧ kk = (M 8 0 6 - z).toNat ∧ (0 ≤ z ∧ z ≤ M 8 0 6) ∧ (∀ p, p ≠ 49 → M9 p = M p) ∧ (1 ≤ s ∧ s ≤ 1000000) ∧ s = asS (M 46 0) (wkL M (M 48 0)) z)] n9) Q := by
    refine loops (GGl_ok (l := l) (ω := ω)) 300 _ ?_
    refine List.forall_mem_cons.mpr ⟨?_, fun _ h => absurd h List.not_mem_nil⟩
    · rintro n9 vs M9 ⟨s, z, rfl, rfl, z0, fr, bd, iv⟩
      have e8 : M9 8 = M 8 := fr 8 (by decide)
      have e13 : M9 13 = M 13 := fr 13 (by decide)
      have e45 : M9 45 = M 45 := fr 45 (by decide)
      have e46 : M9 46 = M 46 := fr 46 (by decide)
      have e47 : M9 47 = M 47 := fr 47 (by decide)
      have e48 : M9 48 = M 48 := fr 48 (by decide)
      have e91 : M9 91 = M 91 := fr 91 (by decide)
      have e92 : M9 92 = M 92 := fr 92 (by decide)
      have e93 : M9 93 = M 93 := fr 93 (by decide)
      have e98 : M9 98 = M 98 := fr 98 (by decide)
      have wm : wkL M9 = wkL M := wkL_mem e45 e47
      have kz := hl
      have hA9 : ISta M9 := by simp (disch := decide) only [ISta, fr]; exact hA
      have ho9 : okV (M9 48 0) := by rw [e48]; exact ho
      by_cases hi : z < M 8 0 6
      case neg =>
        show wpH _ 300 _ 26 _ true 4 [vR 8 0, vI s, vI z] [] _ Q
        conv => whnf
        repeat' first
          | (refine And.intro (fun h => ?_) (fun h => ?_) <;> (try simp (disch := decide) only [cmp3_lt, cmp3_ge, cmp3_gt, cmp3_le, cmp3_eq, ms_q, ms_f, mf_q, mf_f, mc_q, mc_f, and_self, and_true, true_and, and_false, false_and, or_true, true_or, or_false, false_or, if_true, if_false, not_true_eq_false, not_false_eq_true, eq_self, reduceIte, Int.reduceEq, Int.reduceLT, Int.reduceLE, Int.reduceNeg, Int.reduceAdd, Int.reduceSub, Int.reduceMul, Int.add_sub_cancel] at h) <;> (try simp (disch := omega) only [w32_e, w64_e, td_pos, tm_pos, Int.add_sub_cancel, e8, e13, e46, e91, e48, e98, wm, hl, kz] at h) <;> first | exact absurd rfl h | exact absurd h (by decide) | (exfalso; omega) | (conv => whnf))
          | (refine And.intro (by first | omega | ((try simp (disch := decide) only [cmp3_lt, cmp3_ge, cmp3_gt, cmp3_le, cmp3_eq, ms_q, ms_f, mf_q, mf_f, mc_q, mc_f, and_self, and_true, true_and, and_false, false_and, or_true, true_or, or_false, false_or, if_true, if_false, not_true_eq_false, not_false_eq_true, eq_self, reduceIte, Int.reduceEq, Int.reduceLT, Int.reduceLE, Int.reduceNeg, Int.reduceAdd, Int.reduceSub, Int.reduceMul, Int.add_sub_cancel]); (try simp (disch := omega) only [w32_e, w64_e, td_pos, tm_pos, Int.add_sub_cancel, e8, e13, e46, e91, e48, e98, wm, hl, kz]); first | assumption | omega) | ((try simp (disch := decide) only [cmp3_lt, cmp3_ge, cmp3_gt, cmp3_le, cmp3_eq, ms_q, ms_f, mf_q, mf_f, mc_q, mc_f, and_self, and_true, true_and, and_false, false_and, or_true, true_or, or_false, false_or, if_true, if_false, not_true_eq_false, not_false_eq_true, eq_self, reduceIte, Int.reduceEq, Int.reduceLT, Int.reduceLE, Int.reduceNeg, Int.reduceAdd, Int.reduceSub, Int.reduceMul, Int.add_sub_cancel]); (try simp (disch := omega) only [w32_e, w64_e, td_pos, tm_pos, Int.add_sub_cancel, e8, e13, e46, e91, e48, e98, wm, hl, kz]); (repeat' (first | assumption | omega | with_reducible rfl | apply And.intro)))) ?_; conv => whnf)
          | (intro v; intro hv; conv => whnf)
        all_goals (refine Eq.mp (congrArg (fun z => Q (some (vI z)) M9) ?_) (hQ M9 fr); (rw [show M 8 0 6 = z by omega, ← iv]) <;> (((try simp (disch := decide) only [cmp3_lt, cmp3_ge, cmp3_gt, cmp3_le, cmp3_eq, ms_q, ms_f, mf_q, mf_f, mc_q, mc_f, and_self, and_true, true_and, and_false, false_and, or_true, true_or, or_false, false_or, if_true, if_false, not_true_eq_false, not_false_eq_true, eq_self, reduceIte, Int.reduceEq, Int.reduceLT, Int.reduceLE, Int.reduceNeg, Int.reduceAdd, Int.reduceSub, Int.reduceMul, Int.add_sub_cancel]); (try simp (disch := omega) only [w32_e, w64_e, td_pos, tm_pos, Int.add_sub_cancel, e8, e13, e46, e91, e48, e98, wm, hl, kz])) <;> omega))
      have hsg : SegL M9 z := hA9.seg z0.1 (by rw [e8]; exact hi)
      have hbg : 0 ≤ bgC M9 z ∧ bgC M9 z ≤ M9 47 0 z ∧ M9 47 0 z ≤ 240 := (hA9.2.2 z z0.1 (by rw [e8]; exact hi)).2.1
      have hbm : 0 ≤ M9 92 0 z ∧ M9 92 0 (z + 1) ≤ 300 := (hA9.2.2 z z0.1 (by rw [e8]; exact hi)).2.2.1
      have kz : M 91 0 z = M 46 0 z := (hA.2.2 z z0.1 hi).1.1
      have wi := wkL_in hA ho z0.1 hi
      show wpH _ 300 _ 26 _ true 4 [vR 8 0, vI s, vI z] [] _ Q
      conv => whnf
      repeat' first
        | (refine And.intro (fun h => ?_) (fun h => ?_) <;> (try simp (disch := decide) only [cmp3_lt, cmp3_ge, cmp3_gt, cmp3_le, cmp3_eq, ms_q, ms_f, mf_q, mf_f, mc_q, mc_f, and_self, and_true, true_and, and_false, false_and, or_true, true_or, or_false, false_or, if_true, if_false, not_true_eq_false, not_false_eq_true, eq_self, reduceIte, Int.reduceEq, Int.reduceLT, Int.reduceLE, Int.reduceNeg, Int.reduceAdd, Int.reduceSub, Int.reduceMul, Int.add_sub_cancel] at h) <;> (try simp (disch := omega) only [w32_e, w64_e, td_pos, tm_pos, Int.add_sub_cancel, e8, e13, e46, e91, e48, e98, wm, hl, kz] at h) <;> first | exact absurd rfl h | exact absurd h (by decide) | (exfalso; omega) | (conv => whnf))
        | (refine And.intro (by first | omega | ((try simp (disch := decide) only [cmp3_lt, cmp3_ge, cmp3_gt, cmp3_le, cmp3_eq, ms_q, ms_f, mf_q, mf_f, mc_q, mc_f, and_self, and_true, true_and, and_false, false_and, or_true, true_or, or_false, false_or, if_true, if_false, not_true_eq_false, not_false_eq_true, eq_self, reduceIte, Int.reduceEq, Int.reduceLT, Int.reduceLE, Int.reduceNeg, Int.reduceAdd, Int.reduceSub, Int.reduceMul, Int.add_sub_cancel]); (try simp (disch := omega) only [w32_e, w64_e, td_pos, tm_pos, Int.add_sub_cancel, e8, e13, e46, e91, e48, e98, wm, hl, kz]); first | assumption | omega) | ((try simp (disch := decide) only [cmp3_lt, cmp3_ge, cmp3_gt, cmp3_le, cmp3_eq, ms_q, ms_f, mf_q, mf_f, mc_q, mc_f, and_self, and_true, true_and, and_false, false_and, or_true, true_or, or_false, false_or, if_true, if_false, not_true_eq_false, not_false_eq_true, eq_self, reduceIte, Int.reduceEq, Int.reduceLT, Int.reduceLE, Int.reduceNeg, Int.reduceAdd, Int.reduceSub, Int.reduceMul, Int.add_sub_cancel]); (try simp (disch := omega) only [w32_e, w64_e, td_pos, tm_pos, Int.add_sub_cancel, e8, e13, e46, e91, e48, e98, wm, hl, kz]); (repeat' (first | assumption | omega | with_reducible rfl | apply And.intro)))) ?_; conv => whnf)
        | (intro v; intro hv; conv => whnf)
      all_goals
        (refine ⟨_, ?_, _, _, rfl, rfl, ?_, ?_, ?_, ?_⟩
         · ((try simp (disch := decide) only [cmp3_lt, cmp3_ge, cmp3_gt, cmp3_le, cmp3_eq, ms_q, ms_f, mf_q, mf_f, mc_q, mc_f, and_self, and_true, true_and, and_false, false_and, or_true, true_or, or_false, false_or, if_true, if_false, not_true_eq_false, not_false_eq_true, eq_self, reduceIte, Int.reduceEq, Int.reduceLT, Int.reduceLE, Int.reduceNeg, Int.reduceAdd, Int.reduceSub, Int.reduceMul, Int.add_sub_cancel]); (try simp (disch := omega) only [w32_e, w64_e, td_pos, tm_pos, Int.add_sub_cancel, e8, e13, e46, e91, e48, e98, wm, hl, kz])) <;> omega
         · ((try simp (disch := decide) only [cmp3_lt, cmp3_ge, cmp3_gt, cmp3_le, cmp3_eq, ms_q, ms_f, mf_q, mf_f, mc_q, mc_f, and_self, and_true, true_and, and_false, false_and, or_true, true_or, or_false, false_or, if_true, if_false, not_true_eq_false, not_false_eq_true, eq_self, reduceIte, Int.reduceEq, Int.reduceLT, Int.reduceLE, Int.reduceNeg, Int.reduceAdd, Int.reduceSub, Int.reduceMul, Int.add_sub_cancel]); (try simp (disch := omega) only [w32_e, w64_e, td_pos, tm_pos, Int.add_sub_cancel, e8, e13, e46, e91, e48, e98, wm, hl, kz])) <;> omega
         · first | exact fr | exact fun p z0 => (hv p z0).trans (fr p z0)
         · ((try simp (disch := decide) only [cmp3_lt, cmp3_ge, cmp3_gt, cmp3_le, cmp3_eq, ms_q, ms_f, mf_q, mf_f, mc_q, mc_f, and_self, and_true, true_and, and_false, false_and, or_true, true_or, or_false, false_or, if_true, if_false, not_true_eq_false, not_false_eq_true, eq_self, reduceIte, Int.reduceEq, Int.reduceLT, Int.reduceLE, Int.reduceNeg, Int.reduceAdd, Int.reduceSub, Int.reduceMul, Int.add_sub_cancel]); (try simp (disch := omega) only [w32_e, w64_e, td_pos, tm_pos, Int.add_sub_cancel, e8, e13, e46, e91, e48, e98, wm, hl, kz])) <;> omega
         · ((try simp (disch := decide) only [cmp3_lt, cmp3_ge, cmp3_gt, cmp3_le, cmp3_eq, ms_q, ms_f, mf_q, mf_f, mc_q, mc_f, and_self, and_true, true_and, and_false, false_and, or_true, true_or, or_false, false_or, if_true, if_false, not_true_eq_false, not_false_eq_true, eq_self, reduceIte, Int.reduceEq, Int.reduceLT, Int.reduceLE, Int.reduceNeg, Int.reduceAdd, Int.reduceSub, Int.reduceMul, Int.add_sub_cancel]); (try simp (disch := omega) only [w32_e, w64_e, td_pos, tm_pos, Int.add_sub_cancel, e8, e13, e46, e91, e48, e98, wm, hl, kz]))
           rw [asS_s z0.1]
           first
             | (rw [if_pos (by omega)]; omega)
             | (rw [if_neg (by omega)]; first | exact iv | omega))
  refine Vd_run (GGl_ok (l := l) (ω := ω)) 300 (hC := key 1000) (by decide) ?_
  conv => whnf
  repeat' first
    | (refine And.intro (fun h => ?_) (fun h => ?_) <;> (try simp (disch := decide) only [cmp3_lt, cmp3_ge, cmp3_gt, cmp3_le, cmp3_eq, ms_q, ms_f, mf_q, mf_f, mc_q, mc_f, and_self, and_true, true_and, and_false, false_and, or_true, true_or, or_false, false_or, if_true, if_false, not_true_eq_false, not_false_eq_true, eq_self, reduceIte, Int.reduceEq, Int.reduceLT, Int.reduceLE, Int.reduceNeg, Int.reduceAdd, Int.reduceSub, Int.reduceMul, Int.add_sub_cancel] at h) <;> (try simp (disch := omega) only [w32_e, w64_e, td_pos, tm_pos, Int.add_sub_cancel, hl] at h) <;> first | exact absurd rfl h | exact absurd h (by decide) | (exfalso; omega) | (conv => whnf))
    | (refine And.intro (by first | omega | ((try simp (disch := decide) only [cmp3_lt, cmp3_ge, cmp3_gt, cmp3_le, cmp3_eq, ms_q, ms_f, mf_q, mf_f, mc_q, mc_f, and_self, and_true, true_and, and_false, false_and, or_true, true_or, or_false, false_or, if_true, if_false, not_true_eq_false, not_false_eq_true, eq_self, reduceIte, Int.reduceEq, Int.reduceLT, Int.reduceLE, Int.reduceNeg, Int.reduceAdd, Int.reduceSub, Int.reduceMul, Int.add_sub_cancel]); (try simp (disch := omega) only [w32_e, w64_e, td_pos, tm_pos, Int.add_sub_cancel, hl]); first | assumption | omega) | ((try simp (disch := decide) only [cmp3_lt, cmp3_ge, cmp3_gt, cmp3_le, cmp3_eq, ms_q, ms_f, mf_q, mf_f, mc_q, mc_f, and_self, and_true, true_and, and_false, false_and, or_true, true_or, or_false, false_or, if_true, if_false, not_true_eq_false, not_false_eq_true, eq_self, reduceIte, Int.reduceEq, Int.reduceLT, Int.reduceLE, Int.reduceNeg, Int.reduceAdd, Int.reduceSub, Int.reduceMul, Int.add_sub_cancel]); (try simp (disch := omega) only [w32_e, w64_e, td_pos, tm_pos, Int.add_sub_cancel, hl]); (repeat' (first | assumption | omega | with_reducible rfl | apply And.intro)))) ?_; conv => whnf)
    | (intro v; intro hv; conv => whnf)
  all_goals refine ⟨_, ?_, _, _, rfl, rfl, ?_, ?_, ?_, ?_⟩ <;> first | omega | (intro p _; rfl) | rfl

def sp_asM : Spec1 := fun as M Q => match as with
  | [.inr (.inr (.inl (q0, i0)))] => match Nat.beq q0 13 with
    | true => (i0 = 0 ∧ ISta M ∧ okV (M 98 0) ∧ M 13 0 35 = M 8 0 6) ∧ ∀ M9, (∀ p, p ≠ 99 → M9 p = M p) → Q (some (vI (min (asS (M 46 0) (wkL M (M 98 0)) (M 8 0 6)) 8))) M9
    | false => False
  | _ => False
theorem ok_asM {l : Launch} {ω : WP} : ∀ as M Q, sp_asM as M Q → Vd l ω 5 224 as M Q := by
  intro as M Q h
  unfold sp_asM at h
  split at h
  case h_2 => exact h.elim
  rename_i q0 i0 
  cases hb : Nat.beq q0 13 with
  | false => rw [hb] at h; exact h.elim
  | true =>
  rw [hb] at h
  obtain ⟨⟨hi, hA, ho, hl⟩, hQ⟩ := h
  have hb := beq_eq hb
  subst hb
  subst hi
  refine Vd.ok fun hok hal => ?_
  have hn := hA.2.1
  have key : ∀ n9, CutOK l ω 5 224 (cutL [(4, [0, 1, 2], fun kk vs M9 => ∃ s z : Int, vs = [vR 13 0, vI s, vI z] ∧ kk = (M 8 0 6 - z).toNat ∧ (0 ≤ z ∧ z ≤ M 8 0 6) ∧ (∀ p, p ≠ 99 → M9 p = M p) ∧ (1 ≤ s ∧ s ≤ 1000000) ∧ s = asS (M 46 0) (wkL M (M 98 0)) z)] n9) Q := by
    refine loops (GGl_ok (l := l) (ω := ω)) 300 _ ?_
    refine List.forall_mem_cons.mpr ⟨?_, fun _ h => absurd h List.not_mem_nil⟩
    · rintro n9 vs M9 ⟨s, z, rfl, rfl, z0, fr, bd, iv⟩
      have e8 : M9 8 = M 8 := fr 8 (by decide)
      have e13 : M9 13 = M 13 := fr 13 (by decide)
      have e45 : M9 45 = M 45 := fr 45 (by decide)
      have e46 : M9 46 = M 46 := fr 46 (by decide)
      have e47 : M9 47 = M 47 := fr 47 (by decide)
      have e48 : M9 48 = M 48 := fr 48 (by decide)
      have e91 : M9 91 = M 91 := fr 91 (by decide)
      have e92 : M9 92 = M 92 := fr 92 (by decide)
      have e93 : M9 93 = M 93 := fr 93 (by decide)
      have e98 : M9 98 = M 98 := fr 98 (by decide)
      have wm : wkL M9 = wkL M := wkL_mem e45 e47
      have kz := hl
      have hA9 : ISta M9 := by simp (disch := decide) only [ISta, fr]; exact hA
      have ho9 : okV (M9 98 0) := by rw [e98]; exact ho
      by_cases hi : z < M 8 0 6
      case neg =>
        show wpH _ 300 _ 224 _ true 4 [vR 13 0, vI s, vI z, vU] [] _ Q
        conv => whnf
        repeat' first
          | (refine And.intro (fun h => ?_) (fun h => ?_) <;> (try simp (disch := decide) only [cmp3_lt, cmp3_ge, cmp3_gt, cmp3_le, cmp3_eq, ms_q, ms_f, mf_q, mf_f, mc_q, mc_f, and_self, and_true, true_and, and_false, false_and, or_true, true_or, or_false, false_or, if_true, if_false, not_true_eq_false, not_false_eq_true, eq_self, reduceIte, Int.reduceEq, Int.reduceLT, Int.reduceLE, Int.reduceNeg, Int.reduceAdd, Int.reduceSub, Int.reduceMul, Int.add_sub_cancel] at h) <;> (try simp (disch := omega) only [w32_e, w64_e, td_pos, tm_pos, Int.add_sub_cancel, e8, e13, e46, e91, e48, e98, wm, hl, kz] at h) <;> first | exact absurd rfl h | exact absurd h (by decide) | (exfalso; omega) | (conv => whnf))
          | (refine And.intro (by first | omega | ((try simp (disch := decide) only [cmp3_lt, cmp3_ge, cmp3_gt, cmp3_le, cmp3_eq, ms_q, ms_f, mf_q, mf_f, mc_q, mc_f, and_self, and_true, true_and, and_false, false_and, or_true, true_or, or_false, false_or, if_true, if_false, not_true_eq_false, not_false_eq_true, eq_self, reduceIte, Int.reduceEq, Int.reduceLT, Int.reduceLE, Int.reduceNeg, Int.reduceAdd, Int.reduceSub, Int.reduceMul, Int.add_sub_cancel]); (try simp (disch := omega) only [w32_e, w64_e, td_pos, tm_pos, Int.add_sub_cancel, e8, e13, e46, e91, e48, e98, wm, hl, kz]); first | assumption | omega) | ((try simp (disch := decide) only [cmp3_lt, cmp3_ge, cmp3_gt, cmp3_le, cmp3_eq, ms_q, ms_f, mf_q, mf_f, mc_q, mc_f, and_self, and_true, true_and, and_false, false_and, or_true, true_or, or_false, false_or, if_true, if_false, not_true_eq_false, not_false_eq_true, eq_self, reduceIte, Int.reduceEq, Int.reduceLT, Int.reduceLE, Int.reduceNeg, Int.reduceAdd, Int.reduceSub, Int.reduceMul, Int.add_sub_cancel]); (try simp (disch := omega) only [w32_e, w64_e, td_pos, tm_pos, Int.add_sub_cancel, e8, e13, e46, e91, e48, e98, wm, hl, kz]); (repeat' (first | assumption | omega | with_reducible rfl | apply And.intro)))) ?_; conv => whnf)
          | (intro v; intro hv; conv => whnf)
        all_goals (refine Eq.mp (congrArg (fun z => Q (some (vI z)) M9) ?_) (hQ M9 fr); (rw [show M 8 0 6 = z by omega, ← iv]) <;> (((try simp (disch := decide) only [cmp3_lt, cmp3_ge, cmp3_gt, cmp3_le, cmp3_eq, ms_q, ms_f, mf_q, mf_f, mc_q, mc_f, and_self, and_true, true_and, and_false, false_and, or_true, true_or, or_false, false_or, if_true, if_false, not_true_eq_false, not_false_eq_true, eq_self, reduceIte, Int.reduceEq, Int.reduceLT, Int.reduceLE, Int.reduceNeg, Int.reduceAdd, Int.reduceSub, Int.reduceMul, Int.add_sub_cancel]); (try simp (disch := omega) only [w32_e, w64_e, td_pos, tm_pos, Int.add_sub_cancel, e8, e13, e46, e91, e48, e98, wm, hl, kz])) <;> omega))
      have hsg : SegL M9 z := hA9.seg z0.1 (by rw [e8]; exact hi)
      have hbg : 0 ≤ bgC M9 z ∧ bgC M9 z ≤ M9 47 0 z ∧ M9 47 0 z ≤ 240 := (hA9.2.2 z z0.1 (by rw [e8]; exact hi)).2.1
      have hbm : 0 ≤ M9 92 0 z ∧ M9 92 0 (z + 1) ≤ 300 := (hA9.2.2 z z0.1 (by rw [e8]; exact hi)).2.2.1
      have kz : M 91 0 z = M 46 0 z := (hA.2.2 z z0.1 hi).1.1
      have wi := wkL_in hA ho z0.1 hi
      show wpH _ 300 _ 224 _ true 4 [vR 13 0, vI s, vI z, vU] [] _ Q
      conv => whnf
      repeat' first
        | (refine And.intro (fun h => ?_) (fun h => ?_) <;> (try simp (disch := decide) only [cmp3_lt, cmp3_ge, cmp3_gt, cmp3_le, cmp3_eq, ms_q, ms_f, mf_q, mf_f, mc_q, mc_f, and_self, and_true, true_and, and_false, false_and, or_true, true_or, or_false, false_or, if_true, if_false, not_true_eq_false, not_false_eq_true, eq_self, reduceIte, Int.reduceEq, Int.reduceLT, Int.reduceLE, Int.reduceNeg, Int.reduceAdd, Int.reduceSub, Int.reduceMul, Int.add_sub_cancel] at h) <;> (try simp (disch := omega) only [w32_e, w64_e, td_pos, tm_pos, Int.add_sub_cancel, e8, e13, e46, e91, e48, e98, wm, hl, kz] at h) <;> first | exact absurd rfl h | exact absurd h (by decide) | (exfalso; omega) | (conv => whnf))
        | (refine And.intro (by first | omega | ((try simp (disch := decide) only [cmp3_lt, cmp3_ge, cmp3_gt, cmp3_le, cmp3_eq, ms_q, ms_f, mf_q, mf_f, mc_q, mc_f, and_self, and_true, true_and, and_false, false_and, or_true, true_or, or_false, false_or, if_true, if_false, not_true_eq_false, not_false_eq_true, eq_self, reduceIte, Int.reduceEq, Int.reduceLT, Int.reduceLE, Int.reduceNeg, Int.reduceAdd, Int.reduceSub, Int.reduceMul, Int.add_sub_cancel]); (try simp (disch := omega) only [w32_e, w64_e, td_pos, tm_pos, Int.add_sub_cancel, e8, e13, e46, e91, e48, e98, wm, hl, kz]); first | assumption | omega) | ((try simp (disch := decide) only [cmp3_lt, cmp3_ge, cmp3_gt, cmp3_le, cmp3_eq, ms_q, ms_f, mf_q, mf_f, mc_q, mc_f, and_self, and_true, true_and, and_false, false_and, or_true, true_or, or_false, false_or, if_true, if_false, not_true_eq_false, not_false_eq_true, eq_self, reduceIte, Int.reduceEq, Int.reduceLT, Int.reduceLE, Int.reduceNeg, Int.reduceAdd, Int.reduceSub, Int.reduceMul, Int.add_sub_cancel]); (try simp (disch := omega) only [w32_e, w64_e, td_pos, tm_pos, Int.add_sub_cancel, e8, e13, e46, e91, e48, e98, wm, hl, kz]); (repeat' (first | assumption | omega | with_reducible rfl | apply And.intro)))) ?_; conv => whnf)
        | (intro v; intro hv; conv => whnf)
      all_goals
        (refine ⟨_, ?_, _, _, rfl, rfl, ?_, ?_, ?_, ?_⟩
         · ((try simp (disch := decide) only [cmp3_lt, cmp3_ge, cmp3_gt, cmp3_le, cmp3_eq, ms_q, ms_f, mf_q, mf_f, mc_q, mc_f, and_self, and_true, true_and, and_false, false_and, or_true, true_or, or_false, false_or, if_true, if_false, not_true_eq_false, not_false_eq_true, eq_self, reduceIte, Int.reduceEq, Int.reduceLT, Int.reduceLE, Int.reduceNeg, Int.reduceAdd, Int.reduceSub, Int.reduceMul, Int.add_sub_cancel]); (try simp (disch := omega) only [w32_e, w64_e, td_pos, tm_pos, Int.add_sub_cancel, e8, e13, e46, e91, e48, e98, wm, hl, kz])) <;> omega
         · ((try simp (disch := decide) only [cmp3_lt, cmp3_ge, cmp3_gt, cmp3_le, cmp3_eq, ms_q, ms_f, mf_q, mf_f, mc_q, mc_f, and_self, and_true, true_and, and_false, false_and, or_true, true_or, or_false, false_or, if_true, if_false, not_true_eq_false, not_false_eq_true, eq_self, reduceIte, Int.reduceEq, Int.reduceLT, Int.reduceLE, Int.reduceNeg, Int.reduceAdd, Int.reduceSub, Int.reduceMul, Int.add_sub_cancel]); (try simp (disch := omega) only [w32_e, w64_e, td_pos, tm_pos, Int.add_sub_cancel, e8, e13, e46, e91, e48, e98, wm, hl, kz])) <;> omega
         · first | exact fr | exact fun p z0 => (hv p z0).trans (fr p z0)
         · ((try simp (disch := decide) only [cmp3_lt, cmp3_ge, cmp3_gt, cmp3_le, cmp3_eq, ms_q, ms_f, mf_q, mf_f, mc_q, mc_f, and_self, and_true, true_and, and_false, false_and, or_true, true_or, or_false, false_or, if_true, if_false, not_true_eq_false, not_false_eq_true, eq_self, reduceIte, Int.reduceEq, Int.reduceLT, Int.reduceLE, Int.reduceNeg, Int.reduceAdd, Int.reduceSub, Int.reduceMul, Int.add_sub_cancel]); (try simp (disch := omega) only [w32_e, w64_e, td_pos, tm_pos, Int.add_sub_cancel, e8, e13, e46, e91, e48, e98, wm, hl, kz])) <;> omega
         · ((try simp (disch := decide) only [cmp3_lt, cmp3_ge, cmp3_gt, cmp3_le, cmp3_eq, ms_q, ms_f, mf_q, mf_f, mc_q, mc_f, and_self, and_true, true_and, and_false, false_and, or_true, true_or, or_false, false_or, if_true, if_false, not_true_eq_false, not_false_eq_true, eq_self, reduceIte, Int.reduceEq, Int.reduceLT, Int.reduceLE, Int.reduceNeg, Int.reduceAdd, Int.reduceSub, Int.reduceMul, Int.add_sub_cancel]); (try simp (disch := omega) only [w32_e, w64_e, td_pos, tm_pos, Int.add_sub_cancel, e8, e13, e46, e91, e48, e98, wm, hl, kz]))
           rw [asS_s z0.1]
           first
             | (rw [if_pos (by omega)]; omega)
             | (rw [if_neg (by omega)]; first | exact iv | omega))
  refine Vd_run (GGl_ok (l := l) (ω := ω)) 300 (hC := key 1000) (by decide) ?_
  conv => whnf
  repeat' first
    | (refine And.intro (fun h => ?_) (fun h => ?_) <;> (try simp (disch := decide) only [cmp3_lt, cmp3_ge, cmp3_gt, cmp3_le, cmp3_eq, ms_q, ms_f, mf_q, mf_f, mc_q, mc_f, and_self, and_true, true_and, and_false, false_and, or_true, true_or, or_false, false_or, if_true, if_false, not_true_eq_false, not_false_eq_true, eq_self, reduceIte, Int.reduceEq, Int.reduceLT, Int.reduceLE, Int.reduceNeg, Int.reduceAdd, Int.reduceSub, Int.reduceMul, Int.add_sub_cancel] at h) <;> (try simp (disch := omega) only [w32_e, w64_e, td_pos, tm_pos, Int.add_sub_cancel, hl] at h) <;> first | exact absurd rfl h | exact absurd h (by decide) | (exfalso; omega) | (conv => whnf))
    | (refine And.intro (by first | omega | ((try simp (disch := decide) only [cmp3_lt, cmp3_ge, cmp3_gt, cmp3_le, cmp3_eq, ms_q, ms_f, mf_q, mf_f, mc_q, mc_f, and_self, and_true, true_and, and_false, false_and, or_true, true_or, or_false, false_or, if_true, if_false, not_true_eq_false, not_false_eq_true, eq_self, reduceIte, Int.reduceEq, Int.reduceLT, Int.reduceLE, Int.reduceNeg, Int.reduceAdd, Int.reduceSub, Int.reduceMul, Int.add_sub_cancel]); (try simp (disch := omega) only [w32_e, w64_e, td_pos, tm_pos, Int.add_sub_cancel, hl]); first | assumption | omega) | ((try simp (disch := decide) only [cmp3_lt, cmp3_ge, cmp3_gt, cmp3_le, cmp3_eq, ms_q, ms_f, mf_q, mf_f, mc_q, mc_f, and_self, and_true, true_and, and_false, false_and, or_true, true_or, or_false, false_or, if_true, if_false, not_true_eq_false, not_false_eq_true, eq_self, reduceIte, Int.reduceEq, Int.reduceLT, Int.reduceLE, Int.reduceNeg, Int.reduceAdd, Int.reduceSub, Int.reduceMul, Int.add_sub_cancel]); (try simp (disch := omega) only [w32_e, w64_e, td_pos, tm_pos, Int.add_sub_cancel, hl]); (repeat' (first | assumption | omega | with_reducible rfl | apply And.intro)))) ?_; conv => whnf)
    | (intro v; intro hv; conv => whnf)
  all_goals refine ⟨_, ?_, _, _, rfl, rfl, ?_, ?_, ?_, ?_⟩ <;> first | omega | (intro p _; rfl) | rfl
