/-! ===== go, by the class (wip/gen/p24.py) ===== -/
def goC (M : Mem) (r q p v : Int) (M9 : Mem) : Prop :=
  (¬ whyA M r q p = -4 ∧ v = -2 ∧ ∀ p, p ≠ 48 → p ≠ 49 → M9 p = M p) ∨
  (whyA M r q p = -4 ∧ ¬ (tnA M (askA M r q p) (ghd M r (M 21 0 r)) (M 5 0 0)).1 = askA M r q p ∧ v = -4 ∧ (∀ p, p ≠ 48 → p ≠ 49 → p ≠ 33 → p ≠ 4 → M9 p = M p) ∧ ∀ x f, f ≠ 7 → M9 4 x f = M 4 x f) ∨
  (whyA M r q p = -4 ∧ (tnA M (askA M r q p) (ghd M r (M 21 0 r)) (M 5 0 0)).1 = askA M r q p ∧ v = askA M r q p ∧ (∀ p, p ≠ 48 → p ≠ 49 → p ≠ 33 → p ≠ 4 → p ≠ 5 → p ≠ 34 → p ≠ 35 → M9 p = M p) ∧ (∀ x f, f ≠ 7 → M9 4 x f = M 4 x f) ∧ (∀ x f, f ≠ 3 → f ≠ 6 → M9 5 x f = M 5 x f) ∧
    ∃ V : Mem, (∀ j, 0 ≤ j → j < askA M r q p → V 33 0 j = (tnA M (askA M r q p) (ghd M r (M 21 0 r)) (M 5 0 0)).2 j) ∧ M9 5 0 3 = oF (V 33 0) (M 5 0 3) (askA M r q p) ∧ M9 5 0 6 = M 5 0 6 + askA M r q p * (payA M r q p / askA M r q p / 10) ∧ (∀ g, M9 35 0 g = pF (V 33 0) (payA M r q p / askA M r q p - payA M r q p / askA M r q p / 10) (M 35 0) (askA M r q p) g) ∧
      ∀ j, 0 ≤ j → j < M 5 0 0 → M9 34 0 j = if j < (mvA (M 34 0) (V 33 0) (askA M r q p) (M 5 0 0)).2.1 then (mvA (M 34 0) (V 33 0) (askA M r q p) (M 5 0 0)).2.2 j else V 33 0 (j - (mvA (M 34 0) (V 33 0) (askA M r q p) (M 5 0 0)).2.1))
theorem payA_in (M : Mem) (r q p : Int) : 0 ≤ payA M r q p ∧ payA M r q p ≤ 1000000 := by unfold payA; omega
theorem tnA_el {M : Mem} {a nd : Int} (hP : IPerm (M 5 0 0) (M 34 0)) : ∀ k : Nat, (k : Int) ≤ M 5 0 0 → ∀ j, 0 ≤ j → j < (tnA M a nd (k : Int)).1 → 0 ≤ (tnA M a nd (k : Int)).2 j ∧ (tnA M a nd (k : Int)).2 j < M 5 0 0
  | 0, _, j, j0, j1 => absurd j1 (by show ¬ j < 0; omega)
  | k + 1, hk, j, j0, j1 => by
    have ih := tnA_el (a := a) (nd := nd) hP k (by omega)
    have e : ((k + 1 : Nat) : Int) = (k : Int) + 1 := by omega
    have q := hP.1 (k : Int) (by omega) (by omega)
    rw [e, tnA_s (by omega)] at j1 ⊢
    unfold tnS at j1 ⊢
    split at j1
    · rename_i hc
      rw [if_pos hc]
      simp only [] at j1 ⊢
      unfold updI
      split
      · exact q
      · exact ih j j0 (by omega)
    · rename_i hc
      rw [if_neg hc]
      exact ih j j0 j1

def GLq : List (Nat × Nat × Spec1) := (4, 4, sp_seC) :: GLp
abbrev GGq : Env1 := fun n => getG n GLq
theorem GGq_all {l : Launch} {ω : WP} : ∀ e ∈ GLq, ∀ as M Q, e.2.2 as M Q → Vd l ω e.2.1 e.1 as M Q := List.forall_mem_cons.mpr ⟨ok_seC, GGp_all⟩
theorem GGq_ok {l : Launch} {ω : WP} : GOK l ω GGq := getG_ok GLq GGq_all

def sp_goCs : Spec1 := fun as M Q => match as with
  | [.inr (.inr (.inl (q0, i0))), .inl r, .inl q, .inl p] => match Nat.beq q0 0 with
    | true => (i0 = 0 ∧ (0 ≤ r ∧ r < M 1 0 9) ∧ (0 ≤ q ∧ q ≤ 95) ∧ (1 ≤ p ∧ p ≤ 9) ∧ IRou M ∧ IStp M ∧ ISky M ∧ ISta M ∧ (0 ≤ M 5 0 2 ∧ M 5 0 2 ≤ 999) ∧ M 13 0 25 = M 5 0 2 ∧ IGui M ∧ IPerm (M 5 0 0) (M 34 0) ∧ (0 ≤ M 5 0 3 ∧ M 5 0 3 < 512) ∧ (∀ i, 0 ≤ i → i < M 5 0 0 → M 89 0 i = M 34 0 i) ∧ (∀ g, 0 ≤ g → g < 8 → M 86 0 g = bitI (M 5 0 3) g) ∧ (0 ≤ M 5 0 6 ∧ M 5 0 6 ≤ 1000000000)) ∧ ∀ v M9, goC M r q p v M9 → Q (some (vI v)) M9
    | false => False
  | _ => False
theorem ok_goCs {l : Launch} {ω : WP} : ∀ as M Q, sp_goCs as M Q → Vd l ω 9 136 as M Q := by
  intro as M Q h
  unfold sp_goCs at h
  split at h
  case h_2 => exact h.elim
  rename_i q0 i0 r q p
  cases hb : Nat.beq q0 0 with
  | false => rw [hb] at h; exact h.elim
  | true =>
  rw [hb] at h
  obtain ⟨⟨hi, h1, h2, h3, hR, hS, hK, hA, hd, he, hG, hP, ho3, w1, w6, hpu⟩, hQ⟩ := h
  have hb := beq_eq hb
  subst hb
  subst hi
  refine Vd.ok fun hok hal => ?_
  have b5 := hR.1
  have b6 := hR.2.2.2.1
  have b9 := hA.1
  refine Vd_run (GGq_ok (l := l) (ω := ω)) 600 (cut := fun _ => none) (by decide) CutOK_none ?_
  conv => whnf
  repeat' first
    | (refine And.intro (fun h => ?_) (fun h => ?_) <;> (try simp (disch := decide) only [cmp3_lt, cmp3_ge, cmp3_gt, cmp3_le, cmp3_eq, ms_q, ms_f, mf_q, mf_f, mc_q, mc_f, and_self, and_true, true_and, and_false, false_and, or_true, true_or, or_false, false_or, if_true, if_false, not_true_eq_false, not_false_eq_true, eq_self, reduceIte, Int.reduceEq, Int.reduceLT, Int.reduceLE, Int.reduceNeg, Int.reduceAdd, Int.reduceSub, Int.reduceMul, Int.add_sub_cancel] at h) <;> (try simp (disch := omega) only [w32_e, w64_e, td_pos, tm_pos, Int.add_sub_cancel] at h) <;> first | exact absurd rfl h | exact absurd h (by decide) | (exfalso; omega) | (conv => whnf))
    | (refine And.intro (by first | omega | ((try simp (disch := decide) only [cmp3_lt, cmp3_ge, cmp3_gt, cmp3_le, cmp3_eq, ms_q, ms_f, mf_q, mf_f, mc_q, mc_f, and_self, and_true, true_and, and_false, false_and, or_true, true_or, or_false, false_or, if_true, if_false, not_true_eq_false, not_false_eq_true, eq_self, reduceIte, Int.reduceEq, Int.reduceLT, Int.reduceLE, Int.reduceNeg, Int.reduceAdd, Int.reduceSub, Int.reduceMul, Int.add_sub_cancel]); (try simp (disch := omega) only [w32_e, w64_e, td_pos, tm_pos, Int.add_sub_cancel]); first | assumption | omega) | ((try simp (disch := decide) only [cmp3_lt, cmp3_ge, cmp3_gt, cmp3_le, cmp3_eq, ms_q, ms_f, mf_q, mf_f, mc_q, mc_f, and_self, and_true, true_and, and_false, false_and, or_true, true_or, or_false, false_or, if_true, if_false, not_true_eq_false, not_false_eq_true, eq_self, reduceIte, Int.reduceEq, Int.reduceLT, Int.reduceLE, Int.reduceNeg, Int.reduceAdd, Int.reduceSub, Int.reduceMul, Int.add_sub_cancel]); (try simp (disch := omega) only [w32_e, w64_e, td_pos, tm_pos, Int.add_sub_cancel]); ((repeat' (first | assumption | omega | with_reducible rfl | apply And.intro)); done))) ?_; conv => whnf)
  intro v1 h1v
  have f1 := h1v.1
  have a1 : ISta v1 := by simp (disch := decide) only [ISta, f1]; exact hA
  have o1 : okV (v1 48 0) := okV_congr h1v.2 (vrs_ok hS hR h1.1 h1.2 h2 h3 hd)
  have w1v := sta_v (f1 45 (by decide)) (f1 47 (by decide)) h1v.2
  have ew : fhN (v1 46 0) (wkL v1 (v1 48 0)) 0 (v1 8 0 6 - 0).toNat 0 = whyA M r q p := by
    unfold whyA
    rw [w1v, f1 46 (by decide), f1 8 (by decide)]
  have ai := askA_in (M := M) (r := r) (q := q) (p := p) hA.2.1.1
  have pi := payA_in M r q p
  conv => whnf
  repeat' first
    | (refine And.intro (fun h => ?_) (fun h => ?_) <;> (try simp (disch := decide) only [cmp3_lt, cmp3_ge, cmp3_gt, cmp3_le, cmp3_eq, ms_q, ms_f, mf_q, mf_f, mc_q, mc_f, and_self, and_true, true_and, and_false, false_and, or_true, true_or, or_false, false_or, if_true, if_false, not_true_eq_false, not_false_eq_true, eq_self, reduceIte, Int.reduceEq, Int.reduceLT, Int.reduceLE, Int.reduceNeg, Int.reduceAdd, Int.reduceSub, Int.reduceMul, Int.add_sub_cancel] at h) <;> (try simp (disch := omega) only [w32_e, w64_e, td_pos, tm_pos, Int.add_sub_cancel] at h) <;> first | exact absurd rfl h | exact absurd h (by decide) | (exfalso; omega) | (conv => whnf))
    | (refine And.intro (by first | omega | ((try simp (disch := decide) only [cmp3_lt, cmp3_ge, cmp3_gt, cmp3_le, cmp3_eq, ms_q, ms_f, mf_q, mf_f, mc_q, mc_f, and_self, and_true, true_and, and_false, false_and, or_true, true_or, or_false, false_or, if_true, if_false, not_true_eq_false, not_false_eq_true, eq_self, reduceIte, Int.reduceEq, Int.reduceLT, Int.reduceLE, Int.reduceNeg, Int.reduceAdd, Int.reduceSub, Int.reduceMul, Int.add_sub_cancel]); (try simp (disch := omega) only [w32_e, w64_e, td_pos, tm_pos, Int.add_sub_cancel]); first | assumption | omega) | exact ⟨rfl, a1, o1, a1.1⟩) ?_; conv => whnf)
  intro v2 h2v
  have f2 : ∀ p, p ≠ 48 → p ≠ 49 → v2 p = M p := fun p a b => (h2v p b).trans (f1 p a)
  have a2 : ISta v2 := by simp (disch := decide) only [ISta, f2]; exact hA
  have e48 : v2 48 = v1 48 := h2v 48 (by decide)
  have o2 : okV (v2 48 0) := by rw [e48]; exact o1
  have w2v := sta_v (f2 45 (by decide) (by decide)) (f2 47 (by decide) (by decide)) (V := v2 48 0) (fun j a b => by rw [e48]; exact h1v.2 j a b)
  have ea : min (asS (v2 46 0) (wkL v2 (v2 48 0)) (v2 8 0 6)) 8 = askA M r q p := by
    unfold askA
    rw [w2v, f2 46 (by decide) (by decide), f2 8 (by decide) (by decide)]
  conv => whnf
  repeat' first
    | (refine And.intro (fun h => ?_) (fun h => ?_) <;> (try simp (disch := decide) only [cmp3_lt, cmp3_ge, cmp3_gt, cmp3_le, cmp3_eq, ms_q, ms_f, mf_q, mf_f, mc_q, mc_f, and_self, and_true, true_and, and_false, false_and, or_true, true_or, or_false, false_or, if_true, if_false, not_true_eq_false, not_false_eq_true, eq_self, reduceIte, Int.reduceEq, Int.reduceLT, Int.reduceLE, Int.reduceNeg, Int.reduceAdd, Int.reduceSub, Int.reduceMul, Int.add_sub_cancel] at h) <;> (try simp (disch := omega) only [w32_e, w64_e, td_pos, tm_pos, Int.add_sub_cancel, ew] at h) <;> first | exact absurd rfl h | exact absurd h (by decide) | (exfalso; omega) | (conv => whnf))
    | (refine And.intro (by first | omega | ((try simp (disch := decide) only [cmp3_lt, cmp3_ge, cmp3_gt, cmp3_le, cmp3_eq, ms_q, ms_f, mf_q, mf_f, mc_q, mc_f, and_self, and_true, true_and, and_false, false_and, or_true, true_or, or_false, false_or, if_true, if_false, not_true_eq_false, not_false_eq_true, eq_self, reduceIte, Int.reduceEq, Int.reduceLT, Int.reduceLE, Int.reduceNeg, Int.reduceAdd, Int.reduceSub, Int.reduceMul, Int.add_sub_cancel]); (try simp (disch := omega) only [w32_e, w64_e, td_pos, tm_pos, Int.add_sub_cancel, ew]); first | assumption | omega) | exact ⟨rfl, a2, o2, a2.1⟩) ?_; conv => whnf)
  all_goals first
    | (refine hQ _ v2 (Or.inl ⟨by omega, rfl, f2⟩))
    | skip
  intro v3 h3v
  have hw : whyA M r q p = -4 := by omega
  have f3 : ∀ p, p ≠ 48 → p ≠ 49 → v3 p = M p := fun p a b => (h3v p b).trans (f2 p a b)
  have r3 : IRou v3 := by simp (disch := decide) only [IRou, f3]; exact hR
  have s3 : IStp v3 := by simp (disch := decide) only [IStp, f3]; exact hS
  have e1 : v3 1 = M 1 := f3 1 (by decide) (by decide)
  have e5 : v3 5 = M 5 := f3 5 (by decide) (by decide)
  have e34 : v3 34 = M 34 := f3 34 (by decide) (by decide)
  have e48b : v3 48 = v1 48 := (h3v 48 (by decide)).trans e48
  have eg : ghd v3 r (v3 21 0 r) = ghd M r (M 21 0 r) := by
    unfold ghd
    simp (disch := decide) only [f3]
  have gp : 0 ≤ M 5 0 0 ∧ M 5 0 0 ≤ 8 := hG.2.2.1
  have tm := tnA_mem (M := M) (M9 := v3) e5 (f3 30 (by decide) (by decide)) (f3 32 (by decide) (by decide)) e34
  conv => whnf
  repeat' first
    | (refine And.intro (fun h => ?_) (fun h => ?_) <;> (try simp (disch := decide) only [cmp3_lt, cmp3_ge, cmp3_gt, cmp3_le, cmp3_eq, ms_q, ms_f, mf_q, mf_f, mc_q, mc_f, and_self, and_true, true_and, and_false, false_and, or_true, true_or, or_false, false_or, if_true, if_false, not_true_eq_false, not_false_eq_true, eq_self, reduceIte, Int.reduceEq, Int.reduceLT, Int.reduceLE, Int.reduceNeg, Int.reduceAdd, Int.reduceSub, Int.reduceMul, Int.add_sub_cancel] at h) <;> (try simp (disch := omega) only [w32_e, w64_e, td_pos, tm_pos, Int.add_sub_cancel, ea, eg] at h) <;> first | exact absurd rfl h | exact absurd h (by decide) | (exfalso; omega) | (conv => whnf))
    | (refine And.intro (by first | omega | ((try simp (disch := decide) only [cmp3_lt, cmp3_ge, cmp3_gt, cmp3_le, cmp3_eq, ms_q, ms_f, mf_q, mf_f, mc_q, mc_f, and_self, and_true, true_and, and_false, false_and, or_true, true_or, or_false, false_or, if_true, if_false, not_true_eq_false, not_false_eq_true, eq_self, reduceIte, Int.reduceEq, Int.reduceLT, Int.reduceLE, Int.reduceNeg, Int.reduceAdd, Int.reduceSub, Int.reduceMul, Int.add_sub_cancel]); (try simp (disch := omega) only [w32_e, w64_e, td_pos, tm_pos, Int.add_sub_cancel, ea, eg]); first | assumption | omega) | exact ⟨rfl, by rw [e1]; exact h1, r3, s3⟩ | exact ⟨rfl, by rw [ea]; omega, by rw [e5]; exact gp, by rw [e5]; exact ho3, by rw [e5, e34]; exact hP⟩) ?_; conv => whnf)
  intro v4 h4v
  rw [ea, eg, e5, tm] at h4v
  obtain ⟨g1, g2, g3, g4⟩ := h4v
  have f4 : ∀ p, p ≠ 48 → p ≠ 49 → p ≠ 33 → p ≠ 4 → v4 p = M p := fun p a b c d => (g1 p d c).trans (f3 p a b)
  have f5 : ∀ x f, f ≠ 7 → v4 4 x f = M 4 x f := fun x f h => by rw [g2 x f h, f3 4 (by decide) (by decide)]
  rw [ea, eg, e5, tm]
  have a4 : ISta v4 := by simp (disch := decide) only [ISta, f4]; exact hA
  have e48c : v4 48 = v1 48 := (g1 48 (by decide) (by decide)).trans e48b
  have o4 : okV (v4 48 0) := by rw [e48c]; exact o1
  have w4v := sta_v (f4 45 (by decide) (by decide) (by decide) (by decide)) (f4 47 (by decide) (by decide) (by decide) (by decide)) (V := v4 48 0) (fun j a b => by rw [e48c]; exact h1v.2 j a b)
  have ep : max 0 (min 1000000 (spS (v4 46 0) (wkL v4 (v4 48 0)) (v4 8 0 6))) = payA M r q p := by
    unfold payA
    rw [w4v, f4 46 (by decide) (by decide) (by decide) (by decide), f4 8 (by decide) (by decide) (by decide) (by decide)]
  have e5c : v4 5 = M 5 := f4 5 (by decide) (by decide) (by decide) (by decide)
  have e34c : v4 34 = M 34 := f4 34 (by decide) (by decide) (by decide) (by decide)
  have e35c : v4 35 = M 35 := f4 35 (by decide) (by decide) (by decide) (by decide)
  by_cases hT : (tnA M (askA M r q p) (ghd M r (M 21 0 r)) (M 5 0 0)).1 = askA M r q p
  · rw [if_pos hT]
    conv => whnf
    repeat' first
    | (refine And.intro (fun h => ?_) (fun h => ?_) <;> (try simp (disch := decide) only [cmp3_lt, cmp3_ge, cmp3_gt, cmp3_le, cmp3_eq, ms_q, ms_f, mf_q, mf_f, mc_q, mc_f, and_self, and_true, true_and, and_false, false_and, or_true, true_or, or_false, false_or, if_true, if_false, not_true_eq_false, not_false_eq_true, eq_self, reduceIte, Int.reduceEq, Int.reduceLT, Int.reduceLE, Int.reduceNeg, Int.reduceAdd, Int.reduceSub, Int.reduceMul, Int.add_sub_cancel] at h) <;> (try simp (disch := omega) only [w32_e, w64_e, td_pos, tm_pos, Int.add_sub_cancel] at h) <;> first | exact absurd rfl h | exact absurd h (by decide) | (exfalso; omega) | (conv => whnf))
    | (refine And.intro (by first | omega | ((try simp (disch := decide) only [cmp3_lt, cmp3_ge, cmp3_gt, cmp3_le, cmp3_eq, ms_q, ms_f, mf_q, mf_f, mc_q, mc_f, and_self, and_true, true_and, and_false, false_and, or_true, true_or, or_false, false_or, if_true, if_false, not_true_eq_false, not_false_eq_true, eq_self, reduceIte, Int.reduceEq, Int.reduceLT, Int.reduceLE, Int.reduceNeg, Int.reduceAdd, Int.reduceSub, Int.reduceMul, Int.add_sub_cancel]); (try simp (disch := omega) only [w32_e, w64_e, td_pos, tm_pos, Int.add_sub_cancel]); first | assumption | omega) | exact ⟨rfl, a4, o4, a4.1⟩) ?_; conv => whnf)
    intro v5 h5v
    have e4 : v5 4 = v4 4 := h5v 4 (by decide)
    have e5d : v5 5 = M 5 := (h5v 5 (by decide)).trans e5c
    have e33 : v5 33 = v4 33 := h5v 33 (by decide)
    have e34d : v5 34 = M 34 := (h5v 34 (by decide)).trans e34c
    have e35d : v5 35 = M 35 := (h5v 35 (by decide)).trans e35c
    have t7 : v5 4 0 7 = askA M r q p := by rw [e4, g3, hT]
    have el : ∀ j, 0 ≤ j → j < askA M r q p → v5 33 0 j = (tnA M (askA M r q p) (ghd M r (M 21 0 r)) (M 5 0 0)).2 j := fun j a b => by rw [e33]; exact g4 j a (by omega)
    have em : ∀ j, 0 ≤ j → j < askA M r q p → 0 ≤ v5 33 0 j ∧ v5 33 0 j < M 5 0 0 := fun j a b => by
      rw [el j a b]
      have := tnA_el (a := askA M r q p) (nd := ghd M r (M 21 0 r)) hP (M 5 0 0).toNat (by omega) j a
      rw [Int.toNat_of_nonneg gp.1] at this
      exact this (by omega)
    conv => whnf
    repeat' first
    | (refine And.intro (fun h => ?_) (fun h => ?_) <;> (try simp (disch := decide) only [cmp3_lt, cmp3_ge, cmp3_gt, cmp3_le, cmp3_eq, ms_q, ms_f, mf_q, mf_f, mc_q, mc_f, and_self, and_true, true_and, and_false, false_and, or_true, true_or, or_false, false_or, if_true, if_false, not_true_eq_false, not_false_eq_true, eq_self, reduceIte, Int.reduceEq, Int.reduceLT, Int.reduceLE, Int.reduceNeg, Int.reduceAdd, Int.reduceSub, Int.reduceMul, Int.add_sub_cancel] at h) <;> (try simp (disch := omega) only [w32_e, w64_e, td_pos, tm_pos, Int.add_sub_cancel] at h) <;> first | exact absurd rfl h | exact absurd h (by decide) | (exfalso; omega) | (conv => whnf))
    | (refine And.intro (by first | omega | ((try simp (disch := decide) only [cmp3_lt, cmp3_ge, cmp3_gt, cmp3_le, cmp3_eq, ms_q, ms_f, mf_q, mf_f, mc_q, mc_f, and_self, and_true, true_and, and_false, false_and, or_true, true_or, or_false, false_or, if_true, if_false, not_true_eq_false, not_false_eq_true, eq_self, reduceIte, Int.reduceEq, Int.reduceLT, Int.reduceLE, Int.reduceNeg, Int.reduceAdd, Int.reduceSub, Int.reduceMul, Int.add_sub_cancel]); (try simp (disch := omega) only [w32_e, w64_e, td_pos, tm_pos, Int.add_sub_cancel]); first | assumption | omega) | exact ⟨rfl, by rw [e5d]; exact gp, by rw [t7]; exact ai, by rw [ep]; exact pi, by rw [t7, e5d]; exact em, by rw [e5d]; exact hpu⟩) ?_; conv => whnf)
    intro v6 h6v
    rw [t7, ep, e5d, e34d, e35d] at h6v
    obtain ⟨k1, k2, k3, k4, k5, k6⟩ := h6v
    have e46 : v6 4 = v4 4 := (k1 4 (by decide) (by decide) (by decide)).trans e4
    have t76 : v6 4 0 7 = askA M r q p := by rw [e46, g3, hT]
    conv => whnf
    refine Eq.mp (congrArg (fun z => Q (some (vI z)) v6) t76.symm) (hQ _ v6 (Or.inr (Or.inr ⟨hw, hT, rfl, ?_, ?_, ?_, v5, el, k3, k4, k5, k6⟩)))
    · intro p a b c d e f g
      rw [k1 p e f g, h5v p b]
      exact f4 p a b c d
    · intro x f h
      rw [e46]
      exact f5 x f h
    · intro x f a b
      rw [k2 x f a b]
  · rw [if_neg hT]
    conv => whnf
    repeat' first
    | (refine And.intro (fun h => ?_) (fun h => ?_) <;> (try simp (disch := decide) only [cmp3_lt, cmp3_ge, cmp3_gt, cmp3_le, cmp3_eq, ms_q, ms_f, mf_q, mf_f, mc_q, mc_f, and_self, and_true, true_and, and_false, false_and, or_true, true_or, or_false, false_or, if_true, if_false, not_true_eq_false, not_false_eq_true, eq_self, reduceIte, Int.reduceEq, Int.reduceLT, Int.reduceLE, Int.reduceNeg, Int.reduceAdd, Int.reduceSub, Int.reduceMul, Int.add_sub_cancel] at h) <;> (try simp (disch := omega) only [w32_e, w64_e, td_pos, tm_pos, Int.add_sub_cancel] at h) <;> first | exact absurd rfl h | exact absurd h (by decide) | (exfalso; omega) | (conv => whnf))
    | (refine And.intro (by first | omega | ((try simp (disch := decide) only [cmp3_lt, cmp3_ge, cmp3_gt, cmp3_le, cmp3_eq, ms_q, ms_f, mf_q, mf_f, mc_q, mc_f, and_self, and_true, true_and, and_false, false_and, or_true, true_or, or_false, false_or, if_true, if_false, not_true_eq_false, not_false_eq_true, eq_self, reduceIte, Int.reduceEq, Int.reduceLT, Int.reduceLE, Int.reduceNeg, Int.reduceAdd, Int.reduceSub, Int.reduceMul, Int.add_sub_cancel]); (try simp (disch := omega) only [w32_e, w64_e, td_pos, tm_pos, Int.add_sub_cancel]); first | assumption | omega)) ?_; conv => whnf)
    all_goals exact hQ _ v4 (Or.inr (Or.inl ⟨hw, hT, rfl, f4, f5⟩))
