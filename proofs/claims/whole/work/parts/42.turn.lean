/-! ===== pair turn (wip/gen/p20.py) ===== -/
theorem tnA_mem {M M9 : Mem} (e5 : M9 5 = M 5) (e30 : M9 30 = M 30) (e32 : M9 32 = M 32) (e34 : M9 34 = M 34) : tnA M9 = tnA M := by
  funext a nd n
  unfold tnA tnS
  rw [e5, e30, e32, e34]
def tuA (M : Mem) (r q p i : Int) : Int := if whyA M r q p = -4 ∧ (tnA M (askA M r q p) (ghd M r (M 21 0 r)) (M 5 0 0)).1 = askA M r q p ∧ i < askA M r q p then (tnA M (askA M r q p) (ghd M r (M 21 0 r)) (M 5 0 0)).2 i else -4
theorem askA_in {M : Mem} {r q p : Int} (h : 0 ≤ M 8 0 6) : 1 ≤ askA M r q p ∧ askA M r q p ≤ 8 := by
  have := asS_ge (K := M 46 0) (W := wkL M (vrs M r q p)) (M 8 0 6).toNat
  rw [Int.toNat_of_nonneg h] at this
  unfold askA
  omega

def GLo : List (Nat × Nat × Spec1) := (3, 3, sp_ftC) :: (226, 7, sp_ftM) :: GLn
abbrev GGo : Env1 := fun n => getG n GLo
theorem GGo_all {l : Launch} {ω : WP} : ∀ e ∈ GLo, ∀ as M Q, e.2.2 as M Q → Vd l ω e.2.1 e.1 as M Q := List.forall_mem_cons.mpr ⟨ok_ftC, List.forall_mem_cons.mpr ⟨ok_ftM, GGn_all⟩⟩
theorem GGo_ok {l : Launch} {ω : WP} : GOK l ω GGo := getG_ok GLo GGo_all

def sp_tuC : Spec1 := fun as M Q => match as with
  | [.inr (.inr (.inl (q0, i0))), .inl r, .inl q, .inl p, .inl i] => match Nat.beq q0 0 with
    | true => (i0 = 0 ∧ (0 ≤ r ∧ r < M 1 0 9) ∧ (0 ≤ q ∧ q ≤ 95) ∧ (1 ≤ p ∧ p ≤ 9) ∧ 0 ≤ i ∧ IRou M ∧ IStp M ∧ ISky M ∧ ISta M ∧ (0 ≤ M 5 0 2 ∧ M 5 0 2 ≤ 999) ∧ M 13 0 25 = M 5 0 2 ∧ IGui M ∧ IPerm (M 5 0 0) (M 34 0) ∧ (0 ≤ M 5 0 3 ∧ M 5 0 3 < 512) ∧ (∀ i, 0 ≤ i → i < M 5 0 0 → M 89 0 i = M 34 0 i) ∧ (∀ g, 0 ≤ g → g < 8 → M 86 0 g = bitI (M 5 0 3) g)) ∧ ∀ M9, ((∀ p, p ≠ 48 → p ≠ 49 → p ≠ 33 → p ≠ 4 → M9 p = M p) ∧ (∀ x f, f ≠ 7 → M9 4 x f = M 4 x f)) → Q (some (vI (tuA M r q p i))) M9
    | false => False
  | _ => False
theorem ok_tuC {l : Launch} {ω : WP} : ∀ as M Q, sp_tuC as M Q → Vd l ω 9 135 as M Q := by
  intro as M Q h
  unfold sp_tuC at h
  split at h
  case h_2 => exact h.elim
  rename_i q0 i0 r q p i
  cases hb : Nat.beq q0 0 with
  | false => rw [hb] at h; exact h.elim
  | true =>
  rw [hb] at h
  obtain ⟨⟨hi, h1, h2, h3, h4, hR, hS, hK, hA, hd, he, hG, hP, ho3, w1, w6⟩, hQ⟩ := h
  have hb := beq_eq hb
  subst hb
  subst hi
  refine Vd.ok fun hok hal => ?_
  have b5 := hR.1
  have b6 := hR.2.2.2.1
  have b9 := hA.1
  refine Vd_run (GGo_ok (l := l) (ω := ω)) 500 (cut := fun _ => none) (by decide) CutOK_none ?_
  conv => whnf
  repeat' first
    | (refine And.intro (fun h => ?_) (fun h => ?_) <;> (try simp (disch := decide) only [cmp3_lt, cmp3_ge, cmp3_gt, cmp3_le, cmp3_eq, ms_q, ms_f, mf_q, mf_f, mc_q, mc_f, and_self, and_true, true_and, and_false, false_and, or_true, true_or, or_false, false_or, if_true, if_false, not_true_eq_false, not_false_eq_true, eq_self, reduceIte, Int.reduceEq, Int.reduceLT, Int.reduceLE, Int.reduceNeg, Int.reduceAdd, Int.reduceSub, Int.reduceMul, Int.add_sub_cancel] at h) <;> (try simp (disch := omega) only [w32_e, w64_e, td_pos, tm_pos, Int.add_sub_cancel] at h) <;> first | exact absurd rfl h | exact absurd h (by decide) | (exfalso; omega) | (conv => whnf))
    | (refine And.intro (by first | omega | ((try simp (disch := decide) only [cmp3_lt, cmp3_ge, cmp3_gt, cmp3_le, cmp3_eq, ms_q, ms_f, mf_q, mf_f, mc_q, mc_f, and_self, and_true, true_and, and_false, false_and, or_true, true_or, or_false, false_or, if_true, if_false, not_true_eq_false, not_false_eq_true, eq_self, reduceIte, Int.reduceEq, Int.reduceLT, Int.reduceLE, Int.reduceNeg, Int.reduceAdd, Int.reduceSub, Int.reduceMul, Int.add_sub_cancel]); (try simp (disch := omega) only [w32_e, w64_e, td_pos, tm_pos, Int.add_sub_cancel]); first | assumption | omega) | ((try simp (disch := decide) only [cmp3_lt, cmp3_ge, cmp3_gt, cmp3_le, cmp3_eq, ms_q, ms_f, mf_q, mf_f, mc_q, mc_f, and_self, and_true, true_and, and_false, false_and, or_true, true_or, or_false, false_or, if_true, if_false, not_true_eq_false, not_false_eq_true, eq_self, reduceIte, Int.reduceEq, Int.reduceLT, Int.reduceLE, Int.reduceNeg, Int.reduceAdd, Int.reduceSub, Int.reduceMul, Int.add_sub_cancel]); (try simp (disch := omega) only [w32_e, w64_e, td_pos, tm_pos, Int.add_sub_cancel]); ((repeat' (first | assumption | omega | with_reducible rfl | apply And.intro)); done))) ?_; conv => whnf)
  intro v1 h1v
  have f1 := h1v.1
  have a1 : ISta v1 := by simp (disch := decide) only [ISta, f1]; exact hA
  have o1 : okV (v1 48 0) := okV_congr h1v.2 (vrs_ok hS hR h1.1 h1.2 h2 h3 hd)
  have w1v := sta_v (f1 45 (by decide)) (f1 47 (by decide)) h1v.2
  have ea : min (asS (v1 46 0) (wkL v1 (v1 48 0)) (v1 8 0 6)) 8 = askA M r q p := by
    unfold askA
    rw [w1v, f1 46 (by decide), f1 8 (by decide)]
  have ai := askA_in (M := M) (r := r) (q := q) (p := p) hA.2.1.1
  conv => whnf
  repeat' first
    | (refine And.intro (fun h => ?_) (fun h => ?_) <;> (try simp (disch := decide) only [cmp3_lt, cmp3_ge, cmp3_gt, cmp3_le, cmp3_eq, ms_q, ms_f, mf_q, mf_f, mc_q, mc_f, and_self, and_true, true_and, and_false, false_and, or_true, true_or, or_false, false_or, if_true, if_false, not_true_eq_false, not_false_eq_true, eq_self, reduceIte, Int.reduceEq, Int.reduceLT, Int.reduceLE, Int.reduceNeg, Int.reduceAdd, Int.reduceSub, Int.reduceMul, Int.add_sub_cancel] at h) <;> (try simp (disch := omega) only [w32_e, w64_e, td_pos, tm_pos, Int.add_sub_cancel] at h) <;> first | exact absurd rfl h | exact absurd h (by decide) | (exfalso; omega) | (conv => whnf))
    | (refine And.intro (by first | omega | ((try simp (disch := decide) only [cmp3_lt, cmp3_ge, cmp3_gt, cmp3_le, cmp3_eq, ms_q, ms_f, mf_q, mf_f, mc_q, mc_f, and_self, and_true, true_and, and_false, false_and, or_true, true_or, or_false, false_or, if_true, if_false, not_true_eq_false, not_false_eq_true, eq_self, reduceIte, Int.reduceEq, Int.reduceLT, Int.reduceLE, Int.reduceNeg, Int.reduceAdd, Int.reduceSub, Int.reduceMul, Int.add_sub_cancel]); (try simp (disch := omega) only [w32_e, w64_e, td_pos, tm_pos, Int.add_sub_cancel]); first | assumption | omega) | exact ⟨rfl, a1, o1, a1.1⟩) ?_; conv => whnf)
  intro v2 h2v
  have f2 : ∀ p, p ≠ 48 → p ≠ 49 → v2 p = M p := fun p a b => (h2v p b).trans (f1 p a)
  have a2 : ISta v2 := by simp (disch := decide) only [ISta, f2]; exact hA
  have e48 : v2 48 = v1 48 := h2v 48 (by decide)
  have o2 : okV (v2 48 0) := by rw [e48]; exact o1
  have w2v := sta_v (f2 45 (by decide) (by decide)) (f2 47 (by decide) (by decide)) (V := v2 48 0) (fun j a b => by rw [e48]; exact h1v.2 j a b)
  have ew : fhN (v2 46 0) (wkL v2 (v2 48 0)) 0 (v2 8 0 6 - 0).toNat 0 = whyA M r q p := by
    unfold whyA
    rw [w2v, f2 46 (by decide) (by decide), f2 8 (by decide) (by decide)]
  conv => whnf
  repeat' first
    | (refine And.intro (fun h => ?_) (fun h => ?_) <;> (try simp (disch := decide) only [cmp3_lt, cmp3_ge, cmp3_gt, cmp3_le, cmp3_eq, ms_q, ms_f, mf_q, mf_f, mc_q, mc_f, and_self, and_true, true_and, and_false, false_and, or_true, true_or, or_false, false_or, if_true, if_false, not_true_eq_false, not_false_eq_true, eq_self, reduceIte, Int.reduceEq, Int.reduceLT, Int.reduceLE, Int.reduceNeg, Int.reduceAdd, Int.reduceSub, Int.reduceMul, Int.add_sub_cancel] at h) <;> (try simp (disch := omega) only [w32_e, w64_e, td_pos, tm_pos, Int.add_sub_cancel] at h) <;> first | exact absurd rfl h | exact absurd h (by decide) | (exfalso; omega) | (conv => whnf))
    | (refine And.intro (by first | omega | ((try simp (disch := decide) only [cmp3_lt, cmp3_ge, cmp3_gt, cmp3_le, cmp3_eq, ms_q, ms_f, mf_q, mf_f, mc_q, mc_f, and_self, and_true, true_and, and_false, false_and, or_true, true_or, or_false, false_or, if_true, if_false, not_true_eq_false, not_false_eq_true, eq_self, reduceIte, Int.reduceEq, Int.reduceLT, Int.reduceLE, Int.reduceNeg, Int.reduceAdd, Int.reduceSub, Int.reduceMul, Int.add_sub_cancel]); (try simp (disch := omega) only [w32_e, w64_e, td_pos, tm_pos, Int.add_sub_cancel]); first | assumption | omega) | exact ⟨rfl, a2, o2, a2.1⟩) ?_; conv => whnf)
  intro v3 h3v
  have f3 : ∀ p, p ≠ 48 → p ≠ 49 → v3 p = M p := fun p a b => (h3v p b).trans (f2 p a b)
  have r3 : IRou v3 := by simp (disch := decide) only [IRou, f3]; exact hR
  have s3 : IStp v3 := by simp (disch := decide) only [IStp, f3]; exact hS
  have e1 : v3 1 = M 1 := f3 1 (by decide) (by decide)
  have e5 : v3 5 = M 5 := f3 5 (by decide) (by decide)
  have e34 : v3 34 = M 34 := f3 34 (by decide) (by decide)
  have eg : ghd v3 r (v3 21 0 r) = ghd M r (M 21 0 r) := by
    unfold ghd
    simp (disch := decide) only [f3]
  have gp : 0 ≤ M 5 0 0 ∧ M 5 0 0 ≤ 8 := hG.2.2.1
  have tm := tnA_mem (M := M) (M9 := v3) e5 (f3 30 (by decide) (by decide)) (f3 32 (by decide) (by decide)) e34
  conv => whnf
  repeat' first
    | (refine And.intro (fun h => ?_) (fun h => ?_) <;> (try simp (disch := decide) only [cmp3_lt, cmp3_ge, cmp3_gt, cmp3_le, cmp3_eq, ms_q, ms_f, mf_q, mf_f, mc_q, mc_f, and_self, and_true, true_and, and_false, false_and, or_true, true_or, or_false, false_or, if_true, if_false, not_true_eq_false, not_false_eq_true, eq_self, reduceIte, Int.reduceEq, Int.reduceLT, Int.reduceLE, Int.reduceNeg, Int.reduceAdd, Int.reduceSub, Int.reduceMul, Int.add_sub_cancel] at h) <;> (try simp (disch := omega) only [w32_e, w64_e, td_pos, tm_pos, Int.add_sub_cancel, ea, ew, eg] at h) <;> first | exact absurd rfl h | exact absurd h (by decide) | (exfalso; omega) | (conv => whnf))
    | (refine And.intro (by first | omega | ((try simp (disch := decide) only [cmp3_lt, cmp3_ge, cmp3_gt, cmp3_le, cmp3_eq, ms_q, ms_f, mf_q, mf_f, mc_q, mc_f, and_self, and_true, true_and, and_false, false_and, or_true, true_or, or_false, false_or, if_true, if_false, not_true_eq_false, not_false_eq_true, eq_self, reduceIte, Int.reduceEq, Int.reduceLT, Int.reduceLE, Int.reduceNeg, Int.reduceAdd, Int.reduceSub, Int.reduceMul, Int.add_sub_cancel]); (try simp (disch := omega) only [w32_e, w64_e, td_pos, tm_pos, Int.add_sub_cancel, ea, ew, eg]); first | assumption | omega) | exact ⟨rfl, by rw [e1]; exact h1, r3, s3⟩ | exact ⟨rfl, by rw [ea]; omega, by rw [e5]; exact gp, by rw [e5]; exact ho3, by rw [e5, e34]; exact hP⟩) ?_; conv => whnf)
  all_goals first
    | (refine Eq.mp (congrArg (fun z => Q (some (vI z)) v3) ?_) (hQ v3 ⟨fun p a b _ _ => f3 p a b, fun x f _ => by rw [f3 4 (by decide) (by decide)]⟩)
       unfold tuA
       rw [if_neg (by omega)])
    | (intro v4 h4v
       rw [ea, eg, e5, tm] at h4v
       obtain ⟨g1, g2, g3, g4⟩ := h4v
       have f4 : ∀ p, p ≠ 48 → p ≠ 49 → p ≠ 33 → p ≠ 4 → v4 p = M p := fun p a b c d => (g1 p d c).trans (f3 p a b)
       have f5 : ∀ x f, f ≠ 7 → v4 4 x f = M 4 x f := fun x f h => by rw [g2 x f h, f3 4 (by decide) (by decide)]
       rw [ea, eg, e5, tm]
       by_cases hT : (tnA M (askA M r q p) (ghd M r (M 21 0 r)) (M 5 0 0)).1 = askA M r q p
       · rw [if_pos hT]
         conv => whnf
         repeat' first
    | (refine And.intro (fun h => ?_) (fun h => ?_) <;> (try simp (disch := decide) only [cmp3_lt, cmp3_ge, cmp3_gt, cmp3_le, cmp3_eq, ms_q, ms_f, mf_q, mf_f, mc_q, mc_f, and_self, and_true, true_and, and_false, false_and, or_true, true_or, or_false, false_or, if_true, if_false, not_true_eq_false, not_false_eq_true, eq_self, reduceIte, Int.reduceEq, Int.reduceLT, Int.reduceLE, Int.reduceNeg, Int.reduceAdd, Int.reduceSub, Int.reduceMul, Int.add_sub_cancel] at h) <;> (try simp (disch := omega) only [w32_e, w64_e, td_pos, tm_pos, Int.add_sub_cancel] at h) <;> first | exact absurd rfl h | exact absurd h (by decide) | (exfalso; omega) | (conv => whnf))
    | (refine And.intro (by first | omega | ((try simp (disch := decide) only [cmp3_lt, cmp3_ge, cmp3_gt, cmp3_le, cmp3_eq, ms_q, ms_f, mf_q, mf_f, mc_q, mc_f, and_self, and_true, true_and, and_false, false_and, or_true, true_or, or_false, false_or, if_true, if_false, not_true_eq_false, not_false_eq_true, eq_self, reduceIte, Int.reduceEq, Int.reduceLT, Int.reduceLE, Int.reduceNeg, Int.reduceAdd, Int.reduceSub, Int.reduceMul, Int.add_sub_cancel]); (try simp (disch := omega) only [w32_e, w64_e, td_pos, tm_pos, Int.add_sub_cancel]); first | assumption | omega)) ?_; conv => whnf)
         all_goals
           (refine Eq.mp (congrArg (fun z => Q (some (vI z)) v4) ?_) (hQ v4 ⟨f4, f5⟩)
            unfold tuA
            first
              | (rw [if_pos ⟨by omega, by omega, by omega⟩]; exact (g4 i h4 (by omega)).symm)
              | (rw [if_neg (by omega)]))
       · rw [if_neg hT]
         conv => whnf
         repeat' first
    | (refine And.intro (fun h => ?_) (fun h => ?_) <;> (try simp (disch := decide) only [cmp3_lt, cmp3_ge, cmp3_gt, cmp3_le, cmp3_eq, ms_q, ms_f, mf_q, mf_f, mc_q, mc_f, and_self, and_true, true_and, and_false, false_and, or_true, true_or, or_false, false_or, if_true, if_false, not_true_eq_false, not_false_eq_true, eq_self, reduceIte, Int.reduceEq, Int.reduceLT, Int.reduceLE, Int.reduceNeg, Int.reduceAdd, Int.reduceSub, Int.reduceMul, Int.add_sub_cancel] at h) <;> (try simp (disch := omega) only [w32_e, w64_e, td_pos, tm_pos, Int.add_sub_cancel] at h) <;> first | exact absurd rfl h | exact absurd h (by decide) | (exfalso; omega) | (conv => whnf))
    | (refine And.intro (by first | omega | ((try simp (disch := decide) only [cmp3_lt, cmp3_ge, cmp3_gt, cmp3_le, cmp3_eq, ms_q, ms_f, mf_q, mf_f, mc_q, mc_f, and_self, and_true, true_and, and_false, false_and, or_true, true_or, or_false, false_or, if_true, if_false, not_true_eq_false, not_false_eq_true, eq_self, reduceIte, Int.reduceEq, Int.reduceLT, Int.reduceLE, Int.reduceNeg, Int.reduceAdd, Int.reduceSub, Int.reduceMul, Int.add_sub_cancel]); (try simp (disch := omega) only [w32_e, w64_e, td_pos, tm_pos, Int.add_sub_cancel]); first | assumption | omega)) ?_; conv => whnf)
         all_goals
           (refine Eq.mp (congrArg (fun z => Q (some (vI z)) v4) ?_) (hQ v4 ⟨f4, f5⟩)
            unfold tuA
            rw [if_neg (by omega)]))

def sp_tuR : Spec1 := fun as M Q => match as with
  | [.inr (.inr (.inl (q0, i0))), .inl r, .inl q, .inl p, .inl i] => match Nat.beq q0 13 with
    | true => (i0 = 0 ∧ (0 ≤ r ∧ r < M 1 0 9) ∧ (0 ≤ q ∧ q ≤ 95) ∧ (1 ≤ p ∧ p ≤ 9) ∧ 0 ≤ i ∧ IRou M ∧ IStp M ∧ ISky M ∧ ISta M ∧ (0 ≤ M 5 0 2 ∧ M 5 0 2 ≤ 999) ∧ M 13 0 25 = M 5 0 2 ∧ IGui M ∧ IPerm (M 5 0 0) (M 34 0) ∧ (0 ≤ M 5 0 3 ∧ M 5 0 3 < 512) ∧ (∀ i, 0 ≤ i → i < M 5 0 0 → M 89 0 i = M 34 0 i) ∧ (∀ g, 0 ≤ g → g < 8 → M 86 0 g = bitI (M 5 0 3) g)) ∧ ∀ M9, (∀ p, p ≠ 98 → p ≠ 99 → p ≠ 100 → M9 p = M p) → Q (some (vI (tuA M r q p i))) M9
    | false => False
  | _ => False
theorem ok_tuR {l : Launch} {ω : WP} : ∀ as M Q, sp_tuR as M Q → Vd l ω 9 227 as M Q := by
  intro as M Q h
  unfold sp_tuR at h
  split at h
  case h_2 => exact h.elim
  rename_i q0 i0 r q p i
  cases hb : Nat.beq q0 13 with
  | false => rw [hb] at h; exact h.elim
  | true =>
  rw [hb] at h
  obtain ⟨⟨hi, h1, h2, h3, h4, hR, hS, hK, hA, hd, he, hG, hP, ho3, w1, w6⟩, hQ⟩ := h
  have hb := beq_eq hb
  subst hb
  subst hi
  refine Vd.ok fun hok hal => ?_
  have b5 := hR.1
  have b6 := hR.2.2.2.1
  have b9 := hA.1
  refine Vd_run (GGo_ok (l := l) (ω := ω)) 500 (cut := fun _ => none) (by decide) CutOK_none ?_
  conv => whnf
  repeat' first
    | (refine And.intro (fun h => ?_) (fun h => ?_) <;> (try simp (disch := decide) only [cmp3_lt, cmp3_ge, cmp3_gt, cmp3_le, cmp3_eq, ms_q, ms_f, mf_q, mf_f, mc_q, mc_f, and_self, and_true, true_and, and_false, false_and, or_true, true_or, or_false, false_or, if_true, if_false, not_true_eq_false, not_false_eq_true, eq_self, reduceIte, Int.reduceEq, Int.reduceLT, Int.reduceLE, Int.reduceNeg, Int.reduceAdd, Int.reduceSub, Int.reduceMul, Int.add_sub_cancel] at h) <;> (try simp (disch := omega) only [w32_e, w64_e, td_pos, tm_pos, Int.add_sub_cancel] at h) <;> first | exact absurd rfl h | exact absurd h (by decide) | (exfalso; omega) | (conv => whnf))
    | (refine And.intro (by first | omega | ((try simp (disch := decide) only [cmp3_lt, cmp3_ge, cmp3_gt, cmp3_le, cmp3_eq, ms_q, ms_f, mf_q, mf_f, mc_q, mc_f, and_self, and_true, true_and, and_false, false_and, or_true, true_or, or_false, false_or, if_true, if_false, not_true_eq_false, not_false_eq_true, eq_self, reduceIte, Int.reduceEq, Int.reduceLT, Int.reduceLE, Int.reduceNeg, Int.reduceAdd, Int.reduceSub, Int.reduceMul, Int.add_sub_cancel]); (try simp (disch := omega) only [w32_e, w64_e, td_pos, tm_pos, Int.add_sub_cancel]); first | assumption | omega) | ((try simp (disch := decide) only [cmp3_lt, cmp3_ge, cmp3_gt, cmp3_le, cmp3_eq, ms_q, ms_f, mf_q, mf_f, mc_q, mc_f, and_self, and_true, true_and, and_false, false_and, or_true, true_or, or_false, false_or, if_true, if_false, not_true_eq_false, not_false_eq_true, eq_self, reduceIte, Int.reduceEq, Int.reduceLT, Int.reduceLE, Int.reduceNeg, Int.reduceAdd, Int.reduceSub, Int.reduceMul, Int.add_sub_cancel]); (try simp (disch := omega) only [w32_e, w64_e, td_pos, tm_pos, Int.add_sub_cancel]); ((repeat' (first | assumption | omega | with_reducible rfl | apply And.intro)); done))) ?_; conv => whnf)
  intro v1 h1v
  have f1 := h1v.1
  have a1 : ISta v1 := by simp (disch := decide) only [ISta, f1]; exact hA
  have o1 : okV (v1 98 0) := okV_congr h1v.2 (vrs_ok hS hR h1.1 h1.2 h2 h3 hd)
  have w1v := sta_v (f1 45 (by decide)) (f1 47 (by decide)) h1v.2
  have ew : fhN (v1 46 0) (wkL v1 (v1 98 0)) 0 (v1 8 0 6 - 0).toNat 0 = whyA M r q p := by
    unfold whyA
    rw [w1v, f1 46 (by decide), f1 8 (by decide)]
  have ai := askA_in (M := M) (r := r) (q := q) (p := p) hA.2.1.1
  conv => whnf
  repeat' first
    | (refine And.intro (fun h => ?_) (fun h => ?_) <;> (try simp (disch := decide) only [cmp3_lt, cmp3_ge, cmp3_gt, cmp3_le, cmp3_eq, ms_q, ms_f, mf_q, mf_f, mc_q, mc_f, and_self, and_true, true_and, and_false, false_and, or_true, true_or, or_false, false_or, if_true, if_false, not_true_eq_false, not_false_eq_true, eq_self, reduceIte, Int.reduceEq, Int.reduceLT, Int.reduceLE, Int.reduceNeg, Int.reduceAdd, Int.reduceSub, Int.reduceMul, Int.add_sub_cancel] at h) <;> (try simp (disch := omega) only [w32_e, w64_e, td_pos, tm_pos, Int.add_sub_cancel] at h) <;> first | exact absurd rfl h | exact absurd h (by decide) | (exfalso; omega) | (conv => whnf))
    | (refine And.intro (by first | omega | ((try simp (disch := decide) only [cmp3_lt, cmp3_ge, cmp3_gt, cmp3_le, cmp3_eq, ms_q, ms_f, mf_q, mf_f, mc_q, mc_f, and_self, and_true, true_and, and_false, false_and, or_true, true_or, or_false, false_or, if_true, if_false, not_true_eq_false, not_false_eq_true, eq_self, reduceIte, Int.reduceEq, Int.reduceLT, Int.reduceLE, Int.reduceNeg, Int.reduceAdd, Int.reduceSub, Int.reduceMul, Int.add_sub_cancel]); (try simp (disch := omega) only [w32_e, w64_e, td_pos, tm_pos, Int.add_sub_cancel]); first | assumption | omega) | exact ⟨rfl, a1, o1, a1.1⟩) ?_; conv => whnf)
  intro v2 h2v
  have f2 : ∀ p, p ≠ 98 → p ≠ 99 → v2 p = M p := fun p a b => (h2v p b).trans (f1 p a)
  have a2 : ISta v2 := by simp (disch := decide) only [ISta, f2]; exact hA
  have e98 : v2 98 = v1 98 := h2v 98 (by decide)
  have o2 : okV (v2 98 0) := by rw [e98]; exact o1
  have w2v := sta_v (f2 45 (by decide) (by decide)) (f2 47 (by decide) (by decide)) (V := v2 98 0) (fun j a b => by rw [e98]; exact h1v.2 j a b)
  have ea : min (asS (v2 46 0) (wkL v2 (v2 98 0)) (v2 8 0 6)) 8 = askA M r q p := by
    unfold askA
    rw [w2v, f2 46 (by decide) (by decide), f2 8 (by decide) (by decide)]
  have en : v2 98 0 4 = ghd M r (M 21 0 r) := by
    rw [e98, h1v.2 4 (by decide) (by decide)]
    rfl
  have e5 : v2 5 = M 5 := f2 5 (by decide) (by decide)
  have e34 : v2 34 = M 34 := f2 34 (by decide) (by decide)
  have g2 : IGui v2 := by simp (disch := decide) only [IGui, f2]; exact hG
  have e89 : v2 89 = M 89 := f2 89 (by decide) (by decide)
  have e86 : v2 86 = M 86 := f2 86 (by decide) (by decide)
  have e13 : v2 13 = M 13 := f2 13 (by decide) (by decide)
  have gp : 0 ≤ M 5 0 0 ∧ M 5 0 0 ≤ 8 := hG.2.2.1
  have tm := tnA_mem (M := M) (M9 := v2) e5 (f2 30 (by decide) (by decide)) (f2 32 (by decide) (by decide)) e34
  have ti := tnA_inI (M := M) (nd := ghd M r (M 21 0 r)) (a := askA M r q p) (by omega) gp.1
  conv => whnf
  repeat' first
    | (refine And.intro (fun h => ?_) (fun h => ?_) <;> (try simp (disch := decide) only [cmp3_lt, cmp3_ge, cmp3_gt, cmp3_le, cmp3_eq, ms_q, ms_f, mf_q, mf_f, mc_q, mc_f, and_self, and_true, true_and, and_false, false_and, or_true, true_or, or_false, false_or, if_true, if_false, not_true_eq_false, not_false_eq_true, eq_self, reduceIte, Int.reduceEq, Int.reduceLT, Int.reduceLE, Int.reduceNeg, Int.reduceAdd, Int.reduceSub, Int.reduceMul, Int.add_sub_cancel] at h) <;> (try simp (disch := omega) only [w32_e, w64_e, td_pos, tm_pos, Int.add_sub_cancel, ew] at h) <;> first | exact absurd rfl h | exact absurd h (by decide) | (exfalso; omega) | (conv => whnf))
    | (refine And.intro (by first | omega | ((try simp (disch := decide) only [cmp3_lt, cmp3_ge, cmp3_gt, cmp3_le, cmp3_eq, ms_q, ms_f, mf_q, mf_f, mc_q, mc_f, and_self, and_true, true_and, and_false, false_and, or_true, true_or, or_false, false_or, if_true, if_false, not_true_eq_false, not_false_eq_true, eq_self, reduceIte, Int.reduceEq, Int.reduceLT, Int.reduceLE, Int.reduceNeg, Int.reduceAdd, Int.reduceSub, Int.reduceMul, Int.add_sub_cancel]); (try simp (disch := omega) only [w32_e, w64_e, td_pos, tm_pos, Int.add_sub_cancel, ew]); first | assumption | omega) | exact ⟨rfl, a2, o2, a2.1, g2, by rw [e5, e34]; exact hP, by rw [e5, e34, e89]; exact w1, by rw [e5, e86]; exact w6, by rw [e5, e13]; exact he⟩) ?_; conv => whnf)
  all_goals first
    | (refine Eq.mp (congrArg (fun z => Q (some (vI z)) v2) ?_) (hQ v2 (fun p a b _ => f2 p a b))
       unfold tuA
       rw [if_neg (by omega)])
    | (intro v4 h4v
       rw [ea, en, e5, tm] at h4v
       obtain ⟨g1, g4⟩ := h4v
       have f4 : ∀ p, p ≠ 98 → p ≠ 99 → p ≠ 100 → v4 p = M p := fun p a b c => (g1 p b c).trans (f2 p a b)
       rw [ea, en, e5, tm]
       by_cases hT : (tnA M (askA M r q p) (ghd M r (M 21 0 r)) (M 5 0 0)).1 = askA M r q p
       · rw [if_pos hT]
         conv => whnf
         repeat' first
    | (refine And.intro (fun h => ?_) (fun h => ?_) <;> (try simp (disch := decide) only [cmp3_lt, cmp3_ge, cmp3_gt, cmp3_le, cmp3_eq, ms_q, ms_f, mf_q, mf_f, mc_q, mc_f, and_self, and_true, true_and, and_false, false_and, or_true, true_or, or_false, false_or, if_true, if_false, not_true_eq_false, not_false_eq_true, eq_self, reduceIte, Int.reduceEq, Int.reduceLT, Int.reduceLE, Int.reduceNeg, Int.reduceAdd, Int.reduceSub, Int.reduceMul, Int.add_sub_cancel] at h) <;> (try simp (disch := omega) only [w32_e, w64_e, td_pos, tm_pos, Int.add_sub_cancel] at h) <;> first | exact absurd rfl h | exact absurd h (by decide) | (exfalso; omega) | (conv => whnf))
    | (refine And.intro (by first | omega | ((try simp (disch := decide) only [cmp3_lt, cmp3_ge, cmp3_gt, cmp3_le, cmp3_eq, ms_q, ms_f, mf_q, mf_f, mc_q, mc_f, and_self, and_true, true_and, and_false, false_and, or_true, true_or, or_false, false_or, if_true, if_false, not_true_eq_false, not_false_eq_true, eq_self, reduceIte, Int.reduceEq, Int.reduceLT, Int.reduceLE, Int.reduceNeg, Int.reduceAdd, Int.reduceSub, Int.reduceMul, Int.add_sub_cancel]); (try simp (disch := omega) only [w32_e, w64_e, td_pos, tm_pos, Int.add_sub_cancel]); first | assumption | omega)) ?_; conv => whnf)
         all_goals
           (refine Eq.mp (congrArg (fun z => Q (some (vI z)) v4) ?_) (hQ v4 f4)
            unfold tuA
            first
              | (rw [if_pos ⟨by omega, by omega, by omega⟩]; exact (g4 i h4 (by omega)).symm)
              | (rw [if_neg (by omega)]))
       · rw [if_neg hT]
         conv => whnf
         repeat' first
    | (refine And.intro (fun h => ?_) (fun h => ?_) <;> (try simp (disch := decide) only [cmp3_lt, cmp3_ge, cmp3_gt, cmp3_le, cmp3_eq, ms_q, ms_f, mf_q, mf_f, mc_q, mc_f, and_self, and_true, true_and, and_false, false_and, or_true, true_or, or_false, false_or, if_true, if_false, not_true_eq_false, not_false_eq_true, eq_self, reduceIte, Int.reduceEq, Int.reduceLT, Int.reduceLE, Int.reduceNeg, Int.reduceAdd, Int.reduceSub, Int.reduceMul, Int.add_sub_cancel] at h) <;> (try simp (disch := omega) only [w32_e, w64_e, td_pos, tm_pos, Int.add_sub_cancel] at h) <;> first | exact absurd rfl h | exact absurd h (by decide) | (exfalso; omega) | (conv => whnf))
    | (refine And.intro (by first | omega | ((try simp (disch := decide) only [cmp3_lt, cmp3_ge, cmp3_gt, cmp3_le, cmp3_eq, ms_q, ms_f, mf_q, mf_f, mc_q, mc_f, and_self, and_true, true_and, and_false, false_and, or_true, true_or, or_false, false_or, if_true, if_false, not_true_eq_false, not_false_eq_true, eq_self, reduceIte, Int.reduceEq, Int.reduceLT, Int.reduceLE, Int.reduceNeg, Int.reduceAdd, Int.reduceSub, Int.reduceMul, Int.add_sub_cancel]); (try simp (disch := omega) only [w32_e, w64_e, td_pos, tm_pos, Int.add_sub_cancel]); first | assumption | omega)) ?_; conv => whnf)
         all_goals
           (refine Eq.mp (congrArg (fun z => Q (some (vI z)) v4) ?_) (hQ v4 f4)
            unfold tuA
            rw [if_neg (by omega)]))

theorem tu_mem {M M9 : Mem} (fr : (∀ p, p ≠ 48 → p ≠ 49 → p ≠ 98 → p ≠ 99 → p ≠ 33 → p ≠ 4 → p ≠ 100 → M9 p = M p)) : tuA M9 = tuA M := by
  have e : wkL M9 = wkL M := wkL_mem (fr 45 (by decide) (by decide) (by decide) (by decide) (by decide) (by decide) (by decide)) (fr 47 (by decide) (by decide) (by decide) (by decide) (by decide) (by decide) (by decide))
  have v : vrs M9 = vrs M := by
    funext r q p j
    unfold vrs wv ghd shd sln
    simp (disch := decide) only [fr]
  have t := tnA_mem (M := M) (M9 := M9) (fr 5 (by decide) (by decide) (by decide) (by decide) (by decide) (by decide) (by decide)) (fr 30 (by decide) (by decide) (by decide) (by decide) (by decide) (by decide) (by decide)) (fr 32 (by decide) (by decide) (by decide) (by decide) (by decide) (by decide) (by decide)) (fr 34 (by decide) (by decide) (by decide) (by decide) (by decide) (by decide) (by decide))
  funext r q p i
  unfold tuA whyA askA
  rw [e, v, t]
  unfold ghd
  simp (disch := decide) only [fr]
theorem inv_turn {c : Int} {M : Mem} {M9 : Mem} (fr : (∀ p, p ≠ 48 → p ≠ 49 → p ≠ 98 → p ≠ 99 → p ≠ 33 → p ≠ 4 → p ≠ 100 → M9 p = M p)) (f5 : ∀ x f, f ≠ 7 → M9 4 x f = M 4 x f) (hc : c < 512) (hI : Inv c M) : Inv (c + 1) (M9) := by
  obtain ⟨h0, hN, hS, hR, hK, hG, hW, hJ, hT, hA, hP, hO, hH⟩ := hI
  refine ⟨by omega, ?_, ?_, ?_, ?_, ?_, ?_, ?_, ?_, ?_, ?_, ?_, ?_⟩
  all_goals first
    | (have q := hN; simp (disch := decide) only [INet, ms_q, ms_f, mf_q, mf_f, mc_q, mc_f, fr, f5] at q ⊢; exact q)
    | (have q := hS; simp (disch := decide) only [IStp, ms_q, ms_f, mf_q, mf_f, mc_q, mc_f, fr, f5] at q ⊢; exact q)
    | (have q := hR; simp (disch := decide) only [IRou, ms_q, ms_f, mf_q, mf_f, mc_q, mc_f, fr, f5] at q ⊢; exact q)
    | (have q := hK; simp (disch := decide) only [ISky, ms_q, ms_f, mf_q, mf_f, mc_q, mc_f, fr, f5] at q ⊢; exact q)
    | (have q := hG; simp (disch := decide) only [IGui, ms_q, ms_f, mf_q, mf_f, mc_q, mc_f, fr, f5] at q ⊢; exact q)
    | (have q := hW.next; simp (disch := decide) only [INow, ms_q, ms_f, mf_q, mf_f, mc_q, mc_f, fr, f5] at q ⊢; exact q)
    | (have q := hJ.next; simp (disch := decide) only [IImg, ms_q, ms_f, mf_q, mf_f, mc_q, mc_f, fr, f5] at q ⊢; exact q)
    | (have q := hT; simp (disch := decide) only [ITap, ms_q, ms_f, mf_q, mf_f, mc_q, mc_f, fr, f5] at q ⊢; exact q)
    | (have q := hA; simp (disch := decide) only [ISta, ms_q, ms_f, mf_q, mf_f, mc_q, mc_f, fr, f5] at q ⊢; exact q)
    | (have q := hP; simp (disch := decide) only [IPpl, ms_q, ms_f, mf_q, mf_f, mc_q, mc_f, fr, f5] at q ⊢; exact q)
    | (have q := hO; simp (disch := decide) only [IRop, ms_q, ms_f, mf_q, mf_f, mc_q, mc_f, fr, f5] at q ⊢; exact q)
    | (have q := hH; simp (disch := decide) only [IHrs, ms_q, ms_f, mf_q, mf_f, mc_q, mc_f, fr, f5] at q ⊢; exact q)
    | skip

theorem pair_turn {l : Launch} {ω : WP} {c : Int} {M : Mem} {r : Int} {q : Int} {p : Int} {i : Int} (hr : in32 r) (hq : in32 q) (hp : in32 p) (hi : in32 i)  (hc : c < 512) (hI : Inv c M) : Vd l ω 9 135 [vR 0 0, vI r, vI q, vI p, vI i] M (PQ1 l ω c 227 [vI r, vI q, vI p, vI i]) := by
  have hI0 := hI
  obtain ⟨h0, hN, hS, hR, hK, hG, hW, hJ, hT, hA, hP, hO, hH⟩ := hI
  have b1 := hN.1
  have b2 := hN.2.2.1
  have b3 := hS.1
  have b4 := hS.2.2.1
  have b5 := hR.1
  have b6 := hR.2.2.2.1
  have b7 := hG.1
  have b8 := hG.2.2.1
  have b9 := hA.1
  obtain ⟨w1, w2, w3, w4, w5, w6, w7, w8, w9⟩ := id hW
  have o3 : 0 ≤ M 5 0 3 ∧ M 5 0 3 < 512 := by
    have := pw_in b8.1 (show M 5 0 0 ≤ 9 by omega)
    omega
  by_cases hg : (0 ≤ r ∧ r < M 1 0 9) ∧ (0 ≤ q ∧ q ≤ 95) ∧ (1 ≤ p ∧ p ≤ 9) ∧ 0 ≤ i
  · refine ok_tuC _ _ _ ⟨⟨rfl, hg.1, hg.2.1, hg.2.2.1, hg.2.2.2, hR, hS, hK, hA, w4, w3, hG, w2, o3, w1, w6⟩, fun M9 ⟨f1, f5⟩ => ⟨0, _, rfl, ?_⟩⟩
    have fr : ∀ p, p ≠ 48 → p ≠ 49 → p ≠ 98 → p ≠ 99 → p ≠ 33 → p ≠ 4 → p ≠ 100 → M9 p = M p := fun p a b _ _ c d _ => f1 p a b c d
    have e1 : M9 1 = M 1 := f1 1 (by decide) (by decide) (by decide) (by decide)
    have e5 : M9 5 = M 5 := f1 5 (by decide) (by decide) (by decide) (by decide)
    have e13 : M9 13 = M 13 := f1 13 (by decide) (by decide) (by decide) (by decide)
    have e34 : M9 34 = M 34 := f1 34 (by decide) (by decide) (by decide) (by decide)
    have e86 : M9 86 = M 86 := f1 86 (by decide) (by decide) (by decide) (by decide)
    have e89 : M9 89 = M 89 := f1 89 (by decide) (by decide) (by decide) (by decide)
    have r9 : IRou M9 := by simp (disch := decide) only [IRou, f1]; exact hR
    have s9 : IStp M9 := by simp (disch := decide) only [IStp, f1]; exact hS
    have k9 : ISky M9 := by simp (disch := decide) only [ISky, f1]; exact hK
    have a9 : ISta M9 := by simp (disch := decide) only [ISta, f1]; exact hA
    have g9 : IGui M9 := by simp (disch := decide) only [IGui, f1]; exact hG
    refine ok_tuR _ _ _ ⟨⟨rfl, by rw [e1]; exact hg.1, hg.2.1, hg.2.2.1, hg.2.2.2, r9, s9, k9, a9, by rw [e5]; exact w4, by rw [e5, e13]; exact w3, g9, by rw [e5, e34]; exact w2, by rw [e5]; exact o3, by rw [e5, e34, e89]; exact w1, by rw [e5, e86]; exact w6⟩, fun M8 f2 => ⟨0, by rw [tu_mem fr], ?_⟩⟩
    exact inv_turn (fun p a b c d e f g => (f2 p c d g).trans (fr p a b c d e f g)) (fun x f h => by rw [f2 4 (by decide) (by decide) (by decide)]; exact f5 x f h) hc hI0
  refine Vd_run (GGo_ok (l := l) (ω := ω)) 400 (cut := fun _ => none) (by decide) CutOK_none ?_
  conv => whnf
  repeat' first
    | (refine And.intro (fun h => ?_) (fun h => ?_) <;> (try simp (disch := decide) only [cmp3_lt, cmp3_ge, cmp3_gt, cmp3_le, cmp3_eq, ms_q, ms_f, mf_q, mf_f, mc_q, mc_f, and_self, and_true, true_and, and_false, false_and, or_true, true_or, or_false, false_or, if_true, if_false, not_true_eq_false, not_false_eq_true, eq_self, reduceIte, Int.reduceEq, Int.reduceLT, Int.reduceLE, Int.reduceNeg, Int.reduceAdd, Int.reduceSub, Int.reduceMul, Int.add_sub_cancel] at h) <;> (try simp (disch := omega) only [w32_e, w64_e, td_pos, tm_pos, Int.add_sub_cancel] at h) <;> first | exact absurd rfl h | exact absurd h (by decide) | (exfalso; omega) | (conv => whnf))
    | (refine And.intro (by first | omega | ((try simp (disch := decide) only [cmp3_lt, cmp3_ge, cmp3_gt, cmp3_le, cmp3_eq, ms_q, ms_f, mf_q, mf_f, mc_q, mc_f, and_self, and_true, true_and, and_false, false_and, or_true, true_or, or_false, false_or, if_true, if_false, not_true_eq_false, not_false_eq_true, eq_self, reduceIte, Int.reduceEq, Int.reduceLT, Int.reduceLE, Int.reduceNeg, Int.reduceAdd, Int.reduceSub, Int.reduceMul, Int.add_sub_cancel]); (try simp (disch := omega) only [w32_e, w64_e, td_pos, tm_pos, Int.add_sub_cancel]); first | assumption | omega) | ((try simp (disch := decide) only [cmp3_lt, cmp3_ge, cmp3_gt, cmp3_le, cmp3_eq, ms_q, ms_f, mf_q, mf_f, mc_q, mc_f, and_self, and_true, true_and, and_false, false_and, or_true, true_or, or_false, false_or, if_true, if_false, not_true_eq_false, not_false_eq_true, eq_self, reduceIte, Int.reduceEq, Int.reduceLT, Int.reduceLE, Int.reduceNeg, Int.reduceAdd, Int.reduceSub, Int.reduceMul, Int.add_sub_cancel]); (try simp (disch := omega) only [w32_e, w64_e, td_pos, tm_pos, Int.add_sub_cancel]); ((repeat' (first | assumption | omega | with_reducible rfl | apply And.intro)); done))) ?_; conv => whnf)
    | (intro v; intro hv; conv => whnf)
  all_goals refine ⟨0, _, rfl, ?_⟩
  all_goals refine Vd_run (GGo_ok (l := l) (ω := ω)) 400 (cut := fun _ => none) (by decide) CutOK_none ?_
  all_goals conv => whnf
  all_goals repeat' first
    | (refine And.intro (fun h => ?_) (fun h => ?_) <;> (try simp (disch := decide) only [cmp3_lt, cmp3_ge, cmp3_gt, cmp3_le, cmp3_eq, ms_q, ms_f, mf_q, mf_f, mc_q, mc_f, and_self, and_true, true_and, and_false, false_and, or_true, true_or, or_false, false_or, if_true, if_false, not_true_eq_false, not_false_eq_true, eq_self, reduceIte, Int.reduceEq, Int.reduceLT, Int.reduceLE, Int.reduceNeg, Int.reduceAdd, Int.reduceSub, Int.reduceMul, Int.add_sub_cancel] at h) <;> (try simp (disch := omega) only [w32_e, w64_e, td_pos, tm_pos, Int.add_sub_cancel] at h) <;> first | exact absurd rfl h | exact absurd h (by decide) | (exfalso; omega) | (conv => whnf))
    | (refine And.intro (by first | omega | ((try simp (disch := decide) only [cmp3_lt, cmp3_ge, cmp3_gt, cmp3_le, cmp3_eq, ms_q, ms_f, mf_q, mf_f, mc_q, mc_f, and_self, and_true, true_and, and_false, false_and, or_true, true_or, or_false, false_or, if_true, if_false, not_true_eq_false, not_false_eq_true, eq_self, reduceIte, Int.reduceEq, Int.reduceLT, Int.reduceLE, Int.reduceNeg, Int.reduceAdd, Int.reduceSub, Int.reduceMul, Int.add_sub_cancel]); (try simp (disch := omega) only [w32_e, w64_e, td_pos, tm_pos, Int.add_sub_cancel]); first | assumption | omega) | ((try simp (disch := decide) only [cmp3_lt, cmp3_ge, cmp3_gt, cmp3_le, cmp3_eq, ms_q, ms_f, mf_q, mf_f, mc_q, mc_f, and_self, and_true, true_and, and_false, false_and, or_true, true_or, or_false, false_or, if_true, if_false, not_true_eq_false, not_false_eq_true, eq_self, reduceIte, Int.reduceEq, Int.reduceLT, Int.reduceLE, Int.reduceNeg, Int.reduceAdd, Int.reduceSub, Int.reduceMul, Int.add_sub_cancel]); (try simp (disch := omega) only [w32_e, w64_e, td_pos, tm_pos, Int.add_sub_cancel]); ((repeat' (first | assumption | omega | with_reducible rfl | apply And.intro)); done))) ?_; conv => whnf)
    | (intro v; intro hv; conv => whnf)
  all_goals refine ⟨0, ?_, ?_⟩
  all_goals ((try simp (disch := decide) only [cmp3_lt, cmp3_ge, cmp3_gt, cmp3_le, cmp3_eq, ms_q, ms_f, mf_q, mf_f, mc_q, mc_f, and_self, and_true, true_and, and_false, false_and, or_true, true_or, or_false, false_or, if_true, if_false, not_true_eq_false, not_false_eq_true, eq_self, reduceIte, Int.reduceEq, Int.reduceLT, Int.reduceLE, Int.reduceNeg, Int.reduceAdd, Int.reduceSub, Int.reduceMul, Int.add_sub_cancel] at *); (try simp (disch := omega) only [w32_e, w64_e, td_pos, tm_pos, Int.add_sub_cancel] at *))
  all_goals first
    | exact Inv.next hc hI0
    | exact congrArg (fun z => some (vI z)) (by omega)
    | exact congrArg (fun z => some (vL z)) (by omega)
    | (exfalso; omega)
    | skip
  all_goals exact inv_sta (fun p _ _ z _ => hv.1 p z) hc hI0
