/-! ===== go, by the model (wip/gen/p25.py) ===== -/
def goR (M0 M : Mem) (r q p v : Int) (M9 : Mem) : Prop :=
  (¬ whyA M0 r q p = -4 ∧ v = -2 ∧ ∀ p, p ≠ 98 → p ≠ 99 → M9 p = M p) ∨
  (whyA M0 r q p = -4 ∧ ¬ (tnA M0 (askA M0 r q p) (ghd M0 r (M0 21 0 r)) (M0 5 0 0)).1 = askA M0 r q p ∧ v = -4 ∧ ∀ p, p ≠ 98 → p ≠ 99 → p ≠ 100 → M9 p = M p) ∨
  (whyA M0 r q p = -4 ∧ (tnA M0 (askA M0 r q p) (ghd M0 r (M0 21 0 r)) (M0 5 0 0)).1 = askA M0 r q p ∧ v = askA M0 r q p ∧ (∀ p, p ≠ 13 → p ≠ 86 → p ≠ 87 → p ≠ 89 → p ≠ 98 → p ≠ 99 → p ≠ 100 → M9 p = M p) ∧ (∀ x f, f ≠ 26 → M9 13 x f = M 13 x f) ∧ (M9 13 0 26 = M 13 0 26 + (askA M0 r q p) * ((payA M0 r q p / askA M0 r q p) / 10) ∧ (∀ g, M9 87 0 g = pF (tnA M0 (askA M0 r q p) (ghd M0 r (M0 21 0 r)) (M0 5 0 0)).2 ((payA M0 r q p / askA M0 r q p) - (payA M0 r q p / askA M0 r q p) / 10) (M 87 0) (askA M0 r q p) g) ∧ (∀ g, M9 86 0 g = uF (tnA M0 (askA M0 r q p) (ghd M0 r (M0 21 0 r)) (M0 5 0 0)).2 (M 86 0) (askA M0 r q p) g)) ∧
    (∀ j : Nat, (j : Int) < M0 5 0 0 → (LL (tnA M0 (askA M0 r q p) (ghd M0 r (M0 21 0 r)) (M0 5 0 0)).2 (rowL (M 89 0) (M0 5 0 0).toNat) (askA M0 r q p))[j]? = some (M9 89 0 (j : Int))))

theorem ok_goR {l : Launch} {ω : WP} {M0 M : Mem} {r q p : Int} {Q : Post} (h1 : 0 ≤ r ∧ r < M 1 0 9) (h2 : 0 ≤ q ∧ q ≤ 95) (h3 : 1 ≤ p ∧ p ≤ 9) (hR : IRou M) (hS : IStp M) (hK : ISky M) (hA : ISta M) (hd : 0 ≤ M 5 0 2 ∧ M 5 0 2 ≤ 999) (he : M 13 0 25 = M0 5 0 2) (he2 : M 5 0 2 = M0 5 0 2)
    (hg : M 13 0 17 = M0 5 0 0 ∧ M 83 0 = M0 30 0 ∧ M 85 0 = M0 32 0 ∧ (0 ≤ M0 5 0 0 ∧ M0 5 0 0 ≤ 8)) (hP : IPerm (M0 5 0 0) (M0 34 0)) (w1 : ∀ i, 0 ≤ i → i < M0 5 0 0 → M 89 0 i = M0 34 0 i) (w6 : ∀ g, 0 ≤ g → g < 8 → M 86 0 g = bitI (M0 5 0 3) g)
    (hv : vrs M r q p = vrs M0 r q p) (hw : wkL M = wkL M0) (hs : M 46 = M0 46 ∧ M 8 = M0 8) (hpu : 0 ≤ M 13 0 26 ∧ M 13 0 26 ≤ 1000000000)
    (hQ : ∀ v M9, goR M0 M r q p v M9 → Q (some (vI v)) M9) : Vd l ω 9 228 [vR 13 0, vI r, vI q, vI p] M Q := by
  refine Vd.ok fun hok hal => ?_
  have b5 := hR.1
  have b6 := hR.2.2.2.1
  have b9 := hA.1
  have b7 := hg.1
  have e17 := b5
  have wi := b5
  have m87 := b5
  have n0 := hg.2.2.2
  have ai := askA_in (M := M0) (r := r) (q := q) (p := p) (by rw [← hs.2]; exact hA.2.1.1)
  have pi := payA_in M0 r q p
  have tel := tnA_el (a := askA M0 r q p) (nd := ghd M0 r (M0 21 0 r)) hP (M0 5 0 0).toNat (by omega)
  rw [Int.toNat_of_nonneg n0.1] at tel
  unfold goR at hQ
  obtain ⟨A, eA⟩ : ∃ A, askA M0 r q p = A := ⟨_, rfl⟩
  obtain ⟨P, eP⟩ : ∃ P, payA M0 r q p = P := ⟨_, rfl⟩
  obtain ⟨Z, eZ⟩ : ∃ Z, whyA M0 r q p = Z := ⟨_, rfl⟩
  obtain ⟨N, eN⟩ : ∃ N, M0 5 0 0 = N := ⟨_, rfl⟩
  rw [eA, eP, eZ] at hQ
  rw [eA] at tel ai
  rw [eP] at pi
  obtain ⟨W, eW⟩ : ∃ W, tnA M0 A (ghd M0 r (M0 21 0 r)) (M0 5 0 0) = W := ⟨_, rfl⟩
  rw [eW] at hQ tel
  rw [eN] at hQ tel hP w1 b7 n0
  obtain ⟨X, eX⟩ : ∃ X, P / A = X := ⟨_, rfl⟩
  rw [eX] at hQ
  obtain ⟨T, eT⟩ : ∃ T, W.2 = T := ⟨_, rfl⟩
  rw [eT] at hQ tel
  have xi : 0 ≤ X ∧ X ≤ 1000000 := by
    rw [← eX]
    have := Int.ediv_le_self A pi.1
    exact ⟨Int.ediv_nonneg pi.1 (by omega), by omega⟩
  by_cases c0 : Z = -4 ∧ W.1 = A
  case neg =>
    refine Vd_run (GGr_ok (l := l) (ω := ω)) 600 (cut := fun _ => none) (by decide) CutOK_none ?_
    conv => whnf
    repeat' first
      | (refine And.intro (fun h => ?_) (fun h => ?_) <;> (try simp (disch := decide) only [cmp3_lt, cmp3_ge, cmp3_gt, cmp3_le, cmp3_eq, ms_q, ms_f, mf_q, mf_f, mc_q, mc_f, and_self, and_true, true_and, and_false, false_and, or_true, true_or, or_false, false_or, if_true, if_false, not_true_eq_false, not_false_eq_true, eq_self, reduceIte, Int.reduceEq, Int.reduceLT, Int.reduceLE, Int.reduceNeg, Int.reduceAdd, Int.reduceSub, Int.reduceMul, Int.add_sub_cancel] at h) <;> (try simp (disch := omega) only [w32_e, w64_e, td_pos, tm_pos, Int.add_sub_cancel] at h) <;> first | exact absurd rfl h | exact absurd h (by decide) | (exfalso; omega) | (conv => whnf))
      | (refine And.intro (by first | omega | ((try simp (disch := decide) only [cmp3_lt, cmp3_ge, cmp3_gt, cmp3_le, cmp3_eq, ms_q, ms_f, mf_q, mf_f, mc_q, mc_f, and_self, and_true, true_and, and_false, false_and, or_true, true_or, or_false, false_or, if_true, if_false, not_true_eq_false, not_false_eq_true, eq_self, reduceIte, Int.reduceEq, Int.reduceLT, Int.reduceLE, Int.reduceNeg, Int.reduceAdd, Int.reduceSub, Int.reduceMul, Int.add_sub_cancel]); (try simp (disch := omega) only [w32_e, w64_e, td_pos, tm_pos, Int.add_sub_cancel]); first | assumption | omega) | ((try simp (disch := decide) only [cmp3_lt, cmp3_ge, cmp3_gt, cmp3_le, cmp3_eq, ms_q, ms_f, mf_q, mf_f, mc_q, mc_f, and_self, and_true, true_and, and_false, false_and, or_true, true_or, or_false, false_or, if_true, if_false, not_true_eq_false, not_false_eq_true, eq_self, reduceIte, Int.reduceEq, Int.reduceLT, Int.reduceLE, Int.reduceNeg, Int.reduceAdd, Int.reduceSub, Int.reduceMul, Int.add_sub_cancel]); (try simp (disch := omega) only [w32_e, w64_e, td_pos, tm_pos, Int.add_sub_cancel]); ((repeat' (first | assumption | omega | with_reducible rfl | apply And.intro)); done))) ?_; conv => whnf)
    intro v1 h1v
    have f1 := h1v.1
    have a1 : ISta v1 := by simp (disch := decide) only [ISta, f1]; exact hA
    have o1 : okV (v1 98 0) := okV_congr h1v.2 (vrs_ok hS hR h1.1 h1.2 h2 h3 hd)
    have w1v := sta_v (f1 45 (by decide)) (f1 47 (by decide)) h1v.2
    have ew : fhN (v1 46 0) (wkL v1 (v1 98 0)) 0 (v1 8 0 6 - 0).toNat 0 = Z := by
      rw [← eZ]
      unfold whyA
      rw [w1v, f1 46 (by decide), f1 8 (by decide), hv, hw, hs.1, hs.2]
    conv => whnf
    repeat' first
      | (refine And.intro (fun h => ?_) (fun h => ?_) <;> (try simp (disch := decide) only [cmp3_lt, cmp3_ge, cmp3_gt, cmp3_le, cmp3_eq, ms_q, ms_f, mf_q, mf_f, mc_q, mc_f, and_self, and_true, true_and, and_false, false_and, or_true, true_or, or_false, false_or, if_true, if_false, not_true_eq_false, not_false_eq_true, eq_self, reduceIte, Int.reduceEq, Int.reduceLT, Int.reduceLE, Int.reduceNeg, Int.reduceAdd, Int.reduceSub, Int.reduceMul, Int.add_sub_cancel] at h) <;> (try simp (disch := omega) only [w32_e, w64_e, td_pos, tm_pos, Int.add_sub_cancel] at h) <;> first | exact absurd rfl h | exact absurd h (by decide) | (exfalso; omega) | (conv => whnf))
      | (refine And.intro (by first | omega | ((try simp (disch := decide) only [cmp3_lt, cmp3_ge, cmp3_gt, cmp3_le, cmp3_eq, ms_q, ms_f, mf_q, mf_f, mc_q, mc_f, and_self, and_true, true_and, and_false, false_and, or_true, true_or, or_false, false_or, if_true, if_false, not_true_eq_false, not_false_eq_true, eq_self, reduceIte, Int.reduceEq, Int.reduceLT, Int.reduceLE, Int.reduceNeg, Int.reduceAdd, Int.reduceSub, Int.reduceMul, Int.add_sub_cancel]); (try simp (disch := omega) only [w32_e, w64_e, td_pos, tm_pos, Int.add_sub_cancel]); first | assumption | omega) | exact ⟨rfl, a1, o1, a1.1⟩) ?_; conv => whnf)
    intro v2 h2v
    have f2 : ∀ p, p ≠ 98 → p ≠ 99 → v2 p = M p := fun p a b => (h2v p b).trans (f1 p a)
    have a2 : ISta v2 := by simp (disch := decide) only [ISta, f2]; exact hA
    have e98 : v2 98 = v1 98 := h2v 98 (by decide)
    have o2 : okV (v2 98 0) := by rw [e98]; exact o1
    have w2v := sta_v (f2 45 (by decide) (by decide)) (f2 47 (by decide) (by decide)) (V := v2 98 0) (fun j a b => by rw [e98]; exact h1v.2 j a b)
    have ea : min (asS (v2 46 0) (wkL v2 (v2 98 0)) (v2 8 0 6)) 8 = A := by
      rw [← eA]
      unfold askA
      rw [w2v, f2 46 (by decide) (by decide), f2 8 (by decide) (by decide), hv, hw, hs.1, hs.2]
    have en : v2 98 0 4 = ghd M0 r (M0 21 0 r) := by
      rw [e98, h1v.2 4 (by decide) (by decide), hv]
      rfl
    conv => whnf
    repeat' first
      | (refine And.intro (fun h => ?_) (fun h => ?_) <;> (try simp (disch := decide) only [cmp3_lt, cmp3_ge, cmp3_gt, cmp3_le, cmp3_eq, ms_q, ms_f, mf_q, mf_f, mc_q, mc_f, and_self, and_true, true_and, and_false, false_and, or_true, true_or, or_false, false_or, if_true, if_false, not_true_eq_false, not_false_eq_true, eq_self, reduceIte, Int.reduceEq, Int.reduceLT, Int.reduceLE, Int.reduceNeg, Int.reduceAdd, Int.reduceSub, Int.reduceMul, Int.add_sub_cancel] at h) <;> (try simp (disch := omega) only [w32_e, w64_e, td_pos, tm_pos, Int.add_sub_cancel, ew] at h) <;> first | exact absurd rfl h | exact absurd h (by decide) | (exfalso; omega) | (conv => whnf))
      | (refine And.intro (by first | omega | ((try simp (disch := decide) only [cmp3_lt, cmp3_ge, cmp3_gt, cmp3_le, cmp3_eq, ms_q, ms_f, mf_q, mf_f, mc_q, mc_f, and_self, and_true, true_and, and_false, false_and, or_true, true_or, or_false, false_or, if_true, if_false, not_true_eq_false, not_false_eq_true, eq_self, reduceIte, Int.reduceEq, Int.reduceLT, Int.reduceLE, Int.reduceNeg, Int.reduceAdd, Int.reduceSub, Int.reduceMul, Int.add_sub_cancel]); (try simp (disch := omega) only [w32_e, w64_e, td_pos, tm_pos, Int.add_sub_cancel, ew]); first | assumption | omega) | exact ⟨rfl, a2, o2, a2.1⟩) ?_; conv => whnf)
    all_goals first
      | exact hQ _ v2 (Or.inl ⟨by omega, rfl, f2⟩)
      | skip
    all_goals refine ⟨M0, ⟨⟨by rw [f2 13 (by decide) (by decide)]; exact hg.1, by rw [f2 83 (by decide) (by decide)]; exact hg.2.1, by rw [f2 85 (by decide) (by decide)]; exact hg.2.2.1, hg.2.2.2⟩, by rw [eN]; exact hP, by rw [eN, f2 89 (by decide) (by decide)]; exact w1, by rw [f2 86 (by decide) (by decide)]; exact w6, by rw [f2 13 (by decide) (by decide)]; exact he⟩, fun v3 h3v => ?_⟩
    rw [ea, en, eW, eT] at h3v
    obtain ⟨g1, g4⟩ := h3v
    have f3 : ∀ p, p ≠ 98 → p ≠ 99 → p ≠ 100 → v3 p = M p := fun p a b c => (g1 p b c).trans (f2 p a b)
    rw [ea, en, eW]
    have hT : ¬ W.1 = A := fun z => c0 ⟨by omega, z⟩
    rw [if_neg hT]
    conv => whnf
    repeat' first
      | (refine And.intro (fun h => ?_) (fun h => ?_) <;> (try simp (disch := decide) only [cmp3_lt, cmp3_ge, cmp3_gt, cmp3_le, cmp3_eq, ms_q, ms_f, mf_q, mf_f, mc_q, mc_f, and_self, and_true, true_and, and_false, false_and, or_true, true_or, or_false, false_or, if_true, if_false, not_true_eq_false, not_false_eq_true, eq_self, reduceIte, Int.reduceEq, Int.reduceLT, Int.reduceLE, Int.reduceNeg, Int.reduceAdd, Int.reduceSub, Int.reduceMul, Int.add_sub_cancel] at h) <;> (try simp (disch := omega) only [w32_e, w64_e, td_pos, tm_pos, Int.add_sub_cancel] at h) <;> first | exact absurd rfl h | exact absurd h (by decide) | (exfalso; omega) | (conv => whnf))
      | (refine And.intro (by first | omega | ((try simp (disch := decide) only [cmp3_lt, cmp3_ge, cmp3_gt, cmp3_le, cmp3_eq, ms_q, ms_f, mf_q, mf_f, mc_q, mc_f, and_self, and_true, true_and, and_false, false_and, or_true, true_or, or_false, false_or, if_true, if_false, not_true_eq_false, not_false_eq_true, eq_self, reduceIte, Int.reduceEq, Int.reduceLT, Int.reduceLE, Int.reduceNeg, Int.reduceAdd, Int.reduceSub, Int.reduceMul, Int.add_sub_cancel]); (try simp (disch := omega) only [w32_e, w64_e, td_pos, tm_pos, Int.add_sub_cancel]); first | assumption | omega)) ?_; conv => whnf)
    all_goals exact hQ _ v3 (Or.inr (Or.inl ⟨by omega, hT, rfl, f3⟩))
  rw [c0.2] at tel
  have lin : ∀ i, 0 ≤ i → i ≤ A → (LL T (rowL (M 89 0) N.toNat) i).length = N.toNat ∧ ∀ x, 0 ≤ x → x < N → x ∈ LL T (rowL (M 89 0) N.toNat) i := fun i i0 i1 => by
    have := LL_in (T := T) (L0 := rowL (M 89 0) N.toNat) (n := N) (t := A) rowL_len (fun x x0 x1 => by
      obtain ⟨y, y0, y1, y2⟩ := hP.2.2 x x0 x1
      exact rowL_mem.mpr ⟨y.toNat, by omega, by rw [Int.toNat_of_nonneg y0, w1 y y0 y1]; exact y2⟩) tel i.toNat (by omega)
    rw [Int.toNat_of_nonneg i0] at this
    exact this
  have key : ∀ n9, CutOK l ω 9 228 (cutL [(50, [0, 1, 2, 3, 4, 5, 6], fun kk vs M9 => ∃ i : Int, vs = [vR 13 0, vI r, vI q, vI p, vI A, vI X, vI i] ∧ kk = ((A - i) * 100 + 50).toNat ∧ (0 ≤ i ∧ i ≤ A) ∧ (∀ p, p ≠ 13 → p ≠ 86 → p ≠ 87 → p ≠ 89 → p ≠ 98 → p ≠ 99 → p ≠ 100 → M9 p = M p) ∧ (∀ x f, f ≠ 26 → M9 13 x f = M 13 x f) ∧ (∀ j, 0 ≤ j → j < A → M9 100 0 j = T j) ∧ (M9 13 0 26 = M 13 0 26 + (i) * (X / 10) ∧ (∀ g, M9 87 0 g = pF T (X - X / 10) (M 87 0) (i) g) ∧ (∀ g, M9 86 0 g = uF T (M 86 0) (i) g)) ∧ (∀ j : Nat, (j : Int) < N → (LL T (rowL (M 89 0) (N).toNat) (i))[j]? = some (M9 89 0 (j : Int)))), (114, [0, 1, 2, 3, 4, 5, 6, 7, 8], fun kk vs M9 => ∃ i g k : Int, vs = [vR 13 0, vI r, vI q, vI p, vI A, vI X, vI i, vI g, vI k] ∧ kk = ((A - i - 1) * 100 + 60 + (N - k)).toNat ∧ (0 ≤ i ∧ i < A) ∧ (∀ p, p ≠ 13 → p ≠ 86 → p ≠ 87 → p ≠ 89 → p ≠ 98 → p ≠ 99 → p ≠ 100 → M9 p = M p) ∧ (∀ x f, f ≠ 26 → M9 13 x f = M 13 x f) ∧ (∀ j, 0 ≤ j → j < A → M9 100 0 j = T j) ∧ (M9 13 0 26 = M 13 0 26 + (i + 1) * (X / 10) ∧ (∀ g, M9 87 0 g = pF T (X - X / 10) (M 87 0) (i + 1) g) ∧ (∀ g, M9 86 0 g = uF T (M 86 0) (i + 1) g)) ∧ g = T i ∧ (∃ k0 : Nat, (LL T (rowL (M 89 0) (N).toNat) (i))[k0]? = some g ∧ (∀ j, j < k0 → ¬ (LL T (rowL (M 89 0) (N).toNat) (i))[j]? = some g) ∧ ((k0 : Int) ≤ k ∧ k < N) ∧ (∀ j : Nat, (j : Int) < k → (if j < k0 then (LL T (rowL (M 89 0) (N).toNat) (i))[j]? else (LL T (rowL (M 89 0) (N).toNat) (i))[j + 1]?) = some (M9 89 0 (j : Int))) ∧ (∀ j : Nat, k ≤ (j : Int) → (j : Int) < N → (LL T (rowL (M 89 0) (N).toNat) (i))[j]? = some (M9 89 0 (j : Int)))))] n9) Q := by
    refine loops (GGr_ok (l := l) (ω := ω)) 600 _ ?_
    refine List.forall_mem_cons.mpr ⟨?_, List.forall_mem_cons.mpr ⟨?_, fun _ h => absurd h List.not_mem_nil⟩⟩
    · rintro n9 vs M9 ⟨i, rfl, rfl, i0, fr, f13, who, st, od⟩
      have e17 : M9 13 0 17 = N := by rw [f13 0 17 (by decide)]; exact b7
      obtain ⟨s1, s2, s3⟩ := st
      have wi : i < A → M9 100 0 i = T i := fun z => who i i0.1 z
      have ti : i < A → 0 ≤ T i ∧ T i < N := fun z => tel i i0.1 z
      have li := lin i i0.1 i0.2
      have pe : i < A → _ := fun z => pl_ex (f := M9 89 0) n0.2 li.1 (li.2 (T i) (ti z).1 (ti z).2) od
      have m87 := s2
      show wpH _ 600 _ 228 _ true 50 [vR 13 0, vI r, vI q, vI p, vI A, vI X, vI i, vU, vU] [] _ Q
      conv => whnf
      repeat' first
        | (refine And.intro (fun h => ?_) (fun h => ?_) <;> (try simp (disch := decide) only [cmp3_lt, cmp3_ge, cmp3_gt, cmp3_le, cmp3_eq, ms_q, ms_f, mf_q, mf_f, mc_q, mc_f, and_self, and_true, true_and, and_false, false_and, or_true, true_or, or_false, false_or, if_true, if_false, not_true_eq_false, not_false_eq_true, eq_self, reduceIte, Int.reduceEq, Int.reduceLT, Int.reduceLE, Int.reduceNeg, Int.reduceAdd, Int.reduceSub, Int.reduceMul, Int.add_sub_cancel] at h) <;> (try simp (disch := omega) only [w32_e, w64_e, td_pos, tm_pos, Int.add_sub_cancel, e17, wi, m87] at h) <;> first | exact absurd rfl h | exact absurd h (by decide) | (exfalso; omega) | (conv => whnf))
        | (refine And.intro (by first | omega | ((try simp (disch := decide) only [cmp3_lt, cmp3_ge, cmp3_gt, cmp3_le, cmp3_eq, ms_q, ms_f, mf_q, mf_f, mc_q, mc_f, and_self, and_true, true_and, and_false, false_and, or_true, true_or, or_false, false_or, if_true, if_false, not_true_eq_false, not_false_eq_true, eq_self, reduceIte, Int.reduceEq, Int.reduceLT, Int.reduceLE, Int.reduceNeg, Int.reduceAdd, Int.reduceSub, Int.reduceMul, Int.add_sub_cancel]); (try simp (disch := omega) only [w32_e, w64_e, td_pos, tm_pos, Int.add_sub_cancel, e17, wi, m87]); first | assumption | omega) | ((try simp (disch := decide) only [cmp3_lt, cmp3_ge, cmp3_gt, cmp3_le, cmp3_eq, ms_q, ms_f, mf_q, mf_f, mc_q, mc_f, and_self, and_true, true_and, and_false, false_and, or_true, true_or, or_false, false_or, if_true, if_false, not_true_eq_false, not_false_eq_true, eq_self, reduceIte, Int.reduceEq, Int.reduceLT, Int.reduceLE, Int.reduceNeg, Int.reduceAdd, Int.reduceSub, Int.reduceMul, Int.add_sub_cancel]); (try simp (disch := omega) only [w32_e, w64_e, td_pos, tm_pos, Int.add_sub_cancel, e17, wi, m87]); exact pe (by omega)) | ((try simp (disch := decide) only [cmp3_lt, cmp3_ge, cmp3_gt, cmp3_le, cmp3_eq, ms_q, ms_f, mf_q, mf_f, mc_q, mc_f, and_self, and_true, true_and, and_false, false_and, or_true, true_or, or_false, false_or, if_true, if_false, not_true_eq_false, not_false_eq_true, eq_self, reduceIte, Int.reduceEq, Int.reduceLT, Int.reduceLE, Int.reduceNeg, Int.reduceAdd, Int.reduceSub, Int.reduceMul, Int.add_sub_cancel]); (try simp (disch := omega) only [w32_e, w64_e, td_pos, tm_pos, Int.add_sub_cancel, e17, wi, m87]); ((repeat' (first | assumption | omega | with_reducible rfl | apply And.intro)); done))) ?_; conv => whnf)
        | (intro v; intro hv; conv => whnf)
      all_goals first
        | (have e9 : i = A := by omega
           rw [e9] at s1 s2 s3 od
           exact hQ A M9 (Or.inr (Or.inr ⟨c0.1, c0.2, rfl, fr, f13, ⟨s1, s2, s3⟩, od⟩)))
        | (rename_i v hv
           simp (disch := decide) only [ms_q] at hv
           rw [wi h] at hv
           obtain ⟨v0, v1, v2⟩ := hv
           have pn := pl_in (f := M9 89 0) (k := v) n0.1 li.1 (li.2 (T i) (ti h).1 (ti h).2) od v0.1 v1 v2
           have em : (i + 1) * (X / 10) = i * (X / 10) + X / 10 := by rw [Int.add_mul, Int.one_mul]
           have y0 : 0 ≤ i * (X / 10) := Int.mul_nonneg i0.1 (by omega)
           have y1 : i * (X / 10) ≤ 8 * (X / 10) := Int.mul_le_mul_of_nonneg_right (by omega) (by omega)
           have ex10 : w32 (X / 10) = X / 10 := w32_e (by omega) (by omega)
           have ed : w32 (X - w32 (X.tdiv 10)) = X - X / 10 := by
             rw [td_pos xi.1, ex10, w32_e (by omega) (by omega)]
           refine ⟨_, ?_, _, _, _, rfl, rfl, ⟨i0.1, h⟩, ?_, ?_, ?_, ⟨?_, ?_, ?_⟩, wi h, ?_⟩
           · have := pn
             omega
           · intro p a b c d e f g
             rw [ms_q a, ms_q c, ms_q b]
             exact fr p a b c d e f g
           · intro x f hf
             rw [ms_f, if_neg (by omega), ms_q (by decide), ms_q (by decide)]
             exact f13 x f hf
           · intro j j0 j1
             rw [ms_q (by decide), ms_q (by decide), ms_q (by decide)]
             exact who j j0 j1
           · rw [ms_f, if_pos ⟨rfl, rfl⟩, ms_q (by decide), ms_q (by decide), em, s1, td_pos xi.1]
             generalize i * (X / 10) = y at y0 y1
             rw [ex10, w32_e (by omega) (by omega)]
             omega
           · intro g
             rw [ms_q (by decide), ms_f, ms_q (by decide), pF_s i0.1, ed, wi h, s2]
             unfold updI
             by_cases e : g = T i
             · rw [if_pos ⟨rfl, e⟩, if_pos e]
             · rw [if_neg (fun z => e z.2), if_neg e]
               exact s2 g
           · intro g
             rw [ms_q (by decide), ms_q (by decide), ms_f, uF_s i0.1, wi h]
             unfold updI
             by_cases e : g = T i
             · rw [if_pos ⟨rfl, e⟩, if_pos e]
             · rw [if_neg (fun z => e z.2), if_neg e]
               exact s3 g
           · rw [wi h, ms_q (by decide), ms_q (by decide), ms_q (by decide)]
             exact pn)
    · rintro n9 vs M9 ⟨i, g, k, rfl, rfl, i0, fr, f13, who, ⟨s1, s2, s3⟩, hg, ⟨k0, kg, km, kr, klo, khi⟩⟩
      have e17 : M9 13 0 17 = N := by rw [f13 0 17 (by decide)]; exact b7
      have wi := e17
      have m87 := e17
      have n1 : 1 ≤ N := by omega
      show wpH _ 600 _ 228 _ true 114 [vR 13 0, vI r, vI q, vI p, vI A, vI X, vI i, vI g, vI k] [] _ Q
      conv => whnf
      repeat' first
        | (refine And.intro (fun h => ?_) (fun h => ?_) <;> (try simp (disch := decide) only [cmp3_lt, cmp3_ge, cmp3_gt, cmp3_le, cmp3_eq, ms_q, ms_f, mf_q, mf_f, mc_q, mc_f, and_self, and_true, true_and, and_false, false_and, or_true, true_or, or_false, false_or, if_true, if_false, not_true_eq_false, not_false_eq_true, eq_self, reduceIte, Int.reduceEq, Int.reduceLT, Int.reduceLE, Int.reduceNeg, Int.reduceAdd, Int.reduceSub, Int.reduceMul, Int.add_sub_cancel] at h) <;> (try simp (disch := omega) only [w32_e, w64_e, td_pos, tm_pos, Int.add_sub_cancel, e17, wi, m87] at h) <;> first | exact absurd rfl h | exact absurd h (by decide) | (exfalso; omega) | (conv => whnf))
        | (refine And.intro (by first | omega | ((try simp (disch := decide) only [cmp3_lt, cmp3_ge, cmp3_gt, cmp3_le, cmp3_eq, ms_q, ms_f, mf_q, mf_f, mc_q, mc_f, and_self, and_true, true_and, and_false, false_and, or_true, true_or, or_false, false_or, if_true, if_false, not_true_eq_false, not_false_eq_true, eq_self, reduceIte, Int.reduceEq, Int.reduceLT, Int.reduceLE, Int.reduceNeg, Int.reduceAdd, Int.reduceSub, Int.reduceMul, Int.add_sub_cancel]); (try simp (disch := omega) only [w32_e, w64_e, td_pos, tm_pos, Int.add_sub_cancel, e17, wi, m87]); first | assumption | omega) | ((try simp (disch := decide) only [cmp3_lt, cmp3_ge, cmp3_gt, cmp3_le, cmp3_eq, ms_q, ms_f, mf_q, mf_f, mc_q, mc_f, and_self, and_true, true_and, and_false, false_and, or_true, true_or, or_false, false_or, if_true, if_false, not_true_eq_false, not_false_eq_true, eq_self, reduceIte, Int.reduceEq, Int.reduceLT, Int.reduceLE, Int.reduceNeg, Int.reduceAdd, Int.reduceSub, Int.reduceMul, Int.add_sub_cancel]); (try simp (disch := omega) only [w32_e, w64_e, td_pos, tm_pos, Int.add_sub_cancel, e17, wi, m87]); exact pe (by omega)) | ((try simp (disch := decide) only [cmp3_lt, cmp3_ge, cmp3_gt, cmp3_le, cmp3_eq, ms_q, ms_f, mf_q, mf_f, mc_q, mc_f, and_self, and_true, true_and, and_false, false_and, or_true, true_or, or_false, false_or, if_true, if_false, not_true_eq_false, not_false_eq_true, eq_self, reduceIte, Int.reduceEq, Int.reduceLT, Int.reduceLE, Int.reduceNeg, Int.reduceAdd, Int.reduceSub, Int.reduceMul, Int.add_sub_cancel]); (try simp (disch := omega) only [w32_e, w64_e, td_pos, tm_pos, Int.add_sub_cancel, e17, wi, m87]); ((repeat' (first | assumption | omega | with_reducible rfl | apply And.intro)); done))) ?_; conv => whnf)
        | (intro v; intro hv; conv => whnf)
      all_goals have ki : 0 ≤ k ∧ k < N ∧ N ≤ 8 := by omega
      all_goals first
        | (have e17' : w32 (N - 1) = N - 1 := w32_e (by omega) (by omega)
           have ei : w32 (i + 1) = i + 1 := w32_e (by omega) (by omega)
           have kk : N ≤ k + 1 := by omega
           have li := lin i i0.1 (by omega)
           refine ⟨_, ?_, i + 1, by rw [ei], rfl, ⟨by omega, by omega⟩, ?_, ?_, ?_, ⟨?_, ?_, ?_⟩, ?_⟩
           · omega
           · intro p a b c d e f g
             rw [ms_q d]
             exact fr p a b c d e f g
           · intro x f hf
             rw [ms_q (by decide)]
             exact f13 x f hf
           · intro j j0 j1
             rw [ms_q (by decide)]
             exact who j j0 j1
           · rw [ms_q (by decide)]
             exact s1
           · rw [ms_q (by decide)]
             exact s2
           · rw [ms_q (by decide)]
             exact s3
           · rw [LL_s i0.1, ← hg]
             refine pl_out (f := M9 89 0) (k := k) li.1 kg km kr.2 kk kr.1 klo (fun j => ?_)
             rw [ms_f, e17, e17']
             simp only [true_and])
        | (have ek : w32 (k + 1) = k + 1 := w32_e (by omega) (by omega)
           have kk : k + 1 < N := by omega
           have ps := pl_step (f := M9 89 0) (f' := mset M9 89 0 k (M9 89 0 (k + 1)) 89 0) kk kr.1 klo khi (fun j => by rw [ms_f]; simp only [true_and])
           refine ⟨_, ?_, i, g, k + 1, by rw [ek], rfl, i0, ?_, ?_, ?_, ⟨?_, ?_, ?_⟩, hg, ?_⟩
           · omega
           · intro p a b c d e f g
             rw [ms_q d]
             exact fr p a b c d e f g
           · intro x f hf
             rw [ms_q (by decide)]
             exact f13 x f hf
           · intro j j0 j1
             rw [ms_q (by decide)]
             exact who j j0 j1
           · rw [ms_q (by decide)]
             exact s1
           · rw [ms_q (by decide)]
             exact s2
           · rw [ms_q (by decide)]
             exact s3
           · rw [ek]
             exact ⟨k0, kg, km, ⟨by omega, kk⟩, ps.1, ps.2⟩)
  refine Vd_run (GGr_ok (l := l) (ω := ω)) 600 (hC := key 5000) (by decide) ?_
  conv => whnf
  repeat' first
    | (refine And.intro (fun h => ?_) (fun h => ?_) <;> (try simp (disch := decide) only [cmp3_lt, cmp3_ge, cmp3_gt, cmp3_le, cmp3_eq, ms_q, ms_f, mf_q, mf_f, mc_q, mc_f, and_self, and_true, true_and, and_false, false_and, or_true, true_or, or_false, false_or, if_true, if_false, not_true_eq_false, not_false_eq_true, eq_self, reduceIte, Int.reduceEq, Int.reduceLT, Int.reduceLE, Int.reduceNeg, Int.reduceAdd, Int.reduceSub, Int.reduceMul, Int.add_sub_cancel] at h) <;> (try simp (disch := omega) only [w32_e, w64_e, td_pos, tm_pos, Int.add_sub_cancel] at h) <;> first | exact absurd rfl h | exact absurd h (by decide) | (exfalso; omega) | (conv => whnf))
    | (refine And.intro (by first | omega | ((try simp (disch := decide) only [cmp3_lt, cmp3_ge, cmp3_gt, cmp3_le, cmp3_eq, ms_q, ms_f, mf_q, mf_f, mc_q, mc_f, and_self, and_true, true_and, and_false, false_and, or_true, true_or, or_false, false_or, if_true, if_false, not_true_eq_false, not_false_eq_true, eq_self, reduceIte, Int.reduceEq, Int.reduceLT, Int.reduceLE, Int.reduceNeg, Int.reduceAdd, Int.reduceSub, Int.reduceMul, Int.add_sub_cancel]); (try simp (disch := omega) only [w32_e, w64_e, td_pos, tm_pos, Int.add_sub_cancel]); first | assumption | omega) | ((try simp (disch := decide) only [cmp3_lt, cmp3_ge, cmp3_gt, cmp3_le, cmp3_eq, ms_q, ms_f, mf_q, mf_f, mc_q, mc_f, and_self, and_true, true_and, and_false, false_and, or_true, true_or, or_false, false_or, if_true, if_false, not_true_eq_false, not_false_eq_true, eq_self, reduceIte, Int.reduceEq, Int.reduceLT, Int.reduceLE, Int.reduceNeg, Int.reduceAdd, Int.reduceSub, Int.reduceMul, Int.add_sub_cancel]); (try simp (disch := omega) only [w32_e, w64_e, td_pos, tm_pos, Int.add_sub_cancel]); ((repeat' (first | assumption | omega | with_reducible rfl | apply And.intro)); done))) ?_; conv => whnf)
  intro v1 h1v
  have f1 := h1v.1
  have a1 : ISta v1 := by simp (disch := decide) only [ISta, f1]; exact hA
  have o1 : okV (v1 98 0) := okV_congr h1v.2 (vrs_ok hS hR h1.1 h1.2 h2 h3 hd)
  have w1v := sta_v (f1 45 (by decide)) (f1 47 (by decide)) h1v.2
  have ew : fhN (v1 46 0) (wkL v1 (v1 98 0)) 0 (v1 8 0 6 - 0).toNat 0 = Z := by
    rw [← eZ]
    unfold whyA
    rw [w1v, f1 46 (by decide), f1 8 (by decide), hv, hw, hs.1, hs.2]
  conv => whnf
  repeat' first
    | (refine And.intro (fun h => ?_) (fun h => ?_) <;> (try simp (disch := decide) only [cmp3_lt, cmp3_ge, cmp3_gt, cmp3_le, cmp3_eq, ms_q, ms_f, mf_q, mf_f, mc_q, mc_f, and_self, and_true, true_and, and_false, false_and, or_true, true_or, or_false, false_or, if_true, if_false, not_true_eq_false, not_false_eq_true, eq_self, reduceIte, Int.reduceEq, Int.reduceLT, Int.reduceLE, Int.reduceNeg, Int.reduceAdd, Int.reduceSub, Int.reduceMul, Int.add_sub_cancel] at h) <;> (try simp (disch := omega) only [w32_e, w64_e, td_pos, tm_pos, Int.add_sub_cancel] at h) <;> first | exact absurd rfl h | exact absurd h (by decide) | (exfalso; omega) | (conv => whnf))
    | (refine And.intro (by first | omega | ((try simp (disch := decide) only [cmp3_lt, cmp3_ge, cmp3_gt, cmp3_le, cmp3_eq, ms_q, ms_f, mf_q, mf_f, mc_q, mc_f, and_self, and_true, true_and, and_false, false_and, or_true, true_or, or_false, false_or, if_true, if_false, not_true_eq_false, not_false_eq_true, eq_self, reduceIte, Int.reduceEq, Int.reduceLT, Int.reduceLE, Int.reduceNeg, Int.reduceAdd, Int.reduceSub, Int.reduceMul, Int.add_sub_cancel]); (try simp (disch := omega) only [w32_e, w64_e, td_pos, tm_pos, Int.add_sub_cancel]); first | assumption | omega) | exact ⟨rfl, a1, o1, a1.1⟩) ?_; conv => whnf)
  intro v2 h2v
  have f2 : ∀ p, p ≠ 98 → p ≠ 99 → v2 p = M p := fun p a b => (h2v p b).trans (f1 p a)
  have a2 : ISta v2 := by simp (disch := decide) only [ISta, f2]; exact hA
  have e98 : v2 98 = v1 98 := h2v 98 (by decide)
  have o2 : okV (v2 98 0) := by rw [e98]; exact o1
  have w2v := sta_v (f2 45 (by decide) (by decide)) (f2 47 (by decide) (by decide)) (V := v2 98 0) (fun j a b => by rw [e98]; exact h1v.2 j a b)
  have ea : min (asS (v2 46 0) (wkL v2 (v2 98 0)) (v2 8 0 6)) 8 = A := by
    rw [← eA]
    unfold askA
    rw [w2v, f2 46 (by decide) (by decide), f2 8 (by decide) (by decide), hv, hw, hs.1, hs.2]
  have en : v2 98 0 4 = ghd M0 r (M0 21 0 r) := by
    rw [e98, h1v.2 4 (by decide) (by decide), hv]
    rfl
  conv => whnf
  repeat' first
    | (refine And.intro (fun h => ?_) (fun h => ?_) <;> (try simp (disch := decide) only [cmp3_lt, cmp3_ge, cmp3_gt, cmp3_le, cmp3_eq, ms_q, ms_f, mf_q, mf_f, mc_q, mc_f, and_self, and_true, true_and, and_false, false_and, or_true, true_or, or_false, false_or, if_true, if_false, not_true_eq_false, not_false_eq_true, eq_self, reduceIte, Int.reduceEq, Int.reduceLT, Int.reduceLE, Int.reduceNeg, Int.reduceAdd, Int.reduceSub, Int.reduceMul, Int.add_sub_cancel] at h) <;> (try simp (disch := omega) only [w32_e, w64_e, td_pos, tm_pos, Int.add_sub_cancel, ew] at h) <;> first | exact absurd rfl h | exact absurd h (by decide) | (exfalso; omega) | (conv => whnf))
    | (refine And.intro (by first | omega | ((try simp (disch := decide) only [cmp3_lt, cmp3_ge, cmp3_gt, cmp3_le, cmp3_eq, ms_q, ms_f, mf_q, mf_f, mc_q, mc_f, and_self, and_true, true_and, and_false, false_and, or_true, true_or, or_false, false_or, if_true, if_false, not_true_eq_false, not_false_eq_true, eq_self, reduceIte, Int.reduceEq, Int.reduceLT, Int.reduceLE, Int.reduceNeg, Int.reduceAdd, Int.reduceSub, Int.reduceMul, Int.add_sub_cancel]); (try simp (disch := omega) only [w32_e, w64_e, td_pos, tm_pos, Int.add_sub_cancel, ew]); first | assumption | omega) | exact ⟨rfl, a2, o2, a2.1⟩) ?_; conv => whnf)
  all_goals refine ⟨M0, ⟨⟨by rw [f2 13 (by decide) (by decide)]; exact hg.1, by rw [f2 83 (by decide) (by decide)]; exact hg.2.1, by rw [f2 85 (by decide) (by decide)]; exact hg.2.2.1, hg.2.2.2⟩, by rw [eN]; exact hP, by rw [eN, f2 89 (by decide) (by decide)]; exact w1, by rw [f2 86 (by decide) (by decide)]; exact w6, by rw [f2 13 (by decide) (by decide)]; exact he⟩, fun v3 h3v => ?_⟩
  rw [ea, en, eW, eT] at h3v
  obtain ⟨g1, g4⟩ := h3v
  have f3 : ∀ p, p ≠ 98 → p ≠ 99 → p ≠ 100 → v3 p = M p := fun p a b c => (g1 p b c).trans (f2 p a b)
  rw [ea, en, eW]
  rw [if_pos c0.2, c0.2]
  rw [c0.2] at g4
  have a3 : ISta v3 := by simp (disch := decide) only [ISta, f3]; exact hA
  have e98c : v3 98 = v1 98 := (g1 98 (by decide) (by decide)).trans e98
  have o3 : okV (v3 98 0) := by rw [e98c]; exact o1
  have w3v := sta_v (f3 45 (by decide) (by decide) (by decide)) (f3 47 (by decide) (by decide) (by decide)) (V := v3 98 0) (fun j a b => by rw [e98c]; exact h1v.2 j a b)
  have ep : max 0 (min 1000000 (spS (v3 46 0) (wkL v3 (v3 98 0)) (v3 8 0 6))) = P := by
    rw [← eP]
    unfold payA
    rw [w3v, f3 46 (by decide) (by decide) (by decide), f3 8 (by decide) (by decide) (by decide), hv, hw, hs.1, hs.2]
  have et : P.tdiv A = X := by rw [Int.tdiv_eq_ediv_of_nonneg pi.1, eX]
  have ewX : w32 X = X := w32_e (by omega) (by omega)
  conv => whnf
  repeat' first
    | (refine And.intro (fun h => ?_) (fun h => ?_) <;> (try simp (disch := decide) only [cmp3_lt, cmp3_ge, cmp3_gt, cmp3_le, cmp3_eq, ms_q, ms_f, mf_q, mf_f, mc_q, mc_f, and_self, and_true, true_and, and_false, false_and, or_true, true_or, or_false, false_or, if_true, if_false, not_true_eq_false, not_false_eq_true, eq_self, reduceIte, Int.reduceEq, Int.reduceLT, Int.reduceLE, Int.reduceNeg, Int.reduceAdd, Int.reduceSub, Int.reduceMul, Int.add_sub_cancel] at h) <;> (try simp (disch := omega) only [w32_e, w64_e, td_pos, tm_pos, Int.add_sub_cancel, ew] at h) <;> first | exact absurd rfl h | exact absurd h (by decide) | (exfalso; omega) | (conv => whnf))
    | (refine And.intro (by first | omega | ((try simp (disch := decide) only [cmp3_lt, cmp3_ge, cmp3_gt, cmp3_le, cmp3_eq, ms_q, ms_f, mf_q, mf_f, mc_q, mc_f, and_self, and_true, true_and, and_false, false_and, or_true, true_or, or_false, false_or, if_true, if_false, not_true_eq_false, not_false_eq_true, eq_self, reduceIte, Int.reduceEq, Int.reduceLT, Int.reduceLE, Int.reduceNeg, Int.reduceAdd, Int.reduceSub, Int.reduceMul, Int.add_sub_cancel]); (try simp (disch := omega) only [w32_e, w64_e, td_pos, tm_pos, Int.add_sub_cancel, ew]); first | assumption | omega) | exact ⟨rfl, a3, o3, a3.1⟩) ?_; conv => whnf)
  intro v4 h4v
  have f4 : ∀ p, p ≠ 98 → p ≠ 99 → p ≠ 100 → v4 p = M p := fun p a b c => (h4v p b).trans (f3 p a b c)
  rw [ep]
  conv => whnf
  repeat' first
    | (refine And.intro (fun h => ?_) (fun h => ?_) <;> (try simp (disch := decide) only [cmp3_lt, cmp3_ge, cmp3_gt, cmp3_le, cmp3_eq, ms_q, ms_f, mf_q, mf_f, mc_q, mc_f, and_self, and_true, true_and, and_false, false_and, or_true, true_or, or_false, false_or, if_true, if_false, not_true_eq_false, not_false_eq_true, eq_self, reduceIte, Int.reduceEq, Int.reduceLT, Int.reduceLE, Int.reduceNeg, Int.reduceAdd, Int.reduceSub, Int.reduceMul, Int.add_sub_cancel] at h) <;> (try simp (disch := omega) only [w32_e, w64_e, td_pos, tm_pos, Int.add_sub_cancel, ew] at h) <;> first | exact absurd rfl h | exact absurd h (by decide) | (exfalso; omega) | (conv => whnf))
    | (refine And.intro (by first | omega | ((try simp (disch := decide) only [cmp3_lt, cmp3_ge, cmp3_gt, cmp3_le, cmp3_eq, ms_q, ms_f, mf_q, mf_f, mc_q, mc_f, and_self, and_true, true_and, and_false, false_and, or_true, true_or, or_false, false_or, if_true, if_false, not_true_eq_false, not_false_eq_true, eq_self, reduceIte, Int.reduceEq, Int.reduceLT, Int.reduceLE, Int.reduceNeg, Int.reduceAdd, Int.reduceSub, Int.reduceMul, Int.add_sub_cancel]); (try simp (disch := omega) only [w32_e, w64_e, td_pos, tm_pos, Int.add_sub_cancel, ew]); first | assumption | omega)) ?_; conv => whnf)
  refine ⟨_, ?_, 0, by rw [et, ewX], rfl, ⟨by omega, by omega⟩, fun p _ _ _ _ a b c => f4 p a b c, fun x f _ => by rw [f4 13 (by decide) (by decide) (by decide)], ?_, ⟨?_, ?_, ?_⟩, ?_⟩
  · omega
  · intro j j0 j1
    rw [h4v 100 (by decide)]
    exact g4 j j0 j1
  · rw [f4 13 (by decide) (by decide) (by decide)]
    omega
  · intro g
    rw [f4 87 (by decide) (by decide) (by decide)]
    rfl
  · intro g
    rw [f4 86 (by decide) (by decide) (by decide)]
    rfl
  · intro j hj
    rw [f4 89 (by decide) (by decide) (by decide)]
    exact rowL_get (by omega)
