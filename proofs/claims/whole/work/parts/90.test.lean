/-! ===== pairs back, share (wip/gen/p10.py) ===== -/
theorem IPerm.ext {n m : Int} {f f1 : Int → Int} (hn : 0 ≤ n) (hm : n ≤ m) (h : IPerm n f) (h1 : ∀ i, 0 ≤ i → i < n → f1 i = f i) (h2 : ∀ i, n ≤ i → i < m → f1 i = i) : IPerm m f1 := by
  obtain ⟨a, b, c⟩ := h
  refine ⟨fun i i0 i1 => ?_, fun i j i0 i1 j0 j1 e => ?_, fun g g0 g1 => ?_⟩
  · by_cases e : i < n
    · rw [h1 i i0 e]
      have := a i i0 e
      omega
    · rw [h2 i (by omega) i1]; omega
  · by_cases ei : i < n
    · by_cases ej : j < n
      · rw [h1 i i0 ei, h1 j j0 ej] at e
        exact b i j i0 ei j0 ej e
      · rw [h1 i i0 ei, h2 j (by omega) j1] at e
        have := a i i0 ei
        omega
    · by_cases ej : j < n
      · rw [h2 i (by omega) i1, h1 j j0 ej] at e
        have := a j j0 ej
        omega
      · rw [h2 i (by omega) i1, h2 j (by omega) j1] at e
        exact e
  · by_cases e : g < n
    · obtain ⟨i, i0, i1, i2⟩ := c g g0 e
      exact ⟨i, i0, by omega, by rw [h1 i i0 i1, i2]⟩
    · exact ⟨g, g0, g1, h2 g (by omega) g1⟩
theorem pw_le {a b : Int} (h0 : 0 ≤ a) (h : a ≤ b) : (2 : Int) ^ a.toNat ≤ 2 ^ b.toNat := by
  have := Nat.pow_le_pow_right (show 0 < 2 by decide) (show a.toNat ≤ b.toNat by omega)
  exact_mod_cast this
theorem bit_hi {x n g : Int} (h0 : 0 ≤ x) (h1 : x < 2 ^ n.toNat) (hn : 0 ≤ n) (hg : n ≤ g) : bitI x g = 0 := by
  unfold bitI
  have := pw_le hn hg
  rw [Int.ediv_eq_zero_of_lt h0 (by omega)]
  rfl

def sp_gobC : Spec1 := fun as M Q => match as with
  | [.inr (.inr (.inl (q0, i0)))] => match Nat.beq q0 4 with
    | true => (i0 = 0 ∧ (0 ≤ M 6 0 0 ∧ M 6 0 0 ≤ M 5 0 0 ∧ M 5 0 0 ≤ 8)) ∧ ∀ M9, (M9 5 0 0 = M 5 0 0 ∧ (∀ p, p ≠ 5 → p ≠ 34 → p ≠ 35 → p ≠ 36 → M9 p = M p) ∧ (M9 5 0 2 = M 6 0 2 ∧ M9 5 0 3 = M 6 0 3 ∧ M9 5 0 6 = M 6 0 6) ∧ (∀ j, 0 ≤ j → j < M 5 0 0 → (j < M 6 0 0 → M9 34 0 j = M 37 0 j ∧ M9 35 0 j = M 38 0 j ∧ M9 36 0 j = M 39 0 j) ∧ (M 6 0 0 ≤ j → M9 34 0 j = j ∧ M9 35 0 j = 0 ∧ M9 36 0 j = 0))) → Q none M9
    | false => False
  | _ => False
theorem ok_gobC {l : Launch} {ω : WP} : ∀ as M Q, sp_gobC as M Q → Vd l ω 4 7 as M Q := by
  intro as M Q h
  unfold sp_gobC at h
  split at h
  case h_2 => exact h.elim
  rename_i q0 i0 
  cases hb : Nat.beq q0 4 with
  | false => rw [hb] at h; exact h.elim
  | true =>
  rw [hb] at h
  obtain ⟨⟨hi, h1⟩, hQ⟩ := h
  have hb := beq_eq hb
  subst hb
  subst hi
  refine Vd.ok fun hok hal => ?_
  have key : ∀ n9, CutOK l ω 4 7 (cutL [(27, [0, 1, 2], fun kk vs M9 => ∃ i : Int, vs = [vR 4 0, vI (M 5 0 0), vI i] ∧ kk = (M 5 0 0 - i).toNat ∧ (M 6 0 0 ≤ i ∧ i ≤ M 5 0 0) ∧ M9 5 0 0 = i ∧ (∀ p, p ≠ 5 → p ≠ 34 → p ≠ 35 → p ≠ 36 → M9 p = M p) ∧ (M9 5 0 2 = M 6 0 2 ∧ M9 5 0 3 = M 6 0 3 ∧ M9 5 0 6 = M 6 0 6) ∧ (∀ j, 0 ≤ j → j < i → (j < M 6 0 0 → M9 34 0 j = M 37 0 j ∧ M9 35 0 j = M 38 0 j ∧ M9 36 0 j = M 39 0 j) ∧ (M 6 0 0 ≤ j → M9 34 0 j = j ∧ M9 35 0 j = 0 ∧ M9 36 0 j = 0)))] n9) Q := by
    refine loops (GGg_ok (l := l) (ω := ω)) 200 _ ?_
    refine List.forall_mem_cons.mpr ⟨?_, fun _ h => absurd h List.not_mem_nil⟩
    · rintro n9 vs M9 ⟨i, rfl, rfl, i0, e0, fr, f5, hv⟩
      show wpH _ 200 _ 7 _ true 27 [vR 4 0, vI (M 5 0 0), vI i] [] _ Q
      conv => whnf
      repeat' first
        | (refine And.intro (fun h => ?_) (fun h => ?_) <;> (try simp (disch := decide) only [cmp3_lt, cmp3_ge, cmp3_gt, cmp3_le, cmp3_eq, ms_q, ms_f, mf_q, mf_f, mc_q, mc_f, and_self, and_true, true_and, and_false, false_and, or_true, true_or, or_false, false_or, if_true, if_false, not_true_eq_false, not_false_eq_true, eq_self, reduceIte, Int.reduceEq, Int.reduceLT, Int.reduceLE, Int.reduceNeg, Int.reduceAdd, Int.reduceSub, Int.reduceMul, Int.add_sub_cancel] at h) <;> (try simp (disch := omega) only [w32_e, w64_e, td_pos, tm_pos, Int.add_sub_cancel] at h) <;> first | exact absurd rfl h | exact absurd h (by decide) | (exfalso; omega) | (conv => whnf))
        | (refine And.intro (by first | omega | ((try simp (disch := decide) only [cmp3_lt, cmp3_ge, cmp3_gt, cmp3_le, cmp3_eq, ms_q, ms_f, mf_q, mf_f, mc_q, mc_f, and_self, and_true, true_and, and_false, false_and, or_true, true_or, or_false, false_or, if_true, if_false, not_true_eq_false, not_false_eq_true, eq_self, reduceIte, Int.reduceEq, Int.reduceLT, Int.reduceLE, Int.reduceNeg, Int.reduceAdd, Int.reduceSub, Int.reduceMul, Int.add_sub_cancel]); (try simp (disch := omega) only [w32_e, w64_e, td_pos, tm_pos, Int.add_sub_cancel]); first | assumption | omega) | ((try simp (disch := decide) only [cmp3_lt, cmp3_ge, cmp3_gt, cmp3_le, cmp3_eq, ms_q, ms_f, mf_q, mf_f, mc_q, mc_f, and_self, and_true, true_and, and_false, false_and, or_true, true_or, or_false, false_or, if_true, if_false, not_true_eq_false, not_false_eq_true, eq_self, reduceIte, Int.reduceEq, Int.reduceLT, Int.reduceLE, Int.reduceNeg, Int.reduceAdd, Int.reduceSub, Int.reduceMul, Int.add_sub_cancel]); (try simp (disch := omega) only [w32_e, w64_e, td_pos, tm_pos, Int.add_sub_cancel]); (repeat' (first | assumption | rfl | omega | apply And.intro)))) ?_; conv => whnf)
        | (intro v; intro hv; conv => whnf)
      all_goals first
        | (have e9 : i = M 5 0 0 := by omega
           subst e9
           exact hQ M9 ⟨e0, fr, f5, hv⟩)
        | (refine ⟨_, ?_, _, rfl, rfl, ?_, ?_, ?_, ?_, ?_⟩
           · ((try simp (disch := decide) only [cmp3_lt, cmp3_ge, cmp3_gt, cmp3_le, cmp3_eq, ms_q, ms_f, mf_q, mf_f, mc_q, mc_f, and_self, and_true, true_and, and_false, false_and, or_true, true_or, or_false, false_or, if_true, if_false, not_true_eq_false, not_false_eq_true, eq_self, reduceIte, Int.reduceEq, Int.reduceLT, Int.reduceLE, Int.reduceNeg, Int.reduceAdd, Int.reduceSub, Int.reduceMul, Int.add_sub_cancel]); (try simp (disch := omega) only [w32_e, w64_e, td_pos, tm_pos, Int.add_sub_cancel])); omega
           · ((try simp (disch := decide) only [cmp3_lt, cmp3_ge, cmp3_gt, cmp3_le, cmp3_eq, ms_q, ms_f, mf_q, mf_f, mc_q, mc_f, and_self, and_true, true_and, and_false, false_and, or_true, true_or, or_false, false_or, if_true, if_false, not_true_eq_false, not_false_eq_true, eq_self, reduceIte, Int.reduceEq, Int.reduceLT, Int.reduceLE, Int.reduceNeg, Int.reduceAdd, Int.reduceSub, Int.reduceMul, Int.add_sub_cancel]); (try simp (disch := omega) only [w32_e, w64_e, td_pos, tm_pos, Int.add_sub_cancel])); omega
           · ((try simp (disch := decide) only [cmp3_lt, cmp3_ge, cmp3_gt, cmp3_le, cmp3_eq, ms_q, ms_f, mf_q, mf_f, mc_q, mc_f, and_self, and_true, true_and, and_false, false_and, or_true, true_or, or_false, false_or, if_true, if_false, not_true_eq_false, not_false_eq_true, eq_self, reduceIte, Int.reduceEq, Int.reduceLT, Int.reduceLE, Int.reduceNeg, Int.reduceAdd, Int.reduceSub, Int.reduceMul, Int.add_sub_cancel]); (try simp (disch := omega) only [w32_e, w64_e, td_pos, tm_pos, Int.add_sub_cancel])); omega
           · intro p z0 z1 z2 z3; simp only [ms_q z0, ms_q z1, ms_q z2, ms_q z3]; exact fr p z0 z1 z2 z3
           · ((try simp (disch := decide) only [cmp3_lt, cmp3_ge, cmp3_gt, cmp3_le, cmp3_eq, ms_q, ms_f, mf_q, mf_f, mc_q, mc_f, and_self, and_true, true_and, and_false, false_and, or_true, true_or, or_false, false_or, if_true, if_false, not_true_eq_false, not_false_eq_true, eq_self, reduceIte, Int.reduceEq, Int.reduceLT, Int.reduceLE, Int.reduceNeg, Int.reduceAdd, Int.reduceSub, Int.reduceMul, Int.add_sub_cancel]); (try simp (disch := omega) only [w32_e, w64_e, td_pos, tm_pos, Int.add_sub_cancel])); exact f5
           · intro j j0 j1
             (try simp (disch := omega) only [w32_e] at j1)
             have q := hv j j0
             ((try simp (disch := decide) only [cmp3_lt, cmp3_ge, cmp3_gt, cmp3_le, cmp3_eq, ms_q, ms_f, mf_q, mf_f, mc_q, mc_f, and_self, and_true, true_and, and_false, false_and, or_true, true_or, or_false, false_or, if_true, if_false, not_true_eq_false, not_false_eq_true, eq_self, reduceIte, Int.reduceEq, Int.reduceLT, Int.reduceLE, Int.reduceNeg, Int.reduceAdd, Int.reduceSub, Int.reduceMul, Int.add_sub_cancel]); (try simp (disch := omega) only [w32_e, w64_e, td_pos, tm_pos, Int.add_sub_cancel]))
             by_cases e : j = i
             · have e' : j = M9 5 0 0 := by omega
               simp only [if_pos e', e, and_self, and_true, true_and, and_false, false_and, or_true, true_or, or_false, false_or, if_true, if_false, not_true_eq_false, not_false_eq_true, eq_self, reduceIte, Int.reduceEq, Int.reduceLT, Int.reduceLE, Int.reduceNeg, Int.reduceAdd, Int.reduceSub, Int.reduceMul, Int.add_sub_cancel]
               exact ⟨fun z => by omega, fun _ => by omega⟩
             · have e' : ¬ j = M9 5 0 0 := by omega
               simp only [if_neg e', and_self, and_true, true_and, and_false, false_and, or_true, true_or, or_false, false_or, if_true, if_false, not_true_eq_false, not_false_eq_true, eq_self, reduceIte, Int.reduceEq, Int.reduceLT, Int.reduceLE, Int.reduceNeg, Int.reduceAdd, Int.reduceSub, Int.reduceMul, Int.add_sub_cancel]
               exact q (by omega))
  refine Vd_run (GGg_ok (l := l) (ω := ω)) 200 (hC := key 100) (by decide) ?_
  conv => whnf
  repeat' first
    | (refine And.intro (fun h => ?_) (fun h => ?_) <;> (try simp (disch := decide) only [cmp3_lt, cmp3_ge, cmp3_gt, cmp3_le, cmp3_eq, ms_q, ms_f, mf_q, mf_f, mc_q, mc_f, and_self, and_true, true_and, and_false, false_and, or_true, true_or, or_false, false_or, if_true, if_false, not_true_eq_false, not_false_eq_true, eq_self, reduceIte, Int.reduceEq, Int.reduceLT, Int.reduceLE, Int.reduceNeg, Int.reduceAdd, Int.reduceSub, Int.reduceMul, Int.add_sub_cancel] at h) <;> (try simp (disch := omega) only [w32_e, w64_e, td_pos, tm_pos, Int.add_sub_cancel] at h) <;> first | exact absurd rfl h | exact absurd h (by decide) | (exfalso; omega) | (conv => whnf))
    | (refine And.intro (by first | omega | ((try simp (disch := decide) only [cmp3_lt, cmp3_ge, cmp3_gt, cmp3_le, cmp3_eq, ms_q, ms_f, mf_q, mf_f, mc_q, mc_f, and_self, and_true, true_and, and_false, false_and, or_true, true_or, or_false, false_or, if_true, if_false, not_true_eq_false, not_false_eq_true, eq_self, reduceIte, Int.reduceEq, Int.reduceLT, Int.reduceLE, Int.reduceNeg, Int.reduceAdd, Int.reduceSub, Int.reduceMul, Int.add_sub_cancel]); (try simp (disch := omega) only [w32_e, w64_e, td_pos, tm_pos, Int.add_sub_cancel]); first | assumption | omega) | ((try simp (disch := decide) only [cmp3_lt, cmp3_ge, cmp3_gt, cmp3_le, cmp3_eq, ms_q, ms_f, mf_q, mf_f, mc_q, mc_f, and_self, and_true, true_and, and_false, false_and, or_true, true_or, or_false, false_or, if_true, if_false, not_true_eq_false, not_false_eq_true, eq_self, reduceIte, Int.reduceEq, Int.reduceLT, Int.reduceLE, Int.reduceNeg, Int.reduceAdd, Int.reduceSub, Int.reduceMul, Int.add_sub_cancel]); (try simp (disch := omega) only [w32_e, w64_e, td_pos, tm_pos, Int.add_sub_cancel]); (repeat' (first | assumption | rfl | omega | apply And.intro)))) ?_; conv => whnf)
    | (intro v; intro hv; conv => whnf)
  all_goals ((try simp (disch := decide) only [cmp3_lt, cmp3_ge, cmp3_gt, cmp3_le, cmp3_eq, ms_q, ms_f, mf_q, mf_f, mc_q, mc_f, and_self, and_true, true_and, and_false, false_and, or_true, true_or, or_false, false_or, if_true, if_false, not_true_eq_false, not_false_eq_true, eq_self, reduceIte, Int.reduceEq, Int.reduceLT, Int.reduceLE, Int.reduceNeg, Int.reduceAdd, Int.reduceSub, Int.reduceMul, Int.add_sub_cancel]); (try simp (disch := omega) only [w32_e, w64_e, td_pos, tm_pos, Int.add_sub_cancel]))
  all_goals refine ⟨_, ?_, _, rfl, rfl, ?_, ?_, ?_, ?_⟩
  all_goals first
    | omega
    | (intro p z0 z1 z2 z3; simp only [ms_q z0, mc_q z1, mc_q z2, mc_q z3])
    | skip
  · intro j j0 j1
    ((try simp (disch := decide) only [cmp3_lt, cmp3_ge, cmp3_gt, cmp3_le, cmp3_eq, ms_q, ms_f, mf_q, mf_f, mc_q, mc_f, and_self, and_true, true_and, and_false, false_and, or_true, true_or, or_false, false_or, if_true, if_false, not_true_eq_false, not_false_eq_true, eq_self, reduceIte, Int.reduceEq, Int.reduceLT, Int.reduceLE, Int.reduceNeg, Int.reduceAdd, Int.reduceSub, Int.reduceMul, Int.add_sub_cancel]); (try simp (disch := omega) only [w32_e, w64_e, td_pos, tm_pos, Int.add_sub_cancel]))
    refine ⟨fun z => ?_, fun z => by omega⟩
    rw [if_pos (by omega), if_pos (by omega), if_pos (by omega), Int.sub_zero, Int.add_zero]
    exact ⟨rfl, rfl, rfl⟩

def sp_bacM : Spec1 := fun as M Q => match as with
  | [.inr (.inr (.inl (q0, i0)))] => match Nat.beq q0 13 with
    | true => (i0 = 0 ∧ (0 ≤ M 13 0 83 ∧ M 13 0 83 ≤ 8)) ∧ ∀ M9, ((∀ p, p ≠ 86 → p ≠ 87 → p ≠ 88 → p ≠ 89 → M9 p = (mset (mset M 13 0 25 (M 13 0 88)) 13 0 26 (M 13 0 89)) p) ∧ (∀ j, 0 ≤ j → j < 8 → (j < M 13 0 83 → M9 89 0 j = M 130 0 j ∧ M9 86 0 j = M 131 0 j ∧ M9 87 0 j = M 132 0 j ∧ M9 88 0 j = M 133 0 j) ∧ (M 13 0 83 ≤ j → M9 89 0 j = j ∧ M9 86 0 j = 0 ∧ M9 87 0 j = 0 ∧ M9 88 0 j = 0))) → Q (some (vI (M 13 0 83))) M9
    | false => False
  | _ => False
theorem ok_bacM {l : Launch} {ω : WP} : ∀ as M Q, sp_bacM as M Q → Vd l ω 9 261 as M Q := by
  intro as M Q h
  unfold sp_bacM at h
  split at h
  case h_2 => exact h.elim
  rename_i q0 i0 
  cases hb : Nat.beq q0 13 with
  | false => rw [hb] at h; exact h.elim
  | true =>
  rw [hb] at h
  obtain ⟨⟨hi, h1⟩, hQ⟩ := h
  have hb := beq_eq hb
  subst hb
  subst hi
  refine Vd.ok fun hok hal => ?_
  have key : ∀ n9, CutOK l ω 9 261 (cutL [(30, [0, 1], fun kk vs M9 => ∃ i : Int, vs = [vR 13 0, vI i] ∧ kk = (8 - i).toNat ∧ (0 ≤ i ∧ i ≤ 8) ∧ (∀ p, p ≠ 86 → p ≠ 87 → p ≠ 88 → p ≠ 89 → M9 p = (mset (mset M 13 0 25 (M 13 0 88)) 13 0 26 (M 13 0 89)) p) ∧ (∀ j, 0 ≤ j → j < i → (j < M 13 0 83 → M9 89 0 j = M 130 0 j ∧ M9 86 0 j = M 131 0 j ∧ M9 87 0 j = M 132 0 j ∧ M9 88 0 j = M 133 0 j) ∧ (M 13 0 83 ≤ j → M9 89 0 j = j ∧ M9 86 0 j = 0 ∧ M9 87 0 j = 0 ∧ M9 88 0 j = 0)))] n9) Q := by
    refine loops (GGg_ok (l := l) (ω := ω)) 300 _ ?_
    refine List.forall_mem_cons.mpr ⟨?_, fun _ h => absurd h List.not_mem_nil⟩
    · rintro n9 vs M9 ⟨i, rfl, rfl, i0, fr, hv⟩
      have q7 : M 131 0 i = 0 ∨ M 131 0 i = 1 := hok 131 0 i
      show wpH _ 300 _ 261 _ true 30 [vR 13 0, vI i, vU] [] _ Q
      conv => whnf
      repeat' first
        | (refine And.intro (fun h => ?_) (fun h => ?_) <;> (try simp (disch := decide) only [cmp3_lt, cmp3_ge, cmp3_gt, cmp3_le, cmp3_eq, ms_q, ms_f, mf_q, mf_f, mc_q, mc_f, and_self, and_true, true_and, and_false, false_and, or_true, true_or, or_false, false_or, if_true, if_false, not_true_eq_false, not_false_eq_true, eq_self, reduceIte, Int.reduceEq, Int.reduceLT, Int.reduceLE, Int.reduceNeg, Int.reduceAdd, Int.reduceSub, Int.reduceMul, Int.add_sub_cancel] at h) <;> (try simp (disch := omega) only [w32_e, w64_e, td_pos, tm_pos, Int.add_sub_cancel, fr] at h) <;> first | exact absurd rfl h | exact absurd h (by decide) | (exfalso; omega) | (conv => whnf))
        | (refine And.intro (by first | omega | ((try simp (disch := decide) only [cmp3_lt, cmp3_ge, cmp3_gt, cmp3_le, cmp3_eq, ms_q, ms_f, mf_q, mf_f, mc_q, mc_f, and_self, and_true, true_and, and_false, false_and, or_true, true_or, or_false, false_or, if_true, if_false, not_true_eq_false, not_false_eq_true, eq_self, reduceIte, Int.reduceEq, Int.reduceLT, Int.reduceLE, Int.reduceNeg, Int.reduceAdd, Int.reduceSub, Int.reduceMul, Int.add_sub_cancel]); (try simp (disch := omega) only [w32_e, w64_e, td_pos, tm_pos, Int.add_sub_cancel, fr]); first | assumption | omega) | ((try simp (disch := decide) only [cmp3_lt, cmp3_ge, cmp3_gt, cmp3_le, cmp3_eq, ms_q, ms_f, mf_q, mf_f, mc_q, mc_f, and_self, and_true, true_and, and_false, false_and, or_true, true_or, or_false, false_or, if_true, if_false, not_true_eq_false, not_false_eq_true, eq_self, reduceIte, Int.reduceEq, Int.reduceLT, Int.reduceLE, Int.reduceNeg, Int.reduceAdd, Int.reduceSub, Int.reduceMul, Int.add_sub_cancel]); (try simp (disch := omega) only [w32_e, w64_e, td_pos, tm_pos, Int.add_sub_cancel, fr]); (repeat' (first | assumption | rfl | omega | apply And.intro)))) ?_; conv => whnf)
        | (intro v; intro hv; conv => whnf)
      all_goals ((try simp (disch := decide) only [cmp3_lt, cmp3_ge, cmp3_gt, cmp3_le, cmp3_eq, ms_q, ms_f, mf_q, mf_f, mc_q, mc_f, and_self, and_true, true_and, and_false, false_and, or_true, true_or, or_false, false_or, if_true, if_false, not_true_eq_false, not_false_eq_true, eq_self, reduceIte, Int.reduceEq, Int.reduceLT, Int.reduceLE, Int.reduceNeg, Int.reduceAdd, Int.reduceSub, Int.reduceMul, Int.add_sub_cancel, fr] at *); (try simp (disch := omega) only [w32_e] at *))
      all_goals first
        | (have e9 : i = 8 := by omega
           subst e9
           exact hQ M9 ⟨fr, hv⟩)
        | (refine ⟨_, ?_, _, rfl, rfl, ?_, ?_, ?_⟩
           · omega
           · omega
           · intro p z0 z1 z2 z3; rw [ms_q (by assumption), ms_q (by assumption), ms_q (by assumption), ms_q (by assumption)]; exact fr p z0 z1 z2 z3
           · intro j j0 j1
             have q := hv j j0
             ((try simp (disch := decide) only [cmp3_lt, cmp3_ge, cmp3_gt, cmp3_le, cmp3_eq, ms_q, ms_f, mf_q, mf_f, mc_q, mc_f, and_self, and_true, true_and, and_false, false_and, or_true, true_or, or_false, false_or, if_true, if_false, not_true_eq_false, not_false_eq_true, eq_self, reduceIte, Int.reduceEq, Int.reduceLT, Int.reduceLE, Int.reduceNeg, Int.reduceAdd, Int.reduceSub, Int.reduceMul, Int.add_sub_cancel, fr]); (try simp (disch := omega) only [w32_e]))
             by_cases e : j = i
             · simp only [e, and_self, and_true, true_and, and_false, false_and, or_true, true_or, or_false, false_or, if_true, if_false, not_true_eq_false, not_false_eq_true, eq_self, reduceIte, Int.reduceEq, Int.reduceLT, Int.reduceLE, Int.reduceNeg, Int.reduceAdd, Int.reduceSub, Int.reduceMul, Int.add_sub_cancel]
               exact ⟨fun z => by omega, fun z => by omega⟩
             · simp only [e, and_self, and_true, true_and, and_false, false_and, or_true, true_or, or_false, false_or, if_true, if_false, not_true_eq_false, not_false_eq_true, eq_self, reduceIte, Int.reduceEq, Int.reduceLT, Int.reduceLE, Int.reduceNeg, Int.reduceAdd, Int.reduceSub, Int.reduceMul, Int.add_sub_cancel]
               exact q (by omega))
  refine Vd_run (GGg_ok (l := l) (ω := ω)) 300 (hC := key 100) (by decide) ?_
  conv => whnf
  repeat' first
    | (refine And.intro (fun h => ?_) (fun h => ?_) <;> (try simp (disch := decide) only [cmp3_lt, cmp3_ge, cmp3_gt, cmp3_le, cmp3_eq, ms_q, ms_f, mf_q, mf_f, mc_q, mc_f, and_self, and_true, true_and, and_false, false_and, or_true, true_or, or_false, false_or, if_true, if_false, not_true_eq_false, not_false_eq_true, eq_self, reduceIte, Int.reduceEq, Int.reduceLT, Int.reduceLE, Int.reduceNeg, Int.reduceAdd, Int.reduceSub, Int.reduceMul, Int.add_sub_cancel] at h) <;> (try simp (disch := omega) only [w32_e, w64_e, td_pos, tm_pos, Int.add_sub_cancel, fr] at h) <;> first | exact absurd rfl h | exact absurd h (by decide) | (exfalso; omega) | (conv => whnf))
    | (refine And.intro (by first | omega | ((try simp (disch := decide) only [cmp3_lt, cmp3_ge, cmp3_gt, cmp3_le, cmp3_eq, ms_q, ms_f, mf_q, mf_f, mc_q, mc_f, and_self, and_true, true_and, and_false, false_and, or_true, true_or, or_false, false_or, if_true, if_false, not_true_eq_false, not_false_eq_true, eq_self, reduceIte, Int.reduceEq, Int.reduceLT, Int.reduceLE, Int.reduceNeg, Int.reduceAdd, Int.reduceSub, Int.reduceMul, Int.add_sub_cancel]); (try simp (disch := omega) only [w32_e, w64_e, td_pos, tm_pos, Int.add_sub_cancel, fr]); first | assumption | omega) | ((try simp (disch := decide) only [cmp3_lt, cmp3_ge, cmp3_gt, cmp3_le, cmp3_eq, ms_q, ms_f, mf_q, mf_f, mc_q, mc_f, and_self, and_true, true_and, and_false, false_and, or_true, true_or, or_false, false_or, if_true, if_false, not_true_eq_false, not_false_eq_true, eq_self, reduceIte, Int.reduceEq, Int.reduceLT, Int.reduceLE, Int.reduceNeg, Int.reduceAdd, Int.reduceSub, Int.reduceMul, Int.add_sub_cancel]); (try simp (disch := omega) only [w32_e, w64_e, td_pos, tm_pos, Int.add_sub_cancel, fr]); (repeat' (first | assumption | rfl | omega | apply And.intro)))) ?_; conv => whnf)
    | (intro v; intro hv; conv => whnf)
  all_goals refine ⟨_, ?_, _, rfl, rfl, ?_, ?_, ?_⟩ <;> first | omega | (intro p _ _ _ _; rfl) | (intro j j0 j1; omega)

theorem inv_back {c : Int} {M M1 M2 : Mem} (hj : M 4 0 5 = 1) (h1 : M1 5 0 0 = M 5 0 0 ∧ (∀ p, p ≠ 5 → p ≠ 34 → p ≠ 35 → p ≠ 36 → M1 p = M p) ∧ (M1 5 0 2 = M 6 0 2 ∧ M1 5 0 3 = M 6 0 3 ∧ M1 5 0 6 = M 6 0 6) ∧ (∀ j, 0 ≤ j → j < M 5 0 0 → (j < M 6 0 0 → M1 34 0 j = M 37 0 j ∧ M1 35 0 j = M 38 0 j ∧ M1 36 0 j = M 39 0 j) ∧ (M 6 0 0 ≤ j → M1 34 0 j = j ∧ M1 35 0 j = 0 ∧ M1 36 0 j = 0))) (h2 : (∀ p, p ≠ 86 → p ≠ 87 → p ≠ 88 → p ≠ 89 → M2 p = (mset (mset M1 13 0 25 (M1 13 0 88)) 13 0 26 (M1 13 0 89)) p) ∧ (∀ j, 0 ≤ j → j < 8 → (j < M1 13 0 83 → M2 89 0 j = M1 130 0 j ∧ M2 86 0 j = M1 131 0 j ∧ M2 87 0 j = M1 132 0 j ∧ M2 88 0 j = M1 133 0 j) ∧ (M1 13 0 83 ≤ j → M2 89 0 j = j ∧ M2 86 0 j = 0 ∧ M2 87 0 j = 0 ∧ M2 88 0 j = 0))) (hc : c < 512) (hI : Inv c M) : Inv (c + 1) M2 := by
  obtain ⟨h0, hN, hS, hR, hK, hG, hW, hJ, hT, hA, hP, hO, hH⟩ := hI
  obtain ⟨e0, f1, f5, v1⟩ := h1
  obtain ⟨f2, v2⟩ := h2
  have b7 := hG.1
  have b8 := hG.2.2.1
  rcases id hJ with q | ⟨i1, i2, i3, i4, i5, i6, i7, i8, i9, i10, i11, i12⟩
  · omega
  have e13 : M1 13 = M 13 := f1 13 (by decide) (by decide) (by decide) (by decide)
  have g13 : M2 13 = mset (mset M1 13 0 25 (M1 13 0 88)) 13 0 26 (M1 13 0 89) 13 := f2 13 (by decide) (by decide) (by decide) (by decide)
  have e5 : M2 5 = M1 5 := by rw [f2 5 (by decide) (by decide) (by decide) (by decide)]; simp (disch := decide) only [ms_q, ms_f, mf_q, mf_f, mc_q, mc_f]
  have e34 : M2 34 = M1 34 := by rw [f2 34 (by decide) (by decide) (by decide) (by decide)]; simp (disch := decide) only [ms_q, ms_f, mf_q, mf_f, mc_q, mc_f]
  have e35 : M2 35 = M1 35 := by rw [f2 35 (by decide) (by decide) (by decide) (by decide)]; simp (disch := decide) only [ms_q, ms_f, mf_q, mf_f, mc_q, mc_f]
  have e36 : M2 36 = M1 36 := by rw [f2 36 (by decide) (by decide) (by decide) (by decide)]; simp (disch := decide) only [ms_q, ms_f, mf_q, mf_f, mc_q, mc_f]
  have fr : ∀ p, p ≠ 13 → p ≠ 5 → p ≠ 34 → p ≠ 35 → p ≠ 36 → p ≠ 86 → p ≠ 87 → p ≠ 88 → p ≠ 89 → M2 p = M p := fun p a1 a2 a3 a4 a5 a6 a7 a8 a9 => by
    rw [f2 p a6 a7 a8 a9, ms_q a1, ms_q a1, f1 p a2 a3 a4 a5]
  have w13 : ∀ j, j ≠ 25 → j ≠ 26 → M2 13 0 j = M 13 0 j := fun j a b => by
    rw [g13, ms_f, if_neg (by omega), ms_f, if_neg (by omega), e13]
  have w25 : M2 13 0 25 = M 13 0 88 := by
    rw [g13, ms_f, if_neg (by omega), ms_f, if_pos (by omega), e13]
  have w26 : M2 13 0 26 = M 13 0 89 := by
    rw [g13, ms_f, if_pos (by omega), e13]
  rw [e13] at v2
  have f130 : M1 130 = M 130 := f1 130 (by decide) (by decide) (by decide) (by decide)
  have f131 : M1 131 = M 131 := f1 131 (by decide) (by decide) (by decide) (by decide)
  have f132 : M1 132 = M 132 := f1 132 (by decide) (by decide) (by decide) (by decide)
  have f133 : M1 133 = M 133 := f1 133 (by decide) (by decide) (by decide) (by decide)
  rw [f130, f131, f132, f133] at v2
  have e50 : M2 5 0 0 = M 5 0 0 := by rw [e5]; exact e0
  refine ⟨by omega, ?_, ?_, ?_, ?_, ?_, ?_, ?_, ?_, ?_, ?_, ?_, ?_⟩
  all_goals first
    | (have q := hN; simp (disch := decide) only [INet, ms_q, ms_f, mf_q, mf_f, mc_q, mc_f, fr, w13, e50] at q ⊢; exact q)
    | (have q := hS; simp (disch := decide) only [IStp, ms_q, ms_f, mf_q, mf_f, mc_q, mc_f, fr, w13, e50] at q ⊢; exact q)
    | (have q := hR; simp (disch := decide) only [IRou, ms_q, ms_f, mf_q, mf_f, mc_q, mc_f, fr, w13, e50] at q ⊢; exact q)
    | (have q := hK; simp (disch := decide) only [ISky, ms_q, ms_f, mf_q, mf_f, mc_q, mc_f, fr, w13, e50] at q ⊢; exact q)
    | (have q := hG; simp (disch := decide) only [IGui, ms_q, ms_f, mf_q, mf_f, mc_q, mc_f, fr, w13, e50] at q ⊢; exact q)
    | (have q := hJ.next; simp (disch := decide) only [IImg, ms_q, ms_f, mf_q, mf_f, mc_q, mc_f, fr, w13, e50] at q ⊢; exact q)
    | (have q := hT; simp (disch := decide) only [ITap, ms_q, ms_f, mf_q, mf_f, mc_q, mc_f, fr, w13, e50] at q ⊢; exact q)
    | (have q := hA; simp (disch := decide) only [ISta, ms_q, ms_f, mf_q, mf_f, mc_q, mc_f, fr, w13, e50] at q ⊢; exact q)
    | (have q := hP; simp (disch := decide) only [IPpl, ms_q, ms_f, mf_q, mf_f, mc_q, mc_f, fr, w13, e50] at q ⊢; exact q)
    | (have q := hO; simp (disch := decide) only [IRop, ms_q, ms_f, mf_q, mf_f, mc_q, mc_f, fr, w13, e50] at q ⊢; exact q)
    | (have q := hH; simp (disch := decide) only [IHrs, ms_q, ms_f, mf_q, mf_f, mc_q, mc_f, fr, w13, e50] at q ⊢; exact q)
    | skip
  simp (disch := decide) only [INow, e5, e34, e35, e36, w13, w25, w26, f5, e0]
  refine ⟨fun i z0 z1 => ?_, IPerm.ext i3.1 i3.2 i5 (fun i z0 z1 => ((v1 i z0 (by omega)).1 z1).1) (fun i z0 z1 => ((v1 i (by omega) z1).2 z0).1), by omega, by omega, ?_, fun g z0 z1 => ?_, fun g z0 z1 => ?_, by omega, by omega⟩
  · have a := v1 i z0 z1
    have b := v2 i z0 (by omega)
    by_cases e : i < M 6 0 0
    · rw [(a.1 e).1, (b.1 (by omega)).1]
      exact i4 i z0 e
    · rw [(a.2 (by omega)).1, (b.2 (by omega)).1]
  · have := pw_le i3.1 i3.2
    omega
  · have b := v2 g z0 z1
    by_cases e : g < M 6 0 0
    · rw [(b.1 (by omega)).2.1]
      exact i9 g z0 z1
    · rw [(b.2 (by omega)).2.1]
      exact (bit_hi i8.1 i8.2 i3.1 (by omega)).symm
  · have a := v1 g z0 z1
    have b := v2 g z0 (by omega)
    by_cases e : g < M 6 0 0
    · rw [(a.1 e).2.1, (a.1 e).2.2, (b.1 (by omega)).2.2.1, (b.1 (by omega)).2.2.2]
      exact i10 g z0 e
    · rw [(a.2 (by omega)).2.1, (a.2 (by omega)).2.2, (b.2 (by omega)).2.2.1, (b.2 (by omega)).2.2.2]
      exact ⟨rfl, rfl⟩

def GLh : List (Nat × Nat × Spec1) := (7, 4, sp_gobC) :: GLg
abbrev GGh : Env1 := fun n => getG n GLh
theorem GGh_all {l : Launch} {ω : WP} : ∀ e ∈ GLh, ∀ as M Q, e.2.2 as M Q → Vd l ω e.2.1 e.1 as M Q := List.forall_mem_cons.mpr ⟨ok_gobC, GGg_all⟩
theorem GGh_ok {l : Launch} {ω : WP} : GOK l ω GGh := getG_ok GLh GGh_all

theorem pair_back {l : Launch} {ω : WP} {c : Int} {M : Mem}    (hc : c < 512) (hI : Inv c M) : Vd l ω 9 156 [vR 0 0] M (PQ1 l ω c 261 []) := by
  have hI0 := hI
  obtain ⟨h0, hN, hS, hR, hK, hG, hW, hJ, hT, hA, hP, hO, hH⟩ := hI
  have b1 := hN.1
  have b2 := hN.2.2.1
  have b3 := hS.1
  have b4 := hS.2.2.1
  have b5 := hR.1
  have b6 := hR.2.2.2.1
  have b7 := hG.1
  have b8 := hG.2.2.1
  have c1 : (M 4 0 5 = 0 ∧ M 13 0 83 = -4) ∨ (M 4 0 5 = 1 ∧ M 13 0 83 = M 6 0 0 ∧ 0 ≤ M 6 0 0 ∧ M 6 0 0 ≤ M 5 0 0) := by
    rcases id hJ with q | ⟨i1, i2, i3, i4⟩
    · exact Or.inl q
    · exact Or.inr ⟨i1, i2, i3.1, i3.2⟩
  refine Vd_run (GGh_ok (l := l) (ω := ω)) 400 (cut := fun _ => none) (by decide) CutOK_none ?_
  conv => whnf
  repeat' first
    | (refine And.intro (fun h => ?_) (fun h => ?_) <;> (try simp (disch := decide) only [cmp3_lt, cmp3_ge, cmp3_gt, cmp3_le, cmp3_eq, ms_q, ms_f, mf_q, mf_f, mc_q, mc_f, and_self, and_true, true_and, and_false, false_and, or_true, true_or, or_false, false_or, if_true, if_false, not_true_eq_false, not_false_eq_true, eq_self, reduceIte, Int.reduceEq, Int.reduceLT, Int.reduceLE, Int.reduceNeg, Int.reduceAdd, Int.reduceSub, Int.reduceMul, Int.add_sub_cancel] at h) <;> (try simp (disch := omega) only [w32_e, w64_e, td_pos, tm_pos, Int.add_sub_cancel] at h) <;> first | exact absurd rfl h | exact absurd h (by decide) | (exfalso; omega) | (conv => whnf))
    | (refine And.intro (by first | omega | ((try simp (disch := decide) only [cmp3_lt, cmp3_ge, cmp3_gt, cmp3_le, cmp3_eq, ms_q, ms_f, mf_q, mf_f, mc_q, mc_f, and_self, and_true, true_and, and_false, false_and, or_true, true_or, or_false, false_or, if_true, if_false, not_true_eq_false, not_false_eq_true, eq_self, reduceIte, Int.reduceEq, Int.reduceLT, Int.reduceLE, Int.reduceNeg, Int.reduceAdd, Int.reduceSub, Int.reduceMul, Int.add_sub_cancel]); (try simp (disch := omega) only [w32_e, w64_e, td_pos, tm_pos, Int.add_sub_cancel]); first | assumption | omega) | ((try simp (disch := decide) only [cmp3_lt, cmp3_ge, cmp3_gt, cmp3_le, cmp3_eq, ms_q, ms_f, mf_q, mf_f, mc_q, mc_f, and_self, and_true, true_and, and_false, false_and, or_true, true_or, or_false, false_or, if_true, if_false, not_true_eq_false, not_false_eq_true, eq_self, reduceIte, Int.reduceEq, Int.reduceLT, Int.reduceLE, Int.reduceNeg, Int.reduceAdd, Int.reduceSub, Int.reduceMul, Int.add_sub_cancel]); (try simp (disch := omega) only [w32_e, w64_e, td_pos, tm_pos, Int.add_sub_cancel]); (repeat' (first | assumption | rfl | omega | apply And.intro)))) ?_; conv => whnf)
    | (intro v; intro hv; conv => whnf)
  all_goals refine ⟨0, _, rfl, ?_⟩
  all_goals first
    | (obtain ⟨k1, k2, k3⟩ := id hv
       have e13 : v 13 = M 13 := k2 13 (by decide) (by decide) (by decide) (by decide)
       have e6 : v 6 = M 6 := k2 6 (by decide) (by decide) (by decide) (by decide)
       refine ok_bacM _ _ _ ⟨⟨rfl, by rw [e13]; omega⟩, fun M9 q => ⟨0, congrArg (fun z => some (vI z)) (by rw [e13, e6]; omega), ?_⟩⟩
       exact inv_back (by omega) hv q hc hI0)
    | skip
  all_goals refine Vd_run (GGh_ok (l := l) (ω := ω)) 400 (cut := fun _ => none) (by decide) CutOK_none ?_
  all_goals conv => whnf
  all_goals repeat' first
    | (refine And.intro (fun h => ?_) (fun h => ?_) <;> (try simp (disch := decide) only [cmp3_lt, cmp3_ge, cmp3_gt, cmp3_le, cmp3_eq, ms_q, ms_f, mf_q, mf_f, mc_q, mc_f, and_self, and_true, true_and, and_false, false_and, or_true, true_or, or_false, false_or, if_true, if_false, not_true_eq_false, not_false_eq_true, eq_self, reduceIte, Int.reduceEq, Int.reduceLT, Int.reduceLE, Int.reduceNeg, Int.reduceAdd, Int.reduceSub, Int.reduceMul, Int.add_sub_cancel] at h) <;> (try simp (disch := omega) only [w32_e, w64_e, td_pos, tm_pos, Int.add_sub_cancel] at h) <;> first | exact absurd rfl h | exact absurd h (by decide) | (exfalso; omega) | (conv => whnf))
    | (refine And.intro (by first | omega | ((try simp (disch := decide) only [cmp3_lt, cmp3_ge, cmp3_gt, cmp3_le, cmp3_eq, ms_q, ms_f, mf_q, mf_f, mc_q, mc_f, and_self, and_true, true_and, and_false, false_and, or_true, true_or, or_false, false_or, if_true, if_false, not_true_eq_false, not_false_eq_true, eq_self, reduceIte, Int.reduceEq, Int.reduceLT, Int.reduceLE, Int.reduceNeg, Int.reduceAdd, Int.reduceSub, Int.reduceMul, Int.add_sub_cancel]); (try simp (disch := omega) only [w32_e, w64_e, td_pos, tm_pos, Int.add_sub_cancel]); first | assumption | omega) | ((try simp (disch := decide) only [cmp3_lt, cmp3_ge, cmp3_gt, cmp3_le, cmp3_eq, ms_q, ms_f, mf_q, mf_f, mc_q, mc_f, and_self, and_true, true_and, and_false, false_and, or_true, true_or, or_false, false_or, if_true, if_false, not_true_eq_false, not_false_eq_true, eq_self, reduceIte, Int.reduceEq, Int.reduceLT, Int.reduceLE, Int.reduceNeg, Int.reduceAdd, Int.reduceSub, Int.reduceMul, Int.add_sub_cancel]); (try simp (disch := omega) only [w32_e, w64_e, td_pos, tm_pos, Int.add_sub_cancel]); (repeat' (first | assumption | rfl | omega | apply And.intro)))) ?_; conv => whnf)
    | (intro v; intro hv; conv => whnf)
  all_goals refine ⟨0, ?_, ?_⟩
  all_goals ((try simp (disch := decide) only [cmp3_lt, cmp3_ge, cmp3_gt, cmp3_le, cmp3_eq, ms_q, ms_f, mf_q, mf_f, mc_q, mc_f, and_self, and_true, true_and, and_false, false_and, or_true, true_or, or_false, false_or, if_true, if_false, not_true_eq_false, not_false_eq_true, eq_self, reduceIte, Int.reduceEq, Int.reduceLT, Int.reduceLE, Int.reduceNeg, Int.reduceAdd, Int.reduceSub, Int.reduceMul, Int.add_sub_cancel] at *); (try simp (disch := omega) only [w32_e, w64_e, td_pos, tm_pos, Int.add_sub_cancel] at *))
  all_goals first
    | exact Inv.next hc hI0
    | exact congrArg (fun z => some (vI z)) (by omega)
    | exact congrArg (fun z => some (vL z)) (by omega)
    | (exfalso; omega)
    | skip
