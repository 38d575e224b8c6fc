/-! ===== the turn moved behind, by the class (wip/gen/p21.py) ===== -/
def mvS (O T : Int → Int) (t : Int) : Int → Int × (Int × (Int → Int)) → Int × (Int × (Int → Int)) := fun i x => if x.1 < t ∧ T x.1 = O i then (x.1 + 1, x.2) else (x.1, (x.2.1 + 1, updI x.2.2 x.2.1 (O i)))
def mvA (O T : Int → Int) (t n : Int) : Int × (Int × (Int → Int)) := itI (mvS O T t) (0, (0, fun _ => 0)) n
theorem mvA_s {O T : Int → Int} {t n : Int} (h : 0 ≤ n) : mvA O T t (n + 1) = mvS O T t n (mvA O T t n) := itI_succ h
theorem mvA_in {O T : Int → Int} {t : Int} (ht : 0 ≤ t) : ∀ k : Nat, 0 ≤ (mvA O T t (k : Int)).1 ∧ (mvA O T t (k : Int)).1 ≤ t ∧ 0 ≤ (mvA O T t (k : Int)).2.1 ∧ (mvA O T t (k : Int)).1 + (mvA O T t (k : Int)).2.1 = (k : Int)
  | 0 => ⟨Int.le_refl _, ht, Int.le_refl _, rfl⟩
  | k + 1 => by
    have ih := mvA_in (O := O) (T := T) ht k
    have e : ((k + 1 : Nat) : Int) = (k : Int) + 1 := by omega
    rw [e, mvA_s (by omega)]
    unfold mvS
    split
    · simp only []; omega
    · simp only []; omega
theorem mvA_inI {O T : Int → Int} {t i : Int} (ht : 0 ≤ t) (hi : 0 ≤ i) : 0 ≤ (mvA O T t i).1 ∧ (mvA O T t i).1 ≤ t ∧ 0 ≤ (mvA O T t i).2.1 ∧ (mvA O T t i).1 + (mvA O T t i).2.1 = i := by
  have := mvA_in (O := O) (T := T) ht i.toNat
  rw [Int.toNat_of_nonneg hi] at this
  exact this

def sp_mvC : Spec1 := fun as M Q => match as with
  | [.inr (.inr (.inl (q0, i0)))] => match Nat.beq q0 4 with
    | true => (i0 = 0 ∧ (0 ≤ M 5 0 0 ∧ M 5 0 0 ≤ 8) ∧ (0 ≤ M 4 0 7 ∧ M 4 0 7 ≤ 8)) ∧ ∀ M9, ((∀ p, p ≠ 34 → M9 p = M p) ∧ (∀ j, 0 ≤ j → j < M 5 0 0 → M9 34 0 j = if j < (mvA (M 34 0) (M 33 0) (M 4 0 7) (M 5 0 0)).2.1 then (mvA (M 34 0) (M 33 0) (M 4 0 7) (M 5 0 0)).2.2 j else M 33 0 (j - (mvA (M 34 0) (M 33 0) (M 4 0 7) (M 5 0 0)).2.1))) → Q none M9
    | false => False
  | _ => False
theorem ok_mvC {l : Launch} {ω : WP} : ∀ as M Q, sp_mvC as M Q → Vd l ω 2 5 as M Q := by
  intro as M Q h
  unfold sp_mvC at h
  split at h
  case h_2 => exact h.elim
  rename_i q0 i0 
  cases hb : Nat.beq q0 4 with
  | false => rw [hb] at h; exact h.elim
  | true =>
  rw [hb] at h
  obtain ⟨⟨hi, h1, h2⟩, hQ⟩ := h
  have hb := beq_eq hb
  subst hb
  subst hi
  refine Vd.ok fun hok hal => ?_
  have e4 := h1
  have e5 := h1
  have e33 := h1
  have oi := h1
  have key : ∀ n9, CutOK l ω 2 5 (cutL [(6, [0, 1, 2, 3], fun kk vs M9 => ∃ nx kp i : Int, vs = [vR 4 0, vI nx, vI kp, vI i] ∧ kk = (100 + (M 5 0 0 - i)).toNat ∧ (0 ≤ i ∧ i ≤ M 5 0 0) ∧ (∀ p, p ≠ 34 → M9 p = M p) ∧ nx = (mvA (M 34 0) (M 33 0) (M 4 0 7) (i)).1 ∧ kp = (mvA (M 34 0) (M 33 0) (M 4 0 7) (i)).2.1 ∧ (∀ j, 0 ≤ j → j < kp → M9 34 0 j = (mvA (M 34 0) (M 33 0) (M 4 0 7) (i)).2.2 j) ∧ (∀ j, i ≤ j → M9 34 0 j = M 34 0 j)), (75, [0, 2, 3], fun kk vs M9 => ∃ kp i : Int, vs = [vR 4 0, vI kp, vI i] ∧ kk = (M 5 0 0 - kp).toNat ∧ (0 ≤ i ∧ i ≤ M 4 0 7) ∧ (∀ p, p ≠ 34 → M9 p = M p) ∧ (kp = (mvA (M 34 0) (M 33 0) (M 4 0 7) (M 5 0 0)).2.1 + i ∧ kp ≤ M 5 0 0) ∧ (∀ j, 0 ≤ j → j < (mvA (M 34 0) (M 33 0) (M 4 0 7) (M 5 0 0)).2.1 → M9 34 0 j = (mvA (M 34 0) (M 33 0) (M 4 0 7) (M 5 0 0)).2.2 j) ∧ (∀ j, (mvA (M 34 0) (M 33 0) (M 4 0 7) (M 5 0 0)).2.1 ≤ j → j < kp → M9 34 0 j = M 33 0 (j - (mvA (M 34 0) (M 33 0) (M 4 0 7) (M 5 0 0)).2.1)))] n9) Q := by
    refine loops (GGo_ok (l := l) (ω := ω)) 300 _ ?_
    refine List.forall_mem_cons.mpr ⟨?_, List.forall_mem_cons.mpr ⟨?_, fun _ h => absurd h List.not_mem_nil⟩⟩
    · rintro n9 vs M9 ⟨nx, kp, i, rfl, rfl, i0, fr, hx, hk, lo, hi_⟩
      have e4 : M9 4 = M 4 := fr 4 (by decide)
      have e5 : M9 5 = M 5 := fr 5 (by decide)
      have e33 : M9 33 = M 33 := fr 33 (by decide)
      have xi := mvA_inI (O := M 34 0) (T := M 33 0) h2.1 i0.1
      have xs := mvA_s (O := M 34 0) (T := M 33 0) (t := M 4 0 7) i0.1
      have oi : M9 34 0 i = M 34 0 i := hi_ i (Int.le_refl _)
      show wpH _ 300 _ 5 _ true 6 [vR 4 0, vI nx, vI kp, vI i, vU] [] _ Q
      conv => whnf
      repeat' first
        | (refine And.intro (fun h => ?_) (fun h => ?_) <;> (try simp (disch := decide) only [cmp3_lt, cmp3_ge, cmp3_gt, cmp3_le, cmp3_eq, ms_q, ms_f, mf_q, mf_f, mc_q, mc_f, and_self, and_true, true_and, and_false, false_and, or_true, true_or, or_false, false_or, if_true, if_false, not_true_eq_false, not_false_eq_true, eq_self, reduceIte, Int.reduceEq, Int.reduceLT, Int.reduceLE, Int.reduceNeg, Int.reduceAdd, Int.reduceSub, Int.reduceMul, Int.add_sub_cancel] at h) <;> (try simp (disch := omega) only [w32_e, w64_e, td_pos, tm_pos, Int.add_sub_cancel, e4, e5, e33, oi] at h) <;> first | exact absurd rfl h | exact absurd h (by decide) | (exfalso; omega) | (conv => whnf))
        | (refine And.intro (by first | omega | ((try simp (disch := decide) only [cmp3_lt, cmp3_ge, cmp3_gt, cmp3_le, cmp3_eq, ms_q, ms_f, mf_q, mf_f, mc_q, mc_f, and_self, and_true, true_and, and_false, false_and, or_true, true_or, or_false, false_or, if_true, if_false, not_true_eq_false, not_false_eq_true, eq_self, reduceIte, Int.reduceEq, Int.reduceLT, Int.reduceLE, Int.reduceNeg, Int.reduceAdd, Int.reduceSub, Int.reduceMul, Int.add_sub_cancel]); (try simp (disch := omega) only [w32_e, w64_e, td_pos, tm_pos, Int.add_sub_cancel, e4, e5, e33, oi]); first | assumption | omega) | ((try simp (disch := decide) only [cmp3_lt, cmp3_ge, cmp3_gt, cmp3_le, cmp3_eq, ms_q, ms_f, mf_q, mf_f, mc_q, mc_f, and_self, and_true, true_and, and_false, false_and, or_true, true_or, or_false, false_or, if_true, if_false, not_true_eq_false, not_false_eq_true, eq_self, reduceIte, Int.reduceEq, Int.reduceLT, Int.reduceLE, Int.reduceNeg, Int.reduceAdd, Int.reduceSub, Int.reduceMul, Int.add_sub_cancel]); (try simp (disch := omega) only [w32_e, w64_e, td_pos, tm_pos, Int.add_sub_cancel, e4, e5, e33, oi]); ((repeat' (first | assumption | omega | with_reducible rfl | apply And.intro)); done))) ?_; conv => whnf)
        | (intro v; intro hv; conv => whnf)
      all_goals first
        | (have z1 : i < M 5 0 0 := by omega
           by_cases hc : (mvA (M 34 0) (M 33 0) (M 4 0 7) (i)).1 < M 4 0 7 ∧ M 33 0 (mvA (M 34 0) (M 33 0) (M 4 0 7) (i)).1 = M 34 0 i
           · first
               | (exfalso; rw [← hx] at hc; omega)
               | (unfold mvS at xs
                  rw [if_pos hc] at xs
                  refine ⟨_, ?_, _, _, _, rfl, rfl, ?_, ?_, ?_, ?_, ?_, ?_⟩
                  · ((try simp (disch := decide) only [cmp3_lt, cmp3_ge, cmp3_gt, cmp3_le, cmp3_eq, ms_q, ms_f, mf_q, mf_f, mc_q, mc_f, and_self, and_true, true_and, and_false, false_and, or_true, true_or, or_false, false_or, if_true, if_false, not_true_eq_false, not_false_eq_true, eq_self, reduceIte, Int.reduceEq, Int.reduceLT, Int.reduceLE, Int.reduceNeg, Int.reduceAdd, Int.reduceSub, Int.reduceMul, Int.add_sub_cancel]); (try simp (disch := omega) only [w32_e, w64_e, td_pos, tm_pos, Int.add_sub_cancel, e4, e5, e33, oi])) <;> omega
                  · ((try simp (disch := decide) only [cmp3_lt, cmp3_ge, cmp3_gt, cmp3_le, cmp3_eq, ms_q, ms_f, mf_q, mf_f, mc_q, mc_f, and_self, and_true, true_and, and_false, false_and, or_true, true_or, or_false, false_or, if_true, if_false, not_true_eq_false, not_false_eq_true, eq_self, reduceIte, Int.reduceEq, Int.reduceLT, Int.reduceLE, Int.reduceNeg, Int.reduceAdd, Int.reduceSub, Int.reduceMul, Int.add_sub_cancel]); (try simp (disch := omega) only [w32_e, w64_e, td_pos, tm_pos, Int.add_sub_cancel, e4, e5, e33, oi])) <;> omega
                  · exact fr
                  · ((try simp (disch := decide) only [cmp3_lt, cmp3_ge, cmp3_gt, cmp3_le, cmp3_eq, ms_q, ms_f, mf_q, mf_f, mc_q, mc_f, and_self, and_true, true_and, and_false, false_and, or_true, true_or, or_false, false_or, if_true, if_false, not_true_eq_false, not_false_eq_true, eq_self, reduceIte, Int.reduceEq, Int.reduceLT, Int.reduceLE, Int.reduceNeg, Int.reduceAdd, Int.reduceSub, Int.reduceMul, Int.add_sub_cancel]); (try simp (disch := omega) only [w32_e, w64_e, td_pos, tm_pos, Int.add_sub_cancel, e4, e5, e33, oi]))
                    rw [xs, hx]
                  · ((try simp (disch := decide) only [cmp3_lt, cmp3_ge, cmp3_gt, cmp3_le, cmp3_eq, ms_q, ms_f, mf_q, mf_f, mc_q, mc_f, and_self, and_true, true_and, and_false, false_and, or_true, true_or, or_false, false_or, if_true, if_false, not_true_eq_false, not_false_eq_true, eq_self, reduceIte, Int.reduceEq, Int.reduceLT, Int.reduceLE, Int.reduceNeg, Int.reduceAdd, Int.reduceSub, Int.reduceMul, Int.add_sub_cancel]); (try simp (disch := omega) only [w32_e, w64_e, td_pos, tm_pos, Int.add_sub_cancel, e4, e5, e33, oi]))
                    rw [xs]
                    exact hk
                  · intro j j0 j1
                    ((try simp (disch := decide) only [cmp3_lt, cmp3_ge, cmp3_gt, cmp3_le, cmp3_eq, ms_q, ms_f, mf_q, mf_f, mc_q, mc_f, and_self, and_true, true_and, and_false, false_and, or_true, true_or, or_false, false_or, if_true, if_false, not_true_eq_false, not_false_eq_true, eq_self, reduceIte, Int.reduceEq, Int.reduceLT, Int.reduceLE, Int.reduceNeg, Int.reduceAdd, Int.reduceSub, Int.reduceMul, Int.add_sub_cancel]); (try simp (disch := omega) only [w32_e, w64_e, td_pos, tm_pos, Int.add_sub_cancel, e4, e5, e33, oi]))
                    rw [xs]
                    exact lo j j0 j1
                  · intro j j0
                    (try simp (disch := omega) only [w32_e] at j0)
                    exact hi_ j (by omega))
           · first
               | (exfalso; rw [← hx] at hc; omega)
               | (unfold mvS at xs
                  rw [if_neg hc] at xs
                  refine ⟨_, ?_, _, _, _, rfl, rfl, ?_, ?_, ?_, ?_, ?_, ?_⟩
                  · ((try simp (disch := decide) only [cmp3_lt, cmp3_ge, cmp3_gt, cmp3_le, cmp3_eq, ms_q, ms_f, mf_q, mf_f, mc_q, mc_f, and_self, and_true, true_and, and_false, false_and, or_true, true_or, or_false, false_or, if_true, if_false, not_true_eq_false, not_false_eq_true, eq_self, reduceIte, Int.reduceEq, Int.reduceLT, Int.reduceLE, Int.reduceNeg, Int.reduceAdd, Int.reduceSub, Int.reduceMul, Int.add_sub_cancel]); (try simp (disch := omega) only [w32_e, w64_e, td_pos, tm_pos, Int.add_sub_cancel, e4, e5, e33, oi])) <;> omega
                  · ((try simp (disch := decide) only [cmp3_lt, cmp3_ge, cmp3_gt, cmp3_le, cmp3_eq, ms_q, ms_f, mf_q, mf_f, mc_q, mc_f, and_self, and_true, true_and, and_false, false_and, or_true, true_or, or_false, false_or, if_true, if_false, not_true_eq_false, not_false_eq_true, eq_self, reduceIte, Int.reduceEq, Int.reduceLT, Int.reduceLE, Int.reduceNeg, Int.reduceAdd, Int.reduceSub, Int.reduceMul, Int.add_sub_cancel]); (try simp (disch := omega) only [w32_e, w64_e, td_pos, tm_pos, Int.add_sub_cancel, e4, e5, e33, oi])) <;> omega
                  · intro p z0; rw [ms_q z0]; exact fr p z0
                  · ((try simp (disch := decide) only [cmp3_lt, cmp3_ge, cmp3_gt, cmp3_le, cmp3_eq, ms_q, ms_f, mf_q, mf_f, mc_q, mc_f, and_self, and_true, true_and, and_false, false_and, or_true, true_or, or_false, false_or, if_true, if_false, not_true_eq_false, not_false_eq_true, eq_self, reduceIte, Int.reduceEq, Int.reduceLT, Int.reduceLE, Int.reduceNeg, Int.reduceAdd, Int.reduceSub, Int.reduceMul, Int.add_sub_cancel]); (try simp (disch := omega) only [w32_e, w64_e, td_pos, tm_pos, Int.add_sub_cancel, e4, e5, e33, oi]))
                    rw [xs]
                    exact hx
                  · ((try simp (disch := decide) only [cmp3_lt, cmp3_ge, cmp3_gt, cmp3_le, cmp3_eq, ms_q, ms_f, mf_q, mf_f, mc_q, mc_f, and_self, and_true, true_and, and_false, false_and, or_true, true_or, or_false, false_or, if_true, if_false, not_true_eq_false, not_false_eq_true, eq_self, reduceIte, Int.reduceEq, Int.reduceLT, Int.reduceLE, Int.reduceNeg, Int.reduceAdd, Int.reduceSub, Int.reduceMul, Int.add_sub_cancel]); (try simp (disch := omega) only [w32_e, w64_e, td_pos, tm_pos, Int.add_sub_cancel, e4, e5, e33, oi]))
                    rw [xs, hk]
                  · intro j j0 j1
                    (try simp (disch := omega) only [w32_e] at j1)
                    ((try simp (disch := decide) only [cmp3_lt, cmp3_ge, cmp3_gt, cmp3_le, cmp3_eq, ms_q, ms_f, mf_q, mf_f, mc_q, mc_f, and_self, and_true, true_and, and_false, false_and, or_true, true_or, or_false, false_or, if_true, if_false, not_true_eq_false, not_false_eq_true, eq_self, reduceIte, Int.reduceEq, Int.reduceLT, Int.reduceLE, Int.reduceNeg, Int.reduceAdd, Int.reduceSub, Int.reduceMul, Int.add_sub_cancel]); (try simp (disch := omega) only [w32_e, w64_e, td_pos, tm_pos, Int.add_sub_cancel, e4, e5, e33, oi]))
                    rw [xs]
                    simp only []
                    unfold updI
                    by_cases e : j = kp
                    · simp only [if_pos e, ← hk, and_self, and_true, true_and, and_false, false_and, or_true, true_or, or_false, false_or, if_true, if_false, not_true_eq_false, not_false_eq_true, eq_self, reduceIte, Int.reduceEq, Int.reduceLT, Int.reduceLE, Int.reduceNeg, Int.reduceAdd, Int.reduceSub, Int.reduceMul, Int.add_sub_cancel]
                    · simp only [if_neg e, ← hk]
                      exact lo j j0 (by omega)
                  · intro j j0
                    (try simp (disch := omega) only [w32_e] at j0)
                    simp (disch := decide) only [ms_q, ms_f, mf_q, mf_f, mc_q, mc_f, and_self, and_true, true_and, and_false, false_and, or_true, true_or, or_false, false_or, if_true, if_false, not_true_eq_false, not_false_eq_true, eq_self, reduceIte, Int.reduceEq, Int.reduceLT, Int.reduceLE, Int.reduceNeg, Int.reduceAdd, Int.reduceSub, Int.reduceMul, Int.add_sub_cancel]
                    rw [if_neg (by omega)]
                    exact hi_ j (by omega)))
        | (have e9 : i = M 5 0 0 := by omega
           subst e9
           refine ⟨_, ?_, _, _, rfl, rfl, ?_, ?_, ?_, ?_, ?_⟩
           · ((try simp (disch := decide) only [cmp3_lt, cmp3_ge, cmp3_gt, cmp3_le, cmp3_eq, ms_q, ms_f, mf_q, mf_f, mc_q, mc_f, and_self, and_true, true_and, and_false, false_and, or_true, true_or, or_false, false_or, if_true, if_false, not_true_eq_false, not_false_eq_true, eq_self, reduceIte, Int.reduceEq, Int.reduceLT, Int.reduceLE, Int.reduceNeg, Int.reduceAdd, Int.reduceSub, Int.reduceMul, Int.add_sub_cancel]); (try simp (disch := omega) only [w32_e, w64_e, td_pos, tm_pos, Int.add_sub_cancel, e4, e5, e33, oi])) <;> omega
           · ((try simp (disch := decide) only [cmp3_lt, cmp3_ge, cmp3_gt, cmp3_le, cmp3_eq, ms_q, ms_f, mf_q, mf_f, mc_q, mc_f, and_self, and_true, true_and, and_false, false_and, or_true, true_or, or_false, false_or, if_true, if_false, not_true_eq_false, not_false_eq_true, eq_self, reduceIte, Int.reduceEq, Int.reduceLT, Int.reduceLE, Int.reduceNeg, Int.reduceAdd, Int.reduceSub, Int.reduceMul, Int.add_sub_cancel]); (try simp (disch := omega) only [w32_e, w64_e, td_pos, tm_pos, Int.add_sub_cancel, e4, e5, e33, oi])) <;> omega
           · exact fr
           · ((try simp (disch := decide) only [cmp3_lt, cmp3_ge, cmp3_gt, cmp3_le, cmp3_eq, ms_q, ms_f, mf_q, mf_f, mc_q, mc_f, and_self, and_true, true_and, and_false, false_and, or_true, true_or, or_false, false_or, if_true, if_false, not_true_eq_false, not_false_eq_true, eq_self, reduceIte, Int.reduceEq, Int.reduceLT, Int.reduceLE, Int.reduceNeg, Int.reduceAdd, Int.reduceSub, Int.reduceMul, Int.add_sub_cancel]); (try simp (disch := omega) only [w32_e, w64_e, td_pos, tm_pos, Int.add_sub_cancel, e4, e5, e33, oi])) <;> omega
           · intro j j0 j1; exact lo j j0 (by omega)
           · intro j j0 j1; omega)
    · rintro n9 vs M9 ⟨kp, i, rfl, rfl, i0, fr, hk, lo, md⟩
      have e4 : M9 4 = M 4 := fr 4 (by decide)
      have e5 : M9 5 = M 5 := fr 5 (by decide)
      have e33 : M9 33 = M 33 := fr 33 (by decide)
      have xi := mvA_inI (O := M 34 0) (T := M 33 0) h2.1 h1.1
      have oi := h1
      show wpH _ 300 _ 5 _ true 75 [vR 4 0, vU, vI kp, vI i, vU] [] _ Q
      conv => whnf
      repeat' first
        | (refine And.intro (fun h => ?_) (fun h => ?_) <;> (try simp (disch := decide) only [cmp3_lt, cmp3_ge, cmp3_gt, cmp3_le, cmp3_eq, ms_q, ms_f, mf_q, mf_f, mc_q, mc_f, and_self, and_true, true_and, and_false, false_and, or_true, true_or, or_false, false_or, if_true, if_false, not_true_eq_false, not_false_eq_true, eq_self, reduceIte, Int.reduceEq, Int.reduceLT, Int.reduceLE, Int.reduceNeg, Int.reduceAdd, Int.reduceSub, Int.reduceMul, Int.add_sub_cancel] at h) <;> (try simp (disch := omega) only [w32_e, w64_e, td_pos, tm_pos, Int.add_sub_cancel, e4, e5, e33, oi] at h) <;> first | exact absurd rfl h | exact absurd h (by decide) | (exfalso; omega) | (conv => whnf))
        | (refine And.intro (by first | omega | ((try simp (disch := decide) only [cmp3_lt, cmp3_ge, cmp3_gt, cmp3_le, cmp3_eq, ms_q, ms_f, mf_q, mf_f, mc_q, mc_f, and_self, and_true, true_and, and_false, false_and, or_true, true_or, or_false, false_or, if_true, if_false, not_true_eq_false, not_false_eq_true, eq_self, reduceIte, Int.reduceEq, Int.reduceLT, Int.reduceLE, Int.reduceNeg, Int.reduceAdd, Int.reduceSub, Int.reduceMul, Int.add_sub_cancel]); (try simp (disch := omega) only [w32_e, w64_e, td_pos, tm_pos, Int.add_sub_cancel, e4, e5, e33, oi]); first | assumption | omega) | ((try simp (disch := decide) only [cmp3_lt, cmp3_ge, cmp3_gt, cmp3_le, cmp3_eq, ms_q, ms_f, mf_q, mf_f, mc_q, mc_f, and_self, and_true, true_and, and_false, false_and, or_true, true_or, or_false, false_or, if_true, if_false, not_true_eq_false, not_false_eq_true, eq_self, reduceIte, Int.reduceEq, Int.reduceLT, Int.reduceLE, Int.reduceNeg, Int.reduceAdd, Int.reduceSub, Int.reduceMul, Int.add_sub_cancel]); (try simp (disch := omega) only [w32_e, w64_e, td_pos, tm_pos, Int.add_sub_cancel, e4, e5, e33, oi]); ((repeat' (first | assumption | omega | with_reducible rfl | apply And.intro)); done))) ?_; conv => whnf)
        | (intro v; intro hv; conv => whnf)
      all_goals first
        | (have z1 : M 5 0 0 ≤ kp := by omega
           refine hQ M9 ⟨fr, fun j j0 j1 => ?_⟩
           by_cases e : j < (mvA (M 34 0) (M 33 0) (M 4 0 7) (M 5 0 0)).2.1
           · rw [if_pos e]
             exact lo j j0 e
           · rw [if_neg e]
             exact md j (by omega) (by omega))
        | (refine ⟨_, ?_, _, _, rfl, rfl, ?_, ?_, ?_, ?_, ?_⟩
           · ((try simp (disch := decide) only [cmp3_lt, cmp3_ge, cmp3_gt, cmp3_le, cmp3_eq, ms_q, ms_f, mf_q, mf_f, mc_q, mc_f, and_self, and_true, true_and, and_false, false_and, or_true, true_or, or_false, false_or, if_true, if_false, not_true_eq_false, not_false_eq_true, eq_self, reduceIte, Int.reduceEq, Int.reduceLT, Int.reduceLE, Int.reduceNeg, Int.reduceAdd, Int.reduceSub, Int.reduceMul, Int.add_sub_cancel]); (try simp (disch := omega) only [w32_e, w64_e, td_pos, tm_pos, Int.add_sub_cancel, e4, e5, e33, oi])) <;> omega
           · ((try simp (disch := decide) only [cmp3_lt, cmp3_ge, cmp3_gt, cmp3_le, cmp3_eq, ms_q, ms_f, mf_q, mf_f, mc_q, mc_f, and_self, and_true, true_and, and_false, false_and, or_true, true_or, or_false, false_or, if_true, if_false, not_true_eq_false, not_false_eq_true, eq_self, reduceIte, Int.reduceEq, Int.reduceLT, Int.reduceLE, Int.reduceNeg, Int.reduceAdd, Int.reduceSub, Int.reduceMul, Int.add_sub_cancel]); (try simp (disch := omega) only [w32_e, w64_e, td_pos, tm_pos, Int.add_sub_cancel, e4, e5, e33, oi])) <;> omega
           · intro p z0; rw [ms_q z0]; exact fr p z0
           · ((try simp (disch := decide) only [cmp3_lt, cmp3_ge, cmp3_gt, cmp3_le, cmp3_eq, ms_q, ms_f, mf_q, mf_f, mc_q, mc_f, and_self, and_true, true_and, and_false, false_and, or_true, true_or, or_false, false_or, if_true, if_false, not_true_eq_false, not_false_eq_true, eq_self, reduceIte, Int.reduceEq, Int.reduceLT, Int.reduceLE, Int.reduceNeg, Int.reduceAdd, Int.reduceSub, Int.reduceMul, Int.add_sub_cancel]); (try simp (disch := omega) only [w32_e, w64_e, td_pos, tm_pos, Int.add_sub_cancel, e4, e5, e33, oi])) <;> omega
           · intro j j0 j1
             ((try simp (disch := decide) only [cmp3_lt, cmp3_ge, cmp3_gt, cmp3_le, cmp3_eq, ms_q, ms_f, mf_q, mf_f, mc_q, mc_f, and_self, and_true, true_and, and_false, false_and, or_true, true_or, or_false, false_or, if_true, if_false, not_true_eq_false, not_false_eq_true, eq_self, reduceIte, Int.reduceEq, Int.reduceLT, Int.reduceLE, Int.reduceNeg, Int.reduceAdd, Int.reduceSub, Int.reduceMul, Int.add_sub_cancel]); (try simp (disch := omega) only [w32_e, w64_e, td_pos, tm_pos, Int.add_sub_cancel, e4, e5, e33, oi]))
             rw [if_neg (by omega)]
             exact lo j j0 j1
           · intro j j0 j1
             (try simp (disch := omega) only [w32_e] at j1)
             ((try simp (disch := decide) only [cmp3_lt, cmp3_ge, cmp3_gt, cmp3_le, cmp3_eq, ms_q, ms_f, mf_q, mf_f, mc_q, mc_f, and_self, and_true, true_and, and_false, false_and, or_true, true_or, or_false, false_or, if_true, if_false, not_true_eq_false, not_false_eq_true, eq_self, reduceIte, Int.reduceEq, Int.reduceLT, Int.reduceLE, Int.reduceNeg, Int.reduceAdd, Int.reduceSub, Int.reduceMul, Int.add_sub_cancel]); (try simp (disch := omega) only [w32_e, w64_e, td_pos, tm_pos, Int.add_sub_cancel, e4, e5, e33, oi]))
             by_cases e : j = kp
             · rw [if_pos e]
               have e2 : j - (mvA (M 34 0) (M 33 0) (M 4 0 7) (M 5 0 0)).2.1 = i := by omega
               rw [e2]
             · rw [if_neg e]
               exact md j j0 (by omega))
  refine Vd_run (GGo_ok (l := l) (ω := ω)) 300 (hC := key 1000) (by decide) ?_
  conv => whnf
  repeat' first
    | (refine And.intro (fun h => ?_) (fun h => ?_) <;> (try simp (disch := decide) only [cmp3_lt, cmp3_ge, cmp3_gt, cmp3_le, cmp3_eq, ms_q, ms_f, mf_q, mf_f, mc_q, mc_f, and_self, and_true, true_and, and_false, false_and, or_true, true_or, or_false, false_or, if_true, if_false, not_true_eq_false, not_false_eq_true, eq_self, reduceIte, Int.reduceEq, Int.reduceLT, Int.reduceLE, Int.reduceNeg, Int.reduceAdd, Int.reduceSub, Int.reduceMul, Int.add_sub_cancel] at h) <;> (try simp (disch := omega) only [w32_e, w64_e, td_pos, tm_pos, Int.add_sub_cancel, e4, e5, e33, oi] at h) <;> first | exact absurd rfl h | exact absurd h (by decide) | (exfalso; omega) | (conv => whnf))
    | (refine And.intro (by first | omega | ((try simp (disch := decide) only [cmp3_lt, cmp3_ge, cmp3_gt, cmp3_le, cmp3_eq, ms_q, ms_f, mf_q, mf_f, mc_q, mc_f, and_self, and_true, true_and, and_false, false_and, or_true, true_or, or_false, false_or, if_true, if_false, not_true_eq_false, not_false_eq_true, eq_self, reduceIte, Int.reduceEq, Int.reduceLT, Int.reduceLE, Int.reduceNeg, Int.reduceAdd, Int.reduceSub, Int.reduceMul, Int.add_sub_cancel]); (try simp (disch := omega) only [w32_e, w64_e, td_pos, tm_pos, Int.add_sub_cancel, e4, e5, e33, oi]); first | assumption | omega) | ((try simp (disch := decide) only [cmp3_lt, cmp3_ge, cmp3_gt, cmp3_le, cmp3_eq, ms_q, ms_f, mf_q, mf_f, mc_q, mc_f, and_self, and_true, true_and, and_false, false_and, or_true, true_or, or_false, false_or, if_true, if_false, not_true_eq_false, not_false_eq_true, eq_self, reduceIte, Int.reduceEq, Int.reduceLT, Int.reduceLE, Int.reduceNeg, Int.reduceAdd, Int.reduceSub, Int.reduceMul, Int.add_sub_cancel]); (try simp (disch := omega) only [w32_e, w64_e, td_pos, tm_pos, Int.add_sub_cancel, e4, e5, e33, oi]); ((repeat' (first | assumption | omega | with_reducible rfl | apply And.intro)); done))) ?_; conv => whnf)
    | (intro v; intro hv; conv => whnf)
  all_goals refine ⟨_, ?_, _, _, _, rfl, rfl, ?_, ?_, ?_, ?_, ?_, ?_⟩ <;> first | omega | (intro p _; rfl) | rfl | (intro j j0 j1; omega)
