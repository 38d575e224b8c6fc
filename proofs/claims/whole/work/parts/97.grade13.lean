/-! ===== grades, the model: lowest (wip/gen/p51.py) ===== -/
def sp_loM : Spec1 := fun as M Q => match as with
  | [.inr (.inr (.inl (q0, i0))), .inr (.inl x), .inr (.inl y)] => match Nat.beq q0 13 with
    | true => (i0 = 0 ∧ (-1000000000000000000 ≤ x ∧ x ≤ 1000000000000000000) ∧ (1 ≤ y ∧ y ≤ 1000000000000000000)) ∧ Q none (mset (mset M 13 0 81 (x.tdiv ((Int.gcd x y : Nat) : Int))) 13 0 82 (y.tdiv ((Int.gcd x y : Nat) : Int)))
    | false => False
  | _ => False
theorem ok_loM {l : Launch} {ω : WP} : ∀ as M Q, sp_loM as M Q → Vd l ω 1 253 as M Q := by
  intro as M Q h
  unfold sp_loM at h
  split at h
  case h_2 => exact h.elim
  rename_i q0 i0 x y
  cases hb : Nat.beq q0 13 with
  | false => rw [hb] at h; exact h.elim
  | true =>
  rw [hb] at h
  obtain ⟨⟨hi, hx, hy⟩, hQ⟩ := h
  have hb := beq_eq hb
  subst hb
  subst hi
  refine Vd.ok fun hok hal => ?_
  have gp : (0 : Int) < ((Int.gcd x y : Nat) : Int) := by
    have : 0 < Int.gcd x y := Int.gcd_pos_of_ne_zero_right _ (by omega)
    omega
  have key : ∀ n9, CutOK l ω 1 253 (cutL [(28, [0, 1, 3, 5, 7], fun kk vs M9 => ∃ g r i : Int, vs = [vR 13 0, vL x, vL y, vL g, vL r] ∧ M = M9 ∧ kk = (1000 - i).toNat ∧ (0 ≤ i ∧ i ≤ 200) ∧ (0 ≤ g ∧ g < 4000000000000000000) ∧ (0 ≤ r ∧ r < 4000000000000000000) ∧ en (200 - i).toNat g r ∧ ((Int.gcd g r : Nat) : Int) = ((Int.gcd x y : Nat) : Int))] n9) Q := by
    refine loops (GGP_ok (l := l) (ω := ω)) 600 _ ?_
    refine List.forall_mem_cons.mpr ⟨?_, fun _ h => absurd h List.not_mem_nil⟩
    · rintro n9 vs M9 ⟨g, r, i, rfl, rfl, rfl, i0, g0, r0, he, hg⟩
      have gz : r = 0 → g = ((Int.gcd x y : Nat) : Int) := fun z => by
        rw [z, Int.gcd_zero_right] at hg
        omega
      have em : ¬ r = 0 → w64 (g.tmod r) = g.tmod r ∧ 0 ≤ g.tmod r ∧ g.tmod r < 4000000000000000000 := fun z => by
        have a1 : 0 ≤ g.tmod r := Int.tmod_nonneg _ g0.1
        have a2 : g.tmod r < r := Int.tmod_lt_of_pos _ (by omega)
        exact ⟨w64_e (by omega) (by omega), a1, by omega⟩
      have ng : w64 (-g) = -g := w64_e (by omega) (by omega)
      show wpH _ 600 _ 253 _ true 28 [vR 13 0, vL x, vU, vL y, vU, vL g, vU, vL r, vU, vU, vU] [] _ Q
      conv => whnf
      repeat' first
        | (refine And.intro (fun h => ?_) (fun h => ?_) <;> (try simp (disch := decide) only [cmp3_lt, cmp3_ge, cmp3_gt, cmp3_le, cmp3_eq, ms_q, ms_f, mf_q, mf_f, mc_q, mc_f, and_self, and_true, true_and, and_false, false_and, or_true, true_or, or_false, false_or, if_true, if_false, not_true_eq_false, not_false_eq_true, eq_self, reduceIte, Int.reduceEq, Int.reduceLT, Int.reduceLE, Int.reduceNeg, Int.reduceAdd, Int.reduceSub, Int.reduceMul, Int.add_sub_cancel] at h) <;> (try simp (disch := omega) only [w32_e, w64_e, td_pos, tm_pos, Int.add_sub_cancel] at h) <;> first | exact absurd rfl h | exact absurd h (by decide) | (exfalso; omega) | (conv => whnf))
        | (refine And.intro (by first | omega | ((try simp (disch := decide) only [cmp3_lt, cmp3_ge, cmp3_gt, cmp3_le, cmp3_eq, ms_q, ms_f, mf_q, mf_f, mc_q, mc_f, and_self, and_true, true_and, and_false, false_and, or_true, true_or, or_false, false_or, if_true, if_false, not_true_eq_false, not_false_eq_true, eq_self, reduceIte, Int.reduceEq, Int.reduceLT, Int.reduceLE, Int.reduceNeg, Int.reduceAdd, Int.reduceSub, Int.reduceMul, Int.add_sub_cancel]); (try simp (disch := omega) only [w32_e, w64_e, td_pos, tm_pos, Int.add_sub_cancel]); first | assumption | omega) | ((try simp (disch := decide) only [cmp3_lt, cmp3_ge, cmp3_gt, cmp3_le, cmp3_eq, ms_q, ms_f, mf_q, mf_f, mc_q, mc_f, and_self, and_true, true_and, and_false, false_and, or_true, true_or, or_false, false_or, if_true, if_false, not_true_eq_false, not_false_eq_true, eq_self, reduceIte, Int.reduceEq, Int.reduceLT, Int.reduceLE, Int.reduceNeg, Int.reduceAdd, Int.reduceSub, Int.reduceMul, Int.add_sub_cancel]); (try simp (disch := omega) only [w32_e, w64_e, td_pos, tm_pos, Int.add_sub_cancel]); ((repeat' (first | assumption | omega | with_reducible rfl | apply And.intro)); done))) ?_; conv => whnf)
        | (intro v; intro hv; conv => whnf)
      all_goals first
        | (exfalso; omega)
        | (have e9 : ¬ r = 0 := by assumption
           have q := em e9
           have i1 : i < 200 := Decidable.byContradiction fun z => by
             have : (200 - i).toNat = 0 := by omega
             rw [this] at he
             exact e9 he
           have es : (200 - i).toNat = (200 - (i + 1)).toNat + 1 := by omega
           rw [es] at he
           refine ⟨_, ?_, r, g.tmod r, i + 1, rfl, rfl, rfl, ⟨by omega, by omega⟩, r0, q.2, he.resolve_left e9, ?_⟩
           · omega
           · rw [← hg]
             exact congrArg (fun z : Nat => (z : Int)) (gcd_md g0.1 r0.1))
        | (have q1 := td_bd (x := x) (b := ((Int.gcd x y : Nat) : Int)) (B := 1000000000000000000) (by omega) hx
           have q2 := td_bd (x := y) (b := ((Int.gcd x y : Nat) : Int)) (B := 1000000000000000000) (by omega) (by omega)
           rw [gz (by assumption), w64_e (by omega) (by omega), w64_e (by omega) (by omega)]
           exact hQ)
  refine Vd_run (GGP_ok (l := l) (ω := ω)) 600 (hC := key 5000) (by decide) ?_
  conv => whnf
  repeat' first
    | (refine And.intro (fun h => ?_) (fun h => ?_) <;> (try simp (disch := decide) only [cmp3_lt, cmp3_ge, cmp3_gt, cmp3_le, cmp3_eq, ms_q, ms_f, mf_q, mf_f, mc_q, mc_f, and_self, and_true, true_and, and_false, false_and, or_true, true_or, or_false, false_or, if_true, if_false, not_true_eq_false, not_false_eq_true, eq_self, reduceIte, Int.reduceEq, Int.reduceLT, Int.reduceLE, Int.reduceNeg, Int.reduceAdd, Int.reduceSub, Int.reduceMul, Int.add_sub_cancel] at h) <;> (try simp (disch := omega) only [w32_e, w64_e, td_pos, tm_pos, Int.add_sub_cancel] at h) <;> first | exact absurd rfl h | exact absurd h (by decide) | (exfalso; omega) | (conv => whnf))
    | (refine And.intro (by first | omega | ((try simp (disch := decide) only [cmp3_lt, cmp3_ge, cmp3_gt, cmp3_le, cmp3_eq, ms_q, ms_f, mf_q, mf_f, mc_q, mc_f, and_self, and_true, true_and, and_false, false_and, or_true, true_or, or_false, false_or, if_true, if_false, not_true_eq_false, not_false_eq_true, eq_self, reduceIte, Int.reduceEq, Int.reduceLT, Int.reduceLE, Int.reduceNeg, Int.reduceAdd, Int.reduceSub, Int.reduceMul, Int.add_sub_cancel]); (try simp (disch := omega) only [w32_e, w64_e, td_pos, tm_pos, Int.add_sub_cancel]); first | assumption | omega) | ((try simp (disch := decide) only [cmp3_lt, cmp3_ge, cmp3_gt, cmp3_le, cmp3_eq, ms_q, ms_f, mf_q, mf_f, mc_q, mc_f, and_self, and_true, true_and, and_false, false_and, or_true, true_or, or_false, false_or, if_true, if_false, not_true_eq_false, not_false_eq_true, eq_self, reduceIte, Int.reduceEq, Int.reduceLT, Int.reduceLE, Int.reduceNeg, Int.reduceAdd, Int.reduceSub, Int.reduceMul, Int.add_sub_cancel]); (try simp (disch := omega) only [w32_e, w64_e, td_pos, tm_pos, Int.add_sub_cancel]); ((repeat' (first | assumption | omega | with_reducible rfl | apply And.intro)); done))) ?_; conv => whnf)
    | (intro v; intro hv; conv => whnf)
  have e70 : ((2 ^ 70 : Nat) : Int) = 1180591620717411303424 := by decide
  all_goals first
    | (exfalso; omega)
    | (refine ⟨_, ?_, x, y, 0, rfl, rfl, rfl, ⟨by decide, by decide⟩, ⟨by omega, by omega⟩, ⟨by omega, by omega⟩, en_g 70 200 _ _ (by omega) (by omega) (by omega) (by decide), rfl⟩
       omega)
    | (have nx : w64 (-x) = -x := w64_e (by omega) (by omega)
       refine ⟨_, ?_, -x, y, 0, by rw [nx], rfl, rfl, ⟨by decide, by decide⟩, ⟨by omega, by omega⟩, ⟨by omega, by omega⟩, en_g 70 200 _ _ (by omega) (by omega) (by omega) (by decide), by rw [Int.neg_gcd]⟩
       omega)
