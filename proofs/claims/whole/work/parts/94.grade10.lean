/-! ===== grades, the class: partOf (wip/gen/p49.py) ===== -/
def GLN : List (Nat × Nat × Spec1) := (20, 1, sp_coC) :: GLM
abbrev GGN : Env1 := fun n => getG n GLN
theorem GGN_all {l : Launch} {ω : WP} : ∀ e ∈ GLN, ∀ as M Q, e.2.2 as M Q → Vd l ω e.2.1 e.1 as M Q := List.forall_mem_cons.mpr ⟨ok_coC, GGM_all⟩
theorem GGN_ok {l : Launch} {ω : WP} : GOK l ω GGN := getG_ok GLN GGN_all
theorem eu_ab {x y X Y : Int} (hX : X = x ∨ X = -x) (hx : 0 ≤ X) (hY : Y = y) (y0 : 1 ≤ y) (y1 : y ≤ 30000) : eu 100 X Y = ((Int.gcd x y : Nat) : Int) := by
  have e40 : ((2 ^ 40 : Nat) : Int) = 1099511627776 := by decide
  rw [hY, eu_g 40 100 X y hx (by omega) (by omega) (by decide)]
  rcases hX with z | z
  · rw [z]
  · rw [z, Int.neg_gcd]

def sp_paC : Spec1 := fun as M Q => match as with
  | [.inr (.inr (.inl (q0, i0))), .inr (.inl x), .inl w] => match Nat.beq q0 12 with
    | true => (i0 = 0 ∧ (-1000000000000000000 ≤ x ∧ x ≤ 1000000000000000000) ∧ (1 ≤ M 12 0 9 ∧ M 12 0 9 ≤ 30000) ∧ (w = 0 ∨ w = 1)) ∧ Q (some (vL (if w = 0 then x.tdiv ((Int.gcd x (M 12 0 9) : Nat) : Int) else (M 12 0 9).tdiv ((Int.gcd x (M 12 0 9) : Nat) : Int)))) M
    | false => False
  | _ => False
theorem ok_paC {l : Launch} {ω : WP} : ∀ as M Q, sp_paC as M Q → Vd l ω 2 19 as M Q := by
  intro as M Q h
  unfold sp_paC at h
  split at h
  case h_2 => exact h.elim
  rename_i q0 i0 x w
  cases hb : Nat.beq q0 12 with
  | false => rw [hb] at h; exact h.elim
  | true =>
  rw [hb] at h
  obtain ⟨⟨hi, hx, hy, hw⟩, hQ⟩ := h
  have hb := beq_eq hb
  subst hb
  subst hi
  refine Vd.ok fun hok hal => ?_
  have ge : eu 100 (if x < 0 then -x else x) (if M 12 0 9 < 0 then -M 12 0 9 else M 12 0 9) = ((Int.gcd x (M 12 0 9) : Nat) : Int) := eu_ab (by split <;> omega) (by split <;> omega) (by rw [if_neg (by omega)]) hy.1 hy.2
  have gp : (0 : Int) < ((Int.gcd x (M 12 0 9) : Nat) : Int) := by
    have : 0 < Int.gcd x (M 12 0 9) := Int.gcd_pos_of_ne_zero_right _ (by omega)
    omega
  have q1 := td_bd (x := x) (b := ((Int.gcd x (M 12 0 9) : Nat) : Int)) (B := 1000000000000000000) (by omega) hx
  have q2 := td_bd (x := M 12 0 9) (b := ((Int.gcd x (M 12 0 9) : Nat) : Int)) (B := 30000) (by omega) (by omega)
  have q3 : M 12 0 9 / ((Int.gcd x (M 12 0 9) : Nat) : Int) = (M 12 0 9).tdiv ((Int.gcd x (M 12 0 9) : Nat) : Int) := (Int.tdiv_eq_ediv_of_nonneg (by omega)).symm
  have u1 := w64_e (x := x.tdiv ((Int.gcd x (M 12 0 9) : Nat) : Int)) (by omega) (by omega)
  have u2 := w64_e (x := (M 12 0 9).tdiv ((Int.gcd x (M 12 0 9) : Nat) : Int)) (by omega) (by omega)
  refine Vd_run (GGN_ok (l := l) (ω := ω)) 400 (cut := fun _ => none) (by decide) CutOK_none ?_
  conv => whnf
  repeat' first
    | (refine And.intro (fun h => ?_) (fun h => ?_) <;> (try simp (disch := decide) only [cmp3_lt, cmp3_ge, cmp3_gt, cmp3_le, cmp3_eq, ms_q, ms_f, mf_q, mf_f, mc_q, mc_f, and_self, and_true, true_and, and_false, false_and, or_true, true_or, or_false, false_or, if_true, if_false, not_true_eq_false, not_false_eq_true, eq_self, reduceIte, Int.reduceEq, Int.reduceLT, Int.reduceLE, Int.reduceNeg, Int.reduceAdd, Int.reduceSub, Int.reduceMul, Int.add_sub_cancel] at h) <;> (try simp (disch := omega) only [w32_e, w64_e, td_pos, tm_pos, Int.add_sub_cancel] at h) <;> first | exact absurd rfl h | exact absurd h (by decide) | (exfalso; omega) | (conv => whnf))
    | (refine And.intro (by first | omega | ((try simp (disch := decide) only [cmp3_lt, cmp3_ge, cmp3_gt, cmp3_le, cmp3_eq, ms_q, ms_f, mf_q, mf_f, mc_q, mc_f, and_self, and_true, true_and, and_false, false_and, or_true, true_or, or_false, false_or, if_true, if_false, not_true_eq_false, not_false_eq_true, eq_self, reduceIte, Int.reduceEq, Int.reduceLT, Int.reduceLE, Int.reduceNeg, Int.reduceAdd, Int.reduceSub, Int.reduceMul, Int.add_sub_cancel]); (try simp (disch := omega) only [w32_e, w64_e, td_pos, tm_pos, Int.add_sub_cancel]); first | assumption | omega) | ((try simp (disch := decide) only [cmp3_lt, cmp3_ge, cmp3_gt, cmp3_le, cmp3_eq, ms_q, ms_f, mf_q, mf_f, mc_q, mc_f, and_self, and_true, true_and, and_false, false_and, or_true, true_or, or_false, false_or, if_true, if_false, not_true_eq_false, not_false_eq_true, eq_self, reduceIte, Int.reduceEq, Int.reduceLT, Int.reduceLE, Int.reduceNeg, Int.reduceAdd, Int.reduceSub, Int.reduceMul, Int.add_sub_cancel]); (try simp (disch := omega) only [w32_e, w64_e, td_pos, tm_pos, Int.add_sub_cancel]); ((repeat' (first | assumption | omega | with_reducible rfl | apply And.intro)); done))) ?_; conv => whnf)
    | (intro v; intro hv; conv => whnf)
  all_goals ((try simp (disch := decide) only [cmp3_lt, cmp3_ge, cmp3_gt, cmp3_le, cmp3_eq, ms_q, ms_f, mf_q, mf_f, mc_q, mc_f, and_self, and_true, true_and, and_false, false_and, or_true, true_or, or_false, false_or, if_true, if_false, not_true_eq_false, not_false_eq_true, eq_self, reduceIte, Int.reduceEq, Int.reduceLT, Int.reduceLE, Int.reduceNeg, Int.reduceAdd, Int.reduceSub, Int.reduceMul, Int.add_sub_cancel] at *); (try simp (disch := omega) only [w32_e, w64_e, td_pos, tm_pos, Int.add_sub_cancel] at *))
  all_goals first
    | (exfalso; omega)
    | (refine Eq.mp (congrArg (fun z => Q (some (vL z)) M) ?_) hQ
       rw [ge]
       by_cases w0 : w = 0
       · rw [if_pos w0]
         first
           | exact (w64_e (by omega) (by omega)).symm
           | (exfalso; omega)
       · rw [if_neg w0]
         first
           | exact (w64_e (by omega) (by omega)).symm
           | (exfalso; omega))

def sp_toC : Spec1 := fun as M Q => match as with
  | [.inr (.inr (.inl (q0, i0))), .inl e] => match Nat.beq q0 12 with
    | true => (i0 = 0 ∧ ((0 ≤ e ∧ e < M 12 0 0) ∧ AB (M 61 0) (M 62 0) (M 12 0 0)) ∧ (1 ≤ M 63 0 e ∧ M 63 0 e ≤ 95) ∧ (1 ≤ M 12 0 9 ∧ M 12 0 9 ≤ 30000) ∧ (∀ k, 0 ≤ k → k < 14 → -3000000000 ≤ M 68 0 k ∧ M 68 0 k ≤ 3000000000)) ∧ Q (some (vL (M 63 0 e * M 12 0 9 - M 68 0 (M 61 0 e) - M 68 0 (M 62 0 e)))) M
    | false => False
  | _ => False
theorem ok_toC {l : Launch} {ω : WP} : ∀ as M Q, sp_toC as M Q → Vd l ω 1 18 as M Q := by
  intro as M Q h
  unfold sp_toC at h
  split at h
  case h_2 => exact h.elim
  rename_i q0 i0 e
  cases hb : Nat.beq q0 12 with
  | false => rw [hb] at h; exact h.elim
  | true =>
  rw [hb] at h
  obtain ⟨⟨hi, he, ht, hy, hk⟩, hQ⟩ := h
  have hb := beq_eq hb
  subst hb
  subst hi
  refine Vd.ok fun hok hal => ?_
  have ab := he.2.2 e he.1.1 he.1.2
  have n14 := he.2.1
  have k1 := hk (M 61 0 e) (by omega) (by omega)
  have k2 := hk (M 62 0 e) (by omega) (by omega)
  have m1 := Int.mul_le_mul ht.2 hy.2 (by omega) (by decide : (0 : Int) ≤ 95)
  have m0 := Int.mul_nonneg (by omega : 0 ≤ M 63 0 e) (by omega : 0 ≤ M 12 0 9)
  have z1 := w64_e (x := M 63 0 e) (by omega) (by omega)
  have z2 := w64_e (x := M 63 0 e * M 12 0 9) (by omega) (by omega)
  have z3 := w64_e (x := M 63 0 e * M 12 0 9 - M 68 0 (M 61 0 e)) (by omega) (by omega)
  have z4 := w64_e (x := M 63 0 e * M 12 0 9 - M 68 0 (M 61 0 e) - M 68 0 (M 62 0 e)) (by omega) (by omega)
  refine Vd_run (GGN_ok (l := l) (ω := ω)) 400 (cut := fun _ => none) (by decide) CutOK_none ?_
  conv => whnf
  repeat' first
    | (refine And.intro (fun h => ?_) (fun h => ?_) <;> (try simp (disch := decide) only [cmp3_lt, cmp3_ge, cmp3_gt, cmp3_le, cmp3_eq, ms_q, ms_f, mf_q, mf_f, mc_q, mc_f, and_self, and_true, true_and, and_false, false_and, or_true, true_or, or_false, false_or, if_true, if_false, not_true_eq_false, not_false_eq_true, eq_self, reduceIte, Int.reduceEq, Int.reduceLT, Int.reduceLE, Int.reduceNeg, Int.reduceAdd, Int.reduceSub, Int.reduceMul, Int.add_sub_cancel] at h) <;> (try simp (disch := omega) only [w32_e, w64_e, td_pos, tm_pos, Int.add_sub_cancel, z1, z2, z3, z4] at h) <;> first | exact absurd rfl h | exact absurd h (by decide) | (exfalso; omega) | (conv => whnf))
    | (refine And.intro (by first | omega | ((try simp (disch := decide) only [cmp3_lt, cmp3_ge, cmp3_gt, cmp3_le, cmp3_eq, ms_q, ms_f, mf_q, mf_f, mc_q, mc_f, and_self, and_true, true_and, and_false, false_and, or_true, true_or, or_false, false_or, if_true, if_false, not_true_eq_false, not_false_eq_true, eq_self, reduceIte, Int.reduceEq, Int.reduceLT, Int.reduceLE, Int.reduceNeg, Int.reduceAdd, Int.reduceSub, Int.reduceMul, Int.add_sub_cancel]); (try simp (disch := omega) only [w32_e, w64_e, td_pos, tm_pos, Int.add_sub_cancel, z1, z2, z3, z4]); first | assumption | omega) | ((try simp (disch := decide) only [cmp3_lt, cmp3_ge, cmp3_gt, cmp3_le, cmp3_eq, ms_q, ms_f, mf_q, mf_f, mc_q, mc_f, and_self, and_true, true_and, and_false, false_and, or_true, true_or, or_false, false_or, if_true, if_false, not_true_eq_false, not_false_eq_true, eq_self, reduceIte, Int.reduceEq, Int.reduceLT, Int.reduceLE, Int.reduceNeg, Int.reduceAdd, Int.reduceSub, Int.reduceMul, Int.add_sub_cancel]); (try simp (disch := omega) only [w32_e, w64_e, td_pos, tm_pos, Int.add_sub_cancel, z1, z2, z3, z4]); ((repeat' (first | assumption | omega | with_reducible rfl | apply And.intro)); done))) ?_; conv => whnf)
    | (intro v; intro hv; conv => whnf)
  all_goals ((try simp (disch := decide) only [cmp3_lt, cmp3_ge, cmp3_gt, cmp3_le, cmp3_eq, ms_q, ms_f, mf_q, mf_f, mc_q, mc_f, and_self, and_true, true_and, and_false, false_and, or_true, true_or, or_false, false_or, if_true, if_false, not_true_eq_false, not_false_eq_true, eq_self, reduceIte, Int.reduceEq, Int.reduceLT, Int.reduceLE, Int.reduceNeg, Int.reduceAdd, Int.reduceSub, Int.reduceMul, Int.add_sub_cancel] at *); (try simp (disch := omega) only [w32_e, w64_e, td_pos, tm_pos, Int.add_sub_cancel, z1, z2, z3, z4] at *))
  all_goals first
    | exact hQ
    | (rw [z2, z3, z4]; exact hQ)
    | (rw [z1, z2, z3, z4]; exact hQ)
