/-! ===== the turn sent, by the class (wip/gen/p22.py) ===== -/
def orB (x g : Int) : Int := (Int32.ofInt x ||| Int32.ofInt (Int32.ofInt 1 <<< (Int32.ofInt g &&& 31)).toInt).toInt
def oF (T : Int → Int) (o : Int) : Int → Int := itI (fun j x => orB x (T j)) o
def pF (T : Int → Int) (d : Int) (A : Int → Int) : Int → (Int → Int) := itI (fun j A => updI A (T j) (w32 (A (T j) + d))) A
theorem oF_s {T : Int → Int} {o n : Int} (h : 0 ≤ n) : oF T o (n + 1) = orB (oF T o n) (T n) := itI_succ h
theorem pF_s {T : Int → Int} {d n : Int} {A : Int → Int} (h : 0 ≤ n) : pF T d A (n + 1) = updI (pF T d A n) (T n) (w32 (pF T d A n (T n) + d)) := itI_succ h

def GLp : List (Nat × Nat × Spec1) := (5, 2, sp_mvC) :: GLo
abbrev GGp : Env1 := fun n => getG n GLp
theorem GGp_all {l : Launch} {ω : WP} : ∀ e ∈ GLp, ∀ as M Q, e.2.2 as M Q → Vd l ω e.2.1 e.1 as M Q := List.forall_mem_cons.mpr ⟨ok_mvC, GGo_all⟩
theorem GGp_ok {l : Launch} {ω : WP} : GOK l ω GGp := getG_ok GLp GGp_all

def sp_seC : Spec1 := fun as M Q => match as with
  | [.inr (.inr (.inl (q0, i0))), .inl p] => match Nat.beq q0 4 with
    | true => (i0 = 0 ∧ (0 ≤ M 5 0 0 ∧ M 5 0 0 ≤ 8) ∧ (1 ≤ M 4 0 7 ∧ M 4 0 7 ≤ 8) ∧ (0 ≤ p ∧ p ≤ 1000000) ∧ (∀ j, 0 ≤ j → j < M 4 0 7 → 0 ≤ M 33 0 j ∧ M 33 0 j < M 5 0 0) ∧ (0 ≤ M 5 0 6 ∧ M 5 0 6 ≤ 1000000000)) ∧ ∀ M9, ((∀ p, p ≠ 5 → p ≠ 34 → p ≠ 35 → M9 p = M p) ∧ (∀ x f, f ≠ 3 → f ≠ 6 → M9 5 x f = M 5 x f) ∧ M9 5 0 3 = oF (M 33 0) (M 5 0 3) (M 4 0 7) ∧ M9 5 0 6 = M 5 0 6 + M 4 0 7 * (p / M 4 0 7 / 10) ∧ (∀ g, M9 35 0 g = pF (M 33 0) (p / M 4 0 7 - p / M 4 0 7 / 10) (M 35 0) (M 4 0 7) g) ∧ (∀ j, 0 ≤ j → j < M 5 0 0 → M9 34 0 j = if j < (mvA (M 34 0) (M 33 0) (M 4 0 7) (M 5 0 0)).2.1 then (mvA (M 34 0) (M 33 0) (M 4 0 7) (M 5 0 0)).2.2 j else M 33 0 (j - (mvA (M 34 0) (M 33 0) (M 4 0 7) (M 5 0 0)).2.1))) → Q none M9
    | false => False
  | _ => False
theorem ok_seC {l : Launch} {ω : WP} : ∀ as M Q, sp_seC as M Q → Vd l ω 4 4 as M Q := by
  intro as M Q h
  unfold sp_seC at h
  split at h
  case h_2 => exact h.elim
  rename_i q0 i0 p
  cases hb : Nat.beq q0 4 with
  | false => rw [hb] at h; exact h.elim
  | true =>
  rw [hb] at h
  obtain ⟨⟨hi, h1, h2, h3, h4, h5⟩, hQ⟩ := h
  have hb := beq_eq hb
  subst hb
  subst hi
  refine Vd.ok fun hok hal => ?_
  have pt0 : 0 ≤ p / M 4 0 7 := Int.ediv_nonneg h3.1 (by omega)
  have pt1 : p / M 4 0 7 ≤ p := Int.ediv_le_self _ h3.1
  have e4 := h1
  have e33 := h1
  have e34 := h1
  have ou := h1
  have key : ∀ n9, CutOK l ω 4 4 (cutL [(20, [0, 1, 2, 3], fun kk vs M9 => ∃ i : Int, vs = [vR 4 0, vI p, vI (p / M 4 0 7), vI i] ∧ kk = (M 4 0 7 - i).toNat ∧ (0 ≤ i ∧ i ≤ M 4 0 7) ∧ (∀ p, p ≠ 5 → p ≠ 35 → M9 p = M p) ∧ (∀ x f, f ≠ 3 → f ≠ 6 → M9 5 x f = M 5 x f) ∧ M9 5 0 3 = oF (M 33 0) (M 5 0 3) i ∧ M9 5 0 6 = M 5 0 6 + i * (p / M 4 0 7 / 10) ∧ (∀ g, M9 35 0 g = pF (M 33 0) (p / M 4 0 7 - p / M 4 0 7 / 10) (M 35 0) i g))] n9) Q := by
    refine loops (GGp_ok (l := l) (ω := ω)) 300 _ ?_
    refine List.forall_mem_cons.mpr ⟨?_, fun _ h => absurd h List.not_mem_nil⟩
    · rintro n9 vs M9 ⟨i, rfl, rfl, i0, fr, f5, ou, pu, pd⟩
      have e4 : M9 4 = M 4 := fr 4 (by decide) (by decide)
      have e33 : M9 33 = M 33 := fr 33 (by decide) (by decide)
      have e34 : M9 34 = M 34 := fr 34 (by decide) (by decide)
      have e50 : M9 5 0 0 = M 5 0 0 := f5 0 0 (by decide) (by decide)
      have tg : i < M 4 0 7 → _ := fun z => h4 i i0.1 z
      have me : 0 ≤ i * (p / M 4 0 7 / 10) ∧ i * (p / M 4 0 7 / 10) ≤ 8 * 100000 := ⟨Int.mul_nonneg i0.1 (by omega), Int.mul_le_mul (by omega) (by omega) (by omega) (by omega)⟩
      have ma : (i + 1) * (p / M 4 0 7 / 10) = i * (p / M 4 0 7 / 10) + (p / M 4 0 7 / 10) := by rw [Int.add_mul, Int.one_mul]
      have xi := mvA_inI (O := M 34 0) (T := M 33 0) (t := M 4 0 7) (by omega) h1.1
      show wpH _ 300 _ 4 _ true 20 [vR 4 0, vI p, vI (p / M 4 0 7), vI i, vU] [] _ Q
      conv => whnf
      repeat' first
        | (refine And.intro (fun h => ?_) (fun h => ?_) <;> (try simp (disch := decide) only [cmp3_lt, cmp3_ge, cmp3_gt, cmp3_le, cmp3_eq, ms_q, ms_f, mf_q, mf_f, mc_q, mc_f, and_self, and_true, true_and, and_false, false_and, or_true, true_or, or_false, false_or, if_true, if_false, not_true_eq_false, not_false_eq_true, eq_self, reduceIte, Int.reduceEq, Int.reduceLT, Int.reduceLE, Int.reduceNeg, Int.reduceAdd, Int.reduceSub, Int.reduceMul, Int.add_sub_cancel] at h) <;> (try simp (disch := omega) only [w32_e, w64_e, td_pos, tm_pos, Int.add_sub_cancel, e4, e33, e34, ou] at h) <;> first | exact absurd rfl h | exact absurd h (by decide) | (exfalso; omega) | (conv => whnf))
        | (refine And.intro (by first | omega | ((try simp (disch := decide) only [cmp3_lt, cmp3_ge, cmp3_gt, cmp3_le, cmp3_eq, ms_q, ms_f, mf_q, mf_f, mc_q, mc_f, and_self, and_true, true_and, and_false, false_and, or_true, true_or, or_false, false_or, if_true, if_false, not_true_eq_false, not_false_eq_true, eq_self, reduceIte, Int.reduceEq, Int.reduceLT, Int.reduceLE, Int.reduceNeg, Int.reduceAdd, Int.reduceSub, Int.reduceMul, Int.add_sub_cancel]); (try simp (disch := omega) only [w32_e, w64_e, td_pos, tm_pos, Int.add_sub_cancel, e4, e33, e34, ou]); first | assumption | omega) | exact ⟨rfl, by rw [e50]; exact h1, by rw [e4]; omega⟩ | ((try simp (disch := decide) only [cmp3_lt, cmp3_ge, cmp3_gt, cmp3_le, cmp3_eq, ms_q, ms_f, mf_q, mf_f, mc_q, mc_f, and_self, and_true, true_and, and_false, false_and, or_true, true_or, or_false, false_or, if_true, if_false, not_true_eq_false, not_false_eq_true, eq_self, reduceIte, Int.reduceEq, Int.reduceLT, Int.reduceLE, Int.reduceNeg, Int.reduceAdd, Int.reduceSub, Int.reduceMul, Int.add_sub_cancel]); (try simp (disch := omega) only [w32_e, w64_e, td_pos, tm_pos, Int.add_sub_cancel, e4, e33, e34, ou]); ((repeat' (first | assumption | omega | with_reducible rfl | apply And.intro)); done))) ?_; conv => whnf)
      all_goals first
        | (have e9 : i = M 4 0 7 := by omega
           intro v hv
           obtain ⟨g1, g2⟩ := hv
           rw [e4, e33, e34, e50] at g2
           rw [e9] at ou pu pd
           have z5 : v 5 = M9 5 := g1 5 (by decide)
           have z35 : v 35 = M9 35 := g1 35 (by decide)
           refine hQ v ⟨fun p a b c => (g1 p b).trans (fr p a c), fun x f a b => by rw [z5]; exact f5 x f a b, by rw [z5]; exact ou, by rw [z5]; exact pu, fun g => by rw [z35]; exact pd g, g2⟩)
        | (have z1 : i < M 4 0 7 := by omega
           refine ⟨_, ?_, _, rfl, rfl, ?_, ?_, ?_, ?_, ?_, ?_⟩
           · ((try simp (disch := decide) only [cmp3_lt, cmp3_ge, cmp3_gt, cmp3_le, cmp3_eq, ms_q, ms_f, mf_q, mf_f, mc_q, mc_f, and_self, and_true, true_and, and_false, false_and, or_true, true_or, or_false, false_or, if_true, if_false, not_true_eq_false, not_false_eq_true, eq_self, reduceIte, Int.reduceEq, Int.reduceLT, Int.reduceLE, Int.reduceNeg, Int.reduceAdd, Int.reduceSub, Int.reduceMul, Int.add_sub_cancel]); (try simp (disch := omega) only [w32_e, w64_e, td_pos, tm_pos, Int.add_sub_cancel, e4, e33, e34, ou])) <;> omega
           · ((try simp (disch := decide) only [cmp3_lt, cmp3_ge, cmp3_gt, cmp3_le, cmp3_eq, ms_q, ms_f, mf_q, mf_f, mc_q, mc_f, and_self, and_true, true_and, and_false, false_and, or_true, true_or, or_false, false_or, if_true, if_false, not_true_eq_false, not_false_eq_true, eq_self, reduceIte, Int.reduceEq, Int.reduceLT, Int.reduceLE, Int.reduceNeg, Int.reduceAdd, Int.reduceSub, Int.reduceMul, Int.add_sub_cancel]); (try simp (disch := omega) only [w32_e, w64_e, td_pos, tm_pos, Int.add_sub_cancel, e4, e33, e34, ou])) <;> omega
           · intro p z0 z1; rw [ms_q z0, ms_q z1, ms_q z0]; exact fr p z0 z1
           · intro x f z0 z1
             simp (disch := decide) only [ms_q, ms_f, mf_q, mf_f, mc_q, mc_f, and_self, and_true, true_and, and_false, false_and, or_true, true_or, or_false, false_or, if_true, if_false, not_true_eq_false, not_false_eq_true, eq_self, reduceIte, Int.reduceEq, Int.reduceLT, Int.reduceLE, Int.reduceNeg, Int.reduceAdd, Int.reduceSub, Int.reduceMul, Int.add_sub_cancel]
             rw [if_neg (by omega), if_neg (by omega)]
             exact f5 x f z0 z1
           · ((try simp (disch := decide) only [cmp3_lt, cmp3_ge, cmp3_gt, cmp3_le, cmp3_eq, ms_q, ms_f, mf_q, mf_f, mc_q, mc_f, and_self, and_true, true_and, and_false, false_and, or_true, true_or, or_false, false_or, if_true, if_false, not_true_eq_false, not_false_eq_true, eq_self, reduceIte, Int.reduceEq, Int.reduceLT, Int.reduceLE, Int.reduceNeg, Int.reduceAdd, Int.reduceSub, Int.reduceMul, Int.add_sub_cancel]); (try simp (disch := omega) only [w32_e, w64_e, td_pos, tm_pos, Int.add_sub_cancel, e4, e33, e34, ou]))
             rw [oF_s i0.1]
             rfl
           · ((try simp (disch := decide) only [cmp3_lt, cmp3_ge, cmp3_gt, cmp3_le, cmp3_eq, ms_q, ms_f, mf_q, mf_f, mc_q, mc_f, and_self, and_true, true_and, and_false, false_and, or_true, true_or, or_false, false_or, if_true, if_false, not_true_eq_false, not_false_eq_true, eq_self, reduceIte, Int.reduceEq, Int.reduceLT, Int.reduceLE, Int.reduceNeg, Int.reduceAdd, Int.reduceSub, Int.reduceMul, Int.add_sub_cancel]); (try simp (disch := omega) only [w32_e, w64_e, td_pos, tm_pos, Int.add_sub_cancel, e4, e33, e34, ou]))
             rw [ma]
             first | omega | (rw [w32_e (by omega) (by omega)]; omega)
           · intro g
             ((try simp (disch := decide) only [cmp3_lt, cmp3_ge, cmp3_gt, cmp3_le, cmp3_eq, ms_q, ms_f, mf_q, mf_f, mc_q, mc_f, and_self, and_true, true_and, and_false, false_and, or_true, true_or, or_false, false_or, if_true, if_false, not_true_eq_false, not_false_eq_true, eq_self, reduceIte, Int.reduceEq, Int.reduceLT, Int.reduceLE, Int.reduceNeg, Int.reduceAdd, Int.reduceSub, Int.reduceMul, Int.add_sub_cancel]); (try simp (disch := omega) only [w32_e, w64_e, td_pos, tm_pos, Int.add_sub_cancel, e4, e33, e34, ou]))
             rw [pF_s i0.1]
             unfold updI
             by_cases e : g = M 33 0 i
             · simp only [if_pos e, e, ← pd, and_self, and_true, true_and, and_false, false_and, or_true, true_or, or_false, false_or, if_true, if_false, not_true_eq_false, not_false_eq_true, eq_self, reduceIte, Int.reduceEq, Int.reduceLT, Int.reduceLE, Int.reduceNeg, Int.reduceAdd, Int.reduceSub, Int.reduceMul, Int.add_sub_cancel]
             · simp only [if_neg e]
               exact pd g)
  refine Vd_run (GGp_ok (l := l) (ω := ω)) 300 (hC := key 1000) (by decide) ?_
  conv => whnf
  repeat' first
    | (refine And.intro (fun h => ?_) (fun h => ?_) <;> (try simp (disch := decide) only [cmp3_lt, cmp3_ge, cmp3_gt, cmp3_le, cmp3_eq, ms_q, ms_f, mf_q, mf_f, mc_q, mc_f, and_self, and_true, true_and, and_false, false_and, or_true, true_or, or_false, false_or, if_true, if_false, not_true_eq_false, not_false_eq_true, eq_self, reduceIte, Int.reduceEq, Int.reduceLT, Int.reduceLE, Int.reduceNeg, Int.reduceAdd, Int.reduceSub, Int.reduceMul, Int.add_sub_cancel] at h) <;> (try simp (disch := omega) only [w32_e, w64_e, td_pos, tm_pos, Int.add_sub_cancel, e4, e33, e34, ou] at h) <;> first | exact absurd rfl h | exact absurd h (by decide) | (exfalso; omega) | (conv => whnf))
    | (refine And.intro (by first | omega | ((try simp (disch := decide) only [cmp3_lt, cmp3_ge, cmp3_gt, cmp3_le, cmp3_eq, ms_q, ms_f, mf_q, mf_f, mc_q, mc_f, and_self, and_true, true_and, and_false, false_and, or_true, true_or, or_false, false_or, if_true, if_false, not_true_eq_false, not_false_eq_true, eq_self, reduceIte, Int.reduceEq, Int.reduceLT, Int.reduceLE, Int.reduceNeg, Int.reduceAdd, Int.reduceSub, Int.reduceMul, Int.add_sub_cancel]); (try simp (disch := omega) only [w32_e, w64_e, td_pos, tm_pos, Int.add_sub_cancel, e4, e33, e34, ou]); first | assumption | omega) | exact ⟨rfl, by rw [e50]; exact h1, by rw [e4]; omega⟩ | ((try simp (disch := decide) only [cmp3_lt, cmp3_ge, cmp3_gt, cmp3_le, cmp3_eq, ms_q, ms_f, mf_q, mf_f, mc_q, mc_f, and_self, and_true, true_and, and_false, false_and, or_true, true_or, or_false, false_or, if_true, if_false, not_true_eq_false, not_false_eq_true, eq_self, reduceIte, Int.reduceEq, Int.reduceLT, Int.reduceLE, Int.reduceNeg, Int.reduceAdd, Int.reduceSub, Int.reduceMul, Int.add_sub_cancel]); (try simp (disch := omega) only [w32_e, w64_e, td_pos, tm_pos, Int.add_sub_cancel, e4, e33, e34, ou]); ((repeat' (first | assumption | omega | with_reducible rfl | apply And.intro)); done))) ?_; conv => whnf)
  all_goals ((try simp (disch := decide) only [cmp3_lt, cmp3_ge, cmp3_gt, cmp3_le, cmp3_eq, ms_q, ms_f, mf_q, mf_f, mc_q, mc_f, and_self, and_true, true_and, and_false, false_and, or_true, true_or, or_false, false_or, if_true, if_false, not_true_eq_false, not_false_eq_true, eq_self, reduceIte, Int.reduceEq, Int.reduceLT, Int.reduceLE, Int.reduceNeg, Int.reduceAdd, Int.reduceSub, Int.reduceMul, Int.add_sub_cancel]); (try simp (disch := omega) only [w32_e, w64_e, td_pos, tm_pos, Int.add_sub_cancel]))
  all_goals refine ⟨_, ?_, _, rfl, rfl, ?_, ?_, ?_, ?_, ?_, ?_⟩ <;> first | omega | (intros; trivial) | rfl | (rw [Int.zero_mul, Int.add_zero]) | (intros; rfl)
