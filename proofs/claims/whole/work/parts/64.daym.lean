/-! ===== the day, by the model (wip/gen/p29.py) ===== -/
def GLw : List (Nat × Nat × Spec1) := (33, 8, sp_sdC) :: GLv
abbrev GGw : Env1 := fun n => getG n GLw
theorem GGw_all {l : Launch} {ω : WP} : ∀ e ∈ GLw, ∀ as M Q, e.2.2 as M Q → Vd l ω e.2.1 e.1 as M Q := List.forall_mem_cons.mpr ⟨ok_sdC, GGv_all⟩
theorem GGw_ok {l : Launch} {ω : WP} : GOK l ω GGw := getG_ok GLw GGw_all

theorem dm_facts {M : Mem} (H : DayH M) {o : Int} (o0 : 0 ≤ o) (o1 : o < M 10 0 3) : (M 105 0 o = M 11 o 0 ∧ M 106 0 o = M 11 o 1 ∧ M 107 0 o = M 11 o 2 ∧ M 108 0 o = M 11 o 3) ∧ (0 ≤ M 11 o 0 ∧ M 11 o 0 < 6 ∧ M 11 o 0 < M 1 0 9) ∧ (0 ≤ M 11 o 1 ∧ M 11 o 1 ≤ 9) ∧ (0 ≤ M 11 o 2 ∧ M 11 o 2 ≤ 95) ∧ (1 ≤ M 11 o 3 ∧ M 11 o 3 ≤ 9) ∧ (1 ≤ M 21 0 (M 11 o 0) ∧ M 21 0 (M 11 o 0) ≤ 6) ∧ ∀ i, 0 ≤ i → i < 6 → M 77 0 (6 * M 11 o 0 + i) = M 23 (M 11 o 0) i := by
  obtain ⟨hN, hS, hR, hK, hA, hO, hd⟩ := H
  obtain ⟨p0, p1, p2, p3, p4⟩ := hO.2.2 o o0 o1
  have q1 := hR.2.2.2.1
  have s1 := (hR.2.2.2.2 _ p1.1 p1.2).1
  exact ⟨p0, ⟨p1.1, by omega, p1.2⟩, p2, p3, p4, s1, fun i i0 i1 => hR.2.2.1 (M 11 o 0) i p1.1 (by omega) i0 i1⟩

theorem brT_01 {X : DX} {T : Mem} {k : Int} : ∀ n : Nat, brT X T k (n : Int) = 0 ∨ brT X T k (n : Int) = 1
  | 0 => Or.inl rfl
  | n + 1 => by
    have e : ((n + 1 : Nat) : Int) = (n : Int) + 1 := by omega
    rw [e, brT_s (by omega)]
    split
    · exact Or.inr rfl
    · exact Or.inl rfl

def sp_cmM : Spec1 := fun as M Q => match as with
  | [.inr (.inr (.inl (q0, i0))), .inl o, .inl p, .inl q] => match Nat.beq q0 13 with
    | true => (i0 = 0 ∧ (0 ≤ o ∧ o < 8) ∧ (0 ≤ p ∧ p < 12)) ∧ Q none (cmT o p q M)
    | false => False
  | _ => False
theorem ok_cmM {l : Launch} {ω : WP} : ∀ as M Q, sp_cmM as M Q → Vd l ω 1 237 as M Q := by
  intro as M Q h
  unfold sp_cmM at h
  split at h
  case h_2 => exact h.elim
  rename_i q0 i0 o p q
  cases hb : Nat.beq q0 13 with
  | false => rw [hb] at h; exact h.elim
  | true =>
  rw [hb] at h
  obtain ⟨⟨hi, h1, h2⟩, hQ⟩ := h
  have hb := beq_eq hb
  subst hb
  subst hi
  refine Vd.ok fun hok hal => ?_
  refine Vd_run (GGw_ok (l := l) (ω := ω)) 400 (cut := fun _ => none) (by decide) CutOK_none ?_
  conv => whnf
  repeat' first
    | (refine And.intro (fun h => ?_) (fun h => ?_) <;> (try simp (disch := decide) only [cmp3_lt, cmp3_ge, cmp3_gt, cmp3_le, cmp3_eq, ms_q, ms_f, mf_q, mf_f, mc_q, mc_f, and_self, and_true, true_and, and_false, false_and, or_true, true_or, or_false, false_or, if_true, if_false, not_true_eq_false, not_false_eq_true, eq_self, reduceIte, Int.reduceEq, Int.reduceLT, Int.reduceLE, Int.reduceNeg, Int.reduceAdd, Int.reduceSub, Int.reduceMul, Int.add_sub_cancel] at h) <;> (try simp (disch := omega) only [w32_e, w64_e, td_pos, tm_pos, Int.add_sub_cancel] at h) <;> first | exact absurd rfl h | exact absurd h (by decide) | (exfalso; omega) | (conv => whnf))
    | (refine And.intro (by first | omega | ((try simp (disch := decide) only [cmp3_lt, cmp3_ge, cmp3_gt, cmp3_le, cmp3_eq, ms_q, ms_f, mf_q, mf_f, mc_q, mc_f, and_self, and_true, true_and, and_false, false_and, or_true, true_or, or_false, false_or, if_true, if_false, not_true_eq_false, not_false_eq_true, eq_self, reduceIte, Int.reduceEq, Int.reduceLT, Int.reduceLE, Int.reduceNeg, Int.reduceAdd, Int.reduceSub, Int.reduceMul, Int.add_sub_cancel]); (try simp (disch := omega) only [w32_e, w64_e, td_pos, tm_pos, Int.add_sub_cancel]); first | assumption | omega) | ((try simp (disch := decide) only [cmp3_lt, cmp3_ge, cmp3_gt, cmp3_le, cmp3_eq, ms_q, ms_f, mf_q, mf_f, mc_q, mc_f, and_self, and_true, true_and, and_false, false_and, or_true, true_or, or_false, false_or, if_true, if_false, not_true_eq_false, not_false_eq_true, eq_self, reduceIte, Int.reduceEq, Int.reduceLT, Int.reduceLE, Int.reduceNeg, Int.reduceAdd, Int.reduceSub, Int.reduceMul, Int.add_sub_cancel]); (try simp (disch := omega) only [w32_e, w64_e, td_pos, tm_pos, Int.add_sub_cancel]); ((repeat' (first | assumption | omega | with_reducible rfl | apply And.intro)); done))) ?_; conv => whnf)
    | (intro v; intro hv; conv => whnf)
  all_goals ((try simp (disch := decide) only [cmp3_lt, cmp3_ge, cmp3_gt, cmp3_le, cmp3_eq, ms_q, ms_f, mf_q, mf_f, mc_q, mc_f, and_self, and_true, true_and, and_false, false_and, or_true, true_or, or_false, false_or, if_true, if_false, not_true_eq_false, not_false_eq_true, eq_self, reduceIte, Int.reduceEq, Int.reduceLT, Int.reduceLE, Int.reduceNeg, Int.reduceAdd, Int.reduceSub, Int.reduceMul, Int.add_sub_cancel] at *); (try simp (disch := omega) only [w32_e, w64_e, td_pos, tm_pos, Int.add_sub_cancel] at *))
  all_goals unfold cmT at hQ
  all_goals exact hQ

def sp_doM : Spec1 := fun as M Q => match as with
  | [.inr (.inr (.inl (q0, i0))), .inl o, .inl q] => match Nat.beq q0 13 with
    | true => (i0 = 0 ∧ DayH M ∧ (0 ≤ o ∧ o < M 10 0 3) ∧ (0 ≤ M 113 0 o ∧ M 113 0 o < 12)) ∧ Q none (doT (dx M) o q M)
    | false => False
  | _ => False
theorem ok_doM {l : Launch} {ω : WP} : ∀ as M Q, sp_doM as M Q → Vd l ω 1 238 as M Q := by
  intro as M Q h
  unfold sp_doM at h
  split at h
  case h_2 => exact h.elim
  rename_i q0 i0 o q
  cases hb : Nat.beq q0 13 with
  | false => rw [hb] at h; exact h.elim
  | true =>
  rw [hb] at h
  obtain ⟨⟨hi, hH, h1, h2⟩, hQ⟩ := h
  have hb := beq_eq hb
  subst hb
  subst hi
  refine Vd.ok fun hok hal => ?_
  have n8 : 0 ≤ M 10 0 3 ∧ M 10 0 3 ≤ 8 := hH.x.1
  have e108 : M 108 0 o = M 11 o 3 := (dm_facts hH h1.1 h1.2).1.2.2.2
  have e69 : M 69 0 = M 14 0 := hH.1.2.1
  have p9 := (dm_facts hH h1.1 h1.2).2.2.2.2.1
  refine Vd_run (GGw_ok (l := l) (ω := ω)) 400 (cut := fun _ => none) (by decide) CutOK_none ?_
  conv => whnf
  repeat' first
    | (refine And.intro (fun h => ?_) (fun h => ?_) <;> (try simp (disch := decide) only [cmp3_lt, cmp3_ge, cmp3_gt, cmp3_le, cmp3_eq, ms_q, ms_f, mf_q, mf_f, mc_q, mc_f, and_self, and_true, true_and, and_false, false_and, or_true, true_or, or_false, false_or, if_true, if_false, not_true_eq_false, not_false_eq_true, eq_self, reduceIte, Int.reduceEq, Int.reduceLT, Int.reduceLE, Int.reduceNeg, Int.reduceAdd, Int.reduceSub, Int.reduceMul, Int.add_sub_cancel] at h) <;> (try simp (disch := omega) only [w32_e, w64_e, td_pos, tm_pos, Int.add_sub_cancel, e108, e69] at h) <;> first | exact absurd rfl h | exact absurd h (by decide) | (exfalso; omega) | (conv => whnf))
    | (refine And.intro (by first | omega | ((try simp (disch := decide) only [cmp3_lt, cmp3_ge, cmp3_gt, cmp3_le, cmp3_eq, ms_q, ms_f, mf_q, mf_f, mc_q, mc_f, and_self, and_true, true_and, and_false, false_and, or_true, true_or, or_false, false_or, if_true, if_false, not_true_eq_false, not_false_eq_true, eq_self, reduceIte, Int.reduceEq, Int.reduceLT, Int.reduceLE, Int.reduceNeg, Int.reduceAdd, Int.reduceSub, Int.reduceMul, Int.add_sub_cancel]); (try simp (disch := omega) only [w32_e, w64_e, td_pos, tm_pos, Int.add_sub_cancel, e108, e69]); first | assumption | omega) | ((try simp (disch := decide) only [cmp3_lt, cmp3_ge, cmp3_gt, cmp3_le, cmp3_eq, ms_q, ms_f, mf_q, mf_f, mc_q, mc_f, and_self, and_true, true_and, and_false, false_and, or_true, true_or, or_false, false_or, if_true, if_false, not_true_eq_false, not_false_eq_true, eq_self, reduceIte, Int.reduceEq, Int.reduceLT, Int.reduceLE, Int.reduceNeg, Int.reduceAdd, Int.reduceSub, Int.reduceMul, Int.add_sub_cancel]); (try simp (disch := omega) only [w32_e, w64_e, td_pos, tm_pos, Int.add_sub_cancel, e108, e69]); ((repeat' (first | assumption | omega | with_reducible rfl | apply And.intro)); done))) ?_; conv => whnf)
    | (intro v; intro hv; conv => whnf)
  all_goals ((try simp (disch := decide) only [cmp3_lt, cmp3_ge, cmp3_gt, cmp3_le, cmp3_eq, ms_q, ms_f, mf_q, mf_f, mc_q, mc_f, and_self, and_true, true_and, and_false, false_and, or_true, true_or, or_false, false_or, if_true, if_false, not_true_eq_false, not_false_eq_true, eq_self, reduceIte, Int.reduceEq, Int.reduceLT, Int.reduceLE, Int.reduceNeg, Int.reduceAdd, Int.reduceSub, Int.reduceMul, Int.add_sub_cancel] at *); (try simp (disch := omega) only [w32_e, w64_e, td_pos, tm_pos, Int.add_sub_cancel, e108, e69] at *))
  all_goals first
    | (have eb : bdT (dx M) o M = w32 (M 14 0 (M 113 0 o) - M 119 0 (M 113 0 o)) := if_neg (show ¬ (dx M).pe o < w32 ((dx M).be (M 113 0 o) - M 119 0 (M 113 0 o)) from (by omega : ¬ M 11 o 3 < w32 (M 14 0 (M 113 0 o) - M 119 0 (M 113 0 o))))
       unfold doT at hQ
       rw [eb] at hQ
       exact hQ)
    | (have eb : bdT (dx M) o M = M 11 o 3 := if_pos (show (dx M).pe o < w32 ((dx M).be (M 113 0 o) - M 119 0 (M 113 0 o)) from (by omega : M 11 o 3 < w32 (M 14 0 (M 113 0 o) - M 119 0 (M 113 0 o))))
       have e0 : w32 (M 11 o 3 - M 11 o 3) = M 11 o 3 - M 11 o 3 := w32_e (by omega) (by omega)
       unfold doT at hQ
       rw [eb, show (dx M).pe o = M 11 o 3 from rfl, e0] at hQ
       exact hQ)

def sp_brM : Spec1 := fun as M Q => match as with
  | [.inr (.inr (.inl (q0, i0))), .inl k] => match Nat.beq q0 13 with
    | true => (i0 = 0 ∧ DayH M ∧ (0 ≤ k ∧ k < 20) ∧ (∀ o, 0 ≤ o → o < M 10 0 3 → ¬ M 109 0 o = 0 → ¬ M 115 0 o = -4 → 0 ≤ M 112 0 o ∧ M 112 0 o < 6)) ∧ Q (some (vI (if ¬ M 20 0 k = 0 ∧ brT (dx M) M k (M 10 0 3) = 1 then 1 else 0))) M
    | false => False
  | _ => False
theorem ok_brM {l : Launch} {ω : WP} : ∀ as M Q, sp_brM as M Q → Vd l ω 1 239 as M Q := by
  intro as M Q h
  unfold sp_brM at h
  split at h
  case h_2 => exact h.elim
  rename_i q0 i0 k
  cases hb : Nat.beq q0 13 with
  | false => rw [hb] at h; exact h.elim
  | true =>
  rw [hb] at h
  obtain ⟨⟨hi, hH, hk, hb6⟩, hQ⟩ := h
  have hb := beq_eq hb
  subst hb
  subst hi
  refine Vd.ok fun hok hal => ?_
  have n8 : 0 ≤ M 10 0 3 ∧ M 10 0 3 ≤ 8 := hH.x.1
  have e54 : M 13 0 54 = M 10 0 3 := hH.2.2.2.2.2.1.1
  have e75 : M 75 0 = M 20 0 := hH.2.1.2.1.2.2.2.2.2
  have e105 := n8
  have e77 := n8
  have key : ∀ n9, CutOK l ω 1 239 (cutL [(4, [0, 1, 2, 3], fun kk vs M9 => ∃ b i : Int, vs = [vR 13 0, vI k, vI b, vI i] ∧ M = M9 ∧ kk = (M 10 0 3 - i).toNat ∧ (0 ≤ i ∧ i ≤ M 10 0 3) ∧ b = brT (dx M) M k i)] n9) Q := by
    refine loops (GGw_ok (l := l) (ω := ω)) 300 _ ?_
    refine List.forall_mem_cons.mpr ⟨?_, fun _ h => absurd h List.not_mem_nil⟩
    · rintro n9 vs M9 ⟨b, i, rfl, rfl, rfl, i0, hbr⟩
      have df : i < M 10 0 3 → _ := fun z => dm_facts hH i0.1 z
      have e105 : i < M 10 0 3 → M 105 0 i = M 11 i 0 := fun z => (df z).1.1
      have r6 : i < M 10 0 3 → 0 ≤ M 11 i 0 ∧ M 11 i 0 < 6 := fun z => ⟨(df z).2.1.1, (df z).2.1.2.1⟩
      have b6 : i < M 10 0 3 → _ := fun z => hb6 i i0.1 z
      have e77 : i < M 10 0 3 → (0 ≤ M 112 0 i ∧ M 112 0 i < 6) → M 77 0 (6 * M 11 i 0 + M 112 0 i) = M 23 (M 11 i 0) (M 112 0 i) := fun z w => (df z).2.2.2.2.2.2 _ w.1 w.2
      have ei : w32 (i + 1) = i + 1 := w32_e (by omega) (by omega)
      show wpH _ 300 _ 239 _ true 4 [vR 13 0, vI k, vI b, vI i] [] _ Q
      conv => whnf
      repeat' first
        | (refine And.intro (fun h => ?_) (fun h => ?_) <;> (try simp (disch := decide) only [cmp3_lt, cmp3_ge, cmp3_gt, cmp3_le, cmp3_eq, ms_q, ms_f, mf_q, mf_f, mc_q, mc_f, and_self, and_true, true_and, and_false, false_and, or_true, true_or, or_false, false_or, if_true, if_false, not_true_eq_false, not_false_eq_true, eq_self, reduceIte, Int.reduceEq, Int.reduceLT, Int.reduceLE, Int.reduceNeg, Int.reduceAdd, Int.reduceSub, Int.reduceMul, Int.add_sub_cancel] at h) <;> (try simp (disch := omega) only [w32_e, w64_e, td_pos, tm_pos, Int.add_sub_cancel, e54, e75, e105, e77] at h) <;> first | exact absurd rfl h | exact absurd h (by decide) | (exfalso; omega) | (conv => whnf))
        | (refine And.intro (by first | omega | ((try simp (disch := decide) only [cmp3_lt, cmp3_ge, cmp3_gt, cmp3_le, cmp3_eq, ms_q, ms_f, mf_q, mf_f, mc_q, mc_f, and_self, and_true, true_and, and_false, false_and, or_true, true_or, or_false, false_or, if_true, if_false, not_true_eq_false, not_false_eq_true, eq_self, reduceIte, Int.reduceEq, Int.reduceLT, Int.reduceLE, Int.reduceNeg, Int.reduceAdd, Int.reduceSub, Int.reduceMul, Int.add_sub_cancel]); (try simp (disch := omega) only [w32_e, w64_e, td_pos, tm_pos, Int.add_sub_cancel, e54, e75, e105, e77]); first | assumption | omega) | ((try simp (disch := decide) only [cmp3_lt, cmp3_ge, cmp3_gt, cmp3_le, cmp3_eq, ms_q, ms_f, mf_q, mf_f, mc_q, mc_f, and_self, and_true, true_and, and_false, false_and, or_true, true_or, or_false, false_or, if_true, if_false, not_true_eq_false, not_false_eq_true, eq_self, reduceIte, Int.reduceEq, Int.reduceLT, Int.reduceLE, Int.reduceNeg, Int.reduceAdd, Int.reduceSub, Int.reduceMul, Int.add_sub_cancel]); (try simp (disch := omega) only [w32_e, w64_e, td_pos, tm_pos, Int.add_sub_cancel, e54, e75, e105, e77]); ((repeat' (first | assumption | omega | with_reducible rfl | apply And.intro)); done))) ?_; conv => whnf)
        | (intro v; intro hv; conv => whnf)
      all_goals first
        | (refine Eq.mp (congrArg (fun z => Q (some (vI z)) M) ?_) hQ
           have e9 : i = M 10 0 3 := by omega
           rw [← e9, ← hbr]
           first
             | (rw [if_neg (fun z => absurd z.1 (fun y => y (by assumption)))]; done)
             | (rw [if_neg (fun z => by have := z.2; omega)]; done)
             | (have := brT_01 (X := dx M) (T := M) (k := k) i.toNat
                rw [Int.toNat_of_nonneg i0.1, ← hbr] at this
                rw [if_pos ⟨by assumption, by omega⟩]))
        | (refine ⟨_, ?_, _, i + 1, by rw [ei], rfl, rfl, ⟨by omega, by omega⟩, ?_⟩
           · omega
           · rw [brT_s i0.1, ← hbr]
             first
               | (rw [if_pos (Or.inl (by omega))]; done)
               | (rw [if_pos (Or.inr ⟨by omega, by omega, h⟩)]; done)
               | (rw [if_neg (fun z => z.elim (fun a => by omega) (fun ⟨a, b, c⟩ => by first | omega | exact h c))]; done))
  refine Vd_run (GGw_ok (l := l) (ω := ω)) 300 (hC := key 100) (by decide) ?_
  conv => whnf
  repeat' first
    | (refine And.intro (fun h => ?_) (fun h => ?_) <;> (try simp (disch := decide) only [cmp3_lt, cmp3_ge, cmp3_gt, cmp3_le, cmp3_eq, ms_q, ms_f, mf_q, mf_f, mc_q, mc_f, and_self, and_true, true_and, and_false, false_and, or_true, true_or, or_false, false_or, if_true, if_false, not_true_eq_false, not_false_eq_true, eq_self, reduceIte, Int.reduceEq, Int.reduceLT, Int.reduceLE, Int.reduceNeg, Int.reduceAdd, Int.reduceSub, Int.reduceMul, Int.add_sub_cancel] at h) <;> (try simp (disch := omega) only [w32_e, w64_e, td_pos, tm_pos, Int.add_sub_cancel, e54, e75, e105, e77] at h) <;> first | exact absurd rfl h | exact absurd h (by decide) | (exfalso; omega) | (conv => whnf))
    | (refine And.intro (by first | omega | ((try simp (disch := decide) only [cmp3_lt, cmp3_ge, cmp3_gt, cmp3_le, cmp3_eq, ms_q, ms_f, mf_q, mf_f, mc_q, mc_f, and_self, and_true, true_and, and_false, false_and, or_true, true_or, or_false, false_or, if_true, if_false, not_true_eq_false, not_false_eq_true, eq_self, reduceIte, Int.reduceEq, Int.reduceLT, Int.reduceLE, Int.reduceNeg, Int.reduceAdd, Int.reduceSub, Int.reduceMul, Int.add_sub_cancel]); (try simp (disch := omega) only [w32_e, w64_e, td_pos, tm_pos, Int.add_sub_cancel, e54, e75, e105, e77]); first | assumption | omega) | ((try simp (disch := decide) only [cmp3_lt, cmp3_ge, cmp3_gt, cmp3_le, cmp3_eq, ms_q, ms_f, mf_q, mf_f, mc_q, mc_f, and_self, and_true, true_and, and_false, false_and, or_true, true_or, or_false, false_or, if_true, if_false, not_true_eq_false, not_false_eq_true, eq_self, reduceIte, Int.reduceEq, Int.reduceLT, Int.reduceLE, Int.reduceNeg, Int.reduceAdd, Int.reduceSub, Int.reduceMul, Int.add_sub_cancel]); (try simp (disch := omega) only [w32_e, w64_e, td_pos, tm_pos, Int.add_sub_cancel, e54, e75, e105, e77]); ((repeat' (first | assumption | omega | with_reducible rfl | apply And.intro)); done))) ?_; conv => whnf)
    | (intro v; intro hv; conv => whnf)
  all_goals
    (refine ⟨_, ?_, 0, 0, rfl, rfl, rfl, ⟨Int.le_refl _, n8.1⟩, rfl⟩
     omega)

def cbN (K W : Int → Int) : Int → Int := itI (fun z b => if ¬ b = 0 ∨ (K z = 3 ∧ W z = 1) then 1 else 0) 0
theorem cbN_s {K W : Int → Int} {n : Int} (h : 0 ≤ n) : cbN K W (n + 1) = if ¬ cbN K W n = 0 ∨ (K n = 3 ∧ W n = 1) then 1 else 0 := itI_succ h
theorem cbN_sp {K W : Int → Int} : ∀ n : Nat, (cbN K W (n : Int) = 0 ∧ ∀ z, 0 ≤ z → z < (n : Int) → ¬ (K z = 3 ∧ W z = 1)) ∨ (cbN K W (n : Int) = 1 ∧ ∃ z, 0 ≤ z ∧ z < (n : Int) ∧ K z = 3 ∧ W z = 1)
  | 0 => Or.inl ⟨rfl, fun z a b => by omega⟩
  | n + 1 => by
    have e : ((n + 1 : Nat) : Int) = (n : Int) + 1 := by omega
    rw [e, cbN_s (by omega)]
    rcases cbN_sp (K := K) (W := W) n with ⟨a, b⟩ | ⟨a, z, b, c, d⟩
    · rw [a]
      by_cases h : K (n : Int) = 3 ∧ W (n : Int) = 1
      · rw [if_pos (Or.inr h)]
        exact Or.inr ⟨rfl, (n : Int), by omega, by omega, h⟩
      · rw [if_neg (fun y => y.elim (fun x => x rfl) h)]
        refine Or.inl ⟨rfl, fun z z0 z1 => ?_⟩
        by_cases e2 : z = (n : Int)
        · rw [e2]
          exact h
        · exact b z z0 (by omega)
    · rw [a, if_pos (Or.inl (by decide))]
      exact Or.inr ⟨rfl, z, b, by omega, d⟩
theorem fhN_sp {K W : Int → Int} {κ n : Int} : ∀ (m : Nat) (z : Int), 0 ≤ z → (n - z).toNat = m → (fhN K W κ (n - z).toNat z = -4 ↔ ∀ y, z ≤ y → y < n → ¬ (K y = κ ∧ W y = 1))
  | 0, z, z0, hm => by
    rw [fhN_c (by omega)]
    exact ⟨fun _ y a b => by omega, fun _ => rfl⟩
  | m + 1, z, z0, hm => by
    by_cases h : K z = κ ∧ W z = 1
    · rw [fhN_a (by omega) h]
      exact ⟨fun e => by omega, fun e => absurd h (e z (Int.le_refl _) (by omega))⟩
    · rw [fhN_b (by omega) h, fhN_sp m (z + 1) (by omega) (by omega)]
      refine ⟨fun e y a b => ?_, fun e y a b => e y (by omega) b⟩
      by_cases c : y = z
      · rw [c]
        exact h
      · exact e y (by omega) b
theorem cb_fh {K W : Int → Int} {n : Int} (hn : 0 ≤ n) : cbN K W n = if fhN K W 3 (n - 0).toNat 0 = -4 then 0 else 1 := by
  have a := cbN_sp (K := K) (W := W) n.toNat
  rw [Int.toNat_of_nonneg hn] at a
  have b := fhN_sp (K := K) (W := W) (κ := 3) (n := n) (n - 0).toNat 0 (Int.le_refl _) rfl
  rcases a with ⟨a, c⟩ | ⟨a, z, c, d, e⟩
  · rw [a, if_pos (b.mpr c)]
  · rw [a, if_neg (fun h => b.mp h z c d e)]
theorem doT_c {X : DX} {o q : Int} {T T' : Mem} (h : ∀ p, p ≠ 98 → p ≠ 99 → T' p = T p) : ∀ p, p ≠ 98 → p ≠ 99 → doT X o q T' p = doT X o q T p := by
  intro p a b
  have eb : bdT X o T' = bdT X o T := by
    unfold bdT
    rw [h 113 (by decide) (by decide), h 119 (by decide) (by decide)]
  unfold doT
  rw [eb, h 113 (by decide) (by decide), h 119 (by decide) (by decide), h 120 (by decide) (by decide)]
  funext x y
  unfold mset
  rw [h p a b]
theorem brT_c {X : DX} {k : Int} {T T' : Mem} (h : ∀ p, p ≠ 98 → p ≠ 99 → T' p = T p) : brT X T' k = brT X T k := by
  unfold brT
  rw [h 109 (by decide) (by decide), h 115 (by decide) (by decide), h 112 (by decide) (by decide)]
def FT (M v : Mem) : Prop := ∀ p : Nat, p ≠ 98 → p ≠ 99 → (p < 109 ∨ 122 < p) → v p = M p
theorem FT.refl {M : Mem} : FT M M := fun _ _ _ _ => rfl
theorem FT.trans {M v w : Mem} (h : FT M v) (h2 : FT v w) : FT M w := fun p a b c => (h2 p a b c).trans (h p a b c)
theorem FT.scr {M v : Mem} (h : ∀ p, p ≠ 98 → p ≠ 99 → v p = M p) : FT M v := fun p a b _ => h p a b
theorem FT.set {M v : Mem} {p : Nat} {i j x : Int} (h : FT M v) (hp : 109 ≤ p ∧ p ≤ 122) : FT M (mset v p i j x) := fun q a b c => by
  rw [ms_q (by omega)]
  exact h q a b c
theorem dx_ft {M v : Mem} (fr : FT M v) : dx v = dx M := by
  unfold FT at fr
  have e : wkL v = wkL M := wkL_mem (fr 45 (by decide) (by decide) (by decide)) (fr 47 (by decide) (by decide) (by decide))
  have w : wv v = wv M := by
    funext a b
    unfold wv
    simp (disch := decide) only [fr]
  have t : tk v = tk M := by
    funext a b c
    unfold tk
    rw [w]
    simp (disch := decide) only [fr]
  have u : vrs v = vrs M := by
    funext r q p j
    unfold vrs ghd shd sln
    rw [w]
    simp (disch := decide) only [fr]
  have b : bkA v = bkA M := by
    funext r q p
    unfold bkA
    rw [e, u]
    simp (disch := decide) only [fr]
  unfold dx
  rw [t, b]
  simp (disch := decide) only [fr]
theorem FT.day {M v : Mem} (fr : FT M v) (H : DayH M) : DayH v := by
  unfold FT at fr
  obtain ⟨a, b, c, d, e, f, g⟩ := H
  refine ⟨?_, ?_, ?_, ?_, ?_, ?_, ?_⟩
  · simp (disch := decide) only [INet, fr]; exact a
  · simp (disch := decide) only [IStp, fr]; exact b
  · simp (disch := decide) only [IRou, fr]; exact c
  · simp (disch := decide) only [ISky, fr]; exact d
  · simp (disch := decide) only [ISta, fr]; exact e
  · simp (disch := decide) only [IRop, fr]; exact f
  · simp (disch := decide) only [fr]; exact g

def sp_cbM : Spec1 := fun as M Q => match as with
  | [.inr (.inr (.inl (q0, i0))), .inl o, .inl q] => match Nat.beq q0 13 with
    | true => (i0 = 0 ∧ DayH M ∧ (0 ≤ o ∧ o < M 10 0 3) ∧ (0 ≤ q ∧ q ≤ 95)) ∧ ∀ M9, (∀ p, p ≠ 98 → p ≠ 99 → M9 p = M p) → Q (some (vI (if bkA M (M 11 o 0) q (M 11 o 3) = -4 then 0 else 1))) M9
    | false => False
  | _ => False
theorem ok_cbM {l : Launch} {ω : WP} : ∀ as M Q, sp_cbM as M Q → Vd l ω 5 240 as M Q := by
  intro as M Q h
  unfold sp_cbM at h
  split at h
  case h_2 => exact h.elim
  rename_i q0 i0 o q
  cases hb : Nat.beq q0 13 with
  | false => rw [hb] at h; exact h.elim
  | true =>
  rw [hb] at h
  obtain ⟨⟨hi, hH, h1, h2⟩, hQ⟩ := h
  have hb := beq_eq hb
  subst hb
  subst hi
  refine Vd.ok fun hok hal => ?_
  have hn8 : 0 ≤ M 10 0 3 ∧ M 10 0 3 ≤ 8 := hH.x.1
  obtain ⟨d1, d2, d3, d4, d5, d6, d7⟩ := dm_facts hH h1.1 h1.2
  obtain ⟨e105, -, -, e108⟩ := id d1
  obtain ⟨hN, hS, hR, hK, hA, hO, hd⟩ := id hH
  have b9 := hA.1
  have n12 := hA.2.1
  have h25 := hd.2
  have e35 := b9
  have e91 := b9
  have wc := b9
  have key : ∀ n9, CutOK l ω 5 240 (cutL [(22, [0, 1, 2, 3, 4], fun kk vs M9 => ∃ s z : Int, vs = [vR 13 0, vI o, vI q, vI s, vI z] ∧ kk = (M 8 0 6 - z).toNat ∧ (0 ≤ z ∧ z ≤ M 8 0 6) ∧ (∀ p, p ≠ 98 → p ≠ 99 → M9 p = M p) ∧ (∀ j, 0 ≤ j → j < 9 → M9 98 0 j = vrs M (M 11 o 0) q (M 11 o 3) j) ∧ s = cbN (M 46 0) (wkL M (vrs M (M 11 o 0) q (M 11 o 3))) z)] n9) Q := by
    refine loops (GGw_ok (l := l) (ω := ω)) 400 _ ?_
    refine List.forall_mem_cons.mpr ⟨?_, fun _ h => absurd h List.not_mem_nil⟩
    · rintro n9 vs M9 ⟨s, z, rfl, rfl, z0, fr, hv9, hs⟩
      have e13 : M9 13 = M 13 := fr 13 (by decide) (by decide)
      have e35 : M9 13 0 35 = M 8 0 6 := by rw [e13]; exact b9
      have hA9 : ISta M9 := by simp (disch := decide) only [ISta, fr]; exact hA
      have ho9 : okV (M9 98 0) := okV_congr hv9 (vrs_ok hS hR d2.1 d2.2.2 h2 d5 hd.1)
      have e8 : M9 8 0 6 = M 8 0 6 := by rw [fr 8 (by decide) (by decide)]
      have e91 : z < M 8 0 6 → M9 91 0 z = M 46 0 z := fun hi => by rw [fr 91 (by decide) (by decide)]; exact (hA.2.2 z z0.1 hi).1.1
      have wc : z < M 8 0 6 → (0 : Int) = 0 ∧ (0 ≤ z ∧ z < 12) ∧ (0 ≤ M9 92 0 z ∧ M9 92 0 (z + 1) ≤ 300) ∧ okV (M9 98 0) ∧ SegL M9 z := fun hi => ⟨rfl, ⟨z0.1, by omega⟩, (hA9.2.2 z z0.1 (by rw [e8]; exact hi)).2.2.1, ho9, hA9.seg z0.1 (by rw [e8]; exact hi)⟩
      have ww : wkL M9 (M9 98 0) = wkL M (vrs M (M 11 o 0) q (M 11 o 3)) := sta_v (fr 45 (by decide) (by decide)) (fr 47 (by decide) (by decide)) hv9
      have ei : z < M 8 0 6 → w32 (z + 1) = z + 1 := fun _ => w32_e (by omega) (by omega)
      have s01 : s = 0 ∨ s = 1 := by
        have := cbN_sp (K := M 46 0) (W := wkL M (vrs M (M 11 o 0) q (M 11 o 3))) z.toNat
        rw [Int.toNat_of_nonneg z0.1, ← hs] at this
        exact this.elim (fun y => Or.inl y.1) (fun y => Or.inr y.1)
      show wpH _ 400 _ 240 _ true 22 [vR 13 0, vI o, vI q, vI s, vI z] [] _ Q
      conv => whnf
      repeat' first
        | (refine And.intro (fun h => ?_) (fun h => ?_) <;> (try simp (disch := decide) only [cmp3_lt, cmp3_ge, cmp3_gt, cmp3_le, cmp3_eq, ms_q, ms_f, mf_q, mf_f, mc_q, mc_f, and_self, and_true, true_and, and_false, false_and, or_true, true_or, or_false, false_or, if_true, if_false, not_true_eq_false, not_false_eq_true, eq_self, reduceIte, Int.reduceEq, Int.reduceLT, Int.reduceLE, Int.reduceNeg, Int.reduceAdd, Int.reduceSub, Int.reduceMul, Int.add_sub_cancel] at h) <;> (try simp (disch := omega) only [w32_e, w64_e, td_pos, tm_pos, Int.add_sub_cancel, e35, e91, e105, e108] at h) <;> first | exact absurd rfl h | exact absurd h (by decide) | (exfalso; omega) | (conv => whnf))
        | (refine And.intro (by first | omega | ((try simp (disch := decide) only [cmp3_lt, cmp3_ge, cmp3_gt, cmp3_le, cmp3_eq, ms_q, ms_f, mf_q, mf_f, mc_q, mc_f, and_self, and_true, true_and, and_false, false_and, or_true, true_or, or_false, false_or, if_true, if_false, not_true_eq_false, not_false_eq_true, eq_self, reduceIte, Int.reduceEq, Int.reduceLT, Int.reduceLE, Int.reduceNeg, Int.reduceAdd, Int.reduceSub, Int.reduceMul, Int.add_sub_cancel]); (try simp (disch := omega) only [w32_e, w64_e, td_pos, tm_pos, Int.add_sub_cancel, e35, e91, e105, e108]); first | assumption | omega) | exact wc (by omega) | ((try simp (disch := decide) only [cmp3_lt, cmp3_ge, cmp3_gt, cmp3_le, cmp3_eq, ms_q, ms_f, mf_q, mf_f, mc_q, mc_f, and_self, and_true, true_and, and_false, false_and, or_true, true_or, or_false, false_or, if_true, if_false, not_true_eq_false, not_false_eq_true, eq_self, reduceIte, Int.reduceEq, Int.reduceLT, Int.reduceLE, Int.reduceNeg, Int.reduceAdd, Int.reduceSub, Int.reduceMul, Int.add_sub_cancel]); (try simp (disch := omega) only [w32_e, w64_e, td_pos, tm_pos, Int.add_sub_cancel, e35, e91, e105, e108]); ((repeat' (first | assumption | omega | with_reducible rfl | apply And.intro)); done))) ?_; conv => whnf)
        | (intro v; intro hv; conv => whnf)
      all_goals first
        | (refine ⟨s01, ?_⟩
           refine Eq.mp (congrArg (fun z => Q (some (vI z)) M9) ?_) (hQ M9 fr)
           have e9 : z = M 8 0 6 := by omega
           rw [hs, e9, cb_fh n12.1]
           rfl)
        | (refine Eq.mp (congrArg (fun z => Q (some (vI z)) M9) ?_) (hQ M9 fr)
           have e9 : z = M 8 0 6 := by omega
           rw [hs, e9, cb_fh n12.1]
           rfl)
        | (have hi : z < M 8 0 6 := by omega
           refine ⟨_, ?_, _, z + 1, by rw [ei hi], rfl, ⟨by omega, by omega⟩, ?_, ?_, ?_⟩
           · omega
           · first | exact fr | exact fun p a b => (hv p b).trans (fr p a b)
           · first | exact hv9 | (intro j j0 j1; rw [hv 98 (by decide)]; exact hv9 j j0 j1)
           · rw [cbN_s z0.1, ← hs]
             first
               | (rw [if_pos (Or.inl (by omega))]; done)
               | (rw [ww] at h; rw [if_pos (Or.inr ⟨by assumption, h⟩)]; done)
               | (rw [if_neg (fun y => y.elim (fun a => by omega) (fun c => by first | exact absurd c.1 (by assumption) | (rw [ww] at h; exact h c.2)))]; done))
  refine Vd_run (GGw_ok (l := l) (ω := ω)) 400 (hC := key 1000) (by decide) ?_
  conv => whnf
  repeat' first
    | (refine And.intro (fun h => ?_) (fun h => ?_) <;> (try simp (disch := decide) only [cmp3_lt, cmp3_ge, cmp3_gt, cmp3_le, cmp3_eq, ms_q, ms_f, mf_q, mf_f, mc_q, mc_f, and_self, and_true, true_and, and_false, false_and, or_true, true_or, or_false, false_or, if_true, if_false, not_true_eq_false, not_false_eq_true, eq_self, reduceIte, Int.reduceEq, Int.reduceLT, Int.reduceLE, Int.reduceNeg, Int.reduceAdd, Int.reduceSub, Int.reduceMul, Int.add_sub_cancel] at h) <;> (try simp (disch := omega) only [w32_e, w64_e, td_pos, tm_pos, Int.add_sub_cancel, e35, e91, e105, e108] at h) <;> first | exact absurd rfl h | exact absurd h (by decide) | (exfalso; omega) | (conv => whnf))
    | (refine And.intro (by first | omega | ((try simp (disch := decide) only [cmp3_lt, cmp3_ge, cmp3_gt, cmp3_le, cmp3_eq, ms_q, ms_f, mf_q, mf_f, mc_q, mc_f, and_self, and_true, true_and, and_false, false_and, or_true, true_or, or_false, false_or, if_true, if_false, not_true_eq_false, not_false_eq_true, eq_self, reduceIte, Int.reduceEq, Int.reduceLT, Int.reduceLE, Int.reduceNeg, Int.reduceAdd, Int.reduceSub, Int.reduceMul, Int.add_sub_cancel]); (try simp (disch := omega) only [w32_e, w64_e, td_pos, tm_pos, Int.add_sub_cancel, e35, e91, e105, e108]); first | assumption | omega) | exact wc (by omega) | ((try simp (disch := decide) only [cmp3_lt, cmp3_ge, cmp3_gt, cmp3_le, cmp3_eq, ms_q, ms_f, mf_q, mf_f, mc_q, mc_f, and_self, and_true, true_and, and_false, false_and, or_true, true_or, or_false, false_or, if_true, if_false, not_true_eq_false, not_false_eq_true, eq_self, reduceIte, Int.reduceEq, Int.reduceLT, Int.reduceLE, Int.reduceNeg, Int.reduceAdd, Int.reduceSub, Int.reduceMul, Int.add_sub_cancel]); (try simp (disch := omega) only [w32_e, w64_e, td_pos, tm_pos, Int.add_sub_cancel, e35, e91, e105, e108]); ((repeat' (first | assumption | omega | with_reducible rfl | apply And.intro)); done))) ?_; conv => whnf)
    | (intro v; intro hv; conv => whnf)
  all_goals
    (refine ⟨_, ?_, 0, 0, rfl, rfl, ⟨Int.le_refl _, n12.1⟩, fun p a b => hv.1 p a, ?_, rfl⟩
     · omega
     · rw [e105, e108] at hv
       exact hv.2)

def GLx : List (Nat × Nat × Spec1) := (237, 1, sp_cmM) :: (238, 1, sp_doM) :: (239, 1, sp_brM) :: (240, 5, sp_cbM) :: GLw
abbrev GGx : Env1 := fun n => getG n GLx
theorem GGx_all {l : Launch} {ω : WP} : ∀ e ∈ GLx, ∀ as M Q, e.2.2 as M Q → Vd l ω e.2.1 e.1 as M Q := List.forall_mem_cons.mpr ⟨ok_cmM, List.forall_mem_cons.mpr ⟨ok_doM, List.forall_mem_cons.mpr ⟨ok_brM, List.forall_mem_cons.mpr ⟨ok_cbM, GGw_all⟩⟩⟩⟩
theorem GGx_ok {l : Launch} {ω : WP} : GOK l ω GGx := getG_ok GLx GGx_all
theorem deT_0 {X : DX} {o q : Int} {T : Mem} (h : T 112 0 o = X.si (X.rt o)) : deT X o q T = doT X o q T := if_pos h
theorem deT_1 {X : DX} {o q : Int} {T : Mem} (h : ¬ T 112 0 o = X.si (X.rt o)) (h2 : X.tm (X.ro (X.rt o) (T 112 0 o)) (X.rs o) q = -5 ∨ ¬ X.bk (X.rt o) q (X.pe o) = -4) : deT X o q T = doT X o q (mset T 111 0 o 1) := (if_neg h).trans (if_pos h2)
theorem deT_2 {X : DX} {o q : Int} {T : Mem} (h : ¬ T 112 0 o = X.si (X.rt o)) (h2 : ¬ (X.tm (X.ro (X.rt o) (T 112 0 o)) (X.rs o) q = -5 ∨ ¬ X.bk (X.rt o) q (X.pe o) = -4)) (h3 : ¬ X.nw (X.ro (X.rt o) (T 112 0 o)) = 0 ∧ brT X T (X.ro (X.rt o) (T 112 0 o)) X.n = 1) : deT X o q T = mset T 117 0 o (w32 (T 117 0 o + 1)) := (if_neg h).trans ((if_neg h2).trans (if_pos h3))
theorem deT_3 {X : DX} {o q : Int} {T : Mem} (h : ¬ T 112 0 o = X.si (X.rt o)) (h2 : ¬ (X.tm (X.ro (X.rt o) (T 112 0 o)) (X.rs o) q = -5 ∨ ¬ X.bk (X.rt o) q (X.pe o) = -4)) (h3 : ¬ (¬ X.nw (X.ro (X.rt o) (T 112 0 o)) = 0 ∧ brT X T (X.ro (X.rt o) (T 112 0 o)) X.n = 1)) : deT X o q T = mset T 115 0 o (w32 (q + X.tm (X.ro (X.rt o) (T 112 0 o)) (X.rs o) q)) := (if_neg h).trans ((if_neg h2).trans (if_neg h3))
theorem ms_c {T T' : Mem} {z : Nat} {i j v : Int} (h : ∀ p, p ≠ 98 → p ≠ 99 → T' p = T p) : ∀ p, p ≠ 98 → p ≠ 99 → mset T' z i j v p = mset T z i j v p := by
  intro p a b
  funext x y
  unfold mset
  rw [h p a b]

def sp_deM : Spec1 := fun as M Q => match as with
  | [.inr (.inr (.inl (q0, i0))), .inl o, .inl q] => match Nat.beq q0 13 with
    | true => (i0 = 0 ∧ DayH M ∧ (0 ≤ o ∧ o < M 10 0 3) ∧ (0 ≤ q ∧ q ≤ 95) ∧ (0 ≤ M 113 0 o ∧ M 113 0 o < 12) ∧ (0 ≤ M 112 0 o ∧ M 112 0 o ≤ M 21 0 (M 11 o 0)) ∧ (∀ o, 0 ≤ o → o < M 10 0 3 → ¬ M 109 0 o = 0 → ¬ M 115 0 o = -4 → 0 ≤ M 112 0 o ∧ M 112 0 o < 6)) ∧ ∀ M9, (∀ p, p ≠ 98 → p ≠ 99 → M9 p = deT (dx M) o q M p) → Q none M9
    | false => False
  | _ => False
theorem ok_deM {l : Launch} {ω : WP} : ∀ as M Q, sp_deM as M Q → Vd l ω 6 241 as M Q := by
  intro as M Q h
  unfold sp_deM at h
  split at h
  case h_2 => exact h.elim
  rename_i q0 i0 o q
  cases hb : Nat.beq q0 13 with
  | false => rw [hb] at h; exact h.elim
  | true =>
  rw [hb] at h
  obtain ⟨⟨hi, hH, h1, h2, h3, h4, h5⟩, hQ⟩ := h
  have hb := beq_eq hb
  subst hb
  subst hi
  refine Vd.ok fun hok hal => ?_
  have hn8 : 0 ≤ M 10 0 3 ∧ M 10 0 3 ≤ 8 := hH.x.1
  obtain ⟨d1, d2, d3, d4, d5, d6, d7⟩ := dm_facts hH h1.1 h1.2
  obtain ⟨e105, e106, -, e108⟩ := id d1
  obtain ⟨hN, hS, hR, hK, hA, hO, hd⟩ := id hH
  have e76 : M 76 0 = M 21 0 := hR.2.1
  have e77 : M 112 0 o < 6 → M 77 0 (6 * M 11 o 0 + M 112 0 o) = M 23 (M 11 o 0) (M 112 0 o) := fun z => d7 _ h4.1 z
  have r111 := fun (v : Mem) (f : ∀ p, p ≠ 98 → p ≠ 99 → v p = M p) => (FT.set (p := 111) (i := 0) (j := o) (x := 1) (FT.scr f) (by decide))
  have dc : ∀ v : Mem, (∀ p, p ≠ 98 → p ≠ 99 → v p = M p) → (0 : Int) = 0 ∧ DayH (mset v 111 0 o 1) ∧ (0 ≤ o ∧ o < mset v 111 0 o 1 10 0 3) ∧ (0 ≤ mset v 111 0 o 1 113 0 o ∧ mset v 111 0 o 1 113 0 o < 12) := fun v f => ⟨rfl, (r111 v f).day hH, by rw [ms_q (by decide), f 10 (by decide) (by decide)]; exact h1, by rw [ms_q (by decide), f 113 (by decide) (by decide)]; exact h3⟩
  have dd : ∀ v : Mem, (∀ p, p ≠ 98 → p ≠ 99 → v p = M p) → ∀ p, p ≠ 98 → p ≠ 99 → doT (dx (mset v 111 0 o 1)) o q (mset v 111 0 o 1) p = doT (dx M) o q (mset M 111 0 o 1) p := fun v f => by
    rw [dx_ft (r111 v f)]
    exact doT_c (ms_c f)
  have f0 : ∀ p, p ≠ 98 → p ≠ 99 → M p = M p := fun _ _ _ => rfl
  have k6 : ¬ M 112 0 o = M 21 0 (M 11 o 0) → 0 ≤ (M 23 (M 11 o 0) (M 112 0 o)) ∧ (M 23 (M 11 o 0) (M 112 0 o)) < M 1 0 2 ∧ M 1 0 2 ≤ 20 := fun z => by
    have := (hR.2.2.2.2 _ d2.1 d2.2.2).2 (M 112 0 o) h4.1 (by omega)
    have := hS.2.2.1
    omega
  refine Vd_run (GGx_ok (l := l) (ω := ω)) 600 (cut := fun _ => none) (by decide) CutOK_none ?_
  conv => whnf
  repeat' first
    | (refine And.intro (fun h => ?_) (fun h => ?_) <;> (try simp (disch := decide) only [cmp3_lt, cmp3_ge, cmp3_gt, cmp3_le, cmp3_eq, ms_q, ms_f, mf_q, mf_f, mc_q, mc_f, and_self, and_true, true_and, and_false, false_and, or_true, true_or, or_false, false_or, if_true, if_false, not_true_eq_false, not_false_eq_true, eq_self, reduceIte, Int.reduceEq, Int.reduceLT, Int.reduceLE, Int.reduceNeg, Int.reduceAdd, Int.reduceSub, Int.reduceMul, Int.add_sub_cancel] at h) <;> (try simp (disch := omega) only [w32_e, w64_e, td_pos, tm_pos, Int.add_sub_cancel, e105, e106, e76, e77] at h) <;> first | exact absurd rfl h | exact absurd h (by decide) | (exfalso; omega) | (conv => whnf))
    | (refine And.intro (by first | omega | ((try simp (disch := decide) only [cmp3_lt, cmp3_ge, cmp3_gt, cmp3_le, cmp3_eq, ms_q, ms_f, mf_q, mf_f, mc_q, mc_f, and_self, and_true, true_and, and_false, false_and, or_true, true_or, or_false, false_or, if_true, if_false, not_true_eq_false, not_false_eq_true, eq_self, reduceIte, Int.reduceEq, Int.reduceLT, Int.reduceLE, Int.reduceNeg, Int.reduceAdd, Int.reduceSub, Int.reduceMul, Int.add_sub_cancel]); (try simp (disch := omega) only [w32_e, w64_e, td_pos, tm_pos, Int.add_sub_cancel, e105, e106, e76, e77]); first | assumption | omega) | exact dc M f0 | ((try simp (disch := decide) only [cmp3_lt, cmp3_ge, cmp3_gt, cmp3_le, cmp3_eq, ms_q, ms_f, mf_q, mf_f, mc_q, mc_f, and_self, and_true, true_and, and_false, false_and, or_true, true_or, or_false, false_or, if_true, if_false, not_true_eq_false, not_false_eq_true, eq_self, reduceIte, Int.reduceEq, Int.reduceLT, Int.reduceLE, Int.reduceNeg, Int.reduceAdd, Int.reduceSub, Int.reduceMul, Int.add_sub_cancel]); (try simp (disch := omega) only [w32_e, w64_e, td_pos, tm_pos, Int.add_sub_cancel, e105, e106, e76, e77]); ((repeat' (first | assumption | omega | with_reducible rfl | apply And.intro)); done))) ?_; conv => whnf)
  rotate_left 2
  · rw [deT_0 (show M 112 0 o = (dx M).si ((dx M).rt o) from (by omega : M 112 0 o = M 21 0 (M 11 o 0)))] at hQ
    exact hQ _ (fun _ _ _ => rfl)
  · rw [deT_1 (show ¬ M 112 0 o = (dx M).si ((dx M).rt o) from (by omega : ¬ M 112 0 o = M 21 0 (M 11 o 0))) (Or.inl h)] at hQ
    exact hQ _ (dd M f0)
  intro v f
  have hnn : ¬ M 112 0 o = M 21 0 (M 11 o 0) := by omega
  have ek : M 77 0 (w32 (w32 (6 * M 105 0 o) + M 112 0 o)) = (M 23 (M 11 o 0) (M 112 0 o)) := by
    rw [e105, w32_e (x := 6 * M 11 o 0) (by omega) (by omega), w32_e (by omega) (by omega), e77 (by omega)]
  have ft := FT.scr f
  have xe := dx_ft ft
  by_cases hb5 : bkA M (M 11 o 0) q (M 11 o 3) = -4
  case neg =>
    rw [if_neg hb5]
    conv => whnf
    repeat' first
      | (refine And.intro (fun h => ?_) (fun h => ?_) <;> (try simp (disch := decide) only [cmp3_lt, cmp3_ge, cmp3_gt, cmp3_le, cmp3_eq, ms_q, ms_f, mf_q, mf_f, mc_q, mc_f, and_self, and_true, true_and, and_false, false_and, or_true, true_or, or_false, false_or, if_true, if_false, not_true_eq_false, not_false_eq_true, eq_self, reduceIte, Int.reduceEq, Int.reduceLT, Int.reduceLE, Int.reduceNeg, Int.reduceAdd, Int.reduceSub, Int.reduceMul, Int.add_sub_cancel] at h) <;> (try simp (disch := omega) only [w32_e, w64_e, td_pos, tm_pos, Int.add_sub_cancel] at h) <;> first | exact absurd rfl h | exact absurd h (by decide) | (exfalso; omega) | (conv => whnf))
      | (refine And.intro (by first | omega | ((try simp (disch := decide) only [cmp3_lt, cmp3_ge, cmp3_gt, cmp3_le, cmp3_eq, ms_q, ms_f, mf_q, mf_f, mc_q, mc_f, and_self, and_true, true_and, and_false, false_and, or_true, true_or, or_false, false_or, if_true, if_false, not_true_eq_false, not_false_eq_true, eq_self, reduceIte, Int.reduceEq, Int.reduceLT, Int.reduceLE, Int.reduceNeg, Int.reduceAdd, Int.reduceSub, Int.reduceMul, Int.add_sub_cancel]); (try simp (disch := omega) only [w32_e, w64_e, td_pos, tm_pos, Int.add_sub_cancel]); first | assumption | omega) | exact dc v f) ?_; conv => whnf)
    rw [deT_1 (show ¬ M 112 0 o = (dx M).si ((dx M).rt o) from (by omega : ¬ M 112 0 o = M 21 0 (M 11 o 0))) (Or.inr hb5)] at hQ
    exact hQ _ (dd v f)
  rw [if_pos hb5]
  have bc : (0 : Int) = 0 ∧ DayH v ∧ (0 ≤ M 77 0 (w32 (w32 (6 * M 105 0 o) + M 112 0 o)) ∧ M 77 0 (w32 (w32 (6 * M 105 0 o) + M 112 0 o)) < 20) ∧ (∀ o, 0 ≤ o → o < v 10 0 3 → ¬ v 109 0 o = 0 → ¬ v 115 0 o = -4 → 0 ≤ v 112 0 o ∧ v 112 0 o < 6) := by
    rw [ek, f 10 (by decide) (by decide), f 109 (by decide) (by decide), f 115 (by decide) (by decide), f 112 (by decide) (by decide)]
    have := k6 hnn
    exact ⟨rfl, ft.day hH, by omega, h5⟩
  have ht := h
  conv => whnf
  repeat' first
    | (refine And.intro (fun h => ?_) (fun h => ?_) <;> (try simp (disch := decide) only [cmp3_lt, cmp3_ge, cmp3_gt, cmp3_le, cmp3_eq, ms_q, ms_f, mf_q, mf_f, mc_q, mc_f, and_self, and_true, true_and, and_false, false_and, or_true, true_or, or_false, false_or, if_true, if_false, not_true_eq_false, not_false_eq_true, eq_self, reduceIte, Int.reduceEq, Int.reduceLT, Int.reduceLE, Int.reduceNeg, Int.reduceAdd, Int.reduceSub, Int.reduceMul, Int.add_sub_cancel] at h) <;> (try simp (disch := omega) only [w32_e, w64_e, td_pos, tm_pos, Int.add_sub_cancel] at h) <;> first | exact absurd rfl h | exact absurd h (by decide) | (exfalso; omega) | (conv => whnf))
    | (refine And.intro (by first | omega | ((try simp (disch := decide) only [cmp3_lt, cmp3_ge, cmp3_gt, cmp3_le, cmp3_eq, ms_q, ms_f, mf_q, mf_f, mc_q, mc_f, and_self, and_true, true_and, and_false, false_and, or_true, true_or, or_false, false_or, if_true, if_false, not_true_eq_false, not_false_eq_true, eq_self, reduceIte, Int.reduceEq, Int.reduceLT, Int.reduceLE, Int.reduceNeg, Int.reduceAdd, Int.reduceSub, Int.reduceMul, Int.add_sub_cancel]); (try simp (disch := omega) only [w32_e, w64_e, td_pos, tm_pos, Int.add_sub_cancel]); first | assumption | omega) | exact bc) ?_; conv => whnf)
  all_goals
    (have n2 : ¬ ((dx M).tm ((dx M).ro ((dx M).rt o) (M 112 0 o)) ((dx M).rs o) q = -5 ∨ ¬ (dx M).bk ((dx M).rt o) q ((dx M).pe o) = -4) := fun z => z.elim (fun y => ht y) (fun y => y hb5)
     have ek2 : M 77 0 (6 * M 105 0 o + M 112 0 o) = (M 23 (M 11 o 0) (M 112 0 o)) := by rw [e105, e77 (by omega)]
     rw [ek2, xe, brT_c f, f 20 (by decide) (by decide), f 10 (by decide) (by decide)] at h
     first
       | (have n3 : ¬ (¬ (dx M).nw ((dx M).ro ((dx M).rt o) (M 112 0 o)) = 0 ∧ brT (dx M) M ((dx M).ro ((dx M).rt o) (M 112 0 o)) (dx M).n = 1) := fun z => by
            have z2 : ¬ M 20 0 (M 23 (M 11 o 0) (M 112 0 o)) = 0 ∧ brT (dx M) M (M 23 (M 11 o 0) (M 112 0 o)) (M 10 0 3) = 1 := z
            rw [if_pos z2] at h
            exact absurd h (by decide)
          rw [deT_3 (show ¬ M 112 0 o = (dx M).si ((dx M).rt o) from (by omega : ¬ M 112 0 o = M 21 0 (M 11 o 0))) n2 n3] at hQ
          rw [ek, e106]
          exact hQ _ (ms_c f))
       | (have n3 : ¬ (dx M).nw ((dx M).ro ((dx M).rt o) (M 112 0 o)) = 0 ∧ brT (dx M) M ((dx M).ro ((dx M).rt o) (M 112 0 o)) (dx M).n = 1 := by
            by_cases z2 : ¬ M 20 0 (M 23 (M 11 o 0) (M 112 0 o)) = 0 ∧ brT (dx M) M (M 23 (M 11 o 0) (M 112 0 o)) (M 10 0 3) = 1
            · exact z2
            · rw [if_neg z2] at h
              exact absurd rfl h
          rw [deT_2 (show ¬ M 112 0 o = (dx M).si ((dx M).rt o) from (by omega : ¬ M 112 0 o = M 21 0 (M 11 o 0))) n2 n3] at hQ
          rw [f 117 (by decide) (by decide)]
          exact hQ _ (ms_c f)))
