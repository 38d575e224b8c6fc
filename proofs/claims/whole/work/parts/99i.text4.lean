/-! ===== text, the class: take (wip/gen/p59.py) ===== -/
def op16 : List Int → Int
  | [] => 0
  | w :: r => (if w = 16 then 1 else 0) + op16 r
def okW (w : Int) : Prop := w = 16 ∨ (4 ≤ w ∧ w ≤ 6) ∨ (18 ≤ w ∧ w ≤ 23)
def CI (s : CS) : Prop := op16 (cW s) = cP s ∧ (0 ≤ cP s ∧ cP s ≤ 6) ∧ (∀ w ∈ cW s, okW w) ∧ (0 ≤ cL s ∧ cL s ≤ 12) ∧ (0 ≤ cS s ∧ cS s ≤ 2) ∧ (cS s = 0 ∨ cN s = 0 ∨ cN s = 1) ∧ (cS s = 0 ∨ cL s < 12)
def sgm (M : Mem) : CS := (stk (M 41 0) (M 7 0 8).toNat, stk (M 44 0) (M 7 0 13).toNat, M 7 0 14, M 7 0 15, M 7 0 16, M 7 0 17, M 7 0 11, M 42 0, M 43 0)
theorem stk_mem {F : Int → Int} : ∀ {n : Nat} {P : Int → Prop}, (∀ w ∈ stk F n, P w) → ∀ j, 0 ≤ j → j < (n : Int) → P (F j)
  | 0, _, _, j, a, b => by omega
  | n + 1, P, h, j, a, b => by
    by_cases c : j = (n : Int)
    · rw [c]
      exact h _ (List.mem_cons_self ..)
    · exact stk_mem (fun w hw => h w (List.mem_cons_of_mem _ hw)) j a (by omega)
theorem pp_ne {b : Int} (hb : 1 ≤ b) : ∀ {ws o : List Int}, 0 < op16 ws → 1 ≤ (pp b o ws).2.length
  | [], _, h => by simp [op16] at h
  | w :: ws, o, h => by
    rw [pp]
    by_cases c : b ≤ bndT w
    · rw [if_pos c]
      have w16 : ¬ w = 16 := fun z => by
        rw [z] at c
        have : bndT 16 = 0 := by decide
        omega
      rw [op16, if_neg w16] at h
      exact pp_ne hb (by omega)
    · rw [if_neg c]
      simp
theorem stk_tl {F : Int → Int} {j : Int} (h : 1 ≤ j) : stk F (j - 1).toNat = (stk F j.toNat).tail := by
  rw [stk_pop h]
  rfl

def sp_takC : Spec1 := fun as M Q => match as with
  | [.inr (.inr (.inl (q0, i0)))] => match Nat.beq q0 7 with
    | true => (i0 = 0 ∧ CI (sgm M) ∧ (0 ≤ M 7 0 8 ∧ 0 ≤ M 7 0 13 ∧ M 7 0 8 + M 7 0 13 ≤ 240 ∧ (M 7 0 4 = 26 ∨ M 7 0 8 + M 7 0 13 < 240)) ∧ (0 ≤ M 7 0 4 ∧ M 7 0 4 ≤ 27) ∧ (M 7 0 4 = 25 → 0 ≤ M 7 0 5 ∧ M 7 0 5 ≤ 1000000)) ∧ ∀ M9, ((∀ p, p ≠ 7 → p ≠ 41 → p ≠ 42 → p ≠ 43 → p ≠ 44 → M9 p = M p) ∧ (∀ j, j ≠ 8 → j ≠ 11 → j ≠ 13 → j ≠ 14 → j ≠ 15 → j ≠ 16 → j ≠ 17 → M9 7 0 j = M 7 0 j) ∧ ((stp1 (M 7 0 4) (M 7 0 5) (sgm M)).1 = 0 → sgm M9 = (stp1 (M 7 0 4) (M 7 0 5) (sgm M)).2 ∧ 0 ≤ M9 7 0 8 ∧ 0 ≤ M9 7 0 13)) → Q (some (vI (stp1 (M 7 0 4) (M 7 0 5) (sgm M)).1)) M9
    | false => False
  | _ => False
theorem ok_takC {l : Launch} {ω : WP} : ∀ as M Q, sp_takC as M Q → Vd l ω 5 61 as M Q := by
  intro as M Q h
  unfold sp_takC at h
  split at h
  case h_2 => exact h.elim
  rename_i q0 i0 
  cases hb : Nat.beq q0 7 with
  | false => rw [hb] at h; exact h.elim
  | true =>
  rw [hb] at h
  obtain ⟨⟨hi, hI, h0, ht, hn⟩, hQ⟩ := h
  have hb := beq_eq hb
  subst hb
  subst hi
  refine Vd.ok fun hok hal => ?_
  obtain ⟨i16, iP, iw, iL, iS, iN, iSL⟩ := hI
  have iP : 0 ≤ M 7 0 16 ∧ M 7 0 16 ≤ 6 := iP
  have iL : 0 ≤ M 7 0 11 ∧ M 7 0 11 ≤ 12 := iL
  have iS : 0 ≤ M 7 0 14 ∧ M 7 0 14 ≤ 2 := iS
  have iN : M 7 0 14 = 0 ∨ M 7 0 17 = 0 ∨ M 7 0 17 = 1 := iN
  have iSL : M 7 0 14 = 0 ∨ M 7 0 11 < 12 := iSL
  have pS : cS (sgm M) = M 7 0 14 := rfl
  have pD : cD (sgm M) = M 7 0 15 := rfl
  have pP : cP (sgm M) = M 7 0 16 := rfl
  have pN : cN (sgm M) = M 7 0 17 := rfl
  have pL : cL (sgm M) = M 7 0 11 := rfl
  have hv := h0
  have pn : 0 < M 7 0 16 → 1 ≤ (pp 1 (stk (M 41 0) (M 7 0 8).toNat) (stk (M 44 0) (M 7 0 13).toNat)).2.length := fun z => pp_ne (by decide) (by
    have i17 : op16 (stk (M 44 0) (M 7 0 13).toNat) = M 7 0 16 := i16
    omega)
  have hw : ∀ j, 0 ≤ j → j < M 7 0 13 → 0 ≤ M 44 0 j ∧ M 44 0 j ≤ 27 := fun j a b => (fun (q : okW (M 44 0 j)) => by unfold okW at q; omega) (stk_mem iw j a (by omega))
  refine Vd_run (GGS_ok (l := l) (ω := ω)) 400 (cut := fun _ => none) (by decide) CutOK_none ?_
  conv => whnf
  repeat' first
    | (refine And.intro (fun h => ?_) (fun h => ?_) <;> (try simp (disch := decide) only [cmp3_lt, cmp3_ge, cmp3_gt, cmp3_le, cmp3_eq, ms_q, ms_f, mf_q, mf_f, mc_q, mc_f, and_self, and_true, true_and, and_false, false_and, or_true, true_or, or_false, false_or, if_true, if_false, not_true_eq_false, not_false_eq_true, eq_self, reduceIte, Int.reduceEq, Int.reduceLT, Int.reduceLE, Int.reduceNeg, Int.reduceAdd, Int.reduceSub, Int.reduceMul, Int.add_sub_cancel] at h) <;> (try simp (disch := omega) only [w32_e, w64_e, td_pos, tm_pos, Int.add_sub_cancel] at h) <;> first | exact absurd rfl h | exact absurd h (by decide) | (exfalso; omega) | (conv => whnf))
    | (refine And.intro (by first | omega | ((try simp (disch := decide) only [cmp3_lt, cmp3_ge, cmp3_gt, cmp3_le, cmp3_eq, ms_q, ms_f, mf_q, mf_f, mc_q, mc_f, and_self, and_true, true_and, and_false, false_and, or_true, true_or, or_false, false_or, if_true, if_false, not_true_eq_false, not_false_eq_true, eq_self, reduceIte, Int.reduceEq, Int.reduceLT, Int.reduceLE, Int.reduceNeg, Int.reduceAdd, Int.reduceSub, Int.reduceMul, Int.add_sub_cancel]); (try simp (disch := omega) only [w32_e, w64_e, td_pos, tm_pos, Int.add_sub_cancel]); first | assumption | omega) | (have q := hv.2.1 11 (by decide) (by decide); omega) | ((try simp (disch := decide) only [cmp3_lt, cmp3_ge, cmp3_gt, cmp3_le, cmp3_eq, ms_q, ms_f, mf_q, mf_f, mc_q, mc_f, and_self, and_true, true_and, and_false, false_and, or_true, true_or, or_false, false_or, if_true, if_false, not_true_eq_false, not_false_eq_true, eq_self, reduceIte, Int.reduceEq, Int.reduceLT, Int.reduceLE, Int.reduceNeg, Int.reduceAdd, Int.reduceSub, Int.reduceMul, Int.add_sub_cancel]); (try simp (disch := omega) only [w32_e, w64_e, td_pos, tm_pos, Int.add_sub_cancel]); ((repeat' (first | assumption | omega | with_reducible rfl | apply And.intro)); done))) ?_; conv => whnf)
    | (intro v; intro hv; conv => whnf)
  all_goals try (simp (disch := decide) only [ms_q, ms_f, ms_n, mf_q, mf_f, and_self, and_true, true_and, and_false, false_and, if_true, if_false, reduceIte, Int.reduceEq, not_false_eq_true] at hv)
  all_goals try (exfalso; omega)
  all_goals generalize hst : (stp1 (M 7 0 4) (M 7 0 5) (sgm M)) = r at hQ
  all_goals unfold stp1 at hst
  all_goals try (simp (disch := omega) only [if_pos, if_neg] at hst)
  all_goals try (simp only [cS, cN, cD, cP, cL, cK, cE, cO, cW, sgm, jnS] at hst)
  all_goals subst hst
  all_goals try (dsimp only at hQ)
  all_goals try (rw [roX_e ht] at hv)
  all_goals try (simp (disch := decide) only [ms_q, ms_f, ms_n, mf_q, mf_f, and_self, and_true, true_and, and_false, false_and, if_true, if_false, reduceIte, Int.reduceEq, not_false_eq_true])
  all_goals try (have v16 := hv.2.1 16 (by decide) (by decide); have v11 := hv.2.1 11 (by decide) (by decide); have v4 := hv.2.1 4 (by decide) (by decide); (try simp (disch := decide) only [ms_q, ms_f, ms_n, mf_q, mf_f, and_self, and_true, true_and, and_false, false_and, if_true, if_false, reduceIte, Int.reduceEq, not_false_eq_true] at v16 v11 v4); (try rw [v16]); (try rw [v11]); (try rw [v4]))
  all_goals try (simp (disch := omega) only [w32_e])
  all_goals try (have pv := pn (by omega); rw [← hv.2.2.2] at pv; have pv : 1 ≤ (stk (M 44 0) (v 7 0 13).toNat).length := pv; rw [stk_len] at pv)
  all_goals first
    | exact hQ _ ⟨fun _ _ _ _ _ _ => rfl, fun _ _ _ _ _ _ _ _ => rfl, fun z => absurd z (by decide)⟩
    | exact hQ _ ⟨fun p a b c d e => by simp (disch := assumption) only [ms_q], fun j a b c d e f g => by simp (disch := decide) only [ms_q, ms_f, ms_n, mf_q, mf_f, and_self, and_true, true_and, and_false, false_and, if_true, if_false, reduceIte, Int.reduceEq, not_false_eq_true, a, b, c, d, e, f, g], fun z => absurd z (by decide)⟩
    | exact hQ _ ⟨fun _ _ _ _ _ _ => rfl, fun _ _ _ _ _ _ _ _ => rfl, fun z => ⟨rfl, h0.1, h0.2.1⟩⟩
    | (refine hQ _ ⟨fun p a b c d e => ?_, fun j a b c d e f g => ?_, fun z => ⟨?_, ?_, ?_⟩⟩
       · first
         | (simp (disch := assumption) only [ms_q]; done)
         | (simp (disch := assumption) only [ms_q]; rw [hv.1 p a b]; done)
         | (simp (disch := assumption) only [ms_q]; rw [hv.1 p a b]; simp (disch := assumption) only [ms_q]; done)
       · first
         | (simp (disch := decide) only [ms_q, ms_f, ms_n, mf_q, mf_f, and_self, and_true, true_and, and_false, false_and, if_true, if_false, reduceIte, Int.reduceEq, not_false_eq_true, a, b, c, d, e, f, g]; done)
         | (simp (disch := decide) only [ms_q, ms_f, ms_n, mf_q, mf_f, and_self, and_true, true_and, and_false, false_and, if_true, if_false, reduceIte, Int.reduceEq, not_false_eq_true, a, b, c, d, e, f, g]; rw [hv.2.1 j a c]; done)
         | (simp (disch := decide) only [ms_q, ms_f, ms_n, mf_q, mf_f, and_self, and_true, true_and, and_false, false_and, if_true, if_false, reduceIte, Int.reduceEq, not_false_eq_true, a, b, c, d, e, f, g]; rw [hv.2.1 j a c]; simp (disch := decide) only [ms_q, ms_f, ms_n, mf_q, mf_f, and_self, and_true, true_and, and_false, false_and, if_true, if_false, reduceIte, Int.reduceEq, not_false_eq_true, a, b, c, d, e, f, g]; done)
       · have hv' := hv
         refine Prod.ext ?_ (Prod.ext ?_ (Prod.ext ?_ (Prod.ext ?_ (Prod.ext ?_ (Prod.ext ?_ (Prod.ext ?_ (Prod.ext ?_ ?_)))))))
         all_goals (try simp (disch := decide) only [sgm, ms_q, ms_f, ms_n, mf_q, mf_f, and_self, and_true, true_and, and_false, false_and, if_true, if_false, reduceIte, Int.reduceEq, not_false_eq_true])
         all_goals first
           | done
           | rfl
           | exact stk_push h0.1
           | exact stk_push h0.2.1
           | (rw [← hv.2.2.2]; done)
           | (rw [stk_push hv.2.2.1.2.1, hv.1 44 (by decide) (by decide), ← hv.2.2.2]; try simp (disch := decide) only [ms_q, ms_f, ms_n, mf_q, mf_f, and_self, and_true, true_and, and_false, false_and, if_true, if_false, reduceIte, Int.reduceEq, not_false_eq_true]; done)
           | (rw [hv.1 44 (by decide) (by decide), stk_tl (by omega), ← hv.2.2.2]; try simp (disch := decide) only [ms_q, ms_f, ms_n, mf_q, mf_f, and_self, and_true, true_and, and_false, false_and, if_true, if_false, reduceIte, Int.reduceEq, not_false_eq_true]; done)
           | (rw [hv.1 44 (by decide) (by decide), ← hv.2.2.2]; try simp (disch := decide) only [ms_q, ms_f, ms_n, mf_q, mf_f, and_self, and_true, true_and, and_false, false_and, if_true, if_false, reduceIte, Int.reduceEq, not_false_eq_true]; done)
           | (rw [hv.2.1 _ (by decide) (by decide)]; try simp (disch := decide) only [ms_q, ms_f, ms_n, mf_q, mf_f, and_self, and_true, true_and, and_false, false_and, if_true, if_false, reduceIte, Int.reduceEq, not_false_eq_true]; done)
           | (rw [hv.1 42 (by decide) (by decide)]; try simp (disch := decide) only [ms_q, ms_f, ms_n, mf_q, mf_f, and_self, and_true, true_and, and_false, false_and, if_true, if_false, reduceIte, Int.reduceEq, not_false_eq_true]; done)
           | (rw [hv.1 43 (by decide) (by decide), ← hv.2.2.2]; show updI _ _ _ = updI _ _ (((stk (v 41 0) (v 7 0 8).toNat).length : Nat) : Int); rw [stk_len, Int.toNat_of_nonneg hv.2.2.1.1]; done)
           | (rw [hv.1 43 (by decide) (by decide)]; try simp (disch := decide) only [ms_q, ms_f, ms_n, mf_q, mf_f, and_self, and_true, true_and, and_false, false_and, if_true, if_false, reduceIte, Int.reduceEq, not_false_eq_true]; done)
           | skip
       · try simp (disch := decide) only [ms_q, ms_f, ms_n, mf_q, mf_f, and_self, and_true, true_and, and_false, false_and, if_true, if_false, reduceIte, Int.reduceEq, not_false_eq_true]
         omega
       · try simp (disch := decide) only [ms_q, ms_f, ms_n, mf_q, mf_f, and_self, and_true, true_and, and_false, false_and, if_true, if_false, reduceIte, Int.reduceEq, not_false_eq_true]
         omega)
