/-! ===== whose turn (wip/gen/p18.py) ===== -/
def tnS (M : Mem) (a nd : Int) : Int → Int × (Int → Int) → Int × (Int → Int) := fun i x => if x.1 < a ∧ bitI (M 5 0 3) (M 34 0 i) = 0 ∧ M 5 0 2 ≤ M 32 0 (M 34 0 i) ∧ nd ≤ M 30 0 (M 34 0 i) then (x.1 + 1, updI x.2 x.1 (M 34 0 i)) else x
def tnA (M : Mem) (a nd : Int) (n : Int) : Int × (Int → Int) := itI (tnS M a nd) (0, fun _ => 0) n
theorem tnA_s {M : Mem} {a nd n : Int} (h : 0 ≤ n) : tnA M a nd (n + 1) = tnS M a nd n (tnA M a nd n) := itI_succ h
theorem tnA_in {M : Mem} {a nd : Int} (ha : 0 ≤ a) : ∀ k : Nat, 0 ≤ (tnA M a nd (k : Int)).1 ∧ (tnA M a nd (k : Int)).1 ≤ (k : Int) ∧ (tnA M a nd (k : Int)).1 ≤ a
  | 0 => ⟨Int.le_refl _, Int.le_refl _, ha⟩
  | k + 1 => by
    have ih := tnA_in (M := M) (nd := nd) ha k
    have e : ((k + 1 : Nat) : Int) = (k : Int) + 1 := by omega
    rw [e, tnA_s (by omega)]
    unfold tnS
    split
    · simp only []; omega
    · omega
theorem tnA_inI {M : Mem} {a nd i : Int} (ha : 0 ≤ a) (hi : 0 ≤ i) : 0 ≤ (tnA M a nd i).1 ∧ (tnA M a nd i).1 ≤ i ∧ (tnA M a nd i).1 ≤ a := by
  have := tnA_in (M := M) (nd := nd) ha i.toNat
  rw [Int.toNat_of_nonneg hi] at this
  exact this
theorem tnA_end {M : Mem} {a nd t : Int} (ht : 0 ≤ t) (h : (tnA M a nd t).1 = a) : ∀ k : Nat, tnA M a nd (t + (k : Int)) = tnA M a nd t
  | 0 => by simp
  | k + 1 => by
    have e : t + ((k + 1 : Nat) : Int) = t + (k : Int) + 1 := by omega
    rw [e, tnA_s (by omega), tnA_end ht h k]
    unfold tnS
    rw [if_neg (by omega)]
theorem tnA_to {M : Mem} {a nd t n : Int} (ht : 0 ≤ t) (hn : t ≤ n) (h : (tnA M a nd t).1 = a ∨ t = n) : tnA M a nd n = tnA M a nd t := by
  rcases h with h | h
  · have := tnA_end ht h (n - t).toNat
    have e : t + ((n - t).toNat : Int) = n := by omega
    rw [e] at this
    exact this
  · rw [h]
theorem asS_ge {K W : Int → Int} : ∀ k : Nat, 1 ≤ asS K W (k : Int)
  | 0 => Int.le_refl _
  | k + 1 => by
    have ih := asS_ge (K := K) (W := W) k
    have e : ((k + 1 : Nat) : Int) = (k : Int) + 1 := by omega
    rw [e, asS_s (by omega)]
    split <;> omega

def sp_ftC : Spec1 := fun as M Q => match as with
  | [.inr (.inr (.inl (q0, i0))), .inl a, .inl nd] => match Nat.beq q0 4 with
    | true => (i0 = 0 ∧ (0 ≤ a ∧ a ≤ 8) ∧ (0 ≤ M 5 0 0 ∧ M 5 0 0 ≤ 8) ∧ (0 ≤ M 5 0 3 ∧ M 5 0 3 < 512) ∧ IPerm (M 5 0 0) (M 34 0)) ∧ ∀ M9, ((∀ p, p ≠ 4 → p ≠ 33 → M9 p = M p) ∧ (∀ x f, f ≠ 7 → M9 4 x f = M 4 x f) ∧ M9 4 0 7 = (tnA M a nd (M 5 0 0)).1 ∧ (∀ j, 0 ≤ j → j < (tnA M a nd (M 5 0 0)).1 → M9 33 0 j = (tnA M a nd (M 5 0 0)).2 j)) → Q (some (vI (if (tnA M a nd (M 5 0 0)).1 = a then 1 else 0))) M9
    | false => False
  | _ => False
theorem ok_ftC {l : Launch} {ω : WP} : ∀ as M Q, sp_ftC as M Q → Vd l ω 3 3 as M Q := by
  intro as M Q h
  unfold sp_ftC at h
  split at h
  case h_2 => exact h.elim
  rename_i q0 i0 a nd
  cases hb : Nat.beq q0 4 with
  | false => rw [hb] at h; exact h.elim
  | true =>
  rw [hb] at h
  obtain ⟨⟨hi, h1, h2, h3, hP⟩, hQ⟩ := h
  have hb := beq_eq hb
  subst hb
  subst hi
  refine Vd.ok fun hok hal => ?_
  have e5 := h2
  have e30 := h2
  have e32 := h2
  have e34 := h2
  have nt := h2
  have key : ∀ n9, CutOK l ω 3 3 (cutL [(7, [0, 1, 2, 3], fun kk vs M9 => ∃ i : Int, vs = [vR 4 0, vI a, vI nd, vI i] ∧ kk = (M 5 0 0 - i).toNat ∧ (0 ≤ i ∧ i ≤ M 5 0 0) ∧ (∀ p, p ≠ 4 → p ≠ 33 → M9 p = M p) ∧ (∀ x f, f ≠ 7 → M9 4 x f = M 4 x f) ∧ M9 4 0 7 = (tnA M a nd i).1 ∧ (∀ j, 0 ≤ j → j < (tnA M a nd i).1 → M9 33 0 j = (tnA M a nd i).2 j))] n9) Q := by
    refine loops (GGn_ok (l := l) (ω := ω)) 300 _ ?_
    refine List.forall_mem_cons.mpr ⟨?_, fun _ h => absurd h List.not_mem_nil⟩
    · rintro n9 vs M9 ⟨i, rfl, rfl, i0, fr, f7, nt, rw_⟩
      have e5 : M9 5 = M 5 := fr 5 (by decide) (by decide)
      have e30 : M9 30 = M 30 := fr 30 (by decide) (by decide)
      have e32 : M9 32 = M 32 := fr 32 (by decide) (by decide)
      have e34 : M9 34 = M 34 := fr 34 (by decide) (by decide)
      have ti := tnA_inI (M := M) (nd := nd) h1.1 i0.1
      have pg : i < M 5 0 0 → _ := fun z => hP.1 i i0.1 z
      have ts := tnA_s (M := M) (a := a) (nd := nd) i0.1
      have q7 := bit_01 (M 5 0 3) (M 34 0 i)
      show wpH _ 300 _ 3 _ true 7 [vR 4 0, vI a, vI nd, vI i, vU] [] _ Q
      conv => whnf
      repeat' first
        | (refine And.intro (fun h => ?_) (fun h => ?_) <;> (try simp (disch := decide) only [cmp3_lt, cmp3_ge, cmp3_gt, cmp3_le, cmp3_eq, ms_q, ms_f, mf_q, mf_f, mc_q, mc_f, and_self, and_true, true_and, and_false, false_and, or_true, true_or, or_false, false_or, if_true, if_false, not_true_eq_false, not_false_eq_true, eq_self, reduceIte, Int.reduceEq, Int.reduceLT, Int.reduceLE, Int.reduceNeg, Int.reduceAdd, Int.reduceSub, Int.reduceMul, Int.add_sub_cancel] at h) <;> (try simp (disch := omega) only [w32_e, w64_e, td_pos, tm_pos, Int.add_sub_cancel, e5, e30, e32, e34, nt, bit_e] at h) <;> first | exact absurd rfl h | exact absurd h (by decide) | (exfalso; omega) | (conv => whnf))
        | (refine And.intro (by first | omega | ((try simp (disch := decide) only [cmp3_lt, cmp3_ge, cmp3_gt, cmp3_le, cmp3_eq, ms_q, ms_f, mf_q, mf_f, mc_q, mc_f, and_self, and_true, true_and, and_false, false_and, or_true, true_or, or_false, false_or, if_true, if_false, not_true_eq_false, not_false_eq_true, eq_self, reduceIte, Int.reduceEq, Int.reduceLT, Int.reduceLE, Int.reduceNeg, Int.reduceAdd, Int.reduceSub, Int.reduceMul, Int.add_sub_cancel]); (try simp (disch := omega) only [w32_e, w64_e, td_pos, tm_pos, Int.add_sub_cancel, e5, e30, e32, e34, nt, bit_e]); first | assumption | omega) | ((try simp (disch := decide) only [cmp3_lt, cmp3_ge, cmp3_gt, cmp3_le, cmp3_eq, ms_q, ms_f, mf_q, mf_f, mc_q, mc_f, and_self, and_true, true_and, and_false, false_and, or_true, true_or, or_false, false_or, if_true, if_false, not_true_eq_false, not_false_eq_true, eq_self, reduceIte, Int.reduceEq, Int.reduceLT, Int.reduceLE, Int.reduceNeg, Int.reduceAdd, Int.reduceSub, Int.reduceMul, Int.add_sub_cancel]); (try simp (disch := omega) only [w32_e, w64_e, td_pos, tm_pos, Int.add_sub_cancel, e5, e30, e32, e34, nt, bit_e]); ((repeat' (first | assumption | omega | with_reducible rfl | apply And.intro)); done))) ?_; conv => whnf)
        | (intro v; intro hv; conv => whnf)
      all_goals first
        | (have ex := tnA_to (M := M) (nd := nd) (a := a) i0.1 i0.2 (by omega)
           refine Eq.mp (congrArg (fun z => Q (some (vI z)) M9) ?_) (hQ M9 ⟨fr, f7, by rw [ex]; exact nt, by rw [ex]; exact rw_⟩)
           rw [ex]
           first | (rw [if_pos (by omega)]; done) | (rw [if_neg (by omega)]; done))
        | (have z1 : i < M 5 0 0 := by omega
           by_cases hc : (tnA M a nd i).1 < a ∧ bitI (M 5 0 3) (M 34 0 i) = 0 ∧ M 5 0 2 ≤ M 32 0 (M 34 0 i) ∧ nd ≤ M 30 0 (M 34 0 i)
           · first
               | (exfalso; omega)
               | (unfold tnS at ts
                  rw [if_pos hc] at ts
                  refine ⟨_, ?_, _, rfl, rfl, ?_, ?_, ?_, ?_, ?_⟩
                  · ((try simp (disch := decide) only [cmp3_lt, cmp3_ge, cmp3_gt, cmp3_le, cmp3_eq, ms_q, ms_f, mf_q, mf_f, mc_q, mc_f, and_self, and_true, true_and, and_false, false_and, or_true, true_or, or_false, false_or, if_true, if_false, not_true_eq_false, not_false_eq_true, eq_self, reduceIte, Int.reduceEq, Int.reduceLT, Int.reduceLE, Int.reduceNeg, Int.reduceAdd, Int.reduceSub, Int.reduceMul, Int.add_sub_cancel]); (try simp (disch := omega) only [w32_e, w64_e, td_pos, tm_pos, Int.add_sub_cancel, e5, e30, e32, e34, nt, bit_e])) <;> omega
                  · ((try simp (disch := decide) only [cmp3_lt, cmp3_ge, cmp3_gt, cmp3_le, cmp3_eq, ms_q, ms_f, mf_q, mf_f, mc_q, mc_f, and_self, and_true, true_and, and_false, false_and, or_true, true_or, or_false, false_or, if_true, if_false, not_true_eq_false, not_false_eq_true, eq_self, reduceIte, Int.reduceEq, Int.reduceLT, Int.reduceLE, Int.reduceNeg, Int.reduceAdd, Int.reduceSub, Int.reduceMul, Int.add_sub_cancel]); (try simp (disch := omega) only [w32_e, w64_e, td_pos, tm_pos, Int.add_sub_cancel, e5, e30, e32, e34, nt, bit_e])) <;> omega
                  · intro p z0 z1; rw [ms_q z0, ms_q z1]; exact fr p z0 z1
                  · intro x f zf
                    simp (disch := decide) only [ms_q, ms_f, mf_q, mf_f, mc_q, mc_f]
                    rw [if_neg (by omega)]
                    exact f7 x f zf
                  · ((try simp (disch := decide) only [cmp3_lt, cmp3_ge, cmp3_gt, cmp3_le, cmp3_eq, ms_q, ms_f, mf_q, mf_f, mc_q, mc_f, and_self, and_true, true_and, and_false, false_and, or_true, true_or, or_false, false_or, if_true, if_false, not_true_eq_false, not_false_eq_true, eq_self, reduceIte, Int.reduceEq, Int.reduceLT, Int.reduceLE, Int.reduceNeg, Int.reduceAdd, Int.reduceSub, Int.reduceMul, Int.add_sub_cancel]); (try simp (disch := omega) only [w32_e, w64_e, td_pos, tm_pos, Int.add_sub_cancel, e5, e30, e32, e34, nt, bit_e]))
                    rw [ts]
                  · intro j j0 j1
                    (try simp (disch := omega) only [w32_e] at j1)
                    rw [ts] at j1
                    simp only [] at j1
                    ((try simp (disch := decide) only [cmp3_lt, cmp3_ge, cmp3_gt, cmp3_le, cmp3_eq, ms_q, ms_f, mf_q, mf_f, mc_q, mc_f, and_self, and_true, true_and, and_false, false_and, or_true, true_or, or_false, false_or, if_true, if_false, not_true_eq_false, not_false_eq_true, eq_self, reduceIte, Int.reduceEq, Int.reduceLT, Int.reduceLE, Int.reduceNeg, Int.reduceAdd, Int.reduceSub, Int.reduceMul, Int.add_sub_cancel]); (try simp (disch := omega) only [w32_e, w64_e, td_pos, tm_pos, Int.add_sub_cancel, e5, e30, e32, e34, nt, bit_e]))
                    rw [ts]
                    unfold updI
                    by_cases e : j = (tnA M a nd i).1
                    · simp only [if_pos e]
                    · simp only [if_neg e]
                      exact rw_ j j0 (by omega))
           · first
               | (exfalso; omega)
               | (unfold tnS at ts
                  rw [if_neg hc] at ts
                  refine ⟨_, ?_, _, rfl, rfl, ?_, ?_, ?_, ?_, ?_⟩
                  · ((try simp (disch := decide) only [cmp3_lt, cmp3_ge, cmp3_gt, cmp3_le, cmp3_eq, ms_q, ms_f, mf_q, mf_f, mc_q, mc_f, and_self, and_true, true_and, and_false, false_and, or_true, true_or, or_false, false_or, if_true, if_false, not_true_eq_false, not_false_eq_true, eq_self, reduceIte, Int.reduceEq, Int.reduceLT, Int.reduceLE, Int.reduceNeg, Int.reduceAdd, Int.reduceSub, Int.reduceMul, Int.add_sub_cancel]); (try simp (disch := omega) only [w32_e, w64_e, td_pos, tm_pos, Int.add_sub_cancel, e5, e30, e32, e34, nt, bit_e])) <;> omega
                  · ((try simp (disch := decide) only [cmp3_lt, cmp3_ge, cmp3_gt, cmp3_le, cmp3_eq, ms_q, ms_f, mf_q, mf_f, mc_q, mc_f, and_self, and_true, true_and, and_false, false_and, or_true, true_or, or_false, false_or, if_true, if_false, not_true_eq_false, not_false_eq_true, eq_self, reduceIte, Int.reduceEq, Int.reduceLT, Int.reduceLE, Int.reduceNeg, Int.reduceAdd, Int.reduceSub, Int.reduceMul, Int.add_sub_cancel]); (try simp (disch := omega) only [w32_e, w64_e, td_pos, tm_pos, Int.add_sub_cancel, e5, e30, e32, e34, nt, bit_e])) <;> omega
                  · first | exact fr | (exfalso; omega)
                  · first | exact f7 | (exfalso; omega)
                  · ((try simp (disch := decide) only [cmp3_lt, cmp3_ge, cmp3_gt, cmp3_le, cmp3_eq, ms_q, ms_f, mf_q, mf_f, mc_q, mc_f, and_self, and_true, true_and, and_false, false_and, or_true, true_or, or_false, false_or, if_true, if_false, not_true_eq_false, not_false_eq_true, eq_self, reduceIte, Int.reduceEq, Int.reduceLT, Int.reduceLE, Int.reduceNeg, Int.reduceAdd, Int.reduceSub, Int.reduceMul, Int.add_sub_cancel]); (try simp (disch := omega) only [w32_e, w64_e, td_pos, tm_pos, Int.add_sub_cancel, e5, e30, e32, e34, nt, bit_e]))
                    rw [ts]
                  · intro j j0 j1
                    (try simp (disch := omega) only [w32_e] at j1)
                    rw [ts] at j1
                    ((try simp (disch := decide) only [cmp3_lt, cmp3_ge, cmp3_gt, cmp3_le, cmp3_eq, ms_q, ms_f, mf_q, mf_f, mc_q, mc_f, and_self, and_true, true_and, and_false, false_and, or_true, true_or, or_false, false_or, if_true, if_false, not_true_eq_false, not_false_eq_true, eq_self, reduceIte, Int.reduceEq, Int.reduceLT, Int.reduceLE, Int.reduceNeg, Int.reduceAdd, Int.reduceSub, Int.reduceMul, Int.add_sub_cancel]); (try simp (disch := omega) only [w32_e, w64_e, td_pos, tm_pos, Int.add_sub_cancel, e5, e30, e32, e34, nt, bit_e]))
                    rw [ts]
                    exact rw_ j j0 j1))
  refine Vd_run (GGn_ok (l := l) (ω := ω)) 300 (hC := key 100) (by decide) ?_
  conv => whnf
  repeat' first
    | (refine And.intro (fun h => ?_) (fun h => ?_) <;> (try simp (disch := decide) only [cmp3_lt, cmp3_ge, cmp3_gt, cmp3_le, cmp3_eq, ms_q, ms_f, mf_q, mf_f, mc_q, mc_f, and_self, and_true, true_and, and_false, false_and, or_true, true_or, or_false, false_or, if_true, if_false, not_true_eq_false, not_false_eq_true, eq_self, reduceIte, Int.reduceEq, Int.reduceLT, Int.reduceLE, Int.reduceNeg, Int.reduceAdd, Int.reduceSub, Int.reduceMul, Int.add_sub_cancel] at h) <;> (try simp (disch := omega) only [w32_e, w64_e, td_pos, tm_pos, Int.add_sub_cancel, e5, e30, e32, e34, nt, bit_e] at h) <;> first | exact absurd rfl h | exact absurd h (by decide) | (exfalso; omega) | (conv => whnf))
    | (refine And.intro (by first | omega | ((try simp (disch := decide) only [cmp3_lt, cmp3_ge, cmp3_gt, cmp3_le, cmp3_eq, ms_q, ms_f, mf_q, mf_f, mc_q, mc_f, and_self, and_true, true_and, and_false, false_and, or_true, true_or, or_false, false_or, if_true, if_false, not_true_eq_false, not_false_eq_true, eq_self, reduceIte, Int.reduceEq, Int.reduceLT, Int.reduceLE, Int.reduceNeg, Int.reduceAdd, Int.reduceSub, Int.reduceMul, Int.add_sub_cancel]); (try simp (disch := omega) only [w32_e, w64_e, td_pos, tm_pos, Int.add_sub_cancel, e5, e30, e32, e34, nt, bit_e]); first | assumption | omega) | ((try simp (disch := decide) only [cmp3_lt, cmp3_ge, cmp3_gt, cmp3_le, cmp3_eq, ms_q, ms_f, mf_q, mf_f, mc_q, mc_f, and_self, and_true, true_and, and_false, false_and, or_true, true_or, or_false, false_or, if_true, if_false, not_true_eq_false, not_false_eq_true, eq_self, reduceIte, Int.reduceEq, Int.reduceLT, Int.reduceLE, Int.reduceNeg, Int.reduceAdd, Int.reduceSub, Int.reduceMul, Int.add_sub_cancel]); (try simp (disch := omega) only [w32_e, w64_e, td_pos, tm_pos, Int.add_sub_cancel, e5, e30, e32, e34, nt, bit_e]); ((repeat' (first | assumption | omega | with_reducible rfl | apply And.intro)); done))) ?_; conv => whnf)
    | (intro v; intro hv; conv => whnf)
  all_goals refine ⟨_, ?_, _, rfl, rfl, ?_, ?_, ?_, ?_, ?_⟩
  all_goals first
    | omega
    | (intro p z0 z1; rw [ms_q z0])
    | (intro x f zf; simp (disch := decide) only [ms_q, ms_f, mf_q, mf_f, mc_q, mc_f]; rw [if_neg (by omega)])
    | (simp (disch := decide) only [ms_q, ms_f, mf_q, mf_f, mc_q, mc_f, and_self, and_true, true_and, and_false, false_and, or_true, true_or, or_false, false_or, if_true, if_false, not_true_eq_false, not_false_eq_true, eq_self, reduceIte, Int.reduceEq, Int.reduceLT, Int.reduceLE, Int.reduceNeg, Int.reduceAdd, Int.reduceSub, Int.reduceMul, Int.add_sub_cancel]; rfl)
    | (intro j j0 j1; exact absurd j1 (by show ¬ j < 0; omega))
