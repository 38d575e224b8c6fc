/-! ===== text, the class: readAll (wip/gen/p62.py) ===== -/
def GLW : List (Nat × Nat × Spec1) := (57, 7, sp_rtC) :: GLV
abbrev GGW : Env1 := fun n => getG n GLW
theorem GGW_all {l : Launch} {ω : WP} : ∀ e ∈ GLW, ∀ as M Q, e.2.2 as M Q → Vd l ω e.2.1 e.1 as M Q := List.forall_mem_cons.mpr ⟨ok_rtC, GGV_all⟩
theorem GGW_ok {l : Launch} {ω : WP} : GOK l ω GGW := getG_ok GLW GGW_all

theorem sgm_6 {M : Mem} {x : Int} : sgm (mset M 7 0 6 x) = sgm M := by
  unfold sgm
  simp (disch := decide) only [ms_q, ms_f, true_and, Int.reduceEq, if_false, reduceIte]
theorem sgm_rt {M v : Mem} (h : ((∀ p, p ≠ 7 → v p = M p) ∧ (∀ j, j ≠ 2 → j ≠ 3 → j ≠ 4 → j ≠ 5 → v 7 0 j = M 7 0 j) ∧ (v 7 0 2 = tkX (M 40 0) (M 7 0 1) (M 7 0 2) ∧ v 7 0 3 = tkS (M 40 0) (M 7 0 1) (M 7 0 2) ∧ v 7 0 4 = tkT (M 40 0) (M 7 0 1) (M 7 0 2)) ∧ (v 7 0 4 = 25 → v 7 0 5 = tkV (M 40 0) (M 7 0 1) (M 7 0 2) ∧ 0 ≤ v 7 0 5 ∧ v 7 0 5 ≤ 1000000))) : sgm v = sgm M := by
  unfold sgm
  rw [h.1 41 (by decide), h.1 44 (by decide), h.1 42 (by decide), h.1 43 (by decide), h.2.1 8 (by decide) (by decide) (by decide) (by decide), h.2.1 13 (by decide) (by decide) (by decide) (by decide), h.2.1 14 (by decide) (by decide) (by decide) (by decide), h.2.1 15 (by decide) (by decide) (by decide) (by decide), h.2.1 16 (by decide) (by decide) (by decide) (by decide), h.2.1 17 (by decide) (by decide) (by decide) (by decide), h.2.1 11 (by decide) (by decide) (by decide) (by decide)]
theorem sgm_ln {M : Mem} : (cO (sgm M)).length = (M 7 0 8).toNat ∧ (cW (sgm M)).length = (M 7 0 13).toNat := ⟨stk_len _, stk_len _⟩
theorem st_tk {M v : Mem} (h : ((∀ p, p ≠ 7 → v p = M p) ∧ (∀ j, j ≠ 2 → j ≠ 3 → j ≠ 4 → j ≠ 5 → v 7 0 j = M 7 0 j) ∧ (v 7 0 2 = tkX (M 40 0) (M 7 0 1) (M 7 0 2) ∧ v 7 0 3 = tkS (M 40 0) (M 7 0 1) (M 7 0 2) ∧ v 7 0 4 = tkT (M 40 0) (M 7 0 1) (M 7 0 2)) ∧ (v 7 0 4 = 25 → v 7 0 5 = tkV (M 40 0) (M 7 0 1) (M 7 0 2) ∧ 0 ≤ v 7 0 5 ∧ v 7 0 5 ≤ 1000000))) : stp1 (v 7 0 4) (v 7 0 5) (sgm v) = stp1 (tkT (M 40 0) (M 7 0 1) (M 7 0 2)) (tkV (M 40 0) (M 7 0 1) (M 7 0 2)) (sgm M) := by
  rw [sgm_rt h, h.2.2.1.2.2]
  by_cases c : v 7 0 4 = 25
  · rw [(h.2.2.2 c).1]
  · rw [h.2.2.1.2.2] at c
    exact stp1_n c

def sp_raC : Spec1 := fun as M Q => match as with
  | [.inr (.inr (.inl (q0, i0)))] => match Nat.beq q0 7 with
    | true => (i0 = 0 ∧ (0 ≤ (M 7 0 1) ∧ (M 7 0 1) ≤ 240) ∧ (∀ j, 0 ≤ j → j < (M 7 0 1) → 0 ≤ (M 40 0) j ∧ (M 40 0) j ≤ 255)) ∧ ∀ M9, ((∀ p, p ≠ 7 → p ≠ 41 → p ≠ 42 → p ≠ 43 → p ≠ 44 → M9 p = M p) ∧ M9 7 0 1 = (M 7 0 1) ∧ M9 7 0 6 = (rnC (M 40 0) (M 7 0 1) 241 ([], [], 0, M 7 0 15, 0, M 7 0 17, 0, M 42 0, M 43 0) 0).1 ∧ M9 7 0 3 = (rnC (M 40 0) (M 7 0 1) 241 ([], [], 0, M 7 0 15, 0, M 7 0 17, 0, M 42 0, M 43 0) 0).2.1 ∧ ((rnC (M 40 0) (M 7 0 1) 241 ([], [], 0, M 7 0 15, 0, M 7 0 17, 0, M 42 0, M 43 0) 0).1 = 0 → sgm M9 = (rnC (M 40 0) (M 7 0 1) 241 ([], [], 0, M 7 0 15, 0, M 7 0 17, 0, M 42 0, M 43 0) 0).2.2 ∧ 0 ≤ M9 7 0 8 ∧ 0 ≤ M9 7 0 13 ∧ M9 7 0 8 + M9 7 0 13 ≤ 240)) → Q none M9
    | false => False
  | _ => False
theorem ok_raC {l : Launch} {ω : WP} : ∀ as M Q, sp_raC as M Q → Vd l ω 8 56 as M Q := by
  intro as M Q h
  unfold sp_raC at h
  split at h
  case h_2 => exact h.elim
  rename_i q0 i0 
  cases hb : Nat.beq q0 7 with
  | false => rw [hb] at h; exact h.elim
  | true =>
  rw [hb] at h
  obtain ⟨⟨hi, hu, ht⟩, hQ⟩ := h
  have hb := beq_eq hb
  subst hb
  subst hi
  refine Vd.ok fun hok hal => ?_
  have key : ∀ n9, CutOK l ω 8 56 (cutL [(39, [0, 1, 2], fun kk vs M9 => ∃ m k : Int, vs = [vR 7 0, vI m, vI k] ∧ kk = (1000 - k).toNat ∧ (∀ p, p ≠ 7 → p ≠ 41 → p ≠ 42 → p ≠ 43 → p ≠ 44 → M9 p = M p) ∧ M9 7 0 1 = (M 7 0 1) ∧ ((m = 1 ∧ (0 ≤ k ∧ k ≤ M9 7 0 2 ∧ M9 7 0 2 ≤ (M 7 0 1)) ∧ CI (sgm M9) ∧ (0 ≤ M9 7 0 8 ∧ 0 ≤ M9 7 0 13 ∧ M9 7 0 8 + M9 7 0 13 ≤ k) ∧ rnC (M 40 0) (M 7 0 1) (241 - k).toNat (sgm M9) (M9 7 0 2) = (rnC (M 40 0) (M 7 0 1) 241 ([], [], 0, M 7 0 15, 0, M 7 0 17, 0, M 42 0, M 43 0) 0)) ∨ (m = 0 ∧ (0 ≤ k ∧ k ≤ 241) ∧ M9 7 0 6 = (rnC (M 40 0) (M 7 0 1) 241 ([], [], 0, M 7 0 15, 0, M 7 0 17, 0, M 42 0, M 43 0) 0).1 ∧ M9 7 0 3 = (rnC (M 40 0) (M 7 0 1) 241 ([], [], 0, M 7 0 15, 0, M 7 0 17, 0, M 42 0, M 43 0) 0).2.1 ∧ ((rnC (M 40 0) (M 7 0 1) 241 ([], [], 0, M 7 0 15, 0, M 7 0 17, 0, M 42 0, M 43 0) 0).1 = 0 → sgm M9 = (rnC (M 40 0) (M 7 0 1) 241 ([], [], 0, M 7 0 15, 0, M 7 0 17, 0, M 42 0, M 43 0) 0).2.2 ∧ 0 ≤ M9 7 0 8 ∧ 0 ≤ M9 7 0 13 ∧ M9 7 0 8 + M9 7 0 13 ≤ 240))))] n9) Q := by
    refine loops (GGW_ok (l := l) (ω := ω)) 400 _ ?_
    refine List.forall_mem_cons.mpr ⟨?_, fun _ h => absurd h List.not_mem_nil⟩
    · rintro n9 vs M9 ⟨m, k, rfl, rfl, fr, fu, hd⟩
      have e40 : M9 40 = M 40 := fr 40 (by decide) (by decide) (by decide) (by decide) (by decide)
      have hpre2 : ∀ v : Mem, m = 1 → ((∀ p, p ≠ 7 → v p = M9 p) ∧ (∀ j, j ≠ 2 → j ≠ 3 → j ≠ 4 → j ≠ 5 → v 7 0 j = M9 7 0 j) ∧ (v 7 0 2 = tkX (M9 40 0) (M9 7 0 1) (M9 7 0 2) ∧ v 7 0 3 = tkS (M9 40 0) (M9 7 0 1) (M9 7 0 2) ∧ v 7 0 4 = tkT (M9 40 0) (M9 7 0 1) (M9 7 0 2)) ∧ (v 7 0 4 = 25 → v 7 0 5 = tkV (M9 40 0) (M9 7 0 1) (M9 7 0 2) ∧ 0 ≤ v 7 0 5 ∧ v 7 0 5 ≤ 1000000)) → CI (sgm v) ∧ (0 ≤ v 7 0 8 ∧ 0 ≤ v 7 0 13 ∧ v 7 0 8 + v 7 0 13 ≤ 240 ∧ (v 7 0 4 = 26 ∨ v 7 0 8 + v 7 0 13 < 240)) ∧ (0 ≤ v 7 0 4 ∧ v 7 0 4 ≤ 27) ∧ (v 7 0 4 = 25 → 0 ≤ v 7 0 5 ∧ v 7 0 5 ≤ 1000000) := fun v hm hp => by
        rcases hd with ⟨-, k0, hCI, h8, -⟩ | ⟨z, -⟩
        · have q := hp.2.1
          have q8 := q 8 (by decide) (by decide) (by decide) (by decide)
          have q13 := q 13 (by decide) (by decide) (by decide) (by decide)
          have tt := tkT_in (T := M9 40 0) (u := M9 7 0 1) (p := M9 7 0 2)
          have ti := tkn_in (T := M9 40 0) (u := M9 7 0 1) (p := M9 7 0 2) (by omega)
          have q4 := hp.2.2.1.2.2
          refine ⟨by rw [sgm_rt hp]; exact hCI, by omega, by omega, fun z => (hp.2.2.2 z).2⟩
        · omega
      have hm : m = 1 ∨ m = 0 := hd.elim (fun z => Or.inl z.1) (fun z => Or.inr z.1)
      have hpre1 : m = 1 → (0 ≤ M9 7 0 2 ∧ M9 7 0 2 ≤ M9 7 0 1 ∧ M9 7 0 1 ≤ 240) ∧ (∀ j, 0 ≤ j → j < M9 7 0 1 → 0 ≤ M9 40 0 j ∧ M9 40 0 j ≤ 255) := fun hm => by
        rw [fu, e40]
        rcases hd with ⟨-, k0, hCI, h8, -⟩ | ⟨z, -⟩
        · exact ⟨by omega, ht⟩
        · omega
      have hstep : ∀ v w : Mem, m = 1 → ((∀ p, p ≠ 7 → v p = M9 p) ∧ (∀ j, j ≠ 2 → j ≠ 3 → j ≠ 4 → j ≠ 5 → v 7 0 j = M9 7 0 j) ∧ (v 7 0 2 = tkX (M9 40 0) (M9 7 0 1) (M9 7 0 2) ∧ v 7 0 3 = tkS (M9 40 0) (M9 7 0 1) (M9 7 0 2) ∧ v 7 0 4 = tkT (M9 40 0) (M9 7 0 1) (M9 7 0 2)) ∧ (v 7 0 4 = 25 → v 7 0 5 = tkV (M9 40 0) (M9 7 0 1) (M9 7 0 2) ∧ 0 ≤ v 7 0 5 ∧ v 7 0 5 ≤ 1000000)) → ((∀ p, p ≠ 7 → p ≠ 41 → p ≠ 42 → p ≠ 43 → p ≠ 44 → w p = v p) ∧ (∀ j, j ≠ 8 → j ≠ 11 → j ≠ 13 → j ≠ 14 → j ≠ 15 → j ≠ 16 → j ≠ 17 → w 7 0 j = v 7 0 j) ∧ ((stp1 (v 7 0 4) (v 7 0 5) (sgm v)).1 = 0 → sgm w = (stp1 (v 7 0 4) (v 7 0 5) (sgm v)).2 ∧ 0 ≤ w 7 0 8 ∧ 0 ≤ w 7 0 13)) → (∀ p, p ≠ 7 → p ≠ 41 → p ≠ 42 → p ≠ 43 → p ≠ 44 → w p = M p) ∧ w 7 0 1 = (M 7 0 1) ∧ (0 ≤ k ∧ k ≤ 240) ∧ w 7 0 4 = v 7 0 4 ∧ (¬ (stp1 (v 7 0 4) (v 7 0 5) (sgm v)).1 = 0 → (rnC (M 40 0) (M 7 0 1) 241 ([], [], 0, M 7 0 15, 0, M 7 0 17, 0, M 42 0, M 43 0) 0).1 = (stp1 (v 7 0 4) (v 7 0 5) (sgm v)).1 ∧ (rnC (M 40 0) (M 7 0 1) 241 ([], [], 0, M 7 0 15, 0, M 7 0 17, 0, M 42 0, M 43 0) 0).2.1 = w 7 0 3) ∧ ((stp1 (v 7 0 4) (v 7 0 5) (sgm v)).1 = 0 → v 7 0 4 = 26 → (rnC (M 40 0) (M 7 0 1) 241 ([], [], 0, M 7 0 15, 0, M 7 0 17, 0, M 42 0, M 43 0) 0) = (0, w 7 0 3, sgm w) ∧ 0 ≤ w 7 0 8 ∧ 0 ≤ w 7 0 13 ∧ w 7 0 8 + w 7 0 13 ≤ 240) ∧ ((stp1 (v 7 0 4) (v 7 0 5) (sgm v)).1 = 0 → ¬ v 7 0 4 = 26 → (k + 1 ≤ w 7 0 2 ∧ w 7 0 2 ≤ (M 7 0 1)) ∧ CI (sgm w) ∧ (0 ≤ w 7 0 8 ∧ 0 ≤ w 7 0 13 ∧ w 7 0 8 + w 7 0 13 ≤ k + 1) ∧ rnC (M 40 0) (M 7 0 1) (241 - (k + 1)).toNat (sgm w) (w 7 0 2) = (rnC (M 40 0) (M 7 0 1) 241 ([], [], 0, M 7 0 15, 0, M 7 0 17, 0, M 42 0, M 43 0) 0)) := fun v w hm hp hw => by
        rcases hd with ⟨-, k0, hCI, h8, hr⟩ | ⟨z, -⟩
        · have st := st_tk hp
          have sr := sgm_rt hp
          have tt := tkT_in (T := M9 40 0) (u := M9 7 0 1) (p := M9 7 0 2)
          have ti := tkn_in (T := M9 40 0) (u := M9 7 0 1) (p := M9 7 0 2) (by omega)
          have w1 := hw.2.1 1 (by decide) (by decide) (by decide) (by decide) (by decide) (by decide) (by decide)
          have w2 := hw.2.1 2 (by decide) (by decide) (by decide) (by decide) (by decide) (by decide) (by decide)
          have w3 := hw.2.1 3 (by decide) (by decide) (by decide) (by decide) (by decide) (by decide) (by decide)
          have w4 := hw.2.1 4 (by decide) (by decide) (by decide) (by decide) (by decide) (by decide) (by decide)
          have v1 := hp.2.1 1 (by decide) (by decide) (by decide) (by decide)
          have v2 := hp.2.2.1.1
          have v3 := hp.2.2.1.2.1
          have v4 := hp.2.2.1.2.2
          have en : (241 - k).toNat = (241 - (k + 1)).toNat + 1 := by omega
          rw [en, rnC] at hr
          rw [e40, fu] at st v2 v3 v4 tt ti
          rw [← st, ← v3, ← v4, ← v2] at hr
          rw [← v2, ← v3, ← v4] at ti
          rw [← v4] at tt
          have lw := sgm_ln (M := w)
          have lm := sgm_ln (M := M9)
          refine ⟨fun p a b c d e => by rw [hw.1 p a b c d e, hp.1 p a]; exact fr p a b c d e, by omega, by omega, w4, fun z => ?_, fun z z2 => ?_, fun z z2 => ?_⟩
          · rw [if_pos z] at hr
            rw [← hr, w3]
            exact ⟨rfl, rfl⟩
          · rw [if_neg (fun y => y z), if_pos z2] at hr
            have s := hw.2.2 z
            rw [z2] at s z
            have s2 := stp1_26 z
            rw [z2, s2] at hr
            rw [s2, sr] at s
            rw [← hr, w3, s.1, sr]
            rw [s.1] at lw
            exact ⟨rfl, s.2.1, s.2.2, by omega⟩
          · rw [if_neg (fun y => y z), if_neg z2] at hr
            have s := hw.2.2 z
            have cx := stp1_CI (t := v 7 0 4) (n := v 7 0 5) (s := sgm v) (by rw [sr]; exact hCI) (by omega) z
            rw [← s.1, sr] at cx
            have cx2 := cx.2
            refine ⟨by omega, cx.1, by omega, ?_⟩
            rw [w2, s.1]
            exact hr
        · omega
      show wpH _ 400 _ 56 _ true 39 [vR 7 0, vI m, vI k] [] _ Q
      conv => whnf
      repeat' first
        | (refine And.intro (fun h => ?_) (fun h => ?_) <;> (try simp (disch := decide) only [cmp3_lt, cmp3_ge, cmp3_gt, cmp3_le, cmp3_eq, ms_q, ms_f, mf_q, mf_f, mc_q, mc_f, and_self, and_true, true_and, and_false, false_and, or_true, true_or, or_false, false_or, if_true, if_false, not_true_eq_false, not_false_eq_true, eq_self, reduceIte, Int.reduceEq, Int.reduceLT, Int.reduceLE, Int.reduceNeg, Int.reduceAdd, Int.reduceSub, Int.reduceMul, Int.add_sub_cancel] at h) <;> (try simp (disch := omega) only [w32_e, w64_e, td_pos, tm_pos, Int.add_sub_cancel] at h) <;> first | exact absurd rfl h | exact absurd h (by decide) | (exfalso; omega) | (conv => whnf))
        | (refine And.intro (by first | omega | ((try simp (disch := decide) only [cmp3_lt, cmp3_ge, cmp3_gt, cmp3_le, cmp3_eq, ms_q, ms_f, mf_q, mf_f, mc_q, mc_f, and_self, and_true, true_and, and_false, false_and, or_true, true_or, or_false, false_or, if_true, if_false, not_true_eq_false, not_false_eq_true, eq_self, reduceIte, Int.reduceEq, Int.reduceLT, Int.reduceLE, Int.reduceNeg, Int.reduceAdd, Int.reduceSub, Int.reduceMul, Int.add_sub_cancel]); (try simp (disch := omega) only [w32_e, w64_e, td_pos, tm_pos, Int.add_sub_cancel]); first | assumption | omega) | exact ⟨rfl, hpre1 (by omega)⟩ | exact ⟨rfl, hpre2 _ (by omega) hv⟩ | ((try simp (disch := decide) only [cmp3_lt, cmp3_ge, cmp3_gt, cmp3_le, cmp3_eq, ms_q, ms_f, mf_q, mf_f, mc_q, mc_f, and_self, and_true, true_and, and_false, false_and, or_true, true_or, or_false, false_or, if_true, if_false, not_true_eq_false, not_false_eq_true, eq_self, reduceIte, Int.reduceEq, Int.reduceLT, Int.reduceLE, Int.reduceNeg, Int.reduceAdd, Int.reduceSub, Int.reduceMul, Int.add_sub_cancel]); (try simp (disch := omega) only [w32_e, w64_e, td_pos, tm_pos, Int.add_sub_cancel]); ((repeat' (first | assumption | omega | with_reducible rfl | apply And.intro)); done))) ?_; conv => whnf)
        | (intro v; intro hv; conv => whnf)
      all_goals first
        | (rcases hd with ⟨z, k0, -⟩ | ⟨-, k0, h6, h3, hz⟩
           · exfalso
             omega
           · exact hQ M9 ⟨fr, fu, h6, h3, hz⟩)
        | (have m1 : m = 1 := hm.resolve_right (by omega)
           obtain ⟨s1, s2, s3, s4, s5, s6, s7⟩ := hstep _ v m1 (by assumption) hv
           have ek : w32 (k + 1) = k + 1 := w32_e (by omega) (by omega)
           first
             | (have q := s5 h
                refine ⟨_, ?_, 0, k + 1, by rw [ek], rfl, fun p a b c d e => by rw [ms_q a]; exact s1 p a b c d e, by rw [ms_f, if_neg (fun z => absurd z.2 (by decide))]; exact s2, Or.inr ⟨rfl, by omega, ?_, ?_, fun z => absurd (q.1.symm.trans z) h⟩⟩
                · omega
                · rw [ms_f, if_pos ⟨rfl, rfl⟩]
                  exact q.1.symm
                · rw [ms_f, if_neg (fun z => absurd z.2 (by decide))]
                  exact q.2.symm)
             | (have q := s6 (by assumption) (by omega)
                have hF : _ = (0 : Int) := (by assumption : (stp1 _ _ (sgm _)).1 = 0)
                refine ⟨_, ?_, 0, k + 1, by rw [ek], rfl, fun p a b c d e => by rw [ms_q a]; exact s1 p a b c d e, by rw [ms_f, if_neg (fun z => absurd z.2 (by decide))]; exact s2, Or.inr ⟨rfl, by omega, ?_, ?_, fun z => ?_⟩⟩
                · omega
                · rw [ms_f, if_pos ⟨rfl, rfl⟩, q.1]
                  exact hF
                · rw [ms_f, if_neg (fun z => absurd z.2 (by decide)), q.1]
                · rw [sgm_6, ms_f, if_neg (fun z => absurd z.2 (by decide)), ms_f, if_neg (fun z => absurd z.2 (by decide)), q.1]
                  exact ⟨rfl, q.2⟩)
             | (have q := s7 (by assumption) (by omega)
                refine ⟨_, ?_, 1, k + 1, by rw [ek], rfl, fun p a b c d e => by rw [ms_q a]; exact s1 p a b c d e, by rw [ms_f, if_neg (fun z => absurd z.2 (by decide))]; exact s2, Or.inl ⟨rfl, ?_, ?_, ?_, ?_⟩⟩
                · omega
                · rw [ms_f, if_neg (fun z => absurd z.2 (by decide))]
                  omega
                · rw [sgm_6]
                  exact q.2.1
                · rw [ms_f, if_neg (fun z => absurd z.2 (by decide)), ms_f, if_neg (fun z => absurd z.2 (by decide))]
                  omega
                · rw [sgm_6, ms_f, if_neg (fun z => absurd z.2 (by decide))]
                  exact q.2.2.2))
  refine Vd_run (GGW_ok (l := l) (ω := ω)) 400 (hC := key 5000) (by decide) ?_
  conv => whnf
  repeat' first
    | (refine And.intro (fun h => ?_) (fun h => ?_) <;> (try simp (disch := decide) only [cmp3_lt, cmp3_ge, cmp3_gt, cmp3_le, cmp3_eq, ms_q, ms_f, mf_q, mf_f, mc_q, mc_f, and_self, and_true, true_and, and_false, false_and, or_true, true_or, or_false, false_or, if_true, if_false, not_true_eq_false, not_false_eq_true, eq_self, reduceIte, Int.reduceEq, Int.reduceLT, Int.reduceLE, Int.reduceNeg, Int.reduceAdd, Int.reduceSub, Int.reduceMul, Int.add_sub_cancel] at h) <;> (try simp (disch := omega) only [w32_e, w64_e, td_pos, tm_pos, Int.add_sub_cancel] at h) <;> first | exact absurd rfl h | exact absurd h (by decide) | (exfalso; omega) | (conv => whnf))
    | (refine And.intro (by first | omega | ((try simp (disch := decide) only [cmp3_lt, cmp3_ge, cmp3_gt, cmp3_le, cmp3_eq, ms_q, ms_f, mf_q, mf_f, mc_q, mc_f, and_self, and_true, true_and, and_false, false_and, or_true, true_or, or_false, false_or, if_true, if_false, not_true_eq_false, not_false_eq_true, eq_self, reduceIte, Int.reduceEq, Int.reduceLT, Int.reduceLE, Int.reduceNeg, Int.reduceAdd, Int.reduceSub, Int.reduceMul, Int.add_sub_cancel]); (try simp (disch := omega) only [w32_e, w64_e, td_pos, tm_pos, Int.add_sub_cancel]); first | assumption | omega) | exact ⟨rfl, hpre1 (by omega)⟩ | exact ⟨rfl, hpre2 _ (by omega) hv⟩ | ((try simp (disch := decide) only [cmp3_lt, cmp3_ge, cmp3_gt, cmp3_le, cmp3_eq, ms_q, ms_f, mf_q, mf_f, mc_q, mc_f, and_self, and_true, true_and, and_false, false_and, or_true, true_or, or_false, false_or, if_true, if_false, not_true_eq_false, not_false_eq_true, eq_self, reduceIte, Int.reduceEq, Int.reduceLT, Int.reduceLE, Int.reduceNeg, Int.reduceAdd, Int.reduceSub, Int.reduceMul, Int.add_sub_cancel]); (try simp (disch := omega) only [w32_e, w64_e, td_pos, tm_pos, Int.add_sub_cancel]); ((repeat' (first | assumption | omega | with_reducible rfl | apply And.intro)); done))) ?_; conv => whnf)
    | (intro v; intro hv; conv => whnf)
  refine ⟨_, ?_, 1, 0, rfl, rfl, fun p a b c d e => ?_, ?_, Or.inl ⟨rfl, ?_, ?_, ?_, ?_⟩⟩
  · omega
  · simp (disch := assumption) only [ms_q]
  · simp (disch := decide) only [ms_q, ms_f, true_and, and_true, Int.reduceEq, if_true, if_false, reduceIte]
  · simp (disch := decide) only [ms_q, ms_f, true_and, and_true, Int.reduceEq, if_true, if_false, reduceIte]
    omega
  · have e : sgm (mset (mset (mset (mset (mset (mset (mset M 7 0 2 0) 7 0 8 0) 7 0 11 0) 7 0 13 0) 7 0 16 0) 7 0 6 0) 7 0 14 0) = ([], [], 0, M 7 0 15, 0, M 7 0 17, 0, M 42 0, M 43 0) := by
      unfold sgm
      simp (disch := decide) only [ms_q, ms_f, true_and, and_true, Int.reduceEq, if_true, if_false, reduceIte]
      rfl
    rw [e]
    refine ⟨rfl, by show (0 : Int) ≤ 0 ∧ (0 : Int) ≤ 6; omega, fun w hw => absurd hw List.not_mem_nil, by show (0 : Int) ≤ 0 ∧ (0 : Int) ≤ 12; omega, by show (0 : Int) ≤ 0 ∧ (0 : Int) ≤ 2; omega, Or.inl rfl, Or.inl rfl⟩
  · simp (disch := decide) only [ms_q, ms_f, true_and, and_true, Int.reduceEq, if_true, if_false, reduceIte]
    omega
  · have e : sgm (mset (mset (mset (mset (mset (mset (mset M 7 0 2 0) 7 0 8 0) 7 0 11 0) 7 0 13 0) 7 0 16 0) 7 0 6 0) 7 0 14 0) = ([], [], 0, M 7 0 15, 0, M 7 0 17, 0, M 42 0, M 43 0) := by
      unfold sgm
      simp (disch := decide) only [ms_q, ms_f, true_and, and_true, Int.reduceEq, if_true, if_false, reduceIte]
      rfl
    rw [e]
    simp (disch := decide) only [ms_q, ms_f, true_and, and_true, Int.reduceEq, if_true, if_false, reduceIte]
    rfl
