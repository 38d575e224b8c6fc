/-! ===== the pair pieces (wip/gen/p38.py) ===== -/
def GLC : List (Nat × Nat × Spec1) := (10, 1, sp_fpC) :: (250, 1, sp_flM) :: GLB
abbrev GGC : Env1 := fun n => getG n GLC
theorem GGC_all {l : Launch} {ω : WP} : ∀ e ∈ GLC, ∀ as M Q, e.2.2 as M Q → Vd l ω e.2.1 e.1 as M Q := List.forall_mem_cons.mpr ⟨ok_fpC, List.forall_mem_cons.mpr ⟨ok_flM, GGB_all⟩⟩
theorem GGC_ok {l : Launch} {ω : WP} : GOK l ω GGC := getG_ok GLC GGC_all

def sp_cpC : Spec1 := fun as M Q => match as with
  | [.inr (.inr (.inl (q0, i0)))] => match Nat.beq q0 12 with
    | true => (i0 = 0 ∧ True) ∧ Q (some (vI (tcN (pcC (M 64 0)) 8))) M
    | false => False
  | _ => False
theorem ok_cpC {l : Launch} {ω : WP} : ∀ as M Q, sp_cpC as M Q → Vd l ω 1 11 as M Q := by
  intro as M Q h
  unfold sp_cpC at h
  split at h
  case h_2 => exact h.elim
  rename_i q0 i0 
  cases hb : Nat.beq q0 12 with
  | false => rw [hb] at h; exact h.elim
  | true =>
  rw [hb] at h
  obtain ⟨⟨hi, _⟩, hQ⟩ := h
  have hb := beq_eq hb
  subst hb
  subst hi
  refine Vd.ok fun hok hal => ?_
  have key : ∀ n9, CutOK l ω 1 11 (cutL [(5, [0, 1, 2], fun kk vs M9 => ∃ t k : Int, vs = [vR 12 0, vI t, vI k] ∧ M = M9 ∧ kk = (100 - k).toNat ∧ (6 ≤ k ∧ k ≤ 14) ∧ t = tcN (pcC (M 64 0)) (k - 6))] n9) Q := by
    refine loops (GGC_ok (l := l) (ω := ω)) 300 _ ?_
    refine List.forall_mem_cons.mpr ⟨?_, fun _ h => absurd h List.not_mem_nil⟩
    · rintro n9 vs M9 ⟨t, k, rfl, rfl, rfl, k0, ht⟩
      have ti := tcN_inI (f := pcC (M 64 0)) (n := k - 6) (by omega)
      have ek : w32 (k + 1) = k + 1 := w32_e (by omega) (by omega)
      have et : w32 (t + 1) = t + 1 := w32_e (by omega) (by omega)
      have es : k + 1 - 6 = (k - 6) + 1 := by omega
      have e6 : 6 + (k - 6) = k := by omega
      show wpH _ 300 _ 11 _ true 5 [vR 12 0, vI t, vI k] [] _ Q
      conv => whnf
      repeat' first
        | (refine And.intro (fun h => ?_) (fun h => ?_) <;> (try simp (disch := decide) only [cmp3_lt, cmp3_ge, cmp3_gt, cmp3_le, cmp3_eq, ms_q, ms_f, mf_q, mf_f, mc_q, mc_f, and_self, and_true, true_and, and_false, false_and, or_true, true_or, or_false, false_or, if_true, if_false, not_true_eq_false, not_false_eq_true, eq_self, reduceIte, Int.reduceEq, Int.reduceLT, Int.reduceLE, Int.reduceNeg, Int.reduceAdd, Int.reduceSub, Int.reduceMul, Int.add_sub_cancel] at h) <;> (try simp (disch := omega) only [w32_e, w64_e, td_pos, tm_pos, Int.add_sub_cancel] at h) <;> first | exact absurd rfl h | exact absurd h (by decide) | (exfalso; omega) | (conv => whnf))
        | (refine And.intro (by first | omega | ((try simp (disch := decide) only [cmp3_lt, cmp3_ge, cmp3_gt, cmp3_le, cmp3_eq, ms_q, ms_f, mf_q, mf_f, mc_q, mc_f, and_self, and_true, true_and, and_false, false_and, or_true, true_or, or_false, false_or, if_true, if_false, not_true_eq_false, not_false_eq_true, eq_self, reduceIte, Int.reduceEq, Int.reduceLT, Int.reduceLE, Int.reduceNeg, Int.reduceAdd, Int.reduceSub, Int.reduceMul, Int.add_sub_cancel]); (try simp (disch := omega) only [w32_e, w64_e, td_pos, tm_pos, Int.add_sub_cancel]); first | assumption | omega) | ((try simp (disch := decide) only [cmp3_lt, cmp3_ge, cmp3_gt, cmp3_le, cmp3_eq, ms_q, ms_f, mf_q, mf_f, mc_q, mc_f, and_self, and_true, true_and, and_false, false_and, or_true, true_or, or_false, false_or, if_true, if_false, not_true_eq_false, not_false_eq_true, eq_self, reduceIte, Int.reduceEq, Int.reduceLT, Int.reduceLE, Int.reduceNeg, Int.reduceAdd, Int.reduceSub, Int.reduceMul, Int.add_sub_cancel]); (try simp (disch := omega) only [w32_e, w64_e, td_pos, tm_pos, Int.add_sub_cancel]); ((repeat' (first | assumption | omega | with_reducible rfl | apply And.intro)); done))) ?_; conv => whnf)
        | (intro v; intro hv; conv => whnf)
      all_goals first
        | (have e9 : k = 14 := by omega
           rw [e9] at ht
           have ht' : t = tcN (pcC (M 64 0)) 8 := ht
           rw [← ht'] at hQ
           exact hQ)
        | (refine ⟨_, ?_, t + 1, k + 1, by rw [ek, et], rfl, rfl, ⟨by omega, by omega⟩, ?_⟩
           · omega
           · rw [es, tcN_s (by omega), ← ht]
             unfold pcC
             rw [e6, if_pos h, if_neg (by decide)])
        | (refine ⟨_, ?_, t, k + 1, by rw [ek], rfl, rfl, ⟨by omega, by omega⟩, ?_⟩
           · omega
           · rw [es, tcN_s (by omega), ← ht]
             unfold pcC
             rw [e6, if_neg h, if_pos rfl])
  refine Vd_run (GGC_ok (l := l) (ω := ω)) 300 (hC := key 1000) (by decide) ?_
  conv => whnf
  repeat' first
    | (refine And.intro (fun h => ?_) (fun h => ?_) <;> (try simp (disch := decide) only [cmp3_lt, cmp3_ge, cmp3_gt, cmp3_le, cmp3_eq, ms_q, ms_f, mf_q, mf_f, mc_q, mc_f, and_self, and_true, true_and, and_false, false_and, or_true, true_or, or_false, false_or, if_true, if_false, not_true_eq_false, not_false_eq_true, eq_self, reduceIte, Int.reduceEq, Int.reduceLT, Int.reduceLE, Int.reduceNeg, Int.reduceAdd, Int.reduceSub, Int.reduceMul, Int.add_sub_cancel] at h) <;> (try simp (disch := omega) only [w32_e, w64_e, td_pos, tm_pos, Int.add_sub_cancel] at h) <;> first | exact absurd rfl h | exact absurd h (by decide) | (exfalso; omega) | (conv => whnf))
    | (refine And.intro (by first | omega | ((try simp (disch := decide) only [cmp3_lt, cmp3_ge, cmp3_gt, cmp3_le, cmp3_eq, ms_q, ms_f, mf_q, mf_f, mc_q, mc_f, and_self, and_true, true_and, and_false, false_and, or_true, true_or, or_false, false_or, if_true, if_false, not_true_eq_false, not_false_eq_true, eq_self, reduceIte, Int.reduceEq, Int.reduceLT, Int.reduceLE, Int.reduceNeg, Int.reduceAdd, Int.reduceSub, Int.reduceMul, Int.add_sub_cancel]); (try simp (disch := omega) only [w32_e, w64_e, td_pos, tm_pos, Int.add_sub_cancel]); first | assumption | omega) | ((try simp (disch := decide) only [cmp3_lt, cmp3_ge, cmp3_gt, cmp3_le, cmp3_eq, ms_q, ms_f, mf_q, mf_f, mc_q, mc_f, and_self, and_true, true_and, and_false, false_and, or_true, true_or, or_false, false_or, if_true, if_false, not_true_eq_false, not_false_eq_true, eq_self, reduceIte, Int.reduceEq, Int.reduceLT, Int.reduceLE, Int.reduceNeg, Int.reduceAdd, Int.reduceSub, Int.reduceMul, Int.add_sub_cancel]); (try simp (disch := omega) only [w32_e, w64_e, td_pos, tm_pos, Int.add_sub_cancel]); ((repeat' (first | assumption | omega | with_reducible rfl | apply And.intro)); done))) ?_; conv => whnf)
    | (intro v; intro hv; conv => whnf)
  all_goals
    (refine ⟨_, ?_, 0, 6, rfl, rfl, rfl, ⟨by decide, by decide⟩, rfl⟩
     omega)

def sp_piM : Spec1 := fun as M Q => match as with
  | [.inr (.inr (.inl (q0, i0)))] => match Nat.beq q0 13 with
    | true => (i0 = 0 ∧ IHrs M ∧ AB (M 61 0) (M 62 0) (M 12 0 0)) ∧ ∀ M9, (∀ p, p ≠ 126 → M9 p = M p) → Q (some (vI (tcN (pcM (lbM (M 61 0) (M 62 0) (M 12 0 0) (zF (M 126 0) 14))) 14))) M9
    | false => False
  | _ => False
theorem ok_piM {l : Launch} {ω : WP} : ∀ as M Q, sp_piM as M Q → Vd l ω 9 257 as M Q := by
  intro as M Q h
  unfold sp_piM at h
  split at h
  case h_2 => exact h.elim
  rename_i q0 i0 
  cases hb : Nat.beq q0 13 with
  | false => rw [hb] at h; exact h.elim
  | true =>
  rw [hb] at h
  obtain ⟨⟨hi, hH, hab⟩, hQ⟩ := h
  have hb := beq_eq hb
  subst hb
  subst hi
  refine Vd.ok fun hok hal => ?_
  have n14 := hab.1
  have key : ∀ n9, CutOK l ω 9 257 (cutL [(8, [0, 1, 2], fun kk vs M9 => ∃ t k : Int, vs = [vR 13 0, vI t, vI k] ∧ kk = (100 - k).toNat ∧ (0 ≤ k ∧ k ≤ 14) ∧ (∀ p, p ≠ 126 → M9 p = M p) ∧ M9 126 0 = (lbM (M 61 0) (M 62 0) (M 12 0 0) (zF (M 126 0) 14)) ∧ t = tcN (pcM (lbM (M 61 0) (M 62 0) (M 12 0 0) (zF (M 126 0) 14))) k)] n9) Q := by
    refine loops (GGC_ok (l := l) (ω := ω)) 300 _ ?_
    refine List.forall_mem_cons.mpr ⟨?_, fun _ h => absurd h List.not_mem_nil⟩
    · rintro n9 vs M9 ⟨t, k, rfl, rfl, k0, fr, hs, ht⟩
      have ti := tcN_inI (f := pcM (lbM (M 61 0) (M 62 0) (M 12 0 0) (zF (M 126 0) 14))) k0.1
      have ek : w32 (k + 1) = k + 1 := w32_e (by omega) (by omega)
      have et : w32 (t + 1) = t + 1 := w32_e (by omega) (by omega)
      have e00 : w32 (t + 0) = t := by rw [Int.add_zero]; exact w32_e (by omega) (by omega)
      show wpH _ 300 _ 257 _ true 8 [vR 13 0, vI t, vI k] [] _ Q
      conv => whnf
      repeat' first
        | (refine And.intro (fun h => ?_) (fun h => ?_) <;> (try simp (disch := decide) only [cmp3_lt, cmp3_ge, cmp3_gt, cmp3_le, cmp3_eq, ms_q, ms_f, mf_q, mf_f, mc_q, mc_f, and_self, and_true, true_and, and_false, false_and, or_true, true_or, or_false, false_or, if_true, if_false, not_true_eq_false, not_false_eq_true, eq_self, reduceIte, Int.reduceEq, Int.reduceLT, Int.reduceLE, Int.reduceNeg, Int.reduceAdd, Int.reduceSub, Int.reduceMul, Int.add_sub_cancel] at h) <;> (try simp (disch := omega) only [w32_e, w64_e, td_pos, tm_pos, Int.add_sub_cancel] at h) <;> first | exact absurd rfl h | exact absurd h (by decide) | (exfalso; omega) | (conv => whnf))
        | (refine And.intro (by first | omega | ((try simp (disch := decide) only [cmp3_lt, cmp3_ge, cmp3_gt, cmp3_le, cmp3_eq, ms_q, ms_f, mf_q, mf_f, mc_q, mc_f, and_self, and_true, true_and, and_false, false_and, or_true, true_or, or_false, false_or, if_true, if_false, not_true_eq_false, not_false_eq_true, eq_self, reduceIte, Int.reduceEq, Int.reduceLT, Int.reduceLE, Int.reduceNeg, Int.reduceAdd, Int.reduceSub, Int.reduceMul, Int.add_sub_cancel]); (try simp (disch := omega) only [w32_e, w64_e, td_pos, tm_pos, Int.add_sub_cancel]); first | assumption | omega) | exact ⟨rfl, hH, hab, n14⟩ | ((try simp (disch := decide) only [cmp3_lt, cmp3_ge, cmp3_gt, cmp3_le, cmp3_eq, ms_q, ms_f, mf_q, mf_f, mc_q, mc_f, and_self, and_true, true_and, and_false, false_and, or_true, true_or, or_false, false_or, if_true, if_false, not_true_eq_false, not_false_eq_true, eq_self, reduceIte, Int.reduceEq, Int.reduceLT, Int.reduceLE, Int.reduceNeg, Int.reduceAdd, Int.reduceSub, Int.reduceMul, Int.add_sub_cancel]); (try simp (disch := omega) only [w32_e, w64_e, td_pos, tm_pos, Int.add_sub_cancel]); ((repeat' (first | assumption | omega | with_reducible rfl | apply And.intro)); done))) ?_; conv => whnf)
        | (intro v; intro hv; conv => whnf)
      all_goals first
        | (have e9 : k = 14 := by omega
           rw [e9] at ht
           have hq := hQ M9 fr
           rw [← ht] at hq
           exact hq)
        | (refine ⟨_, ?_, t + 1, k + 1, by rw [ek, et], rfl, ⟨by omega, by omega⟩, fr, hs, ?_⟩
           · omega
           · rw [tcN_s k0.1, ← ht]
             unfold pcM
             rw [← hs, if_pos h, if_neg (by decide)])
        | (refine ⟨_, ?_, t, k + 1, by rw [ek, e00], rfl, ⟨by omega, by omega⟩, fr, hs, ?_⟩
           · omega
           · rw [tcN_s k0.1, ← ht]
             unfold pcM
             rw [← hs, if_neg h, if_pos rfl])
  refine Vd_run (GGC_ok (l := l) (ω := ω)) 300 (hC := key 1000) (by decide) ?_
  conv => whnf
  repeat' first
    | (refine And.intro (fun h => ?_) (fun h => ?_) <;> (try simp (disch := decide) only [cmp3_lt, cmp3_ge, cmp3_gt, cmp3_le, cmp3_eq, ms_q, ms_f, mf_q, mf_f, mc_q, mc_f, and_self, and_true, true_and, and_false, false_and, or_true, true_or, or_false, false_or, if_true, if_false, not_true_eq_false, not_false_eq_true, eq_self, reduceIte, Int.reduceEq, Int.reduceLT, Int.reduceLE, Int.reduceNeg, Int.reduceAdd, Int.reduceSub, Int.reduceMul, Int.add_sub_cancel] at h) <;> (try simp (disch := omega) only [w32_e, w64_e, td_pos, tm_pos, Int.add_sub_cancel] at h) <;> first | exact absurd rfl h | exact absurd h (by decide) | (exfalso; omega) | (conv => whnf))
    | (refine And.intro (by first | omega | ((try simp (disch := decide) only [cmp3_lt, cmp3_ge, cmp3_gt, cmp3_le, cmp3_eq, ms_q, ms_f, mf_q, mf_f, mc_q, mc_f, and_self, and_true, true_and, and_false, false_and, or_true, true_or, or_false, false_or, if_true, if_false, not_true_eq_false, not_false_eq_true, eq_self, reduceIte, Int.reduceEq, Int.reduceLT, Int.reduceLE, Int.reduceNeg, Int.reduceAdd, Int.reduceSub, Int.reduceMul, Int.add_sub_cancel]); (try simp (disch := omega) only [w32_e, w64_e, td_pos, tm_pos, Int.add_sub_cancel]); first | assumption | omega) | exact ⟨rfl, hH, hab, n14⟩ | ((try simp (disch := decide) only [cmp3_lt, cmp3_ge, cmp3_gt, cmp3_le, cmp3_eq, ms_q, ms_f, mf_q, mf_f, mc_q, mc_f, and_self, and_true, true_and, and_false, false_and, or_true, true_or, or_false, false_or, if_true, if_false, not_true_eq_false, not_false_eq_true, eq_self, reduceIte, Int.reduceEq, Int.reduceLT, Int.reduceLE, Int.reduceNeg, Int.reduceAdd, Int.reduceSub, Int.reduceMul, Int.add_sub_cancel]); (try simp (disch := omega) only [w32_e, w64_e, td_pos, tm_pos, Int.add_sub_cancel]); ((repeat' (first | assumption | omega | with_reducible rfl | apply And.intro)); done))) ?_; conv => whnf)
    | (intro v; intro hv; conv => whnf)
  all_goals
    (refine ⟨_, ?_, 0, 0, rfl, rfl, ⟨Int.le_refl _, by decide⟩, hv.1, hv.2, rfl⟩
     omega)

def GLD : List (Nat × Nat × Spec1) := (11, 1, sp_cpC) :: GLC
abbrev GGD : Env1 := fun n => getG n GLD
theorem GGD_all {l : Launch} {ω : WP} : ∀ e ∈ GLD, ∀ as M Q, e.2.2 as M Q → Vd l ω e.2.1 e.1 as M Q := List.forall_mem_cons.mpr ⟨ok_cpC, GGC_all⟩
theorem GGD_ok {l : Launch} {ω : WP} : GOK l ω GGD := getG_ok GLD GGD_all

theorem inv_pieces {c : Int} {M : Mem} {M9 : Mem} (fr : ∀ p, p ≠ 64 → p ≠ 126 → M9 p = M p) (hc : c < 512) (hI : Inv c M) : Inv (c + 1) (M9) := by
  obtain ⟨h0, hN, hS, hR, hK, hG, hW, hJ, hT, hA, hP, hO, hH⟩ := hI
  refine ⟨by omega, ?_, ?_, ?_, ?_, ?_, ?_, ?_, ?_, ?_, ?_, ?_, ?_⟩
  all_goals first
    | (have q := hN; simp (disch := decide) only [INet, ms_q, ms_f, mf_q, mf_f, mc_q, mc_f, fr] at q ⊢; exact q)
    | (have q := hS; simp (disch := decide) only [IStp, ms_q, ms_f, mf_q, mf_f, mc_q, mc_f, fr] at q ⊢; exact q)
    | (have q := hR; simp (disch := decide) only [IRou, ms_q, ms_f, mf_q, mf_f, mc_q, mc_f, fr] at q ⊢; exact q)
    | (have q := hK; simp (disch := decide) only [ISky, ms_q, ms_f, mf_q, mf_f, mc_q, mc_f, fr] at q ⊢; exact q)
    | (have q := hG; simp (disch := decide) only [IGui, ms_q, ms_f, mf_q, mf_f, mc_q, mc_f, fr] at q ⊢; exact q)
    | (have q := hW.next; simp (disch := decide) only [INow, ms_q, ms_f, mf_q, mf_f, mc_q, mc_f, fr] at q ⊢; exact q)
    | (have q := hJ.next; simp (disch := decide) only [IImg, ms_q, ms_f, mf_q, mf_f, mc_q, mc_f, fr] at q ⊢; exact q)
    | (have q := hT; simp (disch := decide) only [ITap, ms_q, ms_f, mf_q, mf_f, mc_q, mc_f, fr] at q ⊢; exact q)
    | (have q := hA; simp (disch := decide) only [ISta, ms_q, ms_f, mf_q, mf_f, mc_q, mc_f, fr] at q ⊢; exact q)
    | (have q := hP; simp (disch := decide) only [IPpl, ms_q, ms_f, mf_q, mf_f, mc_q, mc_f, fr] at q ⊢; exact q)
    | (have q := hO; simp (disch := decide) only [IRop, ms_q, ms_f, mf_q, mf_f, mc_q, mc_f, fr] at q ⊢; exact q)
    | (have q := hH; simp (disch := decide) only [IHrs, ms_q, ms_f, mf_q, mf_f, mc_q, mc_f, fr] at q ⊢; exact q)
    | skip

theorem pair_pieces {l : Launch} {ω : WP} {c : Int} {M : Mem}    (hc : c < 512) (hI : Inv c M) : Vd l ω 9 152 [vR 0 0] M (PQ1 l ω c 257 []) := by
  have hI0 := hI
  obtain ⟨h0, hN, hS, hR, hK, hG, hW, hJ, hT, hA, hP, hO, hH⟩ := hI
  have b1 := hN.1
  have b2 := hN.2.2.1
  have b3 := hS.1
  have b4 := hS.2.2.1
  have b5 := hR.1
  have b6 := hR.2.2.2.1
  have b7 := hG.1
  have b8 := hG.2.2.1
  have hab := hrs_ab hH b6 b8
  refine Vd_run (GGD_ok (l := l) (ω := ω)) 400 (cut := fun _ => none) (by decide) CutOK_none ?_
  conv => whnf
  repeat' first
    | (refine And.intro (fun h => ?_) (fun h => ?_) <;> (try simp (disch := decide) only [cmp3_lt, cmp3_ge, cmp3_gt, cmp3_le, cmp3_eq, ms_q, ms_f, mf_q, mf_f, mc_q, mc_f, and_self, and_true, true_and, and_false, false_and, or_true, true_or, or_false, false_or, if_true, if_false, not_true_eq_false, not_false_eq_true, eq_self, reduceIte, Int.reduceEq, Int.reduceLT, Int.reduceLE, Int.reduceNeg, Int.reduceAdd, Int.reduceSub, Int.reduceMul, Int.add_sub_cancel] at h) <;> (try simp (disch := omega) only [w32_e, w64_e, td_pos, tm_pos, Int.add_sub_cancel] at h) <;> first | exact absurd rfl h | exact absurd h (by decide) | (exfalso; omega) | (conv => whnf))
    | (refine And.intro (by first | omega | ((try simp (disch := decide) only [cmp3_lt, cmp3_ge, cmp3_gt, cmp3_le, cmp3_eq, ms_q, ms_f, mf_q, mf_f, mc_q, mc_f, and_self, and_true, true_and, and_false, false_and, or_true, true_or, or_false, false_or, if_true, if_false, not_true_eq_false, not_false_eq_true, eq_self, reduceIte, Int.reduceEq, Int.reduceLT, Int.reduceLE, Int.reduceNeg, Int.reduceAdd, Int.reduceSub, Int.reduceMul, Int.add_sub_cancel]); (try simp (disch := omega) only [w32_e, w64_e, td_pos, tm_pos, Int.add_sub_cancel]); first | assumption | omega) | exact ⟨rfl, hH, hab, hab.1⟩ | ((try simp (disch := decide) only [cmp3_lt, cmp3_ge, cmp3_gt, cmp3_le, cmp3_eq, ms_q, ms_f, mf_q, mf_f, mc_q, mc_f, and_self, and_true, true_and, and_false, false_and, or_true, true_or, or_false, false_or, if_true, if_false, not_true_eq_false, not_false_eq_true, eq_self, reduceIte, Int.reduceEq, Int.reduceLT, Int.reduceLE, Int.reduceNeg, Int.reduceAdd, Int.reduceSub, Int.reduceMul, Int.add_sub_cancel]); (try simp (disch := omega) only [w32_e, w64_e, td_pos, tm_pos, Int.add_sub_cancel]); ((repeat' (first | assumption | omega | with_reducible rfl | apply And.intro)); done))) ?_; conv => whnf)
    | (intro v; intro hv; conv => whnf)
  all_goals refine ⟨0, _, rfl, ?_⟩
  all_goals
    (have fr := hv.1
     have h9 : IHrs v := by simp (disch := decide) only [IHrs, fr]; exact hH
     have e61 : v 61 = M 61 := fr 61 (by decide)
     have e62 : v 62 = M 62 := fr 62 (by decide)
     have e12 : v 12 = M 12 := fr 12 (by decide)
     refine ok_piM _ _ _ ⟨⟨rfl, h9, by rw [e61, e62, e12]; exact hab⟩, fun M2 f2 => ⟨0, congrArg (fun z => some (vI z)) ?_, inv_pieces (fun p a b => (f2 p b).trans (fr p a)) hc hI0⟩⟩
     rw [e61, e62, e12, hv.2]
     exact (pc_same hab zF_14 zF_14).symm)
