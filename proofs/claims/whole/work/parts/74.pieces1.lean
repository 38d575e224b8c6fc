/-! ===== pieces (wip/gen/p37.py) ===== -/
def zF (L : Int → Int) : Int → (Int → Int) := itI (fun k L => updI L k (-4)) L
theorem zF_s {L : Int → Int} {n : Int} (h : 0 ≤ n) : zF L (n + 1) = updI (zF L n) n (-4) := itI_succ h
theorem zF_in {L : Int → Int} : ∀ m : Nat, ∀ k, 0 ≤ k → k < (m : Int) → zF L (m : Int) k = -4
  | 0, k, k0, k1 => absurd k1 (by omega)
  | m + 1, k, k0, k1 => by
    have e : ((m + 1 : Nat) : Int) = (m : Int) + 1 := by omega
    rw [e, zF_s (by omega)]
    unfold updI
    by_cases c : k = (m : Int)
    · rw [if_pos c]
    · rw [if_neg c]
      exact zF_in m k k0 (by omega)
theorem zF_14 {L : Int → Int} : ∀ k, 0 ≤ k → k < 14 → zF L 14 k = -4 := fun k a b => zF_in 14 k a b
theorem hrs_ab {M : Mem} (hH : IHrs M) (hR : 0 ≤ M 1 0 9 ∧ M 1 0 9 ≤ 6) (hG : 0 ≤ M 5 0 0 ∧ M 5 0 0 ≤ 8) : AB (M 61 0) (M 62 0) (M 12 0 0) := ⟨hH.2.1, fun e e0 e1 => by
  have := hH.2.2 e e0 e1
  omega⟩
theorem ms_n {M : Mem} {p : Nat} {j v : Int} : mset M p 0 j v p 0 = updI (M p 0) j v := by rw [ms_u, up2_v]

def sp_fpC : Spec1 := fun as M Q => match as with
  | [.inr (.inr (.inl (q0, i0)))] => match Nat.beq q0 12 with
    | true => (i0 = 0 ∧ IHrs M ∧ AB (M 61 0) (M 62 0) (M 12 0 0) ∧ (0 ≤ M 12 0 0 ∧ M 12 0 0 ≤ 14)) ∧ ∀ M9, ((∀ p, p ≠ 64 → M9 p = M p) ∧ M9 64 0 = lbC (M 61 0) (M 62 0) (M 12 0 0) (zF (M 64 0) 14)) → Q none M9
    | false => False
  | _ => False
theorem ok_fpC {l : Launch} {ω : WP} : ∀ as M Q, sp_fpC as M Q → Vd l ω 1 10 as M Q := by
  intro as M Q h
  unfold sp_fpC at h
  split at h
  case h_2 => exact h.elim
  rename_i q0 i0 
  cases hb : Nat.beq q0 12 with
  | false => rw [hb] at h; exact h.elim
  | true =>
  rw [hb] at h
  obtain ⟨⟨hi, hH, hab, n14⟩, hQ⟩ := h
  have hb := beq_eq hb
  subst hb
  subst hi
  refine Vd.ok fun hok hal => ?_
  have e73 := n14
  have h61 := n14
  have e61 := n14
  have e62 := n14
  have e12 := n14
  have key : ∀ n9, CutOK l ω 1 10 (cutL [(2, [0, 1], fun kk vs M9 => ∃ k : Int, vs = [vR 12 0, vI k] ∧ kk = (100000 - k).toNat ∧ (0 ≤ k ∧ k ≤ 14) ∧ (∀ p, p ≠ 64 → M9 p = M p) ∧ M9 64 0 = zF (M 64 0) k), (24, [0, 1], fun kk vs M9 => ∃ e : Int, vs = [vR 12 0, vI e] ∧ kk = (50000 - e).toNat ∧ (0 ≤ e ∧ e ≤ (M 12 0 0)) ∧ (∀ p, p ≠ 64 → M9 p = M p) ∧ M9 64 0 = itI (ciS (M 61 0) (M 62 0)) (zF (M 64 0) 14) e), (70, [0, 1], fun kk vs M9 => ∃ t : Int, vs = [vR 12 0, vI t] ∧ kk = (10000 - t * 100).toNat ∧ (0 ≤ t ∧ t ≤ 14) ∧ (∀ p, p ≠ 64 → M9 p = M p) ∧ M9 64 0 = rdN (M 61 0) (M 62 0) (M 12 0 0) (itI (ciS (M 61 0) (M 62 0)) (zF (M 64 0) 14) (M 12 0 0)) t), (78, [0, 1, 2], fun kk vs M9 => ∃ t e : Int, vs = [vR 12 0, vI t, vI e] ∧ kk = (10000 - t * 100 - 10 - e).toNat ∧ (0 ≤ t ∧ t < 14) ∧ (0 ≤ e ∧ e ≤ (M 12 0 0)) ∧ (∀ p, p ≠ 64 → M9 p = M p) ∧ M9 64 0 = rxN (M 61 0) (M 62 0) (rdN (M 61 0) (M 62 0) (M 12 0 0) (itI (ciS (M 61 0) (M 62 0)) (zF (M 64 0) 14) (M 12 0 0)) t) e)] n9) Q := by
    refine loops (GGB_ok (l := l) (ω := ω)) 600 _ ?_
    refine List.forall_mem_cons.mpr ⟨?_, List.forall_mem_cons.mpr ⟨?_, List.forall_mem_cons.mpr ⟨?_, List.forall_mem_cons.mpr ⟨?_, fun _ h => absurd h List.not_mem_nil⟩⟩⟩⟩
    · rintro n9 vs M9 ⟨k, rfl, rfl, k0, fr, hs⟩
      have e12 : M9 12 = M 12 := fr 12 (by decide)
      have e61 : M9 61 = M 61 := fr 61 (by decide)
      have e62 : M9 62 = M 62 := fr 62 (by decide)
      have e73 := n14
      have ek : w32 (k + 1) = k + 1 := w32_e (by omega) (by omega)
      show wpH _ 600 _ 10 _ true 2 [vR 12 0, vI k, vU, vU] [] _ Q
      conv => whnf
      repeat' first
        | (refine And.intro (fun h => ?_) (fun h => ?_) <;> (try simp (disch := decide) only [cmp3_lt, cmp3_ge, cmp3_gt, cmp3_le, cmp3_eq, ms_q, ms_f, mf_q, mf_f, mc_q, mc_f, and_self, and_true, true_and, and_false, false_and, or_true, true_or, or_false, false_or, if_true, if_false, not_true_eq_false, not_false_eq_true, eq_self, reduceIte, Int.reduceEq, Int.reduceLT, Int.reduceLE, Int.reduceNeg, Int.reduceAdd, Int.reduceSub, Int.reduceMul, Int.add_sub_cancel] at h) <;> (try simp (disch := omega) only [w32_e, w64_e, td_pos, tm_pos, Int.add_sub_cancel, e12, e61, e62] at h) <;> first | exact absurd rfl h | exact absurd h (by decide) | (exfalso; omega) | (conv => whnf))
        | (refine And.intro (by first | omega | ((try simp (disch := decide) only [cmp3_lt, cmp3_ge, cmp3_gt, cmp3_le, cmp3_eq, ms_q, ms_f, mf_q, mf_f, mc_q, mc_f, and_self, and_true, true_and, and_false, false_and, or_true, true_or, or_false, false_or, if_true, if_false, not_true_eq_false, not_false_eq_true, eq_self, reduceIte, Int.reduceEq, Int.reduceLT, Int.reduceLE, Int.reduceNeg, Int.reduceAdd, Int.reduceSub, Int.reduceMul, Int.add_sub_cancel]); (try simp (disch := omega) only [w32_e, w64_e, td_pos, tm_pos, Int.add_sub_cancel, e12, e61, e62]); first | assumption | omega) | ((try simp (disch := decide) only [cmp3_lt, cmp3_ge, cmp3_gt, cmp3_le, cmp3_eq, ms_q, ms_f, mf_q, mf_f, mc_q, mc_f, and_self, and_true, true_and, and_false, false_and, or_true, true_or, or_false, false_or, if_true, if_false, not_true_eq_false, not_false_eq_true, eq_self, reduceIte, Int.reduceEq, Int.reduceLT, Int.reduceLE, Int.reduceNeg, Int.reduceAdd, Int.reduceSub, Int.reduceMul, Int.add_sub_cancel]); (try simp (disch := omega) only [w32_e, w64_e, td_pos, tm_pos, Int.add_sub_cancel, e12, e61, e62]); ((repeat' (first | assumption | omega | with_reducible rfl | apply And.intro)); done))) ?_; conv => whnf)
        | (intro v; intro hv; conv => whnf)
      all_goals first
        | (have e9 : k = 14 := by omega
           rw [e9] at hs
           refine ⟨_, ?_, 0, rfl, rfl, ⟨Int.le_refl _, n14.1⟩, fr, hs⟩
           omega)
        | (refine ⟨_, ?_, k + 1, by rw [ek], rfl, ⟨by omega, by omega⟩, fun p z => by rw [ms_q z]; exact fr p z, ?_⟩
           · omega
           · rw [ms_n, zF_s k0.1, ← hs])
    · rintro n9 vs M9 ⟨e, rfl, rfl, e0, fr, hs⟩
      have e12 : M9 12 = M 12 := fr 12 (by decide)
      have e61 : M9 61 = M 61 := fr 61 (by decide)
      have e62 : M9 62 = M 62 := fr 62 (by decide)
      have e73 := n14
      have he : e < M 12 0 0 → _ := fun z => hab.2 e e0.1 z
      have ee : w32 (e + 1) = e + 1 := w32_e (by omega) (by omega)
      show wpH _ 600 _ 10 _ true 24 [vR 12 0, vI e, vU, vU] [] _ Q
      conv => whnf
      repeat' first
        | (refine And.intro (fun h => ?_) (fun h => ?_) <;> (try simp (disch := decide) only [cmp3_lt, cmp3_ge, cmp3_gt, cmp3_le, cmp3_eq, ms_q, ms_f, mf_q, mf_f, mc_q, mc_f, and_self, and_true, true_and, and_false, false_and, or_true, true_or, or_false, false_or, if_true, if_false, not_true_eq_false, not_false_eq_true, eq_self, reduceIte, Int.reduceEq, Int.reduceLT, Int.reduceLE, Int.reduceNeg, Int.reduceAdd, Int.reduceSub, Int.reduceMul, Int.add_sub_cancel] at h) <;> (try simp (disch := omega) only [w32_e, w64_e, td_pos, tm_pos, Int.add_sub_cancel, e12, e61, e62] at h) <;> first | exact absurd rfl h | exact absurd h (by decide) | (exfalso; omega) | (conv => whnf))
        | (refine And.intro (by first | omega | ((try simp (disch := decide) only [cmp3_lt, cmp3_ge, cmp3_gt, cmp3_le, cmp3_eq, ms_q, ms_f, mf_q, mf_f, mc_q, mc_f, and_self, and_true, true_and, and_false, false_and, or_true, true_or, or_false, false_or, if_true, if_false, not_true_eq_false, not_false_eq_true, eq_self, reduceIte, Int.reduceEq, Int.reduceLT, Int.reduceLE, Int.reduceNeg, Int.reduceAdd, Int.reduceSub, Int.reduceMul, Int.add_sub_cancel]); (try simp (disch := omega) only [w32_e, w64_e, td_pos, tm_pos, Int.add_sub_cancel, e12, e61, e62]); first | assumption | omega) | ((try simp (disch := decide) only [cmp3_lt, cmp3_ge, cmp3_gt, cmp3_le, cmp3_eq, ms_q, ms_f, mf_q, mf_f, mc_q, mc_f, and_self, and_true, true_and, and_false, false_and, or_true, true_or, or_false, false_or, if_true, if_false, not_true_eq_false, not_false_eq_true, eq_self, reduceIte, Int.reduceEq, Int.reduceLT, Int.reduceLE, Int.reduceNeg, Int.reduceAdd, Int.reduceSub, Int.reduceMul, Int.add_sub_cancel]); (try simp (disch := omega) only [w32_e, w64_e, td_pos, tm_pos, Int.add_sub_cancel, e12, e61, e62]); ((repeat' (first | assumption | omega | with_reducible rfl | apply And.intro)); done))) ?_; conv => whnf)
        | (intro v; intro hv; conv => whnf)
      all_goals first
        | (have e9 : e = M 12 0 0 := by omega
           rw [e9] at hs
           refine ⟨_, ?_, 0, rfl, rfl, ⟨Int.le_refl _, by decide⟩, fr, hs⟩
           omega)
        | (have hlt : e < M 12 0 0 := by omega
           have he' := he hlt
           refine ⟨_, ?_, e + 1, by rw [ee], rfl, ⟨by omega, by omega⟩, fun p z => by rw [ms_q z, ms_q z]; exact fr p z, ?_⟩
           · omega
           · try simp (disch := decide) only [ms_q]
             rw [e61, e62]
             rw [ms_n, ms_n, itI_succ e0.1, ← hs]
             rfl)
    · rintro n9 vs M9 ⟨t, rfl, rfl, t0, fr, hs⟩
      have e12 : M9 12 = M 12 := fr 12 (by decide)
      have e61 : M9 61 = M 61 := fr 61 (by decide)
      have e62 : M9 62 = M 62 := fr 62 (by decide)
      have e73 := n14
      have et : w32 (t + 1) = t + 1 := w32_e (by omega) (by omega)
      show wpH _ 600 _ 10 _ true 70 [vR 12 0, vI t, vU, vU] [] _ Q
      conv => whnf
      repeat' first
        | (refine And.intro (fun h => ?_) (fun h => ?_) <;> (try simp (disch := decide) only [cmp3_lt, cmp3_ge, cmp3_gt, cmp3_le, cmp3_eq, ms_q, ms_f, mf_q, mf_f, mc_q, mc_f, and_self, and_true, true_and, and_false, false_and, or_true, true_or, or_false, false_or, if_true, if_false, not_true_eq_false, not_false_eq_true, eq_self, reduceIte, Int.reduceEq, Int.reduceLT, Int.reduceLE, Int.reduceNeg, Int.reduceAdd, Int.reduceSub, Int.reduceMul, Int.add_sub_cancel] at h) <;> (try simp (disch := omega) only [w32_e, w64_e, td_pos, tm_pos, Int.add_sub_cancel, e12, e61, e62] at h) <;> first | exact absurd rfl h | exact absurd h (by decide) | (exfalso; omega) | (conv => whnf))
        | (refine And.intro (by first | omega | ((try simp (disch := decide) only [cmp3_lt, cmp3_ge, cmp3_gt, cmp3_le, cmp3_eq, ms_q, ms_f, mf_q, mf_f, mc_q, mc_f, and_self, and_true, true_and, and_false, false_and, or_true, true_or, or_false, false_or, if_true, if_false, not_true_eq_false, not_false_eq_true, eq_self, reduceIte, Int.reduceEq, Int.reduceLT, Int.reduceLE, Int.reduceNeg, Int.reduceAdd, Int.reduceSub, Int.reduceMul, Int.add_sub_cancel]); (try simp (disch := omega) only [w32_e, w64_e, td_pos, tm_pos, Int.add_sub_cancel, e12, e61, e62]); first | assumption | omega) | ((try simp (disch := decide) only [cmp3_lt, cmp3_ge, cmp3_gt, cmp3_le, cmp3_eq, ms_q, ms_f, mf_q, mf_f, mc_q, mc_f, and_self, and_true, true_and, and_false, false_and, or_true, true_or, or_false, false_or, if_true, if_false, not_true_eq_false, not_false_eq_true, eq_self, reduceIte, Int.reduceEq, Int.reduceLT, Int.reduceLE, Int.reduceNeg, Int.reduceAdd, Int.reduceSub, Int.reduceMul, Int.add_sub_cancel]); (try simp (disch := omega) only [w32_e, w64_e, td_pos, tm_pos, Int.add_sub_cancel, e12, e61, e62]); ((repeat' (first | assumption | omega | with_reducible rfl | apply And.intro)); done))) ?_; conv => whnf)
        | (intro v; intro hv; conv => whnf)
      all_goals first
        | (have e9 : t = 14 := by omega
           rw [e9] at hs
           exact hQ M9 ⟨fr, hs⟩)
        | (refine ⟨_, ?_, t, 0, rfl, rfl, ⟨t0.1, by omega⟩, ⟨Int.le_refl _, n14.1⟩, fr, hs⟩
           omega)
    · rintro n9 vs M9 ⟨t, e, rfl, rfl, t0, e0, fr, hs⟩
      have e12 : M9 12 = M 12 := fr 12 (by decide)
      have e61 : M9 61 = M 61 := fr 61 (by decide)
      have e62 : M9 62 = M 62 := fr 62 (by decide)
      have e73 := n14
      have he : e < M 12 0 0 → _ := fun z => hab.2 e e0.1 z
      have ee : w32 (e + 1) = e + 1 := w32_e (by omega) (by omega)
      have et : w32 (t + 1) = t + 1 := w32_e (by omega) (by omega)
      show wpH _ 600 _ 10 _ true 78 [vR 12 0, vI t, vI e, vU] [] _ Q
      conv => whnf
      repeat' first
        | (refine And.intro (fun h => ?_) (fun h => ?_) <;> (try simp (disch := decide) only [cmp3_lt, cmp3_ge, cmp3_gt, cmp3_le, cmp3_eq, ms_q, ms_f, mf_q, mf_f, mc_q, mc_f, and_self, and_true, true_and, and_false, false_and, or_true, true_or, or_false, false_or, if_true, if_false, not_true_eq_false, not_false_eq_true, eq_self, reduceIte, Int.reduceEq, Int.reduceLT, Int.reduceLE, Int.reduceNeg, Int.reduceAdd, Int.reduceSub, Int.reduceMul, Int.add_sub_cancel] at h) <;> (try simp (disch := omega) only [w32_e, w64_e, td_pos, tm_pos, Int.add_sub_cancel, e12, e61, e62] at h) <;> first | exact absurd rfl h | exact absurd h (by decide) | (exfalso; omega) | (conv => whnf))
        | (refine And.intro (by first | omega | ((try simp (disch := decide) only [cmp3_lt, cmp3_ge, cmp3_gt, cmp3_le, cmp3_eq, ms_q, ms_f, mf_q, mf_f, mc_q, mc_f, and_self, and_true, true_and, and_false, false_and, or_true, true_or, or_false, false_or, if_true, if_false, not_true_eq_false, not_false_eq_true, eq_self, reduceIte, Int.reduceEq, Int.reduceLT, Int.reduceLE, Int.reduceNeg, Int.reduceAdd, Int.reduceSub, Int.reduceMul, Int.add_sub_cancel]); (try simp (disch := omega) only [w32_e, w64_e, td_pos, tm_pos, Int.add_sub_cancel, e12, e61, e62]); first | assumption | omega) | ((try simp (disch := decide) only [cmp3_lt, cmp3_ge, cmp3_gt, cmp3_le, cmp3_eq, ms_q, ms_f, mf_q, mf_f, mc_q, mc_f, and_self, and_true, true_and, and_false, false_and, or_true, true_or, or_false, false_or, if_true, if_false, not_true_eq_false, not_false_eq_true, eq_self, reduceIte, Int.reduceEq, Int.reduceLT, Int.reduceLE, Int.reduceNeg, Int.reduceAdd, Int.reduceSub, Int.reduceMul, Int.add_sub_cancel]); (try simp (disch := omega) only [w32_e, w64_e, td_pos, tm_pos, Int.add_sub_cancel, e12, e61, e62]); ((repeat' (first | assumption | omega | with_reducible rfl | apply And.intro)); done))) ?_; conv => whnf)
        | (intro v; intro hv; conv => whnf)
      all_goals first
        | (have e9 : e = M 12 0 0 := by omega
           rw [e9] at hs
           refine ⟨_, ?_, t + 1, by rw [et], rfl, ⟨by omega, by omega⟩, fr, by rw [rdN_s t0.1]; exact hs⟩
           omega)
        | (have hlt : e < M 12 0 0 := by omega
           have he' := he hlt
           refine ⟨_, ?_, t, e + 1, by rw [ee], rfl, t0, ⟨by omega, by omega⟩, fun p z => by rw [ms_q z, ms_q z]; exact fr p z, ?_⟩
           · omega
           · try simp (disch := decide) only [ms_q]
             rw [e61, e62]
             rw [ms_n, ms_n, rxN_s e0.1, ← hs]
             rfl)
  refine Vd_run (GGB_ok (l := l) (ω := ω)) 600 (hC := key 200000) (by decide) ?_
  conv => whnf
  repeat' first
    | (refine And.intro (fun h => ?_) (fun h => ?_) <;> (try simp (disch := decide) only [cmp3_lt, cmp3_ge, cmp3_gt, cmp3_le, cmp3_eq, ms_q, ms_f, mf_q, mf_f, mc_q, mc_f, and_self, and_true, true_and, and_false, false_and, or_true, true_or, or_false, false_or, if_true, if_false, not_true_eq_false, not_false_eq_true, eq_self, reduceIte, Int.reduceEq, Int.reduceLT, Int.reduceLE, Int.reduceNeg, Int.reduceAdd, Int.reduceSub, Int.reduceMul, Int.add_sub_cancel] at h) <;> (try simp (disch := omega) only [w32_e, w64_e, td_pos, tm_pos, Int.add_sub_cancel, e12, e61, e62] at h) <;> first | exact absurd rfl h | exact absurd h (by decide) | (exfalso; omega) | (conv => whnf))
    | (refine And.intro (by first | omega | ((try simp (disch := decide) only [cmp3_lt, cmp3_ge, cmp3_gt, cmp3_le, cmp3_eq, ms_q, ms_f, mf_q, mf_f, mc_q, mc_f, and_self, and_true, true_and, and_false, false_and, or_true, true_or, or_false, false_or, if_true, if_false, not_true_eq_false, not_false_eq_true, eq_self, reduceIte, Int.reduceEq, Int.reduceLT, Int.reduceLE, Int.reduceNeg, Int.reduceAdd, Int.reduceSub, Int.reduceMul, Int.add_sub_cancel]); (try simp (disch := omega) only [w32_e, w64_e, td_pos, tm_pos, Int.add_sub_cancel, e12, e61, e62]); first | assumption | omega) | ((try simp (disch := decide) only [cmp3_lt, cmp3_ge, cmp3_gt, cmp3_le, cmp3_eq, ms_q, ms_f, mf_q, mf_f, mc_q, mc_f, and_self, and_true, true_and, and_false, false_and, or_true, true_or, or_false, false_or, if_true, if_false, not_true_eq_false, not_false_eq_true, eq_self, reduceIte, Int.reduceEq, Int.reduceLT, Int.reduceLE, Int.reduceNeg, Int.reduceAdd, Int.reduceSub, Int.reduceMul, Int.add_sub_cancel]); (try simp (disch := omega) only [w32_e, w64_e, td_pos, tm_pos, Int.add_sub_cancel, e12, e61, e62]); ((repeat' (first | assumption | omega | with_reducible rfl | apply And.intro)); done))) ?_; conv => whnf)
    | (intro v; intro hv; conv => whnf)
  all_goals
    (refine ⟨_, ?_, 0, rfl, rfl, ⟨Int.le_refl _, by decide⟩, fun _ _ => rfl, rfl⟩
     omega)

def sp_flM : Spec1 := fun as M Q => match as with
  | [.inr (.inr (.inl (q0, i0)))] => match Nat.beq q0 13 with
    | true => (i0 = 0 ∧ IHrs M ∧ AB (M 61 0) (M 62 0) (M 12 0 0) ∧ (0 ≤ M 12 0 0 ∧ M 12 0 0 ≤ 14)) ∧ ∀ M9, ((∀ p, p ≠ 126 → M9 p = M p) ∧ M9 126 0 = lbM (M 61 0) (M 62 0) (M 12 0 0) (zF (M 126 0) 14)) → Q none M9
    | false => False
  | _ => False
theorem ok_flM {l : Launch} {ω : WP} : ∀ as M Q, sp_flM as M Q → Vd l ω 1 250 as M Q := by
  intro as M Q h
  unfold sp_flM at h
  split at h
  case h_2 => exact h.elim
  rename_i q0 i0 
  cases hb : Nat.beq q0 13 with
  | false => rw [hb] at h; exact h.elim
  | true =>
  rw [hb] at h
  obtain ⟨⟨hi, hH, hab, n14⟩, hQ⟩ := h
  have hb := beq_eq hb
  subst hb
  subst hi
  refine Vd.ok fun hok hal => ?_
  have e73 := n14
  have h61 := n14
  have e61 := n14
  have e62 := n14
  have e12 := n14
  have key : ∀ n9, CutOK l ω 1 250 (cutL [(2, [0, 1], fun kk vs M9 => ∃ k : Int, vs = [vR 13 0, vI k] ∧ kk = (100000 - k).toNat ∧ (0 ≤ k ∧ k ≤ 14) ∧ (∀ p, p ≠ 126 → M9 p = M p) ∧ M9 126 0 = zF (M 126 0) k), (24, [0, 1], fun kk vs M9 => ∃ e : Int, vs = [vR 13 0, vI e] ∧ kk = (50000 - e).toNat ∧ (0 ≤ e ∧ e ≤ (M 12 0 0)) ∧ (∀ p, p ≠ 126 → M9 p = M p) ∧ M9 126 0 = itI (miS (M 61 0) (M 62 0)) (zF (M 126 0) 14) e), (80, [0, 1], fun kk vs M9 => ∃ t : Int, vs = [vR 13 0, vI t] ∧ kk = (10000 - t * 100).toNat ∧ (0 ≤ t ∧ t ≤ 14) ∧ (∀ p, p ≠ 126 → M9 p = M p) ∧ M9 126 0 = rdN (M 61 0) (M 62 0) (M 12 0 0) (itI (miS (M 61 0) (M 62 0)) (zF (M 126 0) 14) (M 12 0 0)) t), (88, [0, 1, 2], fun kk vs M9 => ∃ t e : Int, vs = [vR 13 0, vI t, vI e] ∧ kk = (10000 - t * 100 - 10 - e).toNat ∧ (0 ≤ t ∧ t < 14) ∧ (0 ≤ e ∧ e ≤ (M 12 0 0)) ∧ (∀ p, p ≠ 126 → M9 p = M p) ∧ M9 126 0 = rxN (M 61 0) (M 62 0) (rdN (M 61 0) (M 62 0) (M 12 0 0) (itI (miS (M 61 0) (M 62 0)) (zF (M 126 0) 14) (M 12 0 0)) t) e)] n9) Q := by
    refine loops (GGB_ok (l := l) (ω := ω)) 600 _ ?_
    refine List.forall_mem_cons.mpr ⟨?_, List.forall_mem_cons.mpr ⟨?_, List.forall_mem_cons.mpr ⟨?_, List.forall_mem_cons.mpr ⟨?_, fun _ h => absurd h List.not_mem_nil⟩⟩⟩⟩
    · rintro n9 vs M9 ⟨k, rfl, rfl, k0, fr, hs⟩
      have e13 : M9 13 = M 13 := fr 13 (by decide)
      have e123 : M9 123 = M 123 := fr 123 (by decide)
      have e124 : M9 124 = M 124 := fr 124 (by decide)
      have e73 : M9 13 0 73 = M 12 0 0 := by rw [e13]; exact hH.1
      have h61 := n14
      have ek : w32 (k + 1) = k + 1 := w32_e (by omega) (by omega)
      show wpH _ 600 _ 250 _ true 2 [vR 13 0, vI k, vU, vU, vU, vU] [] _ Q
      conv => whnf
      repeat' first
        | (refine And.intro (fun h => ?_) (fun h => ?_) <;> (try simp (disch := decide) only [cmp3_lt, cmp3_ge, cmp3_gt, cmp3_le, cmp3_eq, ms_q, ms_f, mf_q, mf_f, mc_q, mc_f, and_self, and_true, true_and, and_false, false_and, or_true, true_or, or_false, false_or, if_true, if_false, not_true_eq_false, not_false_eq_true, eq_self, reduceIte, Int.reduceEq, Int.reduceLT, Int.reduceLE, Int.reduceNeg, Int.reduceAdd, Int.reduceSub, Int.reduceMul, Int.add_sub_cancel] at h) <;> (try simp (disch := omega) only [w32_e, w64_e, td_pos, tm_pos, Int.add_sub_cancel, e73, h61] at h) <;> first | exact absurd rfl h | exact absurd h (by decide) | (exfalso; omega) | (conv => whnf))
        | (refine And.intro (by first | omega | ((try simp (disch := decide) only [cmp3_lt, cmp3_ge, cmp3_gt, cmp3_le, cmp3_eq, ms_q, ms_f, mf_q, mf_f, mc_q, mc_f, and_self, and_true, true_and, and_false, false_and, or_true, true_or, or_false, false_or, if_true, if_false, not_true_eq_false, not_false_eq_true, eq_self, reduceIte, Int.reduceEq, Int.reduceLT, Int.reduceLE, Int.reduceNeg, Int.reduceAdd, Int.reduceSub, Int.reduceMul, Int.add_sub_cancel]); (try simp (disch := omega) only [w32_e, w64_e, td_pos, tm_pos, Int.add_sub_cancel, e73, h61]); first | assumption | omega) | ((try simp (disch := decide) only [cmp3_lt, cmp3_ge, cmp3_gt, cmp3_le, cmp3_eq, ms_q, ms_f, mf_q, mf_f, mc_q, mc_f, and_self, and_true, true_and, and_false, false_and, or_true, true_or, or_false, false_or, if_true, if_false, not_true_eq_false, not_false_eq_true, eq_self, reduceIte, Int.reduceEq, Int.reduceLT, Int.reduceLE, Int.reduceNeg, Int.reduceAdd, Int.reduceSub, Int.reduceMul, Int.add_sub_cancel]); (try simp (disch := omega) only [w32_e, w64_e, td_pos, tm_pos, Int.add_sub_cancel, e73, h61]); ((repeat' (first | assumption | omega | with_reducible rfl | apply And.intro)); done))) ?_; conv => whnf)
        | (intro v; intro hv; conv => whnf)
      all_goals first
        | (have e9 : k = 14 := by omega
           rw [e9] at hs
           refine ⟨_, ?_, 0, rfl, rfl, ⟨Int.le_refl _, n14.1⟩, fr, hs⟩
           omega)
        | (refine ⟨_, ?_, k + 1, by rw [ek], rfl, ⟨by omega, by omega⟩, fun p z => by rw [ms_q z]; exact fr p z, ?_⟩
           · omega
           · rw [ms_n, zF_s k0.1, ← hs])
    · rintro n9 vs M9 ⟨e, rfl, rfl, e0, fr, hs⟩
      have e13 : M9 13 = M 13 := fr 13 (by decide)
      have e123 : M9 123 = M 123 := fr 123 (by decide)
      have e124 : M9 124 = M 124 := fr 124 (by decide)
      have e73 : M9 13 0 73 = M 12 0 0 := by rw [e13]; exact hH.1
      have he : e < M 12 0 0 → _ := fun z => hab.2 e e0.1 z
      have ee : w32 (e + 1) = e + 1 := w32_e (by omega) (by omega)
      have hm : e < M 12 0 0 → (M9 123 0 e = M 61 0 e ∧ 6 + M9 124 0 e = M 62 0 e) := fun z => by
        rw [e123, e124]
        exact ⟨(hH.2.2 e e0.1 z).1.1, (hH.2.2 e e0.1 z).1.2.1⟩
      have h61 : e < M 12 0 0 → M9 123 0 e = M 61 0 e := fun z => (hm z).1
      show wpH _ 600 _ 250 _ true 24 [vR 13 0, vI e, vU, vU, vU, vU] [] _ Q
      conv => whnf
      repeat' first
        | (refine And.intro (fun h => ?_) (fun h => ?_) <;> (try simp (disch := decide) only [cmp3_lt, cmp3_ge, cmp3_gt, cmp3_le, cmp3_eq, ms_q, ms_f, mf_q, mf_f, mc_q, mc_f, and_self, and_true, true_and, and_false, false_and, or_true, true_or, or_false, false_or, if_true, if_false, not_true_eq_false, not_false_eq_true, eq_self, reduceIte, Int.reduceEq, Int.reduceLT, Int.reduceLE, Int.reduceNeg, Int.reduceAdd, Int.reduceSub, Int.reduceMul, Int.add_sub_cancel] at h) <;> (try simp (disch := omega) only [w32_e, w64_e, td_pos, tm_pos, Int.add_sub_cancel, e73, h61] at h) <;> first | exact absurd rfl h | exact absurd h (by decide) | (exfalso; omega) | (conv => whnf))
        | (refine And.intro (by first | omega | ((try simp (disch := decide) only [cmp3_lt, cmp3_ge, cmp3_gt, cmp3_le, cmp3_eq, ms_q, ms_f, mf_q, mf_f, mc_q, mc_f, and_self, and_true, true_and, and_false, false_and, or_true, true_or, or_false, false_or, if_true, if_false, not_true_eq_false, not_false_eq_true, eq_self, reduceIte, Int.reduceEq, Int.reduceLT, Int.reduceLE, Int.reduceNeg, Int.reduceAdd, Int.reduceSub, Int.reduceMul, Int.add_sub_cancel]); (try simp (disch := omega) only [w32_e, w64_e, td_pos, tm_pos, Int.add_sub_cancel, e73, h61]); first | assumption | omega) | ((try simp (disch := decide) only [cmp3_lt, cmp3_ge, cmp3_gt, cmp3_le, cmp3_eq, ms_q, ms_f, mf_q, mf_f, mc_q, mc_f, and_self, and_true, true_and, and_false, false_and, or_true, true_or, or_false, false_or, if_true, if_false, not_true_eq_false, not_false_eq_true, eq_self, reduceIte, Int.reduceEq, Int.reduceLT, Int.reduceLE, Int.reduceNeg, Int.reduceAdd, Int.reduceSub, Int.reduceMul, Int.add_sub_cancel]); (try simp (disch := omega) only [w32_e, w64_e, td_pos, tm_pos, Int.add_sub_cancel, e73, h61]); ((repeat' (first | assumption | omega | with_reducible rfl | apply And.intro)); done))) ?_; conv => whnf)
        | (intro v; intro hv; conv => whnf)
      all_goals first
        | (have e9 : e = M 12 0 0 := by omega
           rw [e9] at hs
           refine ⟨_, ?_, 0, rfl, rfl, ⟨Int.le_refl _, by decide⟩, fr, hs⟩
           omega)
        | (have hlt : e < M 12 0 0 := by omega
           have he' := he hlt
           refine ⟨_, ?_, e + 1, by rw [ee], rfl, ⟨by omega, by omega⟩, fun p z => by rw [ms_q z, ms_q z]; exact fr p z, ?_⟩
           · omega
           · try simp (disch := decide) only [ms_q]
             rw [h61 hlt, show w32 (6 + M9 124 0 e) = M 62 0 e by rw [(hm hlt).2]; exact w32_e (by omega) (by omega)]
             rw [ms_n, ms_n, itI_succ e0.1, ← hs]
             rfl)
    · rintro n9 vs M9 ⟨t, rfl, rfl, t0, fr, hs⟩
      have e13 : M9 13 = M 13 := fr 13 (by decide)
      have e123 : M9 123 = M 123 := fr 123 (by decide)
      have e124 : M9 124 = M 124 := fr 124 (by decide)
      have e73 : M9 13 0 73 = M 12 0 0 := by rw [e13]; exact hH.1
      have h61 := n14
      have et : w32 (t + 1) = t + 1 := w32_e (by omega) (by omega)
      show wpH _ 600 _ 250 _ true 80 [vR 13 0, vI t, vU, vU, vU, vU] [] _ Q
      conv => whnf
      repeat' first
        | (refine And.intro (fun h => ?_) (fun h => ?_) <;> (try simp (disch := decide) only [cmp3_lt, cmp3_ge, cmp3_gt, cmp3_le, cmp3_eq, ms_q, ms_f, mf_q, mf_f, mc_q, mc_f, and_self, and_true, true_and, and_false, false_and, or_true, true_or, or_false, false_or, if_true, if_false, not_true_eq_false, not_false_eq_true, eq_self, reduceIte, Int.reduceEq, Int.reduceLT, Int.reduceLE, Int.reduceNeg, Int.reduceAdd, Int.reduceSub, Int.reduceMul, Int.add_sub_cancel] at h) <;> (try simp (disch := omega) only [w32_e, w64_e, td_pos, tm_pos, Int.add_sub_cancel, e73, h61] at h) <;> first | exact absurd rfl h | exact absurd h (by decide) | (exfalso; omega) | (conv => whnf))
        | (refine And.intro (by first | omega | ((try simp (disch := decide) only [cmp3_lt, cmp3_ge, cmp3_gt, cmp3_le, cmp3_eq, ms_q, ms_f, mf_q, mf_f, mc_q, mc_f, and_self, and_true, true_and, and_false, false_and, or_true, true_or, or_false, false_or, if_true, if_false, not_true_eq_false, not_false_eq_true, eq_self, reduceIte, Int.reduceEq, Int.reduceLT, Int.reduceLE, Int.reduceNeg, Int.reduceAdd, Int.reduceSub, Int.reduceMul, Int.add_sub_cancel]); (try simp (disch := omega) only [w32_e, w64_e, td_pos, tm_pos, Int.add_sub_cancel, e73, h61]); first | assumption | omega) | ((try simp (disch := decide) only [cmp3_lt, cmp3_ge, cmp3_gt, cmp3_le, cmp3_eq, ms_q, ms_f, mf_q, mf_f, mc_q, mc_f, and_self, and_true, true_and, and_false, false_and, or_true, true_or, or_false, false_or, if_true, if_false, not_true_eq_false, not_false_eq_true, eq_self, reduceIte, Int.reduceEq, Int.reduceLT, Int.reduceLE, Int.reduceNeg, Int.reduceAdd, Int.reduceSub, Int.reduceMul, Int.add_sub_cancel]); (try simp (disch := omega) only [w32_e, w64_e, td_pos, tm_pos, Int.add_sub_cancel, e73, h61]); ((repeat' (first | assumption | omega | with_reducible rfl | apply And.intro)); done))) ?_; conv => whnf)
        | (intro v; intro hv; conv => whnf)
      all_goals first
        | (have e9 : t = 14 := by omega
           rw [e9] at hs
           exact hQ M9 ⟨fr, hs⟩)
        | (refine ⟨_, ?_, t, 0, rfl, rfl, ⟨t0.1, by omega⟩, ⟨Int.le_refl _, n14.1⟩, fr, hs⟩
           omega)
    · rintro n9 vs M9 ⟨t, e, rfl, rfl, t0, e0, fr, hs⟩
      have e13 : M9 13 = M 13 := fr 13 (by decide)
      have e123 : M9 123 = M 123 := fr 123 (by decide)
      have e124 : M9 124 = M 124 := fr 124 (by decide)
      have e73 : M9 13 0 73 = M 12 0 0 := by rw [e13]; exact hH.1
      have he : e < M 12 0 0 → _ := fun z => hab.2 e e0.1 z
      have ee : w32 (e + 1) = e + 1 := w32_e (by omega) (by omega)
      have hm : e < M 12 0 0 → (M9 123 0 e = M 61 0 e ∧ 6 + M9 124 0 e = M 62 0 e) := fun z => by
        rw [e123, e124]
        exact ⟨(hH.2.2 e e0.1 z).1.1, (hH.2.2 e e0.1 z).1.2.1⟩
      have h61 : e < M 12 0 0 → M9 123 0 e = M 61 0 e := fun z => (hm z).1
      have et : w32 (t + 1) = t + 1 := w32_e (by omega) (by omega)
      show wpH _ 600 _ 250 _ true 88 [vR 13 0, vI t, vI e, vU, vU, vU] [] _ Q
      conv => whnf
      repeat' first
        | (refine And.intro (fun h => ?_) (fun h => ?_) <;> (try simp (disch := decide) only [cmp3_lt, cmp3_ge, cmp3_gt, cmp3_le, cmp3_eq, ms_q, ms_f, mf_q, mf_f, mc_q, mc_f, and_self, and_true, true_and, and_false, false_and, or_true, true_or, or_false, false_or, if_true, if_false, not_true_eq_false, not_false_eq_true, eq_self, reduceIte, Int.reduceEq, Int.reduceLT, Int.reduceLE, Int.reduceNeg, Int.reduceAdd, Int.reduceSub, Int.reduceMul, Int.add_sub_cancel] at h) <;> (try simp (disch := omega) only [w32_e, w64_e, td_pos, tm_pos, Int.add_sub_cancel, e73, h61] at h) <;> first | exact absurd rfl h | exact absurd h (by decide) | (exfalso; omega) | (conv => whnf))
        | (refine And.intro (by first | omega | ((try simp (disch := decide) only [cmp3_lt, cmp3_ge, cmp3_gt, cmp3_le, cmp3_eq, ms_q, ms_f, mf_q, mf_f, mc_q, mc_f, and_self, and_true, true_and, and_false, false_and, or_true, true_or, or_false, false_or, if_true, if_false, not_true_eq_false, not_false_eq_true, eq_self, reduceIte, Int.reduceEq, Int.reduceLT, Int.reduceLE, Int.reduceNeg, Int.reduceAdd, Int.reduceSub, Int.reduceMul, Int.add_sub_cancel]); (try simp (disch := omega) only [w32_e, w64_e, td_pos, tm_pos, Int.add_sub_cancel, e73, h61]); first | assumption | omega) | ((try simp (disch := decide) only [cmp3_lt, cmp3_ge, cmp3_gt, cmp3_le, cmp3_eq, ms_q, ms_f, mf_q, mf_f, mc_q, mc_f, and_self, and_true, true_and, and_false, false_and, or_true, true_or, or_false, false_or, if_true, if_false, not_true_eq_false, not_false_eq_true, eq_self, reduceIte, Int.reduceEq, Int.reduceLT, Int.reduceLE, Int.reduceNeg, Int.reduceAdd, Int.reduceSub, Int.reduceMul, Int.add_sub_cancel]); (try simp (disch := omega) only [w32_e, w64_e, td_pos, tm_pos, Int.add_sub_cancel, e73, h61]); ((repeat' (first | assumption | omega | with_reducible rfl | apply And.intro)); done))) ?_; conv => whnf)
        | (intro v; intro hv; conv => whnf)
      all_goals first
        | (have e9 : e = M 12 0 0 := by omega
           rw [e9] at hs
           refine ⟨_, ?_, t + 1, by rw [et], rfl, ⟨by omega, by omega⟩, fr, by rw [rdN_s t0.1]; exact hs⟩
           omega)
        | (have hlt : e < M 12 0 0 := by omega
           have he' := he hlt
           refine ⟨_, ?_, t, e + 1, by rw [ee], rfl, t0, ⟨by omega, by omega⟩, fun p z => by rw [ms_q z, ms_q z]; exact fr p z, ?_⟩
           · omega
           · try simp (disch := decide) only [ms_q]
             rw [h61 hlt, show w32 (6 + M9 124 0 e) = M 62 0 e by rw [(hm hlt).2]; exact w32_e (by omega) (by omega)]
             rw [ms_n, ms_n, rxN_s e0.1, ← hs]
             first
               | (have hl := (hm hlt).2
                  have mn : min (M9 126 0 (M 61 0 e)) (M9 126 0 (M 62 0 e)) = M9 126 0 (M 61 0 e) := by rw [← hl]; omega
                  unfold rxS
                  rw [mn])
               | (have hl := (hm hlt).2
                  have mn : min (M9 126 0 (M 61 0 e)) (M9 126 0 (M 62 0 e)) = M9 126 0 (M 62 0 e) := by rw [← hl]; omega
                  unfold rxS
                  rw [mn]))
  refine Vd_run (GGB_ok (l := l) (ω := ω)) 600 (hC := key 200000) (by decide) ?_
  conv => whnf
  repeat' first
    | (refine And.intro (fun h => ?_) (fun h => ?_) <;> (try simp (disch := decide) only [cmp3_lt, cmp3_ge, cmp3_gt, cmp3_le, cmp3_eq, ms_q, ms_f, mf_q, mf_f, mc_q, mc_f, and_self, and_true, true_and, and_false, false_and, or_true, true_or, or_false, false_or, if_true, if_false, not_true_eq_false, not_false_eq_true, eq_self, reduceIte, Int.reduceEq, Int.reduceLT, Int.reduceLE, Int.reduceNeg, Int.reduceAdd, Int.reduceSub, Int.reduceMul, Int.add_sub_cancel] at h) <;> (try simp (disch := omega) only [w32_e, w64_e, td_pos, tm_pos, Int.add_sub_cancel, e73, h61] at h) <;> first | exact absurd rfl h | exact absurd h (by decide) | (exfalso; omega) | (conv => whnf))
    | (refine And.intro (by first | omega | ((try simp (disch := decide) only [cmp3_lt, cmp3_ge, cmp3_gt, cmp3_le, cmp3_eq, ms_q, ms_f, mf_q, mf_f, mc_q, mc_f, and_self, and_true, true_and, and_false, false_and, or_true, true_or, or_false, false_or, if_true, if_false, not_true_eq_false, not_false_eq_true, eq_self, reduceIte, Int.reduceEq, Int.reduceLT, Int.reduceLE, Int.reduceNeg, Int.reduceAdd, Int.reduceSub, Int.reduceMul, Int.add_sub_cancel]); (try simp (disch := omega) only [w32_e, w64_e, td_pos, tm_pos, Int.add_sub_cancel, e73, h61]); first | assumption | omega) | ((try simp (disch := decide) only [cmp3_lt, cmp3_ge, cmp3_gt, cmp3_le, cmp3_eq, ms_q, ms_f, mf_q, mf_f, mc_q, mc_f, and_self, and_true, true_and, and_false, false_and, or_true, true_or, or_false, false_or, if_true, if_false, not_true_eq_false, not_false_eq_true, eq_self, reduceIte, Int.reduceEq, Int.reduceLT, Int.reduceLE, Int.reduceNeg, Int.reduceAdd, Int.reduceSub, Int.reduceMul, Int.add_sub_cancel]); (try simp (disch := omega) only [w32_e, w64_e, td_pos, tm_pos, Int.add_sub_cancel, e73, h61]); ((repeat' (first | assumption | omega | with_reducible rfl | apply And.intro)); done))) ?_; conv => whnf)
    | (intro v; intro hv; conv => whnf)
  all_goals
    (refine ⟨_, ?_, 0, rfl, rfl, ⟨Int.le_refl _, by decide⟩, fun _ _ => rfl, rfl⟩
     omega)
