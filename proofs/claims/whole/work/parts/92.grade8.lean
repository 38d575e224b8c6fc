/-! ===== grades, the class: setRows (wip/gen/p47.py) ===== -/
theorem bIn {R : Int → Int → Int} {n B r c : Int} (h : bB R n B) (hB : B ≤ 1000000) (r0 : 0 ≤ r) (r1 : r < n) (c0 : 0 ≤ c) (c1 : c ≤ n) : -1000000 ≤ R r c ∧ R r c ≤ 1000000 := by
  have := h r c r0 r1 c0 c1
  omega
theorem ai_01 {a b col : Int → Int} (e i : Nat) : 0 ≤ aiE a b col e i ∧ aiE a b col e i ≤ 1 := by
  rcases gs_01 (a := a) (b := b) (col := col) e i with h | h <;> omega
theorem sr_bd {a b t col : Int → Int} {n e : Nat} {i j : Nat} (he : e ≤ 14) (ht : ∀ z : Nat, z < e → 0 ≤ t z ∧ t z ≤ 95) : -1330 ≤ sm (fun z => aiE a b col z i * ppE a b t col n j z) e ∧ sm (fun z => aiE a b col z i * ppE a b t col n j z) e ≤ 1330 := by
  have := sm_bd (f := fun z => aiE a b col z i * ppE a b t col n j z) (B := 95) e (fun z hz => by
    show -95 ≤ aiE a b col z i * ppE a b t col n j z ∧ aiE a b col z i * ppE a b t col n j z ≤ 95
    have q : 0 ≤ ppE a b t col n j z ∧ ppE a b t col n j z ≤ 95 := by
      unfold ppE
      have := ai_01 (a := a) (b := b) (col := col) z j
      have := ht z hz
      split <;> omega
    rcases gs_01 (a := a) (b := b) (col := col) z i with h | h
    · rw [h, Int.zero_mul]; omega
    · rw [h, Int.one_mul]; omega)
  omega

def sp_srC : Spec1 := fun as M Q => match as with
  | [.inr (.inr (.inl (q0, i0)))] => match Nat.beq q0 12 with
    | true => (i0 = 0 ∧ AB (M 61 0) (M 62 0) (M 12 0 0) ∧ (∀ e, 0 ≤ e → e < M 12 0 0 → 1 ≤ M 63 0 e ∧ M 63 0 e ≤ 95) ∧ (0 ≤ (M 12 0 6) ∧ (M 12 0 6) ≤ 13) ∧ (∀ k, 0 ≤ k → k < 14 → M 65 0 k = -4 ∨ (0 ≤ M 65 0 k ∧ M 65 0 k < (M 12 0 6))) ∧ (∀ j k, 0 ≤ j → j < 14 → 0 ≤ k → k < 14 → 0 ≤ M 65 0 j → M 65 0 j = M 65 0 k → j = k)) ∧ ∀ M9, ((∀ p, p ≠ 67 → M9 p = M p) ∧ (∀ r x, 0 ≤ r → r < (M 12 0 6) → 0 ≤ x → x ≤ (M 12 0 6) → M9 67 r x = qE (aiE (M 61 0) (M 62 0) (M 65 0)) (ppE (M 61 0) (M 62 0) (M 63 0) (M 65 0) (M 12 0 6).toNat) (M 12 0 0).toNat r.toNat x.toNat)) → Q none M9
    | false => False
  | _ => False
theorem ok_srC {l : Launch} {ω : WP} : ∀ as M Q, sp_srC as M Q → Vd l ω 2 14 as M Q := by
  intro as M Q h
  unfold sp_srC at h
  split at h
  case h_2 => exact h.elim
  rename_i q0 i0 
  cases hb : Nat.beq q0 12 with
  | false => rw [hb] at h; exact h.elim
  | true =>
  rw [hb] at h
  obtain ⟨⟨hi, hab, ht, n13, hcl, hin⟩, hQ⟩ := h
  have hb := beq_eq hb
  subst hb
  subst hi
  refine Vd.ok fun hok hal => ?_
  have n14 := hab.1
  have e12 := n13
  have e65 := n13
  have e61 := n13
  have e62 := n13
  have e63 := n13
  have key : ∀ n9, CutOK l ω 2 14 (cutL [(2, [0, 1], fun kk vs M9 => ∃ i : Int, vs = [vR 12 0, vI i] ∧ kk = (100000 - i * 100).toNat ∧ (0 ≤ i ∧ i ≤ (M 12 0 6)) ∧ (∀ p, p ≠ 67 → M9 p = M p) ∧ (∀ r x, 0 ≤ r → r < i → 0 ≤ x → x ≤ (M 12 0 6) → M9 67 r x = 0)), (12, [0, 1, 2], fun kk vs M9 => ∃ i j : Int, vs = [vR 12 0, vI i, vI j] ∧ kk = (100000 - i * 100 - 10 - j).toNat ∧ (0 ≤ i ∧ i < (M 12 0 6)) ∧ (0 ≤ j ∧ j ≤ (M 12 0 6) + 1) ∧ (∀ p, p ≠ 67 → M9 p = M p) ∧ (∀ r x, 0 ≤ r → r < i → 0 ≤ x → x ≤ (M 12 0 6) → M9 67 r x = 0) ∧ (∀ x, 0 ≤ x → x < j → M9 67 i x = 0)), (43, [0, 1], fun kk vs M9 => ∃ e : Int, vs = [vR 12 0, vI e] ∧ kk = (5000 - e).toNat ∧ (0 ≤ e ∧ e ≤ M 12 0 0) ∧ (∀ p, p ≠ 67 → M9 p = M p) ∧ (∀ r x, 0 ≤ r → r < (M 12 0 6) → 0 ≤ x → x ≤ (M 12 0 6) → M9 67 r x = sm (fun z => (aiE (M 61 0) (M 62 0) (M 65 0)) z r.toNat * (ppE (M 61 0) (M 62 0) (M 63 0) (M 65 0) (M 12 0 6).toNat) x.toNat z) e.toNat))] n9) Q := by
    refine loops (GGM_ok (l := l) (ω := ω)) 600 _ ?_
    refine List.forall_mem_cons.mpr ⟨?_, List.forall_mem_cons.mpr ⟨?_, List.forall_mem_cons.mpr ⟨?_, fun _ h => absurd h List.not_mem_nil⟩⟩⟩
    · rintro n9 vs M9 ⟨i, rfl, rfl, i0, fr, hz⟩
      have e12 : M9 12 = M 12 := fr 12 (by decide)
      have ei : w32 (i + 1) = i + 1 := w32_e (by omega) (by omega)
      show wpH _ 600 _ 14 _ true 2 [vR 12 0, vI i, vU, vU] [] _ Q
      conv => whnf
      repeat' first
        | (refine And.intro (fun h => ?_) (fun h => ?_) <;> (try simp (disch := decide) only [cmp3_lt, cmp3_ge, cmp3_gt, cmp3_le, cmp3_eq, ms_q, ms_f, mf_q, mf_f, mc_q, mc_f, and_self, and_true, true_and, and_false, false_and, or_true, true_or, or_false, false_or, if_true, if_false, not_true_eq_false, not_false_eq_true, eq_self, reduceIte, Int.reduceEq, Int.reduceLT, Int.reduceLE, Int.reduceNeg, Int.reduceAdd, Int.reduceSub, Int.reduceMul, Int.add_sub_cancel] at h) <;> (try simp (disch := omega) only [w32_e, w64_e, td_pos, tm_pos, Int.add_sub_cancel, e12, e65, e61, e62, e63, adM_q] at h) <;> first | exact absurd rfl h | exact absurd h (by decide) | (exfalso; omega) | (conv => whnf))
        | (refine And.intro (by first | omega | ((try simp (disch := decide) only [cmp3_lt, cmp3_ge, cmp3_gt, cmp3_le, cmp3_eq, ms_q, ms_f, mf_q, mf_f, mc_q, mc_f, and_self, and_true, true_and, and_false, false_and, or_true, true_or, or_false, false_or, if_true, if_false, not_true_eq_false, not_false_eq_true, eq_self, reduceIte, Int.reduceEq, Int.reduceLT, Int.reduceLE, Int.reduceNeg, Int.reduceAdd, Int.reduceSub, Int.reduceMul, Int.add_sub_cancel]); (try simp (disch := omega) only [w32_e, w64_e, td_pos, tm_pos, Int.add_sub_cancel, e12, e65, e61, e62, e63, adM_q]); first | assumption | omega) | (refine ⟨rfl, ?_⟩; try simp (disch := decide) only [adM_q, adM_67, e12, e65, e61, e62, e63]; have hx1 := hx (by omega); have te1 := te (by omega); first | exact ⟨by omega, fun q1 q2 => bIn (n := M 12 0 6) b0 (by omega) (by omega) (by omega) (by omega) (by omega)⟩ | exact ⟨by omega, fun q1 q2 => bIn (n := M 12 0 6) (bB_ad b0 (by omega)) (by omega) (by omega) (by omega) (by omega) (by omega)⟩ | exact ⟨by omega, fun q1 q2 => bIn (n := M 12 0 6) (bB_ad (bB_ad b0 (by omega)) (by omega)) (by omega) (by omega) (by omega) (by omega) (by omega)⟩ | exact ⟨by omega, fun q1 q2 => bIn (n := M 12 0 6) (bB_ad (bB_ad (bB_ad b0 (by omega)) (by omega)) (by omega)) (by omega) (by omega) (by omega) (by omega) (by omega)⟩ | exact ⟨by omega, fun q1 q2 => bIn (n := M 12 0 6) (bB_ad (bB_ad (bB_ad (bB_ad b0 (by omega)) (by omega)) (by omega)) (by omega)) (by omega) (by omega) (by omega) (by omega) (by omega)⟩ | exact ⟨by omega, fun q1 q2 => bIn (n := M 12 0 6) (bB_ad (bB_ad (bB_ad (bB_ad (bB_ad b0 (by omega)) (by omega)) (by omega)) (by omega)) (by omega)) (by omega) (by omega) (by omega) (by omega) (by omega)⟩) | ((try simp (disch := decide) only [cmp3_lt, cmp3_ge, cmp3_gt, cmp3_le, cmp3_eq, ms_q, ms_f, mf_q, mf_f, mc_q, mc_f, and_self, and_true, true_and, and_false, false_and, or_true, true_or, or_false, false_or, if_true, if_false, not_true_eq_false, not_false_eq_true, eq_self, reduceIte, Int.reduceEq, Int.reduceLT, Int.reduceLE, Int.reduceNeg, Int.reduceAdd, Int.reduceSub, Int.reduceMul, Int.add_sub_cancel]); (try simp (disch := omega) only [w32_e, w64_e, td_pos, tm_pos, Int.add_sub_cancel, e12, e65, e61, e62, e63, adM_q]); ((repeat' (first | assumption | omega | with_reducible rfl | apply And.intro)); done))) ?_; conv => whnf)
        | (intro v; intro hv; conv => whnf)
      all_goals first
        | (have e9 : i = M 12 0 6 := by omega
           refine ⟨_, ?_, 0, rfl, rfl, ⟨Int.le_refl _, n14.1⟩, fr, fun r x a b c d => ?_⟩
           · omega
           · exact hz r x a (by omega) c d)
        | (refine ⟨_, ?_, i, 0, rfl, rfl, ⟨i0.1, by omega⟩, ⟨Int.le_refl _, by omega⟩, fr, hz, fun x a b => absurd b (by omega)⟩
           omega)
    · rintro n9 vs M9 ⟨i, j, rfl, rfl, i0, j0, fr, hz, hy⟩
      have e12 : M9 12 = M 12 := fr 12 (by decide)
      have ei : w32 (i + 1) = i + 1 := w32_e (by omega) (by omega)
      have ej : w32 (j + 1) = j + 1 := w32_e (by omega) (by omega)
      show wpH _ 600 _ 14 _ true 12 [vR 12 0, vI i, vI j, vU] [] _ Q
      conv => whnf
      repeat' first
        | (refine And.intro (fun h => ?_) (fun h => ?_) <;> (try simp (disch := decide) only [cmp3_lt, cmp3_ge, cmp3_gt, cmp3_le, cmp3_eq, ms_q, ms_f, mf_q, mf_f, mc_q, mc_f, and_self, and_true, true_and, and_false, false_and, or_true, true_or, or_false, false_or, if_true, if_false, not_true_eq_false, not_false_eq_true, eq_self, reduceIte, Int.reduceEq, Int.reduceLT, Int.reduceLE, Int.reduceNeg, Int.reduceAdd, Int.reduceSub, Int.reduceMul, Int.add_sub_cancel] at h) <;> (try simp (disch := omega) only [w32_e, w64_e, td_pos, tm_pos, Int.add_sub_cancel, e12, e65, e61, e62, e63, adM_q] at h) <;> first | exact absurd rfl h | exact absurd h (by decide) | (exfalso; omega) | (conv => whnf))
        | (refine And.intro (by first | omega | ((try simp (disch := decide) only [cmp3_lt, cmp3_ge, cmp3_gt, cmp3_le, cmp3_eq, ms_q, ms_f, mf_q, mf_f, mc_q, mc_f, and_self, and_true, true_and, and_false, false_and, or_true, true_or, or_false, false_or, if_true, if_false, not_true_eq_false, not_false_eq_true, eq_self, reduceIte, Int.reduceEq, Int.reduceLT, Int.reduceLE, Int.reduceNeg, Int.reduceAdd, Int.reduceSub, Int.reduceMul, Int.add_sub_cancel]); (try simp (disch := omega) only [w32_e, w64_e, td_pos, tm_pos, Int.add_sub_cancel, e12, e65, e61, e62, e63, adM_q]); first | assumption | omega) | (refine ⟨rfl, ?_⟩; try simp (disch := decide) only [adM_q, adM_67, e12, e65, e61, e62, e63]; have hx1 := hx (by omega); have te1 := te (by omega); first | exact ⟨by omega, fun q1 q2 => bIn (n := M 12 0 6) b0 (by omega) (by omega) (by omega) (by omega) (by omega)⟩ | exact ⟨by omega, fun q1 q2 => bIn (n := M 12 0 6) (bB_ad b0 (by omega)) (by omega) (by omega) (by omega) (by omega) (by omega)⟩ | exact ⟨by omega, fun q1 q2 => bIn (n := M 12 0 6) (bB_ad (bB_ad b0 (by omega)) (by omega)) (by omega) (by omega) (by omega) (by omega) (by omega)⟩ | exact ⟨by omega, fun q1 q2 => bIn (n := M 12 0 6) (bB_ad (bB_ad (bB_ad b0 (by omega)) (by omega)) (by omega)) (by omega) (by omega) (by omega) (by omega) (by omega)⟩ | exact ⟨by omega, fun q1 q2 => bIn (n := M 12 0 6) (bB_ad (bB_ad (bB_ad (bB_ad b0 (by omega)) (by omega)) (by omega)) (by omega)) (by omega) (by omega) (by omega) (by omega) (by omega)⟩ | exact ⟨by omega, fun q1 q2 => bIn (n := M 12 0 6) (bB_ad (bB_ad (bB_ad (bB_ad (bB_ad b0 (by omega)) (by omega)) (by omega)) (by omega)) (by omega)) (by omega) (by omega) (by omega) (by omega) (by omega)⟩) | ((try simp (disch := decide) only [cmp3_lt, cmp3_ge, cmp3_gt, cmp3_le, cmp3_eq, ms_q, ms_f, mf_q, mf_f, mc_q, mc_f, and_self, and_true, true_and, and_false, false_and, or_true, true_or, or_false, false_or, if_true, if_false, not_true_eq_false, not_false_eq_true, eq_self, reduceIte, Int.reduceEq, Int.reduceLT, Int.reduceLE, Int.reduceNeg, Int.reduceAdd, Int.reduceSub, Int.reduceMul, Int.add_sub_cancel]); (try simp (disch := omega) only [w32_e, w64_e, td_pos, tm_pos, Int.add_sub_cancel, e12, e65, e61, e62, e63, adM_q]); ((repeat' (first | assumption | omega | with_reducible rfl | apply And.intro)); done))) ?_; conv => whnf)
        | (intro v; intro hv; conv => whnf)
      all_goals first
        | (have e9 : j = M 12 0 6 + 1 := by omega
           refine ⟨_, ?_, i + 1, by rw [ei], rfl, ⟨by omega, by omega⟩, fr, fun r x a b c d => ?_⟩
           · omega
           · by_cases q : r = i
             · rw [q]
               exact hy x c (by omega)
             · exact hz r x a (by omega) c d)
        | (refine ⟨_, ?_, i, j + 1, by rw [ej], rfl, i0, ⟨by omega, by omega⟩, fun p z => by rw [ms_q z]; exact fr p z, fun r x a b c d => ?_, fun x a b => ?_⟩
           · omega
           · rw [ms_f, if_neg (by omega)]
             exact hz r x a b c d
           · rw [ms_f]
             by_cases q : x = j
             · rw [if_pos ⟨rfl, q⟩]
             · rw [if_neg (fun y => q y.2)]
               exact hy x a (by omega))
    · rintro n9 vs M9 ⟨e, rfl, rfl, e0, fr, hs⟩
      have e12 : M9 12 = M 12 := fr 12 (by decide)
      have ee : w32 (e + 1) = e + 1 := w32_e (by omega) (by omega)
      have e65 : M9 65 = M 65 := fr 65 (by decide)
      have e61 : M9 61 = M 61 := fr 61 (by decide)
      have e62 : M9 62 = M 62 := fr 62 (by decide)
      have e63 : M9 63 = M 63 := fr 63 (by decide)
      have te : e < M 12 0 0 → 1 ≤ M 63 0 e ∧ M 63 0 e ≤ 95 := fun z => ht e e0.1 z
      have he : e < M 12 0 0 → (0 ≤ M 61 0 e ∧ M 61 0 e < 6) ∧ (6 ≤ M 62 0 e ∧ M 62 0 e < 14) := fun z => hab.2 e e0.1 z
      have hx : e < M 12 0 0 → (M 65 0 (M 61 0 e) = -4 ∨ (0 ≤ M 65 0 (M 61 0 e) ∧ M 65 0 (M 61 0 e) < M 12 0 6)) ∧ (M 65 0 (M 62 0 e) = -4 ∨ (0 ≤ M 65 0 (M 62 0 e) ∧ M 65 0 (M 62 0 e) < M 12 0 6)) := fun z => ⟨hcl _ (by have := he z; omega) (by have := he z; omega), hcl _ (by have := he z; omega) (by have := he z; omega)⟩
      have b0 : bB (M9 67) (M 12 0 6) 1330 := fun r x r0 r1 x0 x1 => by
        rw [hs r x r0 r1 x0 x1]
        exact sr_bd (by omega) (fun z hz => by have := ht z (by omega) (by omega); omega)
      show wpH _ 600 _ 14 _ true 43 [vR 12 0, vI e, vU, vU] [] _ Q
      conv => whnf
      repeat' first
        | (refine And.intro (fun h => ?_) (fun h => ?_) <;> (try simp (disch := decide) only [cmp3_lt, cmp3_ge, cmp3_gt, cmp3_le, cmp3_eq, ms_q, ms_f, mf_q, mf_f, mc_q, mc_f, and_self, and_true, true_and, and_false, false_and, or_true, true_or, or_false, false_or, if_true, if_false, not_true_eq_false, not_false_eq_true, eq_self, reduceIte, Int.reduceEq, Int.reduceLT, Int.reduceLE, Int.reduceNeg, Int.reduceAdd, Int.reduceSub, Int.reduceMul, Int.add_sub_cancel] at h) <;> (try simp (disch := omega) only [w32_e, w64_e, td_pos, tm_pos, Int.add_sub_cancel, e12, e65, e61, e62, e63, adM_q] at h) <;> first | exact absurd rfl h | exact absurd h (by decide) | (exfalso; omega) | (conv => whnf))
        | (refine And.intro (by first | omega | ((try simp (disch := decide) only [cmp3_lt, cmp3_ge, cmp3_gt, cmp3_le, cmp3_eq, ms_q, ms_f, mf_q, mf_f, mc_q, mc_f, and_self, and_true, true_and, and_false, false_and, or_true, true_or, or_false, false_or, if_true, if_false, not_true_eq_false, not_false_eq_true, eq_self, reduceIte, Int.reduceEq, Int.reduceLT, Int.reduceLE, Int.reduceNeg, Int.reduceAdd, Int.reduceSub, Int.reduceMul, Int.add_sub_cancel]); (try simp (disch := omega) only [w32_e, w64_e, td_pos, tm_pos, Int.add_sub_cancel, e12, e65, e61, e62, e63, adM_q]); first | assumption | omega) | (refine ⟨rfl, ?_⟩; try simp (disch := decide) only [adM_q, adM_67, e12, e65, e61, e62, e63]; have hx1 := hx (by omega); have te1 := te (by omega); first | exact ⟨by omega, fun q1 q2 => bIn (n := M 12 0 6) b0 (by omega) (by omega) (by omega) (by omega) (by omega)⟩ | exact ⟨by omega, fun q1 q2 => bIn (n := M 12 0 6) (bB_ad b0 (by omega)) (by omega) (by omega) (by omega) (by omega) (by omega)⟩ | exact ⟨by omega, fun q1 q2 => bIn (n := M 12 0 6) (bB_ad (bB_ad b0 (by omega)) (by omega)) (by omega) (by omega) (by omega) (by omega) (by omega)⟩ | exact ⟨by omega, fun q1 q2 => bIn (n := M 12 0 6) (bB_ad (bB_ad (bB_ad b0 (by omega)) (by omega)) (by omega)) (by omega) (by omega) (by omega) (by omega) (by omega)⟩ | exact ⟨by omega, fun q1 q2 => bIn (n := M 12 0 6) (bB_ad (bB_ad (bB_ad (bB_ad b0 (by omega)) (by omega)) (by omega)) (by omega)) (by omega) (by omega) (by omega) (by omega) (by omega)⟩ | exact ⟨by omega, fun q1 q2 => bIn (n := M 12 0 6) (bB_ad (bB_ad (bB_ad (bB_ad (bB_ad b0 (by omega)) (by omega)) (by omega)) (by omega)) (by omega)) (by omega) (by omega) (by omega) (by omega) (by omega)⟩) | ((try simp (disch := decide) only [cmp3_lt, cmp3_ge, cmp3_gt, cmp3_le, cmp3_eq, ms_q, ms_f, mf_q, mf_f, mc_q, mc_f, and_self, and_true, true_and, and_false, false_and, or_true, true_or, or_false, false_or, if_true, if_false, not_true_eq_false, not_false_eq_true, eq_self, reduceIte, Int.reduceEq, Int.reduceLT, Int.reduceLE, Int.reduceNeg, Int.reduceAdd, Int.reduceSub, Int.reduceMul, Int.add_sub_cancel]); (try simp (disch := omega) only [w32_e, w64_e, td_pos, tm_pos, Int.add_sub_cancel, e12, e65, e61, e62, e63, adM_q]); ((repeat' (first | assumption | omega | with_reducible rfl | apply And.intro)); done))) ?_; conv => whnf)
        | (intro v; intro hv; conv => whnf)
      all_goals first
        | (have e9 : e = M 12 0 0 := by omega
           rw [e9] at hs
           exact hQ M9 ⟨fr, hs⟩)
        | (have hlt : e < M 12 0 0 := by omega
           have hx1 := hx hlt
           have he1 := he hlt
           refine ⟨_, ?_, e + 1, by rw [ee], rfl, ⟨by omega, by omega⟩, fun p z => by simp (disch := exact z) only [adM_q]; exact fr p z, fun r x a b c d => ?_⟩
           · omega
           · simp (disch := decide) only [adM_q, adM_67, e12, e65, e61, e62, e63]
             rw [ad_six a b c d hx1.1 hx1.2 (fun q => hx1.1.elim (fun y => y) (fun y => absurd (hin _ _ (by omega) (by omega) (by omega) (by omega) y.1 q) (by omega))), hs r x a b c d]
             have en : (e + 1).toNat = e.toNat + 1 := by omega
             rw [en, sm]
             refine congrArg (fun z => _ + z) ?_
             unfold aiE ppE
             by_cases q : x < M 12 0 6
             · rw [if_pos q, if_pos (show x.toNat < (M 12 0 6).toNat by omega)]
               unfold aiE
               rw [Int.toNat_of_nonneg e0.1, Int.toNat_of_nonneg a, Int.toNat_of_nonneg c]
             · rw [if_neg q, if_neg (show ¬ x.toNat < (M 12 0 6).toNat by omega), Int.toNat_of_nonneg e0.1, Int.toNat_of_nonneg a])
  refine Vd_run (GGM_ok (l := l) (ω := ω)) 600 (hC := key 200000) (by decide) ?_
  conv => whnf
  repeat' first
    | (refine And.intro (fun h => ?_) (fun h => ?_) <;> (try simp (disch := decide) only [cmp3_lt, cmp3_ge, cmp3_gt, cmp3_le, cmp3_eq, ms_q, ms_f, mf_q, mf_f, mc_q, mc_f, and_self, and_true, true_and, and_false, false_and, or_true, true_or, or_false, false_or, if_true, if_false, not_true_eq_false, not_false_eq_true, eq_self, reduceIte, Int.reduceEq, Int.reduceLT, Int.reduceLE, Int.reduceNeg, Int.reduceAdd, Int.reduceSub, Int.reduceMul, Int.add_sub_cancel] at h) <;> (try simp (disch := omega) only [w32_e, w64_e, td_pos, tm_pos, Int.add_sub_cancel, e12, e65, e61, e62, e63, adM_q] at h) <;> first | exact absurd rfl h | exact absurd h (by decide) | (exfalso; omega) | (conv => whnf))
    | (refine And.intro (by first | omega | ((try simp (disch := decide) only [cmp3_lt, cmp3_ge, cmp3_gt, cmp3_le, cmp3_eq, ms_q, ms_f, mf_q, mf_f, mc_q, mc_f, and_self, and_true, true_and, and_false, false_and, or_true, true_or, or_false, false_or, if_true, if_false, not_true_eq_false, not_false_eq_true, eq_self, reduceIte, Int.reduceEq, Int.reduceLT, Int.reduceLE, Int.reduceNeg, Int.reduceAdd, Int.reduceSub, Int.reduceMul, Int.add_sub_cancel]); (try simp (disch := omega) only [w32_e, w64_e, td_pos, tm_pos, Int.add_sub_cancel, e12, e65, e61, e62, e63, adM_q]); first | assumption | omega) | (refine ⟨rfl, ?_⟩; try simp (disch := decide) only [adM_q, adM_67, e12, e65, e61, e62, e63]; have hx1 := hx (by omega); have te1 := te (by omega); first | exact ⟨by omega, fun q1 q2 => bIn (n := M 12 0 6) b0 (by omega) (by omega) (by omega) (by omega) (by omega)⟩ | exact ⟨by omega, fun q1 q2 => bIn (n := M 12 0 6) (bB_ad b0 (by omega)) (by omega) (by omega) (by omega) (by omega) (by omega)⟩ | exact ⟨by omega, fun q1 q2 => bIn (n := M 12 0 6) (bB_ad (bB_ad b0 (by omega)) (by omega)) (by omega) (by omega) (by omega) (by omega) (by omega)⟩ | exact ⟨by omega, fun q1 q2 => bIn (n := M 12 0 6) (bB_ad (bB_ad (bB_ad b0 (by omega)) (by omega)) (by omega)) (by omega) (by omega) (by omega) (by omega) (by omega)⟩ | exact ⟨by omega, fun q1 q2 => bIn (n := M 12 0 6) (bB_ad (bB_ad (bB_ad (bB_ad b0 (by omega)) (by omega)) (by omega)) (by omega)) (by omega) (by omega) (by omega) (by omega) (by omega)⟩ | exact ⟨by omega, fun q1 q2 => bIn (n := M 12 0 6) (bB_ad (bB_ad (bB_ad (bB_ad (bB_ad b0 (by omega)) (by omega)) (by omega)) (by omega)) (by omega)) (by omega) (by omega) (by omega) (by omega) (by omega)⟩) | ((try simp (disch := decide) only [cmp3_lt, cmp3_ge, cmp3_gt, cmp3_le, cmp3_eq, ms_q, ms_f, mf_q, mf_f, mc_q, mc_f, and_self, and_true, true_and, and_false, false_and, or_true, true_or, or_false, false_or, if_true, if_false, not_true_eq_false, not_false_eq_true, eq_self, reduceIte, Int.reduceEq, Int.reduceLT, Int.reduceLE, Int.reduceNeg, Int.reduceAdd, Int.reduceSub, Int.reduceMul, Int.add_sub_cancel]); (try simp (disch := omega) only [w32_e, w64_e, td_pos, tm_pos, Int.add_sub_cancel, e12, e65, e61, e62, e63, adM_q]); ((repeat' (first | assumption | omega | with_reducible rfl | apply And.intro)); done))) ?_; conv => whnf)
    | (intro v; intro hv; conv => whnf)
  all_goals
    (refine ⟨_, ?_, 0, rfl, rfl, ⟨Int.le_refl _, n13.1⟩, fun _ _ => rfl, fun r x a b => absurd b (by omega)⟩
     omega)
