/-! ===== grades, the class (wip/gen/p44.py) ===== -/
theorem cm_s {pr : Int → Prop} [DecidablePred pr] {Z : Int → Int} {k : Int} (h : 0 ≤ k) : cmN pr Z (k + 1) = cmS pr k (cmN pr Z k) := itI_succ h
theorem up_up {L : Int → Int} {k u v : Int} : updI (updI L k u) k v = updI L k v := by
  funext j
  unfold updI
  split <;> rfl
theorem cm_bd {pr : Int → Prop} [DecidablePred pr] {Z : Int → Int} {k : Int} (h : 0 ≤ k) : 0 ≤ (cmN pr Z k).2 ∧ (cmN pr Z k).2 ≤ k := by
  have := (cm_in (pr := pr) (Z := Z) k.toNat).1
  rw [Int.toNat_of_nonneg h] at this
  exact this

def sp_scC : Spec1 := fun as M Q => match as with
  | [.inr (.inr (.inl (q0, i0)))] => match Nat.beq q0 12 with
    | true => (i0 = 0 ∧ (0 ≤ M 12 0 0 ∧ M 12 0 0 ≤ 14)) ∧ ∀ M9, ((∀ p, p ≠ 12 → p ≠ 65 → M9 p = M p) ∧ (∀ j, j ≠ 6 → M9 12 0 j = M 12 0 j) ∧ M9 65 0 = (cmN (prC (M 64 0)) (M 65 0) 14).1 ∧ M9 12 0 6 = (cmN (prC (M 64 0)) (M 65 0) 14).2) → Q none M9
    | false => False
  | _ => False
theorem ok_scC {l : Launch} {ω : WP} : ∀ as M Q, sp_scC as M Q → Vd l ω 1 13 as M Q := by
  intro as M Q h
  unfold sp_scC at h
  split at h
  case h_2 => exact h.elim
  rename_i q0 i0 
  cases hb : Nat.beq q0 12 with
  | false => rw [hb] at h; exact h.elim
  | true =>
  rw [hb] at h
  obtain ⟨⟨hi, n14⟩, hQ⟩ := h
  have hb := beq_eq hb
  subst hb
  subst hi
  refine Vd.ok fun hok hal => ?_
  have e64 := n14
  have cb := n14
  have key : ∀ n9, CutOK l ω 1 13 (cutL [(7, [0, 1], fun kk vs M9 => ∃ k : Int, vs = [vR 12 0, vI k] ∧ kk = (1000 - k).toNat ∧ (0 ≤ k ∧ k ≤ 14) ∧ (∀ p, p ≠ 12 → p ≠ 65 → M9 p = M p) ∧ (∀ j, j ≠ 6 → M9 12 0 j = M 12 0 j) ∧ M9 65 0 = (cmN (prC (M 64 0)) (M 65 0) k).1 ∧ M9 12 0 6 = (cmN (prC (M 64 0)) (M 65 0) k).2)] n9) Q := by
    refine loops (GGL_ok (l := l) (ω := ω)) 600 _ ?_
    refine List.forall_mem_cons.mpr ⟨?_, fun _ h => absurd h List.not_mem_nil⟩
    · rintro n9 vs M9 ⟨k, rfl, rfl, k0, fr, fj, hs, hc⟩
      have e64 : M9 64 = M 64 := fr 64 (by decide) (by decide)
      have ek : w32 (k + 1) = k + 1 := w32_e (by omega) (by omega)
      have cb := cm_bd (pr := prC (M 64 0)) (Z := M 65 0) k0.1
      rw [← hc] at cb
      have ec : w32 (M9 12 0 6 + 1) = M9 12 0 6 + 1 := w32_e (by omega) (by omega)
      show wpH _ 600 _ 13 _ true 7 [vR 12 0, vI k] [] _ Q
      conv => whnf
      repeat' first
        | (refine And.intro (fun h => ?_) (fun h => ?_) <;> (try simp (disch := decide) only [cmp3_lt, cmp3_ge, cmp3_gt, cmp3_le, cmp3_eq, ms_q, ms_f, mf_q, mf_f, mc_q, mc_f, and_self, and_true, true_and, and_false, false_and, or_true, true_or, or_false, false_or, if_true, if_false, not_true_eq_false, not_false_eq_true, eq_self, reduceIte, Int.reduceEq, Int.reduceLT, Int.reduceLE, Int.reduceNeg, Int.reduceAdd, Int.reduceSub, Int.reduceMul, Int.add_sub_cancel] at h) <;> (try simp (disch := omega) only [w32_e, w64_e, td_pos, tm_pos, Int.add_sub_cancel, e64] at h) <;> first | exact absurd rfl h | exact absurd h (by decide) | (exfalso; omega) | (conv => whnf))
        | (refine And.intro (by first | omega | ((try simp (disch := decide) only [cmp3_lt, cmp3_ge, cmp3_gt, cmp3_le, cmp3_eq, ms_q, ms_f, mf_q, mf_f, mc_q, mc_f, and_self, and_true, true_and, and_false, false_and, or_true, true_or, or_false, false_or, if_true, if_false, not_true_eq_false, not_false_eq_true, eq_self, reduceIte, Int.reduceEq, Int.reduceLT, Int.reduceLE, Int.reduceNeg, Int.reduceAdd, Int.reduceSub, Int.reduceMul, Int.add_sub_cancel]); (try simp (disch := omega) only [w32_e, w64_e, td_pos, tm_pos, Int.add_sub_cancel, e64]); first | assumption | omega) | ((try simp (disch := decide) only [cmp3_lt, cmp3_ge, cmp3_gt, cmp3_le, cmp3_eq, ms_q, ms_f, mf_q, mf_f, mc_q, mc_f, and_self, and_true, true_and, and_false, false_and, or_true, true_or, or_false, false_or, if_true, if_false, not_true_eq_false, not_false_eq_true, eq_self, reduceIte, Int.reduceEq, Int.reduceLT, Int.reduceLE, Int.reduceNeg, Int.reduceAdd, Int.reduceSub, Int.reduceMul, Int.add_sub_cancel]); (try simp (disch := omega) only [w32_e, w64_e, td_pos, tm_pos, Int.add_sub_cancel, e64]); ((repeat' (first | assumption | omega | with_reducible rfl | apply And.intro)); done))) ?_; conv => whnf)
        | (intro v; intro hv; conv => whnf)
      all_goals first
        | (have e9 : k = 14 := by omega
           rw [e9] at hs hc
           exact hQ M9 ⟨fr, fj, hs, hc⟩)
        | (refine ⟨_, ?_, k + 1, by rw [ek], rfl, ⟨by omega, by omega⟩, ?_, ?_, ?_, ?_⟩
           · omega
           · intro p a b
             simp (disch := first | assumption | exact a | exact b) only [ms_q]
             exact fr p a b
           · intro j a
             simp (disch := decide) only [ms_q, ms_f, true_and]
             first
               | exact fj j a
               | (rw [if_neg a]; exact fj j a)
           · rw [cm_s k0.1]
             unfold cmS
             try simp (disch := decide) only [ms_q]
             first
               | (rw [if_pos ⟨by assumption, by assumption⟩, ms_n, ms_n, up_up, hs, ← hc]; done)
               | (rw [if_neg (fun z => z.1 (by assumption)), ms_n, hs]; done)
               | (rw [if_neg (fun z => z.2 (by assumption)), ms_n, hs]; done)
           · rw [cm_s k0.1]
             unfold cmS
             try simp (disch := decide) only [ms_q]
             first
               | (rw [if_pos ⟨by assumption, by assumption⟩, ms_f, if_pos ⟨rfl, rfl⟩, hc]; done)
               | (rw [if_pos ⟨by assumption, by assumption⟩, ms_f, if_pos ⟨rfl, rfl⟩, ec, hc]; done)
               | (rw [if_neg (fun z => z.1 (by assumption)), hc]; done)
               | (rw [if_neg (fun z => z.2 (by assumption)), hc]; done))
  refine Vd_run (GGL_ok (l := l) (ω := ω)) 600 (hC := key 5000) (by decide) ?_
  conv => whnf
  repeat' first
    | (refine And.intro (fun h => ?_) (fun h => ?_) <;> (try simp (disch := decide) only [cmp3_lt, cmp3_ge, cmp3_gt, cmp3_le, cmp3_eq, ms_q, ms_f, mf_q, mf_f, mc_q, mc_f, and_self, and_true, true_and, and_false, false_and, or_true, true_or, or_false, false_or, if_true, if_false, not_true_eq_false, not_false_eq_true, eq_self, reduceIte, Int.reduceEq, Int.reduceLT, Int.reduceLE, Int.reduceNeg, Int.reduceAdd, Int.reduceSub, Int.reduceMul, Int.add_sub_cancel] at h) <;> (try simp (disch := omega) only [w32_e, w64_e, td_pos, tm_pos, Int.add_sub_cancel, e64] at h) <;> first | exact absurd rfl h | exact absurd h (by decide) | (exfalso; omega) | (conv => whnf))
    | (refine And.intro (by first | omega | ((try simp (disch := decide) only [cmp3_lt, cmp3_ge, cmp3_gt, cmp3_le, cmp3_eq, ms_q, ms_f, mf_q, mf_f, mc_q, mc_f, and_self, and_true, true_and, and_false, false_and, or_true, true_or, or_false, false_or, if_true, if_false, not_true_eq_false, not_false_eq_true, eq_self, reduceIte, Int.reduceEq, Int.reduceLT, Int.reduceLE, Int.reduceNeg, Int.reduceAdd, Int.reduceSub, Int.reduceMul, Int.add_sub_cancel]); (try simp (disch := omega) only [w32_e, w64_e, td_pos, tm_pos, Int.add_sub_cancel, e64]); first | assumption | omega) | ((try simp (disch := decide) only [cmp3_lt, cmp3_ge, cmp3_gt, cmp3_le, cmp3_eq, ms_q, ms_f, mf_q, mf_f, mc_q, mc_f, and_self, and_true, true_and, and_false, false_and, or_true, true_or, or_false, false_or, if_true, if_false, not_true_eq_false, not_false_eq_true, eq_self, reduceIte, Int.reduceEq, Int.reduceLT, Int.reduceLE, Int.reduceNeg, Int.reduceAdd, Int.reduceSub, Int.reduceMul, Int.add_sub_cancel]); (try simp (disch := omega) only [w32_e, w64_e, td_pos, tm_pos, Int.add_sub_cancel, e64]); ((repeat' (first | assumption | omega | with_reducible rfl | apply And.intro)); done))) ?_; conv => whnf)
    | (intro v; intro hv; conv => whnf)
  all_goals
    (refine ⟨_, ?_, 0, rfl, rfl, ⟨Int.le_refl _, by decide⟩, ?_, ?_, rfl, ?_⟩
     · omega
     · exact fun p a b => by rw [ms_q a]
     · exact fun j a => by rw [ms_f, if_neg (fun z => a z.2)]
     · rw [ms_f, if_pos ⟨rfl, rfl⟩]
       rfl)
