/-! ===== grades, the model: adds (wip/gen/p53.py) ===== -/
theorem ix_14 {u v r x : Int} (x0 : 0 ≤ x) (x1 : x < 14) (v0 : 0 ≤ v) (v1 : v < 14) : (14 * r + x = 14 * u + v) ↔ (r = u ∧ x = v) := by
  constructor
  · intro h
    omega
  · rintro ⟨rfl, rfl⟩
    rfl
theorem ix_15 {u r x : Int} (x0 : 0 ≤ x) (x1 : x < 14) (v0 : 0 ≤ u) (v1 : u < 14) : (14 * r + x = 15 * u) ↔ (r = u ∧ x = u) := by
  constructor
  · intro h
    omega
  · rintro ⟨rfl, rfl⟩
    omega

def sp_adsM : Spec1 := fun as M Q => match as with
  | [.inr (.inr (.inl (q0, i0))), .inl a, .inl b, .inr (.inl v)] => match Nat.beq q0 13 with
    | true => (i0 = 0 ∧ (a = -4 ∨ (0 ≤ a ∧ a < 14)) ∧ (b = -4 ∨ (0 ≤ b ∧ b < 14)) ∧ (0 ≤ a → ¬ a = b) ∧ (∀ j, 0 ≤ j → j < 196 → -1000000 ≤ M 127 0 j ∧ M 127 0 j ≤ 1000000) ∧ (∀ j, 0 ≤ j → j < 14 → -1000000 ≤ M 128 0 j ∧ M 128 0 j ≤ 1000000) ∧ (0 ≤ v ∧ v ≤ 1000)) ∧ ∀ M9, ((∀ p, p ≠ 127 → p ≠ 128 → M9 p = M p) ∧ (∀ r x, 0 ≤ r → r < 14 → 0 ≤ x → x < 14 → M9 127 0 (14 * r + x) = M 127 0 (14 * r + x) + (if r = a ∧ (x = a ∨ x = b) then 1 else 0)) ∧ (∀ r, 0 ≤ r → r < 14 → M9 128 0 r = M 128 0 r + (if r = a then v else 0))) → Q none M9
    | false => False
  | _ => False
theorem ok_adsM {l : Launch} {ω : WP} : ∀ as M Q, sp_adsM as M Q → Vd l ω 1 252 as M Q := by
  intro as M Q h
  unfold sp_adsM at h
  split at h
  case h_2 => exact h.elim
  rename_i q0 i0 a b v
  cases hb : Nat.beq q0 13 with
  | false => rw [hb] at h; exact h.elim
  | true =>
  rw [hb] at h
  obtain ⟨⟨hi, ha, hbb, hne, h7, h8, hv9⟩, hQ⟩ := h
  have hb := beq_eq hb
  subst hb
  subst hi
  refine Vd.ok fun hok hal => ?_
  have u1 : ¬ a = -4 → w32 (15 * a) = 15 * a ∧ w32 (14 * a) = 14 * a ∧ w64 (M 127 0 (15 * a) + 1) = M 127 0 (15 * a) + 1 ∧ w64 (M 128 0 a + v) = M 128 0 a + v := fun z => by
    have a0 := ha.resolve_left z
    have q1 := h7 (15 * a) (by omega) (by omega)
    have q2 := h8 a a0.1 a0.2
    exact ⟨w32_e (by omega) (by omega), w32_e (by omega) (by omega), w64_e (by omega) (by omega), w64_e (by omega) (by omega)⟩
  have u2 : ¬ a = -4 → ¬ b = -4 → w32 (14 * a + b) = 14 * a + b ∧ w64 (M 127 0 (14 * a + b) + 1) = M 127 0 (14 * a + b) + 1 := fun z z2 => by
    have a0 := ha.resolve_left z
    have b0 := hbb.resolve_left z2
    have q1 := h7 (14 * a + b) (by omega) (by omega)
    exact ⟨w32_e (by omega) (by omega), w64_e (by omega) (by omega)⟩
  refine Vd_run (GGP_ok (l := l) (ω := ω)) 400 (cut := fun _ => none) (by decide) CutOK_none ?_
  conv => whnf
  repeat' first
    | (refine And.intro (fun h => ?_) (fun h => ?_) <;> (try simp (disch := decide) only [cmp3_lt, cmp3_ge, cmp3_gt, cmp3_le, cmp3_eq, ms_q, ms_f, mf_q, mf_f, mc_q, mc_f, and_self, and_true, true_and, and_false, false_and, or_true, true_or, or_false, false_or, if_true, if_false, not_true_eq_false, not_false_eq_true, eq_self, reduceIte, Int.reduceEq, Int.reduceLT, Int.reduceLE, Int.reduceNeg, Int.reduceAdd, Int.reduceSub, Int.reduceMul, Int.add_sub_cancel] at h) <;> (try simp (disch := omega) only [w32_e, w64_e, td_pos, tm_pos, Int.add_sub_cancel] at h) <;> first | exact absurd rfl h | exact absurd h (by decide) | (exfalso; omega) | (conv => whnf))
    | (refine And.intro (by first | omega | ((try simp (disch := decide) only [cmp3_lt, cmp3_ge, cmp3_gt, cmp3_le, cmp3_eq, ms_q, ms_f, mf_q, mf_f, mc_q, mc_f, and_self, and_true, true_and, and_false, false_and, or_true, true_or, or_false, false_or, if_true, if_false, not_true_eq_false, not_false_eq_true, eq_self, reduceIte, Int.reduceEq, Int.reduceLT, Int.reduceLE, Int.reduceNeg, Int.reduceAdd, Int.reduceSub, Int.reduceMul, Int.add_sub_cancel]); (try simp (disch := omega) only [w32_e, w64_e, td_pos, tm_pos, Int.add_sub_cancel]); first | assumption | omega) | ((try simp (disch := decide) only [cmp3_lt, cmp3_ge, cmp3_gt, cmp3_le, cmp3_eq, ms_q, ms_f, mf_q, mf_f, mc_q, mc_f, and_self, and_true, true_and, and_false, false_and, or_true, true_or, or_false, false_or, if_true, if_false, not_true_eq_false, not_false_eq_true, eq_self, reduceIte, Int.reduceEq, Int.reduceLT, Int.reduceLE, Int.reduceNeg, Int.reduceAdd, Int.reduceSub, Int.reduceMul, Int.add_sub_cancel]); (try simp (disch := omega) only [w32_e, w64_e, td_pos, tm_pos, Int.add_sub_cancel]); ((repeat' (first | assumption | omega | with_reducible rfl | apply And.intro)); done))) ?_; conv => whnf)
    | (intro v; intro hv; conv => whnf)
  all_goals first
    | (refine hQ M ⟨fun _ _ _ => rfl, fun r x a1 a2 a3 a4 => ?_, fun r a1 a2 => ?_⟩
       · rw [if_neg (by omega)]
         omega
       · rw [if_neg (by omega)]
         omega)
    | (have a9 : ¬ a = -4 := by assumption
       have a0 := ha.resolve_left a9
       have q := u1 a9
       first
         | (have b8 : b = -4 := by assumption
            refine hQ _ ⟨fun p p1 p2 => by rw [ms_q p2, ms_q p1], fun r x a1 a2 a3 a4 => ?_, fun r a1 a2 => ?_⟩
            · rw [ms_q (by decide), ms_f, q.1, q.2.2.1]
              by_cases c : r = a ∧ x = a
              · rw [if_pos ⟨rfl, (ix_15 a3 a4 a0.1 a0.2).mpr c⟩, if_pos ⟨c.1, Or.inl c.2⟩, (ix_15 a3 a4 a0.1 a0.2).mpr c]
              · rw [if_neg (fun z => c ((ix_15 a3 a4 a0.1 a0.2).mp z.2)), if_neg (fun z => z.2.elim (fun y => c ⟨z.1, y⟩) (fun y => by omega))]
                omega
            · rw [ms_f, ms_q (by decide), q.2.2.2]
              by_cases c : r = a
              · rw [if_pos ⟨rfl, c⟩, if_pos c, c]
              · rw [if_neg (fun z => c z.2), if_neg c]
                omega)
         | (have b8 : ¬ b = -4 := by assumption
            have b0 := hbb.resolve_left b8
            have w := u2 a9 b8
            have ne := hne a0.1
            have i1 : ¬ 14 * a + b = 15 * a := by omega
            refine hQ _ ⟨fun p p1 p2 => by rw [ms_q p1, ms_q p2, ms_q p1], fun r x a1 a2 a3 a4 => ?_, fun r a1 a2 => ?_⟩
            · rw [q.1, q.2.1, w.1, q.2.2.1]
              have e1 : mset (mset M 127 0 (15 * a) (M 127 0 (15 * a) + 1)) 128 0 a (w64 (mset M 127 0 (15 * a) (M 127 0 (15 * a) + 1) 128 0 a + v)) 127 0 (14 * a + b) = M 127 0 (14 * a + b) := by
                rw [ms_q (by decide), ms_f, if_neg (fun z => i1 z.2)]
              rw [e1, w.2, ms_f]
              by_cases c2 : r = a ∧ x = b
              · rw [if_pos ⟨rfl, (ix_14 a3 a4 b0.1 b0.2).mpr c2⟩, if_pos ⟨c2.1, Or.inr c2.2⟩, (ix_14 a3 a4 b0.1 b0.2).mpr c2]
              · rw [if_neg (fun z => c2 ((ix_14 a3 a4 b0.1 b0.2).mp z.2)), ms_q (by decide), ms_f]
                by_cases c : r = a ∧ x = a
                · rw [if_pos ⟨rfl, (ix_15 a3 a4 a0.1 a0.2).mpr c⟩, if_pos ⟨c.1, Or.inl c.2⟩, (ix_15 a3 a4 a0.1 a0.2).mpr c]
                · rw [if_neg (fun z => c ((ix_15 a3 a4 a0.1 a0.2).mp z.2)), if_neg (fun z => z.2.elim (fun y => c ⟨z.1, y⟩) (fun y => c2 ⟨z.1, y⟩))]
                  omega
            · rw [ms_q (by decide), ms_f, ms_q (by decide), q.2.2.2]
              by_cases c : r = a
              · rw [if_pos ⟨rfl, c⟩, if_pos c, c]
              · rw [if_neg (fun z => c z.2), if_neg c]
                omega))
