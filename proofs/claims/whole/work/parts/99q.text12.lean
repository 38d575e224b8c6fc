/-! ===== text, the model: next (wip/gen/p65.py) ===== -/
def GLAA : List (Nat × Nat × Spec1) := (202, 3, sp_nnM) :: GLZ
abbrev GGAA : Env1 := fun n => getG n GLAA
theorem GGAA_all {l : Launch} {ω : WP} : ∀ e ∈ GLAA, ∀ as M Q, e.2.2 as M Q → Vd l ω e.2.1 e.1 as M Q := List.forall_mem_cons.mpr ⟨ok_nnM, GGZ_all⟩
theorem GGAA_ok {l : Launch} {ω : WP} : GOK l ω GGAA := getG_ok GLAA GGAA_all

def chM (t : Int) : Int := if t = 16 then 40 else if t = 17 then 41 else if t = 18 then 43 else if t = 19 then 45 else if t = 20 then 42 else if t = 21 then 60 else if t = 22 then 62 else if t = 23 then 61 else 59
theorem chM_s {c : Int} (h : ¬ sgC c = 27) : (16 ≤ sgC c ∧ sgC c ≤ 24) ∧ chM (sgC c) = c := by
  unfold sgC at h ⊢
  (repeat' split at h)
  all_goals first
    | exact absurd rfl h
    | (subst_vars; decide)
theorem sgC_w {c : Int} : (c = 40 ∨ c = 41 ∨ c = 43 ∨ c = 45 ∨ c = 42 ∨ c = 60 ∨ c = 62 ∨ c = 61 ∨ c = 59) ↔ ¬ sgC c = 27 := by
  unfold sgC
  constructor
  · rintro (h | h | h | h | h | h | h | h | h) <;> rw [h] <;> decide
  · intro h
    repeat' split at h
    all_goals omega
/-- the model's sort and value of a token -/
def SV (t n s v : Int) : Prop := ((0 ≤ t ∧ t ≤ 15) ∧ s = 1 ∧ v = vmM t) ∨ ((16 ≤ t ∧ t ≤ 24) ∧ s = 3 ∧ v = chM t) ∨ (t = 25 ∧ s = 2 ∧ v = n) ∨ (t = 26 ∧ s = 0)
theorem vmM_n {t : Int} (h : (0 ≤ t ∧ t ≤ 15) ∨ t = 27) : vmM t = -4 ↔ t = 27 := by
  unfold vmM
  constructor
  · intro z
    split at z
    · omega
    · split at z <;> omega
  · intro z
    rw [z]
    decide

def sp_nxM : Spec1 := fun as M Q => match as with
  | [.inr (.inr (.inl (q0, i0)))] => match Nat.beq q0 13 with
    | true => (i0 = 0 ∧ (0 ≤ (M 13 0 29) ∧ (M 13 0 29) ≤ (M 13 0 28) ∧ (M 13 0 28) ≤ 240) ∧ (∀ j, 0 ≤ j → j < (M 13 0 28) → 0 ≤ (M 90 0) j ∧ (M 90 0) j ≤ 255) ∧ 0 ≤ M 13 0 33) ∧ ((0 < M 13 0 33 → Q none M) ∧ (M 13 0 33 = 0 → ∀ M9, ((∀ p, p ≠ 13 → M9 p = M p) ∧ (∀ j, j ≠ 29 → j ≠ 30 → j ≠ 31 → j ≠ 32 → j ≠ 33 → j ≠ 34 → M9 13 0 j = M 13 0 j) ∧ (M9 13 0 29 = (tkX (M 90 0) (M 13 0 28) (M 13 0 29)) ∧ M9 13 0 30 = (tkS (M 90 0) (M 13 0 28) (M 13 0 29))) ∧ ((tkT (M 90 0) (M 13 0 28) (M 13 0 29)) = 27 → M9 13 0 33 = 1 ∧ M9 13 0 34 = (tkS (M 90 0) (M 13 0 28) (M 13 0 29))) ∧ (¬ (tkT (M 90 0) (M 13 0 28) (M 13 0 29)) = 27 → M9 13 0 33 = 0 ∧ SV (tkT (M 90 0) (M 13 0 28) (M 13 0 29)) (tkV (M 90 0) (M 13 0 28) (M 13 0 29)) (M9 13 0 31) (M9 13 0 32))) → Q none M9))
    | false => False
  | _ => False
theorem ok_nxM {l : Launch} {ω : WP} : ∀ as M Q, sp_nxM as M Q → Vd l ω 4 204 as M Q := by
  intro as M Q h
  unfold sp_nxM at h
  split at h
  case h_2 => exact h.elim
  rename_i q0 i0 
  cases hb : Nat.beq q0 13 with
  | false => rw [hb] at h; exact h.elim
  | true =>
  rw [hb] at h
  obtain ⟨⟨hi, hp, ht, hf⟩, hQ⟩ := h
  have hb := beq_eq hb
  subst hb
  subst hi
  refine Vd.ok fun hok hal => ?_
  have e90 := hp
  have e28 := hp
  have e33 := hp
  have key : ∀ n9, CutOK l ω 4 204 (cutL [(8, [0], fun kk vs M9 => vs = [vR 13 0] ∧ kk = (300000 - M9 13 0 29).toNat ∧ (∀ p, p ≠ 13 → M9 p = M p) ∧ (∀ j, j ≠ 29 → M9 13 0 j = M 13 0 j) ∧ M 13 0 33 = 0 ∧ ((M 13 0 29) ≤ (M9 13 0 29) ∧ (M9 13 0 29) ≤ (M 13 0 28)) ∧ rn 32 32 (M 90 0) (M 13 0 28) (M9 13 0 29) = (tkS (M 90 0) (M 13 0 28) (M 13 0 29))), (82, [0], fun kk vs M9 => vs = [vR 13 0] ∧ kk = (200000 - M9 13 0 29).toNat ∧ (∀ p, p ≠ 13 → M9 p = M p) ∧ (∀ j, j ≠ 29 → j ≠ 30 → j ≠ 31 → M9 13 0 j = M 13 0 j) ∧ M 13 0 33 = 0 ∧ M9 13 0 31 = 1 ∧ (M9 13 0 30) = (tkS (M 90 0) (M 13 0 28) (M 13 0 29)) ∧ (((M 13 0 29) ≤ (M9 13 0 30) ∧ (M9 13 0 30) < (M 13 0 28)) ∧ (97 ≤ (M 90 0) (M9 13 0 30) ∧ (M 90 0) (M9 13 0 30) ≤ 122)) ∧ ((M9 13 0 30) ≤ (M9 13 0 29) ∧ (M9 13 0 29) ≤ (M 13 0 28)) ∧ rn 97 122 (M 90 0) (M 13 0 28) (M9 13 0 29) = rn 97 122 (M 90 0) (M 13 0 28) (M9 13 0 30)), (170, [0], fun kk vs M9 => vs = [vR 13 0] ∧ kk = (200000 - M9 13 0 29).toNat ∧ (∀ p, p ≠ 13 → M9 p = M p) ∧ (∀ j, j ≠ 29 → j ≠ 30 → j ≠ 31 → j ≠ 32 → M9 13 0 j = M 13 0 j) ∧ M 13 0 33 = 0 ∧ M9 13 0 31 = 2 ∧ (M9 13 0 30) = (tkS (M 90 0) (M 13 0 28) (M 13 0 29)) ∧ (((M 13 0 29) ≤ (M9 13 0 30) ∧ (M9 13 0 30) < (M 13 0 28)) ∧ (48 ≤ (M 90 0) (M9 13 0 30) ∧ (M 90 0) (M9 13 0 30) ≤ 57)) ∧ ((M9 13 0 30) ≤ (M9 13 0 29) ∧ (M9 13 0 29) ≤ (M 13 0 28)) ∧ rn 48 57 (M 90 0) (M 13 0 28) (M9 13 0 29) = rn 48 57 (M 90 0) (M 13 0 28) (M9 13 0 30) ∧ ((0 ≤ M9 13 0 32 ∧ M9 13 0 32 ≤ 9999) ∧ ((M9 13 0 29) - (M9 13 0 30) = 0 → M9 13 0 32 = 0) ∧ ((M9 13 0 29) - (M9 13 0 30) = 1 → M9 13 0 32 ≤ 9) ∧ ((M9 13 0 29) - (M9 13 0 30) = 2 → M9 13 0 32 ≤ 99) ∧ ((M9 13 0 29) - (M9 13 0 30) = 3 → M9 13 0 32 ≤ 999)) ∧ nvM (M 90 0) (M 13 0 28) (M9 13 0 30) ((M 13 0 28) - (M9 13 0 29)).toNat (M9 13 0 29) (M9 13 0 32) = nvM (M 90 0) (M 13 0 28) (M9 13 0 30) ((M 13 0 28) - (M9 13 0 30)).toNat (M9 13 0 30) 0)] n9) Q := by
    refine loops (GGAA_ok (l := l) (ω := ω)) 600 _ ?_
    refine List.forall_mem_cons.mpr ⟨?_, List.forall_mem_cons.mpr ⟨?_, List.forall_mem_cons.mpr ⟨?_, fun _ h => absurd h List.not_mem_nil⟩⟩⟩
    · rintro n9 vs M9 ⟨rfl, rfl, fr, fj, f0, n0, hr⟩
      have e90 : M9 90 = M 90 := fr 90 (by decide)
      have e28 : M9 13 0 28 = M 13 0 28 := fj 28 (by decide)
      have e33 : M9 13 0 33 = 0 := by rw [fj 33 (by decide)]; exact f0
      have tp9 : M9 13 0 29 < M 13 0 28 → 0 ≤ M 90 0 (M9 13 0 29) ∧ M 90 0 (M9 13 0 29) ≤ 255 := fun z => ht _ (by omega) z
      have ei : w32 (M9 13 0 29 + 1) = M9 13 0 29 + 1 := w32_e (by omega) (by omega)
      have hS : ¬ (M9 13 0 29 < M 13 0 28 ∧ (32 ≤ M 90 0 (M9 13 0 29) ∧ M 90 0 (M9 13 0 29) ≤ 32)) → tkS (M 90 0) (M 13 0 28) (M 13 0 29) = M9 13 0 29 := fun c => by
        rw [← hr]
        exact rn_e c
      show wpH _ 600 _ 204 _ true 8 [vR 13 0, vU] [] _ Q
      conv => whnf
      repeat' first
        | (refine And.intro (fun h => ?_) (fun h => ?_) <;> (try simp (disch := decide) only [cmp3_lt, cmp3_ge, cmp3_gt, cmp3_le, cmp3_eq, ms_q, ms_f, mf_q, mf_f, mc_q, mc_f, and_self, and_true, true_and, and_false, false_and, or_true, true_or, or_false, false_or, if_true, if_false, not_true_eq_false, not_false_eq_true, eq_self, reduceIte, Int.reduceEq, Int.reduceLT, Int.reduceLE, Int.reduceNeg, Int.reduceAdd, Int.reduceSub, Int.reduceMul, Int.add_sub_cancel] at h) <;> (try simp (disch := omega) only [w32_e, w64_e, td_pos, tm_pos, Int.add_sub_cancel, e90, e28, e33] at h) <;> first | exact absurd rfl h | exact absurd h (by decide) | (exfalso; omega) | (conv => whnf))
        | (refine And.intro (by first | omega | ((try simp (disch := decide) only [cmp3_lt, cmp3_ge, cmp3_gt, cmp3_le, cmp3_eq, ms_q, ms_f, mf_q, mf_f, mc_q, mc_f, and_self, and_true, true_and, and_false, false_and, or_true, true_or, or_false, false_or, if_true, if_false, not_true_eq_false, not_false_eq_true, eq_self, reduceIte, Int.reduceEq, Int.reduceLT, Int.reduceLE, Int.reduceNeg, Int.reduceAdd, Int.reduceSub, Int.reduceMul, Int.add_sub_cancel]); (try simp (disch := omega) only [w32_e, w64_e, td_pos, tm_pos, Int.add_sub_cancel, e90, e28, e33]); first | assumption | omega) | (have q := tp9 (by omega); omega) | exact ⟨rfl, by omega⟩ | ((try simp (disch := decide) only [cmp3_lt, cmp3_ge, cmp3_gt, cmp3_le, cmp3_eq, ms_q, ms_f, mf_q, mf_f, mc_q, mc_f, and_self, and_true, true_and, and_false, false_and, or_true, true_or, or_false, false_or, if_true, if_false, not_true_eq_false, not_false_eq_true, eq_self, reduceIte, Int.reduceEq, Int.reduceLT, Int.reduceLE, Int.reduceNeg, Int.reduceAdd, Int.reduceSub, Int.reduceMul, Int.add_sub_cancel]); (try simp (disch := omega) only [w32_e, w64_e, td_pos, tm_pos, Int.add_sub_cancel, e90, e28, e33]); ((repeat' (first | assumption | omega | with_reducible rfl | apply And.intro)); done))) ?_; conv => whnf)
        | (intro v; intro hv; conv => whnf)
      all_goals first
        | (have c : M9 13 0 29 < M 13 0 28 ∧ (32 ≤ M 90 0 (M9 13 0 29) ∧ M 90 0 (M9 13 0 29) ≤ 32) := by omega
           refine ⟨_, ?_, rfl, rfl, fun p a => by rw [ms_q a]; exact fr p a, fun j a => by rw [ms_f, if_neg (fun z => a z.2)]; exact fj j a, f0, ?_, ?_⟩
           · rw [ms_f, if_pos ⟨rfl, rfl⟩, ei]
             omega
           · rw [ms_f, if_pos ⟨rfl, rfl⟩, ei]
             omega
           · rw [ms_f, if_pos ⟨rfl, rfl⟩, ei, ← hr]
             exact (rn_s c).symm)
        | (have c : M 13 0 28 ≤ M9 13 0 29 := by omega
           have s9 := hS (by omega)
           have k := tk_end (T := M 90 0) (u := M 13 0 28) (p := M 13 0 29) (by omega)
           rw [s9] at k
           refine hQ.2 f0 _ ⟨fun p a => by rw [ms_q a, ms_q a]; exact fr p a, fun j a b c d e f => by rw [ms_f, if_neg (fun z => c z.2), ms_f, if_neg (fun z => b z.2)]; exact fj j a, ⟨?_, ?_⟩, fun z => ?_, fun z => ?_⟩
           · simp (disch := decide) only [ms_q, ms_f, true_and, and_true, Int.reduceEq, if_true, if_false, reduceIte]; exact k.2.symm
           · simp (disch := decide) only [ms_q, ms_f, true_and, and_true, Int.reduceEq, if_true, if_false, reduceIte]; exact s9.symm
           · exact absurd (k.1.symm.trans z) (by decide)
           · exact ⟨by simp (disch := decide) only [ms_q, ms_f, true_and, and_true, Int.reduceEq, if_true, if_false, reduceIte]; exact e33, Or.inr (Or.inr (Or.inr ⟨k.1, by simp (disch := decide) only [ms_q, ms_f, true_and, and_true, Int.reduceEq, if_true, if_false, reduceIte]⟩))⟩)
        | (have c : M9 13 0 29 < M 13 0 28 ∧ (97 ≤ M 90 0 (M9 13 0 29) ∧ M 90 0 (M9 13 0 29) ≤ 122) := by omega
           have s9 := hS (by omega)
           refine ⟨_, ?_, rfl, rfl, fun p a => by rw [ms_q a, ms_q a]; exact fr p a, fun j a b d => by rw [ms_f, if_neg (fun z => d z.2), ms_f, if_neg (fun z => b z.2)]; exact fj j a, f0, by simp (disch := decide) only [ms_q, ms_f, true_and, and_true, Int.reduceEq, if_true, if_false, reduceIte], ?_, ?_, ?_, ?_⟩
           · simp (disch := decide) only [ms_q, ms_f, true_and, and_true, Int.reduceEq, if_true, if_false, reduceIte]
             omega
           · simp (disch := decide) only [ms_q, ms_f, true_and, and_true, Int.reduceEq, if_true, if_false, reduceIte]
             exact s9.symm
           · simp (disch := decide) only [ms_q, ms_f, true_and, and_true, Int.reduceEq, if_true, if_false, reduceIte]
             omega
           · simp (disch := decide) only [ms_q, ms_f, true_and, and_true, Int.reduceEq, if_true, if_false, reduceIte]
             omega
           · simp (disch := decide) only [ms_q, ms_f, true_and, and_true, Int.reduceEq, if_true, if_false, reduceIte])
        | (have c : M9 13 0 29 < M 13 0 28 ∧ (48 ≤ M 90 0 (M9 13 0 29) ∧ M 90 0 (M9 13 0 29) ≤ 57) := by omega
           have s9 := hS (by omega)
           refine ⟨_, ?_, rfl, rfl, fun p a => by rw [ms_q a, ms_q a, ms_q a]; exact fr p a, fun j a b d e => by rw [ms_f, if_neg (fun z => e z.2), ms_f, if_neg (fun z => d z.2), ms_f, if_neg (fun z => b z.2)]; exact fj j a, f0, by simp (disch := decide) only [ms_q, ms_f, true_and, and_true, Int.reduceEq, if_true, if_false, reduceIte], ?_, ?_, ?_, ?_, ?_, ?_⟩
           · simp (disch := decide) only [ms_q, ms_f, true_and, and_true, Int.reduceEq, if_true, if_false, reduceIte]
             omega
           · simp (disch := decide) only [ms_q, ms_f, true_and, and_true, Int.reduceEq, if_true, if_false, reduceIte]
             exact s9.symm
           · simp (disch := decide) only [ms_q, ms_f, true_and, and_true, Int.reduceEq, if_true, if_false, reduceIte]
             omega
           · simp (disch := decide) only [ms_q, ms_f, true_and, and_true, Int.reduceEq, if_true, if_false, reduceIte]
             omega
           · simp (disch := decide) only [ms_q, ms_f, true_and, and_true, Int.reduceEq, if_true, if_false, reduceIte]
           · rw [ms_f, if_pos ⟨rfl, rfl⟩]
             exact ⟨⟨by decide, by decide⟩, fun _ => rfl, fun _ => by decide, fun _ => by decide, fun _ => by decide⟩
           · simp (disch := decide) only [ms_q, ms_f, true_and, and_true, Int.reduceEq, if_true, if_false, reduceIte])
        | (have c : M9 13 0 29 < M 13 0 28 := by omega
           have s9 := hS (by omega)
           have k := tk_sg (T := M 90 0) (u := M 13 0 28) (p := M 13 0 29) (by omega) (by rw [s9]; omega) (by rw [s9]; omega)
           rw [s9] at k
           simp (disch := decide) only [ms_q, ms_f, true_and, and_true, Int.reduceEq, if_true, if_false, reduceIte, e90]
           rw [ei]
           first
             | (have w : ¬ sgC (M 90 0 (M9 13 0 29)) = 27 := sgC_w.mp (by omega)
                have ch := chM_s w
                refine hQ.2 f0 _ ⟨fun p a => by rw [ms_q a, ms_q a, ms_q a, ms_q a]; exact fr p a, fun j a b c d e f => by rw [ms_f, if_neg (fun z => a z.2), ms_f, if_neg (fun z => d z.2), ms_f, if_neg (fun z => c z.2), ms_f, if_neg (fun z => b z.2)]; exact fj j a, ⟨?_, ?_⟩, fun z => ?_, fun z => ?_⟩
                · simp (disch := decide) only [ms_q, ms_f, true_and, and_true, Int.reduceEq, if_true, if_false, reduceIte]; exact k.2.symm
                · simp (disch := decide) only [ms_q, ms_f, true_and, and_true, Int.reduceEq, if_true, if_false, reduceIte]; exact s9.symm
                · exact absurd (k.1.symm.trans z) w
                · exact ⟨by simp (disch := decide) only [ms_q, ms_f, true_and, and_true, Int.reduceEq, if_true, if_false, reduceIte]; exact e33, Or.inr (Or.inl ⟨by rw [k.1]; exact ch.1, by simp (disch := decide) only [ms_q, ms_f, true_and, and_true, Int.reduceEq, if_true, if_false, reduceIte], by simp (disch := decide) only [ms_q, ms_f, true_and, and_true, Int.reduceEq, if_true, if_false, reduceIte]; rw [k.1]; exact ch.2.symm⟩)⟩)
             | (have w : sgC (M 90 0 (M9 13 0 29)) = 27 := Decidable.byContradiction fun z => by
                  have := sgC_w.mpr z
                  omega
                refine hQ.2 f0 _ ⟨fun p a => by rw [ms_q a, ms_q a, ms_q a, ms_q a, ms_q a, ms_q a]; exact fr p a, fun j a b c d e f => by rw [ms_f, if_neg (fun z => a z.2), ms_f, if_neg (fun z => f z.2), ms_f, if_neg (fun z => e z.2), ms_f, if_neg (fun z => d z.2), ms_f, if_neg (fun z => c z.2), ms_f, if_neg (fun z => b z.2)]; exact fj j a, ⟨?_, ?_⟩, fun z => ?_, fun z => ?_⟩
                · simp (disch := decide) only [ms_q, ms_f, true_and, and_true, Int.reduceEq, if_true, if_false, reduceIte]; exact k.2.symm
                · simp (disch := decide) only [ms_q, ms_f, true_and, and_true, Int.reduceEq, if_true, if_false, reduceIte]; exact s9.symm
                · exact ⟨by simp (disch := decide) only [ms_q, ms_f, true_and, and_true, Int.reduceEq, if_true, if_false, reduceIte], by simp (disch := decide) only [ms_q, ms_f, true_and, and_true, Int.reduceEq, if_true, if_false, reduceIte]; exact s9.symm⟩
                · exact absurd (k.1.trans w) z))
    · rintro n9 vs M9 ⟨rfl, rfl, fr, fj, f0, h31, h30, hc, n0, hr⟩
      have e90 : M9 90 = M 90 := fr 90 (by decide)
      have e28 : M9 13 0 28 = M 13 0 28 := fj 28 (by decide) (by decide) (by decide)
      have e33 : M9 13 0 33 = 0 := by rw [fj 33 (by decide) (by decide) (by decide)]; exact f0
      have tp9 : M9 13 0 29 < M 13 0 28 → 0 ≤ M 90 0 (M9 13 0 29) ∧ M 90 0 (M9 13 0 29) ≤ 255 := fun z => ht _ (by omega) z
      have ei : w32 (M9 13 0 29 + 1) = M9 13 0 29 + 1 := w32_e (by omega) (by omega)
      show wpH _ 600 _ 204 _ true 82 [vR 13 0, vU] [] _ Q
      conv => whnf
      repeat' first
        | (refine And.intro (fun h => ?_) (fun h => ?_) <;> (try simp (disch := decide) only [cmp3_lt, cmp3_ge, cmp3_gt, cmp3_le, cmp3_eq, ms_q, ms_f, mf_q, mf_f, mc_q, mc_f, and_self, and_true, true_and, and_false, false_and, or_true, true_or, or_false, false_or, if_true, if_false, not_true_eq_false, not_false_eq_true, eq_self, reduceIte, Int.reduceEq, Int.reduceLT, Int.reduceLE, Int.reduceNeg, Int.reduceAdd, Int.reduceSub, Int.reduceMul, Int.add_sub_cancel] at h) <;> (try simp (disch := omega) only [w32_e, w64_e, td_pos, tm_pos, Int.add_sub_cancel, e90, e28, e33] at h) <;> first | exact absurd rfl h | exact absurd h (by decide) | (exfalso; omega) | (conv => whnf))
        | (refine And.intro (by first | omega | ((try simp (disch := decide) only [cmp3_lt, cmp3_ge, cmp3_gt, cmp3_le, cmp3_eq, ms_q, ms_f, mf_q, mf_f, mc_q, mc_f, and_self, and_true, true_and, and_false, false_and, or_true, true_or, or_false, false_or, if_true, if_false, not_true_eq_false, not_false_eq_true, eq_self, reduceIte, Int.reduceEq, Int.reduceLT, Int.reduceLE, Int.reduceNeg, Int.reduceAdd, Int.reduceSub, Int.reduceMul, Int.add_sub_cancel]); (try simp (disch := omega) only [w32_e, w64_e, td_pos, tm_pos, Int.add_sub_cancel, e90, e28, e33]); first | assumption | omega) | (have q := tp9 (by omega); omega) | exact ⟨rfl, by omega⟩ | ((try simp (disch := decide) only [cmp3_lt, cmp3_ge, cmp3_gt, cmp3_le, cmp3_eq, ms_q, ms_f, mf_q, mf_f, mc_q, mc_f, and_self, and_true, true_and, and_false, false_and, or_true, true_or, or_false, false_or, if_true, if_false, not_true_eq_false, not_false_eq_true, eq_self, reduceIte, Int.reduceEq, Int.reduceLT, Int.reduceLE, Int.reduceNeg, Int.reduceAdd, Int.reduceSub, Int.reduceMul, Int.add_sub_cancel]); (try simp (disch := omega) only [w32_e, w64_e, td_pos, tm_pos, Int.add_sub_cancel, e90, e28, e33]); ((repeat' (first | assumption | omega | with_reducible rfl | apply And.intro)); done))) ?_; conv => whnf)
        | (intro v; intro hv; conv => whnf)
      all_goals first
        | (have c : M9 13 0 29 < M 13 0 28 ∧ (97 ≤ M 90 0 (M9 13 0 29) ∧ M 90 0 (M9 13 0 29) ≤ 122) := by omega
           refine ⟨_, ?_, rfl, rfl, fun p a => by rw [ms_q a]; exact fr p a, fun j a b d => by rw [ms_f, if_neg (fun z => a z.2)]; exact fj j a b d, f0, by simp (disch := decide) only [ms_q, ms_f, true_and, and_true, Int.reduceEq, if_true, if_false, reduceIte]; exact h31, ?_, ?_, ?_, ?_⟩
           · simp (disch := decide) only [ms_q, ms_f, true_and, and_true, Int.reduceEq, if_true, if_false, reduceIte]
             omega
           · simp (disch := decide) only [ms_q, ms_f, true_and, and_true, Int.reduceEq, if_true, if_false, reduceIte]
             exact h30
           · simp (disch := decide) only [ms_q, ms_f, true_and, and_true, Int.reduceEq, if_true, if_false, reduceIte]
             exact hc
           · simp (disch := decide) only [ms_q, ms_f, true_and, and_true, Int.reduceEq, if_true, if_false, reduceIte]
             omega
           · simp (disch := decide) only [ms_q, ms_f, true_and, and_true, Int.reduceEq, if_true, if_false, reduceIte]
             rw [ei, ← hr]
             exact (rn_s c).symm)
        | (have c : ¬ (M9 13 0 29 < M 13 0 28 ∧ (97 ≤ M 90 0 (M9 13 0 29) ∧ M 90 0 (M9 13 0 29) ≤ 122)) := by omega
           have e9 := hr
           rw [rn_e c] at e9
           have k := tk_al (T := M 90 0) (u := M 13 0 28) (p := M 13 0 29) (by omega) (by rw [← h30]; exact hc.2)
           rw [← h30, ← e9] at k
           have ni := nmF_in (T := M 90 0) (s := M9 13 0 30) (e := M9 13 0 29) (L := wdL) (by decide)
           have vn := vmM_n (t := nmF (M 90 0) (M9 13 0 30) (M9 13 0 29) wdL) ni
           simp (disch := decide) only [ms_q, ms_f, true_and, and_true, Int.reduceEq, if_true, if_false, reduceIte, e90]
           first
             | (have w : nmF (M 90 0) (M9 13 0 30) (M9 13 0 29) wdL = 27 := by omega
                refine hQ.2 f0 _ ⟨fun p a => by rw [ms_q a, ms_q a, ms_q a]; exact fr p a, fun j a b c d e f => by rw [ms_f, if_neg (fun z => f z.2), ms_f, if_neg (fun z => e z.2), ms_f, if_neg (fun z => d z.2)]; exact fj j a b c, ⟨?_, ?_⟩, fun z => ?_, fun z => ?_⟩
                · simp (disch := decide) only [ms_q, ms_f, true_and, and_true, Int.reduceEq, if_true, if_false, reduceIte]; exact k.2.symm
                · simp (disch := decide) only [ms_q, ms_f, true_and, and_true, Int.reduceEq, if_true, if_false, reduceIte]; exact h30
                · exact ⟨by simp (disch := decide) only [ms_q, ms_f, true_and, and_true, Int.reduceEq, if_true, if_false, reduceIte], by simp (disch := decide) only [ms_q, ms_f, true_and, and_true, Int.reduceEq, if_true, if_false, reduceIte]; exact h30⟩
                · exact absurd (k.1.trans w) z)
             | (have w : ¬ nmF (M 90 0) (M9 13 0 30) (M9 13 0 29) wdL = 27 := by omega
                refine hQ.2 f0 _ ⟨fun p a => by rw [ms_q a]; exact fr p a, fun j a b c d e f => by rw [ms_f, if_neg (fun z => d z.2)]; exact fj j a b c, ⟨?_, ?_⟩, fun z => ?_, fun z => ?_⟩
                · simp (disch := decide) only [ms_q, ms_f, true_and, and_true, Int.reduceEq, if_true, if_false, reduceIte]; exact k.2.symm
                · simp (disch := decide) only [ms_q, ms_f, true_and, and_true, Int.reduceEq, if_true, if_false, reduceIte]; exact h30
                · exact absurd (k.1.symm.trans z) w
                · exact ⟨by simp (disch := decide) only [ms_q, ms_f, true_and, and_true, Int.reduceEq, if_true, if_false, reduceIte]; exact e33, Or.inl ⟨by rw [k.1]; omega, by simp (disch := decide) only [ms_q, ms_f, true_and, and_true, Int.reduceEq, if_true, if_false, reduceIte]; exact h31, by simp (disch := decide) only [ms_q, ms_f, true_and, and_true, Int.reduceEq, if_true, if_false, reduceIte]; rw [k.1]⟩⟩))
    · rintro n9 vs M9 ⟨rfl, rfl, fr, fj, f0, h31, h30, hc, n0, hr, vb, hv5⟩
      have e90 : M9 90 = M 90 := fr 90 (by decide)
      have e28 : M9 13 0 28 = M 13 0 28 := fj 28 (by decide) (by decide) (by decide) (by decide)
      have e33 : M9 13 0 33 = 0 := by rw [fj 33 (by decide) (by decide) (by decide) (by decide)]; exact f0
      have tp9 : M9 13 0 29 < M 13 0 28 → 0 ≤ M 90 0 (M9 13 0 29) ∧ M 90 0 (M9 13 0 29) ≤ 255 := fun z => ht _ (by omega) z
      have ei : w32 (M9 13 0 29 + 1) = M9 13 0 29 + 1 := w32_e (by omega) (by omega)
      show wpH _ 600 _ 204 _ true 170 [vR 13 0, vU] [] _ Q
      conv => whnf
      repeat' first
        | (refine And.intro (fun h => ?_) (fun h => ?_) <;> (try simp (disch := decide) only [cmp3_lt, cmp3_ge, cmp3_gt, cmp3_le, cmp3_eq, ms_q, ms_f, mf_q, mf_f, mc_q, mc_f, and_self, and_true, true_and, and_false, false_and, or_true, true_or, or_false, false_or, if_true, if_false, not_true_eq_false, not_false_eq_true, eq_self, reduceIte, Int.reduceEq, Int.reduceLT, Int.reduceLE, Int.reduceNeg, Int.reduceAdd, Int.reduceSub, Int.reduceMul, Int.add_sub_cancel] at h) <;> (try simp (disch := omega) only [w32_e, w64_e, td_pos, tm_pos, Int.add_sub_cancel, e90, e28, e33] at h) <;> first | exact absurd rfl h | exact absurd h (by decide) | (exfalso; omega) | (conv => whnf))
        | (refine And.intro (by first | omega | ((try simp (disch := decide) only [cmp3_lt, cmp3_ge, cmp3_gt, cmp3_le, cmp3_eq, ms_q, ms_f, mf_q, mf_f, mc_q, mc_f, and_self, and_true, true_and, and_false, false_and, or_true, true_or, or_false, false_or, if_true, if_false, not_true_eq_false, not_false_eq_true, eq_self, reduceIte, Int.reduceEq, Int.reduceLT, Int.reduceLE, Int.reduceNeg, Int.reduceAdd, Int.reduceSub, Int.reduceMul, Int.add_sub_cancel]); (try simp (disch := omega) only [w32_e, w64_e, td_pos, tm_pos, Int.add_sub_cancel, e90, e28, e33]); first | assumption | omega) | (have q := tp9 (by omega); omega) | exact ⟨rfl, by omega⟩ | ((try simp (disch := decide) only [cmp3_lt, cmp3_ge, cmp3_gt, cmp3_le, cmp3_eq, ms_q, ms_f, mf_q, mf_f, mc_q, mc_f, and_self, and_true, true_and, and_false, false_and, or_true, true_or, or_false, false_or, if_true, if_false, not_true_eq_false, not_false_eq_true, eq_self, reduceIte, Int.reduceEq, Int.reduceLT, Int.reduceLE, Int.reduceNeg, Int.reduceAdd, Int.reduceSub, Int.reduceMul, Int.add_sub_cancel]); (try simp (disch := omega) only [w32_e, w64_e, td_pos, tm_pos, Int.add_sub_cancel, e90, e28, e33]); ((repeat' (first | assumption | omega | with_reducible rfl | apply And.intro)); done))) ?_; conv => whnf)
        | (intro v; intro hv; conv => whnf)
      all_goals first
        | (have c : M9 13 0 29 < M 13 0 28 ∧ (48 ≤ M 90 0 (M9 13 0 29) ∧ M 90 0 (M9 13 0 29) ≤ 57) := by omega
           have tp := tp9 c.1
           have nv := nvM_s (T := M 90 0) (s := M9 13 0 30) (v := M9 13 0 32) c
           rw [hv5] at nv
           have wv : w32 (w32 (w32 (10 * M9 13 0 32) + M 90 0 (M9 13 0 29)) - 48) = 10 * M9 13 0 32 + M 90 0 (M9 13 0 29) - 48 := by
             rw [w32_e (x := 10 * M9 13 0 32) (by omega) (by omega), w32_e (x := 10 * M9 13 0 32 + M 90 0 (M9 13 0 29)) (by omega) (by omega), w32_e (x := 10 * M9 13 0 32 + M 90 0 (M9 13 0 29) - 48) (by omega) (by omega)]
           refine ⟨_, ?_, rfl, rfl, fun p a => by rw [ms_q a, ms_q a]; exact fr p a, fun j a b d e => by rw [ms_f, if_neg (fun z => a z.2), ms_f, if_neg (fun z => e z.2)]; exact fj j a b d e, f0, by simp (disch := decide) only [ms_q, ms_f, true_and, and_true, Int.reduceEq, if_true, if_false, reduceIte]; exact h31, ?_, ?_, ?_, ?_, ?_, ?_⟩
           · simp (disch := decide) only [ms_q, ms_f, true_and, and_true, Int.reduceEq, if_true, if_false, reduceIte]
             omega
           · simp (disch := decide) only [ms_q, ms_f, true_and, and_true, Int.reduceEq, if_true, if_false, reduceIte]
             exact h30
           · simp (disch := decide) only [ms_q, ms_f, true_and, and_true, Int.reduceEq, if_true, if_false, reduceIte]
             exact hc
           · simp (disch := decide) only [ms_q, ms_f, true_and, and_true, Int.reduceEq, if_true, if_false, reduceIte]
             omega
           · simp (disch := decide) only [ms_q, ms_f, true_and, and_true, Int.reduceEq, if_true, if_false, reduceIte]
             rw [ei, ← hr]
             exact (rn_s c).symm
           · simp (disch := decide) only [ms_q, ms_f, true_and, and_true, Int.reduceEq, if_true, if_false, reduceIte, e90]
             try rw [wv]
             rw [ei]
             omega
           · simp (disch := decide) only [ms_q, ms_f, true_and, and_true, Int.reduceEq, if_true, if_false, reduceIte, e90]
             try rw [wv]
             rw [ei]
             first
               | (rw [if_pos (by omega)] at nv; exact nv.symm)
               | (rw [if_neg (by omega)] at nv; exact nv.symm))
        | (have c : ¬ (M9 13 0 29 < M 13 0 28 ∧ (48 ≤ M 90 0 (M9 13 0 29) ∧ M 90 0 (M9 13 0 29) ≤ 57)) := by omega
           have e9 := hr
           rw [rn_e c] at e9
           have k := tk_di (T := M 90 0) (u := M 13 0 28) (p := M 13 0 29) (by omega) (by rw [← h30]; exact hc.2)
           rw [← h30, ← e9] at k
           try (simp (disch := decide) only [ms_q, ms_f, true_and, and_true, Int.reduceEq, if_true, if_false, reduceIte, e90])
           first
             | (have w : 4 < M9 13 0 29 - M9 13 0 30 := by omega
                rw [if_pos w] at k
                refine hQ.2 f0 _ ⟨fun p a => by rw [ms_q a, ms_q a]; exact fr p a, fun j a b c d e f => by rw [ms_f, if_neg (fun z => f z.2), ms_f, if_neg (fun z => e z.2)]; exact fj j a b c d, ⟨?_, ?_⟩, fun z => ?_, fun z => ?_⟩
                · simp (disch := decide) only [ms_q, ms_f, true_and, and_true, Int.reduceEq, if_true, if_false, reduceIte]; exact k.2.symm
                · simp (disch := decide) only [ms_q, ms_f, true_and, and_true, Int.reduceEq, if_true, if_false, reduceIte]; exact h30
                · exact ⟨by simp (disch := decide) only [ms_q, ms_f, true_and, and_true, Int.reduceEq, if_true, if_false, reduceIte], by simp (disch := decide) only [ms_q, ms_f, true_and, and_true, Int.reduceEq, if_true, if_false, reduceIte]; exact h30⟩
                · exact absurd k.1 z)
             | (have w : ¬ 4 < M9 13 0 29 - M9 13 0 30 := by omega
                rw [if_neg w] at k
                have nq := nv_eq (T := M 90 0) (u := M 13 0 28) (s := M9 13 0 30) (M 13 0 28 - M9 13 0 30).toNat (M9 13 0 30) 0 (by omega) (by omega) (by omega) (by omega) (by omega) (by omega) (by omega) (by omega) (by
                  have r := e9
                  unfold rn at r
                  rw [← r]
                  omega)
                rw [nvM_e c] at hv5
                refine hQ.2 f0 _ ⟨fun p a => by exact fr p a, fun j a b c d e f => by exact fj j a b c d, ⟨?_, ?_⟩, fun z => ?_, fun z => ?_⟩
                · exact k.2.symm
                · exact h30
                · exact absurd (k.1.symm.trans z) (by decide)
                · exact ⟨e33, Or.inr (Or.inr (Or.inl ⟨k.1, h31, by rw [hv5, ← nq.1]; unfold tkV; rw [h30]⟩))⟩))
  refine Vd_run (GGAA_ok (l := l) (ω := ω)) 600 (hC := key 500000) (by decide) ?_
  conv => whnf
  repeat' first
    | (refine And.intro (fun h => ?_) (fun h => ?_) <;> (try simp (disch := decide) only [cmp3_lt, cmp3_ge, cmp3_gt, cmp3_le, cmp3_eq, ms_q, ms_f, mf_q, mf_f, mc_q, mc_f, and_self, and_true, true_and, and_false, false_and, or_true, true_or, or_false, false_or, if_true, if_false, not_true_eq_false, not_false_eq_true, eq_self, reduceIte, Int.reduceEq, Int.reduceLT, Int.reduceLE, Int.reduceNeg, Int.reduceAdd, Int.reduceSub, Int.reduceMul, Int.add_sub_cancel] at h) <;> (try simp (disch := omega) only [w32_e, w64_e, td_pos, tm_pos, Int.add_sub_cancel, e90, e28, e33] at h) <;> first | exact absurd rfl h | exact absurd h (by decide) | (exfalso; omega) | (conv => whnf))
    | (refine And.intro (by first | omega | ((try simp (disch := decide) only [cmp3_lt, cmp3_ge, cmp3_gt, cmp3_le, cmp3_eq, ms_q, ms_f, mf_q, mf_f, mc_q, mc_f, and_self, and_true, true_and, and_false, false_and, or_true, true_or, or_false, false_or, if_true, if_false, not_true_eq_false, not_false_eq_true, eq_self, reduceIte, Int.reduceEq, Int.reduceLT, Int.reduceLE, Int.reduceNeg, Int.reduceAdd, Int.reduceSub, Int.reduceMul, Int.add_sub_cancel]); (try simp (disch := omega) only [w32_e, w64_e, td_pos, tm_pos, Int.add_sub_cancel, e90, e28, e33]); first | assumption | omega) | (have q := tp9 (by omega); omega) | exact ⟨rfl, by omega⟩ | ((try simp (disch := decide) only [cmp3_lt, cmp3_ge, cmp3_gt, cmp3_le, cmp3_eq, ms_q, ms_f, mf_q, mf_f, mc_q, mc_f, and_self, and_true, true_and, and_false, false_and, or_true, true_or, or_false, false_or, if_true, if_false, not_true_eq_false, not_false_eq_true, eq_self, reduceIte, Int.reduceEq, Int.reduceLT, Int.reduceLE, Int.reduceNeg, Int.reduceAdd, Int.reduceSub, Int.reduceMul, Int.add_sub_cancel]); (try simp (disch := omega) only [w32_e, w64_e, td_pos, tm_pos, Int.add_sub_cancel, e90, e28, e33]); ((repeat' (first | assumption | omega | with_reducible rfl | apply And.intro)); done))) ?_; conv => whnf)
    | (intro v; intro hv; conv => whnf)
  all_goals first
    | exact hQ.1 (by omega)
    | (refine ⟨_, ?_, rfl, rfl, fun _ _ => rfl, fun _ _ => rfl, by omega, ⟨Int.le_refl _, hp.2.1⟩, rfl⟩
       omega)
