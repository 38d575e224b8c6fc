/-! ===== text, the class: tokens (wip/gen/p61.py) ===== -/
def GLU : List (Nat × Nat × Spec1) := (59, 5, sp_inC) :: (61, 5, sp_takC) :: GLS
abbrev GGU : Env1 := fun n => getG n GLU
theorem GGU_all {l : Launch} {ω : WP} : ∀ e ∈ GLU, ∀ as M Q, e.2.2 as M Q → Vd l ω e.2.1 e.1 as M Q := List.forall_mem_cons.mpr ⟨ok_inC, List.forall_mem_cons.mpr ⟨ok_takC, GGS_all⟩⟩
theorem GGU_ok {l : Launch} {ω : WP} : GOK l ω GGU := getG_ok GLU GGU_all

def sp_rnmC : Spec1 := fun as M Q => match as with
  | [.inr (.inr (.inl (q0, i0)))] => match Nat.beq q0 7 with
    | true => (i0 = 0 ∧ (0 ≤ M 7 0 3 ∧ M 7 0 3 = M 7 0 2 ∧ M 7 0 2 ≤ (M 7 0 1) ∧ (M 7 0 1) ≤ 240) ∧ (∀ j, 0 ≤ j → j < (M 7 0 1) → 0 ≤ (M 40 0) j ∧ (M 40 0) j ≤ 255)) ∧ ∀ M9, ((∀ p, p ≠ 7 → M9 p = M p) ∧ (∀ j, j ≠ 2 → j ≠ 4 → M9 7 0 j = M 7 0 j) ∧ M9 7 0 2 = (rn 97 122 (M 40 0) (M 7 0 1) (M 7 0 2)) ∧ M9 7 0 4 = nmF (M 40 0) (M 7 0 3) (rn 97 122 (M 40 0) (M 7 0 1) (M 7 0 2)) wdL) → Q none M9
    | false => False
  | _ => False
theorem ok_rnmC {l : Launch} {ω : WP} : ∀ as M Q, sp_rnmC as M Q → Vd l ω 6 58 as M Q := by
  intro as M Q h
  unfold sp_rnmC at h
  split at h
  case h_2 => exact h.elim
  rename_i q0 i0 
  cases hb : Nat.beq q0 7 with
  | false => rw [hb] at h; exact h.elim
  | true =>
  rw [hb] at h
  obtain ⟨⟨hi, hs, ht⟩, hQ⟩ := h
  have hb := beq_eq hb
  subst hb
  subst hi
  refine Vd.ok fun hok hal => ?_
  have tp9 := ht
  have e40 := ht
  have e1 := ht
  have e3 := ht
  have h2 := ht
  have ei := ht
  have ea := ht
  have eif := ht
  have key : ∀ n9, CutOK l ω 6 58 (cutL [(0, [0], fun kk vs M9 => vs = [vR 7 0] ∧ kk = (300000 - M9 7 0 2).toNat ∧ (∀ p, p ≠ 7 → M9 p = M p) ∧ (∀ j, j ≠ 2 → M9 7 0 j = M 7 0 j) ∧ (M 7 0 2 ≤ M9 7 0 2 ∧ M9 7 0 2 ≤ (M 7 0 1)) ∧ rn 97 122 (M 40 0) (M 7 0 1) (M9 7 0 2) = (rn 97 122 (M 40 0) (M 7 0 1) (M 7 0 2))), (55, [0, 1, 2, 3], fun kk vs M9 => ∃ a f i : Int, vs = [vR 7 0, vI a, vI f, vI i] ∧ kk = (1000 - i).toNat ∧ (∀ p, p ≠ 7 → M9 p = M p) ∧ (∀ j, j ≠ 2 → j ≠ 4 → M9 7 0 j = M 7 0 j) ∧ M9 7 0 2 = (rn 97 122 (M 40 0) (M 7 0 1) (M 7 0 2)) ∧ (0 ≤ a ∧ a ≤ i ∧ 0 ≤ f ∧ f ≤ i ∧ i ≤ 80) ∧ rdW (M 40 0) (M 7 0 3) (rn 97 122 (M 40 0) (M 7 0 1) (M 7 0 2)) (80 - i).toNat i (a, f, M9 7 0 4) = rdW (M 40 0) (M 7 0 3) (rn 97 122 (M 40 0) (M 7 0 1) (M 7 0 2)) 80 0 (0, 0, 27))] n9) Q := by
    refine loops (GGU_ok (l := l) (ω := ω)) 400 _ ?_
    refine List.forall_mem_cons.mpr ⟨?_, List.forall_mem_cons.mpr ⟨?_, fun _ h => absurd h List.not_mem_nil⟩⟩
    · rintro n9 vs M9 ⟨rfl, rfl, fr, fj, n0, hr⟩
      have e40 : M9 40 = M 40 := fr 40 (by decide)
      have e1 : M9 7 0 1 = M 7 0 1 := fj 1 (by decide)
      have e3 := e1
      have h2 := e1
      have ea := e1
      have eif := e1
      have tp9 : M9 7 0 2 < M 7 0 1 → 0 ≤ M 40 0 (M9 7 0 2) ∧ M 40 0 (M9 7 0 2) ≤ 255 := fun z => ht _ (by omega) z
      have ei : w32 (M9 7 0 2 + 1) = M9 7 0 2 + 1 := w32_e (by omega) (by omega)
      show wpH _ 400 _ 58 _ true 0 [vR 7 0, vU, vU, vU] [] _ Q
      conv => whnf
      repeat' first
        | (refine And.intro (fun h => ?_) (fun h => ?_) <;> (try simp (disch := decide) only [cmp3_lt, cmp3_ge, cmp3_gt, cmp3_le, cmp3_eq, ms_q, ms_f, mf_q, mf_f, mc_q, mc_f, and_self, and_true, true_and, and_false, false_and, or_true, true_or, or_false, false_or, if_true, if_false, not_true_eq_false, not_false_eq_true, eq_self, reduceIte, Int.reduceEq, Int.reduceLT, Int.reduceLE, Int.reduceNeg, Int.reduceAdd, Int.reduceSub, Int.reduceMul, Int.add_sub_cancel] at h) <;> (try simp (disch := omega) only [w32_e, w64_e, td_pos, tm_pos, Int.add_sub_cancel, e40, e1, e3, h2] at h) <;> first | exact absurd rfl h | exact absurd h (by decide) | (exfalso; omega) | (conv => whnf))
        | (refine And.intro (by first | omega | ((try simp (disch := decide) only [cmp3_lt, cmp3_ge, cmp3_gt, cmp3_le, cmp3_eq, ms_q, ms_f, mf_q, mf_f, mc_q, mc_f, and_self, and_true, true_and, and_false, false_and, or_true, true_or, or_false, false_or, if_true, if_false, not_true_eq_false, not_false_eq_true, eq_self, reduceIte, Int.reduceEq, Int.reduceLT, Int.reduceLE, Int.reduceNeg, Int.reduceAdd, Int.reduceSub, Int.reduceMul, Int.add_sub_cancel]); (try simp (disch := omega) only [w32_e, w64_e, td_pos, tm_pos, Int.add_sub_cancel, e40, e1, e3, h2]); first | assumption | omega) | ((try simp (disch := decide) only [cmp3_lt, cmp3_ge, cmp3_gt, cmp3_le, cmp3_eq, ms_q, ms_f, mf_q, mf_f, mc_q, mc_f, and_self, and_true, true_and, and_false, false_and, or_true, true_or, or_false, false_or, if_true, if_false, not_true_eq_false, not_false_eq_true, eq_self, reduceIte, Int.reduceEq, Int.reduceLT, Int.reduceLE, Int.reduceNeg, Int.reduceAdd, Int.reduceSub, Int.reduceMul, Int.add_sub_cancel]); (try simp (disch := omega) only [w32_e, w64_e, td_pos, tm_pos, Int.add_sub_cancel, e40, e1, e3, h2]); ((repeat' (first | assumption | omega | with_reducible rfl | apply And.intro)); done))) ?_; conv => whnf)
        | (intro v; intro hv; conv => whnf)
      all_goals first
        | (have c : M9 7 0 2 < M 7 0 1 ∧ (97 ≤ M 40 0 (M9 7 0 2) ∧ M 40 0 (M9 7 0 2) ≤ 122) := by omega
           refine ⟨_, ?_, rfl, rfl, fun p a => by rw [ms_q a]; exact fr p a, fun j a => by rw [ms_f, if_neg (fun z => a z.2)]; exact fj j a, ?_, ?_⟩
           · rw [ms_f, if_pos ⟨rfl, rfl⟩, ei]
             omega
           · rw [ms_f, if_pos ⟨rfl, rfl⟩, ei]
             omega
           · rw [ms_f, if_pos ⟨rfl, rfl⟩, ei, ← hr]
             exact (rn_s c).symm)
        | (have c : ¬ (M9 7 0 2 < M 7 0 1 ∧ (97 ≤ M 40 0 (M9 7 0 2) ∧ M 40 0 (M9 7 0 2) ≤ 122)) := by omega
           have h2 : M9 7 0 2 = (rn 97 122 (M 40 0) (M 7 0 1) (M 7 0 2)) := by
             rw [← hr]
             exact (rn_e c).symm
           refine ⟨_, ?_, 0, 0, 0, rfl, rfl, fun p a => by rw [ms_q a]; exact fr p a, fun j a b => by rw [ms_f, if_neg (fun z => b z.2)]; exact fj j a, by rw [ms_f, if_neg (fun z => absurd z.2 (by decide))]; exact h2, by decide, by rw [ms_f, if_pos ⟨rfl, rfl⟩]; rfl⟩
           omega)
    · rintro n9 vs M9 ⟨a, f, i, rfl, rfl, fr, fj, h2, i0, hr⟩
      have e40 : M9 40 = M 40 := fr 40 (by decide)
      have e1 : M9 7 0 1 = M 7 0 1 := fj 1 (by decide) (by decide)
      have e3 : M9 7 0 3 = M 7 0 3 := fj 3 (by decide) (by decide)
      have ei : w32 (i + 1) = i + 1 := w32_e (by omega) (by omega)
      have ea : w32 (a + 1) = a + 1 := w32_e (by omega) (by omega)
      have eif := e1
      have tp9 := e1
      have es : i < 80 → (80 - i).toNat = (80 - (i + 1)).toNat + 1 := fun z => by omega
      have le := rn_in (lo := 97) (hi := 122) (T := M 40 0) (u := M 7 0 1) (p := M 7 0 2)
      have le2 := le.2 hs.2.2.1
      show wpH _ 400 _ 58 _ true 55 [vR 7 0, vI a, vI f, vI i] [] _ Q
      conv => whnf
      repeat' first
        | (refine And.intro (fun h => ?_) (fun h => ?_) <;> (try simp (disch := decide) only [cmp3_lt, cmp3_ge, cmp3_gt, cmp3_le, cmp3_eq, ms_q, ms_f, mf_q, mf_f, mc_q, mc_f, and_self, and_true, true_and, and_false, false_and, or_true, true_or, or_false, false_or, if_true, if_false, not_true_eq_false, not_false_eq_true, eq_self, reduceIte, Int.reduceEq, Int.reduceLT, Int.reduceLE, Int.reduceNeg, Int.reduceAdd, Int.reduceSub, Int.reduceMul, Int.add_sub_cancel] at h) <;> (try simp (disch := omega) only [w32_e, w64_e, td_pos, tm_pos, Int.add_sub_cancel, e40, e1, e3, h2] at h) <;> first | exact absurd rfl h | exact absurd h (by decide) | (exfalso; omega) | (conv => whnf))
        | (refine And.intro (by first | omega | ((try simp (disch := decide) only [cmp3_lt, cmp3_ge, cmp3_gt, cmp3_le, cmp3_eq, ms_q, ms_f, mf_q, mf_f, mc_q, mc_f, and_self, and_true, true_and, and_false, false_and, or_true, true_or, or_false, false_or, if_true, if_false, not_true_eq_false, not_false_eq_true, eq_self, reduceIte, Int.reduceEq, Int.reduceLT, Int.reduceLE, Int.reduceNeg, Int.reduceAdd, Int.reduceSub, Int.reduceMul, Int.add_sub_cancel]); (try simp (disch := omega) only [w32_e, w64_e, td_pos, tm_pos, Int.add_sub_cancel, e40, e1, e3, h2]); first | assumption | omega) | ((try simp (disch := decide) only [cmp3_lt, cmp3_ge, cmp3_gt, cmp3_le, cmp3_eq, ms_q, ms_f, mf_q, mf_f, mc_q, mc_f, and_self, and_true, true_and, and_false, false_and, or_true, true_or, or_false, false_or, if_true, if_false, not_true_eq_false, not_false_eq_true, eq_self, reduceIte, Int.reduceEq, Int.reduceLT, Int.reduceLE, Int.reduceNeg, Int.reduceAdd, Int.reduceSub, Int.reduceMul, Int.add_sub_cancel]); (try simp (disch := omega) only [w32_e, w64_e, td_pos, tm_pos, Int.add_sub_cancel, e40, e1, e3, h2]); ((repeat' (first | assumption | omega | with_reducible rfl | apply And.intro)); done))) ?_; conv => whnf)
        | (intro v; intro hv; conv => whnf)
      all_goals first
        | (have e9 : i = 80 := by omega
           rw [e9] at hr
           refine hQ M9 ⟨fr, fj, h2, ?_⟩
           exact (congrArg (fun z => z.2.2) hr).trans rdW_80)
        | (have c : ¬ strB 1010 i = 32 := by assumption
           refine ⟨_, ?_, a, f, i + 1, by rw [ei], rfl, fr, fj, h2, by omega, ?_⟩
           · omega
           · rw [← hr, es (by omega), rdW, rdS, if_neg c])
        | (have c : strB 1010 i = 32 := by assumption
           have hm : ¬ (i - f = (rn 97 122 (M 40 0) (M 7 0 1) (M 7 0 2)) - (M 7 0 3) ∧ isB (M 40 0) (i - f).toNat (M 7 0 3) f = true) := fun z => by
             rw [if_pos z] at h
             exact absurd h (by decide)
           refine ⟨_, ?_, a + 1, i + 1, i + 1, by rw [ea, ei], rfl, fr, fj, h2, by omega, ?_⟩
           · omega
           · rw [← hr, es (by omega), rdW, rdS, if_pos c, if_neg hm])
        | (have c : strB 1010 i = 32 := by assumption
           have hm : (i - f = (rn 97 122 (M 40 0) (M 7 0 1) (M 7 0 2)) - (M 7 0 3) ∧ isB (M 40 0) (i - f).toNat (M 7 0 3) f = true) := Decidable.byContradiction fun z => by
             rw [if_neg z] at h
             exact h rfl
           refine ⟨_, ?_, a + 1, i + 1, i + 1, by rw [ea, ei], rfl, fun p b => by rw [ms_q b]; exact fr p b, fun j b d => by rw [ms_f, if_neg (fun z => d z.2)]; exact fj j b d, by rw [ms_f, if_neg (fun z => absurd z.2 (by decide))]; exact h2, by omega, ?_⟩
           · omega
           · rw [ms_f, if_pos ⟨rfl, rfl⟩, ← hr, es (by omega), rdW, rdS, if_pos c, if_pos hm])
  refine Vd_in (by decide) ?_
  show Vx l ω 6 58 0 [vR 7 0, vU, vU, vU] [] M Q
  refine key 500000 0 _ rfl [vR 7 0] M ?_
  refine ⟨_, ?_, rfl, rfl, fun _ _ => rfl, fun _ _ => rfl, ⟨Int.le_refl _, hs.2.2.1⟩, rfl⟩
  omega

def sp_rnuC : Spec1 := fun as M Q => match as with
  | [.inr (.inr (.inl (q0, i0)))] => match Nat.beq q0 7 with
    | true => (i0 = 0 ∧ (0 ≤ M 7 0 3 ∧ M 7 0 3 = M 7 0 2 ∧ M 7 0 2 ≤ (M 7 0 1) ∧ (M 7 0 1) ≤ 240) ∧ (∀ j, 0 ≤ j → j < (M 7 0 1) → 0 ≤ (M 40 0) j ∧ (M 40 0) j ≤ 255)) ∧ ∀ M9, ((∀ p, p ≠ 7 → M9 p = M p) ∧ (∀ j, j ≠ 2 → j ≠ 4 → j ≠ 5 → M9 7 0 j = M 7 0 j) ∧ M9 7 0 2 = (rn 48 57 (M 40 0) (M 7 0 1) (M 7 0 2)) ∧ M9 7 0 4 = (if 4 < (rn 48 57 (M 40 0) (M 7 0 1) (M 7 0 2)) - (M 7 0 3) then 27 else 25) ∧ M9 7 0 5 = (nvC (M 40 0) (M 7 0 1) ((M 7 0 1) - M 7 0 2).toNat (M 7 0 2) 0) ∧ (0 ≤ M9 7 0 5 ∧ M9 7 0 5 ≤ 1000000)) → Q none M9
    | false => False
  | _ => False
theorem ok_rnuC {l : Launch} {ω : WP} : ∀ as M Q, sp_rnuC as M Q → Vd l ω 5 60 as M Q := by
  intro as M Q h
  unfold sp_rnuC at h
  split at h
  case h_2 => exact h.elim
  rename_i q0 i0 
  cases hb : Nat.beq q0 7 with
  | false => rw [hb] at h; exact h.elim
  | true =>
  rw [hb] at h
  obtain ⟨⟨hi, hs, ht⟩, hQ⟩ := h
  have hb := beq_eq hb
  subst hb
  subst hi
  refine Vd.ok fun hok hal => ?_
  have tp9 := ht
  have e40 := ht
  have e1 := ht
  have e3 := ht
  have h2 := ht
  have ei := ht
  have ea := ht
  have eif := ht
  have em := ht
  have key : ∀ n9, CutOK l ω 5 60 (cutL [(5, [0], fun kk vs M9 => vs = [vR 7 0] ∧ kk = (300000 - M9 7 0 2).toNat ∧ (∀ p, p ≠ 7 → M9 p = M p) ∧ (∀ j, j ≠ 2 → j ≠ 5 → M9 7 0 j = M 7 0 j) ∧ (M 7 0 2 ≤ M9 7 0 2 ∧ M9 7 0 2 ≤ (M 7 0 1)) ∧ rn 48 57 (M 40 0) (M 7 0 1) (M9 7 0 2) = (rn 48 57 (M 40 0) (M 7 0 1) (M 7 0 2)) ∧ (0 ≤ M9 7 0 5 ∧ M9 7 0 5 ≤ 1000000) ∧ nvC (M 40 0) (M 7 0 1) ((M 7 0 1) - M9 7 0 2).toNat (M9 7 0 2) (M9 7 0 5) = (nvC (M 40 0) (M 7 0 1) ((M 7 0 1) - M 7 0 2).toNat (M 7 0 2) 0))] n9) Q := by
    refine loops (GGU_ok (l := l) (ω := ω)) 400 _ ?_
    refine List.forall_mem_cons.mpr ⟨?_, fun _ h => absurd h List.not_mem_nil⟩
    · rintro n9 vs M9 ⟨rfl, rfl, fr, fj, n0, hr, v0, hv5⟩
      have e40 : M9 40 = M 40 := fr 40 (by decide)
      have e1 : M9 7 0 1 = M 7 0 1 := fj 1 (by decide) (by decide)
      have e3 : M9 7 0 3 = M 7 0 3 := fj 3 (by decide) (by decide)
      have h2 := e1
      have tp9 : M9 7 0 2 < M 7 0 1 → 0 ≤ M 40 0 (M9 7 0 2) ∧ M 40 0 (M9 7 0 2) ≤ 255 := fun z => ht _ (by omega) z
      have ei : w32 (M9 7 0 2 + 1) = M9 7 0 2 + 1 := w32_e (by omega) (by omega)
      have em := e1
      show wpH _ 400 _ 60 _ true 5 [vR 7 0] [] _ Q
      conv => whnf
      repeat' first
        | (refine And.intro (fun h => ?_) (fun h => ?_) <;> (try simp (disch := decide) only [cmp3_lt, cmp3_ge, cmp3_gt, cmp3_le, cmp3_eq, ms_q, ms_f, mf_q, mf_f, mc_q, mc_f, and_self, and_true, true_and, and_false, false_and, or_true, true_or, or_false, false_or, if_true, if_false, not_true_eq_false, not_false_eq_true, eq_self, reduceIte, Int.reduceEq, Int.reduceLT, Int.reduceLE, Int.reduceNeg, Int.reduceAdd, Int.reduceSub, Int.reduceMul, Int.add_sub_cancel] at h) <;> (try simp (disch := omega) only [w32_e, w64_e, td_pos, tm_pos, Int.add_sub_cancel, e40, e1, e3] at h) <;> first | exact absurd rfl h | exact absurd h (by decide) | (exfalso; omega) | (conv => whnf))
        | (refine And.intro (by first | omega | ((try simp (disch := decide) only [cmp3_lt, cmp3_ge, cmp3_gt, cmp3_le, cmp3_eq, ms_q, ms_f, mf_q, mf_f, mc_q, mc_f, and_self, and_true, true_and, and_false, false_and, or_true, true_or, or_false, false_or, if_true, if_false, not_true_eq_false, not_false_eq_true, eq_self, reduceIte, Int.reduceEq, Int.reduceLT, Int.reduceLE, Int.reduceNeg, Int.reduceAdd, Int.reduceSub, Int.reduceMul, Int.add_sub_cancel]); (try simp (disch := omega) only [w32_e, w64_e, td_pos, tm_pos, Int.add_sub_cancel, e40, e1, e3]); first | assumption | omega) | ((try simp (disch := decide) only [cmp3_lt, cmp3_ge, cmp3_gt, cmp3_le, cmp3_eq, ms_q, ms_f, mf_q, mf_f, mc_q, mc_f, and_self, and_true, true_and, and_false, false_and, or_true, true_or, or_false, false_or, if_true, if_false, not_true_eq_false, not_false_eq_true, eq_self, reduceIte, Int.reduceEq, Int.reduceLT, Int.reduceLE, Int.reduceNeg, Int.reduceAdd, Int.reduceSub, Int.reduceMul, Int.add_sub_cancel]); (try simp (disch := omega) only [w32_e, w64_e, td_pos, tm_pos, Int.add_sub_cancel, e40, e1, e3]); ((repeat' (first | assumption | omega | with_reducible rfl | apply And.intro)); done))) ?_; conv => whnf)
        | (intro v; intro hv; conv => whnf)
      all_goals first
        | (have c : M9 7 0 2 < M 7 0 1 ∧ (48 ≤ M 40 0 (M9 7 0 2) ∧ M 40 0 (M9 7 0 2) ≤ 57) := by omega
           have em : min (w32 (w32 (w32 (M9 7 0 5 * 10) + M9 40 0 (M9 7 0 2)) - 48)) 1000000 = min (M9 7 0 5 * 10 + M 40 0 (M9 7 0 2) - 48) 1000000 := by
             rw [e40, w32_e (x := M9 7 0 5 * 10) (by omega) (by omega), w32_e (x := M9 7 0 5 * 10 + M 40 0 (M9 7 0 2)) (by omega) (by omega), w32_e (x := M9 7 0 5 * 10 + M 40 0 (M9 7 0 2) - 48) (by omega) (by omega)]
           rw [em, ms_f, if_neg (fun z => absurd z.2 (by decide)), ei]
           refine ⟨_, ?_, rfl, rfl, fun p a => by rw [ms_q a, ms_q a]; exact fr p a, fun j a b => by rw [ms_f, if_neg (fun z => a z.2), ms_f, if_neg (fun z => b z.2)]; exact fj j a b, ?_, ?_, ?_, ?_⟩
           · rw [ms_f, if_pos ⟨rfl, rfl⟩]
             omega
           · rw [ms_f, if_pos ⟨rfl, rfl⟩]
             omega
           · rw [ms_f, if_pos ⟨rfl, rfl⟩, ← hr]
             exact (rn_s c).symm
           · rw [ms_f, if_neg (fun z => absurd z.2 (by decide)), ms_f, if_pos ⟨rfl, rfl⟩]
             omega
           · rw [ms_f, if_pos ⟨rfl, rfl⟩, ms_f, if_neg (fun z => absurd z.2 (by decide)), ms_f, if_pos ⟨rfl, rfl⟩, ← hv5]
             exact (nvC_s c).symm)
        | (have c : ¬ (M9 7 0 2 < M 7 0 1 ∧ (48 ≤ M 40 0 (M9 7 0 2) ∧ M 40 0 (M9 7 0 2) ≤ 57)) := by omega
           have h2 : M9 7 0 2 = (rn 48 57 (M 40 0) (M 7 0 1) (M 7 0 2)) := by
             rw [← hr]
             exact (rn_e c).symm
           refine hQ _ ⟨fun p a => by rw [ms_q a]; exact fr p a, fun j a b d => by rw [ms_f, if_neg (fun z => b z.2)]; exact fj j a d, by rw [ms_f, if_neg (fun z => absurd z.2 (by decide))]; exact h2, ?_, ?_, ?_⟩
           · rw [ms_f, if_pos ⟨rfl, rfl⟩, ← h2]
             first
               | rw [if_neg (by omega)]
               | rw [if_pos (by omega)]
           · rw [ms_f, if_neg (fun z => absurd z.2 (by decide)), ← hv5]
             exact (nvC_e c).symm
           · rw [ms_f, if_neg (fun z => absurd z.2 (by decide))]
             exact v0)
  refine Vd_run (GGU_ok (l := l) (ω := ω)) 400 (hC := key 500000) (by decide) ?_
  conv => whnf
  repeat' first
    | (refine And.intro (fun h => ?_) (fun h => ?_) <;> (try simp (disch := decide) only [cmp3_lt, cmp3_ge, cmp3_gt, cmp3_le, cmp3_eq, ms_q, ms_f, mf_q, mf_f, mc_q, mc_f, and_self, and_true, true_and, and_false, false_and, or_true, true_or, or_false, false_or, if_true, if_false, not_true_eq_false, not_false_eq_true, eq_self, reduceIte, Int.reduceEq, Int.reduceLT, Int.reduceLE, Int.reduceNeg, Int.reduceAdd, Int.reduceSub, Int.reduceMul, Int.add_sub_cancel] at h) <;> (try simp (disch := omega) only [w32_e, w64_e, td_pos, tm_pos, Int.add_sub_cancel, e40, e1, e3] at h) <;> first | exact absurd rfl h | exact absurd h (by decide) | (exfalso; omega) | (conv => whnf))
    | (refine And.intro (by first | omega | ((try simp (disch := decide) only [cmp3_lt, cmp3_ge, cmp3_gt, cmp3_le, cmp3_eq, ms_q, ms_f, mf_q, mf_f, mc_q, mc_f, and_self, and_true, true_and, and_false, false_and, or_true, true_or, or_false, false_or, if_true, if_false, not_true_eq_false, not_false_eq_true, eq_self, reduceIte, Int.reduceEq, Int.reduceLT, Int.reduceLE, Int.reduceNeg, Int.reduceAdd, Int.reduceSub, Int.reduceMul, Int.add_sub_cancel]); (try simp (disch := omega) only [w32_e, w64_e, td_pos, tm_pos, Int.add_sub_cancel, e40, e1, e3]); first | assumption | omega) | ((try simp (disch := decide) only [cmp3_lt, cmp3_ge, cmp3_gt, cmp3_le, cmp3_eq, ms_q, ms_f, mf_q, mf_f, mc_q, mc_f, and_self, and_true, true_and, and_false, false_and, or_true, true_or, or_false, false_or, if_true, if_false, not_true_eq_false, not_false_eq_true, eq_self, reduceIte, Int.reduceEq, Int.reduceLT, Int.reduceLE, Int.reduceNeg, Int.reduceAdd, Int.reduceSub, Int.reduceMul, Int.add_sub_cancel]); (try simp (disch := omega) only [w32_e, w64_e, td_pos, tm_pos, Int.add_sub_cancel, e40, e1, e3]); ((repeat' (first | assumption | omega | with_reducible rfl | apply And.intro)); done))) ?_; conv => whnf)
    | (intro v; intro hv; conv => whnf)
  refine ⟨_, ?_, rfl, rfl, fun p a => by rw [ms_q a], fun j a b => by rw [ms_f, if_neg (fun z => b z.2)], ?_, ?_, ?_, ?_⟩
  · rw [ms_f, if_neg (fun z => absurd z.2 (by decide))]
    omega
  · rw [ms_f, if_neg (fun z => absurd z.2 (by decide))]
    omega
  · rw [ms_f, if_neg (fun z => absurd z.2 (by decide))]
  · rw [ms_f, if_pos ⟨rfl, rfl⟩]
    omega
  · rw [ms_f, if_neg (fun z => absurd z.2 (by decide)), ms_f, if_pos ⟨rfl, rfl⟩]

def GLV : List (Nat × Nat × Spec1) := (58, 6, sp_rnmC) :: (60, 5, sp_rnuC) :: GLU
abbrev GGV : Env1 := fun n => getG n GLV
theorem GGV_all {l : Launch} {ω : WP} : ∀ e ∈ GLV, ∀ as M Q, e.2.2 as M Q → Vd l ω e.2.1 e.1 as M Q := List.forall_mem_cons.mpr ⟨ok_rnmC, List.forall_mem_cons.mpr ⟨ok_rnuC, GGU_all⟩⟩
theorem GGV_ok {l : Launch} {ω : WP} : GOK l ω GGV := getG_ok GLV GGV_all

def sp_rtC : Spec1 := fun as M Q => match as with
  | [.inr (.inr (.inl (q0, i0)))] => match Nat.beq q0 7 with
    | true => (i0 = 0 ∧ (0 ≤ M 7 0 2 ∧ M 7 0 2 ≤ (M 7 0 1) ∧ (M 7 0 1) ≤ 240) ∧ (∀ j, 0 ≤ j → j < (M 7 0 1) → 0 ≤ (M 40 0) j ∧ (M 40 0) j ≤ 255)) ∧ ∀ M9, ((∀ p, p ≠ 7 → M9 p = M p) ∧ (∀ j, j ≠ 2 → j ≠ 3 → j ≠ 4 → j ≠ 5 → M9 7 0 j = M 7 0 j) ∧ (M9 7 0 2 = (tkX (M 40 0) (M 7 0 1) (M 7 0 2)) ∧ M9 7 0 3 = (tkS (M 40 0) (M 7 0 1) (M 7 0 2)) ∧ M9 7 0 4 = (tkT (M 40 0) (M 7 0 1) (M 7 0 2))) ∧ (M9 7 0 4 = 25 → M9 7 0 5 = (tkV (M 40 0) (M 7 0 1) (M 7 0 2)) ∧ 0 ≤ M9 7 0 5 ∧ M9 7 0 5 ≤ 1000000)) → Q none M9
    | false => False
  | _ => False
theorem ok_rtC {l : Launch} {ω : WP} : ∀ as M Q, sp_rtC as M Q → Vd l ω 7 57 as M Q := by
  intro as M Q h
  unfold sp_rtC at h
  split at h
  case h_2 => exact h.elim
  rename_i q0 i0 
  cases hb : Nat.beq q0 7 with
  | false => rw [hb] at h; exact h.elim
  | true =>
  rw [hb] at h
  obtain ⟨⟨hi, hs, ht⟩, hQ⟩ := h
  have hb := beq_eq hb
  subst hb
  subst hi
  refine Vd.ok fun hok hal => ?_
  have tp9 := ht
  have e40 := ht
  have e1 := ht
  have e3 := ht
  have h2 := ht
  have ei := ht
  have ea := ht
  have eif := ht
  have key : ∀ n9, CutOK l ω 7 57 (cutL [(0, [0], fun kk vs M9 => vs = [vR 7 0] ∧ kk = (300000 - M9 7 0 2).toNat ∧ (∀ p, p ≠ 7 → M9 p = M p) ∧ (∀ j, j ≠ 2 → M9 7 0 j = M 7 0 j) ∧ (M 7 0 2 ≤ M9 7 0 2 ∧ M9 7 0 2 ≤ (M 7 0 1)) ∧ rn 32 32 (M 40 0) (M 7 0 1) (M9 7 0 2) = (tkS (M 40 0) (M 7 0 1) (M 7 0 2)))] n9) Q := by
    refine loops (GGV_ok (l := l) (ω := ω)) 400 _ ?_
    refine List.forall_mem_cons.mpr ⟨?_, fun _ h => absurd h List.not_mem_nil⟩
    · rintro n9 vs M9 ⟨rfl, rfl, fr, fj, n0, hr⟩
      have e40 : M9 40 = M 40 := fr 40 (by decide)
      have e1 : M9 7 0 1 = M 7 0 1 := fj 1 (by decide)
      have tp9 : M9 7 0 2 < M 7 0 1 → 0 ≤ M 40 0 (M9 7 0 2) ∧ M 40 0 (M9 7 0 2) ≤ 255 := fun z => ht _ (by omega) z
      have ei : w32 (M9 7 0 2 + 1) = M9 7 0 2 + 1 := w32_e (by omega) (by omega)
      have hpre : M9 7 0 2 < M 7 0 1 → (0 ≤ mset M9 7 0 3 (M9 7 0 2) 7 0 3 ∧ mset M9 7 0 3 (M9 7 0 2) 7 0 3 = mset M9 7 0 3 (M9 7 0 2) 7 0 2 ∧ mset M9 7 0 3 (M9 7 0 2) 7 0 2 ≤ mset M9 7 0 3 (M9 7 0 2) 7 0 1 ∧ mset M9 7 0 3 (M9 7 0 2) 7 0 1 ≤ 240) ∧ (∀ j, 0 ≤ j → j < mset M9 7 0 3 (M9 7 0 2) 7 0 1 → 0 ≤ mset M9 7 0 3 (M9 7 0 2) 40 0 j ∧ mset M9 7 0 3 (M9 7 0 2) 40 0 j ≤ 255) := fun z => by
        simp (disch := decide) only [ms_q, ms_f, true_and, Int.reduceEq, if_true, if_false, reduceIte, e1, e40]
        exact ⟨by omega, ht⟩
      have hS : ¬ (M9 7 0 2 < M 7 0 1 ∧ (32 ≤ M 40 0 (M9 7 0 2) ∧ M 40 0 (M9 7 0 2) ≤ 32)) → tkS (M 40 0) (M 7 0 1) (M 7 0 2) = M9 7 0 2 := fun c => by
        rw [← hr]
        exact rn_e c
      show wpH _ 400 _ 57 _ true 0 [vR 7 0, vU, vU] [] _ Q
      conv => whnf
      repeat' first
        | (refine And.intro (fun h => ?_) (fun h => ?_) <;> (try simp (disch := decide) only [cmp3_lt, cmp3_ge, cmp3_gt, cmp3_le, cmp3_eq, ms_q, ms_f, mf_q, mf_f, mc_q, mc_f, and_self, and_true, true_and, and_false, false_and, or_true, true_or, or_false, false_or, if_true, if_false, not_true_eq_false, not_false_eq_true, eq_self, reduceIte, Int.reduceEq, Int.reduceLT, Int.reduceLE, Int.reduceNeg, Int.reduceAdd, Int.reduceSub, Int.reduceMul, Int.add_sub_cancel] at h) <;> (try simp (disch := omega) only [w32_e, w64_e, td_pos, tm_pos, Int.add_sub_cancel, e40, e1] at h) <;> first | exact absurd rfl h | exact absurd h (by decide) | (exfalso; omega) | (conv => whnf))
        | (refine And.intro (by first | omega | ((try simp (disch := decide) only [cmp3_lt, cmp3_ge, cmp3_gt, cmp3_le, cmp3_eq, ms_q, ms_f, mf_q, mf_f, mc_q, mc_f, and_self, and_true, true_and, and_false, false_and, or_true, true_or, or_false, false_or, if_true, if_false, not_true_eq_false, not_false_eq_true, eq_self, reduceIte, Int.reduceEq, Int.reduceLT, Int.reduceLE, Int.reduceNeg, Int.reduceAdd, Int.reduceSub, Int.reduceMul, Int.add_sub_cancel]); (try simp (disch := omega) only [w32_e, w64_e, td_pos, tm_pos, Int.add_sub_cancel, e40, e1]); first | assumption | omega) | exact ⟨rfl, hpre (by omega)⟩ | (have q := tp9 (by omega); have ic := i2c_e q; try simp (disch := decide) only [ms_q, ms_f, true_and, Int.reduceEq, if_true, if_false, reduceIte, e1, e40, ic]; omega) | ((try simp (disch := decide) only [cmp3_lt, cmp3_ge, cmp3_gt, cmp3_le, cmp3_eq, ms_q, ms_f, mf_q, mf_f, mc_q, mc_f, and_self, and_true, true_and, and_false, false_and, or_true, true_or, or_false, false_or, if_true, if_false, not_true_eq_false, not_false_eq_true, eq_self, reduceIte, Int.reduceEq, Int.reduceLT, Int.reduceLE, Int.reduceNeg, Int.reduceAdd, Int.reduceSub, Int.reduceMul, Int.add_sub_cancel]); (try simp (disch := omega) only [w32_e, w64_e, td_pos, tm_pos, Int.add_sub_cancel, e40, e1]); ((repeat' (first | assumption | omega | with_reducible rfl | apply And.intro)); done))) ?_; conv => whnf)
        | (intro v; intro hv; conv => whnf)
      all_goals first
        | (have c : M9 7 0 2 < M 7 0 1 ∧ (32 ≤ M 40 0 (M9 7 0 2) ∧ M 40 0 (M9 7 0 2) ≤ 32) := by omega
           refine ⟨_, ?_, rfl, rfl, fun p a => by rw [ms_q a]; exact fr p a, fun j a => by rw [ms_f, if_neg (fun z => a z.2)]; exact fj j a, ?_, ?_⟩
           · rw [ms_f, if_pos ⟨rfl, rfl⟩, ei]
             omega
           · rw [ms_f, if_pos ⟨rfl, rfl⟩, ei]
             omega
           · rw [ms_f, if_pos ⟨rfl, rfl⟩, ei, ← hr]
             exact (rn_s c).symm)
        | (have c : M 7 0 1 ≤ M9 7 0 2 := by omega
           have s9 := hS (by omega)
           have k := tk_end (T := M 40 0) (u := M 7 0 1) (p := M 7 0 2) (by omega)
           rw [s9] at k
           refine hQ _ ⟨fun p a => by rw [ms_q a, ms_q a]; exact fr p a, fun j a b d e => by rw [ms_f, if_neg (fun z => d z.2), ms_f, if_neg (fun z => b z.2)]; exact fj j a, ⟨?_, ?_, ?_⟩, fun z => absurd z ?_⟩
           · rw [ms_f, if_neg (fun z => absurd z.2 (by decide)), ms_f, if_neg (fun z => absurd z.2 (by decide)), k.2]
           · rw [ms_f, if_neg (fun z => absurd z.2 (by decide)), ms_f, if_pos ⟨rfl, rfl⟩, s9]
           · rw [ms_f, if_pos ⟨rfl, rfl⟩, k.1]
           · rw [ms_f, if_pos ⟨rfl, rfl⟩]
             decide)
        | (have c : M9 7 0 2 < M 7 0 1 ∧ (97 ≤ M 40 0 (M9 7 0 2) ∧ M 40 0 (M9 7 0 2) ≤ 122) := by omega
           have s9 := hS (by omega)
           have k := tk_al (T := M 40 0) (u := M 7 0 1) (p := M 7 0 2) (by omega) (by rw [s9]; exact c.2)
           rw [s9] at k
           obtain ⟨g1, g2, g3, g4⟩ := hv
           simp (disch := decide) only [ms_q, ms_f, true_and, Int.reduceEq, if_true, if_false, reduceIte, e1, e40] at g3 g4
           rw [← k.1] at g4
           rw [← k.2] at g3
           refine hQ _ ⟨fun p a => by rw [g1 p a, ms_q a]; exact fr p a, fun j a b d e => by rw [g2 j a d, ms_f, if_neg (fun z => b z.2)]; exact fj j a, ⟨g3, ?_, g4⟩, fun z => absurd z ?_⟩
           · rw [g2 3 (by decide) (by decide), ms_f, if_pos ⟨rfl, rfl⟩, s9]
           · rw [g4, k.1]
             exact nmF_25)
        | (have c : M9 7 0 2 < M 7 0 1 ∧ (48 ≤ M 40 0 (M9 7 0 2) ∧ M 40 0 (M9 7 0 2) ≤ 57) := by omega
           have s9 := hS (by omega)
           have k := tk_di (T := M 40 0) (u := M 7 0 1) (p := M 7 0 2) (by omega) (by rw [s9]; exact c.2)
           rw [s9] at k
           obtain ⟨g1, g2, g3, g4, g5, g6⟩ := hv
           simp (disch := decide) only [ms_q, ms_f, true_and, Int.reduceEq, if_true, if_false, reduceIte, e1, e40] at g3 g4 g5
           rw [← k.1] at g4
           rw [← k.2] at g3
           refine hQ _ ⟨fun p a => by rw [g1 p a, ms_q a]; exact fr p a, fun j a b d e => by rw [g2 j a d e, ms_f, if_neg (fun z => b z.2)]; exact fj j a, ⟨g3, ?_, g4⟩, fun z => ⟨?_, g6⟩⟩
           · rw [g2 3 (by decide) (by decide) (by decide), ms_f, if_pos ⟨rfl, rfl⟩, s9]
           · rw [g5]
             unfold tkV
             rw [s9])
        | (have c : M9 7 0 2 < M 7 0 1 := by omega
           have s9 := hS (by omega)
           have q := tp9 c
           have k := tk_sg (T := M 40 0) (u := M 7 0 1) (p := M 7 0 2) (by omega) (by rw [s9]; omega) (by rw [s9]; omega)
           rw [s9] at k
           have ic := i2c_e q
           have sg := sgI_C (c := M 40 0 (M9 7 0 2))
           simp (disch := decide) only [ms_q, ms_f, true_and, Int.reduceEq, if_true, if_false, reduceIte, e1, e40, ic] at h ⊢
           have k1 : w32 (16 + sgI (M 40 0 (M9 7 0 2))) = 16 + sgI (M 40 0 (M9 7 0 2)) := by
             have := sgC_in (c := M 40 0 (M9 7 0 2))
             exact w32_e (by omega) (by omega)
           first
             | (have k2 : sgC (M 40 0 (M9 7 0 2)) = 27 := by omega
                rw [k2] at k
                rw [ei]
                refine hQ _ ⟨fun p a => by rw [ms_q a, ms_q a, ms_q a]; exact fr p a, fun j a b d e => by rw [ms_f, if_neg (fun z => a z.2), ms_f, if_neg (fun z => d z.2), ms_f, if_neg (fun z => b z.2)]; exact fj j a, ⟨?_, ?_, ?_⟩, fun z => absurd z ?_⟩
                · rw [ms_f, if_pos ⟨rfl, rfl⟩, k.2]
                · rw [ms_f, if_neg (fun z => absurd z.2 (by decide)), ms_f, if_neg (fun z => absurd z.2 (by decide)), ms_f, if_pos ⟨rfl, rfl⟩, s9]
                · rw [ms_f, if_neg (fun z => absurd z.2 (by decide)), ms_f, if_pos ⟨rfl, rfl⟩, k.1]
                · rw [ms_f, if_neg (fun z => absurd z.2 (by decide)), ms_f, if_pos ⟨rfl, rfl⟩]
                  decide)
             | (have k2 : sgC (M 40 0 (M9 7 0 2)) = 16 + sgI (M 40 0 (M9 7 0 2)) := by omega
                rw [k1, ← k2, ← k.1, ei]
                refine hQ _ ⟨fun p a => by rw [ms_q a, ms_q a, ms_q a]; exact fr p a, fun j a b d e => by rw [ms_f, if_neg (fun z => a z.2), ms_f, if_neg (fun z => d z.2), ms_f, if_neg (fun z => b z.2)]; exact fj j a, ⟨?_, ?_, ?_⟩, fun z => absurd z ?_⟩
                · rw [ms_f, if_pos ⟨rfl, rfl⟩, k.2]
                · rw [ms_f, if_neg (fun z => absurd z.2 (by decide)), ms_f, if_neg (fun z => absurd z.2 (by decide)), ms_f, if_pos ⟨rfl, rfl⟩, s9]
                · rw [ms_f, if_neg (fun z => absurd z.2 (by decide)), ms_f, if_pos ⟨rfl, rfl⟩]
                · rw [ms_f, if_neg (fun z => absurd z.2 (by decide)), ms_f, if_pos ⟨rfl, rfl⟩, k.1]
                  exact sgC_25))
  refine Vd_in (by decide) ?_
  show Vx l ω 7 57 0 [vR 7 0, vU, vU] [] M Q
  refine key 500000 0 _ rfl [vR 7 0] M ?_
  refine ⟨_, ?_, rfl, rfl, fun _ _ => rfl, fun _ _ => rfl, ⟨Int.le_refl _, hs.2.1⟩, rfl⟩
  omega
