/-! ===== the day, by the model: all of it (wip/gen/p31.py) ===== -/
def GLz : List (Nat × Nat × Spec1) := (242, 7, sp_quM) :: GLy
abbrev GGz : Env1 := fun n => getG n GLz
theorem GGz_all {l : Launch} {ω : WP} : ∀ e ∈ GLz, ∀ as M Q, e.2.2 as M Q → Vd l ω e.2.1 e.1 as M Q := List.forall_mem_cons.mpr ⟨ok_quM, GGy_all⟩
theorem GGz_ok {l : Launch} {ω : WP} : GOK l ω GGz := getG_ok GLz GGz_all

def sp_gtM : Spec1 := fun as M Q => match as with
  | [.inr (.inr (.inl (q0, i0))), .inl t] => match Nat.beq q0 13 with
    | true => (i0 = 0 ∧ DayH M ∧ (0 ≤ t ∧ t ≤ 95)) ∧ ∃ D : DD, ∀ M9, (FT M M9 ∧ RelD (dx M) (dyN (dx M) D (t + 1)) M9 (t + 1) 0 0 0) → Q none M9
    | false => False
  | _ => False
theorem ok_gtM {l : Launch} {ω : WP} : ∀ as M Q, sp_gtM as M Q → Vd l ω 8 243 as M Q := by
  intro as M Q h
  unfold sp_gtM at h
  split at h
  case h_2 => exact h.elim
  rename_i q0 i0 t
  cases hb : Nat.beq q0 13 with
  | false => rw [hb] at h; exact h.elim
  | true =>
  rw [hb] at h
  obtain ⟨⟨hi, hH, ht⟩, hQ⟩ := h
  have hb := beq_eq hb
  subst hb
  subst hi
  refine Vd.ok fun hok hal => ?_
  obtain ⟨D, hQ⟩ := hQ
  have hX := hH.x
  have qc := ht
  have key : ∀ n9, CutOK l ω 8 243 (cutL [(2, [0, 1, 2], fun kk vs M9 => ∃ o : Int, vs = [vR 13 0, vI t, vI o] ∧ kk = (100000 - o).toNat ∧ (0 ≤ o ∧ o ≤ 8) ∧ FT M M9 ∧ (∀ j, 0 ≤ j → j < o → M9 109 0 j = 0 ∧ M9 110 0 j = 0 ∧ M9 111 0 j = 0 ∧ M9 112 0 j = 0 ∧ M9 115 0 j = -4 ∧ M9 117 0 j = 0 ∧ M9 118 0 j = 0)), (66, [0, 1, 2], fun kk vs M9 => ∃ p : Int, vs = [vR 13 0, vI t, vI p] ∧ kk = (10000 - p).toNat ∧ (0 ≤ p ∧ p ≤ 12) ∧ FT M M9 ∧ (∀ j, 0 ≤ j → j < 8 → M9 109 0 j = 0 ∧ M9 110 0 j = 0 ∧ M9 111 0 j = 0 ∧ M9 112 0 j = 0 ∧ M9 115 0 j = -4 ∧ M9 117 0 j = 0 ∧ M9 118 0 j = 0) ∧ (∀ j, 0 ≤ j → j < p → M9 119 0 j = 0 ∧ M9 120 0 j = 0 ∧ M9 121 0 j = 0)), (101, [0, 1, 2], fun kk vs M9 => ∃ q : Int, vs = [vR 13 0, vI t, vI q] ∧ kk = (1000 - q).toNat ∧ (0 ≤ q ∧ q ≤ t + 1) ∧ FT M M9 ∧ RelD (dx M) (dyN (dx M) D q) M9 q 0 0 0)] n9) Q := by
    refine loops (GGz_ok (l := l) (ω := ω)) 600 _ ?_
    refine List.forall_mem_cons.mpr ⟨?_, List.forall_mem_cons.mpr ⟨?_, List.forall_mem_cons.mpr ⟨?_, fun _ h => absurd h List.not_mem_nil⟩⟩⟩
    · rintro n9 vs M9 ⟨o, rfl, rfl, i0, ft, z1⟩
      have ei : w32 (o + 1) = o + 1 := w32_e (by omega) (by omega)
      have qc := i0
      show wpH _ 600 _ 243 _ true 2 [vR 13 0, vI t, vI o] [] _ Q
      conv => whnf
      repeat' first
        | (refine And.intro (fun h => ?_) (fun h => ?_) <;> (try simp (disch := decide) only [cmp3_lt, cmp3_ge, cmp3_gt, cmp3_le, cmp3_eq, ms_q, ms_f, mf_q, mf_f, mc_q, mc_f, and_self, and_true, true_and, and_false, false_and, or_true, true_or, or_false, false_or, if_true, if_false, not_true_eq_false, not_false_eq_true, eq_self, reduceIte, Int.reduceEq, Int.reduceLT, Int.reduceLE, Int.reduceNeg, Int.reduceAdd, Int.reduceSub, Int.reduceMul, Int.add_sub_cancel] at h) <;> (try simp (disch := omega) only [w32_e, w64_e, td_pos, tm_pos, Int.add_sub_cancel] at h) <;> first | exact absurd rfl h | exact absurd h (by decide) | (exfalso; omega) | (conv => whnf))
        | (refine And.intro (by first | omega | ((try simp (disch := decide) only [cmp3_lt, cmp3_ge, cmp3_gt, cmp3_le, cmp3_eq, ms_q, ms_f, mf_q, mf_f, mc_q, mc_f, and_self, and_true, true_and, and_false, false_and, or_true, true_or, or_false, false_or, if_true, if_false, not_true_eq_false, not_false_eq_true, eq_self, reduceIte, Int.reduceEq, Int.reduceLT, Int.reduceLE, Int.reduceNeg, Int.reduceAdd, Int.reduceSub, Int.reduceMul, Int.add_sub_cancel]); (try simp (disch := omega) only [w32_e, w64_e, td_pos, tm_pos, Int.add_sub_cancel]); first | assumption | omega) | exact qc (by omega) | ((try simp (disch := decide) only [cmp3_lt, cmp3_ge, cmp3_gt, cmp3_le, cmp3_eq, ms_q, ms_f, mf_q, mf_f, mc_q, mc_f, and_self, and_true, true_and, and_false, false_and, or_true, true_or, or_false, false_or, if_true, if_false, not_true_eq_false, not_false_eq_true, eq_self, reduceIte, Int.reduceEq, Int.reduceLT, Int.reduceLE, Int.reduceNeg, Int.reduceAdd, Int.reduceSub, Int.reduceMul, Int.add_sub_cancel]); (try simp (disch := omega) only [w32_e, w64_e, td_pos, tm_pos, Int.add_sub_cancel]); ((repeat' (first | assumption | omega | with_reducible rfl | apply And.intro)); done))) ?_; conv => whnf)
        | (intro v; intro hv; conv => whnf)
      all_goals first
        | (have e9 : o = 8 := by omega
           rw [e9] at z1
           refine ⟨_, ?_, 0, rfl, rfl, ⟨Int.le_refl _, by decide⟩, ft, z1, fun j a b => by omega⟩
           omega)
        | (refine ⟨_, ?_, o + 1, by rw [ei], rfl, ⟨by omega, by omega⟩, ((((((ft.set (by decide)).set (by decide)).set (by decide)).set (by decide)).set (by decide)).set (by decide)).set (by decide), fun j j0 j1 => ?_⟩
           · omega
           · simp (disch := decide) only [ms_q, ms_f, true_and]
             by_cases e : j = o
             · simp only [e, if_true, and_self]
             · simp only [e, if_false]
               exact z1 j j0 (by omega))
    · rintro n9 vs M9 ⟨p, rfl, rfl, i0, ft, z1, z2⟩
      have ei : w32 (p + 1) = p + 1 := w32_e (by omega) (by omega)
      have qc := i0
      show wpH _ 600 _ 243 _ true 66 [vR 13 0, vI t, vI p] [] _ Q
      conv => whnf
      repeat' first
        | (refine And.intro (fun h => ?_) (fun h => ?_) <;> (try simp (disch := decide) only [cmp3_lt, cmp3_ge, cmp3_gt, cmp3_le, cmp3_eq, ms_q, ms_f, mf_q, mf_f, mc_q, mc_f, and_self, and_true, true_and, and_false, false_and, or_true, true_or, or_false, false_or, if_true, if_false, not_true_eq_false, not_false_eq_true, eq_self, reduceIte, Int.reduceEq, Int.reduceLT, Int.reduceLE, Int.reduceNeg, Int.reduceAdd, Int.reduceSub, Int.reduceMul, Int.add_sub_cancel] at h) <;> (try simp (disch := omega) only [w32_e, w64_e, td_pos, tm_pos, Int.add_sub_cancel] at h) <;> first | exact absurd rfl h | exact absurd h (by decide) | (exfalso; omega) | (conv => whnf))
        | (refine And.intro (by first | omega | ((try simp (disch := decide) only [cmp3_lt, cmp3_ge, cmp3_gt, cmp3_le, cmp3_eq, ms_q, ms_f, mf_q, mf_f, mc_q, mc_f, and_self, and_true, true_and, and_false, false_and, or_true, true_or, or_false, false_or, if_true, if_false, not_true_eq_false, not_false_eq_true, eq_self, reduceIte, Int.reduceEq, Int.reduceLT, Int.reduceLE, Int.reduceNeg, Int.reduceAdd, Int.reduceSub, Int.reduceMul, Int.add_sub_cancel]); (try simp (disch := omega) only [w32_e, w64_e, td_pos, tm_pos, Int.add_sub_cancel]); first | assumption | omega) | exact qc (by omega) | ((try simp (disch := decide) only [cmp3_lt, cmp3_ge, cmp3_gt, cmp3_le, cmp3_eq, ms_q, ms_f, mf_q, mf_f, mc_q, mc_f, and_self, and_true, true_and, and_false, false_and, or_true, true_or, or_false, false_or, if_true, if_false, not_true_eq_false, not_false_eq_true, eq_self, reduceIte, Int.reduceEq, Int.reduceLT, Int.reduceLE, Int.reduceNeg, Int.reduceAdd, Int.reduceSub, Int.reduceMul, Int.add_sub_cancel]); (try simp (disch := omega) only [w32_e, w64_e, td_pos, tm_pos, Int.add_sub_cancel]); ((repeat' (first | assumption | omega | with_reducible rfl | apply And.intro)); done))) ?_; conv => whnf)
        | (intro v; intro hv; conv => whnf)
      all_goals first
        | (have e9 : p = 12 := by omega
           rw [e9] at z2
           refine ⟨_, ?_, 0, rfl, rfl, ⟨Int.le_refl _, by omega⟩, ft, rel_0 hX z1 z2⟩
           omega)
        | (refine ⟨_, ?_, p + 1, by rw [ei], rfl, ⟨by omega, by omega⟩, ((ft.set (by decide)).set (by decide)).set (by decide), ?_, fun j j0 j1 => ?_⟩
           · omega
           · simp (disch := decide) only [ms_q]
             exact z1
           · simp (disch := decide) only [ms_q, ms_f, true_and]
             by_cases e : j = p
             · simp only [e, if_true, and_self]
             · simp only [e, if_false]
               exact z2 j j0 (by omega))
    · rintro n9 vs M9 ⟨q, rfl, rfl, i0, ft, rel⟩
      have ei : w32 (q + 1) = q + 1 := w32_e (by omega) (by omega)
      have qc : q < t + 1 → (0 : Int) = 0 ∧ DayH M9 ∧ (0 ≤ q ∧ q ≤ 95) := fun z => ⟨rfl, ft.day hH, by omega⟩
      have xe := dx_ft ft
      show wpH _ 600 _ 243 _ true 101 [vR 13 0, vI t, vI q] [] _ Q
      conv => whnf
      repeat' first
        | (refine And.intro (fun h => ?_) (fun h => ?_) <;> (try simp (disch := decide) only [cmp3_lt, cmp3_ge, cmp3_gt, cmp3_le, cmp3_eq, ms_q, ms_f, mf_q, mf_f, mc_q, mc_f, and_self, and_true, true_and, and_false, false_and, or_true, true_or, or_false, false_or, if_true, if_false, not_true_eq_false, not_false_eq_true, eq_self, reduceIte, Int.reduceEq, Int.reduceLT, Int.reduceLE, Int.reduceNeg, Int.reduceAdd, Int.reduceSub, Int.reduceMul, Int.add_sub_cancel] at h) <;> (try simp (disch := omega) only [w32_e, w64_e, td_pos, tm_pos, Int.add_sub_cancel] at h) <;> first | exact absurd rfl h | exact absurd h (by decide) | (exfalso; omega) | (conv => whnf))
        | (refine And.intro (by first | omega | ((try simp (disch := decide) only [cmp3_lt, cmp3_ge, cmp3_gt, cmp3_le, cmp3_eq, ms_q, ms_f, mf_q, mf_f, mc_q, mc_f, and_self, and_true, true_and, and_false, false_and, or_true, true_or, or_false, false_or, if_true, if_false, not_true_eq_false, not_false_eq_true, eq_self, reduceIte, Int.reduceEq, Int.reduceLT, Int.reduceLE, Int.reduceNeg, Int.reduceAdd, Int.reduceSub, Int.reduceMul, Int.add_sub_cancel]); (try simp (disch := omega) only [w32_e, w64_e, td_pos, tm_pos, Int.add_sub_cancel]); first | assumption | omega) | exact qc (by omega) | ((try simp (disch := decide) only [cmp3_lt, cmp3_ge, cmp3_gt, cmp3_le, cmp3_eq, ms_q, ms_f, mf_q, mf_f, mc_q, mc_f, and_self, and_true, true_and, and_false, false_and, or_true, true_or, or_false, false_or, if_true, if_false, not_true_eq_false, not_false_eq_true, eq_self, reduceIte, Int.reduceEq, Int.reduceLT, Int.reduceLE, Int.reduceNeg, Int.reduceAdd, Int.reduceSub, Int.reduceMul, Int.add_sub_cancel]); (try simp (disch := omega) only [w32_e, w64_e, td_pos, tm_pos, Int.add_sub_cancel]); ((repeat' (first | assumption | omega | with_reducible rfl | apply And.intro)); done))) ?_; conv => whnf)
        | (intro v; intro hv; conv => whnf)
      all_goals first
        | (have e9 : q = t + 1 := by omega
           rw [e9] at rel
           exact hQ M9 ⟨ft, rel⟩)
        | (rw [xe]
           refine ⟨dyN (dx M) D q, ⟨ok_dyI hX i0.1, rel⟩, fun v hv => ?_⟩
           conv => whnf
           refine ⟨_, ?_, q + 1, by rw [ei], rfl, ⟨by omega, by omega⟩, ft.trans hv.1, ?_⟩
           · omega
           · rw [dyN_s i0.1]
             exact hv.2)
  refine Vd_run (GGz_ok (l := l) (ω := ω)) 600 (hC := key 200000) (by decide) ?_
  conv => whnf
  repeat' first
    | (refine And.intro (fun h => ?_) (fun h => ?_) <;> (try simp (disch := decide) only [cmp3_lt, cmp3_ge, cmp3_gt, cmp3_le, cmp3_eq, ms_q, ms_f, mf_q, mf_f, mc_q, mc_f, and_self, and_true, true_and, and_false, false_and, or_true, true_or, or_false, false_or, if_true, if_false, not_true_eq_false, not_false_eq_true, eq_self, reduceIte, Int.reduceEq, Int.reduceLT, Int.reduceLE, Int.reduceNeg, Int.reduceAdd, Int.reduceSub, Int.reduceMul, Int.add_sub_cancel] at h) <;> (try simp (disch := omega) only [w32_e, w64_e, td_pos, tm_pos, Int.add_sub_cancel] at h) <;> first | exact absurd rfl h | exact absurd h (by decide) | (exfalso; omega) | (conv => whnf))
    | (refine And.intro (by first | omega | ((try simp (disch := decide) only [cmp3_lt, cmp3_ge, cmp3_gt, cmp3_le, cmp3_eq, ms_q, ms_f, mf_q, mf_f, mc_q, mc_f, and_self, and_true, true_and, and_false, false_and, or_true, true_or, or_false, false_or, if_true, if_false, not_true_eq_false, not_false_eq_true, eq_self, reduceIte, Int.reduceEq, Int.reduceLT, Int.reduceLE, Int.reduceNeg, Int.reduceAdd, Int.reduceSub, Int.reduceMul, Int.add_sub_cancel]); (try simp (disch := omega) only [w32_e, w64_e, td_pos, tm_pos, Int.add_sub_cancel]); first | assumption | omega) | exact qc (by omega) | ((try simp (disch := decide) only [cmp3_lt, cmp3_ge, cmp3_gt, cmp3_le, cmp3_eq, ms_q, ms_f, mf_q, mf_f, mc_q, mc_f, and_self, and_true, true_and, and_false, false_and, or_true, true_or, or_false, false_or, if_true, if_false, not_true_eq_false, not_false_eq_true, eq_self, reduceIte, Int.reduceEq, Int.reduceLT, Int.reduceLE, Int.reduceNeg, Int.reduceAdd, Int.reduceSub, Int.reduceMul, Int.add_sub_cancel]); (try simp (disch := omega) only [w32_e, w64_e, td_pos, tm_pos, Int.add_sub_cancel]); ((repeat' (first | assumption | omega | with_reducible rfl | apply And.intro)); done))) ?_; conv => whnf)
    | (intro v; intro hv; conv => whnf)
  all_goals
    (refine ⟨_, ?_, 0, rfl, rfl, ⟨Int.le_refl _, by decide⟩, FT.refl, fun j a b => by omega⟩
     omega)

def sp_whM : Spec1 := fun as M Q => match as with
  | [.inr (.inr (.inl (q0, i0))), .inl o] => match Nat.beq q0 13 with
    | true => (i0 = 0 ∧ True) ∧ ∃ (D : DD) (q : Int), (DayH M ∧ dOK (dx M) D ∧ RelD (dx M) D M q 0 0 0 ∧ (0 ≤ o ∧ o < M 10 0 3)) ∧ Q (some (vI (lkV D o))) M
    | false => False
  | _ => False
theorem ok_whM {l : Launch} {ω : WP} : ∀ as M Q, sp_whM as M Q → Vd l ω 1 246 as M Q := by
  intro as M Q h
  unfold sp_whM at h
  split at h
  case h_2 => exact h.elim
  rename_i q0 i0 o
  cases hb : Nat.beq q0 13 with
  | false => rw [hb] at h; exact h.elim
  | true =>
  rw [hb] at h
  obtain ⟨⟨hi, _⟩, hQ⟩ := h
  have hb := beq_eq hb
  subst hb
  subst hi
  refine Vd.ok fun hok hal => ?_
  obtain ⟨D, q, ⟨hH, hD, rel, h1⟩, hQ⟩ := hQ
  have hX := hH.x
  have n8 : 0 ≤ M 10 0 3 ∧ M 10 0 3 ≤ 8 := hX.1
  have df := dm_facts hH h1.1 h1.2
  have e105 : M 105 0 o = M 11 o 0 := df.1.1
  have r6 : 0 ≤ M 11 o 0 ∧ M 11 o 0 < 6 := ⟨df.2.1.1, df.2.1.2.1⟩
  obtain ⟨w1, w2, w3, w4, w5, w6, w7, w8, w9, w10, w11, w12⟩ := rel.1 o h1.1 h1.2
  obtain ⟨k1, k2⟩ := hD.2.2 o h1.1 h1.2
  have k1' : 0 ≤ D.rp o 7 ∧ D.rp o 7 ≤ M 21 0 (M 11 o 0) := k1
  have s6 := df.2.2.2.2.2.1
  have kb : ¬ M 115 0 o = -4 → 0 ≤ M 112 0 o ∧ M 112 0 o < 6 ∧ D.rp o 4 = M 23 (M 11 o 0) (M 112 0 o) ∧ ¬ D.rp o 4 = -4 := fun z => by
    rcases k2 with y | ⟨y, y2⟩
    · exact absurd (w6 y) z
    · have y2' : D.rp o 7 < M 21 0 (M 11 o 0) := y2
      have y' : D.rp o 4 = M 23 (M 11 o 0) (D.rp o 7) := y
      have nz : ¬ D.rp o 4 = -4 := fun x => z (w6 x)
      rw [w5.2.1]
      exact ⟨by omega, by omega, y', nz⟩
  have e77 : 0 ≤ M 112 0 o → M 112 0 o < 6 → M 77 0 (6 * M 11 o 0 + M 112 0 o) = M 23 (M 11 o 0) (M 112 0 o) := fun z y => df.2.2.2.2.2.2 _ z y
  refine Vd_run (GGz_ok (l := l) (ω := ω)) 400 (cut := fun _ => none) (by decide) CutOK_none ?_
  conv => whnf
  repeat' first
    | (refine And.intro (fun h => ?_) (fun h => ?_) <;> (try simp (disch := decide) only [cmp3_lt, cmp3_ge, cmp3_gt, cmp3_le, cmp3_eq, ms_q, ms_f, mf_q, mf_f, mc_q, mc_f, and_self, and_true, true_and, and_false, false_and, or_true, true_or, or_false, false_or, if_true, if_false, not_true_eq_false, not_false_eq_true, eq_self, reduceIte, Int.reduceEq, Int.reduceLT, Int.reduceLE, Int.reduceNeg, Int.reduceAdd, Int.reduceSub, Int.reduceMul, Int.add_sub_cancel] at h) <;> (try simp (disch := omega) only [w32_e, w64_e, td_pos, tm_pos, Int.add_sub_cancel, e105, e77] at h) <;> first | exact absurd rfl h | exact absurd h (by decide) | (exfalso; omega) | (conv => whnf))
    | (refine And.intro (by first | omega | ((try simp (disch := decide) only [cmp3_lt, cmp3_ge, cmp3_gt, cmp3_le, cmp3_eq, ms_q, ms_f, mf_q, mf_f, mc_q, mc_f, and_self, and_true, true_and, and_false, false_and, or_true, true_or, or_false, false_or, if_true, if_false, not_true_eq_false, not_false_eq_true, eq_self, reduceIte, Int.reduceEq, Int.reduceLT, Int.reduceLE, Int.reduceNeg, Int.reduceAdd, Int.reduceSub, Int.reduceMul, Int.add_sub_cancel]); (try simp (disch := omega) only [w32_e, w64_e, td_pos, tm_pos, Int.add_sub_cancel, e105, e77]); first | assumption | omega) | ((try simp (disch := decide) only [cmp3_lt, cmp3_ge, cmp3_gt, cmp3_le, cmp3_eq, ms_q, ms_f, mf_q, mf_f, mc_q, mc_f, and_self, and_true, true_and, and_false, false_and, or_true, true_or, or_false, false_or, if_true, if_false, not_true_eq_false, not_false_eq_true, eq_self, reduceIte, Int.reduceEq, Int.reduceLT, Int.reduceLE, Int.reduceNeg, Int.reduceAdd, Int.reduceSub, Int.reduceMul, Int.add_sub_cancel]); (try simp (disch := omega) only [w32_e, w64_e, td_pos, tm_pos, Int.add_sub_cancel, e105, e77]); ((repeat' (first | assumption | omega | with_reducible rfl | apply And.intro)); done))) ?_; conv => whnf)
    | (intro v; intro hv; conv => whnf)
  all_goals ((try simp (disch := decide) only [cmp3_lt, cmp3_ge, cmp3_gt, cmp3_le, cmp3_eq, ms_q, ms_f, mf_q, mf_f, mc_q, mc_f, and_self, and_true, true_and, and_false, false_and, or_true, true_or, or_false, false_or, if_true, if_false, not_true_eq_false, not_false_eq_true, eq_self, reduceIte, Int.reduceEq, Int.reduceLT, Int.reduceLE, Int.reduceNeg, Int.reduceAdd, Int.reduceSub, Int.reduceMul, Int.add_sub_cancel] at *); (try simp (disch := omega) only [w32_e, w64_e, td_pos, tm_pos, Int.add_sub_cancel, e105, e77] at *))
  all_goals refine Eq.mp (congrArg (fun z => Q (some (vI z)) M) ?_) hQ
  all_goals unfold lkV
  all_goals first
    | (have n6 : D.rp o 6 = -4 := by
         rcases Classical.em (D.rp o 6 = -4) with z | z
         · exact z
         · have := (w2 z).1
           omega
       rw [if_pos (w9 n6).1, n6])
    | (have n4 : D.rp o 4 = -4 := by
         rcases Classical.em (D.rp o 4 = -4) with z | z
         · exact z
         · have := w7 z
           have := (w10 z).1
           omega
       have n6 : ¬ D.rp o 6 = -4 := fun z => by have := w1 z; omega
       rw [if_pos n4, (w2 n6).2])
    | (have k := kb (by assumption)
       first
         | (rw [if_neg k.2.2.2, k.2.2.1]; done)
         | (rw [if_neg k.2.2.2, k.2.2.1, e77 k.1 k.2.1]; done))
