/-! ===== text, the model: nameNow (wip/gen/p64.py) ===== -/
def GLY : List (Nat × Nat × Spec1) := (200, 1, sp_isM) :: GLX
abbrev GGY : Env1 := fun n => getG n GLY
theorem GGY_all {l : Launch} {ω : WP} : ∀ e ∈ GLY, ∀ as M Q, e.2.2 as M Q → Vd l ω e.2.1 e.1 as M Q := List.forall_mem_cons.mpr ⟨ok_isM, GGX_all⟩
theorem GGY_ok {l : Launch} {ω : WP} : GOK l ω GGY := getG_ok GLY GGY_all

theorem isW_4 {T : Int → Int} {s n a b c d : Int} {r : List Int} (h : 4 ≤ n) : isW T s (a :: b :: c :: d :: r) = true ↔ (isW T s (wl n a b c d) = true ∧ isW T (s + 4) r = true) := by
  have e1 : s + 1 + 1 + 1 + 1 = s + 4 := by omega
  unfold wl
  rw [if_neg (by omega), if_neg (by omega)]
  simp only [isW, Bool.and_true, Bool.and_eq_true, decide_eq_true_eq, e1]
  exact ⟨fun z => ⟨⟨z.1, z.2.1, z.2.2.1, z.2.2.2.1⟩, z.2.2.2.2⟩, fun z => ⟨z.1.1, z.1.2.1, z.1.2.2.1, z.1.2.2.2, z.2⟩⟩
theorem isW_3 {T : Int → Int} {s x y z : Int} : isW T (s + 4) [x, y, z] = true ↔ (T (s + 4) = x ∧ T (s + 4 + 1) = y ∧ T (s + 6) = z) := by
  have e2 : s + 4 + 1 + 1 = s + 6 := by omega
  simp only [isW, Bool.and_true, Bool.and_eq_true, decide_eq_true_eq, e2]
theorem isW_2 {T : Int → Int} {s x y : Int} : isW T (s + 4) [x, y] = true ↔ (T (s + 4) = x ∧ T (s + 4 + 1) = y) := by
  simp only [isW, Bool.and_true, Bool.and_eq_true, decide_eq_true_eq]
theorem isW_1 {T : Int → Int} {s x : Int} : isW T (s + 4) [x] = true ↔ T (s + 4) = x := by
  simp only [isW, Bool.and_true, decide_eq_true_eq]
theorem nm_y {T : Int → Int} {s e c : Int} {w : List Int} {r : List (Int × List Int)} (h : e - s = (w.length : Int) ∧ isW T s w = true) : nmF T s e ((c, w) :: r) = c := if_pos h
theorem nm_n {T : Int → Int} {s e c : Int} {w : List Int} {r : List (Int × List Int)} (h : ¬ (e - s = (w.length : Int) ∧ isW T s w = true)) : nmF T s e ((c, w) :: r) = nmF T s e r := if_neg h
theorem if_1 {P : Prop} [Decidable P] (h : (if P then (1 : Int) else 0) = 0) : ¬ P := fun z => by rw [if_pos z] at h; exact absurd h (by decide)
theorem if_2 {P : Prop} [Decidable P] (h : ¬ (if P then (1 : Int) else 0) = 0) : P := Decidable.byContradiction fun z => by rw [if_neg z] at h; exact h rfl

def sp_vnM : Spec1 := fun as M Q => match as with
  | [.inr (.inr (.inl (q0, i0)))] => match Nat.beq q0 13 with
    | true => (i0 = 0 ∧ (0 ≤ (M 13 0 30) ∧ (M 13 0 30) ≤ (M 13 0 29) ∧ (M 13 0 29) ≤ (M 13 0 28) ∧ (M 13 0 28) ≤ 240) ∧ nmF (M 90 0) (M 13 0 30) (M 13 0 29) wdL = nmF (M 90 0) (M 13 0 30) (M 13 0 29) (wdL.drop 7)) ∧ Q (some (vI (vmM (nmF (M 90 0) (M 13 0 30) (M 13 0 29) wdL)))) M
    | false => False
  | _ => False
theorem ok_vnM {l : Launch} {ω : WP} : ∀ as M Q, sp_vnM as M Q → Vd l ω 2 203 as M Q := by
  intro as M Q h
  unfold sp_vnM at h
  split at h
  case h_2 => exact h.elim
  rename_i q0 i0 
  cases hb : Nat.beq q0 13 with
  | false => rw [hb] at h; exact h.elim
  | true =>
  rw [hb] at h
  obtain ⟨⟨hi, hp, hk7⟩, hQ⟩ := h
  have hb := beq_eq hb
  subst hb
  subst hi
  refine Vd.ok fun hok hal => ?_
  have key : ∀ n9, CutOK l ω 2 203 (cutL [(0, [0], fun kk vs M9 => vs = [vR 13 0] ∧ M = M9 ∧ kk = (93 : Nat) ∧ nmF (M 90 0) (M 13 0 30) (M 13 0 29) wdL = nmF (M 90 0) (M 13 0 30) (M 13 0 29) (wdL.drop 7)), (19, [0], fun kk vs M9 => vs = [vR 13 0] ∧ M = M9 ∧ kk = (92 : Nat) ∧ nmF (M 90 0) (M 13 0 30) (M 13 0 29) wdL = nmF (M 90 0) (M 13 0 30) (M 13 0 29) (wdL.drop 8)), (38, [0], fun kk vs M9 => vs = [vR 13 0] ∧ M = M9 ∧ kk = (91 : Nat) ∧ nmF (M 90 0) (M 13 0 30) (M 13 0 29) wdL = nmF (M 90 0) (M 13 0 30) (M 13 0 29) (wdL.drop 9)), (57, [0], fun kk vs M9 => vs = [vR 13 0] ∧ M = M9 ∧ kk = (90 : Nat) ∧ nmF (M 90 0) (M 13 0 30) (M 13 0 29) wdL = nmF (M 90 0) (M 13 0 30) (M 13 0 29) (wdL.drop 10)), (105, [0], fun kk vs M9 => vs = [vR 13 0] ∧ M = M9 ∧ kk = (89 : Nat) ∧ nmF (M 90 0) (M 13 0 30) (M 13 0 29) wdL = nmF (M 90 0) (M 13 0 30) (M 13 0 29) (wdL.drop 11)), (139, [0], fun kk vs M9 => vs = [vR 13 0] ∧ M = M9 ∧ kk = (88 : Nat) ∧ nmF (M 90 0) (M 13 0 30) (M 13 0 29) wdL = nmF (M 90 0) (M 13 0 30) (M 13 0 29) (wdL.drop 12)), (171, [0], fun kk vs M9 => vs = [vR 13 0] ∧ M = M9 ∧ kk = (87 : Nat) ∧ nmF (M 90 0) (M 13 0 30) (M 13 0 29) wdL = nmF (M 90 0) (M 13 0 30) (M 13 0 29) (wdL.drop 13)), (190, [0], fun kk vs M9 => vs = [vR 13 0] ∧ M = M9 ∧ kk = (86 : Nat) ∧ nmF (M 90 0) (M 13 0 30) (M 13 0 29) wdL = nmF (M 90 0) (M 13 0 30) (M 13 0 29) (wdL.drop 14)), (222, [0], fun kk vs M9 => vs = [vR 13 0] ∧ M = M9 ∧ kk = (85 : Nat) ∧ nmF (M 90 0) (M 13 0 30) (M 13 0 29) wdL = nmF (M 90 0) (M 13 0 30) (M 13 0 29) (wdL.drop 15))] n9) Q := by
    refine loops (GGY_ok (l := l) (ω := ω)) 400 _ ?_
    refine List.forall_mem_cons.mpr ⟨?_, List.forall_mem_cons.mpr ⟨?_, List.forall_mem_cons.mpr ⟨?_, List.forall_mem_cons.mpr ⟨?_, List.forall_mem_cons.mpr ⟨?_, List.forall_mem_cons.mpr ⟨?_, List.forall_mem_cons.mpr ⟨?_, List.forall_mem_cons.mpr ⟨?_, List.forall_mem_cons.mpr ⟨?_, fun _ h => absurd h List.not_mem_nil⟩⟩⟩⟩⟩⟩⟩⟩⟩
    · rintro n9 vs M9 ⟨rfl, rfl, rfl, hk⟩
      have w0 : ∀ x, 0 ≤ x → x ≤ 300 → w32 x = x := fun x a b => w32_e (by omega) (by omega)
      have hb4 : 0 ≤ 1 := by decide
      show wpH _ 400 _ 203 _ true 0 [vR 13 0] [] _ Q
      conv => whnf
      repeat' first
        | (refine And.intro (fun h => ?_) (fun h => ?_) <;> (try simp (disch := decide) only [cmp3_lt, cmp3_ge, cmp3_gt, cmp3_le, cmp3_eq, ms_q, ms_f, mf_q, mf_f, mc_q, mc_f, and_self, and_true, true_and, and_false, false_and, or_true, true_or, or_false, false_or, if_true, if_false, not_true_eq_false, not_false_eq_true, eq_self, reduceIte, Int.reduceEq, Int.reduceLT, Int.reduceLE, Int.reduceNeg, Int.reduceAdd, Int.reduceSub, Int.reduceMul, Int.add_sub_cancel] at h) <;> (try simp (disch := omega) only [w32_e, w64_e, td_pos, tm_pos, Int.add_sub_cancel] at h) <;> first | exact absurd rfl h | exact absurd h (by decide) | (exfalso; omega) | (conv => whnf))
        | (refine And.intro (by first | omega | ((try simp (disch := decide) only [cmp3_lt, cmp3_ge, cmp3_gt, cmp3_le, cmp3_eq, ms_q, ms_f, mf_q, mf_f, mc_q, mc_f, and_self, and_true, true_and, and_false, false_and, or_true, true_or, or_false, false_or, if_true, if_false, not_true_eq_false, not_false_eq_true, eq_self, reduceIte, Int.reduceEq, Int.reduceLT, Int.reduceLE, Int.reduceNeg, Int.reduceAdd, Int.reduceSub, Int.reduceMul, Int.add_sub_cancel]); (try simp (disch := omega) only [w32_e, w64_e, td_pos, tm_pos, Int.add_sub_cancel]); first | assumption | omega) | exact ⟨rfl, hp, by decide, by decide⟩ | exact ⟨rfl, hp, by omega, by omega⟩ | ((try simp (disch := decide) only [cmp3_lt, cmp3_ge, cmp3_gt, cmp3_le, cmp3_eq, ms_q, ms_f, mf_q, mf_f, mc_q, mc_f, and_self, and_true, true_and, and_false, false_and, or_true, true_or, or_false, false_or, if_true, if_false, not_true_eq_false, not_false_eq_true, eq_self, reduceIte, Int.reduceEq, Int.reduceLT, Int.reduceLE, Int.reduceNeg, Int.reduceAdd, Int.reduceSub, Int.reduceMul, Int.add_sub_cancel]); (try simp (disch := omega) only [w32_e, w64_e, td_pos, tm_pos, Int.add_sub_cancel]); ((repeat' (first | assumption | omega | with_reducible rfl | apply And.intro)); done))) ?_; conv => whnf)
        | (intro v; intro hv; conv => whnf)
      all_goals first
        | (have hy : (M 13 0 29) - (M 13 0 30) = ((([119, 105, 110, 100] : List Int).length : Nat) : Int) ∧ isW (M 90 0) (M 13 0 30) [119, 105, 110, 100] = true := if_2 (by assumption : ¬ (if (M 13 0 29) - (M 13 0 30) = 4 ∧ isW (M 90 0) (M 13 0 30) (wl 4 119 105 110 100) = true then (1 : Int) else 0) = 0)
           have q : nmF (M 90 0) (M 13 0 30) (M 13 0 29) wdL = 7 := hk.trans (nm_y hy)
           rw [q] at hQ
           exact hQ)
        | (have hn : ¬ ((M 13 0 29) - (M 13 0 30) = ((([119, 105, 110, 100] : List Int).length : Nat) : Int) ∧ isW (M 90 0) (M 13 0 30) [119, 105, 110, 100] = true) := if_1 (by assumption : (if (M 13 0 29) - (M 13 0 30) = 4 ∧ isW (M 90 0) (M 13 0 30) (wl 4 119 105 110 100) = true then (1 : Int) else 0) = 0)
           refine ⟨_, ?_, rfl, rfl, rfl, hk.trans (nm_n hn)⟩
           omega)
    · rintro n9 vs M9 ⟨rfl, rfl, rfl, hk⟩
      have w0 : ∀ x, 0 ≤ x → x ≤ 300 → w32 x = x := fun x a b => w32_e (by omega) (by omega)
      have hb4 : 0 ≤ 1 := by decide
      show wpH _ 400 _ 203 _ true 19 [vR 13 0] [] _ Q
      conv => whnf
      repeat' first
        | (refine And.intro (fun h => ?_) (fun h => ?_) <;> (try simp (disch := decide) only [cmp3_lt, cmp3_ge, cmp3_gt, cmp3_le, cmp3_eq, ms_q, ms_f, mf_q, mf_f, mc_q, mc_f, and_self, and_true, true_and, and_false, false_and, or_true, true_or, or_false, false_or, if_true, if_false, not_true_eq_false, not_false_eq_true, eq_self, reduceIte, Int.reduceEq, Int.reduceLT, Int.reduceLE, Int.reduceNeg, Int.reduceAdd, Int.reduceSub, Int.reduceMul, Int.add_sub_cancel] at h) <;> (try simp (disch := omega) only [w32_e, w64_e, td_pos, tm_pos, Int.add_sub_cancel] at h) <;> first | exact absurd rfl h | exact absurd h (by decide) | (exfalso; omega) | (conv => whnf))
        | (refine And.intro (by first | omega | ((try simp (disch := decide) only [cmp3_lt, cmp3_ge, cmp3_gt, cmp3_le, cmp3_eq, ms_q, ms_f, mf_q, mf_f, mc_q, mc_f, and_self, and_true, true_and, and_false, false_and, or_true, true_or, or_false, false_or, if_true, if_false, not_true_eq_false, not_false_eq_true, eq_self, reduceIte, Int.reduceEq, Int.reduceLT, Int.reduceLE, Int.reduceNeg, Int.reduceAdd, Int.reduceSub, Int.reduceMul, Int.add_sub_cancel]); (try simp (disch := omega) only [w32_e, w64_e, td_pos, tm_pos, Int.add_sub_cancel]); first | assumption | omega) | exact ⟨rfl, hp, by decide, by decide⟩ | exact ⟨rfl, hp, by omega, by omega⟩ | ((try simp (disch := decide) only [cmp3_lt, cmp3_ge, cmp3_gt, cmp3_le, cmp3_eq, ms_q, ms_f, mf_q, mf_f, mc_q, mc_f, and_self, and_true, true_and, and_false, false_and, or_true, true_or, or_false, false_or, if_true, if_false, not_true_eq_false, not_false_eq_true, eq_self, reduceIte, Int.reduceEq, Int.reduceLT, Int.reduceLE, Int.reduceNeg, Int.reduceAdd, Int.reduceSub, Int.reduceMul, Int.add_sub_cancel]); (try simp (disch := omega) only [w32_e, w64_e, td_pos, tm_pos, Int.add_sub_cancel]); ((repeat' (first | assumption | omega | with_reducible rfl | apply And.intro)); done))) ?_; conv => whnf)
        | (intro v; intro hv; conv => whnf)
      all_goals first
        | (have hy : (M 13 0 29) - (M 13 0 30) = ((([114, 97, 105, 110] : List Int).length : Nat) : Int) ∧ isW (M 90 0) (M 13 0 30) [114, 97, 105, 110] = true := if_2 (by assumption : ¬ (if (M 13 0 29) - (M 13 0 30) = 4 ∧ isW (M 90 0) (M 13 0 30) (wl 4 114 97 105 110) = true then (1 : Int) else 0) = 0)
           have q : nmF (M 90 0) (M 13 0 30) (M 13 0 29) wdL = 8 := hk.trans (nm_y hy)
           rw [q] at hQ
           exact hQ)
        | (have hn : ¬ ((M 13 0 29) - (M 13 0 30) = ((([114, 97, 105, 110] : List Int).length : Nat) : Int) ∧ isW (M 90 0) (M 13 0 30) [114, 97, 105, 110] = true) := if_1 (by assumption : (if (M 13 0 29) - (M 13 0 30) = 4 ∧ isW (M 90 0) (M 13 0 30) (wl 4 114 97 105 110) = true then (1 : Int) else 0) = 0)
           refine ⟨_, ?_, rfl, rfl, rfl, hk.trans (nm_n hn)⟩
           omega)
    · rintro n9 vs M9 ⟨rfl, rfl, rfl, hk⟩
      have w0 : ∀ x, 0 ≤ x → x ≤ 300 → w32 x = x := fun x a b => w32_e (by omega) (by omega)
      have hb4 : 0 ≤ 1 := by decide
      show wpH _ 400 _ 203 _ true 38 [vR 13 0] [] _ Q
      conv => whnf
      repeat' first
        | (refine And.intro (fun h => ?_) (fun h => ?_) <;> (try simp (disch := decide) only [cmp3_lt, cmp3_ge, cmp3_gt, cmp3_le, cmp3_eq, ms_q, ms_f, mf_q, mf_f, mc_q, mc_f, and_self, and_true, true_and, and_false, false_and, or_true, true_or, or_false, false_or, if_true, if_false, not_true_eq_false, not_false_eq_true, eq_self, reduceIte, Int.reduceEq, Int.reduceLT, Int.reduceLE, Int.reduceNeg, Int.reduceAdd, Int.reduceSub, Int.reduceMul, Int.add_sub_cancel] at h) <;> (try simp (disch := omega) only [w32_e, w64_e, td_pos, tm_pos, Int.add_sub_cancel] at h) <;> first | exact absurd rfl h | exact absurd h (by decide) | (exfalso; omega) | (conv => whnf))
        | (refine And.intro (by first | omega | ((try simp (disch := decide) only [cmp3_lt, cmp3_ge, cmp3_gt, cmp3_le, cmp3_eq, ms_q, ms_f, mf_q, mf_f, mc_q, mc_f, and_self, and_true, true_and, and_false, false_and, or_true, true_or, or_false, false_or, if_true, if_false, not_true_eq_false, not_false_eq_true, eq_self, reduceIte, Int.reduceEq, Int.reduceLT, Int.reduceLE, Int.reduceNeg, Int.reduceAdd, Int.reduceSub, Int.reduceMul, Int.add_sub_cancel]); (try simp (disch := omega) only [w32_e, w64_e, td_pos, tm_pos, Int.add_sub_cancel]); first | assumption | omega) | exact ⟨rfl, hp, by decide, by decide⟩ | exact ⟨rfl, hp, by omega, by omega⟩ | ((try simp (disch := decide) only [cmp3_lt, cmp3_ge, cmp3_gt, cmp3_le, cmp3_eq, ms_q, ms_f, mf_q, mf_f, mc_q, mc_f, and_self, and_true, true_and, and_false, false_and, or_true, true_or, or_false, false_or, if_true, if_false, not_true_eq_false, not_false_eq_true, eq_self, reduceIte, Int.reduceEq, Int.reduceLT, Int.reduceLE, Int.reduceNeg, Int.reduceAdd, Int.reduceSub, Int.reduceMul, Int.add_sub_cancel]); (try simp (disch := omega) only [w32_e, w64_e, td_pos, tm_pos, Int.add_sub_cancel]); ((repeat' (first | assumption | omega | with_reducible rfl | apply And.intro)); done))) ?_; conv => whnf)
        | (intro v; intro hv; conv => whnf)
      all_goals first
        | (have hy : (M 13 0 29) - (M 13 0 30) = ((([115, 110, 111, 119] : List Int).length : Nat) : Int) ∧ isW (M 90 0) (M 13 0 30) [115, 110, 111, 119] = true := if_2 (by assumption : ¬ (if (M 13 0 29) - (M 13 0 30) = 4 ∧ isW (M 90 0) (M 13 0 30) (wl 4 115 110 111 119) = true then (1 : Int) else 0) = 0)
           have q : nmF (M 90 0) (M 13 0 30) (M 13 0 29) wdL = 9 := hk.trans (nm_y hy)
           rw [q] at hQ
           exact hQ)
        | (have hn : ¬ ((M 13 0 29) - (M 13 0 30) = ((([115, 110, 111, 119] : List Int).length : Nat) : Int) ∧ isW (M 90 0) (M 13 0 30) [115, 110, 111, 119] = true) := if_1 (by assumption : (if (M 13 0 29) - (M 13 0 30) = 4 ∧ isW (M 90 0) (M 13 0 30) (wl 4 115 110 111 119) = true then (1 : Int) else 0) = 0)
           refine ⟨_, ?_, rfl, rfl, rfl, hk.trans (nm_n hn)⟩
           omega)
    · rintro n9 vs M9 ⟨rfl, rfl, rfl, hk⟩
      have w0 : ∀ x, 0 ≤ x → x ≤ 300 → w32 x = x := fun x a b => w32_e (by omega) (by omega)
      have hb4 : 0 ≤ 1 := by decide
      show wpH _ 400 _ 203 _ true 57 [vR 13 0] [] _ Q
      conv => whnf
      repeat' first
        | (refine And.intro (fun h => ?_) (fun h => ?_) <;> (try simp (disch := decide) only [cmp3_lt, cmp3_ge, cmp3_gt, cmp3_le, cmp3_eq, ms_q, ms_f, mf_q, mf_f, mc_q, mc_f, and_self, and_true, true_and, and_false, false_and, or_true, true_or, or_false, false_or, if_true, if_false, not_true_eq_false, not_false_eq_true, eq_self, reduceIte, Int.reduceEq, Int.reduceLT, Int.reduceLE, Int.reduceNeg, Int.reduceAdd, Int.reduceSub, Int.reduceMul, Int.add_sub_cancel] at h) <;> (try simp (disch := omega) only [w32_e, w64_e, td_pos, tm_pos, Int.add_sub_cancel] at h) <;> first | exact absurd rfl h | exact absurd h (by decide) | (exfalso; omega) | (conv => whnf))
        | (refine And.intro (by first | omega | ((try simp (disch := decide) only [cmp3_lt, cmp3_ge, cmp3_gt, cmp3_le, cmp3_eq, ms_q, ms_f, mf_q, mf_f, mc_q, mc_f, and_self, and_true, true_and, and_false, false_and, or_true, true_or, or_false, false_or, if_true, if_false, not_true_eq_false, not_false_eq_true, eq_self, reduceIte, Int.reduceEq, Int.reduceLT, Int.reduceLE, Int.reduceNeg, Int.reduceAdd, Int.reduceSub, Int.reduceMul, Int.add_sub_cancel]); (try simp (disch := omega) only [w32_e, w64_e, td_pos, tm_pos, Int.add_sub_cancel]); first | assumption | omega) | exact ⟨rfl, hp, by decide, by decide⟩ | exact ⟨rfl, hp, by omega, by omega⟩ | ((try simp (disch := decide) only [cmp3_lt, cmp3_ge, cmp3_gt, cmp3_le, cmp3_eq, ms_q, ms_f, mf_q, mf_f, mc_q, mc_f, and_self, and_true, true_and, and_false, false_and, or_true, true_or, or_false, false_or, if_true, if_false, not_true_eq_false, not_false_eq_true, eq_self, reduceIte, Int.reduceEq, Int.reduceLT, Int.reduceLE, Int.reduceNeg, Int.reduceAdd, Int.reduceSub, Int.reduceMul, Int.add_sub_cancel]); (try simp (disch := omega) only [w32_e, w64_e, td_pos, tm_pos, Int.add_sub_cancel]); ((repeat' (first | assumption | omega | with_reducible rfl | apply And.intro)); done))) ?_; conv => whnf)
        | (intro v; intro hv; conv => whnf)
      all_goals first
        | (have hy : (M 13 0 29) - (M 13 0 30) = ((([113, 117, 97, 114, 116, 101, 114] : List Int).length : Nat) : Int) ∧ isW (M 90 0) (M 13 0 30) [113, 117, 97, 114, 116, 101, 114] = true := by
             have y := if_2 (by assumption : ¬ (if (M 13 0 29) - (M 13 0 30) = 7 ∧ isW (M 90 0) (M 13 0 30) (wl 7 113 117 97 114) = true then (1 : Int) else 0) = 0)
             exact ⟨y.1, (isW_4 (n := 7) (by decide)).mpr ⟨y.2, isW_3.mpr (by omega)⟩⟩
           have q : nmF (M 90 0) (M 13 0 30) (M 13 0 29) wdL = 10 := hk.trans (nm_y hy)
           rw [q] at hQ
           exact hQ)
        | (have hn : ¬ ((M 13 0 29) - (M 13 0 30) = ((([113, 117, 97, 114, 116, 101, 114] : List Int).length : Nat) : Int) ∧ isW (M 90 0) (M 13 0 30) [113, 117, 97, 114, 116, 101, 114] = true) := fun z => by
             have z2 := (isW_4 (n := 7) (by decide)).mp z.2
             have z3 := isW_3.mp z2.2
             first
               | exact if_1 (by assumption : (if (M 13 0 29) - (M 13 0 30) = 7 ∧ isW (M 90 0) (M 13 0 30) (wl 7 113 117 97 114) = true then (1 : Int) else 0) = 0) ⟨z.1, z2.1⟩
               | omega
           refine ⟨_, ?_, rfl, rfl, rfl, hk.trans (nm_n hn)⟩
           omega)
    · rintro n9 vs M9 ⟨rfl, rfl, rfl, hk⟩
      have w0 : ∀ x, 0 ≤ x → x ≤ 300 → w32 x = x := fun x a b => w32_e (by omega) (by omega)
      have hb4 : 0 ≤ 1 := by decide
      show wpH _ 400 _ 203 _ true 105 [vR 13 0] [] _ Q
      conv => whnf
      repeat' first
        | (refine And.intro (fun h => ?_) (fun h => ?_) <;> (try simp (disch := decide) only [cmp3_lt, cmp3_ge, cmp3_gt, cmp3_le, cmp3_eq, ms_q, ms_f, mf_q, mf_f, mc_q, mc_f, and_self, and_true, true_and, and_false, false_and, or_true, true_or, or_false, false_or, if_true, if_false, not_true_eq_false, not_false_eq_true, eq_self, reduceIte, Int.reduceEq, Int.reduceLT, Int.reduceLE, Int.reduceNeg, Int.reduceAdd, Int.reduceSub, Int.reduceMul, Int.add_sub_cancel] at h) <;> (try simp (disch := omega) only [w32_e, w64_e, td_pos, tm_pos, Int.add_sub_cancel] at h) <;> first | exact absurd rfl h | exact absurd h (by decide) | (exfalso; omega) | (conv => whnf))
        | (refine And.intro (by first | omega | ((try simp (disch := decide) only [cmp3_lt, cmp3_ge, cmp3_gt, cmp3_le, cmp3_eq, ms_q, ms_f, mf_q, mf_f, mc_q, mc_f, and_self, and_true, true_and, and_false, false_and, or_true, true_or, or_false, false_or, if_true, if_false, not_true_eq_false, not_false_eq_true, eq_self, reduceIte, Int.reduceEq, Int.reduceLT, Int.reduceLE, Int.reduceNeg, Int.reduceAdd, Int.reduceSub, Int.reduceMul, Int.add_sub_cancel]); (try simp (disch := omega) only [w32_e, w64_e, td_pos, tm_pos, Int.add_sub_cancel]); first | assumption | omega) | exact ⟨rfl, hp, by decide, by decide⟩ | exact ⟨rfl, hp, by omega, by omega⟩ | ((try simp (disch := decide) only [cmp3_lt, cmp3_ge, cmp3_gt, cmp3_le, cmp3_eq, ms_q, ms_f, mf_q, mf_f, mc_q, mc_f, and_self, and_true, true_and, and_false, false_and, or_true, true_or, or_false, false_or, if_true, if_false, not_true_eq_false, not_false_eq_true, eq_self, reduceIte, Int.reduceEq, Int.reduceLT, Int.reduceLE, Int.reduceNeg, Int.reduceAdd, Int.reduceSub, Int.reduceMul, Int.add_sub_cancel]); (try simp (disch := omega) only [w32_e, w64_e, td_pos, tm_pos, Int.add_sub_cancel]); ((repeat' (first | assumption | omega | with_reducible rfl | apply And.intro)); done))) ?_; conv => whnf)
        | (intro v; intro hv; conv => whnf)
      all_goals first
        | (have hy : (M 13 0 29) - (M 13 0 30) = ((([103, 114, 97, 100, 101] : List Int).length : Nat) : Int) ∧ isW (M 90 0) (M 13 0 30) [103, 114, 97, 100, 101] = true := by
             have y := if_2 (by assumption : ¬ (if (M 13 0 29) - (M 13 0 30) = 5 ∧ isW (M 90 0) (M 13 0 30) (wl 5 103 114 97 100) = true then (1 : Int) else 0) = 0)
             exact ⟨y.1, (isW_4 (n := 5) (by decide)).mpr ⟨y.2, isW_1.mpr (by omega)⟩⟩
           have q : nmF (M 90 0) (M 13 0 30) (M 13 0 29) wdL = 11 := hk.trans (nm_y hy)
           rw [q] at hQ
           exact hQ)
        | (have hn : ¬ ((M 13 0 29) - (M 13 0 30) = ((([103, 114, 97, 100, 101] : List Int).length : Nat) : Int) ∧ isW (M 90 0) (M 13 0 30) [103, 114, 97, 100, 101] = true) := fun z => by
             have z2 := (isW_4 (n := 5) (by decide)).mp z.2
             have z3 := isW_1.mp z2.2
             first
               | exact if_1 (by assumption : (if (M 13 0 29) - (M 13 0 30) = 5 ∧ isW (M 90 0) (M 13 0 30) (wl 5 103 114 97 100) = true then (1 : Int) else 0) = 0) ⟨z.1, z2.1⟩
               | omega
           refine ⟨_, ?_, rfl, rfl, rfl, hk.trans (nm_n hn)⟩
           omega)
    · rintro n9 vs M9 ⟨rfl, rfl, rfl, hk⟩
      have w0 : ∀ x, 0 ≤ x → x ≤ 300 → w32 x = x := fun x a b => w32_e (by omega) (by omega)
      have hb4 : 0 ≤ 1 := by decide
      show wpH _ 400 _ 203 _ true 139 [vR 13 0] [] _ Q
      conv => whnf
      repeat' first
        | (refine And.intro (fun h => ?_) (fun h => ?_) <;> (try simp (disch := decide) only [cmp3_lt, cmp3_ge, cmp3_gt, cmp3_le, cmp3_eq, ms_q, ms_f, mf_q, mf_f, mc_q, mc_f, and_self, and_true, true_and, and_false, false_and, or_true, true_or, or_false, false_or, if_true, if_false, not_true_eq_false, not_false_eq_true, eq_self, reduceIte, Int.reduceEq, Int.reduceLT, Int.reduceLE, Int.reduceNeg, Int.reduceAdd, Int.reduceSub, Int.reduceMul, Int.add_sub_cancel] at h) <;> (try simp (disch := omega) only [w32_e, w64_e, td_pos, tm_pos, Int.add_sub_cancel] at h) <;> first | exact absurd rfl h | exact absurd h (by decide) | (exfalso; omega) | (conv => whnf))
        | (refine And.intro (by first | omega | ((try simp (disch := decide) only [cmp3_lt, cmp3_ge, cmp3_gt, cmp3_le, cmp3_eq, ms_q, ms_f, mf_q, mf_f, mc_q, mc_f, and_self, and_true, true_and, and_false, false_and, or_true, true_or, or_false, false_or, if_true, if_false, not_true_eq_false, not_false_eq_true, eq_self, reduceIte, Int.reduceEq, Int.reduceLT, Int.reduceLE, Int.reduceNeg, Int.reduceAdd, Int.reduceSub, Int.reduceMul, Int.add_sub_cancel]); (try simp (disch := omega) only [w32_e, w64_e, td_pos, tm_pos, Int.add_sub_cancel]); first | assumption | omega) | exact ⟨rfl, hp, by decide, by decide⟩ | exact ⟨rfl, hp, by omega, by omega⟩ | ((try simp (disch := decide) only [cmp3_lt, cmp3_ge, cmp3_gt, cmp3_le, cmp3_eq, ms_q, ms_f, mf_q, mf_f, mc_q, mc_f, and_self, and_true, true_and, and_false, false_and, or_true, true_or, or_false, false_or, if_true, if_false, not_true_eq_false, not_false_eq_true, eq_self, reduceIte, Int.reduceEq, Int.reduceLT, Int.reduceLE, Int.reduceNeg, Int.reduceAdd, Int.reduceSub, Int.reduceMul, Int.add_sub_cancel]); (try simp (disch := omega) only [w32_e, w64_e, td_pos, tm_pos, Int.add_sub_cancel]); ((repeat' (first | assumption | omega | with_reducible rfl | apply And.intro)); done))) ?_; conv => whnf)
        | (intro v; intro hv; conv => whnf)
      all_goals first
        | (have hy : (M 13 0 29) - (M 13 0 30) = ((([112, 101, 111, 112, 108, 101] : List Int).length : Nat) : Int) ∧ isW (M 90 0) (M 13 0 30) [112, 101, 111, 112, 108, 101] = true := by
             have y := if_2 (by assumption : ¬ (if (M 13 0 29) - (M 13 0 30) = 6 ∧ isW (M 90 0) (M 13 0 30) (wl 6 112 101 111 112) = true then (1 : Int) else 0) = 0)
             exact ⟨y.1, (isW_4 (n := 6) (by decide)).mpr ⟨y.2, isW_2.mpr (by omega)⟩⟩
           have q : nmF (M 90 0) (M 13 0 30) (M 13 0 29) wdL = 12 := hk.trans (nm_y hy)
           rw [q] at hQ
           exact hQ)
        | (have hn : ¬ ((M 13 0 29) - (M 13 0 30) = ((([112, 101, 111, 112, 108, 101] : List Int).length : Nat) : Int) ∧ isW (M 90 0) (M 13 0 30) [112, 101, 111, 112, 108, 101] = true) := fun z => by
             have z2 := (isW_4 (n := 6) (by decide)).mp z.2
             have z3 := isW_2.mp z2.2
             first
               | exact if_1 (by assumption : (if (M 13 0 29) - (M 13 0 30) = 6 ∧ isW (M 90 0) (M 13 0 30) (wl 6 112 101 111 112) = true then (1 : Int) else 0) = 0) ⟨z.1, z2.1⟩
               | omega
           refine ⟨_, ?_, rfl, rfl, rfl, hk.trans (nm_n hn)⟩
           omega)
    · rintro n9 vs M9 ⟨rfl, rfl, rfl, hk⟩
      have w0 : ∀ x, 0 ≤ x → x ≤ 300 → w32 x = x := fun x a b => w32_e (by omega) (by omega)
      have hb4 : 0 ≤ 1 := by decide
      show wpH _ 400 _ 203 _ true 171 [vR 13 0] [] _ Q
      conv => whnf
      repeat' first
        | (refine And.intro (fun h => ?_) (fun h => ?_) <;> (try simp (disch := decide) only [cmp3_lt, cmp3_ge, cmp3_gt, cmp3_le, cmp3_eq, ms_q, ms_f, mf_q, mf_f, mc_q, mc_f, and_self, and_true, true_and, and_false, false_and, or_true, true_or, or_false, false_or, if_true, if_false, not_true_eq_false, not_false_eq_true, eq_self, reduceIte, Int.reduceEq, Int.reduceLT, Int.reduceLE, Int.reduceNeg, Int.reduceAdd, Int.reduceSub, Int.reduceMul, Int.add_sub_cancel] at h) <;> (try simp (disch := omega) only [w32_e, w64_e, td_pos, tm_pos, Int.add_sub_cancel] at h) <;> first | exact absurd rfl h | exact absurd h (by decide) | (exfalso; omega) | (conv => whnf))
        | (refine And.intro (by first | omega | ((try simp (disch := decide) only [cmp3_lt, cmp3_ge, cmp3_gt, cmp3_le, cmp3_eq, ms_q, ms_f, mf_q, mf_f, mc_q, mc_f, and_self, and_true, true_and, and_false, false_and, or_true, true_or, or_false, false_or, if_true, if_false, not_true_eq_false, not_false_eq_true, eq_self, reduceIte, Int.reduceEq, Int.reduceLT, Int.reduceLE, Int.reduceNeg, Int.reduceAdd, Int.reduceSub, Int.reduceMul, Int.add_sub_cancel]); (try simp (disch := omega) only [w32_e, w64_e, td_pos, tm_pos, Int.add_sub_cancel]); first | assumption | omega) | exact ⟨rfl, hp, by decide, by decide⟩ | exact ⟨rfl, hp, by omega, by omega⟩ | ((try simp (disch := decide) only [cmp3_lt, cmp3_ge, cmp3_gt, cmp3_le, cmp3_eq, ms_q, ms_f, mf_q, mf_f, mc_q, mc_f, and_self, and_true, true_and, and_false, false_and, or_true, true_or, or_false, false_or, if_true, if_false, not_true_eq_false, not_false_eq_true, eq_self, reduceIte, Int.reduceEq, Int.reduceLT, Int.reduceLE, Int.reduceNeg, Int.reduceAdd, Int.reduceSub, Int.reduceMul, Int.add_sub_cancel]); (try simp (disch := omega) only [w32_e, w64_e, td_pos, tm_pos, Int.add_sub_cancel]); ((repeat' (first | assumption | omega | with_reducible rfl | apply And.intro)); done))) ?_; conv => whnf)
        | (intro v; intro hv; conv => whnf)
      all_goals first
        | (have hy : (M 13 0 29) - (M 13 0 30) = ((([104, 97, 114, 100] : List Int).length : Nat) : Int) ∧ isW (M 90 0) (M 13 0 30) [104, 97, 114, 100] = true := if_2 (by assumption : ¬ (if (M 13 0 29) - (M 13 0 30) = 4 ∧ isW (M 90 0) (M 13 0 30) (wl 4 104 97 114 100) = true then (1 : Int) else 0) = 0)
           have q : nmF (M 90 0) (M 13 0 30) (M 13 0 29) wdL = 13 := hk.trans (nm_y hy)
           rw [q] at hQ
           exact hQ)
        | (have hn : ¬ ((M 13 0 29) - (M 13 0 30) = ((([104, 97, 114, 100] : List Int).length : Nat) : Int) ∧ isW (M 90 0) (M 13 0 30) [104, 97, 114, 100] = true) := if_1 (by assumption : (if (M 13 0 29) - (M 13 0 30) = 4 ∧ isW (M 90 0) (M 13 0 30) (wl 4 104 97 114 100) = true then (1 : Int) else 0) = 0)
           refine ⟨_, ?_, rfl, rfl, rfl, hk.trans (nm_n hn)⟩
           omega)
    · rintro n9 vs M9 ⟨rfl, rfl, rfl, hk⟩
      have w0 : ∀ x, 0 ≤ x → x ≤ 300 → w32 x = x := fun x a b => w32_e (by omega) (by omega)
      have hb4 : 0 ≤ 1 := by decide
      show wpH _ 400 _ 203 _ true 190 [vR 13 0] [] _ Q
      conv => whnf
      repeat' first
        | (refine And.intro (fun h => ?_) (fun h => ?_) <;> (try simp (disch := decide) only [cmp3_lt, cmp3_ge, cmp3_gt, cmp3_le, cmp3_eq, ms_q, ms_f, mf_q, mf_f, mc_q, mc_f, and_self, and_true, true_and, and_false, false_and, or_true, true_or, or_false, false_or, if_true, if_false, not_true_eq_false, not_false_eq_true, eq_self, reduceIte, Int.reduceEq, Int.reduceLT, Int.reduceLE, Int.reduceNeg, Int.reduceAdd, Int.reduceSub, Int.reduceMul, Int.add_sub_cancel] at h) <;> (try simp (disch := omega) only [w32_e, w64_e, td_pos, tm_pos, Int.add_sub_cancel] at h) <;> first | exact absurd rfl h | exact absurd h (by decide) | (exfalso; omega) | (conv => whnf))
        | (refine And.intro (by first | omega | ((try simp (disch := decide) only [cmp3_lt, cmp3_ge, cmp3_gt, cmp3_le, cmp3_eq, ms_q, ms_f, mf_q, mf_f, mc_q, mc_f, and_self, and_true, true_and, and_false, false_and, or_true, true_or, or_false, false_or, if_true, if_false, not_true_eq_false, not_false_eq_true, eq_self, reduceIte, Int.reduceEq, Int.reduceLT, Int.reduceLE, Int.reduceNeg, Int.reduceAdd, Int.reduceSub, Int.reduceMul, Int.add_sub_cancel]); (try simp (disch := omega) only [w32_e, w64_e, td_pos, tm_pos, Int.add_sub_cancel]); first | assumption | omega) | exact ⟨rfl, hp, by decide, by decide⟩ | exact ⟨rfl, hp, by omega, by omega⟩ | ((try simp (disch := decide) only [cmp3_lt, cmp3_ge, cmp3_gt, cmp3_le, cmp3_eq, ms_q, ms_f, mf_q, mf_f, mc_q, mc_f, and_self, and_true, true_and, and_false, false_and, or_true, true_or, or_false, false_or, if_true, if_false, not_true_eq_false, not_false_eq_true, eq_self, reduceIte, Int.reduceEq, Int.reduceLT, Int.reduceLE, Int.reduceNeg, Int.reduceAdd, Int.reduceSub, Int.reduceMul, Int.add_sub_cancel]); (try simp (disch := omega) only [w32_e, w64_e, td_pos, tm_pos, Int.add_sub_cancel]); ((repeat' (first | assumption | omega | with_reducible rfl | apply And.intro)); done))) ?_; conv => whnf)
        | (intro v; intro hv; conv => whnf)
      all_goals first
        | (have hy : (M 13 0 29) - (M 13 0 30) = ((([108, 101, 110, 103, 116, 104] : List Int).length : Nat) : Int) ∧ isW (M 90 0) (M 13 0 30) [108, 101, 110, 103, 116, 104] = true := by
             have y := if_2 (by assumption : ¬ (if (M 13 0 29) - (M 13 0 30) = 6 ∧ isW (M 90 0) (M 13 0 30) (wl 6 108 101 110 103) = true then (1 : Int) else 0) = 0)
             exact ⟨y.1, (isW_4 (n := 6) (by decide)).mpr ⟨y.2, isW_2.mpr (by omega)⟩⟩
           have q : nmF (M 90 0) (M 13 0 30) (M 13 0 29) wdL = 14 := hk.trans (nm_y hy)
           rw [q] at hQ
           exact hQ)
        | (have hn : ¬ ((M 13 0 29) - (M 13 0 30) = ((([108, 101, 110, 103, 116, 104] : List Int).length : Nat) : Int) ∧ isW (M 90 0) (M 13 0 30) [108, 101, 110, 103, 116, 104] = true) := fun z => by
             have z2 := (isW_4 (n := 6) (by decide)).mp z.2
             have z3 := isW_2.mp z2.2
             first
               | exact if_1 (by assumption : (if (M 13 0 29) - (M 13 0 30) = 6 ∧ isW (M 90 0) (M 13 0 30) (wl 6 108 101 110 103) = true then (1 : Int) else 0) = 0) ⟨z.1, z2.1⟩
               | omega
           refine ⟨_, ?_, rfl, rfl, rfl, hk.trans (nm_n hn)⟩
           omega)
    · rintro n9 vs M9 ⟨rfl, rfl, rfl, hk⟩
      have w0 : ∀ x, 0 ≤ x → x ≤ 300 → w32 x = x := fun x a b => w32_e (by omega) (by omega)
      have hb4 : 0 ≤ 1 := by decide
      show wpH _ 400 _ 203 _ true 222 [vR 13 0] [] _ Q
      conv => whnf
      repeat' first
        | (refine And.intro (fun h => ?_) (fun h => ?_) <;> (try simp (disch := decide) only [cmp3_lt, cmp3_ge, cmp3_gt, cmp3_le, cmp3_eq, ms_q, ms_f, mf_q, mf_f, mc_q, mc_f, and_self, and_true, true_and, and_false, false_and, or_true, true_or, or_false, false_or, if_true, if_false, not_true_eq_false, not_false_eq_true, eq_self, reduceIte, Int.reduceEq, Int.reduceLT, Int.reduceLE, Int.reduceNeg, Int.reduceAdd, Int.reduceSub, Int.reduceMul, Int.add_sub_cancel] at h) <;> (try simp (disch := omega) only [w32_e, w64_e, td_pos, tm_pos, Int.add_sub_cancel] at h) <;> first | exact absurd rfl h | exact absurd h (by decide) | (exfalso; omega) | (conv => whnf))
        | (refine And.intro (by first | omega | ((try simp (disch := decide) only [cmp3_lt, cmp3_ge, cmp3_gt, cmp3_le, cmp3_eq, ms_q, ms_f, mf_q, mf_f, mc_q, mc_f, and_self, and_true, true_and, and_false, false_and, or_true, true_or, or_false, false_or, if_true, if_false, not_true_eq_false, not_false_eq_true, eq_self, reduceIte, Int.reduceEq, Int.reduceLT, Int.reduceLE, Int.reduceNeg, Int.reduceAdd, Int.reduceSub, Int.reduceMul, Int.add_sub_cancel]); (try simp (disch := omega) only [w32_e, w64_e, td_pos, tm_pos, Int.add_sub_cancel]); first | assumption | omega) | exact ⟨rfl, hp, by decide, by decide⟩ | exact ⟨rfl, hp, by omega, by omega⟩ | ((try simp (disch := decide) only [cmp3_lt, cmp3_ge, cmp3_gt, cmp3_le, cmp3_eq, ms_q, ms_f, mf_q, mf_f, mc_q, mc_f, and_self, and_true, true_and, and_false, false_and, or_true, true_or, or_false, false_or, if_true, if_false, not_true_eq_false, not_false_eq_true, eq_self, reduceIte, Int.reduceEq, Int.reduceLT, Int.reduceLE, Int.reduceNeg, Int.reduceAdd, Int.reduceSub, Int.reduceMul, Int.add_sub_cancel]); (try simp (disch := omega) only [w32_e, w64_e, td_pos, tm_pos, Int.add_sub_cancel]); ((repeat' (first | assumption | omega | with_reducible rfl | apply And.intro)); done))) ?_; conv => whnf)
        | (intro v; intro hv; conv => whnf)
      all_goals first
        | (have hy : (M 13 0 29) - (M 13 0 30) = ((([100, 97, 121] : List Int).length : Nat) : Int) ∧ isW (M 90 0) (M 13 0 30) [100, 97, 121] = true := if_2 (by assumption : ¬ (if (M 13 0 29) - (M 13 0 30) = 3 ∧ isW (M 90 0) (M 13 0 30) (wl 3 100 97 121 0) = true then (1 : Int) else 0) = 0)
           have q : nmF (M 90 0) (M 13 0 30) (M 13 0 29) wdL = 15 := hk.trans (nm_y hy)
           rw [q] at hQ
           exact hQ)
        | (have hn : ¬ ((M 13 0 29) - (M 13 0 30) = ((([100, 97, 121] : List Int).length : Nat) : Int) ∧ isW (M 90 0) (M 13 0 30) [100, 97, 121] = true) := if_1 (by assumption : (if (M 13 0 29) - (M 13 0 30) = 3 ∧ isW (M 90 0) (M 13 0 30) (wl 3 100 97 121 0) = true then (1 : Int) else 0) = 0)
           have q : nmF (M 90 0) (M 13 0 30) (M 13 0 29) wdL = 27 := hk.trans (nm_n hn)
           rw [q] at hQ
           exact hQ)
  refine Vd_in (by decide) ?_
  show Vx l ω 2 203 0 [vR 13 0] [] M Q
  refine key 500 0 _ rfl [vR 13 0] M ?_
  exact ⟨93, by decide, rfl, rfl, rfl, hk7⟩

def GLZ : List (Nat × Nat × Spec1) := (203, 2, sp_vnM) :: GLY
abbrev GGZ : Env1 := fun n => getG n GLZ
theorem GGZ_all {l : Launch} {ω : WP} : ∀ e ∈ GLZ, ∀ as M Q, e.2.2 as M Q → Vd l ω e.2.1 e.1 as M Q := List.forall_mem_cons.mpr ⟨ok_vnM, GGY_all⟩
theorem GGZ_ok {l : Launch} {ω : WP} : GOK l ω GGZ := getG_ok GLZ GGZ_all

def sp_nnM : Spec1 := fun as M Q => match as with
  | [.inr (.inr (.inl (q0, i0)))] => match Nat.beq q0 13 with
    | true => (i0 = 0 ∧ (0 ≤ (M 13 0 30) ∧ (M 13 0 30) ≤ (M 13 0 29) ∧ (M 13 0 29) ≤ (M 13 0 28) ∧ (M 13 0 28) ≤ 240)) ∧ Q (some (vI (vmM (nmF (M 90 0) (M 13 0 30) (M 13 0 29) wdL)))) M
    | false => False
  | _ => False
theorem ok_nnM {l : Launch} {ω : WP} : ∀ as M Q, sp_nnM as M Q → Vd l ω 3 202 as M Q := by
  intro as M Q h
  unfold sp_nnM at h
  split at h
  case h_2 => exact h.elim
  rename_i q0 i0 
  cases hb : Nat.beq q0 13 with
  | false => rw [hb] at h; exact h.elim
  | true =>
  rw [hb] at h
  obtain ⟨⟨hi, hp⟩, hQ⟩ := h
  have hb := beq_eq hb
  subst hb
  subst hi
  refine Vd.ok fun hok hal => ?_
  have key : ∀ n9, CutOK l ω 3 202 (cutL [(0, [0], fun kk vs M9 => vs = [vR 13 0] ∧ M = M9 ∧ kk = (100 : Nat) ∧ nmF (M 90 0) (M 13 0 30) (M 13 0 29) wdL = nmF (M 90 0) (M 13 0 30) (M 13 0 29) (wdL.drop 0)), (17, [0], fun kk vs M9 => vs = [vR 13 0] ∧ M = M9 ∧ kk = (99 : Nat) ∧ nmF (M 90 0) (M 13 0 30) (M 13 0 29) wdL = nmF (M 90 0) (M 13 0 30) (M 13 0 29) (wdL.drop 1)), (34, [0], fun kk vs M9 => vs = [vR 13 0] ∧ M = M9 ∧ kk = (98 : Nat) ∧ nmF (M 90 0) (M 13 0 30) (M 13 0 29) wdL = nmF (M 90 0) (M 13 0 30) (M 13 0 29) (wdL.drop 2)), (51, [0], fun kk vs M9 => vs = [vR 13 0] ∧ M = M9 ∧ kk = (97 : Nat) ∧ nmF (M 90 0) (M 13 0 30) (M 13 0 29) wdL = nmF (M 90 0) (M 13 0 30) (M 13 0 29) (wdL.drop 3)), (69, [0], fun kk vs M9 => vs = [vR 13 0] ∧ M = M9 ∧ kk = (96 : Nat) ∧ nmF (M 90 0) (M 13 0 30) (M 13 0 29) wdL = nmF (M 90 0) (M 13 0 30) (M 13 0 29) (wdL.drop 4)), (85, [0], fun kk vs M9 => vs = [vR 13 0] ∧ M = M9 ∧ kk = (95 : Nat) ∧ nmF (M 90 0) (M 13 0 30) (M 13 0 29) wdL = nmF (M 90 0) (M 13 0 30) (M 13 0 29) (wdL.drop 5)), (102, [0], fun kk vs M9 => vs = [vR 13 0] ∧ M = M9 ∧ kk = (94 : Nat) ∧ nmF (M 90 0) (M 13 0 30) (M 13 0 29) wdL = nmF (M 90 0) (M 13 0 30) (M 13 0 29) (wdL.drop 6))] n9) Q := by
    refine loops (GGZ_ok (l := l) (ω := ω)) 400 _ ?_
    refine List.forall_mem_cons.mpr ⟨?_, List.forall_mem_cons.mpr ⟨?_, List.forall_mem_cons.mpr ⟨?_, List.forall_mem_cons.mpr ⟨?_, List.forall_mem_cons.mpr ⟨?_, List.forall_mem_cons.mpr ⟨?_, List.forall_mem_cons.mpr ⟨?_, fun _ h => absurd h List.not_mem_nil⟩⟩⟩⟩⟩⟩⟩
    · rintro n9 vs M9 ⟨rfl, rfl, rfl, hk⟩
      have w0 : ∀ x, 0 ≤ x → x ≤ 300 → w32 x = x := fun x a b => w32_e (by omega) (by omega)
      have hb4 : 0 ≤ 1 := by decide
      show wpH _ 400 _ 202 _ true 0 [vR 13 0] [] _ Q
      conv => whnf
      repeat' first
        | (refine And.intro (fun h => ?_) (fun h => ?_) <;> (try simp (disch := decide) only [cmp3_lt, cmp3_ge, cmp3_gt, cmp3_le, cmp3_eq, ms_q, ms_f, mf_q, mf_f, mc_q, mc_f, and_self, and_true, true_and, and_false, false_and, or_true, true_or, or_false, false_or, if_true, if_false, not_true_eq_false, not_false_eq_true, eq_self, reduceIte, Int.reduceEq, Int.reduceLT, Int.reduceLE, Int.reduceNeg, Int.reduceAdd, Int.reduceSub, Int.reduceMul, Int.add_sub_cancel] at h) <;> (try simp (disch := omega) only [w32_e, w64_e, td_pos, tm_pos, Int.add_sub_cancel] at h) <;> first | exact absurd rfl h | exact absurd h (by decide) | (exfalso; omega) | (conv => whnf))
        | (refine And.intro (by first | omega | ((try simp (disch := decide) only [cmp3_lt, cmp3_ge, cmp3_gt, cmp3_le, cmp3_eq, ms_q, ms_f, mf_q, mf_f, mc_q, mc_f, and_self, and_true, true_and, and_false, false_and, or_true, true_or, or_false, false_or, if_true, if_false, not_true_eq_false, not_false_eq_true, eq_self, reduceIte, Int.reduceEq, Int.reduceLT, Int.reduceLE, Int.reduceNeg, Int.reduceAdd, Int.reduceSub, Int.reduceMul, Int.add_sub_cancel]); (try simp (disch := omega) only [w32_e, w64_e, td_pos, tm_pos, Int.add_sub_cancel]); first | assumption | omega) | exact ⟨rfl, hp, by decide, by decide⟩ | exact ⟨rfl, hp, by omega, by omega⟩ | exact ⟨rfl, hp, hn6 (by assumption)⟩ | ((try simp (disch := decide) only [cmp3_lt, cmp3_ge, cmp3_gt, cmp3_le, cmp3_eq, ms_q, ms_f, mf_q, mf_f, mc_q, mc_f, and_self, and_true, true_and, and_false, false_and, or_true, true_or, or_false, false_or, if_true, if_false, not_true_eq_false, not_false_eq_true, eq_self, reduceIte, Int.reduceEq, Int.reduceLT, Int.reduceLE, Int.reduceNeg, Int.reduceAdd, Int.reduceSub, Int.reduceMul, Int.add_sub_cancel]); (try simp (disch := omega) only [w32_e, w64_e, td_pos, tm_pos, Int.add_sub_cancel]); ((repeat' (first | assumption | omega | with_reducible rfl | apply And.intro)); done))) ?_; conv => whnf)
        | (intro v; intro hv; conv => whnf)
      all_goals first
        | (have hy : (M 13 0 29) - (M 13 0 30) = ((([98, 97, 114] : List Int).length : Nat) : Int) ∧ isW (M 90 0) (M 13 0 30) [98, 97, 114] = true := if_2 (by assumption : ¬ (if (M 13 0 29) - (M 13 0 30) = 3 ∧ isW (M 90 0) (M 13 0 30) (wl 3 98 97 114 0) = true then (1 : Int) else 0) = 0)
           have q : nmF (M 90 0) (M 13 0 30) (M 13 0 29) wdL = 0 := hk.trans (nm_y hy)
           rw [q] at hQ
           exact hQ)
        | (have hn : ¬ ((M 13 0 29) - (M 13 0 30) = ((([98, 97, 114] : List Int).length : Nat) : Int) ∧ isW (M 90 0) (M 13 0 30) [98, 97, 114] = true) := if_1 (by assumption : (if (M 13 0 29) - (M 13 0 30) = 3 ∧ isW (M 90 0) (M 13 0 30) (wl 3 98 97 114 0) = true then (1 : Int) else 0) = 0)
           refine ⟨_, ?_, rfl, rfl, rfl, hk.trans (nm_n hn)⟩
           omega)
    · rintro n9 vs M9 ⟨rfl, rfl, rfl, hk⟩
      have w0 : ∀ x, 0 ≤ x → x ≤ 300 → w32 x = x := fun x a b => w32_e (by omega) (by omega)
      have hb4 : 0 ≤ 1 := by decide
      show wpH _ 400 _ 202 _ true 17 [vR 13 0] [] _ Q
      conv => whnf
      repeat' first
        | (refine And.intro (fun h => ?_) (fun h => ?_) <;> (try simp (disch := decide) only [cmp3_lt, cmp3_ge, cmp3_gt, cmp3_le, cmp3_eq, ms_q, ms_f, mf_q, mf_f, mc_q, mc_f, and_self, and_true, true_and, and_false, false_and, or_true, true_or, or_false, false_or, if_true, if_false, not_true_eq_false, not_false_eq_true, eq_self, reduceIte, Int.reduceEq, Int.reduceLT, Int.reduceLE, Int.reduceNeg, Int.reduceAdd, Int.reduceSub, Int.reduceMul, Int.add_sub_cancel] at h) <;> (try simp (disch := omega) only [w32_e, w64_e, td_pos, tm_pos, Int.add_sub_cancel] at h) <;> first | exact absurd rfl h | exact absurd h (by decide) | (exfalso; omega) | (conv => whnf))
        | (refine And.intro (by first | omega | ((try simp (disch := decide) only [cmp3_lt, cmp3_ge, cmp3_gt, cmp3_le, cmp3_eq, ms_q, ms_f, mf_q, mf_f, mc_q, mc_f, and_self, and_true, true_and, and_false, false_and, or_true, true_or, or_false, false_or, if_true, if_false, not_true_eq_false, not_false_eq_true, eq_self, reduceIte, Int.reduceEq, Int.reduceLT, Int.reduceLE, Int.reduceNeg, Int.reduceAdd, Int.reduceSub, Int.reduceMul, Int.add_sub_cancel]); (try simp (disch := omega) only [w32_e, w64_e, td_pos, tm_pos, Int.add_sub_cancel]); first | assumption | omega) | exact ⟨rfl, hp, by decide, by decide⟩ | exact ⟨rfl, hp, by omega, by omega⟩ | exact ⟨rfl, hp, hn6 (by assumption)⟩ | ((try simp (disch := decide) only [cmp3_lt, cmp3_ge, cmp3_gt, cmp3_le, cmp3_eq, ms_q, ms_f, mf_q, mf_f, mc_q, mc_f, and_self, and_true, true_and, and_false, false_and, or_true, true_or, or_false, false_or, if_true, if_false, not_true_eq_false, not_false_eq_true, eq_self, reduceIte, Int.reduceEq, Int.reduceLT, Int.reduceLE, Int.reduceNeg, Int.reduceAdd, Int.reduceSub, Int.reduceMul, Int.add_sub_cancel]); (try simp (disch := omega) only [w32_e, w64_e, td_pos, tm_pos, Int.add_sub_cancel]); ((repeat' (first | assumption | omega | with_reducible rfl | apply And.intro)); done))) ?_; conv => whnf)
        | (intro v; intro hv; conv => whnf)
      all_goals first
        | (have hy : (M 13 0 29) - (M 13 0 30) = ((([112, 97, 121] : List Int).length : Nat) : Int) ∧ isW (M 90 0) (M 13 0 30) [112, 97, 121] = true := if_2 (by assumption : ¬ (if (M 13 0 29) - (M 13 0 30) = 3 ∧ isW (M 90 0) (M 13 0 30) (wl 3 112 97 121 0) = true then (1 : Int) else 0) = 0)
           have q : nmF (M 90 0) (M 13 0 30) (M 13 0 29) wdL = 1 := hk.trans (nm_y hy)
           rw [q] at hQ
           exact hQ)
        | (have hn : ¬ ((M 13 0 29) - (M 13 0 30) = ((([112, 97, 121] : List Int).length : Nat) : Int) ∧ isW (M 90 0) (M 13 0 30) [112, 97, 121] = true) := if_1 (by assumption : (if (M 13 0 29) - (M 13 0 30) = 3 ∧ isW (M 90 0) (M 13 0 30) (wl 3 112 97 121 0) = true then (1 : Int) else 0) = 0)
           refine ⟨_, ?_, rfl, rfl, rfl, hk.trans (nm_n hn)⟩
           omega)
    · rintro n9 vs M9 ⟨rfl, rfl, rfl, hk⟩
      have w0 : ∀ x, 0 ≤ x → x ≤ 300 → w32 x = x := fun x a b => w32_e (by omega) (by omega)
      have hb4 : 0 ≤ 1 := by decide
      show wpH _ 400 _ 202 _ true 34 [vR 13 0] [] _ Q
      conv => whnf
      repeat' first
        | (refine And.intro (fun h => ?_) (fun h => ?_) <;> (try simp (disch := decide) only [cmp3_lt, cmp3_ge, cmp3_gt, cmp3_le, cmp3_eq, ms_q, ms_f, mf_q, mf_f, mc_q, mc_f, and_self, and_true, true_and, and_false, false_and, or_true, true_or, or_false, false_or, if_true, if_false, not_true_eq_false, not_false_eq_true, eq_self, reduceIte, Int.reduceEq, Int.reduceLT, Int.reduceLE, Int.reduceNeg, Int.reduceAdd, Int.reduceSub, Int.reduceMul, Int.add_sub_cancel] at h) <;> (try simp (disch := omega) only [w32_e, w64_e, td_pos, tm_pos, Int.add_sub_cancel] at h) <;> first | exact absurd rfl h | exact absurd h (by decide) | (exfalso; omega) | (conv => whnf))
        | (refine And.intro (by first | omega | ((try simp (disch := decide) only [cmp3_lt, cmp3_ge, cmp3_gt, cmp3_le, cmp3_eq, ms_q, ms_f, mf_q, mf_f, mc_q, mc_f, and_self, and_true, true_and, and_false, false_and, or_true, true_or, or_false, false_or, if_true, if_false, not_true_eq_false, not_false_eq_true, eq_self, reduceIte, Int.reduceEq, Int.reduceLT, Int.reduceLE, Int.reduceNeg, Int.reduceAdd, Int.reduceSub, Int.reduceMul, Int.add_sub_cancel]); (try simp (disch := omega) only [w32_e, w64_e, td_pos, tm_pos, Int.add_sub_cancel]); first | assumption | omega) | exact ⟨rfl, hp, by decide, by decide⟩ | exact ⟨rfl, hp, by omega, by omega⟩ | exact ⟨rfl, hp, hn6 (by assumption)⟩ | ((try simp (disch := decide) only [cmp3_lt, cmp3_ge, cmp3_gt, cmp3_le, cmp3_eq, ms_q, ms_f, mf_q, mf_f, mc_q, mc_f, and_self, and_true, true_and, and_false, false_and, or_true, true_or, or_false, false_or, if_true, if_false, not_true_eq_false, not_false_eq_true, eq_self, reduceIte, Int.reduceEq, Int.reduceLT, Int.reduceLE, Int.reduceNeg, Int.reduceAdd, Int.reduceSub, Int.reduceMul, Int.add_sub_cancel]); (try simp (disch := omega) only [w32_e, w64_e, td_pos, tm_pos, Int.add_sub_cancel]); ((repeat' (first | assumption | omega | with_reducible rfl | apply And.intro)); done))) ?_; conv => whnf)
        | (intro v; intro hv; conv => whnf)
      all_goals first
        | (have hy : (M 13 0 29) - (M 13 0 30) = ((([97, 115, 107] : List Int).length : Nat) : Int) ∧ isW (M 90 0) (M 13 0 30) [97, 115, 107] = true := if_2 (by assumption : ¬ (if (M 13 0 29) - (M 13 0 30) = 3 ∧ isW (M 90 0) (M 13 0 30) (wl 3 97 115 107 0) = true then (1 : Int) else 0) = 0)
           have q : nmF (M 90 0) (M 13 0 30) (M 13 0 29) wdL = 2 := hk.trans (nm_y hy)
           rw [q] at hQ
           exact hQ)
        | (have hn : ¬ ((M 13 0 29) - (M 13 0 30) = ((([97, 115, 107] : List Int).length : Nat) : Int) ∧ isW (M 90 0) (M 13 0 30) [97, 115, 107] = true) := if_1 (by assumption : (if (M 13 0 29) - (M 13 0 30) = 3 ∧ isW (M 90 0) (M 13 0 30) (wl 3 97 115 107 0) = true then (1 : Int) else 0) = 0)
           refine ⟨_, ?_, rfl, rfl, rfl, hk.trans (nm_n hn)⟩
           omega)
    · rintro n9 vs M9 ⟨rfl, rfl, rfl, hk⟩
      have w0 : ∀ x, 0 ≤ x → x ≤ 300 → w32 x = x := fun x a b => w32_e (by omega) (by omega)
      have hb4 : 0 ≤ 1 := by decide
      show wpH _ 400 _ 202 _ true 51 [vR 13 0] [] _ Q
      conv => whnf
      repeat' first
        | (refine And.intro (fun h => ?_) (fun h => ?_) <;> (try simp (disch := decide) only [cmp3_lt, cmp3_ge, cmp3_gt, cmp3_le, cmp3_eq, ms_q, ms_f, mf_q, mf_f, mc_q, mc_f, and_self, and_true, true_and, and_false, false_and, or_true, true_or, or_false, false_or, if_true, if_false, not_true_eq_false, not_false_eq_true, eq_self, reduceIte, Int.reduceEq, Int.reduceLT, Int.reduceLE, Int.reduceNeg, Int.reduceAdd, Int.reduceSub, Int.reduceMul, Int.add_sub_cancel] at h) <;> (try simp (disch := omega) only [w32_e, w64_e, td_pos, tm_pos, Int.add_sub_cancel] at h) <;> first | exact absurd rfl h | exact absurd h (by decide) | (exfalso; omega) | (conv => whnf))
        | (refine And.intro (by first | omega | ((try simp (disch := decide) only [cmp3_lt, cmp3_ge, cmp3_gt, cmp3_le, cmp3_eq, ms_q, ms_f, mf_q, mf_f, mc_q, mc_f, and_self, and_true, true_and, and_false, false_and, or_true, true_or, or_false, false_or, if_true, if_false, not_true_eq_false, not_false_eq_true, eq_self, reduceIte, Int.reduceEq, Int.reduceLT, Int.reduceLE, Int.reduceNeg, Int.reduceAdd, Int.reduceSub, Int.reduceMul, Int.add_sub_cancel]); (try simp (disch := omega) only [w32_e, w64_e, td_pos, tm_pos, Int.add_sub_cancel]); first | assumption | omega) | exact ⟨rfl, hp, by decide, by decide⟩ | exact ⟨rfl, hp, by omega, by omega⟩ | exact ⟨rfl, hp, hn6 (by assumption)⟩ | ((try simp (disch := decide) only [cmp3_lt, cmp3_ge, cmp3_gt, cmp3_le, cmp3_eq, ms_q, ms_f, mf_q, mf_f, mc_q, mc_f, and_self, and_true, true_and, and_false, false_and, or_true, true_or, or_false, false_or, if_true, if_false, not_true_eq_false, not_false_eq_true, eq_self, reduceIte, Int.reduceEq, Int.reduceLT, Int.reduceLE, Int.reduceNeg, Int.reduceAdd, Int.reduceSub, Int.reduceMul, Int.add_sub_cancel]); (try simp (disch := omega) only [w32_e, w64_e, td_pos, tm_pos, Int.add_sub_cancel]); ((repeat' (first | assumption | omega | with_reducible rfl | apply And.intro)); done))) ?_; conv => whnf)
        | (intro v; intro hv; conv => whnf)
      all_goals first
        | (have hy : (M 13 0 29) - (M 13 0 30) = ((([98, 97, 99, 107] : List Int).length : Nat) : Int) ∧ isW (M 90 0) (M 13 0 30) [98, 97, 99, 107] = true := if_2 (by assumption : ¬ (if (M 13 0 29) - (M 13 0 30) = 4 ∧ isW (M 90 0) (M 13 0 30) (wl 4 98 97 99 107) = true then (1 : Int) else 0) = 0)
           have q : nmF (M 90 0) (M 13 0 30) (M 13 0 29) wdL = 3 := hk.trans (nm_y hy)
           rw [q] at hQ
           exact hQ)
        | (have hn : ¬ ((M 13 0 29) - (M 13 0 30) = ((([98, 97, 99, 107] : List Int).length : Nat) : Int) ∧ isW (M 90 0) (M 13 0 30) [98, 97, 99, 107] = true) := if_1 (by assumption : (if (M 13 0 29) - (M 13 0 30) = 4 ∧ isW (M 90 0) (M 13 0 30) (wl 4 98 97 99 107) = true then (1 : Int) else 0) = 0)
           refine ⟨_, ?_, rfl, rfl, rfl, hk.trans (nm_n hn)⟩
           omega)
    · rintro n9 vs M9 ⟨rfl, rfl, rfl, hk⟩
      have w0 : ∀ x, 0 ≤ x → x ≤ 300 → w32 x = x := fun x a b => w32_e (by omega) (by omega)
      have hb4 : 0 ≤ 1 := by decide
      show wpH _ 400 _ 202 _ true 69 [vR 13 0] [] _ Q
      conv => whnf
      repeat' first
        | (refine And.intro (fun h => ?_) (fun h => ?_) <;> (try simp (disch := decide) only [cmp3_lt, cmp3_ge, cmp3_gt, cmp3_le, cmp3_eq, ms_q, ms_f, mf_q, mf_f, mc_q, mc_f, and_self, and_true, true_and, and_false, false_and, or_true, true_or, or_false, false_or, if_true, if_false, not_true_eq_false, not_false_eq_true, eq_self, reduceIte, Int.reduceEq, Int.reduceLT, Int.reduceLE, Int.reduceNeg, Int.reduceAdd, Int.reduceSub, Int.reduceMul, Int.add_sub_cancel] at h) <;> (try simp (disch := omega) only [w32_e, w64_e, td_pos, tm_pos, Int.add_sub_cancel] at h) <;> first | exact absurd rfl h | exact absurd h (by decide) | (exfalso; omega) | (conv => whnf))
        | (refine And.intro (by first | omega | ((try simp (disch := decide) only [cmp3_lt, cmp3_ge, cmp3_gt, cmp3_le, cmp3_eq, ms_q, ms_f, mf_q, mf_f, mc_q, mc_f, and_self, and_true, true_and, and_false, false_and, or_true, true_or, or_false, false_or, if_true, if_false, not_true_eq_false, not_false_eq_true, eq_self, reduceIte, Int.reduceEq, Int.reduceLT, Int.reduceLE, Int.reduceNeg, Int.reduceAdd, Int.reduceSub, Int.reduceMul, Int.add_sub_cancel]); (try simp (disch := omega) only [w32_e, w64_e, td_pos, tm_pos, Int.add_sub_cancel]); first | assumption | omega) | exact ⟨rfl, hp, by decide, by decide⟩ | exact ⟨rfl, hp, by omega, by omega⟩ | exact ⟨rfl, hp, hn6 (by assumption)⟩ | ((try simp (disch := decide) only [cmp3_lt, cmp3_ge, cmp3_gt, cmp3_le, cmp3_eq, ms_q, ms_f, mf_q, mf_f, mc_q, mc_f, and_self, and_true, true_and, and_false, false_and, or_true, true_or, or_false, false_or, if_true, if_false, not_true_eq_false, not_false_eq_true, eq_self, reduceIte, Int.reduceEq, Int.reduceLT, Int.reduceLE, Int.reduceNeg, Int.reduceAdd, Int.reduceSub, Int.reduceMul, Int.add_sub_cancel]); (try simp (disch := omega) only [w32_e, w64_e, td_pos, tm_pos, Int.add_sub_cancel]); ((repeat' (first | assumption | omega | with_reducible rfl | apply And.intro)); done))) ?_; conv => whnf)
        | (intro v; intro hv; conv => whnf)
      all_goals first
        | (have hy : (M 13 0 29) - (M 13 0 30) = ((([111, 114] : List Int).length : Nat) : Int) ∧ isW (M 90 0) (M 13 0 30) [111, 114] = true := if_2 (by assumption : ¬ (if (M 13 0 29) - (M 13 0 30) = 2 ∧ isW (M 90 0) (M 13 0 30) (wl 2 111 114 0 0) = true then (1 : Int) else 0) = 0)
           have q : nmF (M 90 0) (M 13 0 30) (M 13 0 29) wdL = 4 := hk.trans (nm_y hy)
           rw [q] at hQ
           exact hQ)
        | (have hn : ¬ ((M 13 0 29) - (M 13 0 30) = ((([111, 114] : List Int).length : Nat) : Int) ∧ isW (M 90 0) (M 13 0 30) [111, 114] = true) := if_1 (by assumption : (if (M 13 0 29) - (M 13 0 30) = 2 ∧ isW (M 90 0) (M 13 0 30) (wl 2 111 114 0 0) = true then (1 : Int) else 0) = 0)
           refine ⟨_, ?_, rfl, rfl, rfl, hk.trans (nm_n hn)⟩
           omega)
    · rintro n9 vs M9 ⟨rfl, rfl, rfl, hk⟩
      have w0 : ∀ x, 0 ≤ x → x ≤ 300 → w32 x = x := fun x a b => w32_e (by omega) (by omega)
      have hb4 : 0 ≤ 1 := by decide
      show wpH _ 400 _ 202 _ true 85 [vR 13 0] [] _ Q
      conv => whnf
      repeat' first
        | (refine And.intro (fun h => ?_) (fun h => ?_) <;> (try simp (disch := decide) only [cmp3_lt, cmp3_ge, cmp3_gt, cmp3_le, cmp3_eq, ms_q, ms_f, mf_q, mf_f, mc_q, mc_f, and_self, and_true, true_and, and_false, false_and, or_true, true_or, or_false, false_or, if_true, if_false, not_true_eq_false, not_false_eq_true, eq_self, reduceIte, Int.reduceEq, Int.reduceLT, Int.reduceLE, Int.reduceNeg, Int.reduceAdd, Int.reduceSub, Int.reduceMul, Int.add_sub_cancel] at h) <;> (try simp (disch := omega) only [w32_e, w64_e, td_pos, tm_pos, Int.add_sub_cancel] at h) <;> first | exact absurd rfl h | exact absurd h (by decide) | (exfalso; omega) | (conv => whnf))
        | (refine And.intro (by first | omega | ((try simp (disch := decide) only [cmp3_lt, cmp3_ge, cmp3_gt, cmp3_le, cmp3_eq, ms_q, ms_f, mf_q, mf_f, mc_q, mc_f, and_self, and_true, true_and, and_false, false_and, or_true, true_or, or_false, false_or, if_true, if_false, not_true_eq_false, not_false_eq_true, eq_self, reduceIte, Int.reduceEq, Int.reduceLT, Int.reduceLE, Int.reduceNeg, Int.reduceAdd, Int.reduceSub, Int.reduceMul, Int.add_sub_cancel]); (try simp (disch := omega) only [w32_e, w64_e, td_pos, tm_pos, Int.add_sub_cancel]); first | assumption | omega) | exact ⟨rfl, hp, by decide, by decide⟩ | exact ⟨rfl, hp, by omega, by omega⟩ | exact ⟨rfl, hp, hn6 (by assumption)⟩ | ((try simp (disch := decide) only [cmp3_lt, cmp3_ge, cmp3_gt, cmp3_le, cmp3_eq, ms_q, ms_f, mf_q, mf_f, mc_q, mc_f, and_self, and_true, true_and, and_false, false_and, or_true, true_or, or_false, false_or, if_true, if_false, not_true_eq_false, not_false_eq_true, eq_self, reduceIte, Int.reduceEq, Int.reduceLT, Int.reduceLE, Int.reduceNeg, Int.reduceAdd, Int.reduceSub, Int.reduceMul, Int.add_sub_cancel]); (try simp (disch := omega) only [w32_e, w64_e, td_pos, tm_pos, Int.add_sub_cancel]); ((repeat' (first | assumption | omega | with_reducible rfl | apply And.intro)); done))) ?_; conv => whnf)
        | (intro v; intro hv; conv => whnf)
      all_goals first
        | (have hy : (M 13 0 29) - (M 13 0 30) = ((([97, 110, 100] : List Int).length : Nat) : Int) ∧ isW (M 90 0) (M 13 0 30) [97, 110, 100] = true := if_2 (by assumption : ¬ (if (M 13 0 29) - (M 13 0 30) = 3 ∧ isW (M 90 0) (M 13 0 30) (wl 3 97 110 100 0) = true then (1 : Int) else 0) = 0)
           have q : nmF (M 90 0) (M 13 0 30) (M 13 0 29) wdL = 5 := hk.trans (nm_y hy)
           rw [q] at hQ
           exact hQ)
        | (have hn : ¬ ((M 13 0 29) - (M 13 0 30) = ((([97, 110, 100] : List Int).length : Nat) : Int) ∧ isW (M 90 0) (M 13 0 30) [97, 110, 100] = true) := if_1 (by assumption : (if (M 13 0 29) - (M 13 0 30) = 3 ∧ isW (M 90 0) (M 13 0 30) (wl 3 97 110 100 0) = true then (1 : Int) else 0) = 0)
           refine ⟨_, ?_, rfl, rfl, rfl, hk.trans (nm_n hn)⟩
           omega)
    · rintro n9 vs M9 ⟨rfl, rfl, rfl, hk⟩
      have w0 : ∀ x, 0 ≤ x → x ≤ 300 → w32 x = x := fun x a b => w32_e (by omega) (by omega)
      have hb4 : 0 ≤ 1 := by decide
      have hn6 : (if (M 13 0 29) - (M 13 0 30) = 3 ∧ isW (M 90 0) (M 13 0 30) (wl 3 110 111 116 0) = true then (1 : Int) else 0) = 0 → nmF (M 90 0) (M 13 0 30) (M 13 0 29) wdL = nmF (M 90 0) (M 13 0 30) (M 13 0 29) (wdL.drop 7) := fun z => hk.trans (nm_n (if_1 z))
      show wpH _ 400 _ 202 _ true 102 [vR 13 0] [] _ Q
      conv => whnf
      repeat' first
        | (refine And.intro (fun h => ?_) (fun h => ?_) <;> (try simp (disch := decide) only [cmp3_lt, cmp3_ge, cmp3_gt, cmp3_le, cmp3_eq, ms_q, ms_f, mf_q, mf_f, mc_q, mc_f, and_self, and_true, true_and, and_false, false_and, or_true, true_or, or_false, false_or, if_true, if_false, not_true_eq_false, not_false_eq_true, eq_self, reduceIte, Int.reduceEq, Int.reduceLT, Int.reduceLE, Int.reduceNeg, Int.reduceAdd, Int.reduceSub, Int.reduceMul, Int.add_sub_cancel] at h) <;> (try simp (disch := omega) only [w32_e, w64_e, td_pos, tm_pos, Int.add_sub_cancel] at h) <;> first | exact absurd rfl h | exact absurd h (by decide) | (exfalso; omega) | (conv => whnf))
        | (refine And.intro (by first | omega | ((try simp (disch := decide) only [cmp3_lt, cmp3_ge, cmp3_gt, cmp3_le, cmp3_eq, ms_q, ms_f, mf_q, mf_f, mc_q, mc_f, and_self, and_true, true_and, and_false, false_and, or_true, true_or, or_false, false_or, if_true, if_false, not_true_eq_false, not_false_eq_true, eq_self, reduceIte, Int.reduceEq, Int.reduceLT, Int.reduceLE, Int.reduceNeg, Int.reduceAdd, Int.reduceSub, Int.reduceMul, Int.add_sub_cancel]); (try simp (disch := omega) only [w32_e, w64_e, td_pos, tm_pos, Int.add_sub_cancel]); first | assumption | omega) | exact ⟨rfl, hp, by decide, by decide⟩ | exact ⟨rfl, hp, by omega, by omega⟩ | exact ⟨rfl, hp, hn6 (by assumption)⟩ | ((try simp (disch := decide) only [cmp3_lt, cmp3_ge, cmp3_gt, cmp3_le, cmp3_eq, ms_q, ms_f, mf_q, mf_f, mc_q, mc_f, and_self, and_true, true_and, and_false, false_and, or_true, true_or, or_false, false_or, if_true, if_false, not_true_eq_false, not_false_eq_true, eq_self, reduceIte, Int.reduceEq, Int.reduceLT, Int.reduceLE, Int.reduceNeg, Int.reduceAdd, Int.reduceSub, Int.reduceMul, Int.add_sub_cancel]); (try simp (disch := omega) only [w32_e, w64_e, td_pos, tm_pos, Int.add_sub_cancel]); ((repeat' (first | assumption | omega | with_reducible rfl | apply And.intro)); done))) ?_; conv => whnf)
        | (intro v; intro hv; conv => whnf)
      all_goals first
        | (have hy : (M 13 0 29) - (M 13 0 30) = ((([110, 111, 116] : List Int).length : Nat) : Int) ∧ isW (M 90 0) (M 13 0 30) [110, 111, 116] = true := if_2 (by assumption : ¬ (if (M 13 0 29) - (M 13 0 30) = 3 ∧ isW (M 90 0) (M 13 0 30) (wl 3 110 111 116 0) = true then (1 : Int) else 0) = 0)
           have q : nmF (M 90 0) (M 13 0 30) (M 13 0 29) wdL = 6 := hk.trans (nm_y hy)
           rw [q] at hQ
           exact hQ)
        | (have hn : ¬ ((M 13 0 29) - (M 13 0 30) = ((([110, 111, 116] : List Int).length : Nat) : Int) ∧ isW (M 90 0) (M 13 0 30) [110, 111, 116] = true) := if_1 (by assumption : (if (M 13 0 29) - (M 13 0 30) = 3 ∧ isW (M 90 0) (M 13 0 30) (wl 3 110 111 116 0) = true then (1 : Int) else 0) = 0)
           exact hQ)
  refine Vd_in (by decide) ?_
  show Vx l ω 3 202 0 [vR 13 0] [] M Q
  refine key 500 0 _ rfl [vR 13 0] M ?_
  exact ⟨100, by decide, rfl, rfl, rfl, rfl⟩
