/-! ===== grades, the class: solve (wip/gen/p52.py) ===== -/
theorem mul_bd {x y : Int} (hx : -23520000 ≤ x ∧ x ≤ 23520000) (hy : -2234400000 ≤ y ∧ y ≤ 2234400000) : -1000000000000000000 ≤ x * y ∧ x * y ≤ 1000000000000000000 := by
  have hn : (x * y).natAbs ≤ 23520000 * 2234400000 := by
    rw [Int.natAbs_mul]
    exact Nat.mul_le_mul (by omega) (by omega)
  omega

def sp_solC : Spec1 := fun as M Q => match as with
  | [.inr (.inr (.inl (q0, i0)))] => match Nat.beq q0 12 with
    | true => (i0 = 0 ∧ IHrs M ∧ AB (M 61 0) (M 62 0) (M 12 0 0)) ∧ ∀ M9, ((∀ p, p ≠ 12 → p ≠ 64 → p ≠ 65 → p ≠ 67 → p ≠ 68 → M9 p = M p) ∧ (∀ j, j ≠ 6 → j ≠ 9 → M9 12 0 j = M 12 0 j) ∧ M9 64 0 = (lbC (M 61 0) (M 62 0) (M 12 0 0) (zF (M 64 0) 14)) ∧ SolC (M 61 0) (M 62 0) (M 63 0) (lbC (M 61 0) (M 62 0) (M 12 0 0) (zF (M 64 0) 14)) (M9 68 0) (M 12 0 0) (M9 12 0 9)) → Q none M9
    | false => False
  | _ => False
theorem ok_solC {l : Launch} {ω : WP} : ∀ as M Q, sp_solC as M Q → Vd l ω 3 12 as M Q := by
  intro as M Q h
  unfold sp_solC at h
  split at h
  case h_2 => exact h.elim
  rename_i q0 i0 
  cases hb : Nat.beq q0 12 with
  | false => rw [hb] at h; exact h.elim
  | true =>
  rw [hb] at h
  obtain ⟨⟨hi, hH, hab⟩, hQ⟩ := h
  have hb := beq_eq hb
  subst hb
  subst hi
  refine Vd.ok fun hok hal => ?_
  have n14 := hab.1
  have ht : ∀ e, 0 ≤ e → e < M 12 0 0 → 1 ≤ M 63 0 e ∧ M 63 0 e ≤ 95 := fun e e0 e1 => (hH.2.2 e e0 e1).2.2.2
  obtain ⟨col, hcol⟩ : ∃ col : Int → Int, col = (cmN (prC (lbC (M 61 0) (M 62 0) (M 12 0 0) (zF (M 64 0) 14))) (M 65 0) 14).1 := ⟨_, rfl⟩
  obtain ⟨nn, hnn⟩ : ∃ nn : Int, nn = (cmN (prC (lbC (M 61 0) (M 62 0) (M 12 0 0) (zF (M 64 0) 14))) (M 65 0) 14).2 := ⟨_, rfl⟩
  obtain ⟨n13, hcl, hin, hpr, n, R, A, en, hT⟩ := solve_R (t := M 63 0) hab zF_14 ht hcol hnn
  subst en
  have ⟨t0, tA0, tA, tP, tK, tE, tB, tS⟩ := hT
  have key : ∀ n9, CutOK l ω 3 12 (cutL [(19, [0, 1], fun kk vs M9 => ∃ k : Int, vs = [vR 12 0, vI k] ∧ kk = (5000 - k).toNat ∧ (0 ≤ k ∧ k ≤ (n : Int)) ∧ (∀ p, p ≠ 12 → p ≠ 64 → p ≠ 65 → p ≠ 67 → M9 p = M p) ∧ (∀ j, j ≠ 6 → j ≠ 9 → M9 12 0 j = M 12 0 j) ∧ M9 12 0 6 = (n : Int) ∧ M9 64 0 = (lbC (M 61 0) (M 62 0) (M 12 0 0) (zF (M 64 0) 14)) ∧ M9 65 0 = col ∧ M9 12 0 9 = A k ∧ (∀ i j, 0 ≤ i → i < (n : Int) → 0 ≤ j → j ≤ (n : Int) → M9 67 i j = R k i j)), (40, [0, 1], fun kk vs M9 => ∃ k : Int, vs = [vR 12 0, vI k] ∧ kk = (1000 - k).toNat ∧ (0 ≤ k ∧ k ≤ 14) ∧ (∀ p, p ≠ 12 → p ≠ 64 → p ≠ 65 → p ≠ 67 → p ≠ 68 → M9 p = M p) ∧ (∀ j, j ≠ 6 → j ≠ 9 → M9 12 0 j = M 12 0 j) ∧ M9 12 0 6 = (n : Int) ∧ M9 64 0 = (lbC (M 61 0) (M 62 0) (M 12 0 0) (zF (M 64 0) 14)) ∧ M9 65 0 = col ∧ M9 12 0 9 = A (n : Int) ∧ (∀ i j, 0 ≤ i → i < (n : Int) → 0 ≤ j → j ≤ (n : Int) → M9 67 i j = R (n : Int) i j) ∧ (∀ x, 0 ≤ x → x < k → M9 68 0 x = if col x = -4 then 0 else R (n : Int) (col x) (n : Int)))] n9) Q := by
    refine loops (GGP_ok (l := l) (ω := ω)) 600 _ ?_
    refine List.forall_mem_cons.mpr ⟨?_, List.forall_mem_cons.mpr ⟨?_, fun _ h => absurd h List.not_mem_nil⟩⟩
    · rintro n9 vs M9 ⟨k, rfl, rfl, k0, fr, fj, hn6, h64, h65, h9, h67⟩
      have ek : w32 (k + 1) = k + 1 := w32_e (by omega) (by omega)
      have a9 := tA k k0.1 k0.2
      have hpre : k < (n : Int) → (0 ≤ k ∧ k < M9 12 0 6) ∧ (0 ≤ M9 12 0 6 ∧ M9 12 0 6 ≤ 13) ∧ 1 ≤ M9 12 0 9 ∧ (∀ i j, 0 ≤ i → i < M9 12 0 6 → ¬ i = k → 0 ≤ j → j ≤ M9 12 0 6 → (-1000000000000000000 ≤ M9 67 k k * M9 67 i j ∧ M9 67 k k * M9 67 i j ≤ 1000000000000000000) ∧ (-1000000000000000000 ≤ M9 67 i k * M9 67 k j ∧ M9 67 i k * M9 67 k j ≤ 1000000000000000000)) := fun kn => by
        rw [hn6, h9]
        refine ⟨⟨k0.1, kn⟩, n13, a9.1, fun i j i0 i1 ne j0 j1 => ?_⟩
        rw [h67 k k k0.1 kn k0.1 (by omega), h67 i j i0 i1 j0 j1, h67 i k i0 i1 k0.1 (by omega), h67 k j k0.1 kn j0 j1]
        have b1 := (tB k k k k0.1 k0.2 k0.1 kn k0.1 (by omega)).1 kn
        have b2 := (tB k i j k0.1 k0.2 i0 i1 j0 j1).2
        have b3 := (tB k i k k0.1 k0.2 i0 i1 k0.1 (by omega)).1 kn
        have b4 := (tB k k j k0.1 k0.2 k0.1 kn j0 j1).2
        exact ⟨mul_bd b1 b2, mul_bd b3 b4⟩
      show wpH _ 600 _ 12 _ true 19 [vR 12 0, vI k] [] _ Q
      conv => whnf
      repeat' first
        | (refine And.intro (fun h => ?_) (fun h => ?_) <;> (try simp (disch := decide) only [cmp3_lt, cmp3_ge, cmp3_gt, cmp3_le, cmp3_eq, ms_q, ms_f, mf_q, mf_f, mc_q, mc_f, and_self, and_true, true_and, and_false, false_and, or_true, true_or, or_false, false_or, if_true, if_false, not_true_eq_false, not_false_eq_true, eq_self, reduceIte, Int.reduceEq, Int.reduceLT, Int.reduceLE, Int.reduceNeg, Int.reduceAdd, Int.reduceSub, Int.reduceMul, Int.add_sub_cancel] at h) <;> (try simp (disch := omega) only [w32_e, w64_e, td_pos, tm_pos, Int.add_sub_cancel, hn6, h65] at h) <;> first | exact absurd rfl h | exact absurd h (by decide) | (exfalso; omega) | (conv => whnf))
        | (refine And.intro (by first | omega | ((try simp (disch := decide) only [cmp3_lt, cmp3_ge, cmp3_gt, cmp3_le, cmp3_eq, ms_q, ms_f, mf_q, mf_f, mc_q, mc_f, and_self, and_true, true_and, and_false, false_and, or_true, true_or, or_false, false_or, if_true, if_false, not_true_eq_false, not_false_eq_true, eq_self, reduceIte, Int.reduceEq, Int.reduceLT, Int.reduceLE, Int.reduceNeg, Int.reduceAdd, Int.reduceSub, Int.reduceMul, Int.add_sub_cancel]); (try simp (disch := omega) only [w32_e, w64_e, td_pos, tm_pos, Int.add_sub_cancel, hn6, h65]); first | assumption | omega) | exact ⟨rfl, hpre (by omega)⟩ | ((try simp (disch := decide) only [cmp3_lt, cmp3_ge, cmp3_gt, cmp3_le, cmp3_eq, ms_q, ms_f, mf_q, mf_f, mc_q, mc_f, and_self, and_true, true_and, and_false, false_and, or_true, true_or, or_false, false_or, if_true, if_false, not_true_eq_false, not_false_eq_true, eq_self, reduceIte, Int.reduceEq, Int.reduceLT, Int.reduceLE, Int.reduceNeg, Int.reduceAdd, Int.reduceSub, Int.reduceMul, Int.add_sub_cancel]); (try simp (disch := omega) only [w32_e, w64_e, td_pos, tm_pos, Int.add_sub_cancel, hn6, h65]); ((repeat' (first | assumption | omega | with_reducible rfl | apply And.intro)); done))) ?_; conv => whnf)
        | (intro v; intro hv; conv => whnf)
      all_goals first
        | (have e9 : k = (n : Int) := by omega
           rw [e9] at h9 h67
           refine ⟨_, ?_, 0, rfl, rfl, ⟨Int.le_refl _, by decide⟩, fun p a b c d e => fr p a b c d, fj, hn6, h64, h65, h9, h67, fun x a b => absurd b (by omega)⟩
           omega)
        | (have kn : k < (n : Int) := by omega
           obtain ⟨f1, f2, f3, f4, f5⟩ := hv
           refine ⟨_, ?_, k + 1, by rw [ek], rfl, ⟨by omega, by omega⟩, fun p a b c d => (f1 p d a).trans (fr p a b c d), fun j a b => (f2 j b).trans (fj j a b), ?_, ?_, ?_, ?_, fun i j i0 i1 j0 j1 => ?_⟩
           · omega
           · rw [f2 6 (by decide)]; exact hn6
           · rw [f1 64 (by decide) (by decide)]; exact h64
           · rw [f1 65 (by decide) (by decide)]; exact h65
           · rw [f3, h67 k k k0.1 kn k0.1 (by omega)]; exact tP k k0.1 kn
           · by_cases q : i = k
             · rw [q, f4, h67 k j k0.1 kn j0 j1]
               exact (tK k j k0.1 kn j0).symm
             · rw [f5 i j i0 (by rw [hn6]; exact i1) q j0 (by rw [hn6]; exact j1), h67 k k k0.1 kn k0.1 (by omega), h67 i j i0 i1 j0 j1, h67 i k i0 i1 k0.1 (by omega), h67 k j k0.1 kn j0 j1, h9]
               exact tE k i j k0.1 kn i0 i1 q j0)
    · rintro n9 vs M9 ⟨k, rfl, rfl, k0, fr, fj, hn6, h64, h65, h9, h67, h68⟩
      have ek : w32 (k + 1) = k + 1 := w32_e (by omega) (by omega)
      have ck : k < 14 → (col k = -4 ∨ (0 ≤ col k ∧ col k < (n : Int))) := fun z => hcl k k0.1 z
      show wpH _ 600 _ 12 _ true 40 [vR 12 0, vI k] [] _ Q
      conv => whnf
      repeat' first
        | (refine And.intro (fun h => ?_) (fun h => ?_) <;> (try simp (disch := decide) only [cmp3_lt, cmp3_ge, cmp3_gt, cmp3_le, cmp3_eq, ms_q, ms_f, mf_q, mf_f, mc_q, mc_f, and_self, and_true, true_and, and_false, false_and, or_true, true_or, or_false, false_or, if_true, if_false, not_true_eq_false, not_false_eq_true, eq_self, reduceIte, Int.reduceEq, Int.reduceLT, Int.reduceLE, Int.reduceNeg, Int.reduceAdd, Int.reduceSub, Int.reduceMul, Int.add_sub_cancel] at h) <;> (try simp (disch := omega) only [w32_e, w64_e, td_pos, tm_pos, Int.add_sub_cancel, hn6, h65] at h) <;> first | exact absurd rfl h | exact absurd h (by decide) | (exfalso; omega) | (conv => whnf))
        | (refine And.intro (by first | omega | ((try simp (disch := decide) only [cmp3_lt, cmp3_ge, cmp3_gt, cmp3_le, cmp3_eq, ms_q, ms_f, mf_q, mf_f, mc_q, mc_f, and_self, and_true, true_and, and_false, false_and, or_true, true_or, or_false, false_or, if_true, if_false, not_true_eq_false, not_false_eq_true, eq_self, reduceIte, Int.reduceEq, Int.reduceLT, Int.reduceLE, Int.reduceNeg, Int.reduceAdd, Int.reduceSub, Int.reduceMul, Int.add_sub_cancel]); (try simp (disch := omega) only [w32_e, w64_e, td_pos, tm_pos, Int.add_sub_cancel, hn6, h65]); first | assumption | omega) | exact ⟨rfl, hpre (by omega)⟩ | ((try simp (disch := decide) only [cmp3_lt, cmp3_ge, cmp3_gt, cmp3_le, cmp3_eq, ms_q, ms_f, mf_q, mf_f, mc_q, mc_f, and_self, and_true, true_and, and_false, false_and, or_true, true_or, or_false, false_or, if_true, if_false, not_true_eq_false, not_false_eq_true, eq_self, reduceIte, Int.reduceEq, Int.reduceLT, Int.reduceLE, Int.reduceNeg, Int.reduceAdd, Int.reduceSub, Int.reduceMul, Int.add_sub_cancel]); (try simp (disch := omega) only [w32_e, w64_e, td_pos, tm_pos, Int.add_sub_cancel, hn6, h65]); ((repeat' (first | assumption | omega | with_reducible rfl | apply And.intro)); done))) ?_; conv => whnf)
        | (intro v; intro hv; conv => whnf)
      all_goals first
        | (have e9 : k = 14 := by omega
           rw [e9] at h68
           refine hQ M9 ⟨fr, fj, h64, ?_⟩
           rw [h9]
           exact sol_C hT hcl hpr h68)
        | (have e9 : col k = -4 := by assumption
           refine ⟨_, ?_, k + 1, by rw [ek], rfl, ⟨by omega, by omega⟩, fun p a b c d e => by rw [ms_q e]; exact fr p a b c d e, fun j a b => by rw [ms_q (by decide)]; exact fj j a b, by rw [ms_q (by decide)]; exact hn6, by rw [ms_q (by decide)]; exact h64, by rw [ms_q (by decide)]; exact h65, by rw [ms_q (by decide)]; exact h9, by rw [ms_q (by decide)]; exact h67, fun x a b => ?_⟩
           · omega
           · rw [ms_f]
             by_cases q : x = k
             · rw [if_pos ⟨rfl, q⟩, q, if_pos e9]
             · rw [if_neg (fun z => q z.2)]
               exact h68 x a (by omega))
        | (have e9 : ¬ col k = -4 := by assumption
           have c9 := (ck (by omega)).resolve_left e9
           refine ⟨_, ?_, k + 1, by rw [ek], rfl, ⟨by omega, by omega⟩, fun p a b c d e => by rw [ms_q e]; exact fr p a b c d e, fun j a b => by rw [ms_q (by decide)]; exact fj j a b, by rw [ms_q (by decide)]; exact hn6, by rw [ms_q (by decide)]; exact h64, by rw [ms_q (by decide)]; exact h65, by rw [ms_q (by decide)]; exact h9, by rw [ms_q (by decide)]; exact h67, fun x a b => ?_⟩
           · omega
           · rw [ms_f]
             by_cases q : x = k
             · rw [if_pos ⟨rfl, q⟩, q, if_neg e9, h65, hn6]
               exact h67 (col k) n c9.1 c9.2 (by omega) (Int.le_refl _)
             · rw [if_neg (fun z => q z.2)]
               exact h68 x a (by omega))
  refine Vd_run (GGP_ok (l := l) (ω := ω)) 600 (hC := key 20000) (by decide) ?_
  conv => whnf
  refine And.intro ⟨rfl, hH, hab, n14⟩ ?_
  intro M1 h1
  obtain ⟨f1, h1⟩ := h1
  have e12 : M1 12 = M 12 := f1 12 (by decide)
  conv => whnf
  refine And.intro ⟨rfl, by rw [e12]; exact n14⟩ ?_
  intro M2 h2
  obtain ⟨f2, j2, c2, n2⟩ := h2
  rw [h1, f1 65 (by decide)] at c2 n2
  rw [← hcol] at c2
  rw [← hnn] at n2
  have g61 : M2 61 = M 61 := (f2 61 (by decide) (by decide)).trans (f1 61 (by decide))
  have g62 : M2 62 = M 62 := (f2 62 (by decide) (by decide)).trans (f1 62 (by decide))
  have g63 : M2 63 = M 63 := (f2 63 (by decide) (by decide)).trans (f1 63 (by decide))
  have g0 : M2 12 0 0 = M 12 0 0 := by rw [j2 0 (by decide), e12]
  conv => whnf
  refine And.intro ⟨rfl, by rw [g61, g62, g0]; exact hab, by rw [g63, g0]; exact ht, by rw [n2]; exact n13, by rw [n2, c2]; exact hcl, by rw [c2]; exact hin⟩ ?_
  intro M3 h3
  obtain ⟨f3, r3⟩ := h3
  rw [g61, g62, g63, g0, n2, c2] at r3
  conv => whnf
  refine ⟨_, ?_, 0, rfl, rfl, ⟨Int.le_refl _, by omega⟩, fun p a b c d => ?_, fun j a b => ?_, ?_, ?_, ?_, ?_, fun i j i0 i1 j0 j1 => ?_⟩
  · omega
  · rw [ms_q a]
    exact (f3 p d).trans ((f2 p a c).trans (f1 p b))
  · rw [ms_f, if_neg (fun z => b z.2), f3 12 (by decide), j2 j a, e12]
  · rw [ms_f, if_neg (fun z => absurd z.2 (by decide)), f3 12 (by decide), n2]
  · rw [ms_q (by decide), f3 64 (by decide), f2 64 (by decide) (by decide), h1]
  · rw [ms_q (by decide), f3 65 (by decide), c2]
  · rw [ms_f, if_pos ⟨rfl, rfl⟩]
    exact tA0.symm
  · rw [ms_q (by decide), r3 i j i0 i1 j0 j1, t0 i j i0 i1 j0 j1]
    simp only [Int.toNat_natCast]
