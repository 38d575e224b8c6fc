/-! ===== grades, the model: findGrade (wip/gen/p54.py) ===== -/
def GLQ : List (Nat × Nat × Spec1) := (12, 3, sp_solC) :: (251, 1, sp_roo) :: (253, 1, sp_loM) :: (252, 1, sp_adsM) :: GLP
abbrev GGQ : Env1 := fun n => getG n GLQ
theorem GGQ_all {l : Launch} {ω : WP} : ∀ e ∈ GLQ, ∀ as M Q, e.2.2 as M Q → Vd l ω e.2.1 e.1 as M Q := List.forall_mem_cons.mpr ⟨ok_solC, List.forall_mem_cons.mpr ⟨ok_roo, List.forall_mem_cons.mpr ⟨ok_loM, List.forall_mem_cons.mpr ⟨ok_adsM, GGP_all⟩⟩⟩⟩
theorem GGQ_ok {l : Launch} {ω : WP} : GOK l ω GGQ := getG_ok GLQ GGQ_all

theorem ai_two {a b col : Int → Int} {e r x : Int} (r0 : 0 ≤ r) (x0 : 0 ≤ x) (ez : ((e.toNat : Nat) : Int) = e) (h1 : col (a e) = -4 ∨ (0 ≤ col (a e) ∧ col (a e) < 14)) (h2 : col (b e) = -4 ∨ (0 ≤ col (b e) ∧ col (b e) < 14)) (h3 : 0 ≤ col (a e) → ¬ col (a e) = col (b e)) : (if r = col (a e) ∧ (x = col (a e) ∨ x = col (b e)) then (1 : Int) else 0) + (if r = col (b e) ∧ (x = col (b e) ∨ x = col (a e)) then 1 else 0) = aiE a b col e.toNat r.toNat * aiE a b col e.toNat x.toNat := by
  unfold aiE
  rw [ez, Int.toNat_of_nonneg r0, Int.toNat_of_nonneg x0]
  generalize col (a e) = u at *
  generalize col (b e) = v at *
  have g1 : (if u = r ∨ v = r then (1 : Int) else 0) = if r = u ∨ r = v then 1 else 0 := by
    by_cases c : r = u ∨ r = v
    · rw [if_pos c, if_pos (by omega)]
    · rw [if_neg c, if_neg (by omega)]
  have g2 : (if u = x ∨ v = x then (1 : Int) else 0) = if x = u ∨ x = v then 1 else 0 := by
    by_cases c : x = u ∨ x = v
    · rw [if_pos c, if_pos (by omega)]
    · rw [if_neg c, if_neg (by omega)]
  rw [g1, g2]
  by_cases c : x = u ∨ x = v
  · rw [if_pos c, Int.mul_one]
    by_cases d : r = u
    · rw [if_pos ⟨d, c⟩, if_neg (by omega), if_pos (Or.inl d)]
      rfl
    · by_cases d2 : r = v
      · rw [if_neg (fun z => d z.1), if_pos ⟨d2, c.symm⟩, if_pos (Or.inr d2)]
        rfl
      · rw [if_neg (fun z => d z.1), if_neg (fun z => d2 z.1), if_neg (fun z => z.elim d d2)]
        rfl
  · rw [if_neg c, Int.mul_zero, if_neg (fun z => c z.2), if_neg (fun z => c z.2.symm)]
    rfl
theorem ai_one {a b col : Int → Int} {e r t : Int} (r0 : 0 ≤ r) (ez : ((e.toNat : Nat) : Int) = e) (h1 : col (a e) = -4 ∨ (0 ≤ col (a e) ∧ col (a e) < 14)) (h2 : col (b e) = -4 ∨ (0 ≤ col (b e) ∧ col (b e) < 14)) (h3 : 0 ≤ col (a e) → ¬ col (a e) = col (b e)) : (if r = col (a e) then t else 0) + (if r = col (b e) then t else 0) = aiE a b col e.toNat r.toNat * t := by
  unfold aiE
  rw [ez, Int.toNat_of_nonneg r0]
  generalize col (a e) = u at *
  generalize col (b e) = v at *
  by_cases d : r = u
  · rw [if_pos d, if_neg (by omega), if_pos (by omega)]
    omega
  · by_cases d2 : r = v
    · rw [if_neg d, if_pos d2, if_pos (by omega)]
      omega
    · rw [if_neg d, if_neg d2, if_neg (by omega)]
      omega

def sp_fgM : Spec1 := fun as M Q => match as with
  | [.inr (.inr (.inl (q0, i0))), .inl k] => match Nat.beq q0 13 with
    | true => (i0 = 0 ∧ (0 ≤ k ∧ k < 14) ∧ IHrs M ∧ AB (M 61 0) (M 62 0) (M 12 0 0) ∧ En (M 61 0) (M 62 0) (M 12 0 0) k ∧ ∃ Z : Int → Int, (∀ k, 0 ≤ k → k < 14 → Z k = -4) ∧ SolC (M 61 0) (M 62 0) (M 63 0) (lbC (M 61 0) (M 62 0) (M 12 0 0) Z) (M 68 0) (M 12 0 0) (M 12 0 9)) ∧ ∀ M9, ((∀ p, p ≠ 13 → p ≠ 126 → p ≠ 127 → p ≠ 128 → p ≠ 129 → M9 p = M p) ∧ (∀ j, j ≠ 81 → j ≠ 82 → M9 13 0 j = M 13 0 j) ∧ M9 13 0 81 = (M 68 0 k).tdiv ((Int.gcd (M 68 0 k) (M 12 0 9) : Nat) : Int) ∧ M9 13 0 82 = (M 12 0 9).tdiv ((Int.gcd (M 68 0 k) (M 12 0 9) : Nat) : Int)) → Q none M9
    | false => False
  | _ => False
theorem ok_fgM {l : Launch} {ω : WP} : ∀ as M Q, sp_fgM as M Q → Vd l ω 4 254 as M Q := by
  intro as M Q h
  unfold sp_fgM at h
  split at h
  case h_2 => exact h.elim
  rename_i q0 i0 k
  cases hb : Nat.beq q0 13 with
  | false => rw [hb] at h; exact h.elim
  | true =>
  rw [hb] at h
  obtain ⟨⟨hi, hk, hH, hab, hen, ⟨Z, hZ, S⟩⟩, hQ⟩ := h
  have hb := beq_eq hb
  subst hb
  subst hi
  refine Vd.ok fun hok hal => ?_
  have n14 := hab.1
  have ht : ∀ e, 0 ≤ e → e < M 12 0 0 → 1 ≤ M 63 0 e ∧ M 63 0 e ≤ 95 := fun e e0 e1 => (hH.2.2 e e0 e1).2.2.2
  obtain ⟨p, hp⟩ : ∃ p : Int, lbC (M 61 0) (M 62 0) (M 12 0 0) Z k = p := ⟨_, rfl⟩
  obtain ⟨col, hcol⟩ : ∃ col : Int → Int, col = (cmN (prM (lbM (M 61 0) (M 62 0) (M 12 0 0) (zF (M 126 0) 14)) ((lbM (M 61 0) (M 62 0) (M 12 0 0) (zF (M 126 0) 14)) k) p) (M 129 0) 14).1 := ⟨_, rfl⟩
  obtain ⟨nn, hnn⟩ : ∃ nn : Int, nn = (cmN (prM (lbM (M 61 0) (M 62 0) (M 12 0 0) (zF (M 126 0) 14)) ((lbM (M 61 0) (M 62 0) (M 12 0 0) (zF (M 126 0) 14)) k) p) (M 129 0) 14).2 := ⟨_, rfl⟩
  obtain ⟨⟨hp6, hpd, hpm⟩, hsame, n13, hcl, hin, hpr, n, R, A, en', hT⟩ := root_R (t := M 63 0) hab hZ zF_14 hk.1 hk.2 hen hp ht hcol hnn
  subst en'
  have ⟨t0, tA0, tA, tP, tK, tE, tB, tS⟩ := hT
  obtain ⟨G, hG⟩ : ∃ G : Int → Int, ∀ j, 0 ≤ j → j < 14 → G j = if col j = -4 then 0 else R (n : Int) (col j) (n : Int) := ⟨fun j => if col j = -4 then 0 else R (n : Int) (col j) (n : Int), fun _ _ _ => rfl⟩
  have lbk : lbC (M 61 0) (M 62 0) (M 12 0 0) Z p = p := by
    obtain ⟨m, hm⟩ : ∃ m : Nat, M 12 0 0 = (m : Int) := ⟨(M 12 0 0).toNat, by omega⟩
    rw [hm] at hab hen hp ⊢
    rcases lb_all hab hZ hZ k hk.1 hk.2 with l | ⟨-, l, l1, l2, -⟩
    · exact absurd hen l.2.2
    rw [hp] at l2
    exact l2.1
  have key : ∀ n9, CutOK l ω 4 254 (cutL [(20, [0, 1, 2, 3, 4], fun kk vs M9 => ∃ s i : Int, vs = [vR 13 0, vI k, vI p, vI s, vI i] ∧ kk = (90000 - i).toNat ∧ (0 ≤ i ∧ i ≤ 14) ∧ (∀ q, q ≠ 126 → q ≠ 129 → M9 q = M q) ∧ M9 126 0 = (lbM (M 61 0) (M 62 0) (M 12 0 0) (zF (M 126 0) 14)) ∧ M9 129 0 = (cmN (prM (lbM (M 61 0) (M 62 0) (M 12 0 0) (zF (M 126 0) 14)) ((lbM (M 61 0) (M 62 0) (M 12 0 0) (zF (M 126 0) 14)) k) p) (M 129 0) i).1 ∧ s = (cmN (prM (lbM (M 61 0) (M 62 0) (M 12 0 0) (zF (M 126 0) 14)) ((lbM (M 61 0) (M 62 0) (M 12 0 0) (zF (M 126 0) 14)) k) p) (M 129 0) i).2), (94, [0, 1, 2, 3, 4], fun kk vs M9 => ∃ i : Int, vs = [vR 13 0, vI k, vI p, vI (n : Int), vI i] ∧ kk = (80000 - i).toNat ∧ ¬ k = p ∧ (0 ≤ i ∧ i ≤ 196) ∧ (∀ q, q ≠ 126 → q ≠ 127 → q ≠ 129 → M9 q = M q) ∧ M9 126 0 = (lbM (M 61 0) (M 62 0) (M 12 0 0) (zF (M 126 0) 14)) ∧ M9 129 0 = col ∧ (∀ j, 0 ≤ j → j < i → M9 127 0 j = 0)), (119, [0, 1, 2, 3, 4], fun kk vs M9 => ∃ i : Int, vs = [vR 13 0, vI k, vI p, vI (n : Int), vI i] ∧ kk = (70000 - i).toNat ∧ ¬ k = p ∧ (0 ≤ i ∧ i ≤ 14) ∧ (∀ q, q ≠ 126 → q ≠ 127 → q ≠ 128 → q ≠ 129 → M9 q = M q) ∧ M9 126 0 = (lbM (M 61 0) (M 62 0) (M 12 0 0) (zF (M 126 0) 14)) ∧ M9 129 0 = col ∧ (∀ j, 0 ≤ j → j < 196 → M9 127 0 j = 0) ∧ (∀ j, 0 ≤ j → j < i → M9 128 0 j = 0)), (143, [0, 1, 2, 3, 4], fun kk vs M9 => ∃ e : Int, vs = [vR 13 0, vI k, vI p, vI (n : Int), vI e] ∧ kk = (60000 - e).toNat ∧ ¬ k = p ∧ (0 ≤ e ∧ e ≤ M 12 0 0) ∧ (∀ q, q ≠ 126 → q ≠ 127 → q ≠ 128 → q ≠ 129 → M9 q = M q) ∧ M9 126 0 = (lbM (M 61 0) (M 62 0) (M 12 0 0) (zF (M 126 0) 14)) ∧ M9 129 0 = col ∧ (∀ r x, 0 ≤ r → r < 14 → 0 ≤ x → x < 14 → M9 127 0 (14 * r + x) = sm (fun z => (aiE (M 61 0) (M 62 0) col) z r.toNat * (aiE (M 61 0) (M 62 0) col) z x.toNat) e.toNat) ∧ (∀ r, 0 ≤ r → r < 14 → M9 128 0 r = sm (fun z => (aiE (M 61 0) (M 62 0) col) z r.toNat * M 63 0 z) e.toNat)), (263, [0, 1, 2, 3, 4, 6], fun kk vs M9 => ∃ q : Int, vs = [vR 13 0, vI k, vI p, vI (n : Int), vL (A q), vI q] ∧ kk = (50000 - 1000 * q).toNat ∧ ¬ k = p ∧ (0 ≤ q ∧ q ≤ (n : Int)) ∧ (∀ q, q ≠ 126 → q ≠ 127 → q ≠ 128 → q ≠ 129 → M9 q = M q) ∧ M9 129 0 = col ∧ (∀ r x, 0 ≤ r → r < (n : Int) → 0 ≤ x → x < (n : Int) → M9 127 0 (14 * r + x) = R q r x) ∧ (∀ r, 0 ≤ r → r < (n : Int) → M9 128 0 r = R q r (n : Int))), (284, [0, 1, 2, 3, 4, 6, 7, 9], fun kk vs M9 => ∃ q i : Int, vs = [vR 13 0, vI k, vI p, vI (n : Int), vL (A q), vI q, vL (R q q q), vI i] ∧ kk = (50000 - 1000 * q - 10 - 20 * i).toNat ∧ ¬ k = p ∧ (0 ≤ q ∧ q < (n : Int)) ∧ (0 ≤ i ∧ i ≤ (n : Int)) ∧ (∀ q, q ≠ 126 → q ≠ 127 → q ≠ 128 → q ≠ 129 → M9 q = M q) ∧ M9 129 0 = col ∧ (∀ r x, 0 ≤ r → r < (n : Int) → (i ≤ r ∨ r = q) → 0 ≤ x → x < (n : Int) → M9 127 0 (14 * r + x) = R q r x) ∧ (∀ r x, 0 ≤ r → r < (n : Int) → r < i → ¬ r = q → 0 ≤ x → x < (n : Int) → M9 127 0 (14 * r + x) = R (q + 1) r x) ∧ (∀ r, 0 ≤ r → r < (n : Int) → (i ≤ r ∨ r = q) → M9 128 0 r = R q r (n : Int)) ∧ (∀ r, 0 ≤ r → r < (n : Int) → r < i → ¬ r = q → M9 128 0 r = R (q + 1) r (n : Int))), (315, [0, 1, 2, 3, 4, 6, 7, 9, 10, 12], fun kk vs M9 => ∃ q i j : Int, vs = [vR 13 0, vI k, vI p, vI (n : Int), vL (A q), vI q, vL (R q q q), vI i, vL (R q i q), vI j] ∧ kk = (50000 - 1000 * q - 10 - 20 * i - 1 - j).toNat ∧ ¬ k = p ∧ (0 ≤ q ∧ q < (n : Int)) ∧ (0 ≤ i ∧ i < (n : Int)) ∧ ¬ i = q ∧ (0 ≤ j ∧ j ≤ (n : Int)) ∧ (∀ q, q ≠ 126 → q ≠ 127 → q ≠ 128 → q ≠ 129 → M9 q = M q) ∧ M9 129 0 = col ∧ (∀ r x, 0 ≤ r → r < (n : Int) → (i < r ∨ r = q) → 0 ≤ x → x < (n : Int) → M9 127 0 (14 * r + x) = R q r x) ∧ (∀ r x, 0 ≤ r → r < (n : Int) → r < i → ¬ r = q → 0 ≤ x → x < (n : Int) → M9 127 0 (14 * r + x) = R (q + 1) r x) ∧ (∀ r, 0 ≤ r → r < (n : Int) → (i ≤ r ∨ r = q) → M9 128 0 r = R q r (n : Int)) ∧ (∀ r, 0 ≤ r → r < (n : Int) → r < i → ¬ r = q → M9 128 0 r = R (q + 1) r (n : Int)) ∧ (∀ x, 0 ≤ x → x < j → M9 127 0 (14 * i + x) = R (q + 1) i x) ∧ (∀ x, j ≤ x → x < (n : Int) → M9 127 0 (14 * i + x) = R q i x))] n9) Q := by
    refine loops (GGQ_ok (l := l) (ω := ω)) 900 _ ?_
    refine List.forall_mem_cons.mpr ⟨?_, List.forall_mem_cons.mpr ⟨?_, List.forall_mem_cons.mpr ⟨?_, List.forall_mem_cons.mpr ⟨?_, List.forall_mem_cons.mpr ⟨?_, List.forall_mem_cons.mpr ⟨?_, List.forall_mem_cons.mpr ⟨?_, fun _ h => absurd h List.not_mem_nil⟩⟩⟩⟩⟩⟩⟩
    · rintro n9 vs M9 ⟨s, i, rfl, rfl, i0, fr, h126, h129, hs⟩
      have e13 : M9 13 = M 13 := fr 13 (by decide) (by decide)
      have e73 : M9 13 0 73 = M 12 0 0 := by rw [e13]; exact hH.1
      have h61 := n14
      have h62 := n14
      have hck := n14
      have ei : w32 (i + 1) = i + 1 := w32_e (by omega) (by omega)
      have cb := cm_bd (pr := prM (lbM (M 61 0) (M 62 0) (M 12 0 0) (zF (M 126 0) 14)) ((lbM (M 61 0) (M 62 0) (M 12 0 0) (zF (M 126 0) 14)) k) p) (Z := M 129 0) i0.1
      rw [← hs] at cb
      have es : w32 (s + 1) = s + 1 := w32_e (by omega) (by omega)
      show wpH _ 900 _ 254 _ true 20 [vR 13 0, vI k, vI p, vI s, vI i, vU, vU, vU, vU, vU, vU, vU, vU] [] _ Q
      conv => whnf
      repeat' first
        | (refine And.intro (fun h => ?_) (fun h => ?_) <;> (try simp (disch := decide) only [cmp3_lt, cmp3_ge, cmp3_gt, cmp3_le, cmp3_eq, ms_q, ms_f, mf_q, mf_f, mc_q, mc_f, and_self, and_true, true_and, and_false, false_and, or_true, true_or, or_false, false_or, if_true, if_false, not_true_eq_false, not_false_eq_true, eq_self, reduceIte, Int.reduceEq, Int.reduceLT, Int.reduceLE, Int.reduceNeg, Int.reduceAdd, Int.reduceSub, Int.reduceMul, Int.add_sub_cancel] at h) <;> (try simp (disch := omega) only [w32_e, w64_e, td_pos, tm_pos, Int.add_sub_cancel, e73, h61, h62, hck] at h) <;> first | exact absurd rfl h | exact absurd h (by decide) | (exfalso; omega) | (conv => whnf))
        | (refine And.intro (by first | omega | ((try simp (disch := decide) only [cmp3_lt, cmp3_ge, cmp3_gt, cmp3_le, cmp3_eq, ms_q, ms_f, mf_q, mf_f, mc_q, mc_f, and_self, and_true, true_and, and_false, false_and, or_true, true_or, or_false, false_or, if_true, if_false, not_true_eq_false, not_false_eq_true, eq_self, reduceIte, Int.reduceEq, Int.reduceLT, Int.reduceLE, Int.reduceNeg, Int.reduceAdd, Int.reduceSub, Int.reduceMul, Int.add_sub_cancel]); (try simp (disch := omega) only [w32_e, w64_e, td_pos, tm_pos, Int.add_sub_cancel, e73, h61, h62, hck]); first | assumption | omega) | exact ⟨rfl, hpre1 (by omega)⟩ | exact ⟨rfl, hpre2 _ hv (by omega)⟩ | exact ⟨rfl, hprL (by omega)⟩ | (have f1 := hv.1; simp (disch := decide) only [f1]; (try simp (disch := omega) only [e73, h61, h62]); omega) | ((try simp (disch := decide) only [cmp3_lt, cmp3_ge, cmp3_gt, cmp3_le, cmp3_eq, ms_q, ms_f, mf_q, mf_f, mc_q, mc_f, and_self, and_true, true_and, and_false, false_and, or_true, true_or, or_false, false_or, if_true, if_false, not_true_eq_false, not_false_eq_true, eq_self, reduceIte, Int.reduceEq, Int.reduceLT, Int.reduceLE, Int.reduceNeg, Int.reduceAdd, Int.reduceSub, Int.reduceMul, Int.add_sub_cancel]); (try simp (disch := omega) only [w32_e, w64_e, td_pos, tm_pos, Int.add_sub_cancel, e73, h61, h62, hck]); ((repeat' (first | assumption | omega | with_reducible rfl | apply And.intro)); done))) ?_; conv => whnf)
        | (intro v; intro hv; conv => whnf)
      all_goals first
        | (have e9 : i = 14 := by omega
           have kp : k = p := by omega
           have s0 := sol_0 S hk.1 hk.2 (by rw [hp]; exact kp.symm)
           refine hQ _ ⟨fun q a b c d e => by rw [ms_q a, ms_q a]; exact fr q b e, fun j a b => by rw [ms_f, if_neg (fun z => b z.2), ms_f, if_neg (fun z => a z.2), fr 13 (by decide) (by decide)], ?_, ?_⟩
           · rw [ms_f, if_neg (fun z => absurd z.2 (by decide)), ms_f, if_pos ⟨rfl, rfl⟩]
             exact s0.1.symm
           · rw [ms_f, if_pos ⟨rfl, rfl⟩]
             exact s0.2.symm)
        | (have e9 : i = 14 := by omega
           have kp : ¬ k = p := by assumption
           have en : s = (n : Int) := by
             rw [hs, e9]
             exact hnn.symm
           subst en
           refine ⟨_, ?_, 0, rfl, rfl, kp, ⟨Int.le_refl _, by decide⟩, fun q a b c => fr q a c, h126, ?_, fun j a b => absurd b (by omega)⟩
           · omega
           · rw [h129, e9]
             exact hcol.symm)
        | (refine ⟨_, ?_, s + 1, i + 1, by rw [ei, es], rfl, ⟨by omega, by omega⟩, fun q a b => by rw [ms_q b, ms_q b]; exact fr q a b, by rw [ms_q (by decide), ms_q (by decide)]; exact h126, ?_, ?_⟩
           · omega
           · rw [cm_s i0.1]
             unfold cmS
             rw [if_pos ⟨by rw [← h126]; assumption, by assumption⟩, ms_n, ms_n, up_up, h129, ← hs]
           · rw [cm_s i0.1]
             unfold cmS
             rw [if_pos ⟨by rw [← h126]; assumption, by assumption⟩, hs])
        | (have ng : ¬ prM (lbM (M 61 0) (M 62 0) (M 12 0 0) (zF (M 126 0) 14)) ((lbM (M 61 0) (M 62 0) (M 12 0 0) (zF (M 126 0) 14)) k) p i := fun z => by
             rw [← h126] at z
             first
               | exact z.2 (by assumption)
               | (have z1 := z.1
                  have z2 : ¬ M9 126 0 i = M9 126 0 k := by assumption
                  exact z2 z1)
           refine ⟨_, ?_, s, i + 1, by rw [ei], rfl, ⟨by omega, by omega⟩, fun q a b => by rw [ms_q b]; exact fr q a b, by rw [ms_q (by decide)]; exact h126, ?_, ?_⟩
           · omega
           · rw [cm_s i0.1]
             unfold cmS
             rw [if_neg ng, ms_n, h129]
           · rw [cm_s i0.1]
             unfold cmS
             rw [if_neg ng, hs])
    · rintro n9 vs M9 ⟨i, rfl, rfl, kp, i0, fr, h126, h129, z127⟩
      have e13 : M9 13 = M 13 := fr 13 (by decide) (by decide) (by decide)
      have e73 : M9 13 0 73 = M 12 0 0 := by rw [e13]; exact hH.1
      have h61 := n14
      have h62 := n14
      have hck := n14
      have ei : w32 (i + 1) = i + 1 := w32_e (by omega) (by omega)
      show wpH _ 900 _ 254 _ true 94 [vR 13 0, vI k, vI p, vI (n : Int), vI i, vU, vU, vU, vU, vU, vU, vU, vU] [] _ Q
      conv => whnf
      repeat' first
        | (refine And.intro (fun h => ?_) (fun h => ?_) <;> (try simp (disch := decide) only [cmp3_lt, cmp3_ge, cmp3_gt, cmp3_le, cmp3_eq, ms_q, ms_f, mf_q, mf_f, mc_q, mc_f, and_self, and_true, true_and, and_false, false_and, or_true, true_or, or_false, false_or, if_true, if_false, not_true_eq_false, not_false_eq_true, eq_self, reduceIte, Int.reduceEq, Int.reduceLT, Int.reduceLE, Int.reduceNeg, Int.reduceAdd, Int.reduceSub, Int.reduceMul, Int.add_sub_cancel] at h) <;> (try simp (disch := omega) only [w32_e, w64_e, td_pos, tm_pos, Int.add_sub_cancel, e73, h61, h62, hck] at h) <;> first | exact absurd rfl h | exact absurd h (by decide) | (exfalso; omega) | (conv => whnf))
        | (refine And.intro (by first | omega | ((try simp (disch := decide) only [cmp3_lt, cmp3_ge, cmp3_gt, cmp3_le, cmp3_eq, ms_q, ms_f, mf_q, mf_f, mc_q, mc_f, and_self, and_true, true_and, and_false, false_and, or_true, true_or, or_false, false_or, if_true, if_false, not_true_eq_false, not_false_eq_true, eq_self, reduceIte, Int.reduceEq, Int.reduceLT, Int.reduceLE, Int.reduceNeg, Int.reduceAdd, Int.reduceSub, Int.reduceMul, Int.add_sub_cancel]); (try simp (disch := omega) only [w32_e, w64_e, td_pos, tm_pos, Int.add_sub_cancel, e73, h61, h62, hck]); first | assumption | omega) | exact ⟨rfl, hpre1 (by omega)⟩ | exact ⟨rfl, hpre2 _ hv (by omega)⟩ | exact ⟨rfl, hprL (by omega)⟩ | (have f1 := hv.1; simp (disch := decide) only [f1]; (try simp (disch := omega) only [e73, h61, h62]); omega) | ((try simp (disch := decide) only [cmp3_lt, cmp3_ge, cmp3_gt, cmp3_le, cmp3_eq, ms_q, ms_f, mf_q, mf_f, mc_q, mc_f, and_self, and_true, true_and, and_false, false_and, or_true, true_or, or_false, false_or, if_true, if_false, not_true_eq_false, not_false_eq_true, eq_self, reduceIte, Int.reduceEq, Int.reduceLT, Int.reduceLE, Int.reduceNeg, Int.reduceAdd, Int.reduceSub, Int.reduceMul, Int.add_sub_cancel]); (try simp (disch := omega) only [w32_e, w64_e, td_pos, tm_pos, Int.add_sub_cancel, e73, h61, h62, hck]); ((repeat' (first | assumption | omega | with_reducible rfl | apply And.intro)); done))) ?_; conv => whnf)
        | (intro v; intro hv; conv => whnf)
      all_goals first
        | (have e9 : i = 196 := by omega
           rw [e9] at z127
           refine ⟨_, ?_, 0, rfl, rfl, kp, ⟨Int.le_refl _, by decide⟩, fun q a b c d => fr q a b d, h126, h129, z127, fun j a b => absurd b (by omega)⟩
           omega)
        | (refine ⟨_, ?_, i + 1, by rw [ei], rfl, kp, ⟨by omega, by omega⟩, fun q a b c => by rw [ms_q b]; exact fr q a b c, by rw [ms_q (by decide)]; exact h126, by rw [ms_q (by decide)]; exact h129, fun j a b => ?_⟩
           · omega
           · rw [ms_f]
             by_cases c : j = i
             · rw [if_pos ⟨rfl, c⟩]
             · rw [if_neg (fun z => c z.2)]
               exact z127 j a (by omega))
    · rintro n9 vs M9 ⟨i, rfl, rfl, kp, i0, fr, h126, h129, z127, z128⟩
      have e13 : M9 13 = M 13 := fr 13 (by decide) (by decide) (by decide) (by decide)
      have e73 : M9 13 0 73 = M 12 0 0 := by rw [e13]; exact hH.1
      have h61 := n14
      have h62 := n14
      have hck := n14
      have ei : w32 (i + 1) = i + 1 := w32_e (by omega) (by omega)
      show wpH _ 900 _ 254 _ true 119 [vR 13 0, vI k, vI p, vI (n : Int), vI i, vU, vU, vU, vU, vU, vU, vU, vU] [] _ Q
      conv => whnf
      repeat' first
        | (refine And.intro (fun h => ?_) (fun h => ?_) <;> (try simp (disch := decide) only [cmp3_lt, cmp3_ge, cmp3_gt, cmp3_le, cmp3_eq, ms_q, ms_f, mf_q, mf_f, mc_q, mc_f, and_self, and_true, true_and, and_false, false_and, or_true, true_or, or_false, false_or, if_true, if_false, not_true_eq_false, not_false_eq_true, eq_self, reduceIte, Int.reduceEq, Int.reduceLT, Int.reduceLE, Int.reduceNeg, Int.reduceAdd, Int.reduceSub, Int.reduceMul, Int.add_sub_cancel] at h) <;> (try simp (disch := omega) only [w32_e, w64_e, td_pos, tm_pos, Int.add_sub_cancel, e73, h61, h62, hck] at h) <;> first | exact absurd rfl h | exact absurd h (by decide) | (exfalso; omega) | (conv => whnf))
        | (refine And.intro (by first | omega | ((try simp (disch := decide) only [cmp3_lt, cmp3_ge, cmp3_gt, cmp3_le, cmp3_eq, ms_q, ms_f, mf_q, mf_f, mc_q, mc_f, and_self, and_true, true_and, and_false, false_and, or_true, true_or, or_false, false_or, if_true, if_false, not_true_eq_false, not_false_eq_true, eq_self, reduceIte, Int.reduceEq, Int.reduceLT, Int.reduceLE, Int.reduceNeg, Int.reduceAdd, Int.reduceSub, Int.reduceMul, Int.add_sub_cancel]); (try simp (disch := omega) only [w32_e, w64_e, td_pos, tm_pos, Int.add_sub_cancel, e73, h61, h62, hck]); first | assumption | omega) | exact ⟨rfl, hpre1 (by omega)⟩ | exact ⟨rfl, hpre2 _ hv (by omega)⟩ | exact ⟨rfl, hprL (by omega)⟩ | (have f1 := hv.1; simp (disch := decide) only [f1]; (try simp (disch := omega) only [e73, h61, h62]); omega) | ((try simp (disch := decide) only [cmp3_lt, cmp3_ge, cmp3_gt, cmp3_le, cmp3_eq, ms_q, ms_f, mf_q, mf_f, mc_q, mc_f, and_self, and_true, true_and, and_false, false_and, or_true, true_or, or_false, false_or, if_true, if_false, not_true_eq_false, not_false_eq_true, eq_self, reduceIte, Int.reduceEq, Int.reduceLT, Int.reduceLE, Int.reduceNeg, Int.reduceAdd, Int.reduceSub, Int.reduceMul, Int.add_sub_cancel]); (try simp (disch := omega) only [w32_e, w64_e, td_pos, tm_pos, Int.add_sub_cancel, e73, h61, h62, hck]); ((repeat' (first | assumption | omega | with_reducible rfl | apply And.intro)); done))) ?_; conv => whnf)
        | (intro v; intro hv; conv => whnf)
      all_goals first
        | (have e9 : i = 14 := by omega
           rw [e9] at z128
           refine ⟨_, ?_, 0, rfl, rfl, kp, ⟨Int.le_refl _, n14.1⟩, fr, h126, h129, fun r x a b c d => (z127 _ (by omega) (by omega)).trans rfl, fun r a b => (z128 _ a b).trans rfl⟩
           omega)
        | (refine ⟨_, ?_, i + 1, by rw [ei], rfl, kp, ⟨by omega, by omega⟩, fun q a b c d => by rw [ms_q c]; exact fr q a b c d, by rw [ms_q (by decide)]; exact h126, by rw [ms_q (by decide)]; exact h129, by rw [ms_q (by decide)]; exact z127, fun j a b => ?_⟩
           · omega
           · rw [ms_f]
             by_cases c : j = i
             · rw [if_pos ⟨rfl, c⟩]
             · rw [if_neg (fun z => c z.2)]
               exact z128 j a (by omega))
    · rintro n9 vs M9 ⟨e, rfl, rfl, kp, e0, fr, h126, h129, hsq, hri⟩
      have e13 : M9 13 = M 13 := fr 13 (by decide) (by decide) (by decide) (by decide)
      have e73 : M9 13 0 73 = M 12 0 0 := by rw [e13]; exact hH.1
      have hck := n14
      have ee : w32 (e + 1) = e + 1 := w32_e (by omega) (by omega)
      have e123 : M9 123 = M 123 := fr 123 (by decide) (by decide) (by decide) (by decide)
      have e124 : M9 124 = M 124 := fr 124 (by decide) (by decide) (by decide) (by decide)
      have e125 : M9 125 = M 125 := fr 125 (by decide) (by decide) (by decide) (by decide)
      have he : e < M 12 0 0 → _ := fun z => hab.2 e e0.1 z
      have h61 : e < M 12 0 0 → M9 123 0 e = M 61 0 e := fun z => by
        rw [e123]
        exact (hH.2.2 e e0.1 z).1.1
      have h62 : e < M 12 0 0 → w32 (6 + M9 124 0 e) = M 62 0 e := fun z => by
        rw [e124, (hH.2.2 e e0.1 z).1.2.1]
        have := he z
        exact w32_e (by omega) (by omega)
      have h63 : e < M 12 0 0 → M9 125 0 e = M 63 0 e := fun z => by
        rw [e125]
        exact (hH.2.2 e e0.1 z).1.2.2
      have te : e < M 12 0 0 → 1 ≤ M 63 0 e ∧ M 63 0 e ≤ 95 := fun z => ht e e0.1 z
      have b127 : ∀ j, 0 ≤ j → j < 196 → -14 ≤ M9 127 0 j ∧ M9 127 0 j ≤ 14 := fun j j0 j1 => by
        have q := hsq (j / 14) (j % 14) (by omega) (by omega) (by omega) (by omega)
        rw [show 14 * (j / 14) + j % 14 = j by omega] at q
        rw [q]
        have := sm_bd (f := fun z => (aiE (M 61 0) (M 62 0) col) z (j / 14).toNat * (aiE (M 61 0) (M 62 0) col) z (j % 14).toNat) (B := 1) e.toNat (fun z hz => by
          show -1 ≤ (aiE (M 61 0) (M 62 0) col) z (j / 14).toNat * (aiE (M 61 0) (M 62 0) col) z (j % 14).toNat ∧ (aiE (M 61 0) (M 62 0) col) z (j / 14).toNat * (aiE (M 61 0) (M 62 0) col) z (j % 14).toNat ≤ 1
          rcases gs_01 (a := M 61 0) (b := M 62 0) (col := col) z (j / 14).toNat with y | y <;> rcases gs_01 (a := M 61 0) (b := M 62 0) (col := col) z (j % 14).toNat with w | w <;> rw [y, w] <;> decide)
        omega
      have b128 : ∀ j, 0 ≤ j → j < 14 → -1330 ≤ M9 128 0 j ∧ M9 128 0 j ≤ 1330 := fun j j0 j1 => by
        rw [hri j j0 j1]
        have := sm_bd (f := fun z => (aiE (M 61 0) (M 62 0) col) z j.toNat * M 63 0 z) (B := 95) e.toNat (fun z hz => by
          show -95 ≤ (aiE (M 61 0) (M 62 0) col) z j.toNat * M 63 0 z ∧ (aiE (M 61 0) (M 62 0) col) z j.toNat * M 63 0 z ≤ 95
          have := ht z (by omega) (by omega)
          rcases gs_01 (a := M 61 0) (b := M 62 0) (col := col) z j.toNat with y | y
          · rw [y, Int.zero_mul]; omega
          · rw [y, Int.one_mul]; omega)
        omega
      have hx : e < M 12 0 0 → (col (M 61 0 e) = -4 ∨ (0 ≤ col (M 61 0 e) ∧ col (M 61 0 e) < 14)) ∧ (col (M 62 0 e) = -4 ∨ (0 ≤ col (M 62 0 e) ∧ col (M 62 0 e) < 14)) ∧ (0 ≤ col (M 61 0 e) → ¬ col (M 61 0 e) = col (M 62 0 e)) := fun z => by
        have q := he z
        have c1 := hcl (M 61 0 e) (by omega) (by omega)
        have c2 := hcl (M 62 0 e) (by omega) (by omega)
        refine ⟨by omega, by omega, fun a b => ?_⟩
        have := hin (M 61 0 e) (M 62 0 e) (by omega) (by omega) (by omega) (by omega) a b
        omega
      have hpre1 : e < M 12 0 0 → (((M9 129 0 (M9 123 0 e)) = -4 ∨ (0 ≤ (M9 129 0 (M9 123 0 e)) ∧ (M9 129 0 (M9 123 0 e)) < 14)) ∧ ((M9 129 0 (w32 (6 + M9 124 0 e))) = -4 ∨ (0 ≤ (M9 129 0 (w32 (6 + M9 124 0 e))) ∧ (M9 129 0 (w32 (6 + M9 124 0 e))) < 14)) ∧ (0 ≤ (M9 129 0 (M9 123 0 e)) → ¬ (M9 129 0 (M9 123 0 e)) = (M9 129 0 (w32 (6 + M9 124 0 e)))) ∧ (∀ j, 0 ≤ j → j < 196 → -1000000 ≤ M9 127 0 j ∧ M9 127 0 j ≤ 1000000) ∧ (∀ j, 0 ≤ j → j < 14 → -1000000 ≤ M9 128 0 j ∧ M9 128 0 j ≤ 1000000) ∧ (0 ≤ (M9 125 0 e) ∧ (M9 125 0 e) ≤ 1000)) := fun z => by
        rw [h61 z, h62 z, h63 z, h129]
        have hx := hx z
        have te := te z
        exact ⟨hx.1, hx.2.1, hx.2.2, fun j a b => by have := b127 j a b; omega, fun j a b => by have := b128 j a b; omega, by omega, by omega⟩
      have hpre2 : ∀ v : Mem, ((∀ p, p ≠ 127 → p ≠ 128 → v p = M9 p) ∧ (∀ r x, 0 ≤ r → r < 14 → 0 ≤ x → x < 14 → v 127 0 (14 * r + x) = M9 127 0 (14 * r + x) + (if r = (M9 129 0 (M9 123 0 e)) ∧ (x = (M9 129 0 (M9 123 0 e)) ∨ x = (M9 129 0 (w32 (6 + M9 124 0 e)))) then 1 else 0)) ∧ (∀ r, 0 ≤ r → r < 14 → v 128 0 r = M9 128 0 r + (if r = (M9 129 0 (M9 123 0 e)) then (M9 125 0 e) else 0))) → e < M 12 0 0 → (((v 129 0 (w32 (6 + v 124 0 e))) = -4 ∨ (0 ≤ (v 129 0 (w32 (6 + v 124 0 e))) ∧ (v 129 0 (w32 (6 + v 124 0 e))) < 14)) ∧ ((v 129 0 (v 123 0 e)) = -4 ∨ (0 ≤ (v 129 0 (v 123 0 e)) ∧ (v 129 0 (v 123 0 e)) < 14)) ∧ (0 ≤ (v 129 0 (w32 (6 + v 124 0 e))) → ¬ (v 129 0 (w32 (6 + v 124 0 e))) = (v 129 0 (v 123 0 e))) ∧ (∀ j, 0 ≤ j → j < 196 → -1000000 ≤ v 127 0 j ∧ v 127 0 j ≤ 1000000) ∧ (∀ j, 0 ≤ j → j < 14 → -1000000 ≤ v 128 0 j ∧ v 128 0 j ≤ 1000000) ∧ (0 ≤ (v 125 0 e) ∧ (v 125 0 e) ≤ 1000)) := fun v hv z => by
        obtain ⟨f1, f2, f3⟩ := hv
        rw [f1 129 (by decide) (by decide), f1 124 (by decide) (by decide), f1 123 (by decide) (by decide), f1 125 (by decide) (by decide)]
        rw [h61 z, h62 z, h63 z, h129] at *
        have hx := hx z
        have te := te z
        refine ⟨hx.2.1, hx.1, fun a b => hx.2.2 (by omega) b.symm, fun j a b => ?_, fun j a b => ?_, by omega, by omega⟩
        · have q := f2 (j / 14) (j % 14) (by omega) (by omega) (by omega) (by omega)
          rw [show 14 * (j / 14) + j % 14 = j by omega] at q
          rw [q]
          have := b127 j a b
          split <;> omega
        · rw [f3 j a b]
          have := b128 j a b
          split <;> omega
      have hstep : ∀ v1 v : Mem, ((∀ p, p ≠ 127 → p ≠ 128 → v1 p = M9 p) ∧ (∀ r x, 0 ≤ r → r < 14 → 0 ≤ x → x < 14 → v1 127 0 (14 * r + x) = M9 127 0 (14 * r + x) + (if r = (M9 129 0 (M9 123 0 e)) ∧ (x = (M9 129 0 (M9 123 0 e)) ∨ x = (M9 129 0 (w32 (6 + M9 124 0 e)))) then 1 else 0)) ∧ (∀ r, 0 ≤ r → r < 14 → v1 128 0 r = M9 128 0 r + (if r = (M9 129 0 (M9 123 0 e)) then (M9 125 0 e) else 0))) → ((∀ p, p ≠ 127 → p ≠ 128 → v p = v1 p) ∧ (∀ r x, 0 ≤ r → r < 14 → 0 ≤ x → x < 14 → v 127 0 (14 * r + x) = v1 127 0 (14 * r + x) + (if r = (v1 129 0 (w32 (6 + v1 124 0 e))) ∧ (x = (v1 129 0 (w32 (6 + v1 124 0 e))) ∨ x = (v1 129 0 (v1 123 0 e))) then 1 else 0)) ∧ (∀ r, 0 ≤ r → r < 14 → v 128 0 r = v1 128 0 r + (if r = (v1 129 0 (w32 (6 + v1 124 0 e))) then (v1 125 0 e) else 0))) → e < M 12 0 0 → ∃ k_1, k_1 < (60000 - e).toNat ∧ (fun kk vs M9 => ∃ e, vs = [vR 13 0, vI k, vI p, vI (n : Int), vI e] ∧ kk = (60000 - e).toNat ∧ ¬k = p ∧ (0 ≤ e ∧ e ≤ M 12 0 0) ∧ (∀ q, q ≠ 126 → q ≠ 127 → q ≠ 128 → q ≠ 129 → M9 q = M q) ∧ M9 126 0 = (lbM (M 61 0) (M 62 0) (M 12 0 0) (zF (M 126 0) 14)) ∧ M9 129 0 = col ∧ (∀ r x, 0 ≤ r → r < 14 → 0 ≤ x → x < 14 → M9 127 0 (14 * r + x) = sm (fun z => (aiE (M 61 0) (M 62 0) col) z r.toNat * (aiE (M 61 0) (M 62 0) col) z x.toNat) e.toNat) ∧ (∀ r, 0 ≤ r → r < 14 → M9 128 0 r = sm (fun z => (aiE (M 61 0) (M 62 0) col) z r.toNat * M 63 0 z) e.toNat)) k_1 [vR 13 0, vI k, vI p, vI (n : Int), vI (w32 (e + 1))] v := fun v1 v hv1 hv hlt => by
        have he1 := he hlt
        have hx1 := hx hlt
        obtain ⟨f1, f2, f3⟩ := hv1
        obtain ⟨g1, g2, g3⟩ := hv
        rw [f1 129 (by decide) (by decide), f1 124 (by decide) (by decide), f1 123 (by decide) (by decide)] at g2
        rw [f1 129 (by decide) (by decide), f1 124 (by decide) (by decide), f1 125 (by decide) (by decide)] at g3
        rw [h61 hlt, h62 hlt, h129] at f2 g2
        rw [h62 hlt, h63 hlt, h129] at g3
        rw [h61 hlt, h63 hlt, h129] at f3
        have en : (e + 1).toNat = e.toNat + 1 := by omega
        have ez : ((e.toNat : Nat) : Int) = e := Int.toNat_of_nonneg e0.1
        refine ⟨_, ?_, e + 1, by rw [ee], rfl, kp, ⟨by omega, by omega⟩, fun q a b c d => (g1 q b c).trans ((f1 q b c).trans (fr q a b c d)), by rw [g1 126 (by decide) (by decide), f1 126 (by decide) (by decide)]; exact h126, by rw [g1 129 (by decide) (by decide), f1 129 (by decide) (by decide)]; exact h129, fun r x a b c d => ?_, fun r a b => ?_⟩
        · omega
        · rw [g2 r x a b c d, f2 r x a b c d, hsq r x a b c d, en, sm]
          rw [Int.add_assoc]
          refine congrArg (fun z => _ + z) ?_
          exact ai_two a c ez hx1.1 hx1.2.1 hx1.2.2
        · rw [g3 r a b, f3 r a b, hri r a b, en, sm]
          rw [Int.add_assoc]
          refine congrArg (fun z => _ + z) ?_
          rw [ez]
          exact ai_one a ez hx1.1 hx1.2.1 hx1.2.2
      show wpH _ 900 _ 254 _ true 143 [vR 13 0, vI k, vI p, vI (n : Int), vI e, vU, vU, vU, vU, vU, vU, vU, vU] [] _ Q
      conv => whnf
      repeat' first
        | (refine And.intro (fun h => ?_) (fun h => ?_) <;> (try simp (disch := decide) only [cmp3_lt, cmp3_ge, cmp3_gt, cmp3_le, cmp3_eq, ms_q, ms_f, mf_q, mf_f, mc_q, mc_f, and_self, and_true, true_and, and_false, false_and, or_true, true_or, or_false, false_or, if_true, if_false, not_true_eq_false, not_false_eq_true, eq_self, reduceIte, Int.reduceEq, Int.reduceLT, Int.reduceLE, Int.reduceNeg, Int.reduceAdd, Int.reduceSub, Int.reduceMul, Int.add_sub_cancel] at h) <;> (try simp (disch := omega) only [w32_e, w64_e, td_pos, tm_pos, Int.add_sub_cancel, e73, h61, h62, hck] at h) <;> first | exact absurd rfl h | exact absurd h (by decide) | (exfalso; omega) | (conv => whnf))
        | (refine And.intro (by first | omega | ((try simp (disch := decide) only [cmp3_lt, cmp3_ge, cmp3_gt, cmp3_le, cmp3_eq, ms_q, ms_f, mf_q, mf_f, mc_q, mc_f, and_self, and_true, true_and, and_false, false_and, or_true, true_or, or_false, false_or, if_true, if_false, not_true_eq_false, not_false_eq_true, eq_self, reduceIte, Int.reduceEq, Int.reduceLT, Int.reduceLE, Int.reduceNeg, Int.reduceAdd, Int.reduceSub, Int.reduceMul, Int.add_sub_cancel]); (try simp (disch := omega) only [w32_e, w64_e, td_pos, tm_pos, Int.add_sub_cancel, e73, h61, h62, hck]); first | assumption | omega) | exact ⟨rfl, hpre1 (by omega)⟩ | exact ⟨rfl, hpre2 _ hv (by omega)⟩ | exact ⟨rfl, hprL (by omega)⟩ | (have f1 := hv.1; simp (disch := decide) only [f1]; (try simp (disch := omega) only [e73, h61, h62]); omega) | ((try simp (disch := decide) only [cmp3_lt, cmp3_ge, cmp3_gt, cmp3_le, cmp3_eq, ms_q, ms_f, mf_q, mf_f, mc_q, mc_f, and_self, and_true, true_and, and_false, false_and, or_true, true_or, or_false, false_or, if_true, if_false, not_true_eq_false, not_false_eq_true, eq_self, reduceIte, Int.reduceEq, Int.reduceLT, Int.reduceLE, Int.reduceNeg, Int.reduceAdd, Int.reduceSub, Int.reduceMul, Int.add_sub_cancel]); (try simp (disch := omega) only [w32_e, w64_e, td_pos, tm_pos, Int.add_sub_cancel, e73, h61, h62, hck]); ((repeat' (first | assumption | omega | with_reducible rfl | apply And.intro)); done))) ?_; conv => whnf)
        | (intro v; intro hv; conv => whnf)
      all_goals first
        | (have e9 : e = M 12 0 0 := by omega
           refine ⟨_, ?_, 0, by rw [tA0], rfl, kp, ⟨Int.le_refl _, by omega⟩, fr, h129, fun r x a b c d => ?_, fun r a b => ?_⟩
           · omega
           · rw [hsq r x a (by omega) c (by omega), t0 r x a b c (by omega), e9]
             unfold qE
             refine sm_cg _ (fun z hz => ?_)
             unfold ppE
             rw [if_pos (by omega)]
           · rw [hri r a (by omega), t0 r n a b (by omega) (Int.le_refl _), e9]
             unfold qE
             refine sm_cg _ (fun z hz => ?_)
             unfold ppE
             rw [if_neg (by omega)])
        | (have hlt : e < M 12 0 0 := by omega
           have he1 := he hlt
           have hne : ¬ (lbM (M 61 0) (M 62 0) (M 12 0 0) (zF (M 126 0) 14)) (M 61 0 e) = (lbM (M 61 0) (M 62 0) (M 12 0 0) (zF (M 126 0) 14)) k := by
             rw [← h126]
             first
               | assumption
               | (rw [← h61 hlt]; assumption)
           have z1 : col (M 61 0 e) = -4 := (hpr _ (by omega) (by omega)).mpr (fun z => hne z.1)
           have z2 : col (M 62 0 e) = -4 := (hpr _ (by omega) (by omega)).mpr (fun z => hne ((hsame e e0.1 hlt).trans z.1))
           have en : (e + 1).toNat = e.toNat + 1 := by omega
           have ez : ((e.toNat : Nat) : Int) = e := Int.toNat_of_nonneg e0.1
           have a0 : ∀ r : Int, 0 ≤ r → (aiE (M 61 0) (M 62 0) col) e.toNat r.toNat = 0 := fun r a => by
             unfold aiE
             rw [ez, z1, z2, if_neg (by omega)]
           refine ⟨_, ?_, e + 1, by rw [ee], rfl, kp, ⟨by omega, by omega⟩, fr, h126, h129, fun r x a b c d => ?_, fun r a b => ?_⟩
           · omega
           · rw [hsq r x a b c d, en, sm, a0 r a]
             simp
           · rw [hri r a b, en, sm, a0 r a]
             simp)
        | (have hlt : e < M 12 0 0 := by omega
           have he1 := he hlt
           have hx1 := hx hlt
           exact hstep _ v (by assumption) hv hlt)
    · rintro n9 vs M9 ⟨q, rfl, rfl, kp, q0, fr, h129, hrx, hrr⟩
      have e13 : M9 13 = M 13 := fr 13 (by decide) (by decide) (by decide) (by decide)
      have e73 : M9 13 0 73 = M 12 0 0 := by rw [e13]; exact hH.1
      have h61 := n14
      have h62 := n14
      have hck := n14
      have a9 := tA q q0.1 (by omega)
      have eq1 : w32 (q + 1) = q + 1 := w32_e (by omega) (by omega)
      have e15 : w32 (15 * q) = 15 * q := w32_e (by omega) (by omega)
      have ck : 0 ≤ col k ∧ col k < (n : Int) := (hcl k hk.1 hk.2).resolve_left (fun z => (hpr k hk.1 hk.2).mp z ⟨rfl, kp⟩)
      have hck : M9 129 0 k = col k := by rw [h129]
      have xk : q = (n : Int) → M9 128 0 (M9 129 0 k) = G k := fun z => by
        rw [hG k hk.1 hk.2, h129, if_neg (by omega), hrr (col k) ck.1 ck.2, z]
      have hprL : q = (n : Int) → (-1000000000000000000 ≤ M9 128 0 (M9 129 0 k) ∧ M9 128 0 (M9 129 0 k) ≤ 1000000000000000000) ∧ (1 ≤ A q ∧ A q ≤ 1000000000000000000) := fun z => by
        rw [h129, hrr (col k) ck.1 ck.2]
        have := (tB q (col k) (n : Int) q0.1 q0.2 ck.1 ck.2 (by omega) (Int.le_refl _)).2
        omega
      show wpH _ 900 _ 254 _ true 263 [vR 13 0, vI k, vI p, vI (n : Int), vL (A q), vU, vI q, vU, vU, vU, vU, vU, vU] [] _ Q
      conv => whnf
      repeat' first
        | (refine And.intro (fun h => ?_) (fun h => ?_) <;> (try simp (disch := decide) only [cmp3_lt, cmp3_ge, cmp3_gt, cmp3_le, cmp3_eq, ms_q, ms_f, mf_q, mf_f, mc_q, mc_f, and_self, and_true, true_and, and_false, false_and, or_true, true_or, or_false, false_or, if_true, if_false, not_true_eq_false, not_false_eq_true, eq_self, reduceIte, Int.reduceEq, Int.reduceLT, Int.reduceLE, Int.reduceNeg, Int.reduceAdd, Int.reduceSub, Int.reduceMul, Int.add_sub_cancel] at h) <;> (try simp (disch := omega) only [w32_e, w64_e, td_pos, tm_pos, Int.add_sub_cancel, e73, h61, h62, hck] at h) <;> first | exact absurd rfl h | exact absurd h (by decide) | (exfalso; omega) | (conv => whnf))
        | (refine And.intro (by first | omega | ((try simp (disch := decide) only [cmp3_lt, cmp3_ge, cmp3_gt, cmp3_le, cmp3_eq, ms_q, ms_f, mf_q, mf_f, mc_q, mc_f, and_self, and_true, true_and, and_false, false_and, or_true, true_or, or_false, false_or, if_true, if_false, not_true_eq_false, not_false_eq_true, eq_self, reduceIte, Int.reduceEq, Int.reduceLT, Int.reduceLE, Int.reduceNeg, Int.reduceAdd, Int.reduceSub, Int.reduceMul, Int.add_sub_cancel]); (try simp (disch := omega) only [w32_e, w64_e, td_pos, tm_pos, Int.add_sub_cancel, e73, h61, h62, hck]); first | assumption | omega) | exact ⟨rfl, hpre1 (by omega)⟩ | exact ⟨rfl, hpre2 _ hv (by omega)⟩ | exact ⟨rfl, hprL (by omega)⟩ | (have f1 := hv.1; simp (disch := decide) only [f1]; (try simp (disch := omega) only [e73, h61, h62]); omega) | ((try simp (disch := decide) only [cmp3_lt, cmp3_ge, cmp3_gt, cmp3_le, cmp3_eq, ms_q, ms_f, mf_q, mf_f, mc_q, mc_f, and_self, and_true, true_and, and_false, false_and, or_true, true_or, or_false, false_or, if_true, if_false, not_true_eq_false, not_false_eq_true, eq_self, reduceIte, Int.reduceEq, Int.reduceLT, Int.reduceLE, Int.reduceNeg, Int.reduceAdd, Int.reduceSub, Int.reduceMul, Int.add_sub_cancel]); (try simp (disch := omega) only [w32_e, w64_e, td_pos, tm_pos, Int.add_sub_cancel, e73, h61, h62, hck]); ((repeat' (first | assumption | omega | with_reducible rfl | apply And.intro)); done))) ?_; conv => whnf)
        | (intro v; intro hv; conv => whnf)
      all_goals first
        | (have e9 : q = (n : Int) := by omega
           have sm := sol_M hab hZ zF_14 hk.1 hk.2 hen hp S hT hcl hpr (G := G) hG
           rw [← xk e9, ← e9] at sm
           refine hQ _ ⟨fun q a b c d e => by rw [ms_q a, ms_q a]; exact fr q b c d e, fun j a b => by rw [ms_f, if_neg (fun z => b z.2), ms_f, if_neg (fun z => a z.2), e13], ?_, ?_⟩
           · rw [ms_f, if_neg (fun z => absurd z.2 (by decide)), ms_f, if_pos ⟨rfl, rfl⟩]
             exact sm.1
           · rw [ms_f, if_pos ⟨rfl, rfl⟩]
             exact sm.2)
        | (have qn : q < (n : Int) := by omega
           refine ⟨_, ?_, q, 0, by rw [e15, show 15 * q = 14 * q + q by omega, hrx q q q0.1 qn q0.1 qn], rfl, kp, ⟨q0.1, qn⟩, ⟨Int.le_refl _, by omega⟩, fr, h129, fun r x a b _ c d => hrx r x a b c d, fun r x a b c => absurd c (by omega), fun r a b _ => hrr r a b, fun r a b c => absurd c (by omega)⟩
           omega)
    · rintro n9 vs M9 ⟨q, i, rfl, rfl, kp, q0, i0, fr, h129, hrx, hnx, hrr, hnr⟩
      have e13 : M9 13 = M 13 := fr 13 (by decide) (by decide) (by decide) (by decide)
      have e73 : M9 13 0 73 = M 12 0 0 := by rw [e13]; exact hH.1
      have h61 := n14
      have h62 := n14
      have hck := n14
      have a9 := tA q q0.1 (by omega)
      have eq1 : w32 (q + 1) = q + 1 := w32_e (by omega) (by omega)
      have ei : w32 (i + 1) = i + 1 := w32_e (by omega) (by omega)
      have e14 : w32 (14 * i) = 14 * i := w32_e (by omega) (by omega)
      have e14q : w32 (14 * i + q) = 14 * i + q := w32_e (by omega) (by omega)
      show wpH _ 900 _ 254 _ true 284 [vR 13 0, vI k, vI p, vI (n : Int), vL (A q), vU, vI q, vL (R q q q), vU, vI i, vU, vU, vU] [] _ Q
      conv => whnf
      repeat' first
        | (refine And.intro (fun h => ?_) (fun h => ?_) <;> (try simp (disch := decide) only [cmp3_lt, cmp3_ge, cmp3_gt, cmp3_le, cmp3_eq, ms_q, ms_f, mf_q, mf_f, mc_q, mc_f, and_self, and_true, true_and, and_false, false_and, or_true, true_or, or_false, false_or, if_true, if_false, not_true_eq_false, not_false_eq_true, eq_self, reduceIte, Int.reduceEq, Int.reduceLT, Int.reduceLE, Int.reduceNeg, Int.reduceAdd, Int.reduceSub, Int.reduceMul, Int.add_sub_cancel] at h) <;> (try simp (disch := omega) only [w32_e, w64_e, td_pos, tm_pos, Int.add_sub_cancel, e73, h61, h62, hck] at h) <;> first | exact absurd rfl h | exact absurd h (by decide) | (exfalso; omega) | (conv => whnf))
        | (refine And.intro (by first | omega | ((try simp (disch := decide) only [cmp3_lt, cmp3_ge, cmp3_gt, cmp3_le, cmp3_eq, ms_q, ms_f, mf_q, mf_f, mc_q, mc_f, and_self, and_true, true_and, and_false, false_and, or_true, true_or, or_false, false_or, if_true, if_false, not_true_eq_false, not_false_eq_true, eq_self, reduceIte, Int.reduceEq, Int.reduceLT, Int.reduceLE, Int.reduceNeg, Int.reduceAdd, Int.reduceSub, Int.reduceMul, Int.add_sub_cancel]); (try simp (disch := omega) only [w32_e, w64_e, td_pos, tm_pos, Int.add_sub_cancel, e73, h61, h62, hck]); first | assumption | omega) | exact ⟨rfl, hpre1 (by omega)⟩ | exact ⟨rfl, hpre2 _ hv (by omega)⟩ | exact ⟨rfl, hprL (by omega)⟩ | (have f1 := hv.1; simp (disch := decide) only [f1]; (try simp (disch := omega) only [e73, h61, h62]); omega) | ((try simp (disch := decide) only [cmp3_lt, cmp3_ge, cmp3_gt, cmp3_le, cmp3_eq, ms_q, ms_f, mf_q, mf_f, mc_q, mc_f, and_self, and_true, true_and, and_false, false_and, or_true, true_or, or_false, false_or, if_true, if_false, not_true_eq_false, not_false_eq_true, eq_self, reduceIte, Int.reduceEq, Int.reduceLT, Int.reduceLE, Int.reduceNeg, Int.reduceAdd, Int.reduceSub, Int.reduceMul, Int.add_sub_cancel]); (try simp (disch := omega) only [w32_e, w64_e, td_pos, tm_pos, Int.add_sub_cancel, e73, h61, h62, hck]); ((repeat' (first | assumption | omega | with_reducible rfl | apply And.intro)); done))) ?_; conv => whnf)
        | (intro v; intro hv; conv => whnf)
      all_goals first
        | (have e9 : i = (n : Int) := by omega
           refine ⟨_, ?_, q + 1, by rw [eq1, tP q q0.1 q0.2], rfl, kp, ⟨by omega, by omega⟩, fr, h129, fun r x a b c d => ?_, fun r a b => ?_⟩
           · omega
           · by_cases z : r = q
             · rw [hrx r x a b (Or.inr z) c d, z]
               exact (tK q x q0.1 q0.2 c).symm
             · exact hnx r x a b (by omega) z c d
           · by_cases z : r = q
             · rw [hrr r a b (Or.inr z), z]
               exact (tK q n q0.1 q0.2 (by omega)).symm
             · exact hnr r a b (by omega) z)
        | (have e9 : i = q := by assumption
           refine ⟨_, ?_, q, i + 1, by rw [ei], rfl, kp, q0, ⟨by omega, by omega⟩, fr, h129, fun r x a b y c d => hrx r x a b (by omega) c d, fun r x a b y w c d => hnx r x a b (by omega) w c d, fun r a b y => hrr r a b (by omega), fun r a b y w => hnr r a b (by omega) w⟩
           omega)
        | (have e9 : ¬ i = q := by assumption
           have hlt : i < (n : Int) := by omega
           refine ⟨_, ?_, q, i, 0, by rw [e14, e14q, hrx i q i0.1 hlt (Or.inl (Int.le_refl _)) q0.1 q0.2], rfl, kp, q0, ⟨i0.1, hlt⟩, e9, ⟨Int.le_refl _, by omega⟩, fr, h129, fun r x a b y c d => hrx r x a b (by omega) c d, hnx, hrr, hnr, fun x a b => absurd b (by omega), fun x a b => hrx i x i0.1 hlt (Or.inl (Int.le_refl _)) a b⟩
           omega)
    · rintro n9 vs M9 ⟨q, i, j, rfl, rfl, kp, q0, i0, iq, j0, fr, h129, hrx, hnx, hrr, hnr, hj1, hj2⟩
      have e13 : M9 13 = M 13 := fr 13 (by decide) (by decide) (by decide) (by decide)
      have e73 : M9 13 0 73 = M 12 0 0 := by rw [e13]; exact hH.1
      have h61 := n14
      have h62 := n14
      have hck := n14
      have a9 := tA q q0.1 (by omega)
      have ei : w32 (i + 1) = i + 1 := w32_e (by omega) (by omega)
      have ej : w32 (j + 1) = j + 1 := w32_e (by omega) (by omega)
      have e14 : w32 (14 * i) = 14 * i := w32_e (by omega) (by omega)
      have e14j : w32 (14 * i + j) = 14 * i + j := w32_e (by omega) (by omega)
      have e14p : w32 (14 * q) = 14 * q := w32_e (by omega) (by omega)
      have e14k : w32 (14 * q + j) = 14 * q + j := w32_e (by omega) (by omega)
      have bq := (tB q q q q0.1 (by omega) q0.1 q0.2 q0.1 (by omega)).1 q0.2
      have bi := (tB q i q q0.1 (by omega) i0.1 i0.2 q0.1 (by omega)).1 q0.2
      have val : ∀ y, 0 ≤ y → y ≤ (n : Int) → w64 ((w64 (w64 (R q q q * R q i y) - w64 (R q i q * R q q y))).tdiv (A q)) = R (q + 1) i y := fun y y0 y1 => by
        have c1 := mul_bd bq (tB q i y q0.1 (by omega) i0.1 i0.2 y0 y1).2
        have c2 := mul_bd bi (tB q q y q0.1 (by omega) q0.1 q0.2 y0 y1).2
        rw [w64_e (x := R q q q * R q i y) (by omega) (by omega), w64_e (x := R q i q * R q q y) (by omega) (by omega), w64_e (x := R q q q * R q i y - R q i q * R q q y) (by omega) (by omega), tE q i y q0.1 q0.2 i0.1 i0.2 iq y0]
        have c3 := (tB (q + 1) i y (by omega) (by omega) i0.1 i0.2 y0 y1).2
        exact w64_e (by omega) (by omega)
      show wpH _ 900 _ 254 _ true 315 [vR 13 0, vI k, vI p, vI (n : Int), vL (A q), vU, vI q, vL (R q q q), vU, vI i, vL (R q i q), vU, vI j] [] _ Q
      conv => whnf
      repeat' first
        | (refine And.intro (fun h => ?_) (fun h => ?_) <;> (try simp (disch := decide) only [cmp3_lt, cmp3_ge, cmp3_gt, cmp3_le, cmp3_eq, ms_q, ms_f, mf_q, mf_f, mc_q, mc_f, and_self, and_true, true_and, and_false, false_and, or_true, true_or, or_false, false_or, if_true, if_false, not_true_eq_false, not_false_eq_true, eq_self, reduceIte, Int.reduceEq, Int.reduceLT, Int.reduceLE, Int.reduceNeg, Int.reduceAdd, Int.reduceSub, Int.reduceMul, Int.add_sub_cancel] at h) <;> (try simp (disch := omega) only [w32_e, w64_e, td_pos, tm_pos, Int.add_sub_cancel, e73, h61, h62, hck] at h) <;> first | exact absurd rfl h | exact absurd h (by decide) | (exfalso; omega) | (conv => whnf))
        | (refine And.intro (by first | omega | ((try simp (disch := decide) only [cmp3_lt, cmp3_ge, cmp3_gt, cmp3_le, cmp3_eq, ms_q, ms_f, mf_q, mf_f, mc_q, mc_f, and_self, and_true, true_and, and_false, false_and, or_true, true_or, or_false, false_or, if_true, if_false, not_true_eq_false, not_false_eq_true, eq_self, reduceIte, Int.reduceEq, Int.reduceLT, Int.reduceLE, Int.reduceNeg, Int.reduceAdd, Int.reduceSub, Int.reduceMul, Int.add_sub_cancel]); (try simp (disch := omega) only [w32_e, w64_e, td_pos, tm_pos, Int.add_sub_cancel, e73, h61, h62, hck]); first | assumption | omega) | exact ⟨rfl, hpre1 (by omega)⟩ | exact ⟨rfl, hpre2 _ hv (by omega)⟩ | exact ⟨rfl, hprL (by omega)⟩ | (have f1 := hv.1; simp (disch := decide) only [f1]; (try simp (disch := omega) only [e73, h61, h62]); omega) | ((try simp (disch := decide) only [cmp3_lt, cmp3_ge, cmp3_gt, cmp3_le, cmp3_eq, ms_q, ms_f, mf_q, mf_f, mc_q, mc_f, and_self, and_true, true_and, and_false, false_and, or_true, true_or, or_false, false_or, if_true, if_false, not_true_eq_false, not_false_eq_true, eq_self, reduceIte, Int.reduceEq, Int.reduceLT, Int.reduceLE, Int.reduceNeg, Int.reduceAdd, Int.reduceSub, Int.reduceMul, Int.add_sub_cancel]); (try simp (disch := omega) only [w32_e, w64_e, td_pos, tm_pos, Int.add_sub_cancel, e73, h61, h62, hck]); ((repeat' (first | assumption | omega | with_reducible rfl | apply And.intro)); done))) ?_; conv => whnf)
        | (intro v; intro hv; conv => whnf)
      all_goals first
        | (have e9 : j = (n : Int) := by omega
           refine ⟨_, ?_, q, i + 1, by rw [ei], rfl, kp, q0, ⟨by omega, by omega⟩, fun p a b c d => by rw [ms_q c]; exact fr p a b c d, by rw [ms_q (by decide)]; exact h129, fun r x a b y c d => ?_, fun r x a b y w c d => ?_, fun r a b y => ?_, fun r a b y w => ?_⟩
           · omega
           · rw [ms_q (by decide)]
             exact hrx r x a b (by omega) c d
           · rw [ms_q (by decide)]
             by_cases z : r = i
             · rw [z]
               exact hj1 x c (by omega)
             · exact hnx r x a b (by omega) w c d
           · rw [ms_f, if_neg (by omega)]
             exact hrr r a b (by omega)
           · rw [ms_f]
             by_cases z : r = i
             · rw [if_pos ⟨rfl, z⟩, z, hrr i i0.1 i0.2 (Or.inl (Int.le_refl _)), hrr q q0.1 q0.2 (Or.inr rfl)]
               exact val n (by omega) (Int.le_refl _)
             · rw [if_neg (fun y => z y.2)]
               exact hnr r a b (by omega) w)
        | (have e9 : j < (n : Int) := by omega
           refine ⟨_, ?_, q, i, j + 1, by rw [ej], rfl, kp, q0, i0, iq, ⟨by omega, by omega⟩, fun p a b c d => by rw [ms_q b]; exact fr p a b c d, by rw [ms_q (by decide)]; exact h129, fun r x a b y c d => ?_, fun r x a b y w c d => ?_, ?_, ?_, fun x a b => ?_, fun x a b => ?_⟩
           · omega
           · rw [ms_f, e14, e14j, if_neg (by omega)]
             exact hrx r x a b y c d
           · rw [ms_f, e14, e14j, if_neg (by omega)]
             exact hnx r x a b y w c d
           · rw [ms_q (by decide)]
             exact hrr
           · rw [ms_q (by decide)]
             exact hnr
           · rw [ms_f, e14, e14j]
             by_cases z : x = j
             · rw [if_pos ⟨rfl, by omega⟩, z, hj2 j (Int.le_refl _) e9, e14p, e14k, hrx q j q0.1 q0.2 (Or.inr rfl) j0.1 e9]
               exact val j j0.1 (by omega)
             · rw [if_neg (by omega)]
               exact hj1 x a (by omega)
           · rw [ms_f, e14, e14j, if_neg (by omega)]
             exact hj2 x (by omega) b)
  refine Vd_run (GGQ_ok (l := l) (ω := ω)) 900 (hC := key 95000) (by decide) ?_
  conv => whnf
  refine And.intro ⟨rfl, hH, hab, n14⟩ ?_
  intro M1 h1
  obtain ⟨f1, h1⟩ := h1
  conv => whnf
  refine And.intro ⟨by omega, by omega⟩ ?_
  conv => whnf
  refine And.intro ⟨rfl, p, hp6, by rw [h1]; exact hpd⟩ ?_
  intro rt hrt
  rw [h1] at hrt
  have ert : rt = p := by
    have q1 := hpm rt hrt.1.1 hrt.1.2 hrt.2.1
    have q2 : ¬ p < rt := fun z => hrt.2.2 p hp6.1 z hpd
    omega
  subst ert
  conv => whnf
  refine ⟨_, ?_, 0, 0, rfl, rfl, ⟨Int.le_refl _, by decide⟩, fun q a b => f1 q a, h1, ?_, rfl⟩
  · omega
  · rw [f1 129 (by decide)]
    rfl
