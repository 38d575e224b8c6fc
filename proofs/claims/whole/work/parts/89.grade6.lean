/-! ===== grades, the class: clearCell, addTo (wip/gen/p45.py) ===== -/
theorem td_bd {x b B : Int} (hb : 1 ≤ b) (h : -B ≤ x ∧ x ≤ B) : -B ≤ x.tdiv b ∧ x.tdiv b ≤ B := by
  by_cases c : 0 ≤ x
  · rw [Int.tdiv_eq_ediv_of_nonneg c]
    have h1 := Int.ediv_le_self b c
    have h2 : 0 ≤ x / b := Int.ediv_nonneg c (by omega)
    omega
  · have e : x = -(-x) := by omega
    rw [e, Int.neg_tdiv, Int.tdiv_eq_ediv_of_nonneg (by omega)]
    have h1 := Int.ediv_le_self b (by omega : 0 ≤ -x)
    have h2 : 0 ≤ -x / b := Int.ediv_nonneg (by omega) (by omega)
    omega

def sp_ccC : Spec1 := fun as M Q => match as with
  | [.inr (.inr (.inl (q0, i0))), .inl i, .inl k, .inr (.inl pv)] => match Nat.beq q0 12 with
    | true => (i0 = 0 ∧ ((0 ≤ i ∧ i < 14) ∧ (0 ≤ k ∧ k < 14) ∧ ¬ k = i) ∧ (0 ≤ M 12 0 6 ∧ M 12 0 6 ≤ 13) ∧ 1 ≤ M 12 0 9 ∧ (∀ j, 0 ≤ j → j ≤ M 12 0 6 → (-1000000000000000000 ≤ pv * M 67 i j ∧ pv * M 67 i j ≤ 1000000000000000000) ∧ (-1000000000000000000 ≤ M 67 i k * M 67 k j ∧ M 67 i k * M 67 k j ≤ 1000000000000000000))) ∧ ∀ M9, ((∀ p, p ≠ 67 → M9 p = M p) ∧ (∀ r, r ≠ i → M9 67 r = M 67 r) ∧ (∀ x, 0 ≤ x → x ≤ M 12 0 6 → M9 67 i x = (pv * M 67 i x - M 67 i k * M 67 k x).tdiv (M 12 0 9))) → Q none M9
    | false => False
  | _ => False
theorem ok_ccC {l : Launch} {ω : WP} : ∀ as M Q, sp_ccC as M Q → Vd l ω 1 17 as M Q := by
  intro as M Q h
  unfold sp_ccC at h
  split at h
  case h_2 => exact h.elim
  rename_i q0 i0 i k pv
  cases hb : Nat.beq q0 12 with
  | false => rw [hb] at h; exact h.elim
  | true =>
  rw [hb] at h
  obtain ⟨⟨hi, hik, n13, b1, hbd⟩, hQ⟩ := h
  have hb := beq_eq hb
  subst hb
  subst hi
  refine Vd.ok fun hok hal => ?_
  have e12 := n13
  have ekj := n13
  have eij := n13
  have w1 := n13
  have w2 := n13
  have w3 := n13
  have key : ∀ n9, CutOK l ω 1 17 (cutL [(13, [0, 1, 2, 3, 5, 7], fun kk vs M9 => ∃ j : Int, vs = [vR 12 0, vI i, vI k, vL pv, vL (M 67 i k), vI j] ∧ kk = (1000 - j).toNat ∧ (0 ≤ j ∧ j ≤ M 12 0 6 + 1) ∧ (∀ p, p ≠ 67 → M9 p = M p) ∧ (∀ r, r ≠ i → M9 67 r = M 67 r) ∧ (∀ x, 0 ≤ x → x < j → M9 67 i x = (pv * M 67 i x - M 67 i k * M 67 k x).tdiv (M 12 0 9)) ∧ (∀ x, j ≤ x → M9 67 i x = M 67 i x))] n9) Q := by
    refine loops (GGL_ok (l := l) (ω := ω)) 600 _ ?_
    refine List.forall_mem_cons.mpr ⟨?_, fun _ h => absurd h List.not_mem_nil⟩
    · rintro n9 vs M9 ⟨j, rfl, rfl, j0, fr, fa, hd, hu⟩
      have e12 : M9 12 = M 12 := fr 12 (by decide)
      have ej : w32 (j + 1) = j + 1 := w32_e (by omega) (by omega)
      have ek : M9 67 k = M 67 k := fa k hik.2.2
      have ekj : M9 67 k j = M 67 k j := by rw [ek]
      have eij : M9 67 i j = M 67 i j := hu j (Int.le_refl _)
      have w1 : j ≤ M 12 0 6 → w64 (pv * M 67 i j) = pv * M 67 i j := fun z => by
        have := hbd j j0.1 z
        exact w64_e (by omega) (by omega)
      have w2 : j ≤ M 12 0 6 → w64 (M 67 i k * M 67 k j) = M 67 i k * M 67 k j := fun z => by
        have := hbd j j0.1 z
        exact w64_e (by omega) (by omega)
      have w3 : j ≤ M 12 0 6 → w64 (pv * M 67 i j - M 67 i k * M 67 k j) = (pv * M 67 i j - M 67 i k * M 67 k j) := fun z => by
        have := hbd j j0.1 z
        exact w64_e (by omega) (by omega)
      have w4 : j ≤ M 12 0 6 → w64 ((pv * M 67 i j - M 67 i k * M 67 k j).tdiv (M 12 0 9)) = (pv * M 67 i j - M 67 i k * M 67 k j).tdiv (M 12 0 9) := fun z => by
        have := hbd j j0.1 z
        have q := td_bd (x := (pv * M 67 i j - M 67 i k * M 67 k j)) (B := 2000000000000000000) b1 (by omega)
        exact w64_e (by omega) (by omega)
      show wpH _ 600 _ 17 _ true 13 [vR 12 0, vI i, vI k, vL pv, vU, vL (M 67 i k), vU, vI j] [] _ Q
      conv => whnf
      repeat' first
        | (refine And.intro (fun h => ?_) (fun h => ?_) <;> (try simp (disch := decide) only [cmp3_lt, cmp3_ge, cmp3_gt, cmp3_le, cmp3_eq, ms_q, ms_f, mf_q, mf_f, mc_q, mc_f, and_self, and_true, true_and, and_false, false_and, or_true, true_or, or_false, false_or, if_true, if_false, not_true_eq_false, not_false_eq_true, eq_self, reduceIte, Int.reduceEq, Int.reduceLT, Int.reduceLE, Int.reduceNeg, Int.reduceAdd, Int.reduceSub, Int.reduceMul, Int.add_sub_cancel] at h) <;> (try simp (disch := omega) only [w32_e, w64_e, td_pos, tm_pos, Int.add_sub_cancel, e12, ekj, eij] at h) <;> first | exact absurd rfl h | exact absurd h (by decide) | (exfalso; omega) | (conv => whnf))
        | (refine And.intro (by first | omega | ((try simp (disch := decide) only [cmp3_lt, cmp3_ge, cmp3_gt, cmp3_le, cmp3_eq, ms_q, ms_f, mf_q, mf_f, mc_q, mc_f, and_self, and_true, true_and, and_false, false_and, or_true, true_or, or_false, false_or, if_true, if_false, not_true_eq_false, not_false_eq_true, eq_self, reduceIte, Int.reduceEq, Int.reduceLT, Int.reduceLE, Int.reduceNeg, Int.reduceAdd, Int.reduceSub, Int.reduceMul, Int.add_sub_cancel]); (try simp (disch := omega) only [w32_e, w64_e, td_pos, tm_pos, Int.add_sub_cancel, e12, ekj, eij]); first | assumption | omega) | ((try simp (disch := decide) only [cmp3_lt, cmp3_ge, cmp3_gt, cmp3_le, cmp3_eq, ms_q, ms_f, mf_q, mf_f, mc_q, mc_f, and_self, and_true, true_and, and_false, false_and, or_true, true_or, or_false, false_or, if_true, if_false, not_true_eq_false, not_false_eq_true, eq_self, reduceIte, Int.reduceEq, Int.reduceLT, Int.reduceLE, Int.reduceNeg, Int.reduceAdd, Int.reduceSub, Int.reduceMul, Int.add_sub_cancel]); (try simp (disch := omega) only [w32_e, w64_e, td_pos, tm_pos, Int.add_sub_cancel, e12, ekj, eij]); ((repeat' (first | assumption | omega | with_reducible rfl | apply And.intro)); done))) ?_; conv => whnf)
        | (intro v; intro hv; conv => whnf)
      all_goals first
        | exact hQ M9 ⟨fr, fa, fun x a b => hd x a (by omega)⟩
        | (exfalso; omega)
        | (have hle : j ≤ M 12 0 6 := by omega
           refine ⟨_, ?_, j + 1, by rw [ej], rfl, ⟨by omega, by omega⟩, fun p z => by rw [ms_q z]; exact fr p z, fun r z => ?_, fun x a b => ?_, fun x a => ?_⟩
           · omega
           · funext x
             rw [ms_f, if_neg (fun y => z y.1)]
             exact congrFun (fa r z) x
           · rw [ms_f]
             by_cases c : x = j
             · rw [if_pos ⟨rfl, c⟩, c]
               first
                 | (rw [eij, ekj, e12, w1 hle, w2 hle, w3 hle, w4 hle]; done)
                 | (rw [w1 hle, w2 hle, w3 hle, w4 hle]; done)
             · rw [if_neg (fun y => c y.2)]
               exact hd x a (by omega)
           · rw [ms_f, if_neg (by omega)]
             exact hu x (by omega))
  refine Vd_run (GGL_ok (l := l) (ω := ω)) 600 (hC := key 5000) (by decide) ?_
  conv => whnf
  repeat' first
    | (refine And.intro (fun h => ?_) (fun h => ?_) <;> (try simp (disch := decide) only [cmp3_lt, cmp3_ge, cmp3_gt, cmp3_le, cmp3_eq, ms_q, ms_f, mf_q, mf_f, mc_q, mc_f, and_self, and_true, true_and, and_false, false_and, or_true, true_or, or_false, false_or, if_true, if_false, not_true_eq_false, not_false_eq_true, eq_self, reduceIte, Int.reduceEq, Int.reduceLT, Int.reduceLE, Int.reduceNeg, Int.reduceAdd, Int.reduceSub, Int.reduceMul, Int.add_sub_cancel] at h) <;> (try simp (disch := omega) only [w32_e, w64_e, td_pos, tm_pos, Int.add_sub_cancel, e12, ekj, eij] at h) <;> first | exact absurd rfl h | exact absurd h (by decide) | (exfalso; omega) | (conv => whnf))
    | (refine And.intro (by first | omega | ((try simp (disch := decide) only [cmp3_lt, cmp3_ge, cmp3_gt, cmp3_le, cmp3_eq, ms_q, ms_f, mf_q, mf_f, mc_q, mc_f, and_self, and_true, true_and, and_false, false_and, or_true, true_or, or_false, false_or, if_true, if_false, not_true_eq_false, not_false_eq_true, eq_self, reduceIte, Int.reduceEq, Int.reduceLT, Int.reduceLE, Int.reduceNeg, Int.reduceAdd, Int.reduceSub, Int.reduceMul, Int.add_sub_cancel]); (try simp (disch := omega) only [w32_e, w64_e, td_pos, tm_pos, Int.add_sub_cancel, e12, ekj, eij]); first | assumption | omega) | ((try simp (disch := decide) only [cmp3_lt, cmp3_ge, cmp3_gt, cmp3_le, cmp3_eq, ms_q, ms_f, mf_q, mf_f, mc_q, mc_f, and_self, and_true, true_and, and_false, false_and, or_true, true_or, or_false, false_or, if_true, if_false, not_true_eq_false, not_false_eq_true, eq_self, reduceIte, Int.reduceEq, Int.reduceLT, Int.reduceLE, Int.reduceNeg, Int.reduceAdd, Int.reduceSub, Int.reduceMul, Int.add_sub_cancel]); (try simp (disch := omega) only [w32_e, w64_e, td_pos, tm_pos, Int.add_sub_cancel, e12, ekj, eij]); ((repeat' (first | assumption | omega | with_reducible rfl | apply And.intro)); done))) ?_; conv => whnf)
    | (intro v; intro hv; conv => whnf)
  all_goals
    (refine ⟨_, ?_, 0, rfl, rfl, ⟨Int.le_refl _, by omega⟩, fun _ _ => rfl, fun _ _ => rfl, fun x a b => absurd b (by omega), fun _ _ => rfl⟩
     omega)

def adM (M : Mem) (r c v : Int) : Mem := if ¬ r = -4 ∧ ¬ c = -4 then mset M 67 r c (M 67 r c + v) else M
def adF (R : Int → Int → Int) (r c v : Int) : Int → Int → Int := fun i j => if (¬ r = -4 ∧ ¬ c = -4) ∧ (i = r ∧ j = c) then R i j + v else R i j
theorem adM_q {M : Mem} {p : Nat} {r c v : Int} (h : p ≠ 67) : adM M r c v p = M p := by
  unfold adM
  split
  · exact ms_q h
  · rfl
theorem adM_67 {M : Mem} {r c v : Int} : adM M r c v 67 = adF (M 67) r c v := by
  funext i j
  unfold adM adF
  by_cases q : ¬ r = -4 ∧ ¬ c = -4
  · rw [if_pos q, ms_f]
    by_cases z : i = r ∧ j = c
    · rw [if_pos z, if_pos ⟨q, z⟩, z.1, z.2]
    · rw [if_neg z, if_neg (fun y => z y.2)]
  · rw [if_neg q, if_neg (fun y => q y.1)]
def bB (R : Int → Int → Int) (n B : Int) : Prop := ∀ i j, 0 ≤ i → i < n → 0 ≤ j → j ≤ n → -B ≤ R i j ∧ R i j ≤ B
theorem adF_e {R : Int → Int → Int} {r c v i j : Int} (i0 : 0 ≤ i) (j0 : 0 ≤ j) : adF R r c v i j = R i j + (if r = i ∧ c = j then v else 0) := by
  unfold adF
  by_cases q : r = i ∧ c = j
  · rw [if_pos q, if_pos ⟨⟨by omega, by omega⟩, by omega⟩]
  · rw [if_neg q, if_neg (fun y => q ⟨y.2.1.symm, y.2.2.symm⟩)]
    omega
theorem bB_ad {R : Int → Int → Int} {n B r c v : Int} (h : bB R n B) (hv : 0 ≤ v ∧ v ≤ 95) : bB (adF R r c v) n (B + 95) := fun i j i0 i1 j0 j1 => by
  have := h i j i0 i1 j0 j1
  rw [adF_e i0 j0]
  split <;> omega
theorem ad_six {R : Int → Int → Int} {x y n t i j : Int} (i0 : 0 ≤ i) (i1 : i < n) (j0 : 0 ≤ j) (j1 : j ≤ n) (hx : x = -4 ∨ (0 ≤ x ∧ x < n)) (hy : y = -4 ∨ (0 ≤ y ∧ y < n)) (hxy : x = y → x = -4) : adF (adF (adF (adF (adF (adF R x x 1) y y 1) x y 1) y x 1) x n t) y n t i j = R i j + (if x = i ∨ y = i then 1 else 0) * (if j < n then (if x = j ∨ y = j then 1 else 0) else t) := by
  rw [adF_e i0 j0, adF_e i0 j0, adF_e i0 j0, adF_e i0 j0, adF_e i0 j0, adF_e i0 j0]
  by_cases c1 : x = i
  · by_cases c2 : j < n
    · by_cases c3 : x = j
      · simp (disch := omega) only [if_pos, if_neg, Int.one_mul, Int.zero_mul]
        omega
      · by_cases c4 : y = j
        · simp (disch := omega) only [if_pos, if_neg, Int.one_mul, Int.zero_mul]
          omega
        · simp (disch := omega) only [if_pos, if_neg, Int.one_mul, Int.zero_mul]
          omega
    · simp (disch := omega) only [if_pos, if_neg, Int.one_mul, Int.zero_mul]
      omega
  · by_cases c5 : y = i
    · by_cases c2 : j < n
      · by_cases c3 : x = j
        · simp (disch := omega) only [if_pos, if_neg, Int.one_mul, Int.zero_mul]
          omega
        · by_cases c4 : y = j
          · simp (disch := omega) only [if_pos, if_neg, Int.one_mul, Int.zero_mul]
            omega
          · simp (disch := omega) only [if_pos, if_neg, Int.one_mul, Int.zero_mul]
            omega
      · simp (disch := omega) only [if_pos, if_neg, Int.one_mul, Int.zero_mul]
        omega
    · simp (disch := omega) only [if_pos, if_neg, Int.one_mul, Int.zero_mul]
      omega

def sp_adC : Spec1 := fun as M Q => match as with
  | [.inr (.inr (.inl (q0, i0))), .inl r, .inl c, .inl v] => match Nat.beq q0 12 with
    | true => (i0 = 0 ∧ ((r = -4 ∨ (0 ≤ r ∧ r < 14)) ∧ (c = -4 ∨ (0 ≤ c ∧ c < 15)) ∧ (0 ≤ v ∧ v ≤ 95)) ∧ (¬ r = -4 → ¬ c = -4 → -1000000 ≤ M 67 r c ∧ M 67 r c ≤ 1000000)) ∧ Q none (adM M r c v)
    | false => False
  | _ => False
theorem ok_adC {l : Launch} {ω : WP} : ∀ as M Q, sp_adC as M Q → Vd l ω 1 15 as M Q := by
  intro as M Q h
  unfold sp_adC at h
  split at h
  case h_2 => exact h.elim
  rename_i q0 i0 r c v
  cases hb : Nat.beq q0 12 with
  | false => rw [hb] at h; exact h.elim
  | true =>
  rw [hb] at h
  obtain ⟨⟨hi, hv, hm⟩, hQ⟩ := h
  have hb := beq_eq hb
  subst hb
  subst hi
  refine Vd.ok fun hok hal => ?_
  have wv : ¬ r = -4 → ¬ c = -4 → w64 (M 67 r c + v) = M 67 r c + v := fun a b => by
    have := hm a b
    exact w64_e (by omega) (by omega)
  unfold adM at hQ
  have wq : w64 v = v := w64_e (by omega) (by omega)
  refine Vd_run (GGL_ok (l := l) (ω := ω)) 400 (cut := fun _ => none) (by decide) CutOK_none ?_
  conv => whnf
  repeat' first
    | (refine And.intro (fun h => ?_) (fun h => ?_) <;> (try simp (disch := decide) only [cmp3_lt, cmp3_ge, cmp3_gt, cmp3_le, cmp3_eq, ms_q, ms_f, mf_q, mf_f, mc_q, mc_f, and_self, and_true, true_and, and_false, false_and, or_true, true_or, or_false, false_or, if_true, if_false, not_true_eq_false, not_false_eq_true, eq_self, reduceIte, Int.reduceEq, Int.reduceLT, Int.reduceLE, Int.reduceNeg, Int.reduceAdd, Int.reduceSub, Int.reduceMul, Int.add_sub_cancel] at h) <;> (try simp (disch := omega) only [w32_e, w64_e, td_pos, tm_pos, Int.add_sub_cancel, wv, wq] at h) <;> first | exact absurd rfl h | exact absurd h (by decide) | (exfalso; omega) | (conv => whnf))
    | (refine And.intro (by first | omega | ((try simp (disch := decide) only [cmp3_lt, cmp3_ge, cmp3_gt, cmp3_le, cmp3_eq, ms_q, ms_f, mf_q, mf_f, mc_q, mc_f, and_self, and_true, true_and, and_false, false_and, or_true, true_or, or_false, false_or, if_true, if_false, not_true_eq_false, not_false_eq_true, eq_self, reduceIte, Int.reduceEq, Int.reduceLT, Int.reduceLE, Int.reduceNeg, Int.reduceAdd, Int.reduceSub, Int.reduceMul, Int.add_sub_cancel]); (try simp (disch := omega) only [w32_e, w64_e, td_pos, tm_pos, Int.add_sub_cancel, wv, wq]); first | assumption | omega) | ((try simp (disch := decide) only [cmp3_lt, cmp3_ge, cmp3_gt, cmp3_le, cmp3_eq, ms_q, ms_f, mf_q, mf_f, mc_q, mc_f, and_self, and_true, true_and, and_false, false_and, or_true, true_or, or_false, false_or, if_true, if_false, not_true_eq_false, not_false_eq_true, eq_self, reduceIte, Int.reduceEq, Int.reduceLT, Int.reduceLE, Int.reduceNeg, Int.reduceAdd, Int.reduceSub, Int.reduceMul, Int.add_sub_cancel]); (try simp (disch := omega) only [w32_e, w64_e, td_pos, tm_pos, Int.add_sub_cancel, wv, wq]); ((repeat' (first | assumption | omega | with_reducible rfl | apply And.intro)); done))) ?_; conv => whnf)
    | (intro v; intro hv; conv => whnf)
  all_goals ((try simp (disch := decide) only [cmp3_lt, cmp3_ge, cmp3_gt, cmp3_le, cmp3_eq, ms_q, ms_f, mf_q, mf_f, mc_q, mc_f, and_self, and_true, true_and, and_false, false_and, or_true, true_or, or_false, false_or, if_true, if_false, not_true_eq_false, not_false_eq_true, eq_self, reduceIte, Int.reduceEq, Int.reduceLT, Int.reduceLE, Int.reduceNeg, Int.reduceAdd, Int.reduceSub, Int.reduceMul, Int.add_sub_cancel] at *); (try simp (disch := omega) only [w32_e, w64_e, td_pos, tm_pos, Int.add_sub_cancel, wv, wq] at *))
  all_goals first
    | (rw [if_neg (fun z => z.1 (by assumption))] at hQ; exact hQ)
    | (rw [if_neg (fun z => z.2 (by assumption))] at hQ; exact hQ)
    | (rw [if_pos ⟨by assumption, by assumption⟩] at hQ; exact hQ)
