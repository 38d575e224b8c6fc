/-! ===== pair share (wip/gen/p11.py) ===== -/
def cn (x : Int) : Int → Int := itI (fun g n => n + bitI x g) 0
theorem cn_s {x i : Int} (h : 0 ≤ i) : cn x (i + 1) = cn x i + bitI x i := itI_succ h
theorem cn_0 (x : Int) : cn x 0 = 0 := rfl
theorem cn_mono {x i : Int} : ∀ k : Nat, 0 ≤ i → cn x i ≤ cn x (i + (k : Int))
  | 0, _ => by simp
  | k + 1, h => by
    have a := cn_mono (x := x) (i := i) k h
    have b := cn_s (x := x) (i := i + (k : Int)) (by omega)
    have c := bit_01 x (i + k)
    have e : i + ((k + 1 : Nat) : Int) = i + (k : Int) + 1 := by omega
    rw [e, b]
    omega
theorem cn_le {x i j : Int} (h : 0 ≤ i) (hj : i ≤ j) : cn x i ≤ cn x j := by
  have := cn_mono (x := x) (i := i) (j - i).toNat h
  have e : i + ((j - i).toNat : Int) = j := by omega
  rw [e] at this
  exact this
theorem cn_nn {x i : Int} (h : 0 ≤ i) : 0 ≤ cn x i := cn_le (i := 0) (by omega) h
theorem cn_t : ∀ x : Nat, x < 512 → 1 ≤ x → 1 ≤ cn (x : Int) 9 ∧ cn (x : Int) 9 ≤ 9 := by decide +kernel
theorem cn_in {x : Int} (h0 : 1 ≤ x) (h1 : x < 512) : 1 ≤ cn x 9 ∧ cn x 9 ≤ 9 := by
  have := cn_t x.toNat (by omega) (by omega)
  rw [Int.toNat_of_nonneg (by omega)] at this
  exact this
def bcx (v : Int) : Int :=
  let a := w32 (v - (Int32.ofInt ((Int32.ofInt v).toUInt32 >>> ((Int32.ofInt 1).toUInt32 &&& Int32.toUInt32 31)).toInt32.toInt &&& Int32.ofInt 1431655765).toInt)
  let b := w32 ((Int32.ofInt a &&& Int32.ofInt 858993459).toInt + (Int32.ofInt ((Int32.ofInt a).toUInt32 >>> ((Int32.ofInt 2).toUInt32 &&& Int32.toUInt32 31)).toInt32.toInt &&& Int32.ofInt 858993459).toInt)
  let c := (Int32.ofInt (w32 (b + ((Int32.ofInt b).toUInt32 >>> ((Int32.ofInt 4).toUInt32 &&& Int32.toUInt32 31)).toInt32.toInt)) &&& Int32.ofInt 252645135).toInt
  let d := w32 (c + ((Int32.ofInt c).toUInt32 >>> ((Int32.ofInt 8).toUInt32 &&& Int32.toUInt32 31)).toInt32.toInt)
  let e := w32 (d + ((Int32.ofInt d).toUInt32 >>> ((Int32.ofInt 16).toUInt32 &&& Int32.toUInt32 31)).toInt32.toInt)
  (Int32.ofInt e &&& Int32.ofInt 63).toInt
theorem bc_t : ∀ x : Nat, x < 512 → bcx (x : Int) = cn (x : Int) 9 := by decide +kernel
theorem bc_e {x : Int} (h0 : 0 ≤ x) (h1 : x < 512) : bcx x = cn x 9 := by
  have := bc_t x.toNat (by omega)
  rw [Int.toNat_of_nonneg h0] at this
  exact this
theorem sh_t : ∀ n : Nat, n < 10 → (Int32.ofInt 1 <<< (Int32.ofInt (n : Int) &&& 31)).toInt = ((2 ^ n : Nat) : Int) := by decide +kernel
theorem sh_e {n : Int} (h0 : 0 ≤ n) (h1 : n < 10) : (Int32.ofInt 1 <<< (Int32.ofInt n &&& 31)).toInt = 2 ^ n.toNat := by
  have := sh_t n.toNat (by omega)
  rw [Int.toNat_of_nonneg h0] at this
  rw [this]
  exact_mod_cast rfl
theorem pw_in {n : Int} (h0 : 0 ≤ n) (h1 : n ≤ 9) : (1 : Int) ≤ 2 ^ n.toNat ∧ (2 : Int) ^ n.toNat ≤ 512 := by
  have a := pw_le (a := 0) (by omega) h0
  have b := pw_le h0 h1
  exact ⟨a, b⟩

def sp_bcC : Spec1 := fun as M Q => match as with
  | [.inl v] => (True) ∧ ∀ w, (0 ≤ v → v < 512 → w = cn v 9) → Q (some (vI w)) M
  | _ => False
theorem ok_bcC {l : Launch} {ω : WP} : ∀ as M Q, sp_bcC as M Q → Vd l ω 0 286 as M Q := by
  intro as M Q h
  unfold sp_bcC at h
  split at h
  case h_2 => exact h.elim
  rename_i v
  obtain ⟨⟨_⟩, hQ⟩ := h
  refine Vd.ok fun hok hal => ?_
  refine Vd_run (GGh_ok (l := l) (ω := ω)) 100 (cut := fun _ => none) (by decide) CutOK_none ?_
  conv => whnf
  exact hQ _ (fun a b => bc_e a b)

def sp_biM : Spec1 := fun as M Q => match as with
  | [.inl v] => ((0 ≤ v ∧ v < 512)) ∧ Q (some (vI (cn v 9))) M
  | _ => False
theorem ok_biM {l : Launch} {ω : WP} : ∀ as M Q, sp_biM as M Q → Vd l ω 0 231 as M Q := by
  intro as M Q h
  unfold sp_biM at h
  split at h
  case h_2 => exact h.elim
  rename_i v
  obtain ⟨⟨h1⟩, hQ⟩ := h
  refine Vd.ok fun hok hal => ?_
  have key : ∀ n9, CutOK l ω 0 231 (cutL [(4, [0, 1, 2], fun kk vs M9 => ∃ n i : Int, vs = [vI v, vI n, vI i] ∧ M = M9 ∧ kk = (9 - i).toNat ∧ (0 ≤ i ∧ i ≤ 9) ∧ (0 ≤ n ∧ n ≤ i) ∧ n = cn v i)] n9) Q := by
    refine loops (GGh_ok (l := l) (ω := ω)) 100 _ ?_
    refine List.forall_mem_cons.mpr ⟨?_, fun _ h => absurd h List.not_mem_nil⟩
    · rintro n9 vs M9 ⟨n, i, rfl, rfl, rfl, i0, n0, g1⟩
      have q7 := bit_01 v i
      show wpH _ 100 _ 231 _ true 4 [vI v, vI n, vI i] [] _ Q
      conv => whnf
      repeat' first
        | (refine And.intro (fun h => ?_) (fun h => ?_) <;> (try simp (disch := decide) only [cmp3_lt, cmp3_ge, cmp3_gt, cmp3_le, cmp3_eq, ms_q, ms_f, mf_q, mf_f, mc_q, mc_f, and_self, and_true, true_and, and_false, false_and, or_true, true_or, or_false, false_or, if_true, if_false, not_true_eq_false, not_false_eq_true, eq_self, reduceIte, Int.reduceEq, Int.reduceLT, Int.reduceLE, Int.reduceNeg, Int.reduceAdd, Int.reduceSub, Int.reduceMul, Int.add_sub_cancel] at h) <;> (try simp (disch := omega) only [w32_e, w64_e, td_pos, tm_pos, Int.add_sub_cancel, bit_e] at h) <;> first | exact absurd rfl h | exact absurd h (by decide) | (exfalso; omega) | (conv => whnf))
        | (refine And.intro (by first | omega | ((try simp (disch := decide) only [cmp3_lt, cmp3_ge, cmp3_gt, cmp3_le, cmp3_eq, ms_q, ms_f, mf_q, mf_f, mc_q, mc_f, and_self, and_true, true_and, and_false, false_and, or_true, true_or, or_false, false_or, if_true, if_false, not_true_eq_false, not_false_eq_true, eq_self, reduceIte, Int.reduceEq, Int.reduceLT, Int.reduceLE, Int.reduceNeg, Int.reduceAdd, Int.reduceSub, Int.reduceMul, Int.add_sub_cancel]); (try simp (disch := omega) only [w32_e, w64_e, td_pos, tm_pos, Int.add_sub_cancel, bit_e]); first | assumption | omega) | ((try simp (disch := decide) only [cmp3_lt, cmp3_ge, cmp3_gt, cmp3_le, cmp3_eq, ms_q, ms_f, mf_q, mf_f, mc_q, mc_f, and_self, and_true, true_and, and_false, false_and, or_true, true_or, or_false, false_or, if_true, if_false, not_true_eq_false, not_false_eq_true, eq_self, reduceIte, Int.reduceEq, Int.reduceLT, Int.reduceLE, Int.reduceNeg, Int.reduceAdd, Int.reduceSub, Int.reduceMul, Int.add_sub_cancel]); (try simp (disch := omega) only [w32_e, w64_e, td_pos, tm_pos, Int.add_sub_cancel, bit_e]); (repeat' (first | assumption | omega | with_reducible rfl | apply And.intro)))) ?_; conv => whnf)
        | (intro v; intro hv; conv => whnf)
      all_goals first
        | (have e9 : i = 9 := by omega
           subst e9
           rw [g1]
           exact hQ)
        | (refine ⟨_, ?_, _, _, rfl, rfl, rfl, ?_, ?_, ?_⟩ <;> ((try simp (disch := decide) only [cmp3_lt, cmp3_ge, cmp3_gt, cmp3_le, cmp3_eq, ms_q, ms_f, mf_q, mf_f, mc_q, mc_f, and_self, and_true, true_and, and_false, false_and, or_true, true_or, or_false, false_or, if_true, if_false, not_true_eq_false, not_false_eq_true, eq_self, reduceIte, Int.reduceEq, Int.reduceLT, Int.reduceLE, Int.reduceNeg, Int.reduceAdd, Int.reduceSub, Int.reduceMul, Int.add_sub_cancel]); (try simp (disch := omega) only [w32_e, w64_e, td_pos, tm_pos, Int.add_sub_cancel, bit_e])) <;> first | omega | (rw [cn_s (by omega)]; omega))
  refine Vd_run (GGh_ok (l := l) (ω := ω)) 100 (hC := key 100) (by decide) ?_
  conv => whnf
  repeat' first
    | (refine And.intro (fun h => ?_) (fun h => ?_) <;> (try simp (disch := decide) only [cmp3_lt, cmp3_ge, cmp3_gt, cmp3_le, cmp3_eq, ms_q, ms_f, mf_q, mf_f, mc_q, mc_f, and_self, and_true, true_and, and_false, false_and, or_true, true_or, or_false, false_or, if_true, if_false, not_true_eq_false, not_false_eq_true, eq_self, reduceIte, Int.reduceEq, Int.reduceLT, Int.reduceLE, Int.reduceNeg, Int.reduceAdd, Int.reduceSub, Int.reduceMul, Int.add_sub_cancel] at h) <;> (try simp (disch := omega) only [w32_e, w64_e, td_pos, tm_pos, Int.add_sub_cancel, bit_e] at h) <;> first | exact absurd rfl h | exact absurd h (by decide) | (exfalso; omega) | (conv => whnf))
    | (refine And.intro (by first | omega | ((try simp (disch := decide) only [cmp3_lt, cmp3_ge, cmp3_gt, cmp3_le, cmp3_eq, ms_q, ms_f, mf_q, mf_f, mc_q, mc_f, and_self, and_true, true_and, and_false, false_and, or_true, true_or, or_false, false_or, if_true, if_false, not_true_eq_false, not_false_eq_true, eq_self, reduceIte, Int.reduceEq, Int.reduceLT, Int.reduceLE, Int.reduceNeg, Int.reduceAdd, Int.reduceSub, Int.reduceMul, Int.add_sub_cancel]); (try simp (disch := omega) only [w32_e, w64_e, td_pos, tm_pos, Int.add_sub_cancel, bit_e]); first | assumption | omega) | ((try simp (disch := decide) only [cmp3_lt, cmp3_ge, cmp3_gt, cmp3_le, cmp3_eq, ms_q, ms_f, mf_q, mf_f, mc_q, mc_f, and_self, and_true, true_and, and_false, false_and, or_true, true_or, or_false, false_or, if_true, if_false, not_true_eq_false, not_false_eq_true, eq_self, reduceIte, Int.reduceEq, Int.reduceLT, Int.reduceLE, Int.reduceNeg, Int.reduceAdd, Int.reduceSub, Int.reduceMul, Int.add_sub_cancel]); (try simp (disch := omega) only [w32_e, w64_e, td_pos, tm_pos, Int.add_sub_cancel, bit_e]); (repeat' (first | assumption | omega | with_reducible rfl | apply And.intro)))) ?_; conv => whnf)
    | (intro v; intro hv; conv => whnf)
  all_goals refine ⟨_, ?_, _, _, rfl, rfl, rfl, ?_, ?_, ?_⟩ <;> first | rfl | omega

def sp_shoC : Spec1 := fun as M Q => match as with
  | [.inr (.inr (.inl (q0, i0))), .inl x, .inl e] => match Nat.beq q0 5 with
    | true => (i0 = 0 ∧ (0 ≤ x ∧ x < 512) ∧ 0 ≤ e ∧ (e * cn x (M 5 0 0) ≤ M 5 0 6 ∧ M 5 0 6 ≤ 1000000000) ∧ (0 ≤ M 5 0 0 ∧ M 5 0 0 ≤ 8)) ∧ ∀ M9, ((∀ p, p ≠ 5 → p ≠ 36 → M9 p = M p) ∧ (∀ i f, f ≠ 6 → M9 5 i f = M 5 i f) ∧ M9 5 0 6 = M 5 0 6 - e * cn x (M 5 0 0) ∧ (∀ j, M 5 0 0 ≤ j → M9 36 0 j = M 36 0 j) ∧ (∀ j, 0 ≤ j → j < M 5 0 0 → M9 36 0 j = if bitI x j = 1 then w32 (M 36 0 j + e) else M 36 0 j)) → Q none M9
    | false => False
  | _ => False
theorem ok_shoC {l : Launch} {ω : WP} : ∀ as M Q, sp_shoC as M Q → Vd l ω 0 82 as M Q := by
  intro as M Q h
  unfold sp_shoC at h
  split at h
  case h_2 => exact h.elim
  rename_i q0 i0 x e
  cases hb : Nat.beq q0 5 with
  | false => rw [hb] at h; exact h.elim
  | true =>
  rw [hb] at h
  obtain ⟨⟨hi, h1, h2, h3, h4⟩, hQ⟩ := h
  have hb := beq_eq hb
  subst hb
  subst hi
  refine Vd.ok fun hok hal => ?_
  have key : ∀ n9, CutOK l ω 0 82 (cutL [(2, [0, 1, 2, 3], fun kk vs M9 => ∃ i : Int, vs = [vR 5 0, vI x, vI e, vI i] ∧ kk = (M 5 0 0 - i).toNat ∧ (0 ≤ i ∧ i ≤ M 5 0 0) ∧ (∀ p, p ≠ 5 → p ≠ 36 → M9 p = M p) ∧ (∀ i f, f ≠ 6 → M9 5 i f = M 5 i f) ∧ M9 5 0 6 = M 5 0 6 - e * cn x (i) ∧ (∀ j, i ≤ j → M9 36 0 j = M 36 0 j) ∧ (∀ j, 0 ≤ j → j < i → M9 36 0 j = if bitI x j = 1 then w32 (M 36 0 j + e) else M 36 0 j))] n9) Q := by
    refine loops (GGh_ok (l := l) (ω := ω)) 200 _ ?_
    refine List.forall_mem_cons.mpr ⟨?_, fun _ h => absurd h List.not_mem_nil⟩
    · rintro n9 vs M9 ⟨i, rfl, rfl, i0, fr, fz, pu, hi, lo⟩
      have nn : M9 5 0 0 = M 5 0 0 := by first | exact fz 0 0 (by decide) | rw [fr 5 (by decide) (by decide)]
      have q7 := bit_01 x i
      have q8 : i < M 5 0 0 → e * cn x (i + 1) ≤ M 5 0 6 := fun z => Int.le_trans (Int.mul_le_mul_of_nonneg_left (cn_le (by omega) (by omega)) h2) h3.1
      have q9 := cn_s (x := x) (i := i) i0.1
      have qa : e * (cn x i + 1) = e * cn x i + e := by rw [Int.mul_add, Int.mul_one]
      have qb : 0 ≤ e * cn x i := Int.mul_nonneg h2 (cn_nn i0.1)
      show wpH _ 200 _ 82 _ true 2 [vR 5 0, vI x, vI e, vI i] [] _ Q
      conv => whnf
      repeat' first
        | (refine And.intro (fun h => ?_) (fun h => ?_) <;> (try simp (disch := decide) only [cmp3_lt, cmp3_ge, cmp3_gt, cmp3_le, cmp3_eq, ms_q, ms_f, mf_q, mf_f, mc_q, mc_f, and_self, and_true, true_and, and_false, false_and, or_true, true_or, or_false, false_or, if_true, if_false, not_true_eq_false, not_false_eq_true, eq_self, reduceIte, Int.reduceEq, Int.reduceLT, Int.reduceLE, Int.reduceNeg, Int.reduceAdd, Int.reduceSub, Int.reduceMul, Int.add_sub_cancel] at h) <;> (try simp (disch := omega) only [w32_e, w64_e, td_pos, tm_pos, Int.add_sub_cancel, bit_e, nn] at h) <;> first | exact absurd rfl h | exact absurd h (by decide) | (exfalso; omega) | (conv => whnf))
        | (refine And.intro (by first | omega | ((try simp (disch := decide) only [cmp3_lt, cmp3_ge, cmp3_gt, cmp3_le, cmp3_eq, ms_q, ms_f, mf_q, mf_f, mc_q, mc_f, and_self, and_true, true_and, and_false, false_and, or_true, true_or, or_false, false_or, if_true, if_false, not_true_eq_false, not_false_eq_true, eq_self, reduceIte, Int.reduceEq, Int.reduceLT, Int.reduceLE, Int.reduceNeg, Int.reduceAdd, Int.reduceSub, Int.reduceMul, Int.add_sub_cancel]); (try simp (disch := omega) only [w32_e, w64_e, td_pos, tm_pos, Int.add_sub_cancel, bit_e, nn]); first | assumption | omega) | ((try simp (disch := decide) only [cmp3_lt, cmp3_ge, cmp3_gt, cmp3_le, cmp3_eq, ms_q, ms_f, mf_q, mf_f, mc_q, mc_f, and_self, and_true, true_and, and_false, false_and, or_true, true_or, or_false, false_or, if_true, if_false, not_true_eq_false, not_false_eq_true, eq_self, reduceIte, Int.reduceEq, Int.reduceLT, Int.reduceLE, Int.reduceNeg, Int.reduceAdd, Int.reduceSub, Int.reduceMul, Int.add_sub_cancel]); (try simp (disch := omega) only [w32_e, w64_e, td_pos, tm_pos, Int.add_sub_cancel, bit_e, nn]); (repeat' (first | assumption | omega | with_reducible rfl | apply And.intro)))) ?_; conv => whnf)
        | (intro v; intro hv; conv => whnf)
      all_goals (try simp (disch := decide) only [cmp3_lt, cmp3_ge, cmp3_gt, cmp3_le, cmp3_eq, ms_q, ms_f, mf_q, mf_f, mc_q, mc_f, and_self, and_true, true_and, and_false, false_and, or_true, true_or, or_false, false_or, if_true, if_false, not_true_eq_false, not_false_eq_true, eq_self, reduceIte, Int.reduceEq, Int.reduceLT, Int.reduceLE, Int.reduceNeg, Int.reduceAdd, Int.reduceSub, Int.reduceMul, Int.add_sub_cancel, fr] at *)
      all_goals (try simp (disch := omega) only [w32_e, bit_e] at *)
      all_goals first
        | (have e9 : i = M 5 0 0 := by omega
           subst e9
           exact hQ M9 ⟨fr, fz, pu, hi, lo⟩)
        | (have s7 : bitI x i = 0 := by omega
           refine ⟨_, ?_, _, rfl, rfl, by omega, fr, fz, ?_, ?_, ?_⟩
           · omega
           · rw [q9, s7, Int.add_zero]; exact pu
           · intro j j0; exact hi j (by omega)
           · intro j j0 j1
             by_cases e9 : j = i
             · rw [e9, if_neg (by omega)]; exact hi i (by omega)
             · exact lo j j0 (by omega))
        | (have s7 : bitI x i = 1 := by omega
           have r9 : e * cn x (i + 1) = e * cn x i + e := by rw [q9, s7]; exact qa
           refine ⟨_, ?_, _, rfl, rfl, by omega, ?_, ?_, ?_, ?_, ?_⟩
           · omega
           · intro p z0 z1; rw [ms_q z0, ms_q z1]; exact fr p z0 z1
           · intro a f zf; rw [if_neg (by omega)]; exact fz a f zf
           · first | omega | (rw [w32_e (by omega) (by omega)]; omega)
           · intro j j0; rw [if_neg (by omega)]; exact hi j (by omega)
           · intro j j0 j1
             by_cases e9 : j = i
             · rw [if_pos e9, e9, if_pos s7, hi i (by omega)]
             · rw [if_neg e9]; exact lo j j0 (by omega))
  refine Vd_run (GGh_ok (l := l) (ω := ω)) 200 (hC := key 100) (by decide) ?_
  conv => whnf
  repeat' first
    | (refine And.intro (fun h => ?_) (fun h => ?_) <;> (try simp (disch := decide) only [cmp3_lt, cmp3_ge, cmp3_gt, cmp3_le, cmp3_eq, ms_q, ms_f, mf_q, mf_f, mc_q, mc_f, and_self, and_true, true_and, and_false, false_and, or_true, true_or, or_false, false_or, if_true, if_false, not_true_eq_false, not_false_eq_true, eq_self, reduceIte, Int.reduceEq, Int.reduceLT, Int.reduceLE, Int.reduceNeg, Int.reduceAdd, Int.reduceSub, Int.reduceMul, Int.add_sub_cancel] at h) <;> (try simp (disch := omega) only [w32_e, w64_e, td_pos, tm_pos, Int.add_sub_cancel, bit_e, nn] at h) <;> first | exact absurd rfl h | exact absurd h (by decide) | (exfalso; omega) | (conv => whnf))
    | (refine And.intro (by first | omega | ((try simp (disch := decide) only [cmp3_lt, cmp3_ge, cmp3_gt, cmp3_le, cmp3_eq, ms_q, ms_f, mf_q, mf_f, mc_q, mc_f, and_self, and_true, true_and, and_false, false_and, or_true, true_or, or_false, false_or, if_true, if_false, not_true_eq_false, not_false_eq_true, eq_self, reduceIte, Int.reduceEq, Int.reduceLT, Int.reduceLE, Int.reduceNeg, Int.reduceAdd, Int.reduceSub, Int.reduceMul, Int.add_sub_cancel]); (try simp (disch := omega) only [w32_e, w64_e, td_pos, tm_pos, Int.add_sub_cancel, bit_e, nn]); first | assumption | omega) | ((try simp (disch := decide) only [cmp3_lt, cmp3_ge, cmp3_gt, cmp3_le, cmp3_eq, ms_q, ms_f, mf_q, mf_f, mc_q, mc_f, and_self, and_true, true_and, and_false, false_and, or_true, true_or, or_false, false_or, if_true, if_false, not_true_eq_false, not_false_eq_true, eq_self, reduceIte, Int.reduceEq, Int.reduceLT, Int.reduceLE, Int.reduceNeg, Int.reduceAdd, Int.reduceSub, Int.reduceMul, Int.add_sub_cancel]); (try simp (disch := omega) only [w32_e, w64_e, td_pos, tm_pos, Int.add_sub_cancel, bit_e, nn]); (repeat' (first | assumption | omega | with_reducible rfl | apply And.intro)))) ?_; conv => whnf)
    | (intro v; intro hv; conv => whnf)
  all_goals refine ⟨_, ?_, _, rfl, rfl, ?_, ?_, ?_, ?_, ?_, ?_⟩ <;> first | omega | (intro p _ _; rfl) | (intro i f _; rfl) | (rw [cn_0, Int.mul_zero, Int.sub_zero]) | (intro j _; rfl) | (intro j j0 j1; omega)

def GLi : List (Nat × Nat × Spec1) := (286, 0, sp_bcC) :: (231, 0, sp_biM) :: (82, 0, sp_shoC) :: GLh
abbrev GGi : Env1 := fun n => getG n GLi
theorem GGi_all {l : Launch} {ω : WP} : ∀ e ∈ GLi, ∀ as M Q, e.2.2 as M Q → Vd l ω e.2.1 e.1 as M Q := List.forall_mem_cons.mpr ⟨ok_bcC, List.forall_mem_cons.mpr ⟨ok_biM, List.forall_mem_cons.mpr ⟨ok_shoC, GGh_all⟩⟩⟩
theorem GGi_ok {l : Launch} {ω : WP} : GOK l ω GGi := getG_ok GLi GGi_all

def sp_shaM : Spec1 := fun as M Q => match as with
  | [.inr (.inr (.inl (q0, i0))), .inl x] => match Nat.beq q0 13 with
    | true => ∃ e : Int, (i0 = 0 ∧ (1 ≤ x ∧ x ≤ 2 ^ (M 13 0 17).toNat - 1) ∧ (0 ≤ M 13 0 17 ∧ M 13 0 17 ≤ 8) ∧ (0 ≤ M 13 0 26 ∧ M 13 0 26 ≤ 1000000000) ∧ e = M 13 0 26 / cn x 9 ∧ 1 ≤ e) ∧ ∀ M9, ((∀ p, p ≠ 13 → p ≠ 88 → M9 p = M p) ∧ (∀ i f, f ≠ 26 → M9 13 i f = M 13 i f) ∧ M9 13 0 26 = M 13 0 26 - e * cn x (M 13 0 17) ∧ (∀ j, M 13 0 17 ≤ j → M9 88 0 j = M 88 0 j) ∧ (∀ j, 0 ≤ j → j < M 13 0 17 → M9 88 0 j = if bitI x j = 1 then w32 (M 88 0 j + e) else M 88 0 j)) → Q (some (vI e)) M9
    | false => False
  | _ => False
theorem ok_shaM {l : Launch} {ω : WP} : ∀ as M Q, sp_shaM as M Q → Vd l ω 9 259 as M Q := by
  intro as M Q h
  unfold sp_shaM at h
  split at h
  case h_2 => exact h.elim
  rename_i q0 i0 x
  cases hb : Nat.beq q0 13 with
  | false => rw [hb] at h; exact h.elim
  | true =>
  rw [hb] at h
  obtain ⟨e, ⟨hi, h1, h2, h3, h4, h8⟩, hQ⟩ := h
  have hb := beq_eq hb
  subst hb
  subst hi
  refine Vd.ok fun hok hal => ?_
  have p1 := pw_in h2.1 (show M 13 0 17 ≤ 9 by omega)
  have p2 := cn_in h1.1 (show x < 512 by omega)
  have p3 := sh_e h2.1 (show M 13 0 17 < 10 by omega)
  have h5 : 0 ≤ e := by omega
  have h6 : e * cn x (M 13 0 17) ≤ M 13 0 26 := by
    have a := Int.ediv_mul_le (M 13 0 26) (b := cn x 9) (by omega)
    rw [← h4] at a
    exact Int.le_trans (Int.mul_le_mul_of_nonneg_left (cn_le h2.1 (by omega)) h5) a
  have p4 : e ≤ 1000000000 := by
    have a := Int.ediv_le_self (cn x 9) h3.1
    omega
  have hd : M 13 0 26 / cn x 9 = e := h4.symm
  have nn := h5
  have key : ∀ n9, CutOK l ω 9 259 (cutL [(42, [0, 1, 3, 4], fun kk vs M9 => ∃ i : Int, vs = [vR 13 0, vI x, vI e, vI i] ∧ kk = (M 13 0 17 - i).toNat ∧ (0 ≤ i ∧ i ≤ M 13 0 17) ∧ (∀ p, p ≠ 13 → p ≠ 88 → M9 p = M p) ∧ (∀ i f, f ≠ 26 → M9 13 i f = M 13 i f) ∧ M9 13 0 26 = M 13 0 26 - e * cn x (i) ∧ (∀ j, i ≤ j → M9 88 0 j = M 88 0 j) ∧ (∀ j, 0 ≤ j → j < i → M9 88 0 j = if bitI x j = 1 then w32 (M 88 0 j + e) else M 88 0 j))] n9) Q := by
    refine loops (GGi_ok (l := l) (ω := ω)) 300 _ ?_
    refine List.forall_mem_cons.mpr ⟨?_, fun _ h => absurd h List.not_mem_nil⟩
    · rintro n9 vs M9 ⟨i, rfl, rfl, i0, fr, fz, pu, hi, lo⟩
      have nn : M9 13 0 17 = M 13 0 17 := fz 0 17 (by decide)
      have q7 := bit_01 x i
      have q8 : i < M 13 0 17 → e * cn x (i + 1) ≤ M 13 0 26 := fun z => Int.le_trans (Int.mul_le_mul_of_nonneg_left (cn_le (by omega) (by omega)) h5) h6
      have q9 := cn_s (x := x) (i := i) i0.1
      have qa : e * (cn x i + 1) = e * cn x i + e := by rw [Int.mul_add, Int.mul_one]
      have qb : 0 ≤ e * cn x i := Int.mul_nonneg h5 (cn_nn i0.1)
      show wpH _ 300 _ 259 _ true 42 [vR 13 0, vI x, vU, vI e, vI i] [] _ Q
      conv => whnf
      repeat' first
        | (refine And.intro (fun h => ?_) (fun h => ?_) <;> (try simp (disch := decide) only [cmp3_lt, cmp3_ge, cmp3_gt, cmp3_le, cmp3_eq, ms_q, ms_f, mf_q, mf_f, mc_q, mc_f, and_self, and_true, true_and, and_false, false_and, or_true, true_or, or_false, false_or, if_true, if_false, not_true_eq_false, not_false_eq_true, eq_self, reduceIte, Int.reduceEq, Int.reduceLT, Int.reduceLE, Int.reduceNeg, Int.reduceAdd, Int.reduceSub, Int.reduceMul, Int.add_sub_cancel] at h) <;> (try simp (disch := omega) only [w32_e, w64_e, td_pos, tm_pos, Int.add_sub_cancel, bit_e, nn, p3, hd] at h) <;> first | exact absurd rfl h | exact absurd h (by decide) | (exfalso; omega) | (conv => whnf))
        | (refine And.intro (by first | omega | ((try simp (disch := decide) only [cmp3_lt, cmp3_ge, cmp3_gt, cmp3_le, cmp3_eq, ms_q, ms_f, mf_q, mf_f, mc_q, mc_f, and_self, and_true, true_and, and_false, false_and, or_true, true_or, or_false, false_or, if_true, if_false, not_true_eq_false, not_false_eq_true, eq_self, reduceIte, Int.reduceEq, Int.reduceLT, Int.reduceLE, Int.reduceNeg, Int.reduceAdd, Int.reduceSub, Int.reduceMul, Int.add_sub_cancel]); (try simp (disch := omega) only [w32_e, w64_e, td_pos, tm_pos, Int.add_sub_cancel, bit_e, nn, p3, hd]); first | assumption | omega) | ((try simp (disch := decide) only [cmp3_lt, cmp3_ge, cmp3_gt, cmp3_le, cmp3_eq, ms_q, ms_f, mf_q, mf_f, mc_q, mc_f, and_self, and_true, true_and, and_false, false_and, or_true, true_or, or_false, false_or, if_true, if_false, not_true_eq_false, not_false_eq_true, eq_self, reduceIte, Int.reduceEq, Int.reduceLT, Int.reduceLE, Int.reduceNeg, Int.reduceAdd, Int.reduceSub, Int.reduceMul, Int.add_sub_cancel]); (try simp (disch := omega) only [w32_e, w64_e, td_pos, tm_pos, Int.add_sub_cancel, bit_e, nn, p3, hd]); (repeat' (first | assumption | omega | with_reducible rfl | apply And.intro)))) ?_; conv => whnf)
        | (intro v; intro hv; conv => whnf)
      all_goals (try simp (disch := decide) only [cmp3_lt, cmp3_ge, cmp3_gt, cmp3_le, cmp3_eq, ms_q, ms_f, mf_q, mf_f, mc_q, mc_f, and_self, and_true, true_and, and_false, false_and, or_true, true_or, or_false, false_or, if_true, if_false, not_true_eq_false, not_false_eq_true, eq_self, reduceIte, Int.reduceEq, Int.reduceLT, Int.reduceLE, Int.reduceNeg, Int.reduceAdd, Int.reduceSub, Int.reduceMul, Int.add_sub_cancel, fr] at *)
      all_goals (try simp (disch := omega) only [w32_e, bit_e] at *)
      all_goals first
        | (have e9 : i = M 13 0 17 := by omega
           subst e9
           exact hQ M9 ⟨fr, fz, pu, hi, lo⟩)
        | (have s7 : bitI x i = 0 := by omega
           refine ⟨_, ?_, _, rfl, rfl, by omega, fr, fz, ?_, ?_, ?_⟩
           · omega
           · rw [q9, s7, Int.add_zero]; exact pu
           · intro j j0; exact hi j (by omega)
           · intro j j0 j1
             by_cases e9 : j = i
             · rw [e9, if_neg (by omega)]; exact hi i (by omega)
             · exact lo j j0 (by omega))
        | (have s7 : bitI x i = 1 := by omega
           have r9 : e * cn x (i + 1) = e * cn x i + e := by rw [q9, s7]; exact qa
           refine ⟨_, ?_, _, rfl, rfl, by omega, ?_, ?_, ?_, ?_, ?_⟩
           · omega
           · intro p z0 z1; rw [ms_q z0, ms_q z1]; exact fr p z0 z1
           · intro a f zf; rw [if_neg (by omega)]; exact fz a f zf
           · first | omega | (rw [w32_e (by omega) (by omega)]; omega)
           · intro j j0; rw [if_neg (by omega)]; exact hi j (by omega)
           · intro j j0 j1
             by_cases e9 : j = i
             · rw [if_pos e9, e9, if_pos s7, hi i (by omega)]
             · rw [if_neg e9]; exact lo j j0 (by omega))
  refine Vd_run (GGi_ok (l := l) (ω := ω)) 300 (hC := key 100) (by decide) ?_
  conv => whnf
  repeat' first
    | (refine And.intro (fun h => ?_) (fun h => ?_) <;> (try simp (disch := decide) only [cmp3_lt, cmp3_ge, cmp3_gt, cmp3_le, cmp3_eq, ms_q, ms_f, mf_q, mf_f, mc_q, mc_f, and_self, and_true, true_and, and_false, false_and, or_true, true_or, or_false, false_or, if_true, if_false, not_true_eq_false, not_false_eq_true, eq_self, reduceIte, Int.reduceEq, Int.reduceLT, Int.reduceLE, Int.reduceNeg, Int.reduceAdd, Int.reduceSub, Int.reduceMul, Int.add_sub_cancel] at h) <;> (try simp (disch := omega) only [w32_e, w64_e, td_pos, tm_pos, Int.add_sub_cancel, bit_e, nn, p3, hd] at h) <;> first | exact absurd rfl h | exact absurd h (by decide) | (exfalso; omega) | (conv => whnf))
    | (refine And.intro (by first | omega | ((try simp (disch := decide) only [cmp3_lt, cmp3_ge, cmp3_gt, cmp3_le, cmp3_eq, ms_q, ms_f, mf_q, mf_f, mc_q, mc_f, and_self, and_true, true_and, and_false, false_and, or_true, true_or, or_false, false_or, if_true, if_false, not_true_eq_false, not_false_eq_true, eq_self, reduceIte, Int.reduceEq, Int.reduceLT, Int.reduceLE, Int.reduceNeg, Int.reduceAdd, Int.reduceSub, Int.reduceMul, Int.add_sub_cancel]); (try simp (disch := omega) only [w32_e, w64_e, td_pos, tm_pos, Int.add_sub_cancel, bit_e, nn, p3, hd]); first | assumption | omega) | ((try simp (disch := decide) only [cmp3_lt, cmp3_ge, cmp3_gt, cmp3_le, cmp3_eq, ms_q, ms_f, mf_q, mf_f, mc_q, mc_f, and_self, and_true, true_and, and_false, false_and, or_true, true_or, or_false, false_or, if_true, if_false, not_true_eq_false, not_false_eq_true, eq_self, reduceIte, Int.reduceEq, Int.reduceLT, Int.reduceLE, Int.reduceNeg, Int.reduceAdd, Int.reduceSub, Int.reduceMul, Int.add_sub_cancel]); (try simp (disch := omega) only [w32_e, w64_e, td_pos, tm_pos, Int.add_sub_cancel, bit_e, nn, p3, hd]); (repeat' (first | assumption | omega | with_reducible rfl | apply And.intro)))) ?_; conv => whnf)
    | (intro v; intro hv; conv => whnf)
  all_goals ((try simp (disch := decide) only [cmp3_lt, cmp3_ge, cmp3_gt, cmp3_le, cmp3_eq, ms_q, ms_f, mf_q, mf_f, mc_q, mc_f, and_self, and_true, true_and, and_false, false_and, or_true, true_or, or_false, false_or, if_true, if_false, not_true_eq_false, not_false_eq_true, eq_self, reduceIte, Int.reduceEq, Int.reduceLT, Int.reduceLE, Int.reduceNeg, Int.reduceAdd, Int.reduceSub, Int.reduceMul, Int.add_sub_cancel]); (try simp (disch := omega) only [w32_e, w64_e, td_pos, tm_pos, Int.add_sub_cancel, hd]))
  all_goals refine ⟨_, ?_, _, rfl, rfl, ?_, ?_, ?_, ?_, ?_, ?_⟩ <;> first | omega | (intro p _ _; rfl) | (intro i f _; rfl) | (rw [cn_0, Int.mul_zero, Int.sub_zero]) | (intro j _; rfl) | (intro j j0 j1; omega) | trivial | (intro _ _; trivial)

theorem inv_share {c e x : Int} {M M1 M2 : Mem} (he : e * cn x (M 5 0 0) ≤ M 5 0 6) (he0 : 0 ≤ e) (h1 : (∀ p, p ≠ 5 → p ≠ 36 → M1 p = M p) ∧ (∀ i f, f ≠ 6 → M1 5 i f = M 5 i f) ∧ M1 5 0 6 = M 5 0 6 - e * cn x (M 5 0 0) ∧ (∀ j, M 5 0 0 ≤ j → M1 36 0 j = M 36 0 j) ∧ (∀ j, 0 ≤ j → j < M 5 0 0 → M1 36 0 j = if bitI x j = 1 then w32 (M 36 0 j + e) else M 36 0 j)) (h2 : (∀ p, p ≠ 13 → p ≠ 88 → M2 p = M1 p) ∧ (∀ i f, f ≠ 26 → M2 13 i f = M1 13 i f) ∧ M2 13 0 26 = M1 13 0 26 - e * cn x (M1 13 0 17) ∧ (∀ j, M1 13 0 17 ≤ j → M2 88 0 j = M1 88 0 j) ∧ (∀ j, 0 ≤ j → j < M1 13 0 17 → M2 88 0 j = if bitI x j = 1 then w32 (M1 88 0 j + e) else M1 88 0 j)) (hc : c < 512) (hI : Inv c M) : Inv (c + 1) M2 := by
  obtain ⟨h0, hN, hS, hR, hK, hG, hW, hJ, hT, hA, hP, hO, hH⟩ := hI
  obtain ⟨f1, g1, p1, -, v1⟩ := h1
  obtain ⟨f2, g2, p2, -, v2⟩ := h2
  have b7 := hG.1
  have b8 := hG.2.2.1
  have e13 : M1 13 = M 13 := f1 13 (by decide) (by decide)
  have e88 : M1 88 = M 88 := f1 88 (by decide) (by decide)
  have e5 : M2 5 = M1 5 := f2 5 (by decide) (by decide)
  have e36 : M2 36 = M1 36 := f2 36 (by decide) (by decide)
  rw [e13, b7] at p2 v2
  rw [e13] at g2
  rw [e88] at v2
  have fr : ∀ p, p ≠ 13 → p ≠ 5 → p ≠ 36 → p ≠ 88 → M2 p = M p := fun p a b c d => (f2 p a d).trans (f1 p b c)
  have z5 : ∀ i f, f ≠ 6 → M2 5 i f = M 5 i f := fun i f h => by rw [e5]; exact g1 i f h
  have nn : 0 ≤ e * cn x (M 5 0 0) := Int.mul_nonneg he0 (cn_nn b8.1)
  refine ⟨by omega, ?_, ?_, ?_, ?_, ?_, ?_, ?_, ?_, ?_, ?_, ?_, ?_⟩
  all_goals first
    | (have q := hN; simp (disch := decide) only [INet, ms_q, ms_f, mf_q, mf_f, mc_q, mc_f, fr, g2, z5] at q ⊢; exact q)
    | (have q := hS; simp (disch := decide) only [IStp, ms_q, ms_f, mf_q, mf_f, mc_q, mc_f, fr, g2, z5] at q ⊢; exact q)
    | (have q := hR; simp (disch := decide) only [IRou, ms_q, ms_f, mf_q, mf_f, mc_q, mc_f, fr, g2, z5] at q ⊢; exact q)
    | (have q := hK; simp (disch := decide) only [ISky, ms_q, ms_f, mf_q, mf_f, mc_q, mc_f, fr, g2, z5] at q ⊢; exact q)
    | (have q := hG; simp (disch := decide) only [IGui, ms_q, ms_f, mf_q, mf_f, mc_q, mc_f, fr, g2, z5] at q ⊢; exact q)
    | (have q := hJ.next; simp (disch := decide) only [IImg, ms_q, ms_f, mf_q, mf_f, mc_q, mc_f, fr, g2, z5] at q ⊢; exact q)
    | (have q := hT; simp (disch := decide) only [ITap, ms_q, ms_f, mf_q, mf_f, mc_q, mc_f, fr, g2, z5] at q ⊢; exact q)
    | (have q := hA; simp (disch := decide) only [ISta, ms_q, ms_f, mf_q, mf_f, mc_q, mc_f, fr, g2, z5] at q ⊢; exact q)
    | (have q := hP; simp (disch := decide) only [IPpl, ms_q, ms_f, mf_q, mf_f, mc_q, mc_f, fr, g2, z5] at q ⊢; exact q)
    | (have q := hO; simp (disch := decide) only [IRop, ms_q, ms_f, mf_q, mf_f, mc_q, mc_f, fr, g2, z5] at q ⊢; exact q)
    | (have q := hH; simp (disch := decide) only [IHrs, ms_q, ms_f, mf_q, mf_f, mc_q, mc_f, fr, g2, z5] at q ⊢; exact q)
    | skip
  simp (disch := decide) only [INow, fr, g2, z5]
  obtain ⟨w1, w2, w3, w4, w5, w6, w7, w8, w9⟩ := hW
  have q6 : M2 5 0 6 = M 5 0 6 - e * cn x (M 5 0 0) := by rw [e5]; exact p1
  refine ⟨w1, w2, w3, w4, w5, w6, fun g z0 z1 => ?_, by omega, by omega⟩
  have a := v1 g z0 z1
  have b := v2 g z0 z1
  have w := w7 g z0 z1
  rw [e36, a, b, w.2]
  exact ⟨w.1, rfl⟩

theorem sh_cond {P x w n : Int} (hx : 1 ≤ x ∧ x ≤ 2 ^ n.toNat - 1) (hw : 0 ≤ x → x < 512 → w = cn x 9) (hP : 0 ≤ P ∧ P ≤ 1000000000) (hn : 0 ≤ n ∧ n ≤ 8) : ((0 ≤ x ∧ x < 512) ∧ 0 ≤ w32 (P.tdiv w) ∧ (w32 (P.tdiv w) * cn x n ≤ P ∧ P ≤ 1000000000) ∧ (0 ≤ n ∧ n ≤ 8)) ∧ w32 (P.tdiv w) = P / cn x 9 := by
  have p1 := pw_in hn.1 (show n ≤ 9 by omega)
  have e := hw (by omega) (by omega)
  subst e
  have p2 := cn_in hx.1 (show x < 512 by omega)
  have a := Int.ediv_mul_le P (b := cn x 9) (by omega)
  have b := Int.ediv_le_self (cn x 9) hP.1
  have d : 0 ≤ P / cn x 9 := Int.ediv_nonneg hP.1 (by omega)
  have e : w32 (P.tdiv (cn x 9)) = P / cn x 9 := by rw [td_pos hP.1, w32_e (by omega) (by omega)]
  rw [e]
  exact ⟨⟨⟨by omega, by omega⟩, d, ⟨Int.le_trans (Int.mul_le_mul_of_nonneg_left (cn_le hn.1 (by omega)) d) a, hP.2⟩, hn⟩, rfl⟩
theorem share_leaf {l : Launch} {ω : WP} {c x w r : Int} {M M1 : Mem} (hx : 1 ≤ x ∧ x ≤ 2 ^ (M 5 0 0).toNat - 1) (hw : 0 ≤ x → x < 512 → w = cn x 9) (hne : ¬ (w32 ((M 5 0 6).tdiv w)) = 0) (h1 : (∀ p, p ≠ 5 → p ≠ 36 → M1 p = M p) ∧ (∀ i f, f ≠ 6 → M1 5 i f = M 5 i f) ∧ M1 5 0 6 = M 5 0 6 - (w32 ((M 5 0 6).tdiv w)) * cn x (M 5 0 0) ∧ (∀ j, M 5 0 0 ≤ j → M1 36 0 j = M 36 0 j) ∧ (∀ j, 0 ≤ j → j < M 5 0 0 → M1 36 0 j = if bitI x j = 1 then w32 (M 36 0 j + (w32 ((M 5 0 6).tdiv w))) else M 36 0 j)) (hc : c < 512) (hI : Inv c M) (hr : r = (w32 ((M 5 0 6).tdiv w))) : Vd l ω 9 259 [vR 13 0, vI x] M1 (PQ2 c (vI r)) := by
  subst hr
  have hI0 := hI
  obtain ⟨h0, hN, hS, hR, hK, hG, hW, hJ, hT, hA, hP, hO, hH⟩ := hI
  have b7 := hG.1
  have b8 := hG.2.2.1
  have w8 := hW.2.2.2.2.2.2.2.1
  have w9 := hW.2.2.2.2.2.2.2.2
  obtain ⟨⟨c1, c2, c3, c4⟩, c5⟩ := sh_cond hx hw ⟨w9.1, by omega⟩ b8
  have e13 : M1 13 = M 13 := h1.1 13 (by decide) (by decide)
  refine ok_shaM _ _ _ ⟨(w32 ((M 5 0 6).tdiv w)), ⟨rfl, by rw [e13, b7]; exact hx, by rw [e13]; omega, by rw [e13]; omega, by rw [e13, w8]; exact c5, by omega⟩, fun M2 q => ⟨0, rfl, ?_⟩⟩
  exact inv_share c3.1 c2 h1 q hc hI0

theorem pair_share {l : Launch} {ω : WP} {c : Int} {M : Mem} {x : Int} (hx : in32 x)  (hc : c < 512) (hI : Inv c M) : Vd l ω 9 154 [vR 0 0, vI x] M (PQ1 l ω c 259 [vI x]) := by
  have hI0 := hI
  obtain ⟨h0, hN, hS, hR, hK, hG, hW, hJ, hT, hA, hP, hO, hH⟩ := hI
  have b1 := hN.1
  have b2 := hN.2.2.1
  have b3 := hS.1
  have b4 := hS.2.2.1
  have b5 := hR.1
  have b6 := hR.2.2.2.1
  have b7 := hG.1
  have b8 := hG.2.2.1
  have p1 := pw_in b8.1 (show M 5 0 0 ≤ 9 by omega)
  have p3 := sh_e b8.1 (show M 5 0 0 < 10 by omega)
  have p4 := sh_e (n := M 13 0 17) (by omega) (show M 13 0 17 < 10 by omega)
  rw [b7] at p4
  have p2 := @cn_in x
  have w8 := hW.2.2.2.2.2.2.2.1
  have w9 := hW.2.2.2.2.2.2.2.2
  refine Vd_run (GGi_ok (l := l) (ω := ω)) 400 (cut := fun _ => none) (by decide) CutOK_none ?_
  conv => whnf
  repeat' first
    | (refine And.intro (fun h => ?_) (fun h => ?_) <;> (try simp (disch := decide) only [cmp3_lt, cmp3_ge, cmp3_gt, cmp3_le, cmp3_eq, ms_q, ms_f, mf_q, mf_f, mc_q, mc_f, and_self, and_true, true_and, and_false, false_and, or_true, true_or, or_false, false_or, if_true, if_false, not_true_eq_false, not_false_eq_true, eq_self, reduceIte, Int.reduceEq, Int.reduceLT, Int.reduceLE, Int.reduceNeg, Int.reduceAdd, Int.reduceSub, Int.reduceMul, Int.add_sub_cancel] at h) <;> (try simp (disch := omega) only [w32_e, w64_e, td_pos, tm_pos, Int.add_sub_cancel, p3, b7, w8] at h) <;> first | exact absurd rfl h | exact absurd h (by decide) | (exfalso; omega) | (conv => whnf))
    | (refine And.intro (by first | omega | ((try simp (disch := decide) only [cmp3_lt, cmp3_ge, cmp3_gt, cmp3_le, cmp3_eq, ms_q, ms_f, mf_q, mf_f, mc_q, mc_f, and_self, and_true, true_and, and_false, false_and, or_true, true_or, or_false, false_or, if_true, if_false, not_true_eq_false, not_false_eq_true, eq_self, reduceIte, Int.reduceEq, Int.reduceLT, Int.reduceLE, Int.reduceNeg, Int.reduceAdd, Int.reduceSub, Int.reduceMul, Int.add_sub_cancel]); (try simp (disch := omega) only [w32_e, w64_e, td_pos, tm_pos, Int.add_sub_cancel, p3, b7, w8]); first | assumption | omega) | exact ⟨rfl, (sh_cond (by omega) hv (by omega) (by omega)).1⟩ | ((try simp (disch := decide) only [cmp3_lt, cmp3_ge, cmp3_gt, cmp3_le, cmp3_eq, ms_q, ms_f, mf_q, mf_f, mc_q, mc_f, and_self, and_true, true_and, and_false, false_and, or_true, true_or, or_false, false_or, if_true, if_false, not_true_eq_false, not_false_eq_true, eq_self, reduceIte, Int.reduceEq, Int.reduceLT, Int.reduceLE, Int.reduceNeg, Int.reduceAdd, Int.reduceSub, Int.reduceMul, Int.add_sub_cancel] at *); (try simp (disch := omega) only [w32_e, w64_e, td_pos, tm_pos, Int.add_sub_cancel] at *); (repeat' (first | assumption | omega | with_reducible rfl | apply And.intro)))) ?_; conv => whnf)
    | (intro v; intro hv; conv => whnf)
  all_goals try (have q := hv (by omega) (by omega); subst q)
  all_goals refine ⟨0, _, rfl, ?_⟩
  all_goals try exact share_leaf (by omega) (by assumption) (by rw [td_pos (by omega)]; assumption) hv hc hI0 (by with_reducible rfl)
  all_goals refine Vd_run (GGi_ok (l := l) (ω := ω)) 400 (cut := fun _ => none) (by decide) CutOK_none ?_
  all_goals conv => whnf
  all_goals repeat' first
    | (refine And.intro (fun h => ?_) (fun h => ?_) <;> (try simp (disch := decide) only [cmp3_lt, cmp3_ge, cmp3_gt, cmp3_le, cmp3_eq, ms_q, ms_f, mf_q, mf_f, mc_q, mc_f, and_self, and_true, true_and, and_false, false_and, or_true, true_or, or_false, false_or, if_true, if_false, not_true_eq_false, not_false_eq_true, eq_self, reduceIte, Int.reduceEq, Int.reduceLT, Int.reduceLE, Int.reduceNeg, Int.reduceAdd, Int.reduceSub, Int.reduceMul, Int.add_sub_cancel] at h) <;> (try simp (disch := omega) only [w32_e, w64_e, td_pos, tm_pos, Int.add_sub_cancel, p3, b7, w8] at h) <;> first | exact absurd rfl h | exact absurd h (by decide) | (exfalso; omega) | (conv => whnf))
    | (refine And.intro (by first | omega | ((try simp (disch := decide) only [cmp3_lt, cmp3_ge, cmp3_gt, cmp3_le, cmp3_eq, ms_q, ms_f, mf_q, mf_f, mc_q, mc_f, and_self, and_true, true_and, and_false, false_and, or_true, true_or, or_false, false_or, if_true, if_false, not_true_eq_false, not_false_eq_true, eq_self, reduceIte, Int.reduceEq, Int.reduceLT, Int.reduceLE, Int.reduceNeg, Int.reduceAdd, Int.reduceSub, Int.reduceMul, Int.add_sub_cancel]); (try simp (disch := omega) only [w32_e, w64_e, td_pos, tm_pos, Int.add_sub_cancel, p3, b7, w8]); first | assumption | omega) | exact ⟨rfl, (sh_cond (by omega) hv (by omega) (by omega)).1⟩ | ((try simp (disch := decide) only [cmp3_lt, cmp3_ge, cmp3_gt, cmp3_le, cmp3_eq, ms_q, ms_f, mf_q, mf_f, mc_q, mc_f, and_self, and_true, true_and, and_false, false_and, or_true, true_or, or_false, false_or, if_true, if_false, not_true_eq_false, not_false_eq_true, eq_self, reduceIte, Int.reduceEq, Int.reduceLT, Int.reduceLE, Int.reduceNeg, Int.reduceAdd, Int.reduceSub, Int.reduceMul, Int.add_sub_cancel] at *); (try simp (disch := omega) only [w32_e, w64_e, td_pos, tm_pos, Int.add_sub_cancel] at *); (repeat' (first | assumption | omega | with_reducible rfl | apply And.intro)))) ?_; conv => whnf)
    | (intro v; intro hv; conv => whnf)
  all_goals refine ⟨0, ?_, ?_⟩
  all_goals ((try simp (disch := decide) only [cmp3_lt, cmp3_ge, cmp3_gt, cmp3_le, cmp3_eq, ms_q, ms_f, mf_q, mf_f, mc_q, mc_f, and_self, and_true, true_and, and_false, false_and, or_true, true_or, or_false, false_or, if_true, if_false, not_true_eq_false, not_false_eq_true, eq_self, reduceIte, Int.reduceEq, Int.reduceLT, Int.reduceLE, Int.reduceNeg, Int.reduceAdd, Int.reduceSub, Int.reduceMul, Int.add_sub_cancel] at *); (try simp (disch := omega) only [w32_e, w64_e, td_pos, tm_pos, Int.add_sub_cancel, p3, b7, w8] at *))
  all_goals first
    | exact Inv.next hc hI0
    | exact congrArg (fun z => some (vI z)) (by omega)
    | exact congrArg (fun z => some (vL z)) (by omega)
    | (exfalso; omega)
    | skip
