/-! ===== a route's end, the latest begin (wip/gen/p5.py) ===== -/
theorem tk_in {M : Mem} {k s q : Int} (hS : IStp M) (h0 : 0 ≤ k) (h1 : k < M 1 0 2) (h2 : 0 ≤ s) (h3 : s ≤ 9) : tk M k s q = -5 ∨ (1 ≤ tk M k s q ∧ tk M k s q ≤ 60) := by
  obtain ⟨s1, -, s3, s4⟩ := hS
  obtain ⟨-, -, -, s5, a, b⟩ := s4 k h0 h1
  have c0 := wv_in M (q / 4) 0
  have c1 := wv_in M (q / 4) 1
  have c2 := wv_in M (q / 4) 2
  have hm : 0 ≤ M 19 0 k * (10 - s) ∧ M 19 0 k * (10 - s) ≤ 50 := by
    refine ⟨Int.mul_nonneg a (by omega), ?_⟩
    have := Int.mul_le_mul b (show 10 - s ≤ 10 by omega) (by omega) (by omega)
    omega
  unfold tk
  simp only []
  repeat' split
  all_goals omega
def hrN (M : Mem) (r s : Int) : Nat → Int → Int → Int
  | 0, _, q => q
  | k + 1, i, q => if q < 96 ∧ ¬ tk M (M 23 r i) s q = -5 then hrN M r s k (i + 1) (q + tk M (M 23 r i) s q) else -100 - i
def hr (M : Mem) (r s q : Int) : Int := hrN M r s (M 21 0 r).toNat 0 q
theorem hrN_s {M : Mem} {r s n i q : Int} (h1 : i < n) (h2 : q < 96) (h3 : ¬ tk M (M 23 r i) s q = -5) : hrN M r s (n - i).toNat i q = hrN M r s (n - (i + 1)).toNat (i + 1) (q + tk M (M 23 r i) s q) := by
  have e : (n - i).toNat = (n - (i + 1)).toNat + 1 := by omega
  rw [e]
  show (if _ then _ else _) = _
  rw [if_pos ⟨h2, h3⟩]
theorem hrN_b {M : Mem} {r s n i q : Int} (h1 : i < n) (h2 : 96 ≤ q ∨ tk M (M 23 r i) s q = -5) : hrN M r s (n - i).toNat i q = -100 - i := by
  have e : (n - i).toNat = (n - (i + 1)).toNat + 1 := by omega
  rw [e]
  show (if _ then _ else _) = _
  rw [if_neg (by omega)]
theorem hrN_z {M : Mem} {r s n i q : Int} (h1 : n ≤ i) : hrN M r s (n - i).toNat i q = q := by
  have e : (n - i).toNat = 0 := by omega
  rw [e]
  rfl

def GLb : List (Nat × Nat × Spec1) := (97, 3, sp_stt) :: (182, 2, sp_tko) :: (51, 1, sp_ghC) :: (171, 1, sp_ghM) :: (52, 1, sp_shC) :: (172, 1, sp_shM) :: (53, 1, sp_slC) :: (173, 1, sp_slM) :: GLa
abbrev GGb : Env1 := fun n => getG n GLb
theorem GGb_all {l : Launch} {ω : WP} : ∀ e ∈ GLb, ∀ as M Q, e.2.2 as M Q → Vd l ω e.2.1 e.1 as M Q := List.forall_mem_cons.mpr ⟨ok_stt, List.forall_mem_cons.mpr ⟨ok_tko, List.forall_mem_cons.mpr ⟨ok_ghC, List.forall_mem_cons.mpr ⟨ok_ghM, List.forall_mem_cons.mpr ⟨ok_shC, List.forall_mem_cons.mpr ⟨ok_shM, List.forall_mem_cons.mpr ⟨ok_slC, List.forall_mem_cons.mpr ⟨ok_slM, GGa_all⟩⟩⟩⟩⟩⟩⟩⟩
theorem GGb_ok {l : Launch} {ω : WP} : GOK l ω GGb := getG_ok GLb GGb_all

def sp_hrC : Spec1 := fun as M Q => match as with
  | [.inr (.inr (.inl (q0, i0))), .inl r, .inl s, .inl qb] => match Nat.beq q0 3 with
    | true => (i0 = 0 ∧ (0 ≤ r ∧ r < M 1 0 9) ∧ (0 ≤ s ∧ s ≤ 9) ∧ (0 ≤ qb ∧ qb ≤ 95) ∧ IRou M ∧ IStp M ∧ ISky M) ∧ Q (some (vI (hr M r s qb))) M
    | false => False
  | _ => False
theorem ok_hrC {l : Launch} {ω : WP} : ∀ as M Q, sp_hrC as M Q → Vd l ω 4 98 as M Q := by
  intro as M Q h
  unfold sp_hrC at h
  split at h
  case h_2 => exact h.elim
  rename_i q0 i0 r s qb
  cases hb : Nat.beq q0 3 with
  | false => rw [hb] at h; exact h.elim
  | true =>
  rw [hb] at h
  obtain ⟨⟨hi, h1, h2, h3, hR, hS, hK⟩, hQ⟩ := h
  have hb := beq_eq hb
  subst hb
  subst hi
  refine Vd.ok fun hok hal => ?_
  obtain ⟨r1, r2, r3, r4, r5⟩ := id hR
  obtain ⟨r6, r7⟩ := r5 r h1.1 h1.2
  have y3 := r2
  have y4 := r3
  have key : ∀ n, CutOK l ω 4 98 (cutL [(6, [0, 1, 2, 3, 4, 5], fun k vs M9 => ∃ q i : Int, vs = [vR 3 0, vI r, vI s, vI qb, vI q, vI i] ∧ M = M9 ∧ k = (M 21 0 r - i).toNat ∧ (0 ≤ i ∧ i ≤ M 21 0 r) ∧ (0 ≤ q ∧ q ≤ 160) ∧ hrN M r s (M 21 0 r - i).toNat i q = hr M r s qb)] n) Q := by
    refine loops (GGb_ok (l := l) (ω := ω)) 200 _ ?_
    refine List.forall_mem_cons.mpr ⟨?_, fun _ h => absurd h List.not_mem_nil⟩
    · rintro n vs M9 ⟨q, i, rfl, rfl, rfl, i0, g0, g1⟩
      have q7 : i < M 21 0 r → _ := fun b => r7 i (by omega) b
      have q8 : i < M 21 0 r → _ := fun b => tk_in (q := q) hS (q7 b).1 (q7 b).2 h2.1 h2.2
      show wpH _ 200 _ 98 _ true 6 [vR 3 0, vI r, vI s, vI qb, vI q, vI i, vU] [] _ Q
      conv => whnf
      repeat' first
        | (refine And.intro (fun h => ?_) (fun h => ?_) <;> (try simp (disch := decide) only [cmp3_lt, cmp3_ge, cmp3_gt, cmp3_le, cmp3_eq, ms_q, ms_f, and_self, and_true, true_and, and_false, false_and, or_true, true_or, or_false, false_or, if_true, if_false, not_true_eq_false, not_false_eq_true, eq_self, reduceIte, Int.reduceEq, Int.reduceLT, Int.reduceLE, Int.reduceNeg, Int.reduceAdd, Int.reduceSub, Int.reduceMul, Int.add_sub_cancel] at h) <;> (try simp (disch := omega) only [w32_e, w64_e, td_pos, tm_pos, Int.add_sub_cancel, y3, y4] at h) <;> first | exact absurd rfl h | exact absurd h (by decide) | (exfalso; omega) | (conv => whnf))
        | (refine And.intro (by first | omega | ((try simp (disch := decide) only [cmp3_lt, cmp3_ge, cmp3_gt, cmp3_le, cmp3_eq, ms_q, ms_f, and_self, and_true, true_and, and_false, false_and, or_true, true_or, or_false, false_or, if_true, if_false, not_true_eq_false, not_false_eq_true, eq_self, reduceIte, Int.reduceEq, Int.reduceLT, Int.reduceLE, Int.reduceNeg, Int.reduceAdd, Int.reduceSub, Int.reduceMul, Int.add_sub_cancel]); (try simp (disch := omega) only [w32_e, w64_e, td_pos, tm_pos, Int.add_sub_cancel, y3, y4]); first | assumption | omega) | ((try simp (disch := decide) only [cmp3_lt, cmp3_ge, cmp3_gt, cmp3_le, cmp3_eq, ms_q, ms_f, and_self, and_true, true_and, and_false, false_and, or_true, true_or, or_false, false_or, if_true, if_false, not_true_eq_false, not_false_eq_true, eq_self, reduceIte, Int.reduceEq, Int.reduceLT, Int.reduceLE, Int.reduceNeg, Int.reduceAdd, Int.reduceSub, Int.reduceMul, Int.add_sub_cancel]); (try simp (disch := omega) only [w32_e, w64_e, td_pos, tm_pos, Int.add_sub_cancel, y3, y4]); (repeat' (first | assumption | rfl | omega | apply And.intro)))) ?_; conv => whnf)
      all_goals first
        | (refine Eq.mp (congrArg (fun z => Q (some (vI z)) M) ?_) hQ; rw [← g1]; ((try simp (disch := decide) only [cmp3_lt, cmp3_ge, cmp3_gt, cmp3_le, cmp3_eq, ms_q, ms_f, and_self, and_true, true_and, and_false, false_and, or_true, true_or, or_false, false_or, if_true, if_false, not_true_eq_false, not_false_eq_true, eq_self, reduceIte, Int.reduceEq, Int.reduceLT, Int.reduceLE, Int.reduceNeg, Int.reduceAdd, Int.reduceSub, Int.reduceMul, Int.add_sub_cancel]); (try simp (disch := omega) only [w32_e, w64_e, td_pos, tm_pos, Int.add_sub_cancel, y3, y4])); first | exact hrN_b (by omega) (by omega) | exact hrN_z (by omega))
        | (refine ⟨_, ?_, _, _, rfl, rfl, rfl, ?_, ?_, ?_⟩ <;> ((try simp (disch := decide) only [cmp3_lt, cmp3_ge, cmp3_gt, cmp3_le, cmp3_eq, ms_q, ms_f, and_self, and_true, true_and, and_false, false_and, or_true, true_or, or_false, false_or, if_true, if_false, not_true_eq_false, not_false_eq_true, eq_self, reduceIte, Int.reduceEq, Int.reduceLT, Int.reduceLE, Int.reduceNeg, Int.reduceAdd, Int.reduceSub, Int.reduceMul, Int.add_sub_cancel]); (try simp (disch := omega) only [w32_e, w64_e, td_pos, tm_pos, Int.add_sub_cancel, y3, y4])) <;> first | omega | (rw [← g1]; exact (hrN_s (by omega) (by omega) (by omega)).symm))
  refine Vd_run (GGb_ok (l := l) (ω := ω)) 200 (hC := key 7) (by decide) ?_
  conv => whnf
  repeat' first
    | (refine And.intro (fun h => ?_) (fun h => ?_) <;> (try simp (disch := decide) only [cmp3_lt, cmp3_ge, cmp3_gt, cmp3_le, cmp3_eq, ms_q, ms_f, and_self, and_true, true_and, and_false, false_and, or_true, true_or, or_false, false_or, if_true, if_false, not_true_eq_false, not_false_eq_true, eq_self, reduceIte, Int.reduceEq, Int.reduceLT, Int.reduceLE, Int.reduceNeg, Int.reduceAdd, Int.reduceSub, Int.reduceMul, Int.add_sub_cancel] at h) <;> (try simp (disch := omega) only [w32_e, w64_e, td_pos, tm_pos, Int.add_sub_cancel, y3, y4] at h) <;> first | exact absurd rfl h | exact absurd h (by decide) | (exfalso; omega) | (conv => whnf))
    | (refine And.intro (by first | omega | ((try simp (disch := decide) only [cmp3_lt, cmp3_ge, cmp3_gt, cmp3_le, cmp3_eq, ms_q, ms_f, and_self, and_true, true_and, and_false, false_and, or_true, true_or, or_false, false_or, if_true, if_false, not_true_eq_false, not_false_eq_true, eq_self, reduceIte, Int.reduceEq, Int.reduceLT, Int.reduceLE, Int.reduceNeg, Int.reduceAdd, Int.reduceSub, Int.reduceMul, Int.add_sub_cancel]); (try simp (disch := omega) only [w32_e, w64_e, td_pos, tm_pos, Int.add_sub_cancel, y3, y4]); first | assumption | omega) | ((try simp (disch := decide) only [cmp3_lt, cmp3_ge, cmp3_gt, cmp3_le, cmp3_eq, ms_q, ms_f, and_self, and_true, true_and, and_false, false_and, or_true, true_or, or_false, false_or, if_true, if_false, not_true_eq_false, not_false_eq_true, eq_self, reduceIte, Int.reduceEq, Int.reduceLT, Int.reduceLE, Int.reduceNeg, Int.reduceAdd, Int.reduceSub, Int.reduceMul, Int.add_sub_cancel]); (try simp (disch := omega) only [w32_e, w64_e, td_pos, tm_pos, Int.add_sub_cancel, y3, y4]); (repeat' (first | assumption | rfl | omega | apply And.intro)))) ?_; conv => whnf)
  all_goals refine ⟨_, ?_, _, _, rfl, rfl, rfl, ?_, ?_, ?_⟩ <;> first | rfl | omega | (show hrN M r s (M 21 0 r - 0).toNat 0 qb = hr M r s qb; rw [Int.sub_zero]; rfl)

def sp_hrM : Spec1 := fun as M Q => match as with
  | [.inr (.inr (.inl (q0, i0))), .inl r, .inl s, .inl qb] => match Nat.beq q0 13 with
    | true => (i0 = 0 ∧ (0 ≤ r ∧ r < M 1 0 9) ∧ (0 ≤ s ∧ s ≤ 9) ∧ (0 ≤ qb ∧ qb ≤ 95) ∧ IRou M ∧ IStp M ∧ ISky M) ∧ Q (some (vI (hr M r s qb))) M
    | false => False
  | _ => False
theorem ok_hrM {l : Launch} {ω : WP} : ∀ as M Q, sp_hrM as M Q → Vd l ω 4 184 as M Q := by
  intro as M Q h
  unfold sp_hrM at h
  split at h
  case h_2 => exact h.elim
  rename_i q0 i0 r s qb
  cases hb : Nat.beq q0 13 with
  | false => rw [hb] at h; exact h.elim
  | true =>
  rw [hb] at h
  obtain ⟨⟨hi, h1, h2, h3, hR, hS, hK⟩, hQ⟩ := h
  have hb := beq_eq hb
  subst hb
  subst hi
  refine Vd.ok fun hok hal => ?_
  obtain ⟨r1, r2, r3, r4, r5⟩ := id hR
  obtain ⟨r6, r7⟩ := r5 r h1.1 h1.2
  have y3 := r2
  have y4 := r3
  have key : ∀ n, CutOK l ω 4 184 (cutL [(6, [0, 1, 2, 3, 4, 5], fun k vs M9 => ∃ q i : Int, vs = [vR 13 0, vI r, vI s, vI qb, vI q, vI i] ∧ M = M9 ∧ k = (M 21 0 r - i).toNat ∧ (0 ≤ i ∧ i ≤ M 21 0 r) ∧ (0 ≤ q ∧ q ≤ 160) ∧ hrN M r s (M 21 0 r - i).toNat i q = hr M r s qb)] n) Q := by
    refine loops (GGb_ok (l := l) (ω := ω)) 200 _ ?_
    refine List.forall_mem_cons.mpr ⟨?_, fun _ h => absurd h List.not_mem_nil⟩
    · rintro n vs M9 ⟨q, i, rfl, rfl, rfl, i0, g0, g1⟩
      have q7 : i < M 21 0 r → _ := fun b => r7 i (by omega) b
      have q8 : i < M 21 0 r → _ := fun b => tk_in (q := q) hS (q7 b).1 (q7 b).2 h2.1 h2.2
      show wpH _ 200 _ 184 _ true 6 [vR 13 0, vI r, vI s, vI qb, vI q, vI i, vU] [] _ Q
      conv => whnf
      repeat' first
        | (refine And.intro (fun h => ?_) (fun h => ?_) <;> (try simp (disch := decide) only [cmp3_lt, cmp3_ge, cmp3_gt, cmp3_le, cmp3_eq, ms_q, ms_f, and_self, and_true, true_and, and_false, false_and, or_true, true_or, or_false, false_or, if_true, if_false, not_true_eq_false, not_false_eq_true, eq_self, reduceIte, Int.reduceEq, Int.reduceLT, Int.reduceLE, Int.reduceNeg, Int.reduceAdd, Int.reduceSub, Int.reduceMul, Int.add_sub_cancel] at h) <;> (try simp (disch := omega) only [w32_e, w64_e, td_pos, tm_pos, Int.add_sub_cancel, y3, y4] at h) <;> first | exact absurd rfl h | exact absurd h (by decide) | (exfalso; omega) | (conv => whnf))
        | (refine And.intro (by first | omega | ((try simp (disch := decide) only [cmp3_lt, cmp3_ge, cmp3_gt, cmp3_le, cmp3_eq, ms_q, ms_f, and_self, and_true, true_and, and_false, false_and, or_true, true_or, or_false, false_or, if_true, if_false, not_true_eq_false, not_false_eq_true, eq_self, reduceIte, Int.reduceEq, Int.reduceLT, Int.reduceLE, Int.reduceNeg, Int.reduceAdd, Int.reduceSub, Int.reduceMul, Int.add_sub_cancel]); (try simp (disch := omega) only [w32_e, w64_e, td_pos, tm_pos, Int.add_sub_cancel, y3, y4]); first | assumption | omega) | ((try simp (disch := decide) only [cmp3_lt, cmp3_ge, cmp3_gt, cmp3_le, cmp3_eq, ms_q, ms_f, and_self, and_true, true_and, and_false, false_and, or_true, true_or, or_false, false_or, if_true, if_false, not_true_eq_false, not_false_eq_true, eq_self, reduceIte, Int.reduceEq, Int.reduceLT, Int.reduceLE, Int.reduceNeg, Int.reduceAdd, Int.reduceSub, Int.reduceMul, Int.add_sub_cancel]); (try simp (disch := omega) only [w32_e, w64_e, td_pos, tm_pos, Int.add_sub_cancel, y3, y4]); (repeat' (first | assumption | rfl | omega | apply And.intro)))) ?_; conv => whnf)
      all_goals first
        | (refine Eq.mp (congrArg (fun z => Q (some (vI z)) M) ?_) hQ; rw [← g1]; ((try simp (disch := decide) only [cmp3_lt, cmp3_ge, cmp3_gt, cmp3_le, cmp3_eq, ms_q, ms_f, and_self, and_true, true_and, and_false, false_and, or_true, true_or, or_false, false_or, if_true, if_false, not_true_eq_false, not_false_eq_true, eq_self, reduceIte, Int.reduceEq, Int.reduceLT, Int.reduceLE, Int.reduceNeg, Int.reduceAdd, Int.reduceSub, Int.reduceMul, Int.add_sub_cancel]); (try simp (disch := omega) only [w32_e, w64_e, td_pos, tm_pos, Int.add_sub_cancel, y3, y4])); first | exact hrN_b (by omega) (by omega) | exact hrN_z (by omega))
        | (refine ⟨_, ?_, _, _, rfl, rfl, rfl, ?_, ?_, ?_⟩ <;> ((try simp (disch := decide) only [cmp3_lt, cmp3_ge, cmp3_gt, cmp3_le, cmp3_eq, ms_q, ms_f, and_self, and_true, true_and, and_false, false_and, or_true, true_or, or_false, false_or, if_true, if_false, not_true_eq_false, not_false_eq_true, eq_self, reduceIte, Int.reduceEq, Int.reduceLT, Int.reduceLE, Int.reduceNeg, Int.reduceAdd, Int.reduceSub, Int.reduceMul, Int.add_sub_cancel]); (try simp (disch := omega) only [w32_e, w64_e, td_pos, tm_pos, Int.add_sub_cancel, y3, y4])) <;> first | omega | (rw [← g1]; exact (hrN_s (by omega) (by omega) (by omega)).symm))
  refine Vd_run (GGb_ok (l := l) (ω := ω)) 200 (hC := key 7) (by decide) ?_
  conv => whnf
  repeat' first
    | (refine And.intro (fun h => ?_) (fun h => ?_) <;> (try simp (disch := decide) only [cmp3_lt, cmp3_ge, cmp3_gt, cmp3_le, cmp3_eq, ms_q, ms_f, and_self, and_true, true_and, and_false, false_and, or_true, true_or, or_false, false_or, if_true, if_false, not_true_eq_false, not_false_eq_true, eq_self, reduceIte, Int.reduceEq, Int.reduceLT, Int.reduceLE, Int.reduceNeg, Int.reduceAdd, Int.reduceSub, Int.reduceMul, Int.add_sub_cancel] at h) <;> (try simp (disch := omega) only [w32_e, w64_e, td_pos, tm_pos, Int.add_sub_cancel, y3, y4] at h) <;> first | exact absurd rfl h | exact absurd h (by decide) | (exfalso; omega) | (conv => whnf))
    | (refine And.intro (by first | omega | ((try simp (disch := decide) only [cmp3_lt, cmp3_ge, cmp3_gt, cmp3_le, cmp3_eq, ms_q, ms_f, and_self, and_true, true_and, and_false, false_and, or_true, true_or, or_false, false_or, if_true, if_false, not_true_eq_false, not_false_eq_true, eq_self, reduceIte, Int.reduceEq, Int.reduceLT, Int.reduceLE, Int.reduceNeg, Int.reduceAdd, Int.reduceSub, Int.reduceMul, Int.add_sub_cancel]); (try simp (disch := omega) only [w32_e, w64_e, td_pos, tm_pos, Int.add_sub_cancel, y3, y4]); first | assumption | omega) | ((try simp (disch := decide) only [cmp3_lt, cmp3_ge, cmp3_gt, cmp3_le, cmp3_eq, ms_q, ms_f, and_self, and_true, true_and, and_false, false_and, or_true, true_or, or_false, false_or, if_true, if_false, not_true_eq_false, not_false_eq_true, eq_self, reduceIte, Int.reduceEq, Int.reduceLT, Int.reduceLE, Int.reduceNeg, Int.reduceAdd, Int.reduceSub, Int.reduceMul, Int.add_sub_cancel]); (try simp (disch := omega) only [w32_e, w64_e, td_pos, tm_pos, Int.add_sub_cancel, y3, y4]); (repeat' (first | assumption | rfl | omega | apply And.intro)))) ?_; conv => whnf)
  all_goals refine ⟨_, ?_, _, _, rfl, rfl, rfl, ?_, ?_, ?_⟩ <;> first | rfl | omega | (show hrN M r s (M 21 0 r - 0).toNat 0 qb = hr M r s qb; rw [Int.sub_zero]; rfl)
