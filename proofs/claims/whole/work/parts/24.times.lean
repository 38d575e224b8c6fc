/-! ===== weather, times (wip/gen/p3.py) ===== -/
theorem Vd.ok {l : Launch} {ω : WP} {d y : Nat} {as : List AV} {M : Mem} {Q : Post} (h : okM M → okL as → Vd l ω d y as M Q) : Vd l ω d y as M Q := fun a b => h a b a b
theorem tm_pos {x k : Int} (h : 0 ≤ x) : x.tmod k = x % k := Int.tmod_eq_emod_of_nonneg h
theorem GL_all {l : Launch} {ω : WP} : ∀ e ∈ GL, ∀ as M Q, e.2.2 as M Q → Vd l ω e.2.1 e.1 as M Q := List.forall_mem_cons.mpr ⟨ok_sp_within, List.forall_mem_cons.mpr ⟨ok_sp_in, List.forall_mem_cons.mpr ⟨ok_sp_str, List.forall_mem_cons.mpr ⟨ok_sp_qua, List.forall_mem_cons.mpr ⟨ok_has_42, List.forall_mem_cons.mpr ⟨ok_has_43, List.forall_mem_cons.mpr ⟨ok_has_44, List.forall_mem_cons.mpr ⟨ok_has_85, List.forall_mem_cons.mpr ⟨ok_has_30, List.forall_mem_cons.mpr ⟨ok_has_161, List.forall_mem_cons.mpr ⟨ok_has_162, List.forall_mem_cons.mpr ⟨ok_has_163, List.forall_mem_cons.mpr ⟨ok_has_189, List.forall_mem_cons.mpr ⟨ok_has_1, fun _ h => absurd h List.not_mem_nil⟩⟩⟩⟩⟩⟩⟩⟩⟩⟩⟩⟩⟩⟩
def wmost (w : Int) : Int := if w = 0 then 200 else 99
def wv (M : Mem) (h w : Int) : Int := if M 24 0 w = w ∧ h < M 25 0 w then max 0 (min (wmost w) (if w = 0 then (M 27 w h).tdiv 100 else M 27 w h)) else wmost w
theorem wv_in (M : Mem) (h w : Int) : 0 ≤ wv M h w ∧ wv M h w ≤ 200 := by
  unfold wv wmost
  repeat' split
  all_goals omega

def sp_val : Spec1 := fun as M Q => match as with
  | [.inr (.inr (.inl (q0, i0))), .inl u, .inl w] => match Nat.beq q0 2 with
    | true => (i0 = 0 ∧ (0 ≤ u ∧ u < 24) ∧ (0 ≤ w ∧ w ≤ 2) ∧ ISky M) ∧ Q (some (vI (wv M u w))) M
    | false => False
  | _ => False
theorem ok_val {l : Launch} {ω : WP} : ∀ as M Q, sp_val as M Q → Vd l ω 2 77 as M Q := by
  intro as M Q h
  unfold sp_val at h
  split at h
  case h_2 => exact h.elim
  rename_i q0 i0 u w
  cases hb : Nat.beq q0 2 with
  | false => rw [hb] at h; exact h.elim
  | true =>
  rw [hb] at h
  obtain ⟨⟨hi, h1, h2, hK⟩, hQ⟩ := h
  have hb := beq_eq hb
  subst hb
  subst hi
  refine Vd.ok fun hok hal => ?_
  have k1 := hK w (by omega) (by omega)
  have k2 := k1.1
  have k3 := k1.2.1
  have k4 := k1.2.2.1
  have k5 := k1.2.2.2 u h1.1 (by omega)
  have k6 : in32 (M 27 w u) := hok 27 w u
  have k7 := @lt_td (M 27 w u)
  have k8 := w32_td k6 (show (0 : Int) < 100 by decide)
  have k9 := k6.1
  have k10 := k6.2
  refine Vd_run (GG_ok (l := l) (ω := ω)) 400 (cut := fun _ => none) (by decide) CutOK_none ?_
  conv => whnf
  repeat' first
    | (refine And.intro (fun h => ?_) (fun h => ?_) <;> (try simp (disch := decide) only [cmp3_lt, cmp3_ge, cmp3_gt, cmp3_le, cmp3_eq, ms_q, ms_f, and_self, and_true, true_and, and_false, false_and, or_true, true_or, or_false, false_or, if_true, if_false, not_true_eq_false, not_false_eq_true, eq_self, reduceIte, Int.reduceEq, Int.reduceLT, Int.reduceLE, Int.reduceNeg, Int.reduceAdd, Int.reduceSub, Int.reduceMul, Int.add_sub_cancel] at h) <;> (try simp (disch := omega) only [w32_e, w64_e, td_pos, tm_pos, Int.add_sub_cancel, k8] at h) <;> first | exact absurd rfl h | exact absurd h (by decide) | (exfalso; omega) | (conv => whnf))
    | (refine And.intro (by first | omega | ((try simp (disch := decide) only [cmp3_lt, cmp3_ge, cmp3_gt, cmp3_le, cmp3_eq, ms_q, ms_f, and_self, and_true, true_and, and_false, false_and, or_true, true_or, or_false, false_or, if_true, if_false, not_true_eq_false, not_false_eq_true, eq_self, reduceIte, Int.reduceEq, Int.reduceLT, Int.reduceLE, Int.reduceNeg, Int.reduceAdd, Int.reduceSub, Int.reduceMul, Int.add_sub_cancel]); (try simp (disch := omega) only [w32_e, w64_e, td_pos, tm_pos, Int.add_sub_cancel, k8]); first | assumption | omega) | ((try simp (disch := decide) only [cmp3_lt, cmp3_ge, cmp3_gt, cmp3_le, cmp3_eq, ms_q, ms_f, and_self, and_true, true_and, and_false, false_and, or_true, true_or, or_false, false_or, if_true, if_false, not_true_eq_false, not_false_eq_true, eq_self, reduceIte, Int.reduceEq, Int.reduceLT, Int.reduceLE, Int.reduceNeg, Int.reduceAdd, Int.reduceSub, Int.reduceMul, Int.add_sub_cancel]); (try simp (disch := omega) only [w32_e, w64_e, td_pos, tm_pos, Int.add_sub_cancel]); (repeat' (first | assumption | rfl | omega | apply And.intro)))) ?_; conv => whnf)
  all_goals ((try simp (disch := decide) only [cmp3_lt, cmp3_ge, cmp3_gt, cmp3_le, cmp3_eq, ms_q, ms_f, and_self, and_true, true_and, and_false, false_and, or_true, true_or, or_false, false_or, if_true, if_false, not_true_eq_false, not_false_eq_true, eq_self, reduceIte, Int.reduceEq, Int.reduceLT, Int.reduceLE, Int.reduceNeg, Int.reduceAdd, Int.reduceSub, Int.reduceMul, Int.add_sub_cancel] at *); (try simp (disch := omega) only [w32_e, w64_e, td_pos, tm_pos, Int.add_sub_cancel, k8] at *))
  all_goals refine Eq.mp (congrArg (fun z => Q (some (vI z)) M) ?_) hQ
  all_goals simp only [wv, wmost, and_self, and_true, true_and, and_false, false_and, or_true, true_or, or_false, false_or, if_true, if_false, not_true_eq_false, not_false_eq_true, eq_self, reduceIte, Int.reduceEq, Int.reduceLT, Int.reduceLE, Int.reduceNeg, Int.reduceAdd, Int.reduceSub, Int.reduceMul, Int.add_sub_cancel]
  all_goals (try simp (disch := omega) only [w32_e, w64_e, td_pos, tm_pos, Int.add_sub_cancel])
  all_goals first | omega | ((repeat' split) <;> omega) | skip

def sp_wea : Spec1 := fun as M Q => match as with
  | [.inr (.inr (.inl (q0, i0))), .inl u, .inl w] => match Nat.beq q0 13 with
    | true => (i0 = 0 ∧ (0 ≤ u ∧ u < 24) ∧ (0 ≤ w ∧ w ≤ 2) ∧ ISky M) ∧ Q (some (vI (wv M u w))) M
    | false => False
  | _ => False
theorem ok_wea {l : Launch} {ω : WP} : ∀ as M Q, sp_wea as M Q → Vd l ω 1 179 as M Q := by
  intro as M Q h
  unfold sp_wea at h
  split at h
  case h_2 => exact h.elim
  rename_i q0 i0 u w
  cases hb : Nat.beq q0 13 with
  | false => rw [hb] at h; exact h.elim
  | true =>
  rw [hb] at h
  obtain ⟨⟨hi, h1, h2, hK⟩, hQ⟩ := h
  have hb := beq_eq hb
  subst hb
  subst hi
  refine Vd.ok fun hok hal => ?_
  have k1 := hK w (by omega) (by omega)
  have k2 := k1.1
  have k3 := k1.2.1
  have k4 := k1.2.2.1
  have k5 := k1.2.2.2 u h1.1 (by omega)
  have k6 : in32 (M 27 w u) := hok 27 w u
  have k7 := @lt_td (M 27 w u)
  have k8 := w32_td k6 (show (0 : Int) < 100 by decide)
  have k9 := k6.1
  have k10 := k6.2
  refine Vd_run (GG_ok (l := l) (ω := ω)) 400 (cut := fun _ => none) (by decide) CutOK_none ?_
  conv => whnf
  repeat' first
    | (refine And.intro (fun h => ?_) (fun h => ?_) <;> (try simp (disch := decide) only [cmp3_lt, cmp3_ge, cmp3_gt, cmp3_le, cmp3_eq, ms_q, ms_f, and_self, and_true, true_and, and_false, false_and, or_true, true_or, or_false, false_or, if_true, if_false, not_true_eq_false, not_false_eq_true, eq_self, reduceIte, Int.reduceEq, Int.reduceLT, Int.reduceLE, Int.reduceNeg, Int.reduceAdd, Int.reduceSub, Int.reduceMul, Int.add_sub_cancel] at h) <;> (try simp (disch := omega) only [w32_e, w64_e, td_pos, tm_pos, Int.add_sub_cancel, k8] at h) <;> first | exact absurd rfl h | exact absurd h (by decide) | (exfalso; omega) | (conv => whnf))
    | (refine And.intro (by first | omega | ((try simp (disch := decide) only [cmp3_lt, cmp3_ge, cmp3_gt, cmp3_le, cmp3_eq, ms_q, ms_f, and_self, and_true, true_and, and_false, false_and, or_true, true_or, or_false, false_or, if_true, if_false, not_true_eq_false, not_false_eq_true, eq_self, reduceIte, Int.reduceEq, Int.reduceLT, Int.reduceLE, Int.reduceNeg, Int.reduceAdd, Int.reduceSub, Int.reduceMul, Int.add_sub_cancel]); (try simp (disch := omega) only [w32_e, w64_e, td_pos, tm_pos, Int.add_sub_cancel, k8]); first | assumption | omega) | ((try simp (disch := decide) only [cmp3_lt, cmp3_ge, cmp3_gt, cmp3_le, cmp3_eq, ms_q, ms_f, and_self, and_true, true_and, and_false, false_and, or_true, true_or, or_false, false_or, if_true, if_false, not_true_eq_false, not_false_eq_true, eq_self, reduceIte, Int.reduceEq, Int.reduceLT, Int.reduceLE, Int.reduceNeg, Int.reduceAdd, Int.reduceSub, Int.reduceMul, Int.add_sub_cancel]); (try simp (disch := omega) only [w32_e, w64_e, td_pos, tm_pos, Int.add_sub_cancel]); (repeat' (first | assumption | rfl | omega | apply And.intro)))) ?_; conv => whnf)
  all_goals ((try simp (disch := decide) only [cmp3_lt, cmp3_ge, cmp3_gt, cmp3_le, cmp3_eq, ms_q, ms_f, and_self, and_true, true_and, and_false, false_and, or_true, true_or, or_false, false_or, if_true, if_false, not_true_eq_false, not_false_eq_true, eq_self, reduceIte, Int.reduceEq, Int.reduceLT, Int.reduceLE, Int.reduceNeg, Int.reduceAdd, Int.reduceSub, Int.reduceMul, Int.add_sub_cancel] at *); (try simp (disch := omega) only [w32_e, w64_e, td_pos, tm_pos, Int.add_sub_cancel, k8] at *))
  all_goals refine Eq.mp (congrArg (fun z => Q (some (vI z)) M) ?_) hQ
  all_goals simp only [wv, wmost, and_self, and_true, true_and, and_false, false_and, or_true, true_or, or_false, false_or, if_true, if_false, not_true_eq_false, not_false_eq_true, eq_self, reduceIte, Int.reduceEq, Int.reduceLT, Int.reduceLE, Int.reduceNeg, Int.reduceAdd, Int.reduceSub, Int.reduceMul, Int.add_sub_cancel]
  all_goals (try simp (disch := omega) only [w32_e, w64_e, td_pos, tm_pos, Int.add_sub_cancel])
  all_goals first | omega | ((repeat' split) <;> omega) | skip

/-- the quarters that a step takes, or -5 -/
def tk (M : Mem) (k s q : Int) : Int :=
  let path := M 18 0 k + (9 - s) / 3
  let climb := M 19 0 k * (10 - s) / 4
  let ice := if 48 ≤ q then 2 * path else path
  let rock := if 0 < wv M (q / 4) 1 then path + 2 * climb else path + climb
  if M 17 0 k = 0 then path else if M 17 0 k = 1 then ice else if M 17 0 k = 2 then rock else
  if M 17 0 k = 3 then (if 60 < wv M (q / 4) 2 + 2 * M 19 0 k then -5 else ice + wv M (q / 4) 2 / 10) else
  if 100 - 10 * M 19 0 k < wv M (q / 4) 0 then -5 else rock + wv M (q / 4) 0 / 40

def GLa : List (Nat × Nat × Spec1) := (77, 2, sp_val) :: (179, 1, sp_wea) :: GL
abbrev GGa : Env1 := fun n => getG n GLa
theorem GGa_all {l : Launch} {ω : WP} : ∀ e ∈ GLa, ∀ as M Q, e.2.2 as M Q → Vd l ω e.2.1 e.1 as M Q := List.forall_mem_cons.mpr ⟨ok_val, List.forall_mem_cons.mpr ⟨ok_wea, GL_all⟩⟩
theorem GGa_ok {l : Launch} {ω : WP} : GOK l ω GGa := getG_ok GLa GGa_all

def sp_stt : Spec1 := fun as M Q => match as with
  | [.inr (.inr (.inl (q0, i0))), .inl k, .inl s, .inl q] => match Nat.beq q0 3 with
    | true => (i0 = 0 ∧ (0 ≤ k ∧ k < M 1 0 2) ∧ (0 ≤ s ∧ s ≤ 9) ∧ (0 ≤ q ∧ q ≤ 95) ∧ IStp M ∧ ISky M) ∧ Q (some (vI (tk M k s q))) M
    | false => False
  | _ => False
theorem ok_stt {l : Launch} {ω : WP} : ∀ as M Q, sp_stt as M Q → Vd l ω 3 97 as M Q := by
  intro as M Q h
  unfold sp_stt at h
  split at h
  case h_2 => exact h.elim
  rename_i q0 i0 k s q
  cases hb : Nat.beq q0 3 with
  | false => rw [hb] at h; exact h.elim
  | true =>
  rw [hb] at h
  obtain ⟨⟨hi, h1, h2, h3, hS, hK⟩, hQ⟩ := h
  have hb := beq_eq hb
  subst hb
  subst hi
  refine Vd.ok fun hok hal => ?_
  obtain ⟨s1, ⟨t1, t2, t3, t4, t5, t6⟩, s3, s4⟩ := id hS
  have s5 := s4 k h1.1 h1.2
  have c0 := wv_in M (q / 4) 0
  have c1 := wv_in M (q / 4) 1
  have c2 := wv_in M (q / 4) 2
  have x1 := t3
  have x2 := t4
  have x3 := t5
  have hm : 0 ≤ M 19 0 k * (10 - s) ∧ M 19 0 k * (10 - s) ≤ 50 := by
    obtain ⟨-, -, -, -, a, b⟩ := s5
    refine ⟨Int.mul_nonneg a (by omega), ?_⟩
    have := Int.mul_le_mul b (show 10 - s ≤ 10 by omega) (by omega) (by omega)
    omega
  refine Vd_run (GGa_ok (l := l) (ω := ω)) 400 (cut := fun _ => none) (by decide) CutOK_none ?_
  conv => whnf
  repeat' first
    | (refine And.intro (fun h => ?_) (fun h => ?_) <;> (try simp (disch := decide) only [cmp3_lt, cmp3_ge, cmp3_gt, cmp3_le, cmp3_eq, ms_q, ms_f, and_self, and_true, true_and, and_false, false_and, or_true, true_or, or_false, false_or, if_true, if_false, not_true_eq_false, not_false_eq_true, eq_self, reduceIte, Int.reduceEq, Int.reduceLT, Int.reduceLE, Int.reduceNeg, Int.reduceAdd, Int.reduceSub, Int.reduceMul, Int.add_sub_cancel] at h) <;> (try simp (disch := omega) only [w32_e, w64_e, td_pos, tm_pos, Int.add_sub_cancel, x1, x2, x3] at h) <;> first | exact absurd rfl h | exact absurd h (by decide) | (exfalso; omega) | (conv => whnf))
    | (refine And.intro (by first | omega | ((try simp (disch := decide) only [cmp3_lt, cmp3_ge, cmp3_gt, cmp3_le, cmp3_eq, ms_q, ms_f, and_self, and_true, true_and, and_false, false_and, or_true, true_or, or_false, false_or, if_true, if_false, not_true_eq_false, not_false_eq_true, eq_self, reduceIte, Int.reduceEq, Int.reduceLT, Int.reduceLE, Int.reduceNeg, Int.reduceAdd, Int.reduceSub, Int.reduceMul, Int.add_sub_cancel]); (try simp (disch := omega) only [w32_e, w64_e, td_pos, tm_pos, Int.add_sub_cancel, x1, x2, x3]); first | assumption | omega) | ((try simp (disch := decide) only [cmp3_lt, cmp3_ge, cmp3_gt, cmp3_le, cmp3_eq, ms_q, ms_f, and_self, and_true, true_and, and_false, false_and, or_true, true_or, or_false, false_or, if_true, if_false, not_true_eq_false, not_false_eq_true, eq_self, reduceIte, Int.reduceEq, Int.reduceLT, Int.reduceLE, Int.reduceNeg, Int.reduceAdd, Int.reduceSub, Int.reduceMul, Int.add_sub_cancel]); (try simp (disch := omega) only [w32_e, w64_e, td_pos, tm_pos, Int.add_sub_cancel]); (repeat' (first | assumption | rfl | omega | apply And.intro)))) ?_; conv => whnf)
  all_goals ((try simp (disch := decide) only [cmp3_lt, cmp3_ge, cmp3_gt, cmp3_le, cmp3_eq, ms_q, ms_f, and_self, and_true, true_and, and_false, false_and, or_true, true_or, or_false, false_or, if_true, if_false, not_true_eq_false, not_false_eq_true, eq_self, reduceIte, Int.reduceEq, Int.reduceLT, Int.reduceLE, Int.reduceNeg, Int.reduceAdd, Int.reduceSub, Int.reduceMul, Int.add_sub_cancel] at *); (try simp (disch := omega) only [w32_e, w64_e, td_pos, tm_pos, Int.add_sub_cancel, x1, x2, x3] at *))
  all_goals refine Eq.mp (congrArg (fun z => Q (some (vI z)) M) ?_) hQ
  all_goals simp only [tk, and_self, and_true, true_and, and_false, false_and, or_true, true_or, or_false, false_or, if_true, if_false, not_true_eq_false, not_false_eq_true, eq_self, reduceIte, Int.reduceEq, Int.reduceLT, Int.reduceLE, Int.reduceNeg, Int.reduceAdd, Int.reduceSub, Int.reduceMul, Int.add_sub_cancel]
  all_goals (try simp (disch := omega) only [w32_e, w64_e, td_pos, tm_pos, Int.add_sub_cancel])
  all_goals first | omega | ((repeat' split) <;> omega) | skip

def sp_tko : Spec1 := fun as M Q => match as with
  | [.inr (.inr (.inl (q0, i0))), .inl k, .inl s, .inl q] => match Nat.beq q0 13 with
    | true => (i0 = 0 ∧ (0 ≤ k ∧ k < M 1 0 2) ∧ (0 ≤ s ∧ s ≤ 9) ∧ (0 ≤ q ∧ q ≤ 95) ∧ IStp M ∧ ISky M) ∧ Q (some (vI (tk M k s q))) M
    | false => False
  | _ => False
theorem ok_tko {l : Launch} {ω : WP} : ∀ as M Q, sp_tko as M Q → Vd l ω 2 182 as M Q := by
  intro as M Q h
  unfold sp_tko at h
  split at h
  case h_2 => exact h.elim
  rename_i q0 i0 k s q
  cases hb : Nat.beq q0 13 with
  | false => rw [hb] at h; exact h.elim
  | true =>
  rw [hb] at h
  obtain ⟨⟨hi, h1, h2, h3, hS, hK⟩, hQ⟩ := h
  have hb := beq_eq hb
  subst hb
  subst hi
  refine Vd.ok fun hok hal => ?_
  obtain ⟨s1, ⟨t1, t2, t3, t4, t5, t6⟩, s3, s4⟩ := id hS
  have s5 := s4 k h1.1 h1.2
  have c0 := wv_in M (q / 4) 0
  have c1 := wv_in M (q / 4) 1
  have c2 := wv_in M (q / 4) 2
  have x1 := t3
  have x2 := t4
  have x3 := t5
  have hm : 0 ≤ M 19 0 k * (10 - s) ∧ M 19 0 k * (10 - s) ≤ 50 := by
    obtain ⟨-, -, -, -, a, b⟩ := s5
    refine ⟨Int.mul_nonneg a (by omega), ?_⟩
    have := Int.mul_le_mul b (show 10 - s ≤ 10 by omega) (by omega) (by omega)
    omega
  refine Vd_run (GGa_ok (l := l) (ω := ω)) 400 (cut := fun _ => none) (by decide) CutOK_none ?_
  conv => whnf
  repeat' first
    | (refine And.intro (fun h => ?_) (fun h => ?_) <;> (try simp (disch := decide) only [cmp3_lt, cmp3_ge, cmp3_gt, cmp3_le, cmp3_eq, ms_q, ms_f, and_self, and_true, true_and, and_false, false_and, or_true, true_or, or_false, false_or, if_true, if_false, not_true_eq_false, not_false_eq_true, eq_self, reduceIte, Int.reduceEq, Int.reduceLT, Int.reduceLE, Int.reduceNeg, Int.reduceAdd, Int.reduceSub, Int.reduceMul, Int.add_sub_cancel] at h) <;> (try simp (disch := omega) only [w32_e, w64_e, td_pos, tm_pos, Int.add_sub_cancel, x1, x2, x3] at h) <;> first | exact absurd rfl h | exact absurd h (by decide) | (exfalso; omega) | (conv => whnf))
    | (refine And.intro (by first | omega | ((try simp (disch := decide) only [cmp3_lt, cmp3_ge, cmp3_gt, cmp3_le, cmp3_eq, ms_q, ms_f, and_self, and_true, true_and, and_false, false_and, or_true, true_or, or_false, false_or, if_true, if_false, not_true_eq_false, not_false_eq_true, eq_self, reduceIte, Int.reduceEq, Int.reduceLT, Int.reduceLE, Int.reduceNeg, Int.reduceAdd, Int.reduceSub, Int.reduceMul, Int.add_sub_cancel]); (try simp (disch := omega) only [w32_e, w64_e, td_pos, tm_pos, Int.add_sub_cancel, x1, x2, x3]); first | assumption | omega) | ((try simp (disch := decide) only [cmp3_lt, cmp3_ge, cmp3_gt, cmp3_le, cmp3_eq, ms_q, ms_f, and_self, and_true, true_and, and_false, false_and, or_true, true_or, or_false, false_or, if_true, if_false, not_true_eq_false, not_false_eq_true, eq_self, reduceIte, Int.reduceEq, Int.reduceLT, Int.reduceLE, Int.reduceNeg, Int.reduceAdd, Int.reduceSub, Int.reduceMul, Int.add_sub_cancel]); (try simp (disch := omega) only [w32_e, w64_e, td_pos, tm_pos, Int.add_sub_cancel]); (repeat' (first | assumption | rfl | omega | apply And.intro)))) ?_; conv => whnf)
  all_goals ((try simp (disch := decide) only [cmp3_lt, cmp3_ge, cmp3_gt, cmp3_le, cmp3_eq, ms_q, ms_f, and_self, and_true, true_and, and_false, false_and, or_true, true_or, or_false, false_or, if_true, if_false, not_true_eq_false, not_false_eq_true, eq_self, reduceIte, Int.reduceEq, Int.reduceLT, Int.reduceLE, Int.reduceNeg, Int.reduceAdd, Int.reduceSub, Int.reduceMul, Int.add_sub_cancel] at *); (try simp (disch := omega) only [w32_e, w64_e, td_pos, tm_pos, Int.add_sub_cancel, x1, x2, x3] at *))
  all_goals refine Eq.mp (congrArg (fun z => Q (some (vI z)) M) ?_) hQ
  all_goals simp only [tk, and_self, and_true, true_and, and_false, false_and, or_true, true_or, or_false, false_or, if_true, if_false, not_true_eq_false, not_false_eq_true, eq_self, reduceIte, Int.reduceEq, Int.reduceLT, Int.reduceLE, Int.reduceNeg, Int.reduceAdd, Int.reduceSub, Int.reduceMul, Int.add_sub_cancel]
  all_goals (try simp (disch := omega) only [w32_e, w64_e, td_pos, tm_pos, Int.add_sub_cancel])
  all_goals first | omega | ((repeat' split) <;> omega) | skip
