/-! ===== specs of the small tests: two ways each, so that a run doesn't split further ===== -/
def spB (P : Prop) (M : Mem) (Q : Post) : Prop := (P → Q (some (vI 1)) M) ∧ (¬ P → Q (some (vI 0)) M)
def sp_within : Spec1 := fun as M Q => match as with
  | [.inl v, .inl a, .inl b] => spB (a ≤ v ∧ v ≤ b) M Q
  | _ => False
def sp_in : Spec1 := fun as M Q => match as with
  | [.inr (.inl v), .inr (.inl a), .inr (.inl b)] => spB (a ≤ v ∧ v ≤ b) M Q
  | _ => False
def sp_str : Spec1 := fun as M Q => match as with
  | [.inl v] => spB (0 ≤ v ∧ v ≤ 9) M Q
  | _ => False
def sp_qua : Spec1 := fun as M Q => match as with
  | [.inl v] => spB (0 ≤ v ∧ v ≤ 95) M Q
  | _ => False
/-- a number below a field -/
def sp_has (p : Nat) (f : Int) : Spec1 := fun as M Q => match as with
  | [.inr (.inr (.inl (q, i))), .inl v] => match Nat.beq q p with
    | true => (0 ≤ M p i f ∧ M p i f ≤ 100) ∧ spB (0 ≤ v ∧ v < M p i f) M Q
    | false => False
  | _ => False
/-- the same, the field of another object -/
def sp_hasO (q0 p : Nat) (f : Int) : Spec1 := fun as M Q => match as with
  | [.inr (.inr (.inl (q, i))), .inl v] => match Nat.beq q q0 with
    | true => (0 ≤ M p i f ∧ M p i f ≤ 100) ∧ spB (0 ≤ v ∧ v < M p i f) M Q
    | false => False
  | _ => False
def getG (n : Nat) : List (Nat × Nat × Spec1) → Option (Nat × Spec1)
  | [] => none
  | (y, d, s) :: l => bif Nat.beq n y then some (d, s) else getG n l
theorem getG_ok {l : Launch} {ω : WP} : ∀ (L : List (Nat × Nat × Spec1)), (∀ e ∈ L, ∀ as M Q, e.2.2 as M Q → Vd l ω e.2.1 e.1 as M Q) → GOK l ω (fun n => getG n L)
  | [], _ => fun y s h => by cases h
  | (y0, d, s0) :: L, hL => fun y s h as M Q hq => by
    have h : (bif Nat.beq y y0 then some (d, s0) else getG y L) = some s := h
    cases hb : Nat.beq y y0 with
    | true =>
      rw [hb] at h
      cases h
      rw [beq_eq hb]
      exact hL _ List.mem_cons_self as M Q hq
    | false =>
      rw [hb] at h
      exact getG_ok L (fun e he => hL e (List.mem_cons_of_mem _ he)) y s h as M Q hq
theorem ok_sp_within {l : Launch} {ω : WP} : ∀ as M Q, sp_within as M Q → Vd l ω 0 104 as M Q := by
  intro as M Q h
  unfold sp_within at h
  split at h
  case h_2 => exact h.elim
  rename_i v a b
  obtain ⟨h1, h2⟩ := h
  refine Vd_wp (GOK_none (l := l) (ω := ω)) (n := 60) (cut := fun _ => none) (by decide) CutOK_none ?_
  conv => whnf
  repeat' first
    | (intro h; exact absurd rfl h)
    | (intro h; exact absurd h (by decide))
    | (refine And.intro ?_ ?_)
    | (intro _)
    | (show wpG _ _ _ _ _ _ _ _ _ _ _ _ _ _ _ _ _ _; conv => whnf)
    | omega
    | (simp (disch := decide) only [w32, cmp3_lt, cmp3_ge, cmp3_gt, cmp3_le, cmp3_eq, ms_q, ms_f, and_self, and_true, true_and, and_false, false_and, if_true, if_false] at *; omega)
  all_goals try simp only [cmp3_lt, cmp3_ge, cmp3_gt, cmp3_le, cmp3_eq, w32] at *
  all_goals first
    | exact h1 (by omega)
    | exact h2 (by omega)
    | omega

theorem ok_sp_in {l : Launch} {ω : WP} : ∀ as M Q, sp_in as M Q → Vd l ω 0 159 as M Q := by
  intro as M Q h
  unfold sp_in at h
  split at h
  case h_2 => exact h.elim
  rename_i v a b
  obtain ⟨h1, h2⟩ := h
  refine Vd_wp (GOK_none (l := l) (ω := ω)) (n := 60) (cut := fun _ => none) (by decide) CutOK_none ?_
  conv => whnf
  repeat' first
    | (intro h; exact absurd rfl h)
    | (intro h; exact absurd h (by decide))
    | (refine And.intro ?_ ?_)
    | (intro _)
    | (show wpG _ _ _ _ _ _ _ _ _ _ _ _ _ _ _ _ _ _; conv => whnf)
    | omega
    | (simp (disch := decide) only [w32, cmp3_lt, cmp3_ge, cmp3_gt, cmp3_le, cmp3_eq, ms_q, ms_f, and_self, and_true, true_and, and_false, false_and, if_true, if_false] at *; omega)
  all_goals try simp only [cmp3_lt, cmp3_ge, cmp3_gt, cmp3_le, cmp3_eq, w32] at *
  all_goals first
    | exact h1 (by omega)
    | exact h2 (by omega)
    | omega

theorem ok_sp_str {l : Launch} {ω : WP} : ∀ as M Q, sp_str as M Q → Vd l ω 1 106 as M Q := by
  intro as M Q h
  unfold sp_str at h
  split at h
  case h_2 => exact h.elim
  rename_i v
  obtain ⟨h1, h2⟩ := h
  refine Vd_wp (GOK_none (l := l) (ω := ω)) (n := 60) (cut := fun _ => none) (by decide) CutOK_none ?_
  conv => whnf
  repeat' first
    | (intro h; exact absurd rfl h)
    | (intro h; exact absurd h (by decide))
    | (refine And.intro ?_ ?_)
    | (intro _)
    | (show wpG _ _ _ _ _ _ _ _ _ _ _ _ _ _ _ _ _ _; conv => whnf)
    | omega
    | (simp (disch := decide) only [w32, cmp3_lt, cmp3_ge, cmp3_gt, cmp3_le, cmp3_eq, ms_q, ms_f, and_self, and_true, true_and, and_false, false_and, if_true, if_false] at *; omega)
  all_goals try simp only [cmp3_lt, cmp3_ge, cmp3_gt, cmp3_le, cmp3_eq, w32] at *
  all_goals first
    | exact h1 (by omega)
    | exact h2 (by omega)
    | omega

theorem ok_sp_qua {l : Launch} {ω : WP} : ∀ as M Q, sp_qua as M Q → Vd l ω 1 107 as M Q := by
  intro as M Q h
  unfold sp_qua at h
  split at h
  case h_2 => exact h.elim
  rename_i v
  obtain ⟨h1, h2⟩ := h
  refine Vd_wp (GOK_none (l := l) (ω := ω)) (n := 60) (cut := fun _ => none) (by decide) CutOK_none ?_
  conv => whnf
  repeat' first
    | (intro h; exact absurd rfl h)
    | (intro h; exact absurd h (by decide))
    | (refine And.intro ?_ ?_)
    | (intro _)
    | (show wpG _ _ _ _ _ _ _ _ _ _ _ _ _ _ _ _ _ _; conv => whnf)
    | omega
    | (simp (disch := decide) only [w32, cmp3_lt, cmp3_ge, cmp3_gt, cmp3_le, cmp3_eq, ms_q, ms_f, and_self, and_true, true_and, and_false, false_and, if_true, if_false] at *; omega)
  all_goals try simp only [cmp3_lt, cmp3_ge, cmp3_gt, cmp3_le, cmp3_eq, w32] at *
  all_goals first
    | exact h1 (by omega)
    | exact h2 (by omega)
    | omega

theorem ok_has_42 {l : Launch} {ω : WP} : ∀ as M Q, sp_has 1 0 as M Q → Vd l ω 1 42 as M Q := by
  intro as M Q h
  unfold sp_has at h
  split at h
  case h_2 => exact h.elim
  rename_i q i v
  cases hb : Nat.beq q 1 with
  | false => rw [hb] at h; exact h.elim
  | true =>
  rw [hb] at h
  obtain ⟨⟨h3, h4⟩, h1, h2⟩ := h
  have hb := beq_eq hb
  subst hb
  refine Vd_wp (GOK_none (l := l) (ω := ω)) (n := 60) (cut := fun _ => none) (by decide) CutOK_none ?_
  conv => whnf
  repeat' first
    | (intro h; exact absurd rfl h)
    | (intro h; exact absurd h (by decide))
    | (refine And.intro ?_ ?_)
    | (intro _)
    | (show wpG _ _ _ _ _ _ _ _ _ _ _ _ _ _ _ _ _ _; conv => whnf)
    | omega
    | (simp (disch := decide) only [w32, cmp3_lt, cmp3_ge, cmp3_gt, cmp3_le, cmp3_eq, ms_q, ms_f, and_self, and_true, true_and, and_false, false_and, if_true, if_false] at *; omega)
  all_goals try simp only [cmp3_lt, cmp3_ge, cmp3_gt, cmp3_le, cmp3_eq, w32] at *
  all_goals first
    | exact h1 (by omega)
    | exact h2 (by omega)
    | omega

theorem ok_has_43 {l : Launch} {ω : WP} : ∀ as M Q, sp_has 1 2 as M Q → Vd l ω 1 43 as M Q := by
  intro as M Q h
  unfold sp_has at h
  split at h
  case h_2 => exact h.elim
  rename_i q i v
  cases hb : Nat.beq q 1 with
  | false => rw [hb] at h; exact h.elim
  | true =>
  rw [hb] at h
  obtain ⟨⟨h3, h4⟩, h1, h2⟩ := h
  have hb := beq_eq hb
  subst hb
  refine Vd_wp (GOK_none (l := l) (ω := ω)) (n := 60) (cut := fun _ => none) (by decide) CutOK_none ?_
  conv => whnf
  repeat' first
    | (intro h; exact absurd rfl h)
    | (intro h; exact absurd h (by decide))
    | (refine And.intro ?_ ?_)
    | (intro _)
    | (show wpG _ _ _ _ _ _ _ _ _ _ _ _ _ _ _ _ _ _; conv => whnf)
    | omega
    | (simp (disch := decide) only [w32, cmp3_lt, cmp3_ge, cmp3_gt, cmp3_le, cmp3_eq, ms_q, ms_f, and_self, and_true, true_and, and_false, false_and, if_true, if_false] at *; omega)
  all_goals try simp only [cmp3_lt, cmp3_ge, cmp3_gt, cmp3_le, cmp3_eq, w32] at *
  all_goals first
    | exact h1 (by omega)
    | exact h2 (by omega)
    | omega

theorem ok_has_44 {l : Launch} {ω : WP} : ∀ as M Q, sp_has 1 9 as M Q → Vd l ω 1 44 as M Q := by
  intro as M Q h
  unfold sp_has at h
  split at h
  case h_2 => exact h.elim
  rename_i q i v
  cases hb : Nat.beq q 1 with
  | false => rw [hb] at h; exact h.elim
  | true =>
  rw [hb] at h
  obtain ⟨⟨h3, h4⟩, h1, h2⟩ := h
  have hb := beq_eq hb
  subst hb
  refine Vd_wp (GOK_none (l := l) (ω := ω)) (n := 60) (cut := fun _ => none) (by decide) CutOK_none ?_
  conv => whnf
  repeat' first
    | (intro h; exact absurd rfl h)
    | (intro h; exact absurd h (by decide))
    | (refine And.intro ?_ ?_)
    | (intro _)
    | (show wpG _ _ _ _ _ _ _ _ _ _ _ _ _ _ _ _ _ _; conv => whnf)
    | omega
    | (simp (disch := decide) only [w32, cmp3_lt, cmp3_ge, cmp3_gt, cmp3_le, cmp3_eq, ms_q, ms_f, and_self, and_true, true_and, and_false, false_and, if_true, if_false] at *; omega)
  all_goals try simp only [cmp3_lt, cmp3_ge, cmp3_gt, cmp3_le, cmp3_eq, w32] at *
  all_goals first
    | exact h1 (by omega)
    | exact h2 (by omega)
    | omega

theorem ok_has_85 {l : Launch} {ω : WP} : ∀ as M Q, sp_has 9 0 as M Q → Vd l ω 1 85 as M Q := by
  intro as M Q h
  unfold sp_has at h
  split at h
  case h_2 => exact h.elim
  rename_i q i v
  cases hb : Nat.beq q 9 with
  | false => rw [hb] at h; exact h.elim
  | true =>
  rw [hb] at h
  obtain ⟨⟨h3, h4⟩, h1, h2⟩ := h
  have hb := beq_eq hb
  subst hb
  refine Vd_wp (GOK_none (l := l) (ω := ω)) (n := 60) (cut := fun _ => none) (by decide) CutOK_none ?_
  conv => whnf
  repeat' first
    | (intro h; exact absurd rfl h)
    | (intro h; exact absurd h (by decide))
    | (refine And.intro ?_ ?_)
    | (intro _)
    | (show wpG _ _ _ _ _ _ _ _ _ _ _ _ _ _ _ _ _ _; conv => whnf)
    | omega
    | (simp (disch := decide) only [w32, cmp3_lt, cmp3_ge, cmp3_gt, cmp3_le, cmp3_eq, ms_q, ms_f, and_self, and_true, true_and, and_false, false_and, if_true, if_false] at *; omega)
  all_goals try simp only [cmp3_lt, cmp3_ge, cmp3_gt, cmp3_le, cmp3_eq, w32] at *
  all_goals first
    | exact h1 (by omega)
    | exact h2 (by omega)
    | omega

theorem ok_has_30 {l : Launch} {ω : WP} : ∀ as M Q, sp_has 10 3 as M Q → Vd l ω 1 30 as M Q := by
  intro as M Q h
  unfold sp_has at h
  split at h
  case h_2 => exact h.elim
  rename_i q i v
  cases hb : Nat.beq q 10 with
  | false => rw [hb] at h; exact h.elim
  | true =>
  rw [hb] at h
  obtain ⟨⟨h3, h4⟩, h1, h2⟩ := h
  have hb := beq_eq hb
  subst hb
  refine Vd_wp (GOK_none (l := l) (ω := ω)) (n := 60) (cut := fun _ => none) (by decide) CutOK_none ?_
  conv => whnf
  repeat' first
    | (intro h; exact absurd rfl h)
    | (intro h; exact absurd h (by decide))
    | (refine And.intro ?_ ?_)
    | (intro _)
    | (show wpG _ _ _ _ _ _ _ _ _ _ _ _ _ _ _ _ _ _; conv => whnf)
    | omega
    | (simp (disch := decide) only [w32, cmp3_lt, cmp3_ge, cmp3_gt, cmp3_le, cmp3_eq, ms_q, ms_f, and_self, and_true, true_and, and_false, false_and, if_true, if_false] at *; omega)
  all_goals try simp only [cmp3_lt, cmp3_ge, cmp3_gt, cmp3_le, cmp3_eq, w32] at *
  all_goals first
    | exact h1 (by omega)
    | exact h2 (by omega)
    | omega

theorem ok_has_161 {l : Launch} {ω : WP} : ∀ as M Q, sp_has 13 0 as M Q → Vd l ω 1 161 as M Q := by
  intro as M Q h
  unfold sp_has at h
  split at h
  case h_2 => exact h.elim
  rename_i q i v
  cases hb : Nat.beq q 13 with
  | false => rw [hb] at h; exact h.elim
  | true =>
  rw [hb] at h
  obtain ⟨⟨h3, h4⟩, h1, h2⟩ := h
  have hb := beq_eq hb
  subst hb
  refine Vd_wp (GOK_none (l := l) (ω := ω)) (n := 60) (cut := fun _ => none) (by decide) CutOK_none ?_
  conv => whnf
  repeat' first
    | (intro h; exact absurd rfl h)
    | (intro h; exact absurd h (by decide))
    | (refine And.intro ?_ ?_)
    | (intro _)
    | (show wpG _ _ _ _ _ _ _ _ _ _ _ _ _ _ _ _ _ _; conv => whnf)
    | omega
    | (simp (disch := decide) only [w32, cmp3_lt, cmp3_ge, cmp3_gt, cmp3_le, cmp3_eq, ms_q, ms_f, and_self, and_true, true_and, and_false, false_and, if_true, if_false] at *; omega)
  all_goals try simp only [cmp3_lt, cmp3_ge, cmp3_gt, cmp3_le, cmp3_eq, w32] at *
  all_goals first
    | exact h1 (by omega)
    | exact h2 (by omega)
    | omega

theorem ok_has_162 {l : Launch} {ω : WP} : ∀ as M Q, sp_has 13 2 as M Q → Vd l ω 1 162 as M Q := by
  intro as M Q h
  unfold sp_has at h
  split at h
  case h_2 => exact h.elim
  rename_i q i v
  cases hb : Nat.beq q 13 with
  | false => rw [hb] at h; exact h.elim
  | true =>
  rw [hb] at h
  obtain ⟨⟨h3, h4⟩, h1, h2⟩ := h
  have hb := beq_eq hb
  subst hb
  refine Vd_wp (GOK_none (l := l) (ω := ω)) (n := 60) (cut := fun _ => none) (by decide) CutOK_none ?_
  conv => whnf
  repeat' first
    | (intro h; exact absurd rfl h)
    | (intro h; exact absurd h (by decide))
    | (refine And.intro ?_ ?_)
    | (intro _)
    | (show wpG _ _ _ _ _ _ _ _ _ _ _ _ _ _ _ _ _ _; conv => whnf)
    | omega
    | (simp (disch := decide) only [w32, cmp3_lt, cmp3_ge, cmp3_gt, cmp3_le, cmp3_eq, ms_q, ms_f, and_self, and_true, true_and, and_false, false_and, if_true, if_false] at *; omega)
  all_goals try simp only [cmp3_lt, cmp3_ge, cmp3_gt, cmp3_le, cmp3_eq, w32] at *
  all_goals first
    | exact h1 (by omega)
    | exact h2 (by omega)
    | omega

theorem ok_has_163 {l : Launch} {ω : WP} : ∀ as M Q, sp_has 13 9 as M Q → Vd l ω 1 163 as M Q := by
  intro as M Q h
  unfold sp_has at h
  split at h
  case h_2 => exact h.elim
  rename_i q i v
  cases hb : Nat.beq q 13 with
  | false => rw [hb] at h; exact h.elim
  | true =>
  rw [hb] at h
  obtain ⟨⟨h3, h4⟩, h1, h2⟩ := h
  have hb := beq_eq hb
  subst hb
  refine Vd_wp (GOK_none (l := l) (ω := ω)) (n := 60) (cut := fun _ => none) (by decide) CutOK_none ?_
  conv => whnf
  repeat' first
    | (intro h; exact absurd rfl h)
    | (intro h; exact absurd h (by decide))
    | (refine And.intro ?_ ?_)
    | (intro _)
    | (show wpG _ _ _ _ _ _ _ _ _ _ _ _ _ _ _ _ _ _; conv => whnf)
    | omega
    | (simp (disch := decide) only [w32, cmp3_lt, cmp3_ge, cmp3_gt, cmp3_le, cmp3_eq, ms_q, ms_f, and_self, and_true, true_and, and_false, false_and, if_true, if_false] at *; omega)
  all_goals try simp only [cmp3_lt, cmp3_ge, cmp3_gt, cmp3_le, cmp3_eq, w32] at *
  all_goals first
    | exact h1 (by omega)
    | exact h2 (by omega)
    | omega

theorem ok_has_189 {l : Launch} {ω : WP} : ∀ as M Q, sp_has 13 17 as M Q → Vd l ω 1 189 as M Q := by
  intro as M Q h
  unfold sp_has at h
  split at h
  case h_2 => exact h.elim
  rename_i q i v
  cases hb : Nat.beq q 13 with
  | false => rw [hb] at h; exact h.elim
  | true =>
  rw [hb] at h
  obtain ⟨⟨h3, h4⟩, h1, h2⟩ := h
  have hb := beq_eq hb
  subst hb
  refine Vd_wp (GOK_none (l := l) (ω := ω)) (n := 60) (cut := fun _ => none) (by decide) CutOK_none ?_
  conv => whnf
  repeat' first
    | (intro h; exact absurd rfl h)
    | (intro h; exact absurd h (by decide))
    | (refine And.intro ?_ ?_)
    | (intro _)
    | (show wpG _ _ _ _ _ _ _ _ _ _ _ _ _ _ _ _ _ _; conv => whnf)
    | omega
    | (simp (disch := decide) only [w32, cmp3_lt, cmp3_ge, cmp3_gt, cmp3_le, cmp3_eq, ms_q, ms_f, and_self, and_true, true_and, and_false, false_and, if_true, if_false] at *; omega)
  all_goals try simp only [cmp3_lt, cmp3_ge, cmp3_gt, cmp3_le, cmp3_eq, w32] at *
  all_goals first
    | exact h1 (by omega)
    | exact h2 (by omega)
    | omega

theorem ok_has_1 {l : Launch} {ω : WP} : ∀ as M Q, sp_hasO 4 5 0 as M Q → Vd l ω 1 1 as M Q := by
  intro as M Q h
  unfold sp_hasO at h
  split at h
  case h_2 => exact h.elim
  rename_i q i v
  cases hb : Nat.beq q 4 with
  | false => rw [hb] at h; exact h.elim
  | true =>
  rw [hb] at h
  obtain ⟨⟨h3, h4⟩, h1, h2⟩ := h
  have hb := beq_eq hb
  subst hb
  refine Vd_wp (GOK_none (l := l) (ω := ω)) (n := 60) (cut := fun _ => none) (by decide) CutOK_none ?_
  conv => whnf
  repeat' first
    | (intro h; exact absurd rfl h)
    | (intro h; exact absurd h (by decide))
    | (refine And.intro ?_ ?_)
    | (intro _)
    | (show wpG _ _ _ _ _ _ _ _ _ _ _ _ _ _ _ _ _ _; conv => whnf)
    | omega
    | (simp (disch := decide) only [w32, cmp3_lt, cmp3_ge, cmp3_gt, cmp3_le, cmp3_eq, ms_q, ms_f, and_self, and_true, true_and, and_false, false_and, if_true, if_false] at *; omega)
  all_goals try simp only [cmp3_lt, cmp3_ge, cmp3_gt, cmp3_le, cmp3_eq, w32] at *
  all_goals first
    | exact h1 (by omega)
    | exact h2 (by omega)
    | omega

def GL : List (Nat × Nat × Spec1) := [(104, 0, sp_within), (159, 0, sp_in), (106, 1, sp_str), (107, 1, sp_qua), (42, 1, sp_has 1 0), (43, 1, sp_has 1 2), (44, 1, sp_has 1 9), (85, 1, sp_has 9 0), (30, 1, sp_has 10 3), (161, 1, sp_has 13 0), (162, 1, sp_has 13 2), (163, 1, sp_has 13 9), (189, 1, sp_has 13 17), (1, 1, sp_hasO 4 5 0)]
abbrev GG : Env1 := fun n => getG n GL
theorem GG_ok {l : Launch} {ω : WP} : GOK l ω GG := getG_ok GL (List.forall_mem_cons.mpr ⟨ok_sp_within, List.forall_mem_cons.mpr ⟨ok_sp_in, List.forall_mem_cons.mpr ⟨ok_sp_str, List.forall_mem_cons.mpr ⟨ok_sp_qua, List.forall_mem_cons.mpr ⟨ok_has_42, List.forall_mem_cons.mpr ⟨ok_has_43, List.forall_mem_cons.mpr ⟨ok_has_44, List.forall_mem_cons.mpr ⟨ok_has_85, List.forall_mem_cons.mpr ⟨ok_has_30, List.forall_mem_cons.mpr ⟨ok_has_161, List.forall_mem_cons.mpr ⟨ok_has_162, List.forall_mem_cons.mpr ⟨ok_has_163, List.forall_mem_cons.mpr ⟨ok_has_189, List.forall_mem_cons.mpr ⟨ok_has_1, fun _ h => absurd h List.not_mem_nil⟩⟩⟩⟩⟩⟩⟩⟩⟩⟩⟩⟩⟩⟩)
