/-! ===== text, the model: names (wip/gen/p63.py) ===== -/
def GLX : List (Nat × Nat × Spec1) := (56, 8, sp_raC) :: GLW
abbrev GGX : Env1 := fun n => getG n GLX
theorem GGX_all {l : Launch} {ω : WP} : ∀ e ∈ GLX, ∀ as M Q, e.2.2 as M Q → Vd l ω e.2.1 e.1 as M Q := List.forall_mem_cons.mpr ⟨ok_raC, GGW_all⟩
theorem GGX_ok {l : Launch} {ω : WP} : GOK l ω GGX := getG_ok GLX GGX_all

def wl (n a b c d : Int) : List Int := if n = 2 then [a, b] else if n = 3 then [a, b, c] else [a, b, c, d]
theorem wl_iff {T : Int → Int} {s n a b c d : Int} (h : 2 ≤ n) : isW T s (wl n a b c d) = true ↔ (T s = a ∧ T (s + 1) = b ∧ (n < 3 ∨ T (s + 2) = c) ∧ (n < 4 ∨ T (s + 3) = d)) := by
  have e1 : s + 1 + 1 = s + 2 := by omega
  have e2 : s + 2 + 1 = s + 3 := by omega
  unfold wl
  by_cases c2 : n = 2
  · rw [if_pos c2]
    simp only [isW, Bool.and_true, Bool.and_eq_true, decide_eq_true_eq]
    exact ⟨fun z => ⟨z.1, z.2, Or.inl (by omega), Or.inl (by omega)⟩, fun z => ⟨z.1, z.2.1⟩⟩
  rw [if_neg c2]
  by_cases c3 : n = 3
  · rw [if_pos c3]
    simp only [isW, Bool.and_true, Bool.and_eq_true, decide_eq_true_eq, e1]
    exact ⟨fun z => ⟨z.1, z.2.1, Or.inr z.2.2, Or.inl (by omega)⟩, fun z => ⟨z.1, z.2.1, z.2.2.1.resolve_left (by omega)⟩⟩
  rw [if_neg c3]
  simp only [isW, Bool.and_true, Bool.and_eq_true, decide_eq_true_eq, e1, e2]
  exact ⟨fun z => ⟨z.1, z.2.1, Or.inr z.2.2.1, Or.inr z.2.2.2⟩, fun z => ⟨z.1, z.2.1, z.2.2.1.resolve_left (by omega), z.2.2.2.resolve_left (by omega)⟩⟩
def vmM (t : Int) : Int := if t ≤ 6 then t else if t ≤ 15 then t + 3 else -4

def sp_isM : Spec1 := fun as M Q => match as with
  | [.inr (.inr (.inl (q0, i0))), .inl n, .inl a, .inl b, .inl c, .inl d] => match Nat.beq q0 13 with
    | true => (i0 = 0 ∧ (0 ≤ (M 13 0 30) ∧ (M 13 0 30) ≤ (M 13 0 29) ∧ (M 13 0 29) ≤ (M 13 0 28) ∧ (M 13 0 28) ≤ 240) ∧ (2 ≤ n ∧ n ≤ 7)) ∧ Q (some (vI (if (M 13 0 29) - (M 13 0 30) = n ∧ isW (M 90 0) (M 13 0 30) (wl n a b c d) = true then 1 else 0))) M
    | false => False
  | _ => False
theorem ok_isM {l : Launch} {ω : WP} : ∀ as M Q, sp_isM as M Q → Vd l ω 1 200 as M Q := by
  intro as M Q h
  unfold sp_isM at h
  split at h
  case h_2 => exact h.elim
  rename_i q0 i0 n a b c d
  cases hb : Nat.beq q0 13 with
  | false => rw [hb] at h; exact h.elim
  | true =>
  rw [hb] at h
  obtain ⟨⟨hi, hp, hn⟩, hQ⟩ := h
  have hb := beq_eq hb
  subst hb
  subst hi
  refine Vd.ok fun hok hal => ?_
  have w0 : ∀ x, 0 ≤ x → x ≤ 300 → w32 x = x := fun x a b => w32_e (by omega) (by omega)
  have wi := wl_iff (T := (M 90 0)) (s := (M 13 0 30)) (a := a) (b := b) (c := c) (d := d) hn.1
  refine Vd_run (GGX_ok (l := l) (ω := ω)) 400 (cut := fun _ => none) (by decide) CutOK_none ?_
  conv => whnf
  repeat' first
    | (refine And.intro (fun h => ?_) (fun h => ?_) <;> (try simp (disch := decide) only [cmp3_lt, cmp3_ge, cmp3_gt, cmp3_le, cmp3_eq, ms_q, ms_f, mf_q, mf_f, mc_q, mc_f, and_self, and_true, true_and, and_false, false_and, or_true, true_or, or_false, false_or, if_true, if_false, not_true_eq_false, not_false_eq_true, eq_self, reduceIte, Int.reduceEq, Int.reduceLT, Int.reduceLE, Int.reduceNeg, Int.reduceAdd, Int.reduceSub, Int.reduceMul, Int.add_sub_cancel] at h) <;> (try simp (disch := omega) only [w32_e, w64_e, td_pos, tm_pos, Int.add_sub_cancel] at h) <;> first | exact absurd rfl h | exact absurd h (by decide) | (exfalso; omega) | (conv => whnf))
    | (refine And.intro (by first | omega | ((try simp (disch := decide) only [cmp3_lt, cmp3_ge, cmp3_gt, cmp3_le, cmp3_eq, ms_q, ms_f, mf_q, mf_f, mc_q, mc_f, and_self, and_true, true_and, and_false, false_and, or_true, true_or, or_false, false_or, if_true, if_false, not_true_eq_false, not_false_eq_true, eq_self, reduceIte, Int.reduceEq, Int.reduceLT, Int.reduceLE, Int.reduceNeg, Int.reduceAdd, Int.reduceSub, Int.reduceMul, Int.add_sub_cancel]); (try simp (disch := omega) only [w32_e, w64_e, td_pos, tm_pos, Int.add_sub_cancel]); first | assumption | omega) | ((try simp (disch := decide) only [cmp3_lt, cmp3_ge, cmp3_gt, cmp3_le, cmp3_eq, ms_q, ms_f, mf_q, mf_f, mc_q, mc_f, and_self, and_true, true_and, and_false, false_and, or_true, true_or, or_false, false_or, if_true, if_false, not_true_eq_false, not_false_eq_true, eq_self, reduceIte, Int.reduceEq, Int.reduceLT, Int.reduceLE, Int.reduceNeg, Int.reduceAdd, Int.reduceSub, Int.reduceMul, Int.add_sub_cancel]); (try simp (disch := omega) only [w32_e, w64_e, td_pos, tm_pos, Int.add_sub_cancel]); ((repeat' (first | assumption | omega | with_reducible rfl | apply And.intro)); done))) ?_; conv => whnf)
    | (intro v; intro hv; conv => whnf)
  all_goals first
    | (rw [if_neg (fun z => by have z2 := wi.mp z.2; omega)] at hQ
       exact hQ)
    | (rw [if_pos ⟨by omega, wi.mpr (by omega)⟩] at hQ
       exact hQ)
