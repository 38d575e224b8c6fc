theorem t_place (l : Launch) (ω : WP) (M : Mem) (b : Int) (h1 : M 1 0 0 = M 13 0 0) (h2 : 0 ≤ M 1 0 0 ∧ M 1 0 0 ≤ 12) (Q : Post) (hQ : ∀ r M1, (∃ v, r = some (vI v) ∧ 7 = 8) → Q r M1) : Vd l ω 11 108 [vR 0 0, vI b] M Q := by
  refine Vd_wp (GOK_none (l := l) (ω := ω)) (n := 300) (cut := fun _ => none) (by decide) CutOK_none ?_
  conv => whnf
  repeat' first
    | (intro h; exact absurd rfl h)
    | (intro h; exact absurd h (by decide))
    | (refine And.intro ?_ ?_)
    | (intro _)
    | (show wpG _ _ _ _ _ _ _ _ _ _ _ _ _ _ _ _ _ _; conv => whnf)
    | omega
  all_goals trace_state
  all_goals sorry
theorem t_takes (l : Launch) (ω : WP) (M : Mem) (k s q : Int) (Q : Post) (hQ : ∀ r M1, (∃ v, r = some (vI v) ∧ 7 = 8) → Q r M1) : Vd l ω 11 182 [vR 13 0, vI k, vI s, vI q] M Q := by
  refine Vd_wp (GOK_none (l := l) (ω := ω)) (n := 300) (cut := fun _ => none) (by decide) CutOK_none ?_
  conv => whnf
  repeat' first
    | (intro h; exact absurd rfl h)
    | (intro h; exact absurd h (by decide))
    | (refine And.intro ?_ ?_)
    | (intro _)
    | (show wpG _ _ _ _ _ _ _ _ _ _ _ _ _ _ _ _ _ _; conv => whnf)
    | omega
  all_goals sorry
