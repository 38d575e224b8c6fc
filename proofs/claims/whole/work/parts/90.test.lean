theorem pair_place {l : Launch} {ω : WP} {c : Int} {M : Mem} {b : Int} (hc : c < 512) (hI : Inv c M) : Vd l ω 9 108 [vR 0 0, vI b] M (PQ1 l ω c 164 [vI b]) := by
  obtain ⟨h0, hN, hS, hR, hK, hG, hW, hJ, hT, hA, hP, hO, hH⟩ := hI
  obtain ⟨n1, n2, n3, n4⟩ := hN
  refine Vd_wp (GOK_none (l := l) (ω := ω)) (n := 300) (cut := fun _ => none) (by decide) CutOK_none ?_
  conv => whnf
  repeat' first
    | (intro h; exact absurd rfl h)
    | (intro h; exact absurd h (by decide))
    | (refine And.intro ?_ ?_)
    | (intro _)
    | (show wpG _ _ _ _ _ _ _ _ _ _ _ _ _ _ _ _ _ _; conv => whnf)
    | omega
  all_goals refine ⟨0, _, rfl, ?_⟩
  all_goals refine Vd_wp (GOK_none (l := l) (ω := ω)) (n := 300) (cut := fun _ => none) (by decide) CutOK_none ?_
  all_goals conv => whnf
  all_goals repeat' first
    | (intro h; exact absurd rfl h)
    | (intro h; exact absurd h (by decide))
    | (refine And.intro ?_ ?_)
    | (intro _)
    | (show wpG _ _ _ _ _ _ _ _ _ _ _ _ _ _ _ _ _ _; conv => whnf)
    | omega
  all_goals trace_state
  all_goals sorry
