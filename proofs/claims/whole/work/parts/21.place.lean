/-! ===== pairs: place ===== -/
theorem pair_place {l : Launch} {ω : WP} {c : Int} {M : Mem} {b : Int} (hc : c < 512) (hI : Inv c M) : Vd l ω 9 108 [vR 0 0, vI b] M (PQ1 l ω c 164 [vI b]) := by
  have hI0 := hI
  obtain ⟨h0, hN, hS, hR, hK, hG, hW, hJ, hT, hA, hP, hO, hH⟩ := hI
  obtain ⟨n1, n2, n3, n4⟩ := hN
  refine Vd_wp (GOK_none (l := l) (ω := ω)) (n := 300) (cut := fun _ => none) (by decide) CutOK_none ?_
  conv => whnf
  repeat' first
    | (intro h; exact absurd rfl h)
    | (intro h; exact absurd h (by decide))
    | (refine And.intro ?_ ?_)
    | (intro _)
    | (show wpG _ _ _ _ _ _ _ _ _ _ _ _ _ _ _ _ _ _; conv => whnf)
    | omega
  all_goals refine ⟨0, _, rfl, ?_⟩
  all_goals refine Vd_wp (GOK_none (l := l) (ω := ω)) (n := 300) (cut := fun _ => none) (by decide) CutOK_none ?_
  all_goals conv => whnf
  all_goals repeat' first
    | (intro h; exact absurd rfl h)
    | (intro h; exact absurd h (by decide))
    | (refine And.intro ?_ ?_)
    | (intro _)
    | (show wpG _ _ _ _ _ _ _ _ _ _ _ _ _ _ _ _ _ _; conv => whnf)
    | omega
  all_goals try simp (disch := decide) only [cmp3_lt, cmp3_ge, cmp3_gt, cmp3_le, cmp3_eq, ms_q, ms_f, and_self, and_true, true_and, and_false, false_and, if_true, if_false, w32] at *
  all_goals first
    | omega
    | exact ⟨0, Inv.next hc hI0⟩
    | exact ⟨0, rfl, Inv.next hc hI0⟩
    | skip
  all_goals refine ⟨0, ?_, ?_⟩
  · refine congrArg (fun z => some (vI z)) ?_
    omega
  · have e1 : (M 1 0 0 + 1 + 2147483648) % 4294967296 - 2147483648 = M 1 0 0 + 1 := by omega
    rw [n1, e1]
    refine ⟨by omega, ?_, ?_, ?_, ?_, ?_, ?_, ?_, ?_, ?_, ?_, ?_, ?_⟩
    · refine ⟨?_, ?_, ?_, ?_⟩
      · simp (disch := decide) only [ms_q, ms_f, and_self, and_true, true_and, and_false, false_and, if_true, if_false]
      · funext k
        have := congrFun n2 k
        simp (disch := decide) only [ms_q, ms_f, and_self, and_true, true_and, and_false, false_and, if_true, if_false, this]
      · simp (disch := decide) only [ms_q, ms_f, and_self, and_true, true_and, and_false, false_and, if_true, if_false]
        omega
      · intro j j0 j1
        simp (disch := decide) only [ms_q, ms_f, and_self, and_true, true_and, and_false, false_and, if_true, if_false] at j1 ⊢
        have := n4 j j0
        split <;> omega
    · obtain ⟨s1, s2, s3, s4⟩ := hS
      simp (disch := decide) only [IStp, ms_q, ms_f, and_self, and_true, true_and, and_false, false_and, if_true, if_false]
      refine ⟨s1, s2, s3, fun j j0 j1 => ?_⟩
      have := s4 j j0 j1
      omega
    all_goals first
      | (have q := hR; simp (disch := decide) only [IRou, ms_q, ms_f, and_self, and_true, true_and, and_false, false_and, if_true, if_false] at q ⊢; exact q)
      | (have q := hK; simp (disch := decide) only [ISky, ms_q, ms_f, and_self, and_true, true_and, and_false, false_and, if_true, if_false] at q ⊢; exact q)
      | (have q := hG; simp (disch := decide) only [IGui, ms_q, ms_f, and_self, and_true, true_and, and_false, false_and, if_true, if_false] at q ⊢; exact q)
      | (have q := hW.next; simp (disch := decide) only [INow, ms_q, ms_f, and_self, and_true, true_and, and_false, false_and, if_true, if_false] at q ⊢; exact q)
      | (have q := hJ.next; simp (disch := decide) only [IImg, ms_q, ms_f, and_self, and_true, true_and, and_false, false_and, if_true, if_false] at q ⊢; exact q)
      | (have q := hT; simp (disch := decide) only [ITap, ms_q, ms_f, and_self, and_true, true_and, and_false, false_and, if_true, if_false] at q ⊢; exact q)
      | (have q := hA; simp (disch := decide) only [ISta, ms_q, ms_f, and_self, and_true, true_and, and_false, false_and, if_true, if_false] at q ⊢; exact q)
      | (have q := hP; simp (disch := decide) only [IPpl, ms_q, ms_f, and_self, and_true, true_and, and_false, false_and, if_true, if_false] at q ⊢; exact q)
      | (have q := hO; simp (disch := decide) only [IRop, ms_q, ms_f, and_self, and_true, true_and, and_false, false_and, if_true, if_false] at q ⊢; exact q)
      | (have q := hH; simp (disch := decide) only [IHrs, ms_q, ms_f, and_self, and_true, true_and, and_false, false_and, if_true, if_false] at q ⊢; exact q)
