/-! ===== pairs by template (wip/gen/p1.py) ===== -/
theorem pair_stepOf {l : Launch} {ω : WP} {c : Int} {M : Mem} {k : Int} {w : Int} (hk : in32 k) (hw : in32 w)  (hc : c < 512) (hI : Inv c M) : Vd l ω 9 110 [vR 0 0, vI k, vI w] M (PQ1 l ω c 166 [vI k, vI w]) := by
  have hI0 := hI
  obtain ⟨h0, hN, hS, hR, hK, hG, hW, hJ, hT, hA, hP, hO, hH⟩ := hI
  obtain ⟨s1, ⟨t1, t2, t3, t4, t5, t6⟩, s3, s4⟩ := hS
  have u1 := congrFun t1 k
  have u2 := congrFun t2 k
  have u3 := congrFun t3 k
  have u4 := congrFun t4 k
  have u5 := congrFun t5 k
  have u6 := congrFun t6 k
  refine Vd_wp (GOK_none (l := l) (ω := ω)) (n := 400) (cut := fun _ => none) (by decide) CutOK_none ?_
  conv => whnf
  repeat' first
    | (intro h; exact absurd rfl h)
    | (intro h; exact absurd h (by decide))
    | (refine And.intro ?_ ?_)
    | (intro _)
    | (show wpG _ _ _ _ _ _ _ _ _ _ _ _ _ _ _ _ _ _; conv => whnf)
    | omega
    | (simp (disch := decide) only [w32, cmp3_lt, cmp3_ge, cmp3_gt, cmp3_le, cmp3_eq, ms_q, ms_f, and_self, and_true, true_and, and_false, false_and, if_true, if_false] at *; omega)
  all_goals refine ⟨0, _, rfl, ?_⟩
  all_goals refine Vd_wp (GOK_none (l := l) (ω := ω)) (n := 400) (cut := fun _ => none) (by decide) CutOK_none ?_
  all_goals conv => whnf
  all_goals repeat' first
    | (intro h; exact absurd rfl h)
    | (intro h; exact absurd h (by decide))
    | (refine And.intro ?_ ?_)
    | (intro _)
    | (show wpG _ _ _ _ _ _ _ _ _ _ _ _ _ _ _ _ _ _; conv => whnf)
    | omega
    | (simp (disch := decide) only [w32, cmp3_lt, cmp3_ge, cmp3_gt, cmp3_le, cmp3_eq, ms_q, ms_f, and_self, and_true, true_and, and_false, false_and, if_true, if_false] at *; omega)
  all_goals try simp (disch := decide) only [cmp3_lt, cmp3_ge, cmp3_gt, cmp3_le, cmp3_eq, ms_q, ms_f, and_self, and_true, true_and, and_false, false_and, if_true, if_false, w32] at *
  all_goals first
    | omega
    | exact ⟨0, Inv.next hc hI0⟩
    | exact ⟨0, rfl, Inv.next hc hI0⟩
    | (refine ⟨0, ?_, Inv.next hc hI0⟩; refine congrArg (fun z => some (vI z)) ?_; omega)
    | skip

theorem pair_unrope {l : Launch} {ω : WP} {c : Int} {M : Mem}    (hc : c < 512) (hI : Inv c M) : Vd l ω 9 142 [vR 0 0] M (PQ1 l ω c 236 []) := by
  have hI0 := hI
  obtain ⟨h0, hN, hS, hR, hK, hG, hW, hJ, hT, hA, hP, hO, hH⟩ := hI
  obtain ⟨o1, o2, o3⟩ := id hO
  refine Vd_wp (GOK_none (l := l) (ω := ω)) (n := 400) (cut := fun _ => none) (by decide) CutOK_none ?_
  conv => whnf
  repeat' first
    | (intro h; exact absurd rfl h)
    | (intro h; exact absurd h (by decide))
    | (refine And.intro ?_ ?_)
    | (intro _)
    | (show wpG _ _ _ _ _ _ _ _ _ _ _ _ _ _ _ _ _ _; conv => whnf)
    | omega
    | (simp (disch := decide) only [w32, cmp3_lt, cmp3_ge, cmp3_gt, cmp3_le, cmp3_eq, ms_q, ms_f, and_self, and_true, true_and, and_false, false_and, if_true, if_false] at *; omega)
  all_goals refine ⟨0, _, rfl, ?_⟩
  all_goals refine Vd_wp (GOK_none (l := l) (ω := ω)) (n := 400) (cut := fun _ => none) (by decide) CutOK_none ?_
  all_goals conv => whnf
  all_goals repeat' first
    | (intro h; exact absurd rfl h)
    | (intro h; exact absurd h (by decide))
    | (refine And.intro ?_ ?_)
    | (intro _)
    | (show wpG _ _ _ _ _ _ _ _ _ _ _ _ _ _ _ _ _ _; conv => whnf)
    | omega
    | (simp (disch := decide) only [w32, cmp3_lt, cmp3_ge, cmp3_gt, cmp3_le, cmp3_eq, ms_q, ms_f, and_self, and_true, true_and, and_false, false_and, if_true, if_false] at *; omega)
  all_goals try simp (disch := decide) only [cmp3_lt, cmp3_ge, cmp3_gt, cmp3_le, cmp3_eq, ms_q, ms_f, and_self, and_true, true_and, and_false, false_and, if_true, if_false, w32] at *
  all_goals first
    | omega
    | exact ⟨0, Inv.next hc hI0⟩
    | exact ⟨0, rfl, Inv.next hc hI0⟩
    | (refine ⟨0, ?_, Inv.next hc hI0⟩; refine congrArg (fun z => some (vI z)) ?_; omega)
    | skip
  all_goals refine ⟨0, congrArg (fun z => some (vI z)) (by omega), by omega, ?_, ?_, ?_, ?_, ?_, ?_, ?_, ?_, ?_, ?_, ?_, ?_⟩
  all_goals first
    | (have q := hN; simp (disch := decide) only [INet, ms_q, ms_f, and_self, and_true, true_and, and_false, false_and, if_true, if_false] at q ⊢; exact q)
    | (have q := hS; simp (disch := decide) only [IStp, ms_q, ms_f, and_self, and_true, true_and, and_false, false_and, if_true, if_false] at q ⊢; exact q)
    | (have q := hR; simp (disch := decide) only [IRou, ms_q, ms_f, and_self, and_true, true_and, and_false, false_and, if_true, if_false] at q ⊢; exact q)
    | (have q := hK; simp (disch := decide) only [ISky, ms_q, ms_f, and_self, and_true, true_and, and_false, false_and, if_true, if_false] at q ⊢; exact q)
    | (have q := hG; simp (disch := decide) only [IGui, ms_q, ms_f, and_self, and_true, true_and, and_false, false_and, if_true, if_false] at q ⊢; exact q)
    | (have q := hW.next; simp (disch := decide) only [INow, ms_q, ms_f, and_self, and_true, true_and, and_false, false_and, if_true, if_false] at q ⊢; exact q)
    | (have q := hJ.next; simp (disch := decide) only [IImg, ms_q, ms_f, and_self, and_true, true_and, and_false, false_and, if_true, if_false] at q ⊢; exact q)
    | (have q := hT; simp (disch := decide) only [ITap, ms_q, ms_f, and_self, and_true, true_and, and_false, false_and, if_true, if_false] at q ⊢; exact q)
    | (have q := hA; simp (disch := decide) only [ISta, ms_q, ms_f, and_self, and_true, true_and, and_false, false_and, if_true, if_false] at q ⊢; exact q)
    | (have q := hP; simp (disch := decide) only [IPpl, ms_q, ms_f, and_self, and_true, true_and, and_false, false_and, if_true, if_false] at q ⊢; exact q)
    | (have q := hH; simp (disch := decide) only [IHrs, ms_q, ms_f, and_self, and_true, true_and, and_false, false_and, if_true, if_false] at q ⊢; exact q)
      | skip
  · simp (disch := decide) only [IRop, ms_q, ms_f, and_self, and_true, true_and, and_false, false_and, if_true, if_false]
    exact ⟨by omega, by omega, fun r r0 r1 => o3 r r0 (by omega)⟩

theorem pair_fault {l : Launch} {ω : WP} {c : Int} {M : Mem}    (hc : c < 512) (hI : Inv c M) : Vd l ω 9 131 [vR 0 0] M (PQ1 l ω c 215 []) := by
  have hI0 := hI
  obtain ⟨h0, hN, hS, hR, hK, hG, hW, hJ, hT, hA, hP, hO, hH⟩ := hI
  obtain ⟨t1, t2, t3, t4⟩ := id hT
  refine Vd_wp (GOK_none (l := l) (ω := ω)) (n := 400) (cut := fun _ => none) (by decide) CutOK_none ?_
  conv => whnf
  repeat' first
    | (intro h; exact absurd rfl h)
    | (intro h; exact absurd h (by decide))
    | (refine And.intro ?_ ?_)
    | (intro _)
    | (show wpG _ _ _ _ _ _ _ _ _ _ _ _ _ _ _ _ _ _; conv => whnf)
    | omega
    | (simp (disch := decide) only [w32, cmp3_lt, cmp3_ge, cmp3_gt, cmp3_le, cmp3_eq, ms_q, ms_f, and_self, and_true, true_and, and_false, false_and, if_true, if_false] at *; omega)
  all_goals refine ⟨0, _, rfl, ?_⟩
  all_goals refine Vd_wp (GOK_none (l := l) (ω := ω)) (n := 400) (cut := fun _ => none) (by decide) CutOK_none ?_
  all_goals conv => whnf
  all_goals repeat' first
    | (intro h; exact absurd rfl h)
    | (intro h; exact absurd h (by decide))
    | (refine And.intro ?_ ?_)
    | (intro _)
    | (show wpG _ _ _ _ _ _ _ _ _ _ _ _ _ _ _ _ _ _; conv => whnf)
    | omega
    | (simp (disch := decide) only [w32, cmp3_lt, cmp3_ge, cmp3_gt, cmp3_le, cmp3_eq, ms_q, ms_f, and_self, and_true, true_and, and_false, false_and, if_true, if_false] at *; omega)
  all_goals try simp (disch := decide) only [cmp3_lt, cmp3_ge, cmp3_gt, cmp3_le, cmp3_eq, ms_q, ms_f, and_self, and_true, true_and, and_false, false_and, if_true, if_false, w32] at *
  all_goals first
    | omega
    | exact ⟨0, Inv.next hc hI0⟩
    | exact ⟨0, rfl, Inv.next hc hI0⟩
    | (refine ⟨0, ?_, Inv.next hc hI0⟩; refine congrArg (fun z => some (vI z)) ?_; omega)
    | skip

theorem pair_end {l : Launch} {ω : WP} {c : Int} {M : Mem} {k : Int} (hk : in32 k)  (hc : c < 512) (hI : Inv c M) : Vd l ω 9 129 [vR 0 0, vI k] M (PQ1 l ω c 197 [vI k]) := by
  have hI0 := hI
  obtain ⟨h0, hN, hS, hR, hK, hG, hW, hJ, hT, hA, hP, hO, hH⟩ := hI
  obtain ⟨t1, t2, t3, t4⟩ := id hT
  refine Vd_wp (GOK_none (l := l) (ω := ω)) (n := 400) (cut := fun _ => none) (by decide) CutOK_none ?_
  conv => whnf
  repeat' first
    | (intro h; exact absurd rfl h)
    | (intro h; exact absurd h (by decide))
    | (refine And.intro ?_ ?_)
    | (intro _)
    | (show wpG _ _ _ _ _ _ _ _ _ _ _ _ _ _ _ _ _ _; conv => whnf)
    | omega
    | (simp (disch := decide) only [w32, cmp3_lt, cmp3_ge, cmp3_gt, cmp3_le, cmp3_eq, ms_q, ms_f, and_self, and_true, true_and, and_false, false_and, if_true, if_false] at *; omega)
  all_goals refine ⟨0, _, rfl, ?_⟩
  all_goals refine Vd_wp (GOK_none (l := l) (ω := ω)) (n := 400) (cut := fun _ => none) (by decide) CutOK_none ?_
  all_goals conv => whnf
  all_goals repeat' first
    | (intro h; exact absurd rfl h)
    | (intro h; exact absurd h (by decide))
    | (refine And.intro ?_ ?_)
    | (intro _)
    | (show wpG _ _ _ _ _ _ _ _ _ _ _ _ _ _ _ _ _ _; conv => whnf)
    | omega
    | (simp (disch := decide) only [w32, cmp3_lt, cmp3_ge, cmp3_gt, cmp3_le, cmp3_eq, ms_q, ms_f, and_self, and_true, true_and, and_false, false_and, if_true, if_false] at *; omega)
  all_goals try simp (disch := decide) only [cmp3_lt, cmp3_ge, cmp3_gt, cmp3_le, cmp3_eq, ms_q, ms_f, and_self, and_true, true_and, and_false, false_and, if_true, if_false, w32] at *
  all_goals first
    | omega
    | exact ⟨0, Inv.next hc hI0⟩
    | exact ⟨0, rfl, Inv.next hc hI0⟩
    | (refine ⟨0, ?_, Inv.next hc hI0⟩; refine congrArg (fun z => some (vI z)) ?_; omega)
    | skip
  all_goals refine ⟨0, congrArg (fun z => some (vI z)) (by omega), by omega, ?_, ?_, ?_, ?_, ?_, ?_, ?_, ?_, ?_, ?_, ?_, ?_⟩
  all_goals first
    | (have q := hN; simp (disch := decide) only [INet, ms_q, ms_f, and_self, and_true, true_and, and_false, false_and, if_true, if_false] at q ⊢; exact q)
    | (have q := hS; simp (disch := decide) only [IStp, ms_q, ms_f, and_self, and_true, true_and, and_false, false_and, if_true, if_false] at q ⊢; exact q)
    | (have q := hR; simp (disch := decide) only [IRou, ms_q, ms_f, and_self, and_true, true_and, and_false, false_and, if_true, if_false] at q ⊢; exact q)
    | (have q := hK; simp (disch := decide) only [ISky, ms_q, ms_f, and_self, and_true, true_and, and_false, false_and, if_true, if_false] at q ⊢; exact q)
    | (have q := hG; simp (disch := decide) only [IGui, ms_q, ms_f, and_self, and_true, true_and, and_false, false_and, if_true, if_false] at q ⊢; exact q)
    | (have q := hW.next; simp (disch := decide) only [INow, ms_q, ms_f, and_self, and_true, true_and, and_false, false_and, if_true, if_false] at q ⊢; exact q)
    | (have q := hJ.next; simp (disch := decide) only [IImg, ms_q, ms_f, and_self, and_true, true_and, and_false, false_and, if_true, if_false] at q ⊢; exact q)
    | (have q := hA; simp (disch := decide) only [ISta, ms_q, ms_f, and_self, and_true, true_and, and_false, false_and, if_true, if_false] at q ⊢; exact q)
    | (have q := hP; simp (disch := decide) only [IPpl, ms_q, ms_f, and_self, and_true, true_and, and_false, false_and, if_true, if_false] at q ⊢; exact q)
    | (have q := hO; simp (disch := decide) only [IRop, ms_q, ms_f, and_self, and_true, true_and, and_false, false_and, if_true, if_false] at q ⊢; exact q)
    | (have q := hH; simp (disch := decide) only [IHrs, ms_q, ms_f, and_self, and_true, true_and, and_false, false_and, if_true, if_false] at q ⊢; exact q)
      | skip
  · simp (disch := decide) only [ITap, ms_q, ms_f, and_self, and_true, true_and, and_false, false_and, if_true, if_false]
    exact ⟨by omega, fun j j0 j1 => t3 j j0 (by omega), t4⟩

theorem pair_list {l : Launch} {ω : WP} {c : Int} {M : Mem} {k : Int} (hk : in32 k)  (hc : c < 512) (hI : Inv c M) : Vd l ω 9 126 [vR 0 0, vI k] M (PQ1 l ω c 194 [vI k]) := by
  have hI0 := hI
  obtain ⟨h0, hN, hS, hR, hK, hG, hW, hJ, hT, hA, hP, hO, hH⟩ := hI
  obtain ⟨g1, g2, g3, g4⟩ := id hG
  obtain ⟨w1, w2⟩ := id hW
  refine Vd_wp (GOK_none (l := l) (ω := ω)) (n := 400) (cut := fun _ => none) (by decide) CutOK_none ?_
  conv => whnf
  repeat' first
    | (intro h; exact absurd rfl h)
    | (intro h; exact absurd h (by decide))
    | (refine And.intro ?_ ?_)
    | (intro _)
    | (show wpG _ _ _ _ _ _ _ _ _ _ _ _ _ _ _ _ _ _; conv => whnf)
    | omega
    | (simp (disch := decide) only [w32, cmp3_lt, cmp3_ge, cmp3_gt, cmp3_le, cmp3_eq, ms_q, ms_f, and_self, and_true, true_and, and_false, false_and, if_true, if_false] at *; omega)
  all_goals refine ⟨0, _, rfl, ?_⟩
  all_goals refine Vd_wp (GOK_none (l := l) (ω := ω)) (n := 400) (cut := fun _ => none) (by decide) CutOK_none ?_
  all_goals conv => whnf
  all_goals repeat' first
    | (intro h; exact absurd rfl h)
    | (intro h; exact absurd h (by decide))
    | (refine And.intro ?_ ?_)
    | (intro _)
    | (show wpG _ _ _ _ _ _ _ _ _ _ _ _ _ _ _ _ _ _; conv => whnf)
    | omega
    | (simp (disch := decide) only [w32, cmp3_lt, cmp3_ge, cmp3_gt, cmp3_le, cmp3_eq, ms_q, ms_f, and_self, and_true, true_and, and_false, false_and, if_true, if_false] at *; omega)
  all_goals try simp (disch := decide) only [cmp3_lt, cmp3_ge, cmp3_gt, cmp3_le, cmp3_eq, ms_q, ms_f, and_self, and_true, true_and, and_false, false_and, if_true, if_false, w32] at *
  all_goals first
    | omega
    | exact ⟨0, Inv.next hc hI0⟩
    | exact ⟨0, rfl, Inv.next hc hI0⟩
    | (refine ⟨0, ?_, Inv.next hc hI0⟩; refine congrArg (fun z => some (vI z)) ?_; omega)
    | skip
  · have := w1 k (by omega) (by omega)
    exact ⟨0, congrArg (fun z => some (vI z)) (by omega), Inv.next hc hI0⟩

theorem pair_papers {l : Launch} {ω : WP} {c : Int} {M : Mem} {g : Int} {d : Int} (hg : in32 g) (hd : in32 d)  (hc : c < 512) (hI : Inv c M) : Vd l ω 9 124 [vR 0 0, vI g, vI d] M (PQ1 l ω c 191 [vI g, vI d]) := by
  have hI0 := hI
  obtain ⟨h0, hN, hS, hR, hK, hG, hW, hJ, hT, hA, hP, hO, hH⟩ := hI
  obtain ⟨g1, ⟨g5, g6, g7⟩, g3, g4⟩ := id hG
  have u7 := congrFun g7 g
  refine Vd_wp (GOK_none (l := l) (ω := ω)) (n := 400) (cut := fun _ => none) (by decide) CutOK_none ?_
  conv => whnf
  repeat' first
    | (intro h; exact absurd rfl h)
    | (intro h; exact absurd h (by decide))
    | (refine And.intro ?_ ?_)
    | (intro _)
    | (show wpG _ _ _ _ _ _ _ _ _ _ _ _ _ _ _ _ _ _; conv => whnf)
    | omega
    | (simp (disch := decide) only [w32, cmp3_lt, cmp3_ge, cmp3_gt, cmp3_le, cmp3_eq, ms_q, ms_f, and_self, and_true, true_and, and_false, false_and, if_true, if_false] at *; omega)
  all_goals refine ⟨0, _, rfl, ?_⟩
  all_goals refine Vd_wp (GOK_none (l := l) (ω := ω)) (n := 400) (cut := fun _ => none) (by decide) CutOK_none ?_
  all_goals conv => whnf
  all_goals repeat' first
    | (intro h; exact absurd rfl h)
    | (intro h; exact absurd h (by decide))
    | (refine And.intro ?_ ?_)
    | (intro _)
    | (show wpG _ _ _ _ _ _ _ _ _ _ _ _ _ _ _ _ _ _; conv => whnf)
    | omega
    | (simp (disch := decide) only [w32, cmp3_lt, cmp3_ge, cmp3_gt, cmp3_le, cmp3_eq, ms_q, ms_f, and_self, and_true, true_and, and_false, false_and, if_true, if_false] at *; omega)
  all_goals try simp (disch := decide) only [cmp3_lt, cmp3_ge, cmp3_gt, cmp3_le, cmp3_eq, ms_q, ms_f, and_self, and_true, true_and, and_false, false_and, if_true, if_false, w32] at *
  all_goals first
    | omega
    | exact ⟨0, Inv.next hc hI0⟩
    | exact ⟨0, rfl, Inv.next hc hI0⟩
    | (refine ⟨0, ?_, Inv.next hc hI0⟩; refine congrArg (fun z => some (vI z)) ?_; omega)
    | skip
  all_goals refine ⟨0, congrArg (fun z => some (vI z)) (by omega), by omega, ?_, ?_, ?_, ?_, ?_, ?_, ?_, ?_, ?_, ?_, ?_, ?_⟩
  all_goals first
    | (have q := hN; simp (disch := decide) only [INet, ms_q, ms_f, and_self, and_true, true_and, and_false, false_and, if_true, if_false] at q ⊢; exact q)
    | (have q := hS; simp (disch := decide) only [IStp, ms_q, ms_f, and_self, and_true, true_and, and_false, false_and, if_true, if_false] at q ⊢; exact q)
    | (have q := hR; simp (disch := decide) only [IRou, ms_q, ms_f, and_self, and_true, true_and, and_false, false_and, if_true, if_false] at q ⊢; exact q)
    | (have q := hK; simp (disch := decide) only [ISky, ms_q, ms_f, and_self, and_true, true_and, and_false, false_and, if_true, if_false] at q ⊢; exact q)
    | (have q := hW.next; simp (disch := decide) only [INow, ms_q, ms_f, and_self, and_true, true_and, and_false, false_and, if_true, if_false] at q ⊢; exact q)
    | (have q := hJ.next; simp (disch := decide) only [IImg, ms_q, ms_f, and_self, and_true, true_and, and_false, false_and, if_true, if_false] at q ⊢; exact q)
    | (have q := hT; simp (disch := decide) only [ITap, ms_q, ms_f, and_self, and_true, true_and, and_false, false_and, if_true, if_false] at q ⊢; exact q)
    | (have q := hA; simp (disch := decide) only [ISta, ms_q, ms_f, and_self, and_true, true_and, and_false, false_and, if_true, if_false] at q ⊢; exact q)
    | (have q := hP; simp (disch := decide) only [IPpl, ms_q, ms_f, and_self, and_true, true_and, and_false, false_and, if_true, if_false] at q ⊢; exact q)
    | (have q := hO; simp (disch := decide) only [IRop, ms_q, ms_f, and_self, and_true, true_and, and_false, false_and, if_true, if_false] at q ⊢; exact q)
    | (have q := hH; simp (disch := decide) only [IHrs, ms_q, ms_f, and_self, and_true, true_and, and_false, false_and, if_true, if_false] at q ⊢; exact q)
      | skip
  · simp (disch := decide) only [IGui, ms_q, ms_f, and_self, and_true, true_and, and_false, false_and, if_true, if_false]
    refine ⟨g1, ⟨g5, g6, ?_⟩, g3, fun j j0 j1 => ?_⟩
    · funext z
      have := congrFun g7 z
      simp (disch := decide) only [this, ms_q, ms_f, and_self, and_true, true_and, and_false, false_and, if_true, if_false]
    · have := g4 j j0 j1
      split <;> omega

theorem pair_give {l : Launch} {ω : WP} {c : Int} {M : Mem} {x : Int} (hx : in32 x)  (hc : c < 512) (hI : Inv c M) : Vd l ω 9 153 [vR 0 0, vI x] M (PQ1 l ω c 258 [vI x]) := by
  have hI0 := hI
  obtain ⟨h0, hN, hS, hR, hK, hG, hW, hJ, hT, hA, hP, hO, hH⟩ := hI
  obtain ⟨w1, w2, w3, w4, w5, w6, w7, w8, w9⟩ := id hW
  refine Vd_wp (GOK_none (l := l) (ω := ω)) (n := 400) (cut := fun _ => none) (by decide) CutOK_none ?_
  conv => whnf
  repeat' first
    | (intro h; exact absurd rfl h)
    | (intro h; exact absurd h (by decide))
    | (refine And.intro ?_ ?_)
    | (intro _)
    | (show wpG _ _ _ _ _ _ _ _ _ _ _ _ _ _ _ _ _ _; conv => whnf)
    | omega
    | (simp (disch := decide) only [w32, cmp3_lt, cmp3_ge, cmp3_gt, cmp3_le, cmp3_eq, ms_q, ms_f, and_self, and_true, true_and, and_false, false_and, if_true, if_false] at *; omega)
  all_goals refine ⟨0, _, rfl, ?_⟩
  all_goals refine Vd_wp (GOK_none (l := l) (ω := ω)) (n := 400) (cut := fun _ => none) (by decide) CutOK_none ?_
  all_goals conv => whnf
  all_goals repeat' first
    | (intro h; exact absurd rfl h)
    | (intro h; exact absurd h (by decide))
    | (refine And.intro ?_ ?_)
    | (intro _)
    | (show wpG _ _ _ _ _ _ _ _ _ _ _ _ _ _ _ _ _ _; conv => whnf)
    | omega
    | (simp (disch := decide) only [w32, cmp3_lt, cmp3_ge, cmp3_gt, cmp3_le, cmp3_eq, ms_q, ms_f, and_self, and_true, true_and, and_false, false_and, if_true, if_false] at *; omega)
  all_goals try simp (disch := decide) only [cmp3_lt, cmp3_ge, cmp3_gt, cmp3_le, cmp3_eq, ms_q, ms_f, and_self, and_true, true_and, and_false, false_and, if_true, if_false, w32] at *
  all_goals first
    | omega
    | exact ⟨0, Inv.next hc hI0⟩
    | exact ⟨0, rfl, Inv.next hc hI0⟩
    | (refine ⟨0, ?_, Inv.next hc hI0⟩; refine congrArg (fun z => some (vI z)) ?_; omega)
    | skip
  all_goals refine ⟨0, congrArg (fun z => some (vI z)) (by omega), by omega, ?_, ?_, ?_, ?_, ?_, ?_, ?_, ?_, ?_, ?_, ?_, ?_⟩
  all_goals first
    | (have q := hN; simp (disch := decide) only [INet, ms_q, ms_f, and_self, and_true, true_and, and_false, false_and, if_true, if_false] at q ⊢; exact q)
    | (have q := hS; simp (disch := decide) only [IStp, ms_q, ms_f, and_self, and_true, true_and, and_false, false_and, if_true, if_false] at q ⊢; exact q)
    | (have q := hR; simp (disch := decide) only [IRou, ms_q, ms_f, and_self, and_true, true_and, and_false, false_and, if_true, if_false] at q ⊢; exact q)
    | (have q := hK; simp (disch := decide) only [ISky, ms_q, ms_f, and_self, and_true, true_and, and_false, false_and, if_true, if_false] at q ⊢; exact q)
    | (have q := hG; simp (disch := decide) only [IGui, ms_q, ms_f, and_self, and_true, true_and, and_false, false_and, if_true, if_false] at q ⊢; exact q)
    | (have q := hJ.next; simp (disch := decide) only [IImg, ms_q, ms_f, and_self, and_true, true_and, and_false, false_and, if_true, if_false] at q ⊢; exact q)
    | (have q := hT; simp (disch := decide) only [ITap, ms_q, ms_f, and_self, and_true, true_and, and_false, false_and, if_true, if_false] at q ⊢; exact q)
    | (have q := hA; simp (disch := decide) only [ISta, ms_q, ms_f, and_self, and_true, true_and, and_false, false_and, if_true, if_false] at q ⊢; exact q)
    | (have q := hP; simp (disch := decide) only [IPpl, ms_q, ms_f, and_self, and_true, true_and, and_false, false_and, if_true, if_false] at q ⊢; exact q)
    | (have q := hO; simp (disch := decide) only [IRop, ms_q, ms_f, and_self, and_true, true_and, and_false, false_and, if_true, if_false] at q ⊢; exact q)
    | (have q := hH; simp (disch := decide) only [IHrs, ms_q, ms_f, and_self, and_true, true_and, and_false, false_and, if_true, if_false] at q ⊢; exact q)
      | skip
  · simp (disch := decide) only [INow, ms_q, ms_f, and_self, and_true, true_and, and_false, false_and, if_true, if_false]
    exact ⟨w1, w2, w3, w4, w5, w6, w7, by omega, by omega⟩
