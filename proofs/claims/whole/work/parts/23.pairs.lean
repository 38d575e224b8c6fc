/-! ===== pairs by template (wip/gen/p2.py) ===== -/
theorem pair_rope {l : Launch} {ω : WP} {c : Int} {M : Mem} {r : Int} {s : Int} {q : Int} {n : Int} (hr : in32 r) (hs : in32 s) (hq : in32 q) (hn : in32 n)  (hc : c < 512) (hI : Inv c M) : Vd l ω 9 141 [vR 0 0, vI r, vI s, vI q, vI n] M (PQ1 l ω c 235 [vI r, vI s, vI q, vI n]) := by
  have hI0 := hI
  obtain ⟨h0, hN, hS, hR, hK, hG, hW, hJ, hT, hA, hP, hO, hH⟩ := hI
  obtain ⟨o1, o2, o3⟩ := id hO
  obtain ⟨r1, r2, r3, r4, r5⟩ := id hR
  refine Vd_run (GG_ok (l := l) (ω := ω)) 400 (cut := fun _ => none) (by decide) CutOK_none ?_
  conv => whnf
  repeat' first
    | (refine And.intro (fun h => ?_) (fun h => ?_) <;> (try simp (disch := decide) only [cmp3_lt, cmp3_ge, cmp3_gt, cmp3_le, cmp3_eq, ms_q, ms_f, and_self, and_true, true_and, and_false, false_and, or_true, true_or, or_false, false_or, if_true, if_false, not_true_eq_false, not_false_eq_true, eq_self, reduceIte, Int.reduceEq, Int.reduceLT, Int.reduceLE, Int.reduceNeg, Int.reduceAdd, Int.reduceSub, Int.reduceMul, Int.add_sub_cancel] at h) <;> (try simp (disch := omega) only [w32_e, w64_e, Int.add_sub_cancel] at h) <;> first | exact absurd rfl h | exact absurd h (by decide) | (exfalso; omega) | (conv => whnf))
    | (refine And.intro (by first | omega | ((try simp (disch := decide) only [cmp3_lt, cmp3_ge, cmp3_gt, cmp3_le, cmp3_eq, ms_q, ms_f, and_self, and_true, true_and, and_false, false_and, or_true, true_or, or_false, false_or, if_true, if_false, not_true_eq_false, not_false_eq_true, eq_self, reduceIte, Int.reduceEq, Int.reduceLT, Int.reduceLE, Int.reduceNeg, Int.reduceAdd, Int.reduceSub, Int.reduceMul, Int.add_sub_cancel]); (try simp (disch := omega) only [w32_e, w64_e, Int.add_sub_cancel]); first | assumption | omega)) ?_; conv => whnf)
  all_goals refine ⟨0, _, rfl, ?_⟩
  all_goals refine Vd_run (GG_ok (l := l) (ω := ω)) 400 (cut := fun _ => none) (by decide) CutOK_none ?_
  all_goals conv => whnf
  all_goals repeat' first
    | (refine And.intro (fun h => ?_) (fun h => ?_) <;> (try simp (disch := decide) only [cmp3_lt, cmp3_ge, cmp3_gt, cmp3_le, cmp3_eq, ms_q, ms_f, and_self, and_true, true_and, and_false, false_and, or_true, true_or, or_false, false_or, if_true, if_false, not_true_eq_false, not_false_eq_true, eq_self, reduceIte, Int.reduceEq, Int.reduceLT, Int.reduceLE, Int.reduceNeg, Int.reduceAdd, Int.reduceSub, Int.reduceMul, Int.add_sub_cancel] at h) <;> (try simp (disch := omega) only [w32_e, w64_e, Int.add_sub_cancel] at h) <;> first | exact absurd rfl h | exact absurd h (by decide) | (exfalso; omega) | (conv => whnf))
    | (refine And.intro (by first | omega | ((try simp (disch := decide) only [cmp3_lt, cmp3_ge, cmp3_gt, cmp3_le, cmp3_eq, ms_q, ms_f, and_self, and_true, true_and, and_false, false_and, or_true, true_or, or_false, false_or, if_true, if_false, not_true_eq_false, not_false_eq_true, eq_self, reduceIte, Int.reduceEq, Int.reduceLT, Int.reduceLE, Int.reduceNeg, Int.reduceAdd, Int.reduceSub, Int.reduceMul, Int.add_sub_cancel]); (try simp (disch := omega) only [w32_e, w64_e, Int.add_sub_cancel]); first | assumption | omega)) ?_; conv => whnf)
  all_goals refine ⟨0, ?_, ?_⟩
  all_goals ((try simp (disch := decide) only [cmp3_lt, cmp3_ge, cmp3_gt, cmp3_le, cmp3_eq, ms_q, ms_f, and_self, and_true, true_and, and_false, false_and, or_true, true_or, or_false, false_or, if_true, if_false, not_true_eq_false, not_false_eq_true, eq_self, reduceIte, Int.reduceEq, Int.reduceLT, Int.reduceLE, Int.reduceNeg, Int.reduceAdd, Int.reduceSub, Int.reduceMul, Int.add_sub_cancel] at *); (try simp (disch := omega) only [w32_e, w64_e, Int.add_sub_cancel] at *))
  all_goals first
    | exact Inv.next hc hI0
    | exact congrArg (fun z => some (vI z)) (by omega)
    | exact congrArg (fun z => some (vL z)) (by omega)
    | (exfalso; omega)
    | skip
  all_goals refine ⟨by omega, ?_, ?_, ?_, ?_, ?_, ?_, ?_, ?_, ?_, ?_, ?_, ?_⟩
  all_goals first
    | (have q := hN; simp (disch := decide) only [INet, ms_q, ms_f] at q ⊢; exact q)
    | (have q := hS; simp (disch := decide) only [IStp, ms_q, ms_f] at q ⊢; exact q)
    | (have q := hR; simp (disch := decide) only [IRou, ms_q, ms_f] at q ⊢; exact q)
    | (have q := hK; simp (disch := decide) only [ISky, ms_q, ms_f] at q ⊢; exact q)
    | (have q := hG; simp (disch := decide) only [IGui, ms_q, ms_f] at q ⊢; exact q)
    | (have q := hW.next; simp (disch := decide) only [INow, ms_q, ms_f] at q ⊢; exact q)
    | (have q := hJ.next; simp (disch := decide) only [IImg, ms_q, ms_f] at q ⊢; exact q)
    | (have q := hT; simp (disch := decide) only [ITap, ms_q, ms_f] at q ⊢; exact q)
    | (have q := hA; simp (disch := decide) only [ISta, ms_q, ms_f] at q ⊢; exact q)
    | (have q := hP; simp (disch := decide) only [IPpl, ms_q, ms_f] at q ⊢; exact q)
    | (have q := hH; simp (disch := decide) only [IHrs, ms_q, ms_f] at q ⊢; exact q)
    | skip
  · simp (disch := decide) only [IRop, ms_q, ms_f, and_self, and_true, true_and, and_false, false_and, or_true, true_or, or_false, false_or, if_true, if_false, not_true_eq_false, not_false_eq_true, eq_self, reduceIte, Int.reduceEq, Int.reduceLT, Int.reduceLE, Int.reduceNeg, Int.reduceAdd, Int.reduceSub, Int.reduceMul, Int.add_sub_cancel]
    refine ⟨by omega, by omega, fun j j0 j1 => ?_⟩
    have := o3 j j0
    by_cases e : j = M 10 0 3
    · have e' : j = M 13 0 54 := by omega
      simp only [if_pos e, if_pos e', and_true, true_and]
      omega
    · have e' : ¬ j = M 13 0 54 := by omega
      simp only [if_neg e, if_neg e', and_true, true_and]
      exact this (by omega)

theorem pair_entry {l : Launch} {ω : WP} {c : Int} {M : Mem} {r : Int} {g : Int} {q : Int} (hr : in32 r) (hg : in32 g) (hq : in32 q)  (hc : c < 512) (hI : Inv c M) : Vd l ω 9 149 [vR 0 0, vI r, vI g, vI q] M (PQ1 l ω c 249 [vI r, vI g, vI q]) := by
  have hI0 := hI
  obtain ⟨h0, hN, hS, hR, hK, hG, hW, hJ, hT, hA, hP, hO, hH⟩ := hI
  obtain ⟨o1, o2, o3⟩ := id hH
  obtain ⟨r1, r2, r3, r4, r5⟩ := id hR
  obtain ⟨g1, g2, g3, g4⟩ := id hG
  refine Vd_run (GG_ok (l := l) (ω := ω)) 400 (cut := fun _ => none) (by decide) CutOK_none ?_
  conv => whnf
  repeat' first
    | (refine And.intro (fun h => ?_) (fun h => ?_) <;> (try simp (disch := decide) only [cmp3_lt, cmp3_ge, cmp3_gt, cmp3_le, cmp3_eq, ms_q, ms_f, and_self, and_true, true_and, and_false, false_and, or_true, true_or, or_false, false_or, if_true, if_false, not_true_eq_false, not_false_eq_true, eq_self, reduceIte, Int.reduceEq, Int.reduceLT, Int.reduceLE, Int.reduceNeg, Int.reduceAdd, Int.reduceSub, Int.reduceMul, Int.add_sub_cancel] at h) <;> (try simp (disch := omega) only [w32_e, w64_e, Int.add_sub_cancel] at h) <;> first | exact absurd rfl h | exact absurd h (by decide) | (exfalso; omega) | (conv => whnf))
    | (refine And.intro (by first | omega | ((try simp (disch := decide) only [cmp3_lt, cmp3_ge, cmp3_gt, cmp3_le, cmp3_eq, ms_q, ms_f, and_self, and_true, true_and, and_false, false_and, or_true, true_or, or_false, false_or, if_true, if_false, not_true_eq_false, not_false_eq_true, eq_self, reduceIte, Int.reduceEq, Int.reduceLT, Int.reduceLE, Int.reduceNeg, Int.reduceAdd, Int.reduceSub, Int.reduceMul, Int.add_sub_cancel]); (try simp (disch := omega) only [w32_e, w64_e, Int.add_sub_cancel]); first | assumption | omega)) ?_; conv => whnf)
  all_goals refine ⟨0, _, rfl, ?_⟩
  all_goals refine Vd_run (GG_ok (l := l) (ω := ω)) 400 (cut := fun _ => none) (by decide) CutOK_none ?_
  all_goals conv => whnf
  all_goals repeat' first
    | (refine And.intro (fun h => ?_) (fun h => ?_) <;> (try simp (disch := decide) only [cmp3_lt, cmp3_ge, cmp3_gt, cmp3_le, cmp3_eq, ms_q, ms_f, and_self, and_true, true_and, and_false, false_and, or_true, true_or, or_false, false_or, if_true, if_false, not_true_eq_false, not_false_eq_true, eq_self, reduceIte, Int.reduceEq, Int.reduceLT, Int.reduceLE, Int.reduceNeg, Int.reduceAdd, Int.reduceSub, Int.reduceMul, Int.add_sub_cancel] at h) <;> (try simp (disch := omega) only [w32_e, w64_e, Int.add_sub_cancel] at h) <;> first | exact absurd rfl h | exact absurd h (by decide) | (exfalso; omega) | (conv => whnf))
    | (refine And.intro (by first | omega | ((try simp (disch := decide) only [cmp3_lt, cmp3_ge, cmp3_gt, cmp3_le, cmp3_eq, ms_q, ms_f, and_self, and_true, true_and, and_false, false_and, or_true, true_or, or_false, false_or, if_true, if_false, not_true_eq_false, not_false_eq_true, eq_self, reduceIte, Int.reduceEq, Int.reduceLT, Int.reduceLE, Int.reduceNeg, Int.reduceAdd, Int.reduceSub, Int.reduceMul, Int.add_sub_cancel]); (try simp (disch := omega) only [w32_e, w64_e, Int.add_sub_cancel]); first | assumption | omega)) ?_; conv => whnf)
  all_goals refine ⟨0, ?_, ?_⟩
  all_goals ((try simp (disch := decide) only [cmp3_lt, cmp3_ge, cmp3_gt, cmp3_le, cmp3_eq, ms_q, ms_f, and_self, and_true, true_and, and_false, false_and, or_true, true_or, or_false, false_or, if_true, if_false, not_true_eq_false, not_false_eq_true, eq_self, reduceIte, Int.reduceEq, Int.reduceLT, Int.reduceLE, Int.reduceNeg, Int.reduceAdd, Int.reduceSub, Int.reduceMul, Int.add_sub_cancel] at *); (try simp (disch := omega) only [w32_e, w64_e, Int.add_sub_cancel] at *))
  all_goals first
    | exact Inv.next hc hI0
    | exact congrArg (fun z => some (vI z)) (by omega)
    | exact congrArg (fun z => some (vL z)) (by omega)
    | (exfalso; omega)
    | skip
  all_goals refine ⟨by omega, ?_, ?_, ?_, ?_, ?_, ?_, ?_, ?_, ?_, ?_, ?_, ?_⟩
  all_goals first
    | (have q := hN; simp (disch := decide) only [INet, ms_q, ms_f] at q ⊢; exact q)
    | (have q := hS; simp (disch := decide) only [IStp, ms_q, ms_f] at q ⊢; exact q)
    | (have q := hR; simp (disch := decide) only [IRou, ms_q, ms_f] at q ⊢; exact q)
    | (have q := hK; simp (disch := decide) only [ISky, ms_q, ms_f] at q ⊢; exact q)
    | (have q := hG; simp (disch := decide) only [IGui, ms_q, ms_f] at q ⊢; exact q)
    | (have q := hW.next; simp (disch := decide) only [INow, ms_q, ms_f] at q ⊢; exact q)
    | (have q := hJ.next; simp (disch := decide) only [IImg, ms_q, ms_f] at q ⊢; exact q)
    | (have q := hT; simp (disch := decide) only [ITap, ms_q, ms_f] at q ⊢; exact q)
    | (have q := hA; simp (disch := decide) only [ISta, ms_q, ms_f] at q ⊢; exact q)
    | (have q := hP; simp (disch := decide) only [IPpl, ms_q, ms_f] at q ⊢; exact q)
    | (have q := hO; simp (disch := decide) only [IRop, ms_q, ms_f] at q ⊢; exact q)
    | skip
  · simp (disch := decide) only [IHrs, ms_q, ms_f, and_self, and_true, true_and, and_false, false_and, or_true, true_or, or_false, false_or, if_true, if_false, not_true_eq_false, not_false_eq_true, eq_self, reduceIte, Int.reduceEq, Int.reduceLT, Int.reduceLE, Int.reduceNeg, Int.reduceAdd, Int.reduceSub, Int.reduceMul, Int.add_sub_cancel]
    refine ⟨by omega, by omega, fun j j0 j1 => ?_⟩
    have := o3 j j0
    by_cases e : j = M 12 0 0
    · have e' : j = M 13 0 73 := by omega
      simp only [if_pos e, if_pos e', and_true, true_and]
      omega
    · have e' : ¬ j = M 13 0 73 := by omega
      simp only [if_neg e, if_neg e', and_true, true_and]
      exact this (by omega)

theorem pair_tear {l : Launch} {ω : WP} {c : Int} {M : Mem} {k : Int} (hk : in32 k)  (hc : c < 512) (hI : Inv c M) : Vd l ω 9 116 [vR 0 0, vI k] M (PQ1 l ω c 177 [vI k]) := by
  have hI0 := hI
  obtain ⟨h0, hN, hS, hR, hK, hG, hW, hJ, hT, hA, hP, hO, hH⟩ := hI
  have k1 := hK k
  refine Vd_run (GG_ok (l := l) (ω := ω)) 400 (cut := fun _ => none) (by decide) CutOK_none ?_
  conv => whnf
  repeat' first
    | (refine And.intro (fun h => ?_) (fun h => ?_) <;> (try simp (disch := decide) only [cmp3_lt, cmp3_ge, cmp3_gt, cmp3_le, cmp3_eq, ms_q, ms_f, and_self, and_true, true_and, and_false, false_and, or_true, true_or, or_false, false_or, if_true, if_false, not_true_eq_false, not_false_eq_true, eq_self, reduceIte, Int.reduceEq, Int.reduceLT, Int.reduceLE, Int.reduceNeg, Int.reduceAdd, Int.reduceSub, Int.reduceMul, Int.add_sub_cancel] at h) <;> (try simp (disch := omega) only [w32_e, w64_e, Int.add_sub_cancel] at h) <;> first | exact absurd rfl h | exact absurd h (by decide) | (exfalso; omega) | (conv => whnf))
    | (refine And.intro (by first | omega | ((try simp (disch := decide) only [cmp3_lt, cmp3_ge, cmp3_gt, cmp3_le, cmp3_eq, ms_q, ms_f, and_self, and_true, true_and, and_false, false_and, or_true, true_or, or_false, false_or, if_true, if_false, not_true_eq_false, not_false_eq_true, eq_self, reduceIte, Int.reduceEq, Int.reduceLT, Int.reduceLE, Int.reduceNeg, Int.reduceAdd, Int.reduceSub, Int.reduceMul, Int.add_sub_cancel]); (try simp (disch := omega) only [w32_e, w64_e, Int.add_sub_cancel]); first | assumption | omega)) ?_; conv => whnf)
  all_goals refine ⟨0, _, rfl, ?_⟩
  all_goals refine Vd_run (GG_ok (l := l) (ω := ω)) 400 (cut := fun _ => none) (by decide) CutOK_none ?_
  all_goals conv => whnf
  all_goals repeat' first
    | (refine And.intro (fun h => ?_) (fun h => ?_) <;> (try simp (disch := decide) only [cmp3_lt, cmp3_ge, cmp3_gt, cmp3_le, cmp3_eq, ms_q, ms_f, and_self, and_true, true_and, and_false, false_and, or_true, true_or, or_false, false_or, if_true, if_false, not_true_eq_false, not_false_eq_true, eq_self, reduceIte, Int.reduceEq, Int.reduceLT, Int.reduceLE, Int.reduceNeg, Int.reduceAdd, Int.reduceSub, Int.reduceMul, Int.add_sub_cancel] at h) <;> (try simp (disch := omega) only [w32_e, w64_e, Int.add_sub_cancel] at h) <;> first | exact absurd rfl h | exact absurd h (by decide) | (exfalso; omega) | (conv => whnf))
    | (refine And.intro (by first | omega | ((try simp (disch := decide) only [cmp3_lt, cmp3_ge, cmp3_gt, cmp3_le, cmp3_eq, ms_q, ms_f, and_self, and_true, true_and, and_false, false_and, or_true, true_or, or_false, false_or, if_true, if_false, not_true_eq_false, not_false_eq_true, eq_self, reduceIte, Int.reduceEq, Int.reduceLT, Int.reduceLE, Int.reduceNeg, Int.reduceAdd, Int.reduceSub, Int.reduceMul, Int.add_sub_cancel]); (try simp (disch := omega) only [w32_e, w64_e, Int.add_sub_cancel]); first | assumption | omega)) ?_; conv => whnf)
  all_goals refine ⟨0, ?_, ?_⟩
  all_goals ((try simp (disch := decide) only [cmp3_lt, cmp3_ge, cmp3_gt, cmp3_le, cmp3_eq, ms_q, ms_f, and_self, and_true, true_and, and_false, false_and, or_true, true_or, or_false, false_or, if_true, if_false, not_true_eq_false, not_false_eq_true, eq_self, reduceIte, Int.reduceEq, Int.reduceLT, Int.reduceLE, Int.reduceNeg, Int.reduceAdd, Int.reduceSub, Int.reduceMul, Int.add_sub_cancel] at *); (try simp (disch := omega) only [w32_e, w64_e, Int.add_sub_cancel] at *))
  all_goals first
    | exact Inv.next hc hI0
    | exact congrArg (fun z => some (vI z)) (by omega)
    | exact congrArg (fun z => some (vL z)) (by omega)
    | (exfalso; omega)
    | skip
  all_goals refine ⟨by omega, ?_, ?_, ?_, ?_, ?_, ?_, ?_, ?_, ?_, ?_, ?_, ?_⟩
  all_goals first
    | (have q := hN; simp (disch := decide) only [INet, ms_q, ms_f] at q ⊢; exact q)
    | (have q := hS; simp (disch := decide) only [IStp, ms_q, ms_f] at q ⊢; exact q)
    | (have q := hR; simp (disch := decide) only [IRou, ms_q, ms_f] at q ⊢; exact q)
    | (have q := hG; simp (disch := decide) only [IGui, ms_q, ms_f] at q ⊢; exact q)
    | (have q := hW.next; simp (disch := decide) only [INow, ms_q, ms_f] at q ⊢; exact q)
    | (have q := hJ.next; simp (disch := decide) only [IImg, ms_q, ms_f] at q ⊢; exact q)
    | (have q := hT; simp (disch := decide) only [ITap, ms_q, ms_f] at q ⊢; exact q)
    | (have q := hA; simp (disch := decide) only [ISta, ms_q, ms_f] at q ⊢; exact q)
    | (have q := hP; simp (disch := decide) only [IPpl, ms_q, ms_f] at q ⊢; exact q)
    | (have q := hO; simp (disch := decide) only [IRop, ms_q, ms_f] at q ⊢; exact q)
    | (have q := hH; simp (disch := decide) only [IHrs, ms_q, ms_f] at q ⊢; exact q)
    | skip
  all_goals
    simp (disch := decide) only [ISky, ms_q, ms_f, and_self, and_true, true_and, and_false, false_and, or_true, true_or, or_false, false_or, if_true, if_false, not_true_eq_false, not_false_eq_true, eq_self, reduceIte, Int.reduceEq, Int.reduceLT, Int.reduceLE, Int.reduceNeg, Int.reduceAdd, Int.reduceSub, Int.reduceMul, Int.add_sub_cancel]
    intro j j0 j1
    have := hK j j0 j1
    by_cases e : j = k
    · simp only [if_pos e]
      exact ⟨Or.inl ⟨trivial, trivial⟩, this.2.1, this.2.2.1, fun i i0 i1 => ⟨fun z => by omega, fun z => by omega⟩⟩
    · simp only [if_neg e]
      exact this

theorem pair_route {l : Launch} {ω : WP} {c : Int} {M : Mem} {k : Int} (hk : in32 k)  (hc : c < 512) (hI : Inv c M) : Vd l ω 9 111 [vR 0 0, vI k] M (PQ1 l ω c 167 [vI k]) := by
  have hI0 := hI
  obtain ⟨h0, hN, hS, hR, hK, hG, hW, hJ, hT, hA, hP, hO, hH⟩ := hI
  obtain ⟨s1, ⟨t1, t2, t3, t4, t5, t6⟩, s3, s4⟩ := id hS
  obtain ⟨r1, r2, r3, r4, r5⟩ := id hR
  obtain ⟨o1, o2, o3⟩ := id hO
  obtain ⟨y1, y2, y3⟩ := id hH
  refine Vd_run (GG_ok (l := l) (ω := ω)) 400 (cut := fun _ => none) (by decide) CutOK_none ?_
  conv => whnf
  repeat' first
    | (refine And.intro (fun h => ?_) (fun h => ?_) <;> (try simp (disch := decide) only [cmp3_lt, cmp3_ge, cmp3_gt, cmp3_le, cmp3_eq, ms_q, ms_f, and_self, and_true, true_and, and_false, false_and, or_true, true_or, or_false, false_or, if_true, if_false, not_true_eq_false, not_false_eq_true, eq_self, reduceIte, Int.reduceEq, Int.reduceLT, Int.reduceLE, Int.reduceNeg, Int.reduceAdd, Int.reduceSub, Int.reduceMul, Int.add_sub_cancel] at h) <;> (try simp (disch := omega) only [w32_e, w64_e, Int.add_sub_cancel] at h) <;> first | exact absurd rfl h | exact absurd h (by decide) | (exfalso; omega) | (conv => whnf))
    | (refine And.intro (by first | omega | ((try simp (disch := decide) only [cmp3_lt, cmp3_ge, cmp3_gt, cmp3_le, cmp3_eq, ms_q, ms_f, and_self, and_true, true_and, and_false, false_and, or_true, true_or, or_false, false_or, if_true, if_false, not_true_eq_false, not_false_eq_true, eq_self, reduceIte, Int.reduceEq, Int.reduceLT, Int.reduceLE, Int.reduceNeg, Int.reduceAdd, Int.reduceSub, Int.reduceMul, Int.add_sub_cancel]); (try simp (disch := omega) only [w32_e, w64_e, Int.add_sub_cancel]); first | assumption | omega)) ?_; conv => whnf)
  all_goals refine ⟨0, _, rfl, ?_⟩
  all_goals refine Vd_run (GG_ok (l := l) (ω := ω)) 400 (cut := fun _ => none) (by decide) CutOK_none ?_
  all_goals conv => whnf
  all_goals repeat' first
    | (refine And.intro (fun h => ?_) (fun h => ?_) <;> (try simp (disch := decide) only [cmp3_lt, cmp3_ge, cmp3_gt, cmp3_le, cmp3_eq, ms_q, ms_f, and_self, and_true, true_and, and_false, false_and, or_true, true_or, or_false, false_or, if_true, if_false, not_true_eq_false, not_false_eq_true, eq_self, reduceIte, Int.reduceEq, Int.reduceLT, Int.reduceLE, Int.reduceNeg, Int.reduceAdd, Int.reduceSub, Int.reduceMul, Int.add_sub_cancel] at h) <;> (try simp (disch := omega) only [w32_e, w64_e, Int.add_sub_cancel] at h) <;> first | exact absurd rfl h | exact absurd h (by decide) | (exfalso; omega) | (conv => whnf))
    | (refine And.intro (by first | omega | ((try simp (disch := decide) only [cmp3_lt, cmp3_ge, cmp3_gt, cmp3_le, cmp3_eq, ms_q, ms_f, and_self, and_true, true_and, and_false, false_and, or_true, true_or, or_false, false_or, if_true, if_false, not_true_eq_false, not_false_eq_true, eq_self, reduceIte, Int.reduceEq, Int.reduceLT, Int.reduceLE, Int.reduceNeg, Int.reduceAdd, Int.reduceSub, Int.reduceMul, Int.add_sub_cancel]); (try simp (disch := omega) only [w32_e, w64_e, Int.add_sub_cancel]); first | assumption | omega)) ?_; conv => whnf)
  all_goals refine ⟨0, ?_, ?_⟩
  all_goals ((try simp (disch := decide) only [cmp3_lt, cmp3_ge, cmp3_gt, cmp3_le, cmp3_eq, ms_q, ms_f, and_self, and_true, true_and, and_false, false_and, or_true, true_or, or_false, false_or, if_true, if_false, not_true_eq_false, not_false_eq_true, eq_self, reduceIte, Int.reduceEq, Int.reduceLT, Int.reduceLE, Int.reduceNeg, Int.reduceAdd, Int.reduceSub, Int.reduceMul, Int.add_sub_cancel] at *); (try simp (disch := omega) only [w32_e, w64_e, Int.add_sub_cancel] at *))
  all_goals first
    | exact Inv.next hc hI0
    | exact congrArg (fun z => some (vI z)) (by omega)
    | exact congrArg (fun z => some (vL z)) (by omega)
    | (exfalso; omega)
    | skip
  all_goals refine ⟨by omega, ?_, ?_, ?_, ?_, ?_, ?_, ?_, ?_, ?_, ?_, ?_, ?_⟩
  all_goals first
    | (have q := hN; simp (disch := decide) only [INet, ms_q, ms_f] at q ⊢; exact q)
    | (have q := hS; simp (disch := decide) only [IStp, ms_q, ms_f] at q ⊢; exact q)
    | (have q := hK; simp (disch := decide) only [ISky, ms_q, ms_f] at q ⊢; exact q)
    | (have q := hG; simp (disch := decide) only [IGui, ms_q, ms_f] at q ⊢; exact q)
    | (have q := hW.next; simp (disch := decide) only [INow, ms_q, ms_f] at q ⊢; exact q)
    | (have q := hJ.next; simp (disch := decide) only [IImg, ms_q, ms_f] at q ⊢; exact q)
    | (have q := hT; simp (disch := decide) only [ITap, ms_q, ms_f] at q ⊢; exact q)
    | (have q := hA; simp (disch := decide) only [ISta, ms_q, ms_f] at q ⊢; exact q)
    | (have q := hP; simp (disch := decide) only [IPpl, ms_q, ms_f] at q ⊢; exact q)
    | skip
  · simp (disch := decide) only [IRou, ms_q, ms_f, and_self, and_true, true_and, and_false, false_and, or_true, true_or, or_false, false_or, if_true, if_false, not_true_eq_false, not_false_eq_true, eq_self, reduceIte, Int.reduceEq, Int.reduceLT, Int.reduceLE, Int.reduceNeg, Int.reduceAdd, Int.reduceSub, Int.reduceMul, Int.add_sub_cancel]
    refine ⟨by omega, ?_, fun r i a0 a1 b0 b1 => ?_, by omega, fun r a0 a1 => ?_⟩
    · funext z
      have := congrFun r2 z
      simp (disch := decide) only [this, r1, ms_q, ms_f, and_self, and_true, true_and, and_false, false_and, or_true, true_or, or_false, false_or, if_true, if_false, not_true_eq_false, not_false_eq_true, eq_self, reduceIte, Int.reduceEq, Int.reduceLT, Int.reduceLE, Int.reduceNeg, Int.reduceAdd, Int.reduceSub, Int.reduceMul, Int.add_sub_cancel]
    · have := r3 r i a0 a1 b0 b1
      by_cases e : r = M 1 0 9 ∧ i = 0
      · have e' : 6 * r + i = 6 * M 13 0 9 := by omega
        simp only [if_pos e, if_pos e']
      · have e' : ¬ 6 * r + i = 6 * M 13 0 9 := by omega
        simp only [if_neg e, if_neg e']
        exact this
    · have := r5 r a0
      by_cases e : r = M 1 0 9
      · simp only [if_pos e]
        refine ⟨by omega, fun i i0 i1 => ?_⟩
        have e' : r = M 1 0 9 ∧ i = 0 := by omega
        simp only [if_pos e']
        omega
      · simp only [if_neg e, e, and_self, and_true, true_and, and_false, false_and, or_true, true_or, or_false, false_or, if_true, if_false, not_true_eq_false, not_false_eq_true, eq_self, reduceIte, Int.reduceEq, Int.reduceLT, Int.reduceLE, Int.reduceNeg, Int.reduceAdd, Int.reduceSub, Int.reduceMul, Int.add_sub_cancel]
        exact this (by omega)
  · simp (disch := decide) only [IRop, ms_q, ms_f, and_self, and_true, true_and, and_false, false_and, or_true, true_or, or_false, false_or, if_true, if_false, not_true_eq_false, not_false_eq_true, eq_self, reduceIte, Int.reduceEq, Int.reduceLT, Int.reduceLE, Int.reduceNeg, Int.reduceAdd, Int.reduceSub, Int.reduceMul, Int.add_sub_cancel]
    exact ⟨o1, o2, fun r a b => by have := o3 r a b; omega⟩
  · simp (disch := decide) only [IHrs, ms_q, ms_f, and_self, and_true, true_and, and_false, false_and, or_true, true_or, or_false, false_or, if_true, if_false, not_true_eq_false, not_false_eq_true, eq_self, reduceIte, Int.reduceEq, Int.reduceLT, Int.reduceLE, Int.reduceNeg, Int.reduceAdd, Int.reduceSub, Int.reduceMul, Int.add_sub_cancel]
    exact ⟨y1, y2, fun r a b => by have := y3 r a b; omega⟩

theorem pair_on {l : Launch} {ω : WP} {c : Int} {M : Mem} {r : Int} {k : Int} (hr : in32 r) (hk : in32 k)  (hc : c < 512) (hI : Inv c M) : Vd l ω 9 112 [vR 0 0, vI r, vI k] M (PQ1 l ω c 170 [vI r, vI k]) := by
  have hI0 := hI
  obtain ⟨h0, hN, hS, hR, hK, hG, hW, hJ, hT, hA, hP, hO, hH⟩ := hI
  obtain ⟨s1, ⟨t1, t2, t3, t4, t5, t6⟩, s3, s4⟩ := id hS
  obtain ⟨r1, r2, r3, r4, r5⟩ := id hR
  have x1 := t1
  have x2 := t2
  have x3 := r1
  have x4 := r2
  have x5 := r3
  have x6 := s1
  have r6 : 0 ≤ r → r < M 1 0 9 → (1 ≤ M 21 0 r ∧ M 21 0 r ≤ 6) ∧ 0 ≤ M 23 r (M 21 0 r - 1) ∧ M 23 r (M 21 0 r - 1) < M 1 0 2 := fun a b => ⟨(r5 r a b).1, (r5 r a b).2 _ (by have := r5 r a b; omega) (by omega)⟩
  refine Vd_run (GG_ok (l := l) (ω := ω)) 400 (cut := fun _ => none) (by decide) CutOK_none ?_
  conv => whnf
  repeat' first
    | (refine And.intro (fun h => ?_) (fun h => ?_) <;> (try simp (disch := decide) only [cmp3_lt, cmp3_ge, cmp3_gt, cmp3_le, cmp3_eq, ms_q, ms_f, and_self, and_true, true_and, and_false, false_and, or_true, true_or, or_false, false_or, if_true, if_false, not_true_eq_false, not_false_eq_true, eq_self, reduceIte, Int.reduceEq, Int.reduceLT, Int.reduceLE, Int.reduceNeg, Int.reduceAdd, Int.reduceSub, Int.reduceMul, Int.add_sub_cancel] at h) <;> (try simp (disch := omega) only [w32_e, w64_e, Int.add_sub_cancel, x1, x2, x3, x4, x5, x6] at h) <;> first | exact absurd rfl h | exact absurd h (by decide) | (exfalso; omega) | (conv => whnf))
    | (refine And.intro (by first | omega | ((try simp (disch := decide) only [cmp3_lt, cmp3_ge, cmp3_gt, cmp3_le, cmp3_eq, ms_q, ms_f, and_self, and_true, true_and, and_false, false_and, or_true, true_or, or_false, false_or, if_true, if_false, not_true_eq_false, not_false_eq_true, eq_self, reduceIte, Int.reduceEq, Int.reduceLT, Int.reduceLE, Int.reduceNeg, Int.reduceAdd, Int.reduceSub, Int.reduceMul, Int.add_sub_cancel]); (try simp (disch := omega) only [w32_e, w64_e, Int.add_sub_cancel, x1, x2, x3, x4, x5, x6]); first | assumption | omega)) ?_; conv => whnf)
  all_goals refine ⟨0, _, rfl, ?_⟩
  all_goals refine Vd_run (GG_ok (l := l) (ω := ω)) 400 (cut := fun _ => none) (by decide) CutOK_none ?_
  all_goals conv => whnf
  all_goals repeat' first
    | (refine And.intro (fun h => ?_) (fun h => ?_) <;> (try simp (disch := decide) only [cmp3_lt, cmp3_ge, cmp3_gt, cmp3_le, cmp3_eq, ms_q, ms_f, and_self, and_true, true_and, and_false, false_and, or_true, true_or, or_false, false_or, if_true, if_false, not_true_eq_false, not_false_eq_true, eq_self, reduceIte, Int.reduceEq, Int.reduceLT, Int.reduceLE, Int.reduceNeg, Int.reduceAdd, Int.reduceSub, Int.reduceMul, Int.add_sub_cancel] at h) <;> (try simp (disch := omega) only [w32_e, w64_e, Int.add_sub_cancel, x1, x2, x3, x4, x5, x6] at h) <;> first | exact absurd rfl h | exact absurd h (by decide) | (exfalso; omega) | (conv => whnf))
    | (refine And.intro (by first | omega | ((try simp (disch := decide) only [cmp3_lt, cmp3_ge, cmp3_gt, cmp3_le, cmp3_eq, ms_q, ms_f, and_self, and_true, true_and, and_false, false_and, or_true, true_or, or_false, false_or, if_true, if_false, not_true_eq_false, not_false_eq_true, eq_self, reduceIte, Int.reduceEq, Int.reduceLT, Int.reduceLE, Int.reduceNeg, Int.reduceAdd, Int.reduceSub, Int.reduceMul, Int.add_sub_cancel]); (try simp (disch := omega) only [w32_e, w64_e, Int.add_sub_cancel, x1, x2, x3, x4, x5, x6]); first | assumption | omega)) ?_; conv => whnf)
  all_goals refine ⟨0, ?_, ?_⟩
  all_goals ((try simp (disch := decide) only [cmp3_lt, cmp3_ge, cmp3_gt, cmp3_le, cmp3_eq, ms_q, ms_f, and_self, and_true, true_and, and_false, false_and, or_true, true_or, or_false, false_or, if_true, if_false, not_true_eq_false, not_false_eq_true, eq_self, reduceIte, Int.reduceEq, Int.reduceLT, Int.reduceLE, Int.reduceNeg, Int.reduceAdd, Int.reduceSub, Int.reduceMul, Int.add_sub_cancel] at *); (try simp (disch := omega) only [w32_e, w64_e, Int.add_sub_cancel, x1, x2, x3, x4, x5, x6] at *))
  all_goals first
    | exact Inv.next hc hI0
    | exact congrArg (fun z => some (vI z)) (by omega)
    | exact congrArg (fun z => some (vL z)) (by omega)
    | (exfalso; omega)
    | skip
  all_goals refine ⟨by omega, ?_, ?_, ?_, ?_, ?_, ?_, ?_, ?_, ?_, ?_, ?_, ?_⟩
  all_goals first
    | (have q := hN; simp (disch := decide) only [INet, ms_q, ms_f] at q ⊢; exact q)
    | (have q := hS; simp (disch := decide) only [IStp, ms_q, ms_f] at q ⊢; exact q)
    | (have q := hK; simp (disch := decide) only [ISky, ms_q, ms_f] at q ⊢; exact q)
    | (have q := hG; simp (disch := decide) only [IGui, ms_q, ms_f] at q ⊢; exact q)
    | (have q := hW.next; simp (disch := decide) only [INow, ms_q, ms_f] at q ⊢; exact q)
    | (have q := hJ.next; simp (disch := decide) only [IImg, ms_q, ms_f] at q ⊢; exact q)
    | (have q := hT; simp (disch := decide) only [ITap, ms_q, ms_f] at q ⊢; exact q)
    | (have q := hA; simp (disch := decide) only [ISta, ms_q, ms_f] at q ⊢; exact q)
    | (have q := hP; simp (disch := decide) only [IPpl, ms_q, ms_f] at q ⊢; exact q)
    | (have q := hO; simp (disch := decide) only [IRop, ms_q, ms_f] at q ⊢; exact q)
    | (have q := hH; simp (disch := decide) only [IHrs, ms_q, ms_f] at q ⊢; exact q)
    | skip
  · simp (disch := decide) only [IRou, ms_q, ms_f, and_self, and_true, true_and, and_false, false_and, or_true, true_or, or_false, false_or, if_true, if_false, not_true_eq_false, not_false_eq_true, eq_self, reduceIte, Int.reduceEq, Int.reduceLT, Int.reduceLE, Int.reduceNeg, Int.reduceAdd, Int.reduceSub, Int.reduceMul, Int.add_sub_cancel]
    obtain ⟨r1, r2, r3, r4, r5⟩ := id hR
    refine ⟨r1, ?_, fun i j a0 a1 b0 b1 => ?_, r4, fun i a0 a1 => ?_⟩
    · funext z
      have := congrFun r2 z
      simp (disch := decide) only [this, ms_q, ms_f, and_self, and_true, true_and, and_false, false_and, or_true, true_or, or_false, false_or, if_true, if_false, not_true_eq_false, not_false_eq_true, eq_self, reduceIte, Int.reduceEq, Int.reduceLT, Int.reduceLE, Int.reduceNeg, Int.reduceAdd, Int.reduceSub, Int.reduceMul, Int.add_sub_cancel]
    · have := r3 i j a0 a1 b0 b1
      by_cases e : i = r ∧ j = M 21 0 r
      · have e' : 6 * i + j = 6 * r + M 21 0 r := by omega
        simp only [if_pos e, if_pos e']
      · have e' : ¬ 6 * i + j = 6 * r + M 21 0 r := by omega
        simp only [if_neg e, if_neg e']
        exact this
    · have q := r5 i a0 a1
      by_cases e : i = r
      · simp only [if_pos e]
        refine ⟨by omega, fun j j0 j1 => ?_⟩
        by_cases e' : i = r ∧ j = M 21 0 r
        · simp only [if_pos e']
          omega
        · simp only [if_neg e']
          exact q.2 j j0 (by rw [e]; omega)
      · simp only [if_neg e, e, and_self, and_true, true_and, and_false, false_and, or_true, true_or, or_false, false_or, if_true, if_false, not_true_eq_false, not_false_eq_true, eq_self, reduceIte, Int.reduceEq, Int.reduceLT, Int.reduceLE, Int.reduceNeg, Int.reduceAdd, Int.reduceSub, Int.reduceMul, Int.add_sub_cancel]
        exact q

theorem pair_wish {l : Launch} {ω : WP} {c : Int} {M : Mem} {a : Int} {b : Int} {v : Int} (ha : in32 a) (hb : in32 b) (hv : in32 v)  (hc : c < 512) (hI : Inv c M) : Vd l ω 9 139 [vR 0 0, vI a, vI b, vI v] M (PQ1 l ω c 230 [vI a, vI b, vI v]) := by
  have hI0 := hI
  obtain ⟨h0, hN, hS, hR, hK, hG, hW, hJ, hT, hA, hP, hO, hH⟩ := hI
  obtain ⟨p1, p2, p3, p4, p5⟩ := id hP
  have p6 := p5 a b
  refine Vd_run (GG_ok (l := l) (ω := ω)) 400 (cut := fun _ => none) (by decide) CutOK_none ?_
  conv => whnf
  repeat' first
    | (refine And.intro (fun h => ?_) (fun h => ?_) <;> (try simp (disch := decide) only [cmp3_lt, cmp3_ge, cmp3_gt, cmp3_le, cmp3_eq, ms_q, ms_f, and_self, and_true, true_and, and_false, false_and, or_true, true_or, or_false, false_or, if_true, if_false, not_true_eq_false, not_false_eq_true, eq_self, reduceIte, Int.reduceEq, Int.reduceLT, Int.reduceLE, Int.reduceNeg, Int.reduceAdd, Int.reduceSub, Int.reduceMul, Int.add_sub_cancel] at h) <;> (try simp (disch := omega) only [w32_e, w64_e, Int.add_sub_cancel] at h) <;> first | exact absurd rfl h | exact absurd h (by decide) | (exfalso; omega) | (conv => whnf))
    | (refine And.intro (by first | omega | ((try simp (disch := decide) only [cmp3_lt, cmp3_ge, cmp3_gt, cmp3_le, cmp3_eq, ms_q, ms_f, and_self, and_true, true_and, and_false, false_and, or_true, true_or, or_false, false_or, if_true, if_false, not_true_eq_false, not_false_eq_true, eq_self, reduceIte, Int.reduceEq, Int.reduceLT, Int.reduceLE, Int.reduceNeg, Int.reduceAdd, Int.reduceSub, Int.reduceMul, Int.add_sub_cancel]); (try simp (disch := omega) only [w32_e, w64_e, Int.add_sub_cancel]); first | assumption | omega)) ?_; conv => whnf)
  all_goals refine ⟨0, _, rfl, ?_⟩
  all_goals refine Vd_run (GG_ok (l := l) (ω := ω)) 400 (cut := fun _ => none) (by decide) CutOK_none ?_
  all_goals conv => whnf
  all_goals repeat' first
    | (refine And.intro (fun h => ?_) (fun h => ?_) <;> (try simp (disch := decide) only [cmp3_lt, cmp3_ge, cmp3_gt, cmp3_le, cmp3_eq, ms_q, ms_f, and_self, and_true, true_and, and_false, false_and, or_true, true_or, or_false, false_or, if_true, if_false, not_true_eq_false, not_false_eq_true, eq_self, reduceIte, Int.reduceEq, Int.reduceLT, Int.reduceLE, Int.reduceNeg, Int.reduceAdd, Int.reduceSub, Int.reduceMul, Int.add_sub_cancel] at h) <;> (try simp (disch := omega) only [w32_e, w64_e, Int.add_sub_cancel] at h) <;> first | exact absurd rfl h | exact absurd h (by decide) | (exfalso; omega) | (conv => whnf))
    | (refine And.intro (by first | omega | ((try simp (disch := decide) only [cmp3_lt, cmp3_ge, cmp3_gt, cmp3_le, cmp3_eq, ms_q, ms_f, and_self, and_true, true_and, and_false, false_and, or_true, true_or, or_false, false_or, if_true, if_false, not_true_eq_false, not_false_eq_true, eq_self, reduceIte, Int.reduceEq, Int.reduceLT, Int.reduceLE, Int.reduceNeg, Int.reduceAdd, Int.reduceSub, Int.reduceMul, Int.add_sub_cancel]); (try simp (disch := omega) only [w32_e, w64_e, Int.add_sub_cancel]); first | assumption | omega)) ?_; conv => whnf)
  all_goals refine ⟨0, ?_, ?_⟩
  all_goals ((try simp (disch := decide) only [cmp3_lt, cmp3_ge, cmp3_gt, cmp3_le, cmp3_eq, ms_q, ms_f, and_self, and_true, true_and, and_false, false_and, or_true, true_or, or_false, false_or, if_true, if_false, not_true_eq_false, not_false_eq_true, eq_self, reduceIte, Int.reduceEq, Int.reduceLT, Int.reduceLE, Int.reduceNeg, Int.reduceAdd, Int.reduceSub, Int.reduceMul, Int.add_sub_cancel] at *); (try simp (disch := omega) only [w32_e, w64_e, Int.add_sub_cancel] at *))
  all_goals first
    | exact Inv.next hc hI0
    | exact congrArg (fun z => some (vI z)) (by omega)
    | exact congrArg (fun z => some (vL z)) (by omega)
    | (exfalso; omega)
    | skip
  all_goals refine ⟨by omega, ?_, ?_, ?_, ?_, ?_, ?_, ?_, ?_, ?_, ?_, ?_, ?_⟩
  all_goals first
    | (have q := hN; simp (disch := decide) only [INet, ms_q, ms_f] at q ⊢; exact q)
    | (have q := hS; simp (disch := decide) only [IStp, ms_q, ms_f] at q ⊢; exact q)
    | (have q := hR; simp (disch := decide) only [IRou, ms_q, ms_f] at q ⊢; exact q)
    | (have q := hK; simp (disch := decide) only [ISky, ms_q, ms_f] at q ⊢; exact q)
    | (have q := hG; simp (disch := decide) only [IGui, ms_q, ms_f] at q ⊢; exact q)
    | (have q := hW.next; simp (disch := decide) only [INow, ms_q, ms_f] at q ⊢; exact q)
    | (have q := hJ.next; simp (disch := decide) only [IImg, ms_q, ms_f] at q ⊢; exact q)
    | (have q := hT; simp (disch := decide) only [ITap, ms_q, ms_f] at q ⊢; exact q)
    | (have q := hA; simp (disch := decide) only [ISta, ms_q, ms_f] at q ⊢; exact q)
    | (have q := hO; simp (disch := decide) only [IRop, ms_q, ms_f] at q ⊢; exact q)
    | (have q := hH; simp (disch := decide) only [IHrs, ms_q, ms_f] at q ⊢; exact q)
    | skip
  · simp (disch := decide) only [IPpl, ms_q, ms_f, and_self, and_true, true_and, and_false, false_and, or_true, true_or, or_false, false_or, if_true, if_false, not_true_eq_false, not_false_eq_true, eq_self, reduceIte, Int.reduceEq, Int.reduceLT, Int.reduceLE, Int.reduceNeg, Int.reduceAdd, Int.reduceSub, Int.reduceMul, Int.add_sub_cancel]
    refine ⟨p1, p2, p3, p4, fun i j i0 i1 j0 j1 => ?_⟩
    have q := p5 i j i0 i1 j0 j1
    by_cases e : i = a ∧ j = b
    · have e' : 9 * i + j = 9 * a + b := by omega
      simp only [if_pos e, if_pos e', and_self, and_true, true_and, and_false, false_and, or_true, true_or, or_false, false_or, if_true, if_false, not_true_eq_false, not_false_eq_true, eq_self, reduceIte, Int.reduceEq, Int.reduceLT, Int.reduceLE, Int.reduceNeg, Int.reduceAdd, Int.reduceSub, Int.reduceMul, Int.add_sub_cancel]
      omega
    · have e' : ¬ 9 * i + j = 9 * a + b := by omega
      simp only [if_neg e, if_neg e']
      exact q

theorem pair_step {l : Launch} {ω : WP} {c : Int} {M : Mem} {a : Int} {b : Int} {s : Int} {w : Int} {u : Int} {z : Int} (ha : in32 a) (hb : in32 b) (hs : in32 s) (hw : in32 w) (hu : in32 u) (hz : in32 z) (hz1 : z = 0 ∨ z = 1) (hc : c < 512) (hI : Inv c M) : Vd l ω 9 109 [vR 0 0, vI a, vI b, vI s, vI w, vI u, vI z] M (PQ1 l ω c 165 [vI a, vI b, vI s, vI w, vI u, vI z]) := by
  have hI0 := hI
  obtain ⟨h0, hN, hS, hR, hK, hG, hW, hJ, hT, hA, hP, hO, hH⟩ := hI
  obtain ⟨s1, ⟨t1, t2, t3, t4, t5, t6⟩, s3, s4⟩ := id hS
  obtain ⟨r1, r2, r3, r4, r5⟩ := id hR
  obtain ⟨n1, n2, n3, n4⟩ := id hN
  refine Vd_run (GG_ok (l := l) (ω := ω)) 400 (cut := fun _ => none) (by decide) CutOK_none ?_
  conv => whnf
  repeat' first
    | (refine And.intro (fun h => ?_) (fun h => ?_) <;> (try simp (disch := decide) only [cmp3_lt, cmp3_ge, cmp3_gt, cmp3_le, cmp3_eq, ms_q, ms_f, and_self, and_true, true_and, and_false, false_and, or_true, true_or, or_false, false_or, if_true, if_false, not_true_eq_false, not_false_eq_true, eq_self, reduceIte, Int.reduceEq, Int.reduceLT, Int.reduceLE, Int.reduceNeg, Int.reduceAdd, Int.reduceSub, Int.reduceMul, Int.add_sub_cancel] at h) <;> (try simp (disch := omega) only [w32_e, w64_e, Int.add_sub_cancel] at h) <;> first | exact absurd rfl h | exact absurd h (by decide) | (exfalso; omega) | (conv => whnf))
    | (refine And.intro (by first | omega | ((try simp (disch := decide) only [cmp3_lt, cmp3_ge, cmp3_gt, cmp3_le, cmp3_eq, ms_q, ms_f, and_self, and_true, true_and, and_false, false_and, or_true, true_or, or_false, false_or, if_true, if_false, not_true_eq_false, not_false_eq_true, eq_self, reduceIte, Int.reduceEq, Int.reduceLT, Int.reduceLE, Int.reduceNeg, Int.reduceAdd, Int.reduceSub, Int.reduceMul, Int.add_sub_cancel]); (try simp (disch := omega) only [w32_e, w64_e, Int.add_sub_cancel]); first | assumption | omega)) ?_; conv => whnf)
  all_goals refine ⟨0, _, rfl, ?_⟩
  all_goals refine Vd_run (GG_ok (l := l) (ω := ω)) 400 (cut := fun _ => none) (by decide) CutOK_none ?_
  all_goals conv => whnf
  all_goals repeat' first
    | (refine And.intro (fun h => ?_) (fun h => ?_) <;> (try simp (disch := decide) only [cmp3_lt, cmp3_ge, cmp3_gt, cmp3_le, cmp3_eq, ms_q, ms_f, and_self, and_true, true_and, and_false, false_and, or_true, true_or, or_false, false_or, if_true, if_false, not_true_eq_false, not_false_eq_true, eq_self, reduceIte, Int.reduceEq, Int.reduceLT, Int.reduceLE, Int.reduceNeg, Int.reduceAdd, Int.reduceSub, Int.reduceMul, Int.add_sub_cancel] at h) <;> (try simp (disch := omega) only [w32_e, w64_e, Int.add_sub_cancel] at h) <;> first | exact absurd rfl h | exact absurd h (by decide) | (exfalso; omega) | (conv => whnf))
    | (refine And.intro (by first | omega | ((try simp (disch := decide) only [cmp3_lt, cmp3_ge, cmp3_gt, cmp3_le, cmp3_eq, ms_q, ms_f, and_self, and_true, true_and, and_false, false_and, or_true, true_or, or_false, false_or, if_true, if_false, not_true_eq_false, not_false_eq_true, eq_self, reduceIte, Int.reduceEq, Int.reduceLT, Int.reduceLE, Int.reduceNeg, Int.reduceAdd, Int.reduceSub, Int.reduceMul, Int.add_sub_cancel]); (try simp (disch := omega) only [w32_e, w64_e, Int.add_sub_cancel]); first | assumption | omega)) ?_; conv => whnf)
  all_goals refine ⟨0, ?_, ?_⟩
  all_goals ((try simp (disch := decide) only [cmp3_lt, cmp3_ge, cmp3_gt, cmp3_le, cmp3_eq, ms_q, ms_f, and_self, and_true, true_and, and_false, false_and, or_true, true_or, or_false, false_or, if_true, if_false, not_true_eq_false, not_false_eq_true, eq_self, reduceIte, Int.reduceEq, Int.reduceLT, Int.reduceLE, Int.reduceNeg, Int.reduceAdd, Int.reduceSub, Int.reduceMul, Int.add_sub_cancel] at *); (try simp (disch := omega) only [w32_e, w64_e, Int.add_sub_cancel] at *))
  all_goals first
    | exact Inv.next hc hI0
    | exact congrArg (fun z => some (vI z)) (by omega)
    | exact congrArg (fun z => some (vL z)) (by omega)
    | (exfalso; omega)
    | skip
  all_goals refine ⟨by omega, ?_, ?_, ?_, ?_, ?_, ?_, ?_, ?_, ?_, ?_, ?_, ?_⟩
  all_goals first
    | (have q := hN; simp (disch := decide) only [INet, ms_q, ms_f] at q ⊢; exact q)
    | (have q := hK; simp (disch := decide) only [ISky, ms_q, ms_f] at q ⊢; exact q)
    | (have q := hG; simp (disch := decide) only [IGui, ms_q, ms_f] at q ⊢; exact q)
    | (have q := hW.next; simp (disch := decide) only [INow, ms_q, ms_f] at q ⊢; exact q)
    | (have q := hJ.next; simp (disch := decide) only [IImg, ms_q, ms_f] at q ⊢; exact q)
    | (have q := hT; simp (disch := decide) only [ITap, ms_q, ms_f] at q ⊢; exact q)
    | (have q := hA; simp (disch := decide) only [ISta, ms_q, ms_f] at q ⊢; exact q)
    | (have q := hP; simp (disch := decide) only [IPpl, ms_q, ms_f] at q ⊢; exact q)
    | (have q := hO; simp (disch := decide) only [IRop, ms_q, ms_f] at q ⊢; exact q)
    | (have q := hH; simp (disch := decide) only [IHrs, ms_q, ms_f] at q ⊢; exact q)
    | skip
  · simp (disch := decide) only [IStp, ms_q, ms_f, and_self, and_true, true_and, and_false, false_and, or_true, true_or, or_false, false_or, if_true, if_false, not_true_eq_false, not_false_eq_true, eq_self, reduceIte, Int.reduceEq, Int.reduceLT, Int.reduceLE, Int.reduceNeg, Int.reduceAdd, Int.reduceSub, Int.reduceMul, Int.add_sub_cancel]
    refine ⟨by omega, ⟨?_, ?_, ?_, ?_, ?_, ?_⟩, by omega, fun j j0 j1 => ?_⟩
    · funext y; have := congrFun t1 y; simp (disch := decide) only [this, s1, ms_q, ms_f, and_self, and_true, true_and, and_false, false_and, or_true, true_or, or_false, false_or, if_true, if_false, not_true_eq_false, not_false_eq_true, eq_self, reduceIte, Int.reduceEq, Int.reduceLT, Int.reduceLE, Int.reduceNeg, Int.reduceAdd, Int.reduceSub, Int.reduceMul, Int.add_sub_cancel]
    · funext y; have := congrFun t2 y; simp (disch := decide) only [this, s1, ms_q, ms_f, and_self, and_true, true_and, and_false, false_and, or_true, true_or, or_false, false_or, if_true, if_false, not_true_eq_false, not_false_eq_true, eq_self, reduceIte, Int.reduceEq, Int.reduceLT, Int.reduceLE, Int.reduceNeg, Int.reduceAdd, Int.reduceSub, Int.reduceMul, Int.add_sub_cancel]
    · funext y; have := congrFun t3 y; simp (disch := decide) only [this, s1, ms_q, ms_f, and_self, and_true, true_and, and_false, false_and, or_true, true_or, or_false, false_or, if_true, if_false, not_true_eq_false, not_false_eq_true, eq_self, reduceIte, Int.reduceEq, Int.reduceLT, Int.reduceLE, Int.reduceNeg, Int.reduceAdd, Int.reduceSub, Int.reduceMul, Int.add_sub_cancel]
    · funext y; have := congrFun t4 y; simp (disch := decide) only [this, s1, ms_q, ms_f, and_self, and_true, true_and, and_false, false_and, or_true, true_or, or_false, false_or, if_true, if_false, not_true_eq_false, not_false_eq_true, eq_self, reduceIte, Int.reduceEq, Int.reduceLT, Int.reduceLE, Int.reduceNeg, Int.reduceAdd, Int.reduceSub, Int.reduceMul, Int.add_sub_cancel]
    · funext y; have := congrFun t5 y; simp (disch := decide) only [this, s1, ms_q, ms_f, and_self, and_true, true_and, and_false, false_and, or_true, true_or, or_false, false_or, if_true, if_false, not_true_eq_false, not_false_eq_true, eq_self, reduceIte, Int.reduceEq, Int.reduceLT, Int.reduceLE, Int.reduceNeg, Int.reduceAdd, Int.reduceSub, Int.reduceMul, Int.add_sub_cancel]
    · funext y; have := congrFun t6 y; simp (disch := decide) only [this, s1, ms_q, ms_f, and_self, and_true, true_and, and_false, false_and, or_true, true_or, or_false, false_or, if_true, if_false, not_true_eq_false, not_false_eq_true, eq_self, reduceIte, Int.reduceEq, Int.reduceLT, Int.reduceLE, Int.reduceNeg, Int.reduceAdd, Int.reduceSub, Int.reduceMul, Int.add_sub_cancel]
    · have q := s4 j j0
      by_cases e : j = M 1 0 2
      · simp only [if_pos e, and_self, and_true, true_and, and_false, false_and, or_true, true_or, or_false, false_or, if_true, if_false, not_true_eq_false, not_false_eq_true, eq_self, reduceIte, Int.reduceEq, Int.reduceLT, Int.reduceLE, Int.reduceNeg, Int.reduceAdd, Int.reduceSub, Int.reduceMul, Int.add_sub_cancel]
        omega
      · simp only [if_neg e, and_self, and_true, true_and, and_false, false_and, or_true, true_or, or_false, false_or, if_true, if_false, not_true_eq_false, not_false_eq_true, eq_self, reduceIte, Int.reduceEq, Int.reduceLT, Int.reduceLE, Int.reduceNeg, Int.reduceAdd, Int.reduceSub, Int.reduceMul, Int.add_sub_cancel]
        exact q (by omega)
  · simp (disch := decide) only [IRou, ms_q, ms_f, and_self, and_true, true_and, and_false, false_and, or_true, true_or, or_false, false_or, if_true, if_false, not_true_eq_false, not_false_eq_true, eq_self, reduceIte, Int.reduceEq, Int.reduceLT, Int.reduceLE, Int.reduceNeg, Int.reduceAdd, Int.reduceSub, Int.reduceMul, Int.add_sub_cancel]
    exact ⟨r1, r2, r3, r4, fun r a b => ⟨(r5 r a b).1, fun i i0 i1 => by have := (r5 r a b).2 i i0 i1; omega⟩⟩

theorem pair_lay {l : Launch} {ω : WP} {c : Int} {M : Mem} {k : Int} {i : Int} {v : Int} (hk : in32 k) (hi : in32 i) (hv : in32 v)  (hc : c < 512) (hI : Inv c M) : Vd l ω 9 115 [vR 0 0, vI k, vI i, vI v] M (PQ1 l ω c 176 [vI k, vI i, vI v]) := by
  have hI0 := hI
  obtain ⟨h0, hN, hS, hR, hK, hG, hW, hJ, hT, hA, hP, hO, hH⟩ := hI
  have k1 := hK k
  have k2 : 0 ≤ k → k < 4 → (0 ≤ M 25 0 k ∧ M 25 0 k ≤ 24) ∧ M 79 0 k = M 25 0 k := fun a b => ⟨(k1 a b).2.2.1, (k1 a b).2.1⟩
  have k3 : 0 ≤ k → k < 4 → (M 24 0 k = -1 ∧ M 78 0 k = -4) ∨ (M 78 0 k = M 24 0 k ∧ 0 ≤ M 24 0 k ∧ M 24 0 k ≤ 2) := fun a b => (k1 a b).1
  refine Vd_run (GG_ok (l := l) (ω := ω)) 400 (cut := fun _ => none) (by decide) CutOK_none ?_
  conv => whnf
  repeat' first
    | (refine And.intro (fun h => ?_) (fun h => ?_) <;> (try simp (disch := decide) only [cmp3_lt, cmp3_ge, cmp3_gt, cmp3_le, cmp3_eq, ms_q, ms_f, and_self, and_true, true_and, and_false, false_and, or_true, true_or, or_false, false_or, if_true, if_false, not_true_eq_false, not_false_eq_true, eq_self, reduceIte, Int.reduceEq, Int.reduceLT, Int.reduceLE, Int.reduceNeg, Int.reduceAdd, Int.reduceSub, Int.reduceMul, Int.add_sub_cancel] at h) <;> (try simp (disch := omega) only [w32_e, w64_e, Int.add_sub_cancel] at h) <;> first | exact absurd rfl h | exact absurd h (by decide) | (exfalso; omega) | (conv => whnf))
    | (refine And.intro (by first | omega | ((try simp (disch := decide) only [cmp3_lt, cmp3_ge, cmp3_gt, cmp3_le, cmp3_eq, ms_q, ms_f, and_self, and_true, true_and, and_false, false_and, or_true, true_or, or_false, false_or, if_true, if_false, not_true_eq_false, not_false_eq_true, eq_self, reduceIte, Int.reduceEq, Int.reduceLT, Int.reduceLE, Int.reduceNeg, Int.reduceAdd, Int.reduceSub, Int.reduceMul, Int.add_sub_cancel]); (try simp (disch := omega) only [w32_e, w64_e, Int.add_sub_cancel]); first | assumption | omega)) ?_; conv => whnf)
  all_goals refine ⟨0, _, rfl, ?_⟩
  all_goals refine Vd_run (GG_ok (l := l) (ω := ω)) 400 (cut := fun _ => none) (by decide) CutOK_none ?_
  all_goals conv => whnf
  all_goals repeat' first
    | (refine And.intro (fun h => ?_) (fun h => ?_) <;> (try simp (disch := decide) only [cmp3_lt, cmp3_ge, cmp3_gt, cmp3_le, cmp3_eq, ms_q, ms_f, and_self, and_true, true_and, and_false, false_and, or_true, true_or, or_false, false_or, if_true, if_false, not_true_eq_false, not_false_eq_true, eq_self, reduceIte, Int.reduceEq, Int.reduceLT, Int.reduceLE, Int.reduceNeg, Int.reduceAdd, Int.reduceSub, Int.reduceMul, Int.add_sub_cancel] at h) <;> (try simp (disch := omega) only [w32_e, w64_e, Int.add_sub_cancel] at h) <;> first | exact absurd rfl h | exact absurd h (by decide) | (exfalso; omega) | (conv => whnf))
    | (refine And.intro (by first | omega | ((try simp (disch := decide) only [cmp3_lt, cmp3_ge, cmp3_gt, cmp3_le, cmp3_eq, ms_q, ms_f, and_self, and_true, true_and, and_false, false_and, or_true, true_or, or_false, false_or, if_true, if_false, not_true_eq_false, not_false_eq_true, eq_self, reduceIte, Int.reduceEq, Int.reduceLT, Int.reduceLE, Int.reduceNeg, Int.reduceAdd, Int.reduceSub, Int.reduceMul, Int.add_sub_cancel]); (try simp (disch := omega) only [w32_e, w64_e, Int.add_sub_cancel]); first | assumption | omega)) ?_; conv => whnf)
  all_goals refine ⟨0, ?_, ?_⟩
  all_goals ((try simp (disch := decide) only [cmp3_lt, cmp3_ge, cmp3_gt, cmp3_le, cmp3_eq, ms_q, ms_f, and_self, and_true, true_and, and_false, false_and, or_true, true_or, or_false, false_or, if_true, if_false, not_true_eq_false, not_false_eq_true, eq_self, reduceIte, Int.reduceEq, Int.reduceLT, Int.reduceLE, Int.reduceNeg, Int.reduceAdd, Int.reduceSub, Int.reduceMul, Int.add_sub_cancel] at *); (try simp (disch := omega) only [w32_e, w64_e, Int.add_sub_cancel] at *))
  all_goals first
    | exact Inv.next hc hI0
    | exact congrArg (fun z => some (vI z)) (by omega)
    | exact congrArg (fun z => some (vL z)) (by omega)
    | (exfalso; omega)
    | skip
  all_goals refine ⟨by omega, ?_, ?_, ?_, ?_, ?_, ?_, ?_, ?_, ?_, ?_, ?_, ?_⟩
  all_goals first
    | (have q := hN; simp (disch := decide) only [INet, ms_q, ms_f] at q ⊢; exact q)
    | (have q := hS; simp (disch := decide) only [IStp, ms_q, ms_f] at q ⊢; exact q)
    | (have q := hR; simp (disch := decide) only [IRou, ms_q, ms_f] at q ⊢; exact q)
    | (have q := hG; simp (disch := decide) only [IGui, ms_q, ms_f] at q ⊢; exact q)
    | (have q := hW.next; simp (disch := decide) only [INow, ms_q, ms_f] at q ⊢; exact q)
    | (have q := hJ.next; simp (disch := decide) only [IImg, ms_q, ms_f] at q ⊢; exact q)
    | (have q := hT; simp (disch := decide) only [ITap, ms_q, ms_f] at q ⊢; exact q)
    | (have q := hA; simp (disch := decide) only [ISta, ms_q, ms_f] at q ⊢; exact q)
    | (have q := hP; simp (disch := decide) only [IPpl, ms_q, ms_f] at q ⊢; exact q)
    | (have q := hO; simp (disch := decide) only [IRop, ms_q, ms_f] at q ⊢; exact q)
    | (have q := hH; simp (disch := decide) only [IHrs, ms_q, ms_f] at q ⊢; exact q)
    | skip
  all_goals
    simp (disch := decide) only [ISky, ms_q, ms_f, and_self, and_true, true_and, and_false, false_and, or_true, true_or, or_false, false_or, if_true, if_false, not_true_eq_false, not_false_eq_true, eq_self, reduceIte, Int.reduceEq, Int.reduceLT, Int.reduceLE, Int.reduceNeg, Int.reduceAdd, Int.reduceSub, Int.reduceMul, Int.add_sub_cancel]
    intro j j0 j1
    have q := hK j j0 j1
    refine ⟨q.1, q.2.1, q.2.2.1, fun x x0 x1 => ?_⟩
    have z := q.2.2.2 x x0 x1
    by_cases e : j = k ∧ x = i
    · have e' : 24 * j + x = 24 * k + i := by omega
      simp only [if_pos e, if_pos e', and_self, and_true, true_and, and_false, false_and, or_true, true_or, or_false, false_or, if_true, if_false, not_true_eq_false, not_false_eq_true, eq_self, reduceIte, Int.reduceEq, Int.reduceLT, Int.reduceLE, Int.reduceNeg, Int.reduceAdd, Int.reduceSub, Int.reduceMul, Int.add_sub_cancel]
      obtain ⟨rfl, rfl⟩ := e
      try rw [w32_td hv (show (0 : Int) < 100 by decide)]
      refine ⟨fun y => ?_, fun y => ?_⟩ <;> first | trivial | omega
    · have e' : ¬ 24 * j + x = 24 * k + i := by omega
      simp only [if_neg e, if_neg e', and_self, and_true, true_and, and_false, false_and, or_true, true_or, or_false, false_or, if_true, if_false, not_true_eq_false, not_false_eq_true, eq_self, reduceIte, Int.reduceEq, Int.reduceLT, Int.reduceLE, Int.reduceNeg, Int.reduceAdd, Int.reduceSub, Int.reduceMul, Int.add_sub_cancel]
      exact z
