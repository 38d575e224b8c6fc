/-! ===== pairs by template (wip/gen/p2.py) ===== -/
theorem pair_wish {l : Launch} {ω : WP} {c : Int} {M : Mem} {a : Int} {b : Int} {v : Int} (ha : in32 a) (hb : in32 b) (hv : in32 v)  (hc : c < 512) (hI : Inv c M) : Vd l ω 9 139 [vR 0 0, vI a, vI b, vI v] M (PQ1 l ω c 230 [vI a, vI b, vI v]) := by
  have hI0 := hI
  obtain ⟨h0, hN, hS, hR, hK, hG, hW, hJ, hT, hA, hP, hO, hH⟩ := hI
  obtain ⟨p1, p2, p3, p4, p5⟩ := id hP
  refine Vd_wp (GOK_none (l := l) (ω := ω)) (n := 400) (cut := fun _ => none) (by decide) CutOK_none ?_
  conv => whnf
  repeat' first
    | (intro h; exact absurd rfl h)
    | (intro h; exact absurd h (by decide))
    | (refine And.intro ?_ ?_)
    | (intro _)
    | (show wpG _ _ _ _ _ _ _ _ _ _ _ _ _ _ _ _ _ _; conv => whnf)
    | omega
    | (simp (disch := decide) only [w32, cmp3_lt, cmp3_ge, cmp3_gt, cmp3_le, cmp3_eq, ms_q, ms_f, and_self, and_true, true_and, and_false, false_and, if_true, if_false] at *; omega)
  all_goals refine ⟨0, _, rfl, ?_⟩
  all_goals refine Vd_wp (GOK_none (l := l) (ω := ω)) (n := 400) (cut := fun _ => none) (by decide) CutOK_none ?_
  all_goals conv => whnf
  all_goals repeat' first
    | (intro h; exact absurd rfl h)
    | (intro h; exact absurd h (by decide))
    | (refine And.intro ?_ ?_)
    | (intro _)
    | (show wpG _ _ _ _ _ _ _ _ _ _ _ _ _ _ _ _ _ _; conv => whnf)
    | omega
    | (simp (disch := decide) only [w32, cmp3_lt, cmp3_ge, cmp3_gt, cmp3_le, cmp3_eq, ms_q, ms_f, and_self, and_true, true_and, and_false, false_and, if_true, if_false] at *; omega)
  all_goals try simp (disch := decide) only [cmp3_lt, cmp3_ge, cmp3_gt, cmp3_le, cmp3_eq, ms_q, ms_f, and_self, and_true, true_and, and_false, false_and, if_true, if_false, w32] at *
  all_goals first
    | omega
    | exact ⟨0, Inv.next hc hI0⟩
    | exact ⟨0, rfl, Inv.next hc hI0⟩
    | (refine ⟨0, ?_, Inv.next hc hI0⟩; refine congrArg (fun z => some (vI z)) ?_; omega)
    | skip
  all_goals trace_state
  all_goals sorry

theorem pair_rope {l : Launch} {ω : WP} {c : Int} {M : Mem} {r : Int} {s : Int} {q : Int} {n : Int} (hr : in32 r) (hs : in32 s) (hq : in32 q) (hn : in32 n)  (hc : c < 512) (hI : Inv c M) : Vd l ω 9 141 [vR 0 0, vI r, vI s, vI q, vI n] M (PQ1 l ω c 235 [vI r, vI s, vI q, vI n]) := by
  have hI0 := hI
  obtain ⟨h0, hN, hS, hR, hK, hG, hW, hJ, hT, hA, hP, hO, hH⟩ := hI
  obtain ⟨o1, o2, o3⟩ := id hO
  obtain ⟨r1, r2, r3, r4, r5⟩ := id hR
  refine Vd_wp (GOK_none (l := l) (ω := ω)) (n := 400) (cut := fun _ => none) (by decide) CutOK_none ?_
  conv => whnf
  repeat' first
    | (intro h; exact absurd rfl h)
    | (intro h; exact absurd h (by decide))
    | (refine And.intro ?_ ?_)
    | (intro _)
    | (show wpG _ _ _ _ _ _ _ _ _ _ _ _ _ _ _ _ _ _; conv => whnf)
    | omega
    | (simp (disch := decide) only [w32, cmp3_lt, cmp3_ge, cmp3_gt, cmp3_le, cmp3_eq, ms_q, ms_f, and_self, and_true, true_and, and_false, false_and, if_true, if_false] at *; omega)
  all_goals refine ⟨0, _, rfl, ?_⟩
  all_goals refine Vd_wp (GOK_none (l := l) (ω := ω)) (n := 400) (cut := fun _ => none) (by decide) CutOK_none ?_
  all_goals conv => whnf
  all_goals repeat' first
    | (intro h; exact absurd rfl h)
    | (intro h; exact absurd h (by decide))
    | (refine And.intro ?_ ?_)
    | (intro _)
    | (show wpG _ _ _ _ _ _ _ _ _ _ _ _ _ _ _ _ _ _; conv => whnf)
    | omega
    | (simp (disch := decide) only [w32, cmp3_lt, cmp3_ge, cmp3_gt, cmp3_le, cmp3_eq, ms_q, ms_f, and_self, and_true, true_and, and_false, false_and, if_true, if_false] at *; omega)
  all_goals try simp (disch := decide) only [cmp3_lt, cmp3_ge, cmp3_gt, cmp3_le, cmp3_eq, ms_q, ms_f, and_self, and_true, true_and, and_false, false_and, if_true, if_false, w32] at *
  all_goals first
    | omega
    | exact ⟨0, Inv.next hc hI0⟩
    | exact ⟨0, rfl, Inv.next hc hI0⟩
    | (refine ⟨0, ?_, Inv.next hc hI0⟩; refine congrArg (fun z => some (vI z)) ?_; omega)
    | skip
  all_goals trace_state
  all_goals sorry

theorem pair_entry {l : Launch} {ω : WP} {c : Int} {M : Mem} {r : Int} {g : Int} {q : Int} (hr : in32 r) (hg : in32 g) (hq : in32 q)  (hc : c < 512) (hI : Inv c M) : Vd l ω 9 149 [vR 0 0, vI r, vI g, vI q] M (PQ1 l ω c 249 [vI r, vI g, vI q]) := by
  have hI0 := hI
  obtain ⟨h0, hN, hS, hR, hK, hG, hW, hJ, hT, hA, hP, hO, hH⟩ := hI
  obtain ⟨o1, o2, o3⟩ := id hH
  obtain ⟨r1, r2, r3, r4, r5⟩ := id hR
  obtain ⟨g1, g2, g3, g4⟩ := id hG
  refine Vd_wp (GOK_none (l := l) (ω := ω)) (n := 400) (cut := fun _ => none) (by decide) CutOK_none ?_
  conv => whnf
  repeat' first
    | (intro h; exact absurd rfl h)
    | (intro h; exact absurd h (by decide))
    | (refine And.intro ?_ ?_)
    | (intro _)
    | (show wpG _ _ _ _ _ _ _ _ _ _ _ _ _ _ _ _ _ _; conv => whnf)
    | omega
    | (simp (disch := decide) only [w32, cmp3_lt, cmp3_ge, cmp3_gt, cmp3_le, cmp3_eq, ms_q, ms_f, and_self, and_true, true_and, and_false, false_and, if_true, if_false] at *; omega)
  all_goals refine ⟨0, _, rfl, ?_⟩
  all_goals refine Vd_wp (GOK_none (l := l) (ω := ω)) (n := 400) (cut := fun _ => none) (by decide) CutOK_none ?_
  all_goals conv => whnf
  all_goals repeat' first
    | (intro h; exact absurd rfl h)
    | (intro h; exact absurd h (by decide))
    | (refine And.intro ?_ ?_)
    | (intro _)
    | (show wpG _ _ _ _ _ _ _ _ _ _ _ _ _ _ _ _ _ _; conv => whnf)
    | omega
    | (simp (disch := decide) only [w32, cmp3_lt, cmp3_ge, cmp3_gt, cmp3_le, cmp3_eq, ms_q, ms_f, and_self, and_true, true_and, and_false, false_and, if_true, if_false] at *; omega)
  all_goals try simp (disch := decide) only [cmp3_lt, cmp3_ge, cmp3_gt, cmp3_le, cmp3_eq, ms_q, ms_f, and_self, and_true, true_and, and_false, false_and, if_true, if_false, w32] at *
  all_goals first
    | omega
    | exact ⟨0, Inv.next hc hI0⟩
    | exact ⟨0, rfl, Inv.next hc hI0⟩
    | (refine ⟨0, ?_, Inv.next hc hI0⟩; refine congrArg (fun z => some (vI z)) ?_; omega)
    | skip
  all_goals trace_state
  all_goals sorry

theorem pair_route {l : Launch} {ω : WP} {c : Int} {M : Mem} {k : Int} (hk : in32 k)  (hc : c < 512) (hI : Inv c M) : Vd l ω 9 111 [vR 0 0, vI k] M (PQ1 l ω c 167 [vI k]) := by
  have hI0 := hI
  obtain ⟨h0, hN, hS, hR, hK, hG, hW, hJ, hT, hA, hP, hO, hH⟩ := hI
  obtain ⟨s1, s2, s3, s4⟩ := id hS
  obtain ⟨r1, r2, r3, r4, r5⟩ := id hR
  refine Vd_wp (GOK_none (l := l) (ω := ω)) (n := 400) (cut := fun _ => none) (by decide) CutOK_none ?_
  conv => whnf
  repeat' first
    | (intro h; exact absurd rfl h)
    | (intro h; exact absurd h (by decide))
    | (refine And.intro ?_ ?_)
    | (intro _)
    | (show wpG _ _ _ _ _ _ _ _ _ _ _ _ _ _ _ _ _ _; conv => whnf)
    | omega
    | (simp (disch := decide) only [w32, cmp3_lt, cmp3_ge, cmp3_gt, cmp3_le, cmp3_eq, ms_q, ms_f, and_self, and_true, true_and, and_false, false_and, if_true, if_false] at *; omega)
  all_goals refine ⟨0, _, rfl, ?_⟩
  all_goals refine Vd_wp (GOK_none (l := l) (ω := ω)) (n := 400) (cut := fun _ => none) (by decide) CutOK_none ?_
  all_goals conv => whnf
  all_goals repeat' first
    | (intro h; exact absurd rfl h)
    | (intro h; exact absurd h (by decide))
    | (refine And.intro ?_ ?_)
    | (intro _)
    | (show wpG _ _ _ _ _ _ _ _ _ _ _ _ _ _ _ _ _ _; conv => whnf)
    | omega
    | (simp (disch := decide) only [w32, cmp3_lt, cmp3_ge, cmp3_gt, cmp3_le, cmp3_eq, ms_q, ms_f, and_self, and_true, true_and, and_false, false_and, if_true, if_false] at *; omega)
  all_goals try simp (disch := decide) only [cmp3_lt, cmp3_ge, cmp3_gt, cmp3_le, cmp3_eq, ms_q, ms_f, and_self, and_true, true_and, and_false, false_and, if_true, if_false, w32] at *
  all_goals first
    | omega
    | exact ⟨0, Inv.next hc hI0⟩
    | exact ⟨0, rfl, Inv.next hc hI0⟩
    | (refine ⟨0, ?_, Inv.next hc hI0⟩; refine congrArg (fun z => some (vI z)) ?_; omega)
    | skip
  all_goals trace_state
  all_goals sorry

theorem pair_tear {l : Launch} {ω : WP} {c : Int} {M : Mem} {k : Int} (hk : in32 k)  (hc : c < 512) (hI : Inv c M) : Vd l ω 9 116 [vR 0 0, vI k] M (PQ1 l ω c 177 [vI k]) := by
  have hI0 := hI
  obtain ⟨h0, hN, hS, hR, hK, hG, hW, hJ, hT, hA, hP, hO, hH⟩ := hI
  have k1 := hK k
  refine Vd_wp (GOK_none (l := l) (ω := ω)) (n := 400) (cut := fun _ => none) (by decide) CutOK_none ?_
  conv => whnf
  repeat' first
    | (intro h; exact absurd rfl h)
    | (intro h; exact absurd h (by decide))
    | (refine And.intro ?_ ?_)
    | (intro _)
    | (show wpG _ _ _ _ _ _ _ _ _ _ _ _ _ _ _ _ _ _; conv => whnf)
    | omega
    | (simp (disch := decide) only [w32, cmp3_lt, cmp3_ge, cmp3_gt, cmp3_le, cmp3_eq, ms_q, ms_f, and_self, and_true, true_and, and_false, false_and, if_true, if_false] at *; omega)
  all_goals refine ⟨0, _, rfl, ?_⟩
  all_goals refine Vd_wp (GOK_none (l := l) (ω := ω)) (n := 400) (cut := fun _ => none) (by decide) CutOK_none ?_
  all_goals conv => whnf
  all_goals repeat' first
    | (intro h; exact absurd rfl h)
    | (intro h; exact absurd h (by decide))
    | (refine And.intro ?_ ?_)
    | (intro _)
    | (show wpG _ _ _ _ _ _ _ _ _ _ _ _ _ _ _ _ _ _; conv => whnf)
    | omega
    | (simp (disch := decide) only [w32, cmp3_lt, cmp3_ge, cmp3_gt, cmp3_le, cmp3_eq, ms_q, ms_f, and_self, and_true, true_and, and_false, false_and, if_true, if_false] at *; omega)
  all_goals try simp (disch := decide) only [cmp3_lt, cmp3_ge, cmp3_gt, cmp3_le, cmp3_eq, ms_q, ms_f, and_self, and_true, true_and, and_false, false_and, if_true, if_false, w32] at *
  all_goals first
    | omega
    | exact ⟨0, Inv.next hc hI0⟩
    | exact ⟨0, rfl, Inv.next hc hI0⟩
    | (refine ⟨0, ?_, Inv.next hc hI0⟩; refine congrArg (fun z => some (vI z)) ?_; omega)
    | skip
  all_goals trace_state
  all_goals sorry
