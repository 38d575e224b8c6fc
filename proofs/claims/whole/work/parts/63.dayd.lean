/-! ===== the day, by the class: waits, letGo, stepDay (wip/gen/p28.py) ===== -/
theorem Rep.scr {M v : Mem} (h : ∀ p, p ≠ 48 → p ≠ 49 → v p = M p) : Rep M (dOf M) v := by
  refine ⟨?_, fun p _ _ c d _ _ _ _ _ => h p c d, fun x f _ => by rw [h 10 (by decide) (by decide)], fun x f _ _ => by rw [h 11 (by decide) (by decide)]⟩
  unfold dOf
  rw [h 11 (by decide) (by decide), h 56 (by decide) (by decide), h 57 (by decide) (by decide), h 58 (by decide) (by decide), h 59 (by decide) (by decide), h 10 (by decide) (by decide), h 60 (by decide) (by decide)]
theorem wa_0 {X : DX} {D : DD} {r q : Int} (h : X.si (X.rt r) ≤ D.rp r 7) : waD X r q D = (0, finD X r q D) := if_pos h
theorem wa_1 {X : DX} {D : DD} {r q : Int} (h : ¬ X.si (X.rt r) ≤ D.rp r 7) (h2 : X.tm (X.ro (X.rt r) (D.rp r 7)) (X.rs r) q = -5 ∨ ¬ X.bk (X.rt r) q (X.pe r) = -4) : waD X r q D = (0, finD X r q (mkD (up2 D.rp r 9 1) D.ta D.ly D.ar D.qu D.qn D.sn)) := (if_neg h).trans (if_pos h2)
theorem wa_2 {X : DX} {D : DD} {r q : Int} (h : ¬ X.si (X.rt r) ≤ D.rp r 7) (h2 : ¬ (X.tm (X.ro (X.rt r) (D.rp r 7)) (X.rs r) q = -5 ∨ ¬ X.bk (X.rt r) q (X.pe r) = -4)) (h3 : ¬ X.nw (X.ro (X.rt r) (D.rp r 7)) = 0 ∧ brN D (X.ro (X.rt r) (D.rp r 7)) X.n = 1) : waD X r q D = (1, (mkD (up2 D.rp r 10 (w32 (D.rp r 10 + 1))) D.ta D.ly D.ar D.qu D.qn D.sn)) := (if_neg h).trans ((if_neg h2).trans (if_pos h3))
theorem wa_3 {X : DX} {D : DD} {r q : Int} (h : ¬ X.si (X.rt r) ≤ D.rp r 7) (h2 : ¬ (X.tm (X.ro (X.rt r) (D.rp r 7)) (X.rs r) q = -5 ∨ ¬ X.bk (X.rt r) q (X.pe r) = -4)) (h3 : ¬ (¬ X.nw (X.ro (X.rt r) (D.rp r 7)) = 0 ∧ brN D (X.ro (X.rt r) (D.rp r 7)) X.n = 1)) : waD X r q D = (0, (mkD (up2 (up2 D.rp r 4 (X.ro (X.rt r) (D.rp r 7))) r 5 (w32 (q + X.tm (X.ro (X.rt r) (D.rp r 7)) (X.rs r) q))) D.ta D.ly D.ar D.qu D.qn D.sn)) := (if_neg h).trans ((if_neg h2).trans (if_neg h3))
theorem wa_facts {M : Mem} (H : DayH M) (ok : dOK (dx M) (dOf M)) {r : Int} (r0 : 0 ≤ r) (r1 : r < M 10 0 3) : (0 ≤ M 11 r 0 ∧ M 11 r 0 < M 1 0 9 ∧ M 1 0 9 ≤ 6) ∧ (0 ≤ M 11 r 1 ∧ M 11 r 1 ≤ 9) ∧ (1 ≤ M 11 r 3 ∧ M 11 r 3 ≤ 9) ∧ (1 ≤ M 21 0 (M 11 r 0) ∧ M 21 0 (M 11 r 0) ≤ 6) ∧ (0 ≤ M 11 r 7 ∧ M 11 r 7 ≤ M 21 0 (M 11 r 0)) ∧ (M 11 r 7 < M 21 0 (M 11 r 0) → 0 ≤ M 23 (M 11 r 0) (M 11 r 7) ∧ M 23 (M 11 r 0) (M 11 r 7) < M 1 0 2 ∧ M 1 0 2 ≤ 20) := by
  obtain ⟨hN, hS, hR, hK, hA, hO, hd⟩ := H
  obtain ⟨-, p1, p2, p3, p4⟩ := hO.2.2 r r0 r1
  have q1 := hR.2.2.2.1
  obtain ⟨s1, s2⟩ := hR.2.2.2.2 _ p1.1 p1.2
  have y1 := (ok.2.2 r r0 r1).1
  have t2 := hS.2.2.1
  have y1' : 0 ≤ M 11 r 7 ∧ M 11 r 7 ≤ M 21 0 (M 11 r 0) := y1
  refine ⟨⟨p1.1, p1.2, by omega⟩, p2, p4, s1, y1', fun z => ?_⟩
  have := s2 (M 11 r 7) y1'.1 z
  exact ⟨this.1, this.2, t2.2⟩

def GLt : List (Nat × Nat × Spec1) := (34, 2, sp_lcC) :: (40, 1, sp_lkC) :: GLs
abbrev GGt : Env1 := fun n => getG n GLt
theorem GGt_all {l : Launch} {ω : WP} : ∀ e ∈ GLt, ∀ as M Q, e.2.2 as M Q → Vd l ω e.2.1 e.1 as M Q := List.forall_mem_cons.mpr ⟨ok_lcC, List.forall_mem_cons.mpr ⟨ok_lkC, GGs_all⟩⟩
theorem GGt_ok {l : Launch} {ω : WP} : GOK l ω GGt := getG_ok GLt GGt_all

def sp_waC : Spec1 := fun as M Q => match as with
  | [.inr (.inr (.inl (q0, i0))), .inr (.inr (.inl (q1, r))), .inl q] => match Nat.beq q0 10 with
    | true => (i0 = 0 ∧ q1 = 11 ∧ (0 ≤ r ∧ r < M 10 0 3) ∧ (0 ≤ q ∧ q ≤ 95) ∧ DayH M ∧ dOK (dx M) (dOf M) ∧ (0 ≤ M 11 r 6 ∧ M 11 r 6 < 12)) ∧ ∀ M9, Rep M (waD (dx M) r q (dOf M)).2 M9 → Q (some (vI (waD (dx M) r q (dOf M)).1)) M9
    | false => False
  | _ => False
theorem ok_waC {l : Launch} {ω : WP} : ∀ as M Q, sp_waC as M Q → Vd l ω 6 37 as M Q := by
  intro as M Q h
  unfold sp_waC at h
  split at h
  case h_2 => exact h.elim
  rename_i q0 i0 q1 r q
  cases hb : Nat.beq q0 10 with
  | false => rw [hb] at h; exact h.elim
  | true =>
  rw [hb] at h
  obtain ⟨⟨hi, hq1, h1, h2, hH, hD, h6⟩, hQ⟩ := h
  have hb := beq_eq hb
  subst hb
  subst hi
  refine Vd.ok fun hok hal => ?_
  subst hq1
  have hX := hH.x
  have n8 : 0 ≤ M 10 0 3 ∧ M 10 0 3 ≤ 8 := hX.1
  obtain ⟨k1, k2, k3, k4, k5, k6⟩ := wa_facts hH hD h1.1 h1.2
  obtain ⟨hN, hS, hR, hK, hA, hO, hd⟩ := id hH
  refine Vd_run (GGt_ok (l := l) (ω := ω)) 600 (cut := fun _ => none) (by decide) CutOK_none ?_
  conv => whnf
  repeat' first
    | (refine And.intro (fun h => ?_) (fun h => ?_) <;> (try simp (disch := decide) only [cmp3_lt, cmp3_ge, cmp3_gt, cmp3_le, cmp3_eq, ms_q, ms_f, mf_q, mf_f, mc_q, mc_f, and_self, and_true, true_and, and_false, false_and, or_true, true_or, or_false, false_or, if_true, if_false, not_true_eq_false, not_false_eq_true, eq_self, reduceIte, Int.reduceEq, Int.reduceLT, Int.reduceLE, Int.reduceNeg, Int.reduceAdd, Int.reduceSub, Int.reduceMul, Int.add_sub_cancel] at h) <;> (try simp (disch := omega) only [w32_e, w64_e, td_pos, tm_pos, Int.add_sub_cancel] at h) <;> first | exact absurd rfl h | exact absurd h (by decide) | (exfalso; omega) | (conv => whnf))
    | (refine And.intro (by first | omega | ((try simp (disch := decide) only [cmp3_lt, cmp3_ge, cmp3_gt, cmp3_le, cmp3_eq, ms_q, ms_f, mf_q, mf_f, mc_q, mc_f, and_self, and_true, true_and, and_false, false_and, or_true, true_or, or_false, false_or, if_true, if_false, not_true_eq_false, not_false_eq_true, eq_self, reduceIte, Int.reduceEq, Int.reduceLT, Int.reduceLE, Int.reduceNeg, Int.reduceAdd, Int.reduceSub, Int.reduceMul, Int.add_sub_cancel]); (try simp (disch := omega) only [w32_e, w64_e, td_pos, tm_pos, Int.add_sub_cancel]); first | assumption | omega) | ((try simp (disch := decide) only [cmp3_lt, cmp3_ge, cmp3_gt, cmp3_le, cmp3_eq, ms_q, ms_f, mf_q, mf_f, mc_q, mc_f, and_self, and_true, true_and, and_false, false_and, or_true, true_or, or_false, false_or, if_true, if_false, not_true_eq_false, not_false_eq_true, eq_self, reduceIte, Int.reduceEq, Int.reduceLT, Int.reduceLE, Int.reduceNeg, Int.reduceAdd, Int.reduceSub, Int.reduceMul, Int.add_sub_cancel]); (try simp (disch := omega) only [w32_e, w64_e, td_pos, tm_pos, Int.add_sub_cancel]); ((repeat' (first | assumption | omega | with_reducible rfl | apply And.intro)); done))) ?_; conv => whnf)
  rotate_left
  · intro v hv
    conv => whnf
    rw [wa_0 (show (dx M).si ((dx M).rt r) ≤ (dOf M).rp r 7 from (by omega : M 21 0 (M 11 r 0) ≤ M 11 r 7))] at hQ
    exact ⟨Or.inl rfl, hQ v hv⟩
  intro v1 h1v
  have f1 := h1v.1
  have a1 : ISta v1 := by simp (disch := decide) only [ISta, f1]; exact hA
  have o1 : okV (v1 48 0) := okV_congr h1v.2 (vrs_ok hS hR k1.1 k1.2.1 h2 k3 hd.1)
  have w1v := sta_v (f1 45 (by decide)) (f1 47 (by decide)) h1v.2
  have eb : fhN (v1 46 0) (wkL v1 (v1 48 0)) 3 (v1 8 0 6 - 0).toNat 0 = bkA M (M 11 r 0) q (M 11 r 3) := by
    unfold bkA
    rw [w1v, f1 46 (by decide), f1 8 (by decide)]
  have e11 : v1 11 = M 11 := f1 11 (by decide)
  have kr : 0 ≤ M 23 (M 11 r 0) (M 11 r 7) ∧ M 23 (M 11 r 0) (M 11 r 7) < 20 := by
    have := k6 (by omega)
    omega
  have rp1 : Rep M (dOf M) v1 := Rep.scr (fun p a _ => f1 p a)
  have r9 := rp1.rp (i := r) (f := 9) (v := 1) (by decide)
  conv => whnf
  repeat' first
    | (refine And.intro (fun h => ?_) (fun h => ?_) <;> (try simp (disch := decide) only [cmp3_lt, cmp3_ge, cmp3_gt, cmp3_le, cmp3_eq, ms_q, ms_f, mf_q, mf_f, mc_q, mc_f, and_self, and_true, true_and, and_false, false_and, or_true, true_or, or_false, false_or, if_true, if_false, not_true_eq_false, not_false_eq_true, eq_self, reduceIte, Int.reduceEq, Int.reduceLT, Int.reduceLE, Int.reduceNeg, Int.reduceAdd, Int.reduceSub, Int.reduceMul, Int.add_sub_cancel] at h) <;> (try simp (disch := omega) only [w32_e, w64_e, td_pos, tm_pos, Int.add_sub_cancel, e11] at h) <;> first | exact absurd rfl h | exact absurd h (by decide) | (exfalso; omega) | (conv => whnf))
    | (refine And.intro (by first | omega | ((try simp (disch := decide) only [cmp3_lt, cmp3_ge, cmp3_gt, cmp3_le, cmp3_eq, ms_q, ms_f, mf_q, mf_f, mc_q, mc_f, and_self, and_true, true_and, and_false, false_and, or_true, true_or, or_false, false_or, if_true, if_false, not_true_eq_false, not_false_eq_true, eq_self, reduceIte, Int.reduceEq, Int.reduceLT, Int.reduceLE, Int.reduceNeg, Int.reduceAdd, Int.reduceSub, Int.reduceMul, Int.add_sub_cancel]); (try simp (disch := omega) only [w32_e, w64_e, td_pos, tm_pos, Int.add_sub_cancel, e11]); first | assumption | omega) | exact ⟨rfl, a1, o1, a1.1⟩ | ((try simp (disch := decide) only [cmp3_lt, cmp3_ge, cmp3_gt, cmp3_le, cmp3_eq, ms_q, ms_f, mf_q, mf_f, mc_q, mc_f, and_self, and_true, true_and, and_false, false_and, or_true, true_or, or_false, false_or, if_true, if_false, not_true_eq_false, not_false_eq_true, eq_self, reduceIte, Int.reduceEq, Int.reduceLT, Int.reduceLE, Int.reduceNeg, Int.reduceAdd, Int.reduceSub, Int.reduceMul, Int.add_sub_cancel]); (try simp (disch := omega) only [w32_e, w64_e, td_pos, tm_pos, Int.add_sub_cancel, e11]); ((repeat' (first | assumption | omega | with_reducible rfl | apply And.intro)); done))) ?_; conv => whnf)
  · intro v hv
    conv => whnf
    rw [wa_1 (show ¬ (dx M).si ((dx M).rt r) ≤ (dOf M).rp r 7 from (by omega : ¬ M 21 0 (M 11 r 0) ≤ M 11 r 7)) (Or.inl (by assumption))] at hQ
    have fin := Rep.trans r9 hv
    rw [dx_rep r9, r9.1] at fin
    exact ⟨Or.inl rfl, hQ v fin⟩
  intro v2 h2v
  have f2 : ∀ p, p ≠ 48 → p ≠ 49 → v2 p = M p := fun p a b => (h2v p b).trans (f1 p a)
  have e11b : v2 11 = M 11 := f2 11 (by decide) (by decide)
  have e10b : v2 10 = M 10 := f2 10 (by decide) (by decide)
  have rp2 : Rep M (dOf M) v2 := Rep.scr f2
  have r9 := rp2.rp (i := r) (f := 9) (v := 1) (by decide)
  have r10 := rp2.rp (i := r) (f := 10) (v := w32 (M 11 r 10 + 1)) (by decide)
  have r45 := (rp2.rp (i := r) (f := 4) (v := M 23 (M 11 r 0) (M 11 r 7)) (by decide)).rp (i := r) (f := 5) (v := w32 (q + tk M (M 23 (M 11 r 0) (M 11 r 7)) (M 11 r 1) q)) (by decide)
  have e20 : v2 20 = M 20 := f2 20 (by decide) (by decide)
  conv => whnf
  repeat' first
    | (refine And.intro (fun h => ?_) (fun h => ?_) <;> (try simp (disch := decide) only [cmp3_lt, cmp3_ge, cmp3_gt, cmp3_le, cmp3_eq, ms_q, ms_f, mf_q, mf_f, mc_q, mc_f, and_self, and_true, true_and, and_false, false_and, or_true, true_or, or_false, false_or, if_true, if_false, not_true_eq_false, not_false_eq_true, eq_self, reduceIte, Int.reduceEq, Int.reduceLT, Int.reduceLE, Int.reduceNeg, Int.reduceAdd, Int.reduceSub, Int.reduceMul, Int.add_sub_cancel] at h) <;> (try simp (disch := omega) only [w32_e, w64_e, td_pos, tm_pos, Int.add_sub_cancel, e11b, e10b, e20, eb] at h) <;> first | exact absurd rfl h | exact absurd h (by decide) | (exfalso; omega) | (conv => whnf))
    | (refine And.intro (by first | omega | ((try simp (disch := decide) only [cmp3_lt, cmp3_ge, cmp3_gt, cmp3_le, cmp3_eq, ms_q, ms_f, mf_q, mf_f, mc_q, mc_f, and_self, and_true, true_and, and_false, false_and, or_true, true_or, or_false, false_or, if_true, if_false, not_true_eq_false, not_false_eq_true, eq_self, reduceIte, Int.reduceEq, Int.reduceLT, Int.reduceLE, Int.reduceNeg, Int.reduceAdd, Int.reduceSub, Int.reduceMul, Int.add_sub_cancel]); (try simp (disch := omega) only [w32_e, w64_e, td_pos, tm_pos, Int.add_sub_cancel, e11b, e10b, e20, eb]); first | assumption | omega) | ((try simp (disch := decide) only [cmp3_lt, cmp3_ge, cmp3_gt, cmp3_le, cmp3_eq, ms_q, ms_f, mf_q, mf_f, mc_q, mc_f, and_self, and_true, true_and, and_false, false_and, or_true, true_or, or_false, false_or, if_true, if_false, not_true_eq_false, not_false_eq_true, eq_self, reduceIte, Int.reduceEq, Int.reduceLT, Int.reduceLE, Int.reduceNeg, Int.reduceAdd, Int.reduceSub, Int.reduceMul, Int.add_sub_cancel]); (try simp (disch := omega) only [w32_e, w64_e, td_pos, tm_pos, Int.add_sub_cancel, e11b, e10b, e20]); ((repeat' (first | assumption | omega | with_reducible rfl | apply And.intro)); done))) ?_; conv => whnf)
    | (intro v; intro hv; conv => whnf)
  all_goals first
    | (have fin := Rep.trans r9 hv
       rw [dx_rep r9, r9.1] at fin
       rw [wa_1 (show ¬ (dx M).si ((dx M).rt r) ≤ (dOf M).rp r 7 from (by omega : ¬ M 21 0 (M 11 r 0) ≤ M 11 r 7)) (Or.inr (by assumption))] at hQ
       exact hQ v fin)
    | (have n2 : ¬ ((dx M).tm ((dx M).ro ((dx M).rt r) ((dOf M).rp r 7)) ((dx M).rs r) q = -5 ∨ ¬ (dx M).bk ((dx M).rt r) q ((dx M).pe r) = -4) := fun z => z.elim (fun y => by first | exact absurd y (by assumption) | (have y' : tk M (M 23 (M 11 r 0) (M 11 r 7)) (M 11 r 1) q = -5 := y; omega)) (fun y => y (by assumption))
       first
         | (have n3 : ¬ (¬ (dx M).nw ((dx M).ro ((dx M).rt r) ((dOf M).rp r 7)) = 0 ∧ brN (dOf M) ((dx M).ro ((dx M).rt r) ((dOf M).rp r 7)) (dx M).n = 1) := fun z => z.1 (by assumption)
            rw [wa_3 (show ¬ (dx M).si ((dx M).rt r) ≤ (dOf M).rp r 7 from (by omega : ¬ M 21 0 (M 11 r 0) ≤ M 11 r 7)) n2 n3] at hQ
            exact hQ _ r45)
         | (rw [rp2.1] at h
            have n3 : ¬ (¬ (dx M).nw ((dx M).ro ((dx M).rt r) ((dOf M).rp r 7)) = 0 ∧ brN (dOf M) ((dx M).ro ((dx M).rt r) ((dOf M).rp r 7)) (dx M).n = 1) := fun z => by
              have z2 : brN (dOf M) (M 23 (M 11 r 0) (M 11 r 7)) (M 10 0 3) = 1 := z.2
              omega
            rw [wa_3 (show ¬ (dx M).si ((dx M).rt r) ≤ (dOf M).rp r 7 from (by omega : ¬ M 21 0 (M 11 r 0) ≤ M 11 r 7)) n2 n3] at hQ
            exact hQ _ r45)
         | (rw [rp2.1] at h
            have bs := brN_sp (D := dOf M) (k := M 23 (M 11 r 0) (M 11 r 7)) (M 10 0 3).toNat
            rw [Int.toNat_of_nonneg n8.1] at bs
            have b1 : brN (dOf M) (M 23 (M 11 r 0) (M 11 r 7)) (M 10 0 3) = 1 := bs.elim (fun z => z.1) (fun z => absurd z.1 h)
            have n3 : ¬ (dx M).nw ((dx M).ro ((dx M).rt r) ((dOf M).rp r 7)) = 0 ∧ brN (dOf M) ((dx M).ro ((dx M).rt r) ((dOf M).rp r 7)) (dx M).n = 1 := ⟨by assumption, b1⟩
            rw [wa_2 (show ¬ (dx M).si ((dx M).rt r) ≤ (dOf M).rp r 7 from (by omega : ¬ M 21 0 (M 11 r 0) ≤ M 11 r 7)) n2 n3] at hQ
            rw [e11b]
            exact hQ _ r10))

theorem Rep.ta {M M9 : Mem} {D : DD} {j v : Int} (h : Rep M D M9) : Rep M (mkD D.rp (updI D.ta j v) D.ly D.ar D.qu D.qn D.sn) (mset M9 56 0 j v) := by
  obtain ⟨eD, fr, f10, f11⟩ := h
  refine ⟨?_, fun p a b c d e f g h i => by rw [ms_q e]; exact fr p a b c d e f g h i, fun x f hx => by rw [ms_q (by decide)]; exact f10 x f hx, fun x y y0 y1 => by rw [ms_q (by decide)]; exact f11 x y y0 y1⟩
  rw [← eD]
  unfold dOf
  rw [ms_u, up2_v, ms_q (by decide), ms_q (by decide), ms_q (by decide), ms_q (by decide), ms_q (by decide), ms_q (by decide)]
  simp only [mk_rp, mk_ta, mk_ly, mk_ar, mk_qu, mk_qn, mk_sn]
theorem Rep.ly {M M9 : Mem} {D : DD} {j v : Int} (h : Rep M D M9) : Rep M (mkD D.rp D.ta (updI D.ly j v) D.ar D.qu D.qn D.sn) (mset M9 57 0 j v) := by
  obtain ⟨eD, fr, f10, f11⟩ := h
  refine ⟨?_, fun p a b c d e f g h i => by rw [ms_q f]; exact fr p a b c d e f g h i, fun x f hx => by rw [ms_q (by decide)]; exact f10 x f hx, fun x y y0 y1 => by rw [ms_q (by decide)]; exact f11 x y y0 y1⟩
  rw [← eD]
  unfold dOf
  rw [ms_u, up2_v, ms_q (by decide), ms_q (by decide), ms_q (by decide), ms_q (by decide), ms_q (by decide), ms_q (by decide)]
  simp only [mk_rp, mk_ta, mk_ly, mk_ar, mk_qu, mk_qn, mk_sn]
theorem Rep.ar {M M9 : Mem} {D : DD} {j v : Int} (h : Rep M D M9) : Rep M (mkD D.rp D.ta D.ly (updI D.ar j v) D.qu D.qn D.sn) (mset M9 58 0 j v) := by
  obtain ⟨eD, fr, f10, f11⟩ := h
  refine ⟨?_, fun p a b c d e f g h i => by rw [ms_q g]; exact fr p a b c d e f g h i, fun x f hx => by rw [ms_q (by decide)]; exact f10 x f hx, fun x y y0 y1 => by rw [ms_q (by decide)]; exact f11 x y y0 y1⟩
  rw [← eD]
  unfold dOf
  rw [ms_u, up2_v, ms_q (by decide), ms_q (by decide), ms_q (by decide), ms_q (by decide), ms_q (by decide), ms_q (by decide)]
  simp only [mk_rp, mk_ta, mk_ly, mk_ar, mk_qu, mk_qn, mk_sn]
theorem Rep.qu {M M9 : Mem} {D : DD} {j v : Int} (h : Rep M D M9) : Rep M (mkD D.rp D.ta D.ly D.ar (updI D.qu j v) D.qn D.sn) (mset M9 59 0 j v) := by
  obtain ⟨eD, fr, f10, f11⟩ := h
  refine ⟨?_, fun p a b c d e f g h i => by rw [ms_q h]; exact fr p a b c d e f g h i, fun x f hx => by rw [ms_q (by decide)]; exact f10 x f hx, fun x y y0 y1 => by rw [ms_q (by decide)]; exact f11 x y y0 y1⟩
  rw [← eD]
  unfold dOf
  rw [ms_u, up2_v, ms_q (by decide), ms_q (by decide), ms_q (by decide), ms_q (by decide), ms_q (by decide), ms_q (by decide)]
  simp only [mk_rp, mk_ta, mk_ly, mk_ar, mk_qu, mk_qn, mk_sn]
theorem Rep.qn {M M9 : Mem} {D : DD} {v : Int} (h : Rep M D M9) : Rep M (mkD D.rp D.ta D.ly D.ar D.qu v D.sn) (mset M9 10 0 9 v) := by
  obtain ⟨eD, fr, f10, f11⟩ := h
  refine ⟨?_, fun p a b c d e f g h i => by rw [ms_q a]; exact fr p a b c d e f g h i, fun x f hx => by rw [ms_f, if_neg (fun z => hx z.2)]; exact f10 x f hx, fun x y y0 y1 => by rw [ms_q (by decide)]; exact f11 x y y0 y1⟩
  rw [← eD]
  unfold dOf
  rw [ms_f, if_pos ⟨rfl, rfl⟩, ms_q (by decide), ms_q (by decide), ms_q (by decide), ms_q (by decide), ms_q (by decide), ms_q (by decide)]
  simp only [mk_rp, mk_ta, mk_ly, mk_ar, mk_qu, mk_qn, mk_sn]
def GLu : List (Nat × Nat × Spec1) := (37, 6, sp_waC) :: GLt
abbrev GGu : Env1 := fun n => getG n GLu
theorem GGu_all {l : Launch} {ω : WP} : ∀ e ∈ GLu, ∀ as M Q, e.2.2 as M Q → Vd l ω e.2.1 e.1 as M Q := List.forall_mem_cons.mpr ⟨ok_waC, GGt_all⟩
theorem GGu_ok {l : Launch} {ω : WP} : GOK l ω GGu := getG_ok GLu GGu_all

def sp_lgC : Spec1 := fun as M Q => match as with
  | [.inr (.inr (.inl (q0, i0))), .inl q] => match Nat.beq q0 10 with
    | true => (i0 = 0 ∧ DayH M ∧ dOK (dx M) (dOf M) ∧ (0 ≤ q ∧ q ≤ 95)) ∧ ∀ M9, Rep M (lgD (dx M) q (dOf M)) M9 → Q none M9
    | false => False
  | _ => False
theorem ok_lgC {l : Launch} {ω : WP} : ∀ as M Q, sp_lgC as M Q → Vd l ω 7 36 as M Q := by
  intro as M Q h
  unfold sp_lgC at h
  split at h
  case h_2 => exact h.elim
  rename_i q0 i0 q
  cases hb : Nat.beq q0 10 with
  | false => rw [hb] at h; exact h.elim
  | true =>
  rw [hb] at h
  obtain ⟨⟨hi, hH, hD, hq⟩, hQ⟩ := h
  have hb := beq_eq hb
  subst hb
  subst hi
  refine Vd.ok fun hok hal => ?_
  have hX := hH.x
  have n8 : 0 ≤ M 10 0 3 ∧ M 10 0 3 ≤ 8 := hX.1
  have e10 := n8
  have eq9 := n8
  have key : ∀ n9, CutOK l ω 7 36 (cutL [(4, [0, 1, 2, 3], fun kk vs M9 => ∃ c i : Int, vs = [vR 10 0, vI q, vI c, vI i] ∧ kk = (M 10 0 9 - i).toNat ∧ (0 ≤ i ∧ i ≤ M 10 0 9) ∧ c = (lgN (dx M) q (dOf M) i).1 ∧ Rep M (lgN (dx M) q (dOf M) i).2 M9)] n9) Q := by
    refine loops (GGu_ok (l := l) (ω := ω)) 300 _ ?_
    refine List.forall_mem_cons.mpr ⟨?_, fun _ h => absurd h List.not_mem_nil⟩
    · rintro n9 vs M9 ⟨c, i, rfl, rfl, i0, hc, rp⟩
      obtain ⟨eD, fr, f10, f11⟩ := id rp
      have xe := dx_rep rp
      have H9 := rp.day hH
      have e10 : M9 10 0 3 = M 10 0 3 := f10 0 3 (by decide)
      obtain ⟨c0, ok9, qn9⟩ := ok_lgI (q := q) hD (i := i) i0
      rw [← eD] at qn9
      rw [← eD, ← xe] at ok9
      rw [← hc] at c0
      have eq9 : M9 10 0 9 = M 10 0 9 := qn9
      have okq : 0 ≤ M9 10 0 9 ∧ M9 10 0 9 ≤ 8 := ok9.1
      have wq : i < M 10 0 9 → (0 ≤ M9 59 0 i ∧ M9 59 0 i < M9 10 0 3) ∧ (0 ≤ M9 11 (M9 59 0 i) 6 ∧ M9 11 (M9 59 0 i) 6 < 12) := fun z => ok9.2.1 i i0.1 (show i < M9 10 0 9 by omega)
      have rp' := rp.self
      have ei : w32 (i + 1) = i + 1 := w32_e (by omega) (by omega)
      have ec : w32 (c + 1) = c + 1 := w32_e (by omega) (by omega)
      have ep : lgN (dx M) q (dOf M) i = (c, dOf M9) := Prod.ext hc.symm eD.symm
      show wpH _ 300 _ 36 _ true 4 [vR 10 0, vI q, vI c, vI i] [] _ Q
      conv => whnf
      repeat' first
        | (refine And.intro (fun h => ?_) (fun h => ?_) <;> (try simp (disch := decide) only [cmp3_lt, cmp3_ge, cmp3_gt, cmp3_le, cmp3_eq, ms_q, ms_f, mf_q, mf_f, mc_q, mc_f, and_self, and_true, true_and, and_false, false_and, or_true, true_or, or_false, false_or, if_true, if_false, not_true_eq_false, not_false_eq_true, eq_self, reduceIte, Int.reduceEq, Int.reduceLT, Int.reduceLE, Int.reduceNeg, Int.reduceAdd, Int.reduceSub, Int.reduceMul, Int.add_sub_cancel] at h) <;> (try simp (disch := omega) only [w32_e, w64_e, td_pos, tm_pos, Int.add_sub_cancel, e10, eq9] at h) <;> first | exact absurd rfl h | exact absurd h (by decide) | (exfalso; omega) | (conv => whnf))
        | (refine And.intro (by first | omega | ((try simp (disch := decide) only [cmp3_lt, cmp3_ge, cmp3_gt, cmp3_le, cmp3_eq, ms_q, ms_f, mf_q, mf_f, mc_q, mc_f, and_self, and_true, true_and, and_false, false_and, or_true, true_or, or_false, false_or, if_true, if_false, not_true_eq_false, not_false_eq_true, eq_self, reduceIte, Int.reduceEq, Int.reduceLT, Int.reduceLE, Int.reduceNeg, Int.reduceAdd, Int.reduceSub, Int.reduceMul, Int.add_sub_cancel]); (try simp (disch := omega) only [w32_e, w64_e, td_pos, tm_pos, Int.add_sub_cancel, e10, eq9]); first | assumption | omega) | exact ⟨rfl, rfl, (wq (by omega)).1, hq, H9, ok9, (wq (by omega)).2⟩ | ((try simp (disch := decide) only [cmp3_lt, cmp3_ge, cmp3_gt, cmp3_le, cmp3_eq, ms_q, ms_f, mf_q, mf_f, mc_q, mc_f, and_self, and_true, true_and, and_false, false_and, or_true, true_or, or_false, false_or, if_true, if_false, not_true_eq_false, not_false_eq_true, eq_self, reduceIte, Int.reduceEq, Int.reduceLT, Int.reduceLE, Int.reduceNeg, Int.reduceAdd, Int.reduceSub, Int.reduceMul, Int.add_sub_cancel]); (try simp (disch := omega) only [w32_e, w64_e, td_pos, tm_pos, Int.add_sub_cancel, e10, eq9]); ((repeat' (first | assumption | omega | with_reducible rfl | apply And.intro)); done))) ?_; conv => whnf)
        | (intro v; intro hv; conv => whnf)
      all_goals first
        | (have e9 : i = M 10 0 9 := by omega
           have fin := rp'.qn (v := c)
           have e8 : lgD (dx M) q (dOf M) = (mkD ((dOf M9).rp) ((dOf M9).ta) ((dOf M9).ly) ((dOf M9).ar) ((dOf M9).qu) c ((dOf M9).sn)) := by
             unfold lgD
             rw [show (dOf M).qn = i from e9.symm, ep]
           rw [← e8] at fin
           exact hQ _ fin)
        | (have w4 := (wa_qu (X := dx M9) (D := dOf M9) (q := q) (r := M9 59 0 i)).1
           have ev : (dOf v).qu = (waD (dx M9) (M9 59 0 i) q (dOf M9)).2.qu := by rw [hv.1]
           first
             | (refine ⟨_, ?_, c, i + 1, by rw [ei], rfl, ⟨by omega, by omega⟩, ?_, ?_⟩
                · omega
                · rw [lgN_s i0.1, ep, ← xe, lgS_0 h]
                · rw [lgN_s i0.1, ep, ← xe, lgS_0 h]
                  exact rp'.trans hv)
             | (refine ⟨_, ?_, c + 1, i + 1, by rw [ei, ec], rfl, ⟨by omega, by omega⟩, ?_, ?_⟩
                · omega
                · rw [lgN_s i0.1, ep, ← xe, lgS_1 h]
                · rw [lgN_s i0.1, ep, ← xe, lgS_1 h]
                  have fin := (rp'.trans hv).qu (j := c) (v := v 59 0 i)
                  rw [show v 59 0 i = (waD (dx M9) (M9 59 0 i) q (dOf M9)).2.qu i from congrFun ev i] at fin
                  rw [show v 59 0 i = (waD (dx M9) (M9 59 0 i) q (dOf M9)).2.qu i from congrFun ev i]
                  exact fin))
  refine Vd_run (GGu_ok (l := l) (ω := ω)) 300 (hC := key 100) (by decide) ?_
  conv => whnf
  repeat' first
    | (refine And.intro (fun h => ?_) (fun h => ?_) <;> (try simp (disch := decide) only [cmp3_lt, cmp3_ge, cmp3_gt, cmp3_le, cmp3_eq, ms_q, ms_f, mf_q, mf_f, mc_q, mc_f, and_self, and_true, true_and, and_false, false_and, or_true, true_or, or_false, false_or, if_true, if_false, not_true_eq_false, not_false_eq_true, eq_self, reduceIte, Int.reduceEq, Int.reduceLT, Int.reduceLE, Int.reduceNeg, Int.reduceAdd, Int.reduceSub, Int.reduceMul, Int.add_sub_cancel] at h) <;> (try simp (disch := omega) only [w32_e, w64_e, td_pos, tm_pos, Int.add_sub_cancel, e10, eq9] at h) <;> first | exact absurd rfl h | exact absurd h (by decide) | (exfalso; omega) | (conv => whnf))
    | (refine And.intro (by first | omega | ((try simp (disch := decide) only [cmp3_lt, cmp3_ge, cmp3_gt, cmp3_le, cmp3_eq, ms_q, ms_f, mf_q, mf_f, mc_q, mc_f, and_self, and_true, true_and, and_false, false_and, or_true, true_or, or_false, false_or, if_true, if_false, not_true_eq_false, not_false_eq_true, eq_self, reduceIte, Int.reduceEq, Int.reduceLT, Int.reduceLE, Int.reduceNeg, Int.reduceAdd, Int.reduceSub, Int.reduceMul, Int.add_sub_cancel]); (try simp (disch := omega) only [w32_e, w64_e, td_pos, tm_pos, Int.add_sub_cancel, e10, eq9]); first | assumption | omega) | exact ⟨rfl, rfl, (wq (by omega)).1, hq, H9, ok9, (wq (by omega)).2⟩ | ((try simp (disch := decide) only [cmp3_lt, cmp3_ge, cmp3_gt, cmp3_le, cmp3_eq, ms_q, ms_f, mf_q, mf_f, mc_q, mc_f, and_self, and_true, true_and, and_false, false_and, or_true, true_or, or_false, false_or, if_true, if_false, not_true_eq_false, not_false_eq_true, eq_self, reduceIte, Int.reduceEq, Int.reduceLT, Int.reduceLE, Int.reduceNeg, Int.reduceAdd, Int.reduceSub, Int.reduceMul, Int.add_sub_cancel]); (try simp (disch := omega) only [w32_e, w64_e, td_pos, tm_pos, Int.add_sub_cancel, e10, eq9]); ((repeat' (first | assumption | omega | with_reducible rfl | apply And.intro)); done))) ?_; conv => whnf)
    | (intro v; intro hv; conv => whnf)
  all_goals
    (refine ⟨_, ?_, 0, 0, rfl, rfl, ⟨Int.le_refl _, hD.1.1⟩, rfl, Rep.refl⟩
     have := hD.1
     have : 0 ≤ M 10 0 9 ∧ M 10 0 9 ≤ 8 := hD.1
     omega)

def GLv : List (Nat × Nat × Spec1) := (36, 7, sp_lgC) :: GLu
abbrev GGv : Env1 := fun n => getG n GLv
theorem GGv_all {l : Launch} {ω : WP} : ∀ e ∈ GLv, ∀ as M Q, e.2.2 as M Q → Vd l ω e.2.1 e.1 as M Q := List.forall_mem_cons.mpr ⟨ok_lgC, GGu_all⟩
theorem GGv_ok {l : Launch} {ω : WP} : GOK l ω GGv := getG_ok GLv GGv_all

def sp_sdC : Spec1 := fun as M Q => match as with
  | [.inr (.inr (.inl (q0, i0)))] => match Nat.beq q0 10 with
    | true => (i0 = 0 ∧ DayH M) ∧ ∀ M9, Rep M (dyN (dx M) (dOf M) 96) M9 → Q none M9
    | false => False
  | _ => False
theorem ok_sdC {l : Launch} {ω : WP} : ∀ as M Q, sp_sdC as M Q → Vd l ω 8 33 as M Q := by
  intro as M Q h
  unfold sp_sdC at h
  split at h
  case h_2 => exact h.elim
  rename_i q0 i0 
  cases hb : Nat.beq q0 10 with
  | false => rw [hb] at h; exact h.elim
  | true =>
  rw [hb] at h
  obtain ⟨⟨hi, hH⟩, hQ⟩ := h
  have hb := beq_eq hb
  subst hb
  subst hi
  refine Vd.ok fun hok hal => ?_
  have hX := hH.x
  have n8 : 0 ≤ M 10 0 3 ∧ M 10 0 3 ≤ 8 := hX.1
  have e10 := n8
  have eq9 := n8
  have c1 := n8
  have c2 := n8
  have c3 := n8
  have key : ∀ n9, CutOK l ω 8 33 (cutL [(2, [0, 1], fun kk vs M9 => ∃ p : Int, vs = [vR 10 0, vI p] ∧ kk = (2000 - p).toNat ∧ (0 ≤ p ∧ p ≤ 12) ∧ Rep M (itI zeD (dOf M) p) M9), (42, [0, 1], fun kk vs M9 => ∃ i : Int, vs = [vR 10 0, vI i] ∧ kk = (1000 - i).toNat ∧ (0 ≤ i ∧ i ≤ M 10 0 3) ∧ Rep M (itI rsD (mkD ((itI zeD (dOf M) 12).rp) ((itI zeD (dOf M) 12).ta) ((itI zeD (dOf M) 12).ly) ((itI zeD (dOf M) 12).ar) ((itI zeD (dOf M) 12).qu) 0 ((itI zeD (dOf M) 12).sn)) i) M9), (67, [0, 1], fun kk vs M9 => ∃ q : Int, vs = [vR 10 0, vI q] ∧ kk = (500 - q).toNat ∧ (0 ≤ q ∧ q ≤ 96) ∧ Rep M (dyN (dx M) (dOf M) q) M9)] n9) Q := by
    refine loops (GGv_ok (l := l) (ω := ω)) 400 _ ?_
    refine List.forall_mem_cons.mpr ⟨?_, List.forall_mem_cons.mpr ⟨?_, List.forall_mem_cons.mpr ⟨?_, fun _ h => absurd h List.not_mem_nil⟩⟩⟩
    · rintro n9 vs M9 ⟨p, rfl, rfl, i0, rp⟩
      have rp' := rp.self
      have e10 : M9 10 0 3 = M 10 0 3 := rp.2.2.1 0 3 (by decide)
      have eD := rp.1
      have ei : w32 (p + 1) = p + 1 := w32_e (by omega) (by omega)
      have c1 := n8
      have c2 := n8
      have c3 := n8
      show wpH _ 400 _ 33 _ true 2 [vR 10 0, vI p] [] _ Q
      conv => whnf
      repeat' first
        | (refine And.intro (fun h => ?_) (fun h => ?_) <;> (try simp (disch := decide) only [cmp3_lt, cmp3_ge, cmp3_gt, cmp3_le, cmp3_eq, ms_q, ms_f, mf_q, mf_f, mc_q, mc_f, and_self, and_true, true_and, and_false, false_and, or_true, true_or, or_false, false_or, if_true, if_false, not_true_eq_false, not_false_eq_true, eq_self, reduceIte, Int.reduceEq, Int.reduceLT, Int.reduceLE, Int.reduceNeg, Int.reduceAdd, Int.reduceSub, Int.reduceMul, Int.add_sub_cancel] at h) <;> (try simp (disch := omega) only [w32_e, w64_e, td_pos, tm_pos, Int.add_sub_cancel, e10] at h) <;> first | exact absurd rfl h | exact absurd h (by decide) | (exfalso; omega) | (conv => whnf))
        | (refine And.intro (by first | omega | ((try simp (disch := decide) only [cmp3_lt, cmp3_ge, cmp3_gt, cmp3_le, cmp3_eq, ms_q, ms_f, mf_q, mf_f, mc_q, mc_f, and_self, and_true, true_and, and_false, false_and, or_true, true_or, or_false, false_or, if_true, if_false, not_true_eq_false, not_false_eq_true, eq_self, reduceIte, Int.reduceEq, Int.reduceLT, Int.reduceLE, Int.reduceNeg, Int.reduceAdd, Int.reduceSub, Int.reduceMul, Int.add_sub_cancel]); (try simp (disch := omega) only [w32_e, w64_e, td_pos, tm_pos, Int.add_sub_cancel, e10]); first | assumption | omega) | exact c1 | exact c2 (by omega) _ (by assumption) | exact c3 (by omega) _ _ (by assumption) (by assumption) | ((try simp (disch := decide) only [cmp3_lt, cmp3_ge, cmp3_gt, cmp3_le, cmp3_eq, ms_q, ms_f, mf_q, mf_f, mc_q, mc_f, and_self, and_true, true_and, and_false, false_and, or_true, true_or, or_false, false_or, if_true, if_false, not_true_eq_false, not_false_eq_true, eq_self, reduceIte, Int.reduceEq, Int.reduceLT, Int.reduceLE, Int.reduceNeg, Int.reduceAdd, Int.reduceSub, Int.reduceMul, Int.add_sub_cancel]); (try simp (disch := omega) only [w32_e, w64_e, td_pos, tm_pos, Int.add_sub_cancel, e10]); ((repeat' (first | assumption | omega | with_reducible rfl | apply And.intro)); done))) ?_; conv => whnf)
        | (intro v; intro hv; conv => whnf)
      all_goals first
        | (have e9 : p = 12 := by omega
           rw [e9] at rp
           have fin := rp.qn (v := 0)
           refine ⟨_, ?_, 0, rfl, rfl, ⟨Int.le_refl _, n8.1⟩, fin⟩
           omega)
        | (refine ⟨_, ?_, p + 1, by rw [ei], rfl, ⟨by omega, by omega⟩, ?_⟩
           · omega
           · rw [itI_succ i0.1, ← eD]
             exact ((rp'.ta (j := p) (v := 0)).ly (j := p) (v := 0)).ar (j := p) (v := 0))
    · rintro n9 vs M9 ⟨i, rfl, rfl, i0, rp⟩
      have rp' := rp.self
      have e10 : M9 10 0 3 = M 10 0 3 := rp.2.2.1 0 3 (by decide)
      have eD := rp.1
      have ei : w32 (i + 1) = i + 1 := w32_e (by omega) (by omega)
      have c1 := n8
      have c2 := n8
      have c3 := n8
      show wpH _ 400 _ 33 _ true 42 [vR 10 0, vI i] [] _ Q
      conv => whnf
      repeat' first
        | (refine And.intro (fun h => ?_) (fun h => ?_) <;> (try simp (disch := decide) only [cmp3_lt, cmp3_ge, cmp3_gt, cmp3_le, cmp3_eq, ms_q, ms_f, mf_q, mf_f, mc_q, mc_f, and_self, and_true, true_and, and_false, false_and, or_true, true_or, or_false, false_or, if_true, if_false, not_true_eq_false, not_false_eq_true, eq_self, reduceIte, Int.reduceEq, Int.reduceLT, Int.reduceLE, Int.reduceNeg, Int.reduceAdd, Int.reduceSub, Int.reduceMul, Int.add_sub_cancel] at h) <;> (try simp (disch := omega) only [w32_e, w64_e, td_pos, tm_pos, Int.add_sub_cancel, e10] at h) <;> first | exact absurd rfl h | exact absurd h (by decide) | (exfalso; omega) | (conv => whnf))
        | (refine And.intro (by first | omega | ((try simp (disch := decide) only [cmp3_lt, cmp3_ge, cmp3_gt, cmp3_le, cmp3_eq, ms_q, ms_f, mf_q, mf_f, mc_q, mc_f, and_self, and_true, true_and, and_false, false_and, or_true, true_or, or_false, false_or, if_true, if_false, not_true_eq_false, not_false_eq_true, eq_self, reduceIte, Int.reduceEq, Int.reduceLT, Int.reduceLE, Int.reduceNeg, Int.reduceAdd, Int.reduceSub, Int.reduceMul, Int.add_sub_cancel]); (try simp (disch := omega) only [w32_e, w64_e, td_pos, tm_pos, Int.add_sub_cancel, e10]); first | assumption | omega) | exact c1 | exact c2 (by omega) _ (by assumption) | exact c3 (by omega) _ _ (by assumption) (by assumption) | ((try simp (disch := decide) only [cmp3_lt, cmp3_ge, cmp3_gt, cmp3_le, cmp3_eq, ms_q, ms_f, mf_q, mf_f, mc_q, mc_f, and_self, and_true, true_and, and_false, false_and, or_true, true_or, or_false, false_or, if_true, if_false, not_true_eq_false, not_false_eq_true, eq_self, reduceIte, Int.reduceEq, Int.reduceLT, Int.reduceLE, Int.reduceNeg, Int.reduceAdd, Int.reduceSub, Int.reduceMul, Int.add_sub_cancel]); (try simp (disch := omega) only [w32_e, w64_e, td_pos, tm_pos, Int.add_sub_cancel, e10]); ((repeat' (first | assumption | omega | with_reducible rfl | apply And.intro)); done))) ?_; conv => whnf)
        | (intro v; intro hv; conv => whnf)
      all_goals first
        | (have e9 : i = M 10 0 3 := by omega
           rw [e9] at rp
           refine ⟨_, ?_, 0, rfl, rfl, ⟨Int.le_refl _, by omega⟩, rp⟩
           omega)
        | (refine ⟨_, ?_, i + 1, by rw [ei], rfl, ⟨by omega, by omega⟩, ?_⟩
           · omega
           · rw [itI_succ i0.1, ← eD]
             exact ((((((((rp'.rp (i := i) (f := 4) (v := -4) (by decide)).rp (i := i) (f := 5) (v := -4) (by decide)).rp (i := i) (f := 6) (v := -4) (by decide)).rp (i := i) (f := 7) (v := 0) (by decide)).rp (i := i) (f := 8) (v := -4) (by decide)).rp (i := i) (f := 9) (v := 0) (by decide)).rp (i := i) (f := 10) (v := 0) (by decide)).rp (i := i) (f := 11) (v := 0) (by decide)))
    · rintro n9 vs M9 ⟨q, rfl, rfl, i0, rp⟩
      have rp' := rp.self
      have e10 : M9 10 0 3 = M 10 0 3 := rp.2.2.1 0 3 (by decide)
      have eD := rp.1
      have ei : w32 (q + 1) = q + 1 := w32_e (by omega) (by omega)
      have xe := dx_rep rp
      have H9 := rp.day hH
      have ok9 := ok_dyI (D := dOf M) hX i0.1
      rw [← eD, ← xe] at ok9
      have c1 : (0 : Int) = 0 ∧ DayH M9 ∧ dOK (dx M9) (dOf M9) := ⟨rfl, H9, ok9⟩
      have oka := ok_lcI (q := q) (i := M9 10 0 3) H9.x ok9 ⟨by omega, Int.le_refl _⟩
      have c2 : q < 96 → ∀ v, Rep M9 (lcN (dx M9) q (dOf M9) (M9 10 0 3)) v → (0 : Int) = 0 ∧ DayH v ∧ dOK (dx v) (dOf v) ∧ (0 ≤ q ∧ q ≤ 95) := fun z v hv => ⟨rfl, hv.day H9, by rw [dx_rep hv, hv.1]; exact oka, by omega, by omega⟩
      have c3 : q < 96 → ∀ v v', Rep M9 (lcN (dx M9) q (dOf M9) (M9 10 0 3)) v → Rep v (lgD (dx v) q (dOf v)) v' → (0 : Int) = 0 ∧ (0 ≤ v' 10 0 3 ∧ v' 10 0 3 ≤ 8) ∧ (0 ≤ q ∧ q ≤ 95) := fun z v v' hv hv' => ⟨rfl, by rw [hv'.2.2.1 0 3 (by decide), hv.2.2.1 0 3 (by decide), e10]; exact n8, by omega, by omega⟩
      have fn : q < 96 → ∀ v v' v2, Rep M9 (lcN (dx M9) q (dOf M9) (M9 10 0 3)) v → Rep v (lgD (dx v) q (dOf v)) v' → Rep v' (lkN q (dOf v') (v' 10 0 3)) v2 → Rep M (dyN (dx M) (dOf M) (q + 1)) v2 := fun z v v' v2 h1 h2 h3 => by
        have f := (h1.trans h2).trans h3
        rw [h2.1, dx_rep h1, h1.1, h2.2.2.1 0 3 (by decide), h1.2.2.1 0 3 (by decide)] at f
        rw [dyN_s i0.1, ← eD, ← xe]
        exact rp'.trans f
      show wpH _ 400 _ 33 _ true 67 [vR 10 0, vI q] [] _ Q
      conv => whnf
      repeat' first
        | (refine And.intro (fun h => ?_) (fun h => ?_) <;> (try simp (disch := decide) only [cmp3_lt, cmp3_ge, cmp3_gt, cmp3_le, cmp3_eq, ms_q, ms_f, mf_q, mf_f, mc_q, mc_f, and_self, and_true, true_and, and_false, false_and, or_true, true_or, or_false, false_or, if_true, if_false, not_true_eq_false, not_false_eq_true, eq_self, reduceIte, Int.reduceEq, Int.reduceLT, Int.reduceLE, Int.reduceNeg, Int.reduceAdd, Int.reduceSub, Int.reduceMul, Int.add_sub_cancel] at h) <;> (try simp (disch := omega) only [w32_e, w64_e, td_pos, tm_pos, Int.add_sub_cancel, e10] at h) <;> first | exact absurd rfl h | exact absurd h (by decide) | (exfalso; omega) | (conv => whnf))
        | (refine And.intro (by first | omega | ((try simp (disch := decide) only [cmp3_lt, cmp3_ge, cmp3_gt, cmp3_le, cmp3_eq, ms_q, ms_f, mf_q, mf_f, mc_q, mc_f, and_self, and_true, true_and, and_false, false_and, or_true, true_or, or_false, false_or, if_true, if_false, not_true_eq_false, not_false_eq_true, eq_self, reduceIte, Int.reduceEq, Int.reduceLT, Int.reduceLE, Int.reduceNeg, Int.reduceAdd, Int.reduceSub, Int.reduceMul, Int.add_sub_cancel]); (try simp (disch := omega) only [w32_e, w64_e, td_pos, tm_pos, Int.add_sub_cancel, e10]); first | assumption | omega) | exact c1 | exact c2 (by omega) _ (by assumption) | exact c3 (by omega) _ _ (by assumption) (by assumption) | ((try simp (disch := decide) only [cmp3_lt, cmp3_ge, cmp3_gt, cmp3_le, cmp3_eq, ms_q, ms_f, mf_q, mf_f, mc_q, mc_f, and_self, and_true, true_and, and_false, false_and, or_true, true_or, or_false, false_or, if_true, if_false, not_true_eq_false, not_false_eq_true, eq_self, reduceIte, Int.reduceEq, Int.reduceLT, Int.reduceLE, Int.reduceNeg, Int.reduceAdd, Int.reduceSub, Int.reduceMul, Int.add_sub_cancel]); (try simp (disch := omega) only [w32_e, w64_e, td_pos, tm_pos, Int.add_sub_cancel, e10]); ((repeat' (first | assumption | omega | with_reducible rfl | apply And.intro)); done))) ?_; conv => whnf)
        | (intro v; intro hv; conv => whnf)
      all_goals first
        | (have e9 : q = 96 := by omega
           rw [e9] at rp
           exact hQ _ rp)
        | (refine ⟨_, ?_, q + 1, by rw [ei], rfl, ⟨by omega, by omega⟩, fn (by omega) _ _ _ (by assumption) (by assumption) (by assumption)⟩
           omega)
  refine Vd_run (GGv_ok (l := l) (ω := ω)) 400 (hC := key 5000) (by decide) ?_
  conv => whnf
  repeat' first
    | (refine And.intro (fun h => ?_) (fun h => ?_) <;> (try simp (disch := decide) only [cmp3_lt, cmp3_ge, cmp3_gt, cmp3_le, cmp3_eq, ms_q, ms_f, mf_q, mf_f, mc_q, mc_f, and_self, and_true, true_and, and_false, false_and, or_true, true_or, or_false, false_or, if_true, if_false, not_true_eq_false, not_false_eq_true, eq_self, reduceIte, Int.reduceEq, Int.reduceLT, Int.reduceLE, Int.reduceNeg, Int.reduceAdd, Int.reduceSub, Int.reduceMul, Int.add_sub_cancel] at h) <;> (try simp (disch := omega) only [w32_e, w64_e, td_pos, tm_pos, Int.add_sub_cancel, e10] at h) <;> first | exact absurd rfl h | exact absurd h (by decide) | (exfalso; omega) | (conv => whnf))
    | (refine And.intro (by first | omega | ((try simp (disch := decide) only [cmp3_lt, cmp3_ge, cmp3_gt, cmp3_le, cmp3_eq, ms_q, ms_f, mf_q, mf_f, mc_q, mc_f, and_self, and_true, true_and, and_false, false_and, or_true, true_or, or_false, false_or, if_true, if_false, not_true_eq_false, not_false_eq_true, eq_self, reduceIte, Int.reduceEq, Int.reduceLT, Int.reduceLE, Int.reduceNeg, Int.reduceAdd, Int.reduceSub, Int.reduceMul, Int.add_sub_cancel]); (try simp (disch := omega) only [w32_e, w64_e, td_pos, tm_pos, Int.add_sub_cancel, e10]); first | assumption | omega) | exact c1 | exact c2 (by omega) _ (by assumption) | exact c3 (by omega) _ _ (by assumption) (by assumption) | ((try simp (disch := decide) only [cmp3_lt, cmp3_ge, cmp3_gt, cmp3_le, cmp3_eq, ms_q, ms_f, mf_q, mf_f, mc_q, mc_f, and_self, and_true, true_and, and_false, false_and, or_true, true_or, or_false, false_or, if_true, if_false, not_true_eq_false, not_false_eq_true, eq_self, reduceIte, Int.reduceEq, Int.reduceLT, Int.reduceLE, Int.reduceNeg, Int.reduceAdd, Int.reduceSub, Int.reduceMul, Int.add_sub_cancel]); (try simp (disch := omega) only [w32_e, w64_e, td_pos, tm_pos, Int.add_sub_cancel, e10]); ((repeat' (first | assumption | omega | with_reducible rfl | apply And.intro)); done))) ?_; conv => whnf)
    | (intro v; intro hv; conv => whnf)
  all_goals
    (refine ⟨_, ?_, 0, rfl, rfl, ⟨by decide, by decide⟩, Rep.refl⟩
     omega)
