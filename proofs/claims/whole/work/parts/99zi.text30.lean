/-! ===== text: the pair (wip/gen/p72.py) ===== -/
theorem inv_text {c : Int} {M M9 : Mem} (hc : c < 512) (hI : Inv c M) (f : ∀ p, p ≠ 7 → p ≠ 8 → p ≠ 13 → p ≠ 41 → p ≠ 42 → p ≠ 43 → p ≠ 44 → p ≠ 45 → p ≠ 46 → p ≠ 47 → p ≠ 91 → p ≠ 92 → p ≠ 93 → p ≠ 94 → p ≠ 95 → p ≠ 96 → p ≠ 97 → M9 p = M p) (g : ∀ j, j ≠ 28 → j ≠ 29 → j ≠ 30 → j ≠ 31 → j ≠ 32 → j ≠ 33 → j ≠ 34 → j ≠ 35 → j ≠ 39 → j ≠ 43 → j ≠ 45 → M9 13 0 j = M 13 0 j) (tp : ITap M9) (st : ISta M9) : Inv (c + 1) M9 := by
  obtain ⟨h0, hN, hS, hR, hK, hG, hW, hJ, -, -, hP, hO, hH⟩ := hI
  refine ⟨by omega, ?_, ?_, ?_, ?_, ?_, ?_, ?_, tp, st, ?_, ?_, ?_⟩
  all_goals first
    | (have q := hN; simp (disch := decide) only [INet, f, g] at q ⊢; exact q)
    | (have q := hS; simp (disch := decide) only [IStp, f, g] at q ⊢; exact q)
    | (have q := hR; simp (disch := decide) only [IRou, f, g] at q ⊢; exact q)
    | (have q := hK; simp (disch := decide) only [ISky, f, g] at q ⊢; exact q)
    | (have q := hG; simp (disch := decide) only [IGui, f, g] at q ⊢; exact q)
    | (have q := hW.next; simp (disch := decide) only [INow, f, g] at q ⊢; exact q)
    | (have q := hJ.next; simp (disch := decide) only [IImg, f, g] at q ⊢; exact q)
    | (have q := hP; simp (disch := decide) only [IPpl, f, g] at q ⊢; exact q)
    | (have q := hO; simp (disch := decide) only [IRop, f, g] at q ⊢; exact q)
    | (have q := hH; simp (disch := decide) only [IHrs, f, g] at q ⊢; exact q)
theorem hd_cg {C D : Int → Int} : ∀ (l : List Int) (i : Int), (∀ j, 0 ≤ j → j < i → D j = C j) → (l.length : Int) ≤ i → Hd C i l → Hd D i l
  | [], _, _, _, _ => trivial
  | w :: l, i, h, hl, q => by
    have e : ((w :: l).length : Int) = (l.length : Int) + 1 := by simp
    exact ⟨(h (i - 1) (by omega) (by omega)).trans q.1, hd_cg l (i - 1) (fun j a b => h j a (by omega)) (by omega) q.2⟩
/-- both sides read the same statute -/
theorem sta_text {E : RSS} {v M1 M9 : Mem} (hs : sgm v = E.2.2) (h8 : 0 ≤ v 7 0 8 ∧ v 7 0 8 ≤ 240) (hD : TxD E M1 M9) (hC : TxC M9 13) (hW : TxW M9 (M9 13 0 43)) (e6 : M9 8 0 6 = v 7 0 11) (e45 : ∀ j, 0 ≤ j → j < 240 → M9 45 0 j = v 41 0 j) (e46 : ∀ j, 0 ≤ j → j < 12 → M9 46 0 j = v 42 0 j) (e47 : ∀ j, 0 ≤ j → j < 12 → M9 47 0 j = v 43 0 j) : ISta M9 := by
  obtain ⟨-, -, -, ⟨h35, h39⟩, h43, hL, hLN⟩ := hD
  rw [← hs] at hL hLN
  have eL : v 7 0 11 = M9 13 0 39 := hL
  have hLN : LN (v 42 0) (v 43 0) (M9 94 0) (M9 95 0) (M9 13 0 39).toNat (stk (v 41 0) (v 7 0 8).toNat) (stk (M9 96 0) (M9 13 0 43).toNat) := hLN
  have lc := stk_len (F := v 41 0) (v 7 0 8).toNat
  have lm := stk_len (F := M9 96 0) (M9 13 0 43).toNat
  have hc : Hd (M9 45 0) ((stk (v 41 0) (v 7 0 8).toNat).length : Int) (stk (v 41 0) (v 7 0 8).toNat) := by
    refine hd_cg _ _ (C := v 41 0) (fun j a b => e45 j a (by omega)) (Int.le_refl _) ?_
    rw [lc]
    exact Hd_stk _
  have hm : Hd (M9 93 0) ((stk (M9 96 0) (M9 13 0 43).toNat).length : Int) (stk (M9 96 0) (M9 13 0 43).toNat) := by
    refine hd_cg _ _ (C := M9 96 0) (fun j a b => hW j a (by omega)) (Int.le_refl _) ?_
    rw [lm]
    exact Hd_stk _
  have all := LN_all _ hLN hc hm
  rw [lc, lm] at all
  refine ⟨by omega, by omega, fun z z0 z1 => ?_⟩
  have q := all z z0 (by omega)
  have k0 := hC z z0 (by omega)
  have k1 := hC (z + 1) (by omega) (by omega)
  have ez := e46 z z0 (by omega)
  have e7 := e47 z z0 (by omega)
  have e7' : (if z = 0 then 0 else M9 47 0 (z - 1)) = if z = 0 then 0 else v 43 0 (z - 1) := by
    by_cases c : z = 0
    · rw [if_pos c, if_pos c]
    · rw [if_neg c, if_neg c, e47 (z - 1) (by omega) (by omega)]
  rw [e7', k0.1, k0.2, k1.2, ez, e7]
  obtain ⟨q1, q2, q3, q4⟩ := q
  exact ⟨q1, ⟨q2.1, q2.2.1, by omega⟩, ⟨q3.1, by omega⟩, q4⟩
theorem pair_text {l : Launch} {ω : WP} {c : Int} {M : Mem}    (hc : c < 512) (hI : Inv c M) : Vd l ω 9 130 [vR 0 0] M (PQ1 l ω c 214 []) := by
  have hI0 := hI
  obtain ⟨h0, hN, hS, hR, hK, hG, hW, hJ, hT, hA, hP, hO, hH⟩ := hI
  have hu := hT.2.1
  have ht : ∀ j, 0 ≤ j → j < M 7 0 1 → 0 ≤ M 40 0 j ∧ M 40 0 j ≤ 255 := fun j a b => (hT.2.2.1 j a b).2
  refine Vd_run (GGAG_ok (l := l) (ω := ω)) 400 (cut := fun _ => none) (by decide) CutOK_none ?_
  conv => whnf
  repeat' first
    | (refine And.intro (fun h => ?_) (fun h => ?_) <;> (try simp (disch := decide) only [cmp3_lt, cmp3_ge, cmp3_gt, cmp3_le, cmp3_eq, ms_q, ms_f, mf_q, mf_f, mc_q, mc_f, and_self, and_true, true_and, and_false, false_and, or_true, true_or, or_false, false_or, if_true, if_false, not_true_eq_false, not_false_eq_true, eq_self, reduceIte, Int.reduceEq, Int.reduceLT, Int.reduceLE, Int.reduceNeg, Int.reduceAdd, Int.reduceSub, Int.reduceMul, Int.add_sub_cancel] at h) <;> (try simp (disch := omega) only [w32_e, w64_e, td_pos, tm_pos, Int.add_sub_cancel] at h) <;> first | exact absurd rfl h | exact absurd h (by decide) | (exfalso; omega) | (conv => whnf))
    | (refine And.intro (by first | omega | ((try simp (disch := decide) only [cmp3_lt, cmp3_ge, cmp3_gt, cmp3_le, cmp3_eq, ms_q, ms_f, mf_q, mf_f, mc_q, mc_f, and_self, and_true, true_and, and_false, false_and, or_true, true_or, or_false, false_or, if_true, if_false, not_true_eq_false, not_false_eq_true, eq_self, reduceIte, Int.reduceEq, Int.reduceLT, Int.reduceLE, Int.reduceNeg, Int.reduceAdd, Int.reduceSub, Int.reduceMul, Int.add_sub_cancel]); (try simp (disch := omega) only [w32_e, w64_e, td_pos, tm_pos, Int.add_sub_cancel]); first | assumption | omega) | ((try simp (disch := decide) only [cmp3_lt, cmp3_ge, cmp3_gt, cmp3_le, cmp3_eq, ms_q, ms_f, mf_q, mf_f, mc_q, mc_f, and_self, and_true, true_and, and_false, false_and, or_true, true_or, or_false, false_or, if_true, if_false, not_true_eq_false, not_false_eq_true, eq_self, reduceIte, Int.reduceEq, Int.reduceLT, Int.reduceLE, Int.reduceNeg, Int.reduceAdd, Int.reduceSub, Int.reduceMul, Int.add_sub_cancel]); (try simp (disch := omega) only [w32_e, w64_e, td_pos, tm_pos, Int.add_sub_cancel]); ((repeat' (first | assumption | omega | with_reducible rfl | apply And.intro)); done))) ?_; conv => whnf)
    | (intro v; intro hv; conv => whnf)
  all_goals obtain ⟨E, hE⟩ : ∃ E, E = rnC (M 40 0) (M 7 0 1) 241 ([], [], 0, M 7 0 15, 0, M 7 0 17, 0, M 42 0, M 43 0) 0 := ⟨_, rfl⟩
  all_goals rw [← hE] at hv
  all_goals obtain ⟨f1, f2, f3, f4, f5⟩ := hv
  all_goals refine ⟨0, _, rfl, ?_⟩
  · generalize hM1 : mcopy (mcopy (mcopy (mset (mset v 7 0 1 0) 8 0 6 (mset v 7 0 1 0 7 0 11)) 41 0 0 45 0 0 240) 42 0 0 46 0 0 12) 43 0 0 47 0 0 12 = M1
    have g : ∀ p, p ≠ 7 → p ≠ 8 → p ≠ 41 → p ≠ 42 → p ≠ 43 → p ≠ 44 → p ≠ 45 → p ≠ 46 → p ≠ 47 → M1 p = M p := fun p a b c d e f g h i => by
      rw [← hM1, mc_q (by omega), mc_q (by omega), mc_q (by omega), ms_q (by omega), ms_q (by omega)]
      exact f1 p a c d e f
    have g71 : M1 7 0 1 = 0 := by rw [← hM1, mc_q (by decide), mc_q (by decide), mc_q (by decide), ms_q (by decide), ms_f, if_pos ⟨rfl, rfl⟩]
    have g76 : M1 7 0 6 = 0 := by
      rw [← hM1, mc_q (by decide), mc_q (by decide), mc_q (by decide), ms_q (by decide), ms_f, if_neg (fun z => absurd z.2 (by decide))]
      exact h
    have g86 : M1 8 0 6 = v 7 0 11 := by
      rw [← hM1, mc_q (by decide), mc_q (by decide), mc_q (by decide), ms_f, if_pos ⟨rfl, rfl⟩, ms_f, if_neg (fun z => absurd z.2 (by decide))]
    have g45 : ∀ j, 0 ≤ j → j < 240 → M1 45 0 j = v 41 0 j := fun j a b => by
      rw [← hM1, mc_q (by decide), mc_q (by decide), mc_f, if_pos ⟨rfl, a, by omega⟩, ms_q (by decide), ms_q (by decide), Int.sub_zero, Int.add_zero]
    have g46 : ∀ j, 0 ≤ j → j < 12 → M1 46 0 j = v 42 0 j := fun j a b => by
      rw [← hM1, mc_q (by decide), mc_f, if_pos ⟨rfl, a, by omega⟩, mc_q (by decide), ms_q (by decide), ms_q (by decide), Int.sub_zero, Int.add_zero]
    have g47 : ∀ j, 0 ≤ j → j < 12 → M1 47 0 j = v 43 0 j := fun j a b => by
      rw [← hM1, mc_f, if_pos ⟨rfl, a, by omega⟩, mc_q (by decide), mc_q (by decide), ms_q (by decide), ms_q (by decide), Int.sub_zero, Int.add_zero]
    have c13 := g 13 (by decide) (by decide) (by decide) (by decide) (by decide) (by decide) (by decide) (by decide) (by decide)
    have c90 := g 90 (by decide) (by decide) (by decide) (by decide) (by decide) (by decide) (by decide) (by decide) (by decide)
    have cE : E = rnC (M1 90 0) (M1 13 0 28) 241 ([], [], 0, M 7 0 15, 0, M 7 0 17, 0, M 42 0, M 43 0) 0 := by
      rw [c13, c90, hT.1, hE]
      exact (rnC_cg (fun j a b => (hT.2.2.1 j a b).1) 241 _ 0 (Int.le_refl 0) hu.1).symm
    have E0 : E.1 = 0 := by omega
    obtain ⟨s1, s2, s3, s4⟩ := f5 E0
    refine ok_txM _ _ _ ⟨⟨rfl, trivial⟩, E, _, _, _, _, ⟨by rw [c13, hT.1]; exact hu, ?_, cE⟩, fun M9 r hr => ?_⟩
    · rw [c13, c90, hT.1]
      exact fun j a b => by rw [(hT.2.2.1 j a b).1]; exact ht j a b
    · rcases hr with hr | ⟨hD, hC, hW, hr⟩
      · exfalso
        have := hr.2.2.2.2.1.1
        have := hr.2.2.2.2.1.2.1
        omega
      · have F := hD.1
        have k : ∀ p, p ≠ 13 → p ≠ 91 → p ≠ 92 → p ≠ 93 → p ≠ 94 → p ≠ 95 → p ≠ 96 → p ≠ 97 → M9 p = M1 p := F.1
        have k8 := k 8 (by decide) (by decide) (by decide) (by decide) (by decide) (by decide) (by decide) (by decide)
        have k7 := k 7 (by decide) (by decide) (by decide) (by decide) (by decide) (by decide) (by decide) (by decide)
        have k45 := k 45 (by decide) (by decide) (by decide) (by decide) (by decide) (by decide) (by decide) (by decide)
        have k46 := k 46 (by decide) (by decide) (by decide) (by decide) (by decide) (by decide) (by decide) (by decide)
        have k47 := k 47 (by decide) (by decide) (by decide) (by decide) (by decide) (by decide) (by decide) (by decide)
        have sta : ISta M9 := sta_text s1 ⟨s2, by omega⟩ hD hC hW (by rw [k8, g86]) (by rw [k45]; exact g45) (by rw [k46]; exact g46) (by rw [k47]; exact g47)
        have e28 := hD.2.1
        have e33 := hD.2.2.1.1
        refine ⟨0, ?_, inv_text hc hI0 (fun p q7 q8 q13 q41 q42 q43 q44 q45 q46 q47 q91 q92 q93 q94 q95 q96 q97 => ?_) (fun j q28 q29 q30 q31 q32 q33 q34 q35 q39 q43 q45 => ?_) ?_ sta⟩
        · have z := sta.1
          rw [hr, z, k8]
        · rw [k p q13 q91 q92 q93 q94 q95 q96 q97]
          exact g p q7 q8 q41 q42 q43 q44 q45 q46 q47
        · rw [F.2 j q28 q29 q30 q31 q32 q33 q34 q35 q39 q43 q45, c13]
        · refine ⟨by rw [k7]; omega, by rw [k7]; omega, fun j a b => ?_, by rw [k7]; omega⟩
          rw [k7] at b
          exact absurd b (by omega)
  · generalize hM1 : mset v 7 0 1 0 = M1
    have g : ∀ p, p ≠ 7 → p ≠ 41 → p ≠ 42 → p ≠ 43 → p ≠ 44 → M1 p = M p := fun p a b c d e => by
      rw [← hM1, ms_q (by omega)]
      exact f1 p a b c d e
    have g71 : M1 7 0 1 = 0 := by rw [← hM1, ms_f, if_pos ⟨rfl, rfl⟩]
    have g76 : M1 7 0 6 = E.1 := by
      rw [← hM1, ms_f, if_neg (fun z => absurd z.2 (by decide))]
      exact f3
    have g73 : M1 7 0 3 = E.2.1 := by
      rw [← hM1, ms_f, if_neg (fun z => absurd z.2 (by decide))]
      exact f4
    have c13 := g 13 (by decide) (by decide) (by decide) (by decide) (by decide)
    have c90 := g 90 (by decide) (by decide) (by decide) (by decide) (by decide)
    have cE : E = rnC (M1 90 0) (M1 13 0 28) 241 ([], [], 0, M 7 0 15, 0, M 7 0 17, 0, M 42 0, M 43 0) 0 := by
      rw [c13, c90, hT.1, hE]
      exact (rnC_cg (fun j a b => (hT.2.2.1 j a b).1) 241 _ 0 (Int.le_refl 0) hu.1).symm
    refine ok_txM _ _ _ ⟨⟨rfl, trivial⟩, E, _, _, _, _, ⟨by rw [c13, hT.1]; exact hu, ?_, cE⟩, fun M9 r hr => ?_⟩
    · rw [c13, c90, hT.1]
      exact fun j a b => by rw [(hT.2.2.1 j a b).1]; exact ht j a b
    · rcases hr with ⟨F, e28, e35, ⟨e91, e92, e93⟩, hB, hr⟩ | ⟨hD, hC, hW, hr⟩
      · have k : ∀ p, p ≠ 13 → p ≠ 91 → p ≠ 92 → p ≠ 93 → p ≠ 94 → p ≠ 95 → p ≠ 96 → p ≠ 97 → M9 p = M1 p := F.1
        have k7 := k 7 (by decide) (by decide) (by decide) (by decide) (by decide) (by decide) (by decide) (by decide)
        have kk : ∀ p, p = 8 ∨ p = 45 ∨ p = 46 ∨ p = 47 → M9 p = M p := fun p a => by
          rw [k p (by omega) (by omega) (by omega) (by omega) (by omega) (by omega) (by omega) (by omega)]
          exact g p (by omega) (by omega) (by omega) (by omega) (by omega)
        have sta : ISta M9 := by
          have q := hA
          unfold ISta at q ⊢
          rw [e35, e91, e92, e93, c13, kk 8 (by decide), kk 45 (by decide), kk 46 (by decide), kk 47 (by decide), g 91 (by decide) (by decide) (by decide) (by decide) (by decide), g 92 (by decide) (by decide) (by decide) (by decide) (by decide), g 93 (by decide) (by decide) (by decide) (by decide) (by decide)]
          exact q
        have e33 := hB.2.1
        refine ⟨0, ?_, inv_text hc hI0 (fun p q7 q8 q13 q41 q42 q43 q44 q45 q46 q47 q91 q92 q93 q94 q95 q96 q97 => ?_) (fun j q28 q29 q30 q31 q32 q33 q34 q35 q39 q43 q45 => ?_) ?_ sta⟩
        · rw [hr, ← hM1, ms_f, if_neg (fun z => absurd z.2 (by decide)), f4]
        · rw [k p q13 q91 q92 q93 q94 q95 q96 q97]
          exact g p q7 q41 q42 q43 q44
        · rw [F.2 j q28 q29 q30 q31 q32 q33 q34 q35 q39 q43 q45, c13]
        · refine ⟨by rw [k7]; omega, by rw [k7]; omega, fun j a b => ?_, by rw [k7]; omega⟩
          rw [k7] at b
          exact absurd b (by omega)
      · exfalso
        have := hD.2.2.1.2
        omega
