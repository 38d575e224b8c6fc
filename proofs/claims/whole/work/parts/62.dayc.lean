/-! ===== the day, by the class (wip/gen/p26.py) ===== -/
theorem ms_u {M : Mem} {p : Nat} {i j v : Int} : mset M p i j v p = up2 (M p) i j v := by
  funext a b
  exact ms_f
theorem up2_v {R : Int → Int → Int} {i j v : Int} : up2 R i j v i = updI (R i) j v := by
  funext b
  unfold up2 updI
  simp only [true_and]
theorem up2_f {R : Int → Int → Int} {i j v a b : Int} : up2 R i j v a b = if a = i ∧ b = j then v else R a b := rfl
theorem updI_f {R : Int → Int} {j v b : Int} : updI R j v b = if b = j then v else R b := rfl
def dOf (M : Mem) : DD := mkD (M 11) (M 56 0) (M 57 0) (M 58 0) (M 59 0) (M 10 0 9) (M 60)
def bkA (M : Mem) (r q p : Int) : Int := fhN (M 46 0) (wkL M (vrs M r q p)) 3 (M 8 0 6 - 0).toNat 0
def dx (M : Mem) : DX := ⟨M 10 0 3, M 15 0, M 16 0, M 20 0, M 14 0, M 21 0, M 23, fun r => M 11 r 0, fun r => M 11 r 1, fun r => M 11 r 2, fun r => M 11 r 3, tk M, bkA M⟩
theorem dx_pe {M : Mem} {r : Int} : (dx M).pe r = M 11 r 3 := rfl
theorem dx_be {M : Mem} : (dx M).be = M 14 0 := rfl
def Rep (M : Mem) (D : DD) (M9 : Mem) : Prop := dOf M9 = D ∧ (∀ p, p ≠ 10 → p ≠ 11 → p ≠ 48 → p ≠ 49 → p ≠ 56 → p ≠ 57 → p ≠ 58 → p ≠ 59 → p ≠ 60 → M9 p = M p) ∧ (∀ x f, f ≠ 9 → M9 10 x f = M 10 x f) ∧ (∀ x f, 0 ≤ f → f < 4 → M9 11 x f = M 11 x f)
theorem Rep.refl {M : Mem} : Rep M (dOf M) M := ⟨rfl, fun _ _ _ _ _ _ _ _ _ _ => rfl, fun _ _ _ => rfl, fun _ _ _ _ => rfl⟩
theorem Rep.trans {M M1 M2 : Mem} {D1 D2 : DD} (h1 : Rep M D1 M1) (h2 : Rep M1 D2 M2) : Rep M D2 M2 := ⟨h2.1, fun p a b c d e f g h i => (h2.2.1 p a b c d e f g h i).trans (h1.2.1 p a b c d e f g h i), fun x f h => (h2.2.2.1 x f h).trans (h1.2.2.1 x f h), fun x f a b => (h2.2.2.2 x f a b).trans (h1.2.2.2 x f a b)⟩
theorem dx_rep {M M9 : Mem} {D : DD} (h : Rep M D M9) : dx M9 = dx M := by
  obtain ⟨-, fr, f10, f11⟩ := h
  have e : wkL M9 = wkL M := wkL_mem (fr 45 (by decide) (by decide) (by decide) (by decide) (by decide) (by decide) (by decide) (by decide) (by decide)) (fr 47 (by decide) (by decide) (by decide) (by decide) (by decide) (by decide) (by decide) (by decide) (by decide))
  have w : wv M9 = wv M := by
    funext a b
    unfold wv
    simp (disch := decide) only [fr]
  have t : tk M9 = tk M := by
    funext a b c
    unfold tk
    rw [w]
    simp (disch := decide) only [fr]
  have v : vrs M9 = vrs M := by
    funext r q p j
    unfold vrs ghd shd sln
    rw [w]
    simp (disch := decide) only [fr]
  have b : bkA M9 = bkA M := by
    funext r q p
    unfold bkA
    rw [e, v]
    simp (disch := decide) only [fr]
  unfold dx
  rw [t, b]
  simp (disch := decide) only [fr, f10, f11]
def DayH (M : Mem) : Prop := INet M ∧ IStp M ∧ IRou M ∧ ISky M ∧ ISta M ∧ IRop M ∧ (0 ≤ M 5 0 2 ∧ M 5 0 2 ≤ 999) ∧ M 13 0 25 = M 5 0 2
theorem Rep.day {M M9 : Mem} {D : DD} (h : Rep M D M9) (H : DayH M) : DayH M9 := by
  obtain ⟨-, fr, f10, f11⟩ := h
  obtain ⟨a, b, c, d, e, f, g⟩ := H
  refine ⟨?_, ?_, ?_, ?_, ?_, ?_, ?_⟩
  · simp (disch := decide) only [INet, fr]; exact a
  · simp (disch := decide) only [IStp, fr]; exact b
  · simp (disch := decide) only [IRou, fr]; exact c
  · simp (disch := decide) only [ISky, fr]; exact d
  · simp (disch := decide) only [ISta, fr]; exact e
  · simp (disch := decide) only [IRop, fr, f10, f11]; exact f
  · simp (disch := decide) only [fr]; exact g
theorem DayH.x {M : Mem} (H : DayH M) : XOK (dx M) := by
  obtain ⟨hN, hS, hR, hK, hA, hO, hd⟩ := H
  have n1 := hN.2.2.1
  refine ⟨hO.2.1, fun r r0 r1 => ?_⟩
  obtain ⟨-, p1, p2, p3, p4⟩ := hO.2.2 r r0 r1
  have q1 := hR.2.2.2.1
  obtain ⟨s1, s2⟩ := hR.2.2.2.2 _ p1.1 p1.2
  refine ⟨⟨p1.1, by show M 11 r 0 < 6; omega⟩, p2, p3, p4, s1, fun i i0 i1 => ?_⟩
  have t1 := s2 i i0 i1
  have t2 := hS.2.2.1
  have t3 := hS.2.2.2 _ t1.1 t1.2
  show (0 ≤ M 23 (M 11 r 0) i ∧ M 23 (M 11 r 0) i < 20) ∧ (0 ≤ M 15 0 (M 23 (M 11 r 0) i) ∧ M 15 0 (M 23 (M 11 r 0) i) < 12) ∧ (0 ≤ M 16 0 (M 23 (M 11 r 0) i) ∧ M 16 0 (M 23 (M 11 r 0) i) < 12)
  omega
theorem Rep.rp {M M9 : Mem} {D : DD} {i f v : Int} (h : Rep M D M9) (hf : 4 ≤ f) : Rep M (mkD (up2 D.rp i f v) D.ta D.ly D.ar D.qu D.qn D.sn) (mset M9 11 i f v) := by
  obtain ⟨eD, fr, f10, f11⟩ := h
  refine ⟨?_, fun p a b c d e f g h i => by rw [ms_q b]; exact fr p a b c d e f g h i, fun x f hx => by rw [ms_q (by decide)]; exact f10 x f hx, fun x y y0 y1 => by rw [ms_f, if_neg (fun z => by have := z.2; omega)]; exact f11 x y y0 y1⟩
  rw [← eD]
  unfold dOf
  rw [ms_u, ms_q (by decide), ms_q (by decide), ms_q (by decide), ms_q (by decide), ms_q (by decide), ms_q (by decide)]
  simp only [mk_rp, mk_ta, mk_ly, mk_ar, mk_qu, mk_qn, mk_sn]
theorem Rep.sn {M M9 : Mem} {D : DD} {i f v : Int} (h : Rep M D M9) : Rep M (mkD D.rp D.ta D.ly D.ar D.qu D.qn (up2 D.sn i f v)) (mset M9 60 i f v) := by
  obtain ⟨eD, fr, f10, f11⟩ := h
  refine ⟨?_, fun p a b c d e f g h i => by rw [ms_q i]; exact fr p a b c d e f g h i, fun x f hx => by rw [ms_q (by decide)]; exact f10 x f hx, fun x y y0 y1 => by rw [ms_q (by decide)]; exact f11 x y y0 y1⟩
  rw [← eD]
  unfold dOf
  rw [ms_u, ms_q (by decide), ms_q (by decide), ms_q (by decide), ms_q (by decide), ms_q (by decide), ms_q (by decide)]
  simp only [mk_rp, mk_ta, mk_ly, mk_ar, mk_qu, mk_qn, mk_sn]
theorem Rep.self {M M9 : Mem} {D : DD} (h : Rep M D M9) : Rep M (dOf M9) M9 := by
  rw [h.1]
  exact h
/-- what a run at one rope needs -/
theorem lc_facts {M : Mem} (H : DayH M) (ok : dOK (dx M) (dOf M)) {i : Int} (i0 : 0 ≤ i) (i1 : i < M 10 0 3) : (0 ≤ M 11 i 0 ∧ M 11 i 0 < 6) ∧ (0 ≤ M 23 (M 11 i 0) 0 ∧ M 23 (M 11 i 0) 0 < 20) ∧ (0 ≤ M 15 0 (M 23 (M 11 i 0) 0) ∧ M 15 0 (M 23 (M 11 i 0) 0) < 12) ∧ (0 ≤ M 11 i 7 ∧ M 11 i 7 ≤ 6) ∧ (M 11 i 4 = -4 ∨ ((0 ≤ M 11 i 4 ∧ M 11 i 4 < 20) ∧ (0 ≤ M 16 0 (M 11 i 4) ∧ M 16 0 (M 11 i 4) < 12))) := by
  obtain ⟨x1, x2, x3, x4, x5, x6⟩ := H.x.2 i i0 i1
  obtain ⟨y1, y2⟩ := ok.2.2 i i0 i1
  have y1' : 0 ≤ M 11 i 7 ∧ M 11 i 7 ≤ M 21 0 (M 11 i 0) := y1
  have x5' : 1 ≤ M 21 0 (M 11 i 0) ∧ M 21 0 (M 11 i 0) ≤ 6 := x5
  refine ⟨x1, (x6 0 (by omega) (show (0 : Int) < M 21 0 (M 11 i 0) by omega)).1, (x6 0 (by omega) (show (0 : Int) < M 21 0 (M 11 i 0) by omega)).2.1, by omega, ?_⟩
  rcases y2 with z | ⟨z, z2⟩
  · exact Or.inl z
  · have z' : M 11 i 4 = M 23 (M 11 i 0) (M 11 i 7) := z
    have w := x6 (M 11 i 7) y1'.1 z2
    rw [z']
    exact Or.inr ⟨w.1, w.2.2⟩
theorem brN_1 {D : DD} {k n r : Int} (h0 : 0 ≤ r) (h1 : r < n) (h : D.rp r 4 = k) : brN D k n = 1 := by
  have := brN_sp (D := D) (k := k) n.toNat
  rw [Int.toNat_of_nonneg (by omega)] at this
  rcases this with q | q
  · exact q.1
  · exact absurd h (q.2 r h0 h1)
theorem brN_0 {D : DD} {k n : Int} (hn : 0 ≤ n) (h : ∀ r, 0 ≤ r → r < n → ¬ D.rp r 4 = k) : brN D k n = 0 := by
  have := brN_sp (D := D) (k := k) n.toNat
  rw [Int.toNat_of_nonneg hn] at this
  rcases this with ⟨-, r, a, b, c⟩ | q
  · exact absurd c (h r a b)
  · exact q.1

def sp_cmC : Spec1 := fun as M Q => match as with
  | [.inr (.inr (.inl (q0, i0))), .inl r, .inl p] => match Nat.beq q0 10 with
    | true => (i0 = 0 ∧ (0 ≤ r ∧ r < 8) ∧ (0 ≤ p ∧ p < 12) ∧ (0 ≤ M 10 0 9 ∧ M 10 0 9 ≤ 8)) ∧ ∀ M9, Rep M (comeD r p (dOf M)) M9 → Q none M9
    | false => False
  | _ => False
theorem ok_cmC {l : Launch} {ω : WP} : ∀ as M Q, sp_cmC as M Q → Vd l ω 1 35 as M Q := by
  intro as M Q h
  unfold sp_cmC at h
  split at h
  case h_2 => exact h.elim
  rename_i q0 i0 r p
  cases hb : Nat.beq q0 10 with
  | false => rw [hb] at h; exact h.elim
  | true =>
  rw [hb] at h
  obtain ⟨⟨hi, h1, h2, h3⟩, hQ⟩ := h
  have hb := beq_eq hb
  subst hb
  subst hi
  refine Vd.ok fun hok hal => ?_
  refine Vd_run (GGq_ok (l := l) (ω := ω)) 400 (cut := fun _ => none) (by decide) CutOK_none ?_
  conv => whnf
  repeat' first
    | (refine And.intro (fun h => ?_) (fun h => ?_) <;> (try simp (disch := decide) only [cmp3_lt, cmp3_ge, cmp3_gt, cmp3_le, cmp3_eq, ms_q, ms_f, mf_q, mf_f, mc_q, mc_f, and_self, and_true, true_and, and_false, false_and, or_true, true_or, or_false, false_or, if_true, if_false, not_true_eq_false, not_false_eq_true, eq_self, reduceIte, Int.reduceEq, Int.reduceLT, Int.reduceLE, Int.reduceNeg, Int.reduceAdd, Int.reduceSub, Int.reduceMul, Int.add_sub_cancel] at h) <;> (try simp (disch := omega) only [w32_e, w64_e, td_pos, tm_pos, Int.add_sub_cancel] at h) <;> first | exact absurd rfl h | exact absurd h (by decide) | (exfalso; omega) | (conv => whnf))
    | (refine And.intro (by first | omega | ((try simp (disch := decide) only [cmp3_lt, cmp3_ge, cmp3_gt, cmp3_le, cmp3_eq, ms_q, ms_f, mf_q, mf_f, mc_q, mc_f, and_self, and_true, true_and, and_false, false_and, or_true, true_or, or_false, false_or, if_true, if_false, not_true_eq_false, not_false_eq_true, eq_self, reduceIte, Int.reduceEq, Int.reduceLT, Int.reduceLE, Int.reduceNeg, Int.reduceAdd, Int.reduceSub, Int.reduceMul, Int.add_sub_cancel]); (try simp (disch := omega) only [w32_e, w64_e, td_pos, tm_pos, Int.add_sub_cancel]); first | assumption | omega) | ((try simp (disch := decide) only [cmp3_lt, cmp3_ge, cmp3_gt, cmp3_le, cmp3_eq, ms_q, ms_f, mf_q, mf_f, mc_q, mc_f, and_self, and_true, true_and, and_false, false_and, or_true, true_or, or_false, false_or, if_true, if_false, not_true_eq_false, not_false_eq_true, eq_self, reduceIte, Int.reduceEq, Int.reduceLT, Int.reduceLE, Int.reduceNeg, Int.reduceAdd, Int.reduceSub, Int.reduceMul, Int.add_sub_cancel]); (try simp (disch := omega) only [w32_e, w64_e, td_pos, tm_pos, Int.add_sub_cancel]); ((repeat' (first | assumption | omega | with_reducible rfl | apply And.intro)); done))) ?_; conv => whnf)
    | (intro v; intro hv; conv => whnf)
  all_goals ((try simp (disch := decide) only [cmp3_lt, cmp3_ge, cmp3_gt, cmp3_le, cmp3_eq, ms_q, ms_f, mf_q, mf_f, mc_q, mc_f, and_self, and_true, true_and, and_false, false_and, or_true, true_or, or_false, false_or, if_true, if_false, not_true_eq_false, not_false_eq_true, eq_self, reduceIte, Int.reduceEq, Int.reduceLT, Int.reduceLE, Int.reduceNeg, Int.reduceAdd, Int.reduceSub, Int.reduceMul, Int.add_sub_cancel] at *); (try simp (disch := omega) only [w32_e, w64_e, td_pos, tm_pos, Int.add_sub_cancel] at *))
  all_goals (refine hQ _ ⟨?_, ?_, ?_, ?_⟩)
  all_goals first
    | (first | have hx : M 10 0 9 < 8 := by omega | have hx : ¬ M 10 0 9 < 8 := by omega
       simp (disch := decide) only [mk_rp, mk_ta, mk_ly, mk_ar, mk_qu, mk_qn, mk_sn, dOf, comeD, hx, ms_q, ms_u, up2_v, up2_f, updI_f, and_self, and_true, true_and, and_false, false_and, or_true, true_or, or_false, false_or, if_true, if_false, not_true_eq_false, not_false_eq_true, eq_self, reduceIte, Int.reduceEq, Int.reduceLT, Int.reduceLE, Int.reduceNeg, Int.reduceAdd, Int.reduceSub, Int.reduceMul, Int.add_sub_cancel]
       try simp (disch := omega) only [w32_e]
       done)
    | (intro p a b c d e f g h i
       first | rfl | simp only [ms_q a, ms_q b, ms_q c, ms_q d, ms_q e, ms_q f, ms_q g, ms_q h, ms_q i])
    | (intro x f hf
       first | rfl | (simp (disch := decide) only [ms_q, ms_f]; first | done | (rw [if_neg (fun z => hf z.2)])))
    | (intro x f f0 f1
       first | rfl | (simp (disch := decide) only [ms_q, ms_f]; first | done | ((repeat' rw [if_neg (fun z => by have := z.2; omega)]); done)))

def sp_fiC : Spec1 := fun as M Q => match as with
  | [.inr (.inr (.inl (q0, i0))), .inr (.inr (.inl (q1, r))), .inl q] => match Nat.beq q0 10 with
    | true => (i0 = 0 ∧ q1 = 11 ∧ (0 ≤ r ∧ r < 8) ∧ (0 ≤ M 11 r 6 ∧ M 11 r 6 < 12)) ∧ ∀ M9, Rep M (finD (dx M) r q (dOf M)) M9 → Q none M9
    | false => False
  | _ => False
theorem ok_fiC {l : Launch} {ω : WP} : ∀ as M Q, sp_fiC as M Q → Vd l ω 1 39 as M Q := by
  intro as M Q h
  unfold sp_fiC at h
  split at h
  case h_2 => exact h.elim
  rename_i q0 i0 q1 r q
  cases hb : Nat.beq q0 10 with
  | false => rw [hb] at h; exact h.elim
  | true =>
  rw [hb] at h
  obtain ⟨⟨hi, hq1, h1, h2⟩, hQ⟩ := h
  have hb := beq_eq hb
  subst hb
  subst hi
  refine Vd.ok fun hok hal => ?_
  subst hq1
  refine Vd_run (GGq_ok (l := l) (ω := ω)) 400 (cut := fun _ => none) (by decide) CutOK_none ?_
  conv => whnf
  repeat' first
    | (refine And.intro (fun h => ?_) (fun h => ?_) <;> (try simp (disch := decide) only [cmp3_lt, cmp3_ge, cmp3_gt, cmp3_le, cmp3_eq, ms_q, ms_f, mf_q, mf_f, mc_q, mc_f, and_self, and_true, true_and, and_false, false_and, or_true, true_or, or_false, false_or, if_true, if_false, not_true_eq_false, not_false_eq_true, eq_self, reduceIte, Int.reduceEq, Int.reduceLT, Int.reduceLE, Int.reduceNeg, Int.reduceAdd, Int.reduceSub, Int.reduceMul, Int.add_sub_cancel] at h) <;> (try simp (disch := omega) only [w32_e, w64_e, td_pos, tm_pos, Int.add_sub_cancel] at h) <;> first | exact absurd rfl h | exact absurd h (by decide) | (exfalso; omega) | (conv => whnf))
    | (refine And.intro (by first | omega | ((try simp (disch := decide) only [cmp3_lt, cmp3_ge, cmp3_gt, cmp3_le, cmp3_eq, ms_q, ms_f, mf_q, mf_f, mc_q, mc_f, and_self, and_true, true_and, and_false, false_and, or_true, true_or, or_false, false_or, if_true, if_false, not_true_eq_false, not_false_eq_true, eq_self, reduceIte, Int.reduceEq, Int.reduceLT, Int.reduceLE, Int.reduceNeg, Int.reduceAdd, Int.reduceSub, Int.reduceMul, Int.add_sub_cancel]); (try simp (disch := omega) only [w32_e, w64_e, td_pos, tm_pos, Int.add_sub_cancel]); first | assumption | omega) | ((try simp (disch := decide) only [cmp3_lt, cmp3_ge, cmp3_gt, cmp3_le, cmp3_eq, ms_q, ms_f, mf_q, mf_f, mc_q, mc_f, and_self, and_true, true_and, and_false, false_and, or_true, true_or, or_false, false_or, if_true, if_false, not_true_eq_false, not_false_eq_true, eq_self, reduceIte, Int.reduceEq, Int.reduceLT, Int.reduceLE, Int.reduceNeg, Int.reduceAdd, Int.reduceSub, Int.reduceMul, Int.add_sub_cancel]); (try simp (disch := omega) only [w32_e, w64_e, td_pos, tm_pos, Int.add_sub_cancel]); ((repeat' (first | assumption | omega | with_reducible rfl | apply And.intro)); done))) ?_; conv => whnf)
    | (intro v; intro hv; conv => whnf)
  all_goals ((try simp (disch := decide) only [cmp3_lt, cmp3_ge, cmp3_gt, cmp3_le, cmp3_eq, ms_q, ms_f, mf_q, mf_f, mc_q, mc_f, and_self, and_true, true_and, and_false, false_and, or_true, true_or, or_false, false_or, if_true, if_false, not_true_eq_false, not_false_eq_true, eq_self, reduceIte, Int.reduceEq, Int.reduceLT, Int.reduceLE, Int.reduceNeg, Int.reduceAdd, Int.reduceSub, Int.reduceMul, Int.add_sub_cancel] at *); (try simp (disch := omega) only [w32_e, w64_e, td_pos, tm_pos, Int.add_sub_cancel] at *))
  all_goals (refine hQ _ ⟨?_, ?_, ?_, ?_⟩)
  all_goals first
    | (simp (disch := decide) only [mk_rp, mk_ta, mk_ly, mk_ar, mk_qu, mk_qn, mk_sn, dOf, finD, bdD, dx_pe, dx_be, ms_q, ms_u, up2_v, up2_f, updI_f, and_self, and_true, true_and, and_false, false_and, or_true, true_or, or_false, false_or, if_true, if_false, not_true_eq_false, not_false_eq_true, eq_self, reduceIte, Int.reduceEq, Int.reduceLT, Int.reduceLE, Int.reduceNeg, Int.reduceAdd, Int.reduceSub, Int.reduceMul, Int.add_sub_cancel]
       try simp (disch := omega) only [w32_e]
       done)
    | (intro p a b c d e f g h i
       first | rfl | simp only [ms_q a, ms_q b, ms_q c, ms_q d, ms_q e, ms_q f, ms_q g, ms_q h, ms_q i])
    | (intro x f hf
       first | rfl | (simp (disch := decide) only [ms_q, ms_f]; first | done | (rw [if_neg (fun z => hf z.2)])))
    | (intro x f f0 f1
       first | rfl | (simp (disch := decide) only [ms_q, ms_f]; first | done | ((repeat' rw [if_neg (fun z => by have := z.2; omega)]); done)))

def sp_ibC : Spec1 := fun as M Q => match as with
  | [.inr (.inr (.inl (q0, i0))), .inl k] => match Nat.beq q0 10 with
    | true => (i0 = 0 ∧ (0 ≤ M 10 0 3 ∧ M 10 0 3 ≤ 8)) ∧ Q (some (vI (brN (dOf M) k (M 10 0 3)))) M
    | false => False
  | _ => False
theorem ok_ibC {l : Launch} {ω : WP} : ∀ as M Q, sp_ibC as M Q → Vd l ω 1 38 as M Q := by
  intro as M Q h
  unfold sp_ibC at h
  split at h
  case h_2 => exact h.elim
  rename_i q0 i0 k
  cases hb : Nat.beq q0 10 with
  | false => rw [hb] at h; exact h.elim
  | true =>
  rw [hb] at h
  obtain ⟨⟨hi, h1⟩, hQ⟩ := h
  have hb := beq_eq hb
  subst hb
  subst hi
  refine Vd.ok fun hok hal => ?_
  have key : ∀ n9, CutOK l ω 1 38 (cutL [(2, [0, 1, 2], fun kk vs M9 => ∃ i : Int, vs = [vR 10 0, vI k, vI i] ∧ M = M9 ∧ kk = (M 10 0 3 - i).toNat ∧ (0 ≤ i ∧ i ≤ M 10 0 3) ∧ (∀ j, 0 ≤ j → j < i → ¬ M 11 j 4 = k))] n9) Q := by
    refine loops (GGq_ok (l := l) (ω := ω)) 200 _ ?_
    refine List.forall_mem_cons.mpr ⟨?_, fun _ h => absurd h List.not_mem_nil⟩
    · rintro n9 vs M9 ⟨i, rfl, rfl, rfl, i0, lo⟩
      show wpH _ 200 _ 38 _ true 2 [vR 10 0, vI k, vI i] [] _ Q
      conv => whnf
      repeat' first
        | (refine And.intro (fun h => ?_) (fun h => ?_) <;> (try simp (disch := decide) only [cmp3_lt, cmp3_ge, cmp3_gt, cmp3_le, cmp3_eq, ms_q, ms_f, mf_q, mf_f, mc_q, mc_f, and_self, and_true, true_and, and_false, false_and, or_true, true_or, or_false, false_or, if_true, if_false, not_true_eq_false, not_false_eq_true, eq_self, reduceIte, Int.reduceEq, Int.reduceLT, Int.reduceLE, Int.reduceNeg, Int.reduceAdd, Int.reduceSub, Int.reduceMul, Int.add_sub_cancel] at h) <;> (try simp (disch := omega) only [w32_e, w64_e, td_pos, tm_pos, Int.add_sub_cancel] at h) <;> first | exact absurd rfl h | exact absurd h (by decide) | (exfalso; omega) | (conv => whnf))
        | (refine And.intro (by first | omega | ((try simp (disch := decide) only [cmp3_lt, cmp3_ge, cmp3_gt, cmp3_le, cmp3_eq, ms_q, ms_f, mf_q, mf_f, mc_q, mc_f, and_self, and_true, true_and, and_false, false_and, or_true, true_or, or_false, false_or, if_true, if_false, not_true_eq_false, not_false_eq_true, eq_self, reduceIte, Int.reduceEq, Int.reduceLT, Int.reduceLE, Int.reduceNeg, Int.reduceAdd, Int.reduceSub, Int.reduceMul, Int.add_sub_cancel]); (try simp (disch := omega) only [w32_e, w64_e, td_pos, tm_pos, Int.add_sub_cancel]); first | assumption | omega) | ((try simp (disch := decide) only [cmp3_lt, cmp3_ge, cmp3_gt, cmp3_le, cmp3_eq, ms_q, ms_f, mf_q, mf_f, mc_q, mc_f, and_self, and_true, true_and, and_false, false_and, or_true, true_or, or_false, false_or, if_true, if_false, not_true_eq_false, not_false_eq_true, eq_self, reduceIte, Int.reduceEq, Int.reduceLT, Int.reduceLE, Int.reduceNeg, Int.reduceAdd, Int.reduceSub, Int.reduceMul, Int.add_sub_cancel]); (try simp (disch := omega) only [w32_e, w64_e, td_pos, tm_pos, Int.add_sub_cancel]); ((repeat' (first | assumption | omega | with_reducible rfl | apply And.intro)); done))) ?_; conv => whnf)
        | (intro v; intro hv; conv => whnf)
      all_goals first
        | exact Eq.mp (congrArg (fun z => Q (some (vI z)) M) (brN_0 (D := dOf M) h1.1 (fun j j0 j1 => lo j j0 (by omega)))) hQ
        | exact Eq.mp (congrArg (fun z => Q (some (vI z)) M) (brN_1 (D := dOf M) i0.1 (by omega) h)) hQ
        | (refine ⟨_, ?_, i + 1, by rw [w32_e (by omega) (by omega)], rfl, rfl, ⟨by omega, by omega⟩, fun j j0 j1 => ?_⟩
           · omega
           · by_cases e : j = i
             · rw [e]
               exact h
             · exact lo j j0 (by omega))
  refine Vd_run (GGq_ok (l := l) (ω := ω)) 200 (hC := key 100) (by decide) ?_
  conv => whnf
  repeat' first
    | (refine And.intro (fun h => ?_) (fun h => ?_) <;> (try simp (disch := decide) only [cmp3_lt, cmp3_ge, cmp3_gt, cmp3_le, cmp3_eq, ms_q, ms_f, mf_q, mf_f, mc_q, mc_f, and_self, and_true, true_and, and_false, false_and, or_true, true_or, or_false, false_or, if_true, if_false, not_true_eq_false, not_false_eq_true, eq_self, reduceIte, Int.reduceEq, Int.reduceLT, Int.reduceLE, Int.reduceNeg, Int.reduceAdd, Int.reduceSub, Int.reduceMul, Int.add_sub_cancel] at h) <;> (try simp (disch := omega) only [w32_e, w64_e, td_pos, tm_pos, Int.add_sub_cancel] at h) <;> first | exact absurd rfl h | exact absurd h (by decide) | (exfalso; omega) | (conv => whnf))
    | (refine And.intro (by first | omega | ((try simp (disch := decide) only [cmp3_lt, cmp3_ge, cmp3_gt, cmp3_le, cmp3_eq, ms_q, ms_f, mf_q, mf_f, mc_q, mc_f, and_self, and_true, true_and, and_false, false_and, or_true, true_or, or_false, false_or, if_true, if_false, not_true_eq_false, not_false_eq_true, eq_self, reduceIte, Int.reduceEq, Int.reduceLT, Int.reduceLE, Int.reduceNeg, Int.reduceAdd, Int.reduceSub, Int.reduceMul, Int.add_sub_cancel]); (try simp (disch := omega) only [w32_e, w64_e, td_pos, tm_pos, Int.add_sub_cancel]); first | assumption | omega) | ((try simp (disch := decide) only [cmp3_lt, cmp3_ge, cmp3_gt, cmp3_le, cmp3_eq, ms_q, ms_f, mf_q, mf_f, mc_q, mc_f, and_self, and_true, true_and, and_false, false_and, or_true, true_or, or_false, false_or, if_true, if_false, not_true_eq_false, not_false_eq_true, eq_self, reduceIte, Int.reduceEq, Int.reduceLT, Int.reduceLE, Int.reduceNeg, Int.reduceAdd, Int.reduceSub, Int.reduceMul, Int.add_sub_cancel]); (try simp (disch := omega) only [w32_e, w64_e, td_pos, tm_pos, Int.add_sub_cancel]); ((repeat' (first | assumption | omega | with_reducible rfl | apply And.intro)); done))) ?_; conv => whnf)
    | (intro v; intro hv; conv => whnf)
  all_goals
    (refine ⟨_, ?_, 0, rfl, rfl, rfl, ⟨Int.le_refl _, h1.1⟩, fun j j0 j1 => ?_⟩
     · omega
     · omega)

def GLs : List (Nat × Nat × Spec1) := (35, 1, sp_cmC) :: (39, 1, sp_fiC) :: (38, 1, sp_ibC) :: GLq
abbrev GGs : Env1 := fun n => getG n GLs
theorem GGs_all {l : Launch} {ω : WP} : ∀ e ∈ GLs, ∀ as M Q, e.2.2 as M Q → Vd l ω e.2.1 e.1 as M Q := List.forall_mem_cons.mpr ⟨ok_cmC, List.forall_mem_cons.mpr ⟨ok_fiC, List.forall_mem_cons.mpr ⟨ok_ibC, GGq_all⟩⟩⟩
theorem GGs_ok {l : Launch} {ω : WP} : GOK l ω GGs := getG_ok GLs GGs_all

def sp_lcC : Spec1 := fun as M Q => match as with
  | [.inr (.inr (.inl (q0, i0))), .inl q] => match Nat.beq q0 10 with
    | true => (i0 = 0 ∧ DayH M ∧ dOK (dx M) (dOf M)) ∧ ∀ M9, Rep M (lcN (dx M) q (dOf M) (M 10 0 3)) M9 → Q none M9
    | false => False
  | _ => False
theorem ok_lcC {l : Launch} {ω : WP} : ∀ as M Q, sp_lcC as M Q → Vd l ω 2 34 as M Q := by
  intro as M Q h
  unfold sp_lcC at h
  split at h
  case h_2 => exact h.elim
  rename_i q0 i0 q
  cases hb : Nat.beq q0 10 with
  | false => rw [hb] at h; exact h.elim
  | true =>
  rw [hb] at h
  obtain ⟨⟨hi, hH, hD⟩, hQ⟩ := h
  have hb := beq_eq hb
  subst hb
  subst hi
  refine Vd.ok fun hok hal => ?_
  have hX := hH.x
  have n8 : 0 ≤ M 10 0 3 ∧ M 10 0 3 ≤ 8 := hX.1
  have key : ∀ n9, CutOK l ω 2 34 (cutL [(2, [0, 1, 2], fun kk vs M9 => ∃ i : Int, vs = [vR 10 0, vI q, vI i] ∧ kk = (M 10 0 3 - i).toNat ∧ (0 ≤ i ∧ i ≤ M 10 0 3) ∧ Rep M (lcN (dx M) q (dOf M) i) M9)] n9) Q := by
    refine loops (GGs_ok (l := l) (ω := ω)) 300 _ ?_
    refine List.forall_mem_cons.mpr ⟨?_, fun _ h => absurd h List.not_mem_nil⟩
    · rintro n9 vs M9 ⟨i, rfl, rfl, i0, rp⟩
      obtain ⟨eD, fr, f10, f11⟩ := id rp
      have xe := dx_rep rp
      have H9 := rp.day hH
      have e10 : M9 10 0 3 = M 10 0 3 := f10 0 3 (by decide)
      have ok9 := ok_lcI (q := q) hX hD i0
      rw [← eD, ← xe] at ok9
      have lf : i < M 10 0 3 → _ := fun z => lc_facts H9 ok9 i0.1 (by rw [e10]; exact z)
      have rp' := rp.self
      have ei : w32 (i + 1) = i + 1 := w32_e (by omega) (by omega)
      have oq : 0 ≤ M9 10 0 9 ∧ M9 10 0 9 ≤ 8 := ok9.1
      show wpH _ 300 _ 34 _ true 2 [vR 10 0, vI q, vI i, vU] [] _ Q
      conv => whnf
      repeat' first
        | (refine And.intro (fun h => ?_) (fun h => ?_) <;> (try simp (disch := decide) only [cmp3_lt, cmp3_ge, cmp3_gt, cmp3_le, cmp3_eq, ms_q, ms_f, mf_q, mf_f, mc_q, mc_f, and_self, and_true, true_and, and_false, false_and, or_true, true_or, or_false, false_or, if_true, if_false, not_true_eq_false, not_false_eq_true, eq_self, reduceIte, Int.reduceEq, Int.reduceLT, Int.reduceLE, Int.reduceNeg, Int.reduceAdd, Int.reduceSub, Int.reduceMul, Int.add_sub_cancel] at h) <;> (try simp (disch := omega) only [w32_e, w64_e, td_pos, tm_pos, Int.add_sub_cancel] at h) <;> first | exact absurd rfl h | exact absurd h (by decide) | (exfalso; omega) | (conv => whnf))
        | (refine And.intro (by first | omega | ((try simp (disch := decide) only [cmp3_lt, cmp3_ge, cmp3_gt, cmp3_le, cmp3_eq, ms_q, ms_f, mf_q, mf_f, mc_q, mc_f, and_self, and_true, true_and, and_false, false_and, or_true, true_or, or_false, false_or, if_true, if_false, not_true_eq_false, not_false_eq_true, eq_self, reduceIte, Int.reduceEq, Int.reduceLT, Int.reduceLE, Int.reduceNeg, Int.reduceAdd, Int.reduceSub, Int.reduceMul, Int.add_sub_cancel]); (try simp (disch := omega) only [w32_e, w64_e, td_pos, tm_pos, Int.add_sub_cancel]); first | assumption | omega) | ((try simp (disch := decide) only [cmp3_lt, cmp3_ge, cmp3_gt, cmp3_le, cmp3_eq, ms_q, ms_f, mf_q, mf_f, mc_q, mc_f, and_self, and_true, true_and, and_false, false_and, or_true, true_or, or_false, false_or, if_true, if_false, not_true_eq_false, not_false_eq_true, eq_self, reduceIte, Int.reduceEq, Int.reduceLT, Int.reduceLE, Int.reduceNeg, Int.reduceAdd, Int.reduceSub, Int.reduceMul, Int.add_sub_cancel]); (try simp (disch := omega) only [w32_e, w64_e, td_pos, tm_pos, Int.add_sub_cancel]); ((repeat' (first | assumption | omega | with_reducible rfl | apply And.intro)); done))) ?_; conv => whnf)
        | (intro v; intro hv; conv => whnf)
      all_goals first
        | (have e9 : i = M 10 0 3 := by omega
           rw [e9] at rp
           exact hQ _ rp)
        | (refine ⟨_, ?_, i + 1, by rw [ei], rfl, ⟨by omega, by omega⟩, ?_⟩
           · omega
           rw [lcN_s i0.1, ← eD, ← xe]
           unfold lcS
           first
             | (rw [if_neg (show ¬ (dx M9).sa i = q from (by omega : ¬ M9 11 i 2 = q)), if_neg (show ¬ (¬ (dOf M9).rp i 4 = -4 ∧ (dOf M9).rp i 5 = q) from (by omega : ¬ (¬ M9 11 i 4 = -4 ∧ M9 11 i 5 = q)))]
                exact rp')
             | (rw [if_pos (show (dx M9).sa i = q from (by omega : M9 11 i 2 = q))]
                exact rp'.trans hv)
             | (rw [if_neg (show ¬ (dx M9).sa i = q from (by omega : ¬ M9 11 i 2 = q)), if_pos (show ¬ (dOf M9).rp i 4 = -4 ∧ (dOf M9).rp i 5 = q from (by omega : ¬ M9 11 i 4 = -4 ∧ M9 11 i 5 = q))]
                have r7 := rp'.rp (i := i) (f := 7) (v := w32 (M9 11 i 7 + 1)) (by decide)
                have fin := Rep.trans r7 hv
                rw [r7.1, ms_q (show (16 : Nat) ≠ 11 by decide), ms_f, if_neg (fun z => absurd z.2 (by decide))] at fin
                exact fin))
  refine Vd_run (GGs_ok (l := l) (ω := ω)) 300 (hC := key 100) (by decide) ?_
  conv => whnf
  repeat' first
    | (refine And.intro (fun h => ?_) (fun h => ?_) <;> (try simp (disch := decide) only [cmp3_lt, cmp3_ge, cmp3_gt, cmp3_le, cmp3_eq, ms_q, ms_f, mf_q, mf_f, mc_q, mc_f, and_self, and_true, true_and, and_false, false_and, or_true, true_or, or_false, false_or, if_true, if_false, not_true_eq_false, not_false_eq_true, eq_self, reduceIte, Int.reduceEq, Int.reduceLT, Int.reduceLE, Int.reduceNeg, Int.reduceAdd, Int.reduceSub, Int.reduceMul, Int.add_sub_cancel] at h) <;> (try simp (disch := omega) only [w32_e, w64_e, td_pos, tm_pos, Int.add_sub_cancel] at h) <;> first | exact absurd rfl h | exact absurd h (by decide) | (exfalso; omega) | (conv => whnf))
    | (refine And.intro (by first | omega | ((try simp (disch := decide) only [cmp3_lt, cmp3_ge, cmp3_gt, cmp3_le, cmp3_eq, ms_q, ms_f, mf_q, mf_f, mc_q, mc_f, and_self, and_true, true_and, and_false, false_and, or_true, true_or, or_false, false_or, if_true, if_false, not_true_eq_false, not_false_eq_true, eq_self, reduceIte, Int.reduceEq, Int.reduceLT, Int.reduceLE, Int.reduceNeg, Int.reduceAdd, Int.reduceSub, Int.reduceMul, Int.add_sub_cancel]); (try simp (disch := omega) only [w32_e, w64_e, td_pos, tm_pos, Int.add_sub_cancel]); first | assumption | omega) | ((try simp (disch := decide) only [cmp3_lt, cmp3_ge, cmp3_gt, cmp3_le, cmp3_eq, ms_q, ms_f, mf_q, mf_f, mc_q, mc_f, and_self, and_true, true_and, and_false, false_and, or_true, true_or, or_false, false_or, if_true, if_false, not_true_eq_false, not_false_eq_true, eq_self, reduceIte, Int.reduceEq, Int.reduceLT, Int.reduceLE, Int.reduceNeg, Int.reduceAdd, Int.reduceSub, Int.reduceMul, Int.add_sub_cancel]); (try simp (disch := omega) only [w32_e, w64_e, td_pos, tm_pos, Int.add_sub_cancel]); ((repeat' (first | assumption | omega | with_reducible rfl | apply And.intro)); done))) ?_; conv => whnf)
    | (intro v; intro hv; conv => whnf)
  all_goals
    (refine ⟨_, ?_, 0, rfl, rfl, ⟨Int.le_refl _, n8.1⟩, Rep.refl⟩
     omega)

def sp_lkC : Spec1 := fun as M Q => match as with
  | [.inr (.inr (.inl (q0, i0))), .inl q] => match Nat.beq q0 10 with
    | true => (i0 = 0 ∧ (0 ≤ M 10 0 3 ∧ M 10 0 3 ≤ 8) ∧ (0 ≤ q ∧ q ≤ 95)) ∧ ∀ M9, Rep M (lkN q (dOf M) (M 10 0 3)) M9 → Q none M9
    | false => False
  | _ => False
theorem ok_lkC {l : Launch} {ω : WP} : ∀ as M Q, sp_lkC as M Q → Vd l ω 1 40 as M Q := by
  intro as M Q h
  unfold sp_lkC at h
  split at h
  case h_2 => exact h.elim
  rename_i q0 i0 q
  cases hb : Nat.beq q0 10 with
  | false => rw [hb] at h; exact h.elim
  | true =>
  rw [hb] at h
  obtain ⟨⟨hi, n8, hq⟩, hQ⟩ := h
  have hb := beq_eq hb
  subst hb
  subst hi
  refine Vd.ok fun hok hal => ?_
  have key : ∀ n9, CutOK l ω 1 40 (cutL [(2, [0, 1, 2], fun kk vs M9 => ∃ i : Int, vs = [vR 10 0, vI q, vI i] ∧ kk = (M 10 0 3 - i).toNat ∧ (0 ≤ i ∧ i ≤ M 10 0 3) ∧ Rep M (lkN q (dOf M) i) M9)] n9) Q := by
    refine loops (GGs_ok (l := l) (ω := ω)) 300 _ ?_
    refine List.forall_mem_cons.mpr ⟨?_, fun _ h => absurd h List.not_mem_nil⟩
    · rintro n9 vs M9 ⟨i, rfl, rfl, i0, rp⟩
      obtain ⟨eD, fr, f10, f11⟩ := id rp
      have e10 : M9 10 0 3 = M 10 0 3 := f10 0 3 (by decide)
      have rp' := rp.self
      have ei : w32 (i + 1) = i + 1 := w32_e (by omega) (by omega)
      show wpH _ 300 _ 40 _ true 2 [vR 10 0, vI q, vI i, vU] [] _ Q
      conv => whnf
      repeat' first
        | (refine And.intro (fun h => ?_) (fun h => ?_) <;> (try simp (disch := decide) only [cmp3_lt, cmp3_ge, cmp3_gt, cmp3_le, cmp3_eq, ms_q, ms_f, mf_q, mf_f, mc_q, mc_f, and_self, and_true, true_and, and_false, false_and, or_true, true_or, or_false, false_or, if_true, if_false, not_true_eq_false, not_false_eq_true, eq_self, reduceIte, Int.reduceEq, Int.reduceLT, Int.reduceLE, Int.reduceNeg, Int.reduceAdd, Int.reduceSub, Int.reduceMul, Int.add_sub_cancel] at h) <;> (try simp (disch := omega) only [w32_e, w64_e, td_pos, tm_pos, Int.add_sub_cancel] at h) <;> first | exact absurd rfl h | exact absurd h (by decide) | (exfalso; omega) | (conv => whnf))
        | (refine And.intro (by first | omega | ((try simp (disch := decide) only [cmp3_lt, cmp3_ge, cmp3_gt, cmp3_le, cmp3_eq, ms_q, ms_f, mf_q, mf_f, mc_q, mc_f, and_self, and_true, true_and, and_false, false_and, or_true, true_or, or_false, false_or, if_true, if_false, not_true_eq_false, not_false_eq_true, eq_self, reduceIte, Int.reduceEq, Int.reduceLT, Int.reduceLE, Int.reduceNeg, Int.reduceAdd, Int.reduceSub, Int.reduceMul, Int.add_sub_cancel]); (try simp (disch := omega) only [w32_e, w64_e, td_pos, tm_pos, Int.add_sub_cancel]); first | assumption | omega) | ((try simp (disch := decide) only [cmp3_lt, cmp3_ge, cmp3_gt, cmp3_le, cmp3_eq, ms_q, ms_f, mf_q, mf_f, mc_q, mc_f, and_self, and_true, true_and, and_false, false_and, or_true, true_or, or_false, false_or, if_true, if_false, not_true_eq_false, not_false_eq_true, eq_self, reduceIte, Int.reduceEq, Int.reduceLT, Int.reduceLE, Int.reduceNeg, Int.reduceAdd, Int.reduceSub, Int.reduceMul, Int.add_sub_cancel]); (try simp (disch := omega) only [w32_e, w64_e, td_pos, tm_pos, Int.add_sub_cancel]); ((repeat' (first | assumption | omega | with_reducible rfl | apply And.intro)); done))) ?_; conv => whnf)
        | (intro v; intro hv; conv => whnf)
      all_goals first
        | (have e9 : i = M 10 0 3 := by omega
           rw [e9] at rp
           exact hQ _ rp)
        | (refine ⟨_, ?_, i + 1, by rw [ei], rfl, ⟨by omega, by omega⟩, ?_⟩
           · omega
           rw [lkN_s i0.1, ← eD]
           unfold lkS
           first
             | (rw [if_neg (show ¬ (dOf M9).rp i 4 = -4 from (by omega : ¬ M9 11 i 4 = -4))]
                exact rp'.sn)
             | (rw [if_pos (show (dOf M9).rp i 4 = -4 from (by omega : M9 11 i 4 = -4))]
                exact rp'.sn))
  refine Vd_run (GGs_ok (l := l) (ω := ω)) 300 (hC := key 100) (by decide) ?_
  conv => whnf
  repeat' first
    | (refine And.intro (fun h => ?_) (fun h => ?_) <;> (try simp (disch := decide) only [cmp3_lt, cmp3_ge, cmp3_gt, cmp3_le, cmp3_eq, ms_q, ms_f, mf_q, mf_f, mc_q, mc_f, and_self, and_true, true_and, and_false, false_and, or_true, true_or, or_false, false_or, if_true, if_false, not_true_eq_false, not_false_eq_true, eq_self, reduceIte, Int.reduceEq, Int.reduceLT, Int.reduceLE, Int.reduceNeg, Int.reduceAdd, Int.reduceSub, Int.reduceMul, Int.add_sub_cancel] at h) <;> (try simp (disch := omega) only [w32_e, w64_e, td_pos, tm_pos, Int.add_sub_cancel] at h) <;> first | exact absurd rfl h | exact absurd h (by decide) | (exfalso; omega) | (conv => whnf))
    | (refine And.intro (by first | omega | ((try simp (disch := decide) only [cmp3_lt, cmp3_ge, cmp3_gt, cmp3_le, cmp3_eq, ms_q, ms_f, mf_q, mf_f, mc_q, mc_f, and_self, and_true, true_and, and_false, false_and, or_true, true_or, or_false, false_or, if_true, if_false, not_true_eq_false, not_false_eq_true, eq_self, reduceIte, Int.reduceEq, Int.reduceLT, Int.reduceLE, Int.reduceNeg, Int.reduceAdd, Int.reduceSub, Int.reduceMul, Int.add_sub_cancel]); (try simp (disch := omega) only [w32_e, w64_e, td_pos, tm_pos, Int.add_sub_cancel]); first | assumption | omega) | ((try simp (disch := decide) only [cmp3_lt, cmp3_ge, cmp3_gt, cmp3_le, cmp3_eq, ms_q, ms_f, mf_q, mf_f, mc_q, mc_f, and_self, and_true, true_and, and_false, false_and, or_true, true_or, or_false, false_or, if_true, if_false, not_true_eq_false, not_false_eq_true, eq_self, reduceIte, Int.reduceEq, Int.reduceLT, Int.reduceLE, Int.reduceNeg, Int.reduceAdd, Int.reduceSub, Int.reduceMul, Int.add_sub_cancel]); (try simp (disch := omega) only [w32_e, w64_e, td_pos, tm_pos, Int.add_sub_cancel]); ((repeat' (first | assumption | omega | with_reducible rfl | apply And.intro)); done))) ?_; conv => whnf)
    | (intro v; intro hv; conv => whnf)
  all_goals
    (refine ⟨_, ?_, 0, rfl, rfl, ⟨Int.le_refl _, n8.1⟩, Rep.refl⟩
     omega)
