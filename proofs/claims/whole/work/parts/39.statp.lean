/-! ===== pairs why, pay, asked (wip/gen/p17.py) ===== -/
theorem sums_in {M : Mem} {r : Int} (hS : IStp M) (hR : IRou M) (r0 : 0 ≤ r) (r1 : r < M 1 0 9) : ∀ k : Nat, (k : Int) ≤ M 21 0 r → (0 ≤ ghd M r (k : Int) ∧ ghd M r (k : Int) ≤ 5) ∧ (0 ≤ shd M r (k : Int) ∧ shd M r (k : Int) ≤ 5 * (k : Int)) ∧ (0 ≤ sln M r (k : Int) ∧ sln M r (k : Int) ≤ 9 * (k : Int))
  | 0, _ => ⟨⟨Int.le_refl _, by show (0 : Int) ≤ 5; decide⟩, ⟨Int.le_refl _, Int.le_refl _⟩, ⟨Int.le_refl _, Int.le_refl _⟩⟩
  | k + 1, h => by
    obtain ⟨a, b, c⟩ := sums_in hS hR r0 r1 k (by omega)
    have e : ((k + 1 : Nat) : Int) = (k : Int) + 1 := by omega
    have q := (hR.2.2.2.2 r r0 r1).2 (k : Int) (by omega) (by omega)
    obtain ⟨-, -, -, s5, s6⟩ := hS.2.2.2 _ q.1 q.2
    rw [e, ghd_s (by omega), shd_s (by omega), sln_s (by omega)]
    omega
theorem vrs_ok {M : Mem} {r q p : Int} (hS : IStp M) (hR : IRou M) (r0 : 0 ≤ r) (r1 : r < M 1 0 9) (hq : 0 ≤ q ∧ q ≤ 95) (hp : 1 ≤ p ∧ p ≤ 9) (hd : 0 ≤ M 5 0 2 ∧ M 5 0 2 ≤ 999) : okV (vrs M r q p) := by
  intro j j0 j1
  have m := (hR.2.2.2.2 r r0 r1).1
  have s := sums_in hS hR r0 r1 (M 21 0 r).toNat (by omega)
  rw [Int.toNat_of_nonneg (by omega)] at s
  have w0 := wv_in M (q / 4) 0
  have w1 := wv_in M (q / 4) 1
  have w2 := wv_in M (q / 4) 2
  unfold vrs
  repeat' split
  all_goals omega
theorem vrs_mem {M M9 : Mem} (fr : (∀ p, p ≠ 48 → p ≠ 49 → p ≠ 98 → p ≠ 99 → M9 p = M p)) : vrs M9 = vrs M := by
  funext r q p j
  unfold vrs wv ghd shd sln
  simp (disch := decide) only [fr]
def whyA (M : Mem) (r q p : Int) : Int := fhN (M 46 0) (wkL M (vrs M r q p)) 0 (M 8 0 6 - 0).toNat 0
def payA (M : Mem) (r q p : Int) : Int := max 0 (min 1000000 (spS (M 46 0) (wkL M (vrs M r q p)) (M 8 0 6)))
def askA (M : Mem) (r q p : Int) : Int := min (asS (M 46 0) (wkL M (vrs M r q p)) (M 8 0 6)) 8
theorem sta_mem {M M9 : Mem} (fr : (∀ p, p ≠ 48 → p ≠ 49 → p ≠ 98 → p ≠ 99 → M9 p = M p)) : whyA M9 = whyA M ∧ payA M9 = payA M ∧ askA M9 = askA M := by
  have e : wkL M9 = wkL M := wkL_mem (fr 45 (by decide) (by decide) (by decide) (by decide)) (fr 47 (by decide) (by decide) (by decide) (by decide))
  refine ⟨?_, ?_, ?_⟩
  all_goals funext r q p
  all_goals first | unfold whyA | unfold payA | unfold askA
  all_goals rw [e, vrs_mem fr]
  all_goals simp (disch := decide) only [fr]
theorem inv_sta {c : Int} {M : Mem} {M9 : Mem} (fr : (∀ p, p ≠ 48 → p ≠ 49 → p ≠ 98 → p ≠ 99 → M9 p = M p)) (hc : c < 512) (hI : Inv c M) : Inv (c + 1) (M9) := by
  obtain ⟨h0, hN, hS, hR, hK, hG, hW, hJ, hT, hA, hP, hO, hH⟩ := hI
  refine ⟨by omega, ?_, ?_, ?_, ?_, ?_, ?_, ?_, ?_, ?_, ?_, ?_, ?_⟩
  all_goals first
    | (have q := hN; simp (disch := decide) only [INet, ms_q, ms_f, mf_q, mf_f, mc_q, mc_f, fr] at q ⊢; exact q)
    | (have q := hS; simp (disch := decide) only [IStp, ms_q, ms_f, mf_q, mf_f, mc_q, mc_f, fr] at q ⊢; exact q)
    | (have q := hR; simp (disch := decide) only [IRou, ms_q, ms_f, mf_q, mf_f, mc_q, mc_f, fr] at q ⊢; exact q)
    | (have q := hK; simp (disch := decide) only [ISky, ms_q, ms_f, mf_q, mf_f, mc_q, mc_f, fr] at q ⊢; exact q)
    | (have q := hG; simp (disch := decide) only [IGui, ms_q, ms_f, mf_q, mf_f, mc_q, mc_f, fr] at q ⊢; exact q)
    | (have q := hW.next; simp (disch := decide) only [INow, ms_q, ms_f, mf_q, mf_f, mc_q, mc_f, fr] at q ⊢; exact q)
    | (have q := hJ.next; simp (disch := decide) only [IImg, ms_q, ms_f, mf_q, mf_f, mc_q, mc_f, fr] at q ⊢; exact q)
    | (have q := hT; simp (disch := decide) only [ITap, ms_q, ms_f, mf_q, mf_f, mc_q, mc_f, fr] at q ⊢; exact q)
    | (have q := hA; simp (disch := decide) only [ISta, ms_q, ms_f, mf_q, mf_f, mc_q, mc_f, fr] at q ⊢; exact q)
    | (have q := hP; simp (disch := decide) only [IPpl, ms_q, ms_f, mf_q, mf_f, mc_q, mc_f, fr] at q ⊢; exact q)
    | (have q := hO; simp (disch := decide) only [IRop, ms_q, ms_f, mf_q, mf_f, mc_q, mc_f, fr] at q ⊢; exact q)
    | (have q := hH; simp (disch := decide) only [IHrs, ms_q, ms_f, mf_q, mf_f, mc_q, mc_f, fr] at q ⊢; exact q)
    | skip
theorem sta_v {M v : Mem} {V : Int → Int} {r q p : Int} (e45 : v 45 = M 45) (e47 : v 47 = M 47) (h : ∀ j, 0 ≤ j → j < 9 → V j = vrs M r q p j) : wkL v V = wkL M (vrs M r q p) := by
  rw [wkL_mem e45 e47]
  funext z
  exact wkL_congr h z

def GLn : List (Nat × Nat × Spec1) := (23, 3, sp_heC) :: (216, 3, sp_heM) :: (24, 5, sp_fhC) :: (220, 5, sp_fhM) :: (25, 5, sp_spC) :: (222, 5, sp_spM) :: (26, 5, sp_asC) :: (224, 5, sp_asM) :: GLl
abbrev GGn : Env1 := fun n => getG n GLn
theorem GGn_all {l : Launch} {ω : WP} : ∀ e ∈ GLn, ∀ as M Q, e.2.2 as M Q → Vd l ω e.2.1 e.1 as M Q := List.forall_mem_cons.mpr ⟨ok_heC, List.forall_mem_cons.mpr ⟨ok_heM, List.forall_mem_cons.mpr ⟨ok_fhC, List.forall_mem_cons.mpr ⟨ok_fhM, List.forall_mem_cons.mpr ⟨ok_spC, List.forall_mem_cons.mpr ⟨ok_spM, List.forall_mem_cons.mpr ⟨ok_asC, List.forall_mem_cons.mpr ⟨ok_asM, GGl_all⟩⟩⟩⟩⟩⟩⟩⟩
theorem GGn_ok {l : Launch} {ω : WP} : GOK l ω GGn := getG_ok GLn GGn_all

def sp_whyC : Spec1 := fun as M Q => match as with
  | [.inr (.inr (.inl (q0, i0))), .inl r, .inl q, .inl p] => match Nat.beq q0 0 with
    | true => (i0 = 0 ∧ (0 ≤ r ∧ r < M 1 0 9) ∧ (0 ≤ q ∧ q ≤ 95) ∧ (1 ≤ p ∧ p ≤ 9) ∧ IRou M ∧ IStp M ∧ ISky M ∧ ISta M ∧ (0 ≤ M 5 0 2 ∧ M 5 0 2 ≤ 999) ∧ M 13 0 25 = M 5 0 2) ∧ ∀ M9, (∀ p, p ≠ 48 → p ≠ 49 → M9 p = M p) → Q (some (vI (whyA M r q p))) M9
    | false => False
  | _ => False
theorem ok_whyC {l : Launch} {ω : WP} : ∀ as M Q, sp_whyC as M Q → Vd l ω 9 132 as M Q := by
  intro as M Q h
  unfold sp_whyC at h
  split at h
  case h_2 => exact h.elim
  rename_i q0 i0 r q p
  cases hb : Nat.beq q0 0 with
  | false => rw [hb] at h; exact h.elim
  | true =>
  rw [hb] at h
  obtain ⟨⟨hi, h1, h2, h3, hR, hS, hK, hA, hd, he⟩, hQ⟩ := h
  have hb := beq_eq hb
  subst hb
  subst hi
  refine Vd.ok fun hok hal => ?_
  have b5 := hR.1
  have b6 := hR.2.2.2.1
  have b9 := hA.1
  refine Vd_run (GGn_ok (l := l) (ω := ω)) 300 (cut := fun _ => none) (by decide) CutOK_none ?_
  conv => whnf
  repeat' first
    | (refine And.intro (fun h => ?_) (fun h => ?_) <;> (try simp (disch := decide) only [cmp3_lt, cmp3_ge, cmp3_gt, cmp3_le, cmp3_eq, ms_q, ms_f, mf_q, mf_f, mc_q, mc_f, and_self, and_true, true_and, and_false, false_and, or_true, true_or, or_false, false_or, if_true, if_false, not_true_eq_false, not_false_eq_true, eq_self, reduceIte, Int.reduceEq, Int.reduceLT, Int.reduceLE, Int.reduceNeg, Int.reduceAdd, Int.reduceSub, Int.reduceMul, Int.add_sub_cancel] at h) <;> (try simp (disch := omega) only [w32_e, w64_e, td_pos, tm_pos, Int.add_sub_cancel] at h) <;> first | exact absurd rfl h | exact absurd h (by decide) | (exfalso; omega) | (conv => whnf))
    | (refine And.intro (by first | omega | ((try simp (disch := decide) only [cmp3_lt, cmp3_ge, cmp3_gt, cmp3_le, cmp3_eq, ms_q, ms_f, mf_q, mf_f, mc_q, mc_f, and_self, and_true, true_and, and_false, false_and, or_true, true_or, or_false, false_or, if_true, if_false, not_true_eq_false, not_false_eq_true, eq_self, reduceIte, Int.reduceEq, Int.reduceLT, Int.reduceLE, Int.reduceNeg, Int.reduceAdd, Int.reduceSub, Int.reduceMul, Int.add_sub_cancel]); (try simp (disch := omega) only [w32_e, w64_e, td_pos, tm_pos, Int.add_sub_cancel]); first | assumption | omega) | (refine ⟨rfl, ?_⟩; have hA9 : ISta v := (by have fr := hv.1; simp (disch := decide) only [ISta, fr]; exact hA); exact ⟨hA9, okV_congr hv.2 (vrs_ok hS hR h1.1 h1.2 h2 h3 hd), hA9.1⟩) | ((try simp (disch := decide) only [cmp3_lt, cmp3_ge, cmp3_gt, cmp3_le, cmp3_eq, ms_q, ms_f, mf_q, mf_f, mc_q, mc_f, and_self, and_true, true_and, and_false, false_and, or_true, true_or, or_false, false_or, if_true, if_false, not_true_eq_false, not_false_eq_true, eq_self, reduceIte, Int.reduceEq, Int.reduceLT, Int.reduceLE, Int.reduceNeg, Int.reduceAdd, Int.reduceSub, Int.reduceMul, Int.add_sub_cancel]); (try simp (disch := omega) only [w32_e, w64_e, td_pos, tm_pos, Int.add_sub_cancel]); ((repeat' (first | assumption | omega | with_reducible rfl | apply And.intro)); done))) ?_; conv => whnf)
    | (intro v; intro hv; conv => whnf)
  all_goals
    (rename_i v0 hv0
     have fr : ∀ p, p ≠ 48 → p ≠ 49 → v p = M p := fun p a b => (hv p b).trans (hv0.1 p a)
     refine Eq.mp (congrArg (fun z => Q (some (vI z)) v) ?_) (hQ v fr)
     have w := sta_v (hv0.1 45 (by decide)) (hv0.1 47 (by decide)) hv0.2
     have e46 : v0 46 = M 46 := hv0.1 46 (by decide)
     have e8 : v0 8 = M 8 := hv0.1 8 (by decide)
     unfold whyA
     rw [w, e46, e8])

def sp_whyR : Spec1 := fun as M Q => match as with
  | [.inr (.inr (.inl (q0, i0))), .inl r, .inl q, .inl p] => match Nat.beq q0 13 with
    | true => (i0 = 0 ∧ (0 ≤ r ∧ r < M 1 0 9) ∧ (0 ≤ q ∧ q ≤ 95) ∧ (1 ≤ p ∧ p ≤ 9) ∧ IRou M ∧ IStp M ∧ ISky M ∧ ISta M ∧ (0 ≤ M 5 0 2 ∧ M 5 0 2 ≤ 999) ∧ M 13 0 25 = M 5 0 2) ∧ ∀ M9, (∀ p, p ≠ 98 → p ≠ 99 → M9 p = M p) → Q (some (vI (whyA M r q p))) M9
    | false => False
  | _ => False
theorem ok_whyR {l : Launch} {ω : WP} : ∀ as M Q, sp_whyR as M Q → Vd l ω 9 221 as M Q := by
  intro as M Q h
  unfold sp_whyR at h
  split at h
  case h_2 => exact h.elim
  rename_i q0 i0 r q p
  cases hb : Nat.beq q0 13 with
  | false => rw [hb] at h; exact h.elim
  | true =>
  rw [hb] at h
  obtain ⟨⟨hi, h1, h2, h3, hR, hS, hK, hA, hd, he⟩, hQ⟩ := h
  have hb := beq_eq hb
  subst hb
  subst hi
  refine Vd.ok fun hok hal => ?_
  have b5 := hR.1
  have b6 := hR.2.2.2.1
  have b9 := hA.1
  refine Vd_run (GGn_ok (l := l) (ω := ω)) 300 (cut := fun _ => none) (by decide) CutOK_none ?_
  conv => whnf
  repeat' first
    | (refine And.intro (fun h => ?_) (fun h => ?_) <;> (try simp (disch := decide) only [cmp3_lt, cmp3_ge, cmp3_gt, cmp3_le, cmp3_eq, ms_q, ms_f, mf_q, mf_f, mc_q, mc_f, and_self, and_true, true_and, and_false, false_and, or_true, true_or, or_false, false_or, if_true, if_false, not_true_eq_false, not_false_eq_true, eq_self, reduceIte, Int.reduceEq, Int.reduceLT, Int.reduceLE, Int.reduceNeg, Int.reduceAdd, Int.reduceSub, Int.reduceMul, Int.add_sub_cancel] at h) <;> (try simp (disch := omega) only [w32_e, w64_e, td_pos, tm_pos, Int.add_sub_cancel] at h) <;> first | exact absurd rfl h | exact absurd h (by decide) | (exfalso; omega) | (conv => whnf))
    | (refine And.intro (by first | omega | ((try simp (disch := decide) only [cmp3_lt, cmp3_ge, cmp3_gt, cmp3_le, cmp3_eq, ms_q, ms_f, mf_q, mf_f, mc_q, mc_f, and_self, and_true, true_and, and_false, false_and, or_true, true_or, or_false, false_or, if_true, if_false, not_true_eq_false, not_false_eq_true, eq_self, reduceIte, Int.reduceEq, Int.reduceLT, Int.reduceLE, Int.reduceNeg, Int.reduceAdd, Int.reduceSub, Int.reduceMul, Int.add_sub_cancel]); (try simp (disch := omega) only [w32_e, w64_e, td_pos, tm_pos, Int.add_sub_cancel]); first | assumption | omega) | (refine ⟨rfl, ?_⟩; have hA9 : ISta v := (by have fr := hv.1; simp (disch := decide) only [ISta, fr]; exact hA); exact ⟨hA9, okV_congr hv.2 (vrs_ok hS hR h1.1 h1.2 h2 h3 hd), hA9.1⟩) | ((try simp (disch := decide) only [cmp3_lt, cmp3_ge, cmp3_gt, cmp3_le, cmp3_eq, ms_q, ms_f, mf_q, mf_f, mc_q, mc_f, and_self, and_true, true_and, and_false, false_and, or_true, true_or, or_false, false_or, if_true, if_false, not_true_eq_false, not_false_eq_true, eq_self, reduceIte, Int.reduceEq, Int.reduceLT, Int.reduceLE, Int.reduceNeg, Int.reduceAdd, Int.reduceSub, Int.reduceMul, Int.add_sub_cancel]); (try simp (disch := omega) only [w32_e, w64_e, td_pos, tm_pos, Int.add_sub_cancel]); ((repeat' (first | assumption | omega | with_reducible rfl | apply And.intro)); done))) ?_; conv => whnf)
    | (intro v; intro hv; conv => whnf)
  all_goals
    (rename_i v0 hv0
     have fr : ∀ p, p ≠ 98 → p ≠ 99 → v p = M p := fun p a b => (hv p b).trans (hv0.1 p a)
     refine Eq.mp (congrArg (fun z => Q (some (vI z)) v) ?_) (hQ v fr)
     have w := sta_v (hv0.1 45 (by decide)) (hv0.1 47 (by decide)) hv0.2
     have e46 : v0 46 = M 46 := hv0.1 46 (by decide)
     have e8 : v0 8 = M 8 := hv0.1 8 (by decide)
     unfold whyA
     rw [w, e46, e8])

theorem pair_why {l : Launch} {ω : WP} {c : Int} {M : Mem} {r : Int} {q : Int} {p : Int} (hr : in32 r) (hq : in32 q) (hp : in32 p)  (hc : c < 512) (hI : Inv c M) : Vd l ω 9 132 [vR 0 0, vI r, vI q, vI p] M (PQ1 l ω c 221 [vI r, vI q, vI p]) := by
  have hI0 := hI
  obtain ⟨h0, hN, hS, hR, hK, hG, hW, hJ, hT, hA, hP, hO, hH⟩ := hI
  have b1 := hN.1
  have b2 := hN.2.2.1
  have b3 := hS.1
  have b4 := hS.2.2.1
  have b5 := hR.1
  have b6 := hR.2.2.2.1
  have b7 := hG.1
  have b8 := hG.2.2.1
  have b9 := hA.1
  have w3 := hW.2.2.1
  have w4 := hW.2.2.2.1
  by_cases hg : (0 ≤ r ∧ r < M 1 0 9) ∧ (0 ≤ q ∧ q ≤ 95) ∧ (1 ≤ p ∧ p ≤ 9)
  · refine ok_whyC _ _ _ ⟨⟨rfl, hg.1, hg.2.1, hg.2.2, hR, hS, hK, hA, w4, w3⟩, fun M9 f1 => ⟨0, _, rfl, ?_⟩⟩
    have fr : ∀ p, p ≠ 48 → p ≠ 49 → p ≠ 98 → p ≠ 99 → M9 p = M p := fun p a b _ _ => f1 p a b
    have e1 : M9 1 = M 1 := fr 1 (by decide) (by decide) (by decide) (by decide)
    have e5 : M9 5 = M 5 := fr 5 (by decide) (by decide) (by decide) (by decide)
    have e13 : M9 13 = M 13 := fr 13 (by decide) (by decide) (by decide) (by decide)
    have r9 : IRou M9 := by simp (disch := decide) only [IRou, fr]; exact hR
    have s9 : IStp M9 := by simp (disch := decide) only [IStp, fr]; exact hS
    have k9 : ISky M9 := by simp (disch := decide) only [ISky, fr]; exact hK
    have a9 : ISta M9 := by simp (disch := decide) only [ISta, fr]; exact hA
    refine ok_whyR _ _ _ ⟨⟨rfl, by rw [e1]; exact hg.1, hg.2.1, hg.2.2, r9, s9, k9, a9, by rw [e5]; exact w4, by rw [e5, e13]; exact w3⟩, fun M8 f2 => ⟨0, by rw [(sta_mem fr).1], ?_⟩⟩
    exact inv_sta (fun p a b c d => (f2 p c d).trans (fr p a b c d)) hc hI0
  refine Vd_run (GGn_ok (l := l) (ω := ω)) 400 (cut := fun _ => none) (by decide) CutOK_none ?_
  conv => whnf
  repeat' first
    | (refine And.intro (fun h => ?_) (fun h => ?_) <;> (try simp (disch := decide) only [cmp3_lt, cmp3_ge, cmp3_gt, cmp3_le, cmp3_eq, ms_q, ms_f, mf_q, mf_f, mc_q, mc_f, and_self, and_true, true_and, and_false, false_and, or_true, true_or, or_false, false_or, if_true, if_false, not_true_eq_false, not_false_eq_true, eq_self, reduceIte, Int.reduceEq, Int.reduceLT, Int.reduceLE, Int.reduceNeg, Int.reduceAdd, Int.reduceSub, Int.reduceMul, Int.add_sub_cancel] at h) <;> (try simp (disch := omega) only [w32_e, w64_e, td_pos, tm_pos, Int.add_sub_cancel] at h) <;> first | exact absurd rfl h | exact absurd h (by decide) | (exfalso; omega) | (conv => whnf))
    | (refine And.intro (by first | omega | ((try simp (disch := decide) only [cmp3_lt, cmp3_ge, cmp3_gt, cmp3_le, cmp3_eq, ms_q, ms_f, mf_q, mf_f, mc_q, mc_f, and_self, and_true, true_and, and_false, false_and, or_true, true_or, or_false, false_or, if_true, if_false, not_true_eq_false, not_false_eq_true, eq_self, reduceIte, Int.reduceEq, Int.reduceLT, Int.reduceLE, Int.reduceNeg, Int.reduceAdd, Int.reduceSub, Int.reduceMul, Int.add_sub_cancel]); (try simp (disch := omega) only [w32_e, w64_e, td_pos, tm_pos, Int.add_sub_cancel]); first | assumption | omega) | ((try simp (disch := decide) only [cmp3_lt, cmp3_ge, cmp3_gt, cmp3_le, cmp3_eq, ms_q, ms_f, mf_q, mf_f, mc_q, mc_f, and_self, and_true, true_and, and_false, false_and, or_true, true_or, or_false, false_or, if_true, if_false, not_true_eq_false, not_false_eq_true, eq_self, reduceIte, Int.reduceEq, Int.reduceLT, Int.reduceLE, Int.reduceNeg, Int.reduceAdd, Int.reduceSub, Int.reduceMul, Int.add_sub_cancel]); (try simp (disch := omega) only [w32_e, w64_e, td_pos, tm_pos, Int.add_sub_cancel]); ((repeat' (first | assumption | omega | with_reducible rfl | apply And.intro)); done))) ?_; conv => whnf)
    | (intro v; intro hv; conv => whnf)
  all_goals refine ⟨0, _, rfl, ?_⟩
  all_goals refine Vd_run (GGn_ok (l := l) (ω := ω)) 400 (cut := fun _ => none) (by decide) CutOK_none ?_
  all_goals conv => whnf
  all_goals repeat' first
    | (refine And.intro (fun h => ?_) (fun h => ?_) <;> (try simp (disch := decide) only [cmp3_lt, cmp3_ge, cmp3_gt, cmp3_le, cmp3_eq, ms_q, ms_f, mf_q, mf_f, mc_q, mc_f, and_self, and_true, true_and, and_false, false_and, or_true, true_or, or_false, false_or, if_true, if_false, not_true_eq_false, not_false_eq_true, eq_self, reduceIte, Int.reduceEq, Int.reduceLT, Int.reduceLE, Int.reduceNeg, Int.reduceAdd, Int.reduceSub, Int.reduceMul, Int.add_sub_cancel] at h) <;> (try simp (disch := omega) only [w32_e, w64_e, td_pos, tm_pos, Int.add_sub_cancel] at h) <;> first | exact absurd rfl h | exact absurd h (by decide) | (exfalso; omega) | (conv => whnf))
    | (refine And.intro (by first | omega | ((try simp (disch := decide) only [cmp3_lt, cmp3_ge, cmp3_gt, cmp3_le, cmp3_eq, ms_q, ms_f, mf_q, mf_f, mc_q, mc_f, and_self, and_true, true_and, and_false, false_and, or_true, true_or, or_false, false_or, if_true, if_false, not_true_eq_false, not_false_eq_true, eq_self, reduceIte, Int.reduceEq, Int.reduceLT, Int.reduceLE, Int.reduceNeg, Int.reduceAdd, Int.reduceSub, Int.reduceMul, Int.add_sub_cancel]); (try simp (disch := omega) only [w32_e, w64_e, td_pos, tm_pos, Int.add_sub_cancel]); first | assumption | omega) | ((try simp (disch := decide) only [cmp3_lt, cmp3_ge, cmp3_gt, cmp3_le, cmp3_eq, ms_q, ms_f, mf_q, mf_f, mc_q, mc_f, and_self, and_true, true_and, and_false, false_and, or_true, true_or, or_false, false_or, if_true, if_false, not_true_eq_false, not_false_eq_true, eq_self, reduceIte, Int.reduceEq, Int.reduceLT, Int.reduceLE, Int.reduceNeg, Int.reduceAdd, Int.reduceSub, Int.reduceMul, Int.add_sub_cancel]); (try simp (disch := omega) only [w32_e, w64_e, td_pos, tm_pos, Int.add_sub_cancel]); ((repeat' (first | assumption | omega | with_reducible rfl | apply And.intro)); done))) ?_; conv => whnf)
    | (intro v; intro hv; conv => whnf)
  all_goals refine ⟨0, ?_, ?_⟩
  all_goals ((try simp (disch := decide) only [cmp3_lt, cmp3_ge, cmp3_gt, cmp3_le, cmp3_eq, ms_q, ms_f, mf_q, mf_f, mc_q, mc_f, and_self, and_true, true_and, and_false, false_and, or_true, true_or, or_false, false_or, if_true, if_false, not_true_eq_false, not_false_eq_true, eq_self, reduceIte, Int.reduceEq, Int.reduceLT, Int.reduceLE, Int.reduceNeg, Int.reduceAdd, Int.reduceSub, Int.reduceMul, Int.add_sub_cancel] at *); (try simp (disch := omega) only [w32_e, w64_e, td_pos, tm_pos, Int.add_sub_cancel] at *))
  all_goals first
    | exact Inv.next hc hI0
    | exact congrArg (fun z => some (vI z)) (by omega)
    | exact congrArg (fun z => some (vL z)) (by omega)
    | (exfalso; omega)
    | skip

def sp_payC : Spec1 := fun as M Q => match as with
  | [.inr (.inr (.inl (q0, i0))), .inl r, .inl q, .inl p] => match Nat.beq q0 0 with
    | true => (i0 = 0 ∧ (0 ≤ r ∧ r < M 1 0 9) ∧ (0 ≤ q ∧ q ≤ 95) ∧ (1 ≤ p ∧ p ≤ 9) ∧ IRou M ∧ IStp M ∧ ISky M ∧ ISta M ∧ (0 ≤ M 5 0 2 ∧ M 5 0 2 ≤ 999) ∧ M 13 0 25 = M 5 0 2) ∧ ∀ M9, (∀ p, p ≠ 48 → p ≠ 49 → M9 p = M p) → Q (some (vI (payA M r q p))) M9
    | false => False
  | _ => False
theorem ok_payC {l : Launch} {ω : WP} : ∀ as M Q, sp_payC as M Q → Vd l ω 9 133 as M Q := by
  intro as M Q h
  unfold sp_payC at h
  split at h
  case h_2 => exact h.elim
  rename_i q0 i0 r q p
  cases hb : Nat.beq q0 0 with
  | false => rw [hb] at h; exact h.elim
  | true =>
  rw [hb] at h
  obtain ⟨⟨hi, h1, h2, h3, hR, hS, hK, hA, hd, he⟩, hQ⟩ := h
  have hb := beq_eq hb
  subst hb
  subst hi
  refine Vd.ok fun hok hal => ?_
  have b5 := hR.1
  have b6 := hR.2.2.2.1
  have b9 := hA.1
  refine Vd_run (GGn_ok (l := l) (ω := ω)) 300 (cut := fun _ => none) (by decide) CutOK_none ?_
  conv => whnf
  repeat' first
    | (refine And.intro (fun h => ?_) (fun h => ?_) <;> (try simp (disch := decide) only [cmp3_lt, cmp3_ge, cmp3_gt, cmp3_le, cmp3_eq, ms_q, ms_f, mf_q, mf_f, mc_q, mc_f, and_self, and_true, true_and, and_false, false_and, or_true, true_or, or_false, false_or, if_true, if_false, not_true_eq_false, not_false_eq_true, eq_self, reduceIte, Int.reduceEq, Int.reduceLT, Int.reduceLE, Int.reduceNeg, Int.reduceAdd, Int.reduceSub, Int.reduceMul, Int.add_sub_cancel] at h) <;> (try simp (disch := omega) only [w32_e, w64_e, td_pos, tm_pos, Int.add_sub_cancel] at h) <;> first | exact absurd rfl h | exact absurd h (by decide) | (exfalso; omega) | (conv => whnf))
    | (refine And.intro (by first | omega | ((try simp (disch := decide) only [cmp3_lt, cmp3_ge, cmp3_gt, cmp3_le, cmp3_eq, ms_q, ms_f, mf_q, mf_f, mc_q, mc_f, and_self, and_true, true_and, and_false, false_and, or_true, true_or, or_false, false_or, if_true, if_false, not_true_eq_false, not_false_eq_true, eq_self, reduceIte, Int.reduceEq, Int.reduceLT, Int.reduceLE, Int.reduceNeg, Int.reduceAdd, Int.reduceSub, Int.reduceMul, Int.add_sub_cancel]); (try simp (disch := omega) only [w32_e, w64_e, td_pos, tm_pos, Int.add_sub_cancel]); first | assumption | omega) | (refine ⟨rfl, ?_⟩; have hA9 : ISta v := (by have fr := hv.1; simp (disch := decide) only [ISta, fr]; exact hA); exact ⟨hA9, okV_congr hv.2 (vrs_ok hS hR h1.1 h1.2 h2 h3 hd), hA9.1⟩) | ((try simp (disch := decide) only [cmp3_lt, cmp3_ge, cmp3_gt, cmp3_le, cmp3_eq, ms_q, ms_f, mf_q, mf_f, mc_q, mc_f, and_self, and_true, true_and, and_false, false_and, or_true, true_or, or_false, false_or, if_true, if_false, not_true_eq_false, not_false_eq_true, eq_self, reduceIte, Int.reduceEq, Int.reduceLT, Int.reduceLE, Int.reduceNeg, Int.reduceAdd, Int.reduceSub, Int.reduceMul, Int.add_sub_cancel]); (try simp (disch := omega) only [w32_e, w64_e, td_pos, tm_pos, Int.add_sub_cancel]); ((repeat' (first | assumption | omega | with_reducible rfl | apply And.intro)); done))) ?_; conv => whnf)
    | (intro v; intro hv; conv => whnf)
  all_goals
    (rename_i v0 hv0
     have fr : ∀ p, p ≠ 48 → p ≠ 49 → v p = M p := fun p a b => (hv p b).trans (hv0.1 p a)
     refine Eq.mp (congrArg (fun z => Q (some (vI z)) v) ?_) (hQ v fr)
     have w := sta_v (hv0.1 45 (by decide)) (hv0.1 47 (by decide)) hv0.2
     have e46 : v0 46 = M 46 := hv0.1 46 (by decide)
     have e8 : v0 8 = M 8 := hv0.1 8 (by decide)
     unfold payA
     rw [w, e46, e8])

def sp_payR : Spec1 := fun as M Q => match as with
  | [.inr (.inr (.inl (q0, i0))), .inl r, .inl q, .inl p] => match Nat.beq q0 13 with
    | true => (i0 = 0 ∧ (0 ≤ r ∧ r < M 1 0 9) ∧ (0 ≤ q ∧ q ≤ 95) ∧ (1 ≤ p ∧ p ≤ 9) ∧ IRou M ∧ IStp M ∧ ISky M ∧ ISta M ∧ (0 ≤ M 5 0 2 ∧ M 5 0 2 ≤ 999) ∧ M 13 0 25 = M 5 0 2) ∧ ∀ M9, (∀ p, p ≠ 98 → p ≠ 99 → M9 p = M p) → Q (some (vI (payA M r q p))) M9
    | false => False
  | _ => False
theorem ok_payR {l : Launch} {ω : WP} : ∀ as M Q, sp_payR as M Q → Vd l ω 9 223 as M Q := by
  intro as M Q h
  unfold sp_payR at h
  split at h
  case h_2 => exact h.elim
  rename_i q0 i0 r q p
  cases hb : Nat.beq q0 13 with
  | false => rw [hb] at h; exact h.elim
  | true =>
  rw [hb] at h
  obtain ⟨⟨hi, h1, h2, h3, hR, hS, hK, hA, hd, he⟩, hQ⟩ := h
  have hb := beq_eq hb
  subst hb
  subst hi
  refine Vd.ok fun hok hal => ?_
  have b5 := hR.1
  have b6 := hR.2.2.2.1
  have b9 := hA.1
  refine Vd_run (GGn_ok (l := l) (ω := ω)) 300 (cut := fun _ => none) (by decide) CutOK_none ?_
  conv => whnf
  repeat' first
    | (refine And.intro (fun h => ?_) (fun h => ?_) <;> (try simp (disch := decide) only [cmp3_lt, cmp3_ge, cmp3_gt, cmp3_le, cmp3_eq, ms_q, ms_f, mf_q, mf_f, mc_q, mc_f, and_self, and_true, true_and, and_false, false_and, or_true, true_or, or_false, false_or, if_true, if_false, not_true_eq_false, not_false_eq_true, eq_self, reduceIte, Int.reduceEq, Int.reduceLT, Int.reduceLE, Int.reduceNeg, Int.reduceAdd, Int.reduceSub, Int.reduceMul, Int.add_sub_cancel] at h) <;> (try simp (disch := omega) only [w32_e, w64_e, td_pos, tm_pos, Int.add_sub_cancel] at h) <;> first | exact absurd rfl h | exact absurd h (by decide) | (exfalso; omega) | (conv => whnf))
    | (refine And.intro (by first | omega | ((try simp (disch := decide) only [cmp3_lt, cmp3_ge, cmp3_gt, cmp3_le, cmp3_eq, ms_q, ms_f, mf_q, mf_f, mc_q, mc_f, and_self, and_true, true_and, and_false, false_and, or_true, true_or, or_false, false_or, if_true, if_false, not_true_eq_false, not_false_eq_true, eq_self, reduceIte, Int.reduceEq, Int.reduceLT, Int.reduceLE, Int.reduceNeg, Int.reduceAdd, Int.reduceSub, Int.reduceMul, Int.add_sub_cancel]); (try simp (disch := omega) only [w32_e, w64_e, td_pos, tm_pos, Int.add_sub_cancel]); first | assumption | omega) | (refine ⟨rfl, ?_⟩; have hA9 : ISta v := (by have fr := hv.1; simp (disch := decide) only [ISta, fr]; exact hA); exact ⟨hA9, okV_congr hv.2 (vrs_ok hS hR h1.1 h1.2 h2 h3 hd), hA9.1⟩) | ((try simp (disch := decide) only [cmp3_lt, cmp3_ge, cmp3_gt, cmp3_le, cmp3_eq, ms_q, ms_f, mf_q, mf_f, mc_q, mc_f, and_self, and_true, true_and, and_false, false_and, or_true, true_or, or_false, false_or, if_true, if_false, not_true_eq_false, not_false_eq_true, eq_self, reduceIte, Int.reduceEq, Int.reduceLT, Int.reduceLE, Int.reduceNeg, Int.reduceAdd, Int.reduceSub, Int.reduceMul, Int.add_sub_cancel]); (try simp (disch := omega) only [w32_e, w64_e, td_pos, tm_pos, Int.add_sub_cancel]); ((repeat' (first | assumption | omega | with_reducible rfl | apply And.intro)); done))) ?_; conv => whnf)
    | (intro v; intro hv; conv => whnf)
  all_goals
    (rename_i v0 hv0
     have fr : ∀ p, p ≠ 98 → p ≠ 99 → v p = M p := fun p a b => (hv p b).trans (hv0.1 p a)
     refine Eq.mp (congrArg (fun z => Q (some (vI z)) v) ?_) (hQ v fr)
     have w := sta_v (hv0.1 45 (by decide)) (hv0.1 47 (by decide)) hv0.2
     have e46 : v0 46 = M 46 := hv0.1 46 (by decide)
     have e8 : v0 8 = M 8 := hv0.1 8 (by decide)
     unfold payA
     rw [w, e46, e8])

theorem pair_pay {l : Launch} {ω : WP} {c : Int} {M : Mem} {r : Int} {q : Int} {p : Int} (hr : in32 r) (hq : in32 q) (hp : in32 p)  (hc : c < 512) (hI : Inv c M) : Vd l ω 9 133 [vR 0 0, vI r, vI q, vI p] M (PQ1 l ω c 223 [vI r, vI q, vI p]) := by
  have hI0 := hI
  obtain ⟨h0, hN, hS, hR, hK, hG, hW, hJ, hT, hA, hP, hO, hH⟩ := hI
  have b1 := hN.1
  have b2 := hN.2.2.1
  have b3 := hS.1
  have b4 := hS.2.2.1
  have b5 := hR.1
  have b6 := hR.2.2.2.1
  have b7 := hG.1
  have b8 := hG.2.2.1
  have b9 := hA.1
  have w3 := hW.2.2.1
  have w4 := hW.2.2.2.1
  by_cases hg : (0 ≤ r ∧ r < M 1 0 9) ∧ (0 ≤ q ∧ q ≤ 95) ∧ (1 ≤ p ∧ p ≤ 9)
  · refine ok_payC _ _ _ ⟨⟨rfl, hg.1, hg.2.1, hg.2.2, hR, hS, hK, hA, w4, w3⟩, fun M9 f1 => ⟨0, _, rfl, ?_⟩⟩
    have fr : ∀ p, p ≠ 48 → p ≠ 49 → p ≠ 98 → p ≠ 99 → M9 p = M p := fun p a b _ _ => f1 p a b
    have e1 : M9 1 = M 1 := fr 1 (by decide) (by decide) (by decide) (by decide)
    have e5 : M9 5 = M 5 := fr 5 (by decide) (by decide) (by decide) (by decide)
    have e13 : M9 13 = M 13 := fr 13 (by decide) (by decide) (by decide) (by decide)
    have r9 : IRou M9 := by simp (disch := decide) only [IRou, fr]; exact hR
    have s9 : IStp M9 := by simp (disch := decide) only [IStp, fr]; exact hS
    have k9 : ISky M9 := by simp (disch := decide) only [ISky, fr]; exact hK
    have a9 : ISta M9 := by simp (disch := decide) only [ISta, fr]; exact hA
    refine ok_payR _ _ _ ⟨⟨rfl, by rw [e1]; exact hg.1, hg.2.1, hg.2.2, r9, s9, k9, a9, by rw [e5]; exact w4, by rw [e5, e13]; exact w3⟩, fun M8 f2 => ⟨0, by rw [(sta_mem fr).2.1], ?_⟩⟩
    exact inv_sta (fun p a b c d => (f2 p c d).trans (fr p a b c d)) hc hI0
  refine Vd_run (GGn_ok (l := l) (ω := ω)) 400 (cut := fun _ => none) (by decide) CutOK_none ?_
  conv => whnf
  repeat' first
    | (refine And.intro (fun h => ?_) (fun h => ?_) <;> (try simp (disch := decide) only [cmp3_lt, cmp3_ge, cmp3_gt, cmp3_le, cmp3_eq, ms_q, ms_f, mf_q, mf_f, mc_q, mc_f, and_self, and_true, true_and, and_false, false_and, or_true, true_or, or_false, false_or, if_true, if_false, not_true_eq_false, not_false_eq_true, eq_self, reduceIte, Int.reduceEq, Int.reduceLT, Int.reduceLE, Int.reduceNeg, Int.reduceAdd, Int.reduceSub, Int.reduceMul, Int.add_sub_cancel] at h) <;> (try simp (disch := omega) only [w32_e, w64_e, td_pos, tm_pos, Int.add_sub_cancel] at h) <;> first | exact absurd rfl h | exact absurd h (by decide) | (exfalso; omega) | (conv => whnf))
    | (refine And.intro (by first | omega | ((try simp (disch := decide) only [cmp3_lt, cmp3_ge, cmp3_gt, cmp3_le, cmp3_eq, ms_q, ms_f, mf_q, mf_f, mc_q, mc_f, and_self, and_true, true_and, and_false, false_and, or_true, true_or, or_false, false_or, if_true, if_false, not_true_eq_false, not_false_eq_true, eq_self, reduceIte, Int.reduceEq, Int.reduceLT, Int.reduceLE, Int.reduceNeg, Int.reduceAdd, Int.reduceSub, Int.reduceMul, Int.add_sub_cancel]); (try simp (disch := omega) only [w32_e, w64_e, td_pos, tm_pos, Int.add_sub_cancel]); first | assumption | omega) | ((try simp (disch := decide) only [cmp3_lt, cmp3_ge, cmp3_gt, cmp3_le, cmp3_eq, ms_q, ms_f, mf_q, mf_f, mc_q, mc_f, and_self, and_true, true_and, and_false, false_and, or_true, true_or, or_false, false_or, if_true, if_false, not_true_eq_false, not_false_eq_true, eq_self, reduceIte, Int.reduceEq, Int.reduceLT, Int.reduceLE, Int.reduceNeg, Int.reduceAdd, Int.reduceSub, Int.reduceMul, Int.add_sub_cancel]); (try simp (disch := omega) only [w32_e, w64_e, td_pos, tm_pos, Int.add_sub_cancel]); ((repeat' (first | assumption | omega | with_reducible rfl | apply And.intro)); done))) ?_; conv => whnf)
    | (intro v; intro hv; conv => whnf)
  all_goals refine ⟨0, _, rfl, ?_⟩
  all_goals refine Vd_run (GGn_ok (l := l) (ω := ω)) 400 (cut := fun _ => none) (by decide) CutOK_none ?_
  all_goals conv => whnf
  all_goals repeat' first
    | (refine And.intro (fun h => ?_) (fun h => ?_) <;> (try simp (disch := decide) only [cmp3_lt, cmp3_ge, cmp3_gt, cmp3_le, cmp3_eq, ms_q, ms_f, mf_q, mf_f, mc_q, mc_f, and_self, and_true, true_and, and_false, false_and, or_true, true_or, or_false, false_or, if_true, if_false, not_true_eq_false, not_false_eq_true, eq_self, reduceIte, Int.reduceEq, Int.reduceLT, Int.reduceLE, Int.reduceNeg, Int.reduceAdd, Int.reduceSub, Int.reduceMul, Int.add_sub_cancel] at h) <;> (try simp (disch := omega) only [w32_e, w64_e, td_pos, tm_pos, Int.add_sub_cancel] at h) <;> first | exact absurd rfl h | exact absurd h (by decide) | (exfalso; omega) | (conv => whnf))
    | (refine And.intro (by first | omega | ((try simp (disch := decide) only [cmp3_lt, cmp3_ge, cmp3_gt, cmp3_le, cmp3_eq, ms_q, ms_f, mf_q, mf_f, mc_q, mc_f, and_self, and_true, true_and, and_false, false_and, or_true, true_or, or_false, false_or, if_true, if_false, not_true_eq_false, not_false_eq_true, eq_self, reduceIte, Int.reduceEq, Int.reduceLT, Int.reduceLE, Int.reduceNeg, Int.reduceAdd, Int.reduceSub, Int.reduceMul, Int.add_sub_cancel]); (try simp (disch := omega) only [w32_e, w64_e, td_pos, tm_pos, Int.add_sub_cancel]); first | assumption | omega) | ((try simp (disch := decide) only [cmp3_lt, cmp3_ge, cmp3_gt, cmp3_le, cmp3_eq, ms_q, ms_f, mf_q, mf_f, mc_q, mc_f, and_self, and_true, true_and, and_false, false_and, or_true, true_or, or_false, false_or, if_true, if_false, not_true_eq_false, not_false_eq_true, eq_self, reduceIte, Int.reduceEq, Int.reduceLT, Int.reduceLE, Int.reduceNeg, Int.reduceAdd, Int.reduceSub, Int.reduceMul, Int.add_sub_cancel]); (try simp (disch := omega) only [w32_e, w64_e, td_pos, tm_pos, Int.add_sub_cancel]); ((repeat' (first | assumption | omega | with_reducible rfl | apply And.intro)); done))) ?_; conv => whnf)
    | (intro v; intro hv; conv => whnf)
  all_goals refine ⟨0, ?_, ?_⟩
  all_goals ((try simp (disch := decide) only [cmp3_lt, cmp3_ge, cmp3_gt, cmp3_le, cmp3_eq, ms_q, ms_f, mf_q, mf_f, mc_q, mc_f, and_self, and_true, true_and, and_false, false_and, or_true, true_or, or_false, false_or, if_true, if_false, not_true_eq_false, not_false_eq_true, eq_self, reduceIte, Int.reduceEq, Int.reduceLT, Int.reduceLE, Int.reduceNeg, Int.reduceAdd, Int.reduceSub, Int.reduceMul, Int.add_sub_cancel] at *); (try simp (disch := omega) only [w32_e, w64_e, td_pos, tm_pos, Int.add_sub_cancel] at *))
  all_goals first
    | exact Inv.next hc hI0
    | exact congrArg (fun z => some (vI z)) (by omega)
    | exact congrArg (fun z => some (vL z)) (by omega)
    | (exfalso; omega)
    | skip

def sp_askedC : Spec1 := fun as M Q => match as with
  | [.inr (.inr (.inl (q0, i0))), .inl r, .inl q, .inl p] => match Nat.beq q0 0 with
    | true => (i0 = 0 ∧ (0 ≤ r ∧ r < M 1 0 9) ∧ (0 ≤ q ∧ q ≤ 95) ∧ (1 ≤ p ∧ p ≤ 9) ∧ IRou M ∧ IStp M ∧ ISky M ∧ ISta M ∧ (0 ≤ M 5 0 2 ∧ M 5 0 2 ≤ 999) ∧ M 13 0 25 = M 5 0 2) ∧ ∀ M9, (∀ p, p ≠ 48 → p ≠ 49 → M9 p = M p) → Q (some (vI (askA M r q p))) M9
    | false => False
  | _ => False
theorem ok_askedC {l : Launch} {ω : WP} : ∀ as M Q, sp_askedC as M Q → Vd l ω 9 134 as M Q := by
  intro as M Q h
  unfold sp_askedC at h
  split at h
  case h_2 => exact h.elim
  rename_i q0 i0 r q p
  cases hb : Nat.beq q0 0 with
  | false => rw [hb] at h; exact h.elim
  | true =>
  rw [hb] at h
  obtain ⟨⟨hi, h1, h2, h3, hR, hS, hK, hA, hd, he⟩, hQ⟩ := h
  have hb := beq_eq hb
  subst hb
  subst hi
  refine Vd.ok fun hok hal => ?_
  have b5 := hR.1
  have b6 := hR.2.2.2.1
  have b9 := hA.1
  refine Vd_run (GGn_ok (l := l) (ω := ω)) 300 (cut := fun _ => none) (by decide) CutOK_none ?_
  conv => whnf
  repeat' first
    | (refine And.intro (fun h => ?_) (fun h => ?_) <;> (try simp (disch := decide) only [cmp3_lt, cmp3_ge, cmp3_gt, cmp3_le, cmp3_eq, ms_q, ms_f, mf_q, mf_f, mc_q, mc_f, and_self, and_true, true_and, and_false, false_and, or_true, true_or, or_false, false_or, if_true, if_false, not_true_eq_false, not_false_eq_true, eq_self, reduceIte, Int.reduceEq, Int.reduceLT, Int.reduceLE, Int.reduceNeg, Int.reduceAdd, Int.reduceSub, Int.reduceMul, Int.add_sub_cancel] at h) <;> (try simp (disch := omega) only [w32_e, w64_e, td_pos, tm_pos, Int.add_sub_cancel] at h) <;> first | exact absurd rfl h | exact absurd h (by decide) | (exfalso; omega) | (conv => whnf))
    | (refine And.intro (by first | omega | ((try simp (disch := decide) only [cmp3_lt, cmp3_ge, cmp3_gt, cmp3_le, cmp3_eq, ms_q, ms_f, mf_q, mf_f, mc_q, mc_f, and_self, and_true, true_and, and_false, false_and, or_true, true_or, or_false, false_or, if_true, if_false, not_true_eq_false, not_false_eq_true, eq_self, reduceIte, Int.reduceEq, Int.reduceLT, Int.reduceLE, Int.reduceNeg, Int.reduceAdd, Int.reduceSub, Int.reduceMul, Int.add_sub_cancel]); (try simp (disch := omega) only [w32_e, w64_e, td_pos, tm_pos, Int.add_sub_cancel]); first | assumption | omega) | (refine ⟨rfl, ?_⟩; have hA9 : ISta v := (by have fr := hv.1; simp (disch := decide) only [ISta, fr]; exact hA); exact ⟨hA9, okV_congr hv.2 (vrs_ok hS hR h1.1 h1.2 h2 h3 hd), hA9.1⟩) | ((try simp (disch := decide) only [cmp3_lt, cmp3_ge, cmp3_gt, cmp3_le, cmp3_eq, ms_q, ms_f, mf_q, mf_f, mc_q, mc_f, and_self, and_true, true_and, and_false, false_and, or_true, true_or, or_false, false_or, if_true, if_false, not_true_eq_false, not_false_eq_true, eq_self, reduceIte, Int.reduceEq, Int.reduceLT, Int.reduceLE, Int.reduceNeg, Int.reduceAdd, Int.reduceSub, Int.reduceMul, Int.add_sub_cancel]); (try simp (disch := omega) only [w32_e, w64_e, td_pos, tm_pos, Int.add_sub_cancel]); ((repeat' (first | assumption | omega | with_reducible rfl | apply And.intro)); done))) ?_; conv => whnf)
    | (intro v; intro hv; conv => whnf)
  all_goals
    (rename_i v0 hv0
     have fr : ∀ p, p ≠ 48 → p ≠ 49 → v p = M p := fun p a b => (hv p b).trans (hv0.1 p a)
     refine Eq.mp (congrArg (fun z => Q (some (vI z)) v) ?_) (hQ v fr)
     have w := sta_v (hv0.1 45 (by decide)) (hv0.1 47 (by decide)) hv0.2
     have e46 : v0 46 = M 46 := hv0.1 46 (by decide)
     have e8 : v0 8 = M 8 := hv0.1 8 (by decide)
     unfold askA
     rw [w, e46, e8])

def sp_askedR : Spec1 := fun as M Q => match as with
  | [.inr (.inr (.inl (q0, i0))), .inl r, .inl q, .inl p] => match Nat.beq q0 13 with
    | true => (i0 = 0 ∧ (0 ≤ r ∧ r < M 1 0 9) ∧ (0 ≤ q ∧ q ≤ 95) ∧ (1 ≤ p ∧ p ≤ 9) ∧ IRou M ∧ IStp M ∧ ISky M ∧ ISta M ∧ (0 ≤ M 5 0 2 ∧ M 5 0 2 ≤ 999) ∧ M 13 0 25 = M 5 0 2) ∧ ∀ M9, (∀ p, p ≠ 98 → p ≠ 99 → M9 p = M p) → Q (some (vI (askA M r q p))) M9
    | false => False
  | _ => False
theorem ok_askedR {l : Launch} {ω : WP} : ∀ as M Q, sp_askedR as M Q → Vd l ω 9 225 as M Q := by
  intro as M Q h
  unfold sp_askedR at h
  split at h
  case h_2 => exact h.elim
  rename_i q0 i0 r q p
  cases hb : Nat.beq q0 13 with
  | false => rw [hb] at h; exact h.elim
  | true =>
  rw [hb] at h
  obtain ⟨⟨hi, h1, h2, h3, hR, hS, hK, hA, hd, he⟩, hQ⟩ := h
  have hb := beq_eq hb
  subst hb
  subst hi
  refine Vd.ok fun hok hal => ?_
  have b5 := hR.1
  have b6 := hR.2.2.2.1
  have b9 := hA.1
  refine Vd_run (GGn_ok (l := l) (ω := ω)) 300 (cut := fun _ => none) (by decide) CutOK_none ?_
  conv => whnf
  repeat' first
    | (refine And.intro (fun h => ?_) (fun h => ?_) <;> (try simp (disch := decide) only [cmp3_lt, cmp3_ge, cmp3_gt, cmp3_le, cmp3_eq, ms_q, ms_f, mf_q, mf_f, mc_q, mc_f, and_self, and_true, true_and, and_false, false_and, or_true, true_or, or_false, false_or, if_true, if_false, not_true_eq_false, not_false_eq_true, eq_self, reduceIte, Int.reduceEq, Int.reduceLT, Int.reduceLE, Int.reduceNeg, Int.reduceAdd, Int.reduceSub, Int.reduceMul, Int.add_sub_cancel] at h) <;> (try simp (disch := omega) only [w32_e, w64_e, td_pos, tm_pos, Int.add_sub_cancel] at h) <;> first | exact absurd rfl h | exact absurd h (by decide) | (exfalso; omega) | (conv => whnf))
    | (refine And.intro (by first | omega | ((try simp (disch := decide) only [cmp3_lt, cmp3_ge, cmp3_gt, cmp3_le, cmp3_eq, ms_q, ms_f, mf_q, mf_f, mc_q, mc_f, and_self, and_true, true_and, and_false, false_and, or_true, true_or, or_false, false_or, if_true, if_false, not_true_eq_false, not_false_eq_true, eq_self, reduceIte, Int.reduceEq, Int.reduceLT, Int.reduceLE, Int.reduceNeg, Int.reduceAdd, Int.reduceSub, Int.reduceMul, Int.add_sub_cancel]); (try simp (disch := omega) only [w32_e, w64_e, td_pos, tm_pos, Int.add_sub_cancel]); first | assumption | omega) | (refine ⟨rfl, ?_⟩; have hA9 : ISta v := (by have fr := hv.1; simp (disch := decide) only [ISta, fr]; exact hA); exact ⟨hA9, okV_congr hv.2 (vrs_ok hS hR h1.1 h1.2 h2 h3 hd), hA9.1⟩) | ((try simp (disch := decide) only [cmp3_lt, cmp3_ge, cmp3_gt, cmp3_le, cmp3_eq, ms_q, ms_f, mf_q, mf_f, mc_q, mc_f, and_self, and_true, true_and, and_false, false_and, or_true, true_or, or_false, false_or, if_true, if_false, not_true_eq_false, not_false_eq_true, eq_self, reduceIte, Int.reduceEq, Int.reduceLT, Int.reduceLE, Int.reduceNeg, Int.reduceAdd, Int.reduceSub, Int.reduceMul, Int.add_sub_cancel]); (try simp (disch := omega) only [w32_e, w64_e, td_pos, tm_pos, Int.add_sub_cancel]); ((repeat' (first | assumption | omega | with_reducible rfl | apply And.intro)); done))) ?_; conv => whnf)
    | (intro v; intro hv; conv => whnf)
  all_goals
    (rename_i v0 hv0
     have fr : ∀ p, p ≠ 98 → p ≠ 99 → v p = M p := fun p a b => (hv p b).trans (hv0.1 p a)
     refine Eq.mp (congrArg (fun z => Q (some (vI z)) v) ?_) (hQ v fr)
     have w := sta_v (hv0.1 45 (by decide)) (hv0.1 47 (by decide)) hv0.2
     have e46 : v0 46 = M 46 := hv0.1 46 (by decide)
     have e8 : v0 8 = M 8 := hv0.1 8 (by decide)
     unfold askA
     rw [w, e46, e8])

theorem pair_asked {l : Launch} {ω : WP} {c : Int} {M : Mem} {r : Int} {q : Int} {p : Int} (hr : in32 r) (hq : in32 q) (hp : in32 p)  (hc : c < 512) (hI : Inv c M) : Vd l ω 9 134 [vR 0 0, vI r, vI q, vI p] M (PQ1 l ω c 225 [vI r, vI q, vI p]) := by
  have hI0 := hI
  obtain ⟨h0, hN, hS, hR, hK, hG, hW, hJ, hT, hA, hP, hO, hH⟩ := hI
  have b1 := hN.1
  have b2 := hN.2.2.1
  have b3 := hS.1
  have b4 := hS.2.2.1
  have b5 := hR.1
  have b6 := hR.2.2.2.1
  have b7 := hG.1
  have b8 := hG.2.2.1
  have b9 := hA.1
  have w3 := hW.2.2.1
  have w4 := hW.2.2.2.1
  by_cases hg : (0 ≤ r ∧ r < M 1 0 9) ∧ (0 ≤ q ∧ q ≤ 95) ∧ (1 ≤ p ∧ p ≤ 9)
  · refine ok_askedC _ _ _ ⟨⟨rfl, hg.1, hg.2.1, hg.2.2, hR, hS, hK, hA, w4, w3⟩, fun M9 f1 => ⟨0, _, rfl, ?_⟩⟩
    have fr : ∀ p, p ≠ 48 → p ≠ 49 → p ≠ 98 → p ≠ 99 → M9 p = M p := fun p a b _ _ => f1 p a b
    have e1 : M9 1 = M 1 := fr 1 (by decide) (by decide) (by decide) (by decide)
    have e5 : M9 5 = M 5 := fr 5 (by decide) (by decide) (by decide) (by decide)
    have e13 : M9 13 = M 13 := fr 13 (by decide) (by decide) (by decide) (by decide)
    have r9 : IRou M9 := by simp (disch := decide) only [IRou, fr]; exact hR
    have s9 : IStp M9 := by simp (disch := decide) only [IStp, fr]; exact hS
    have k9 : ISky M9 := by simp (disch := decide) only [ISky, fr]; exact hK
    have a9 : ISta M9 := by simp (disch := decide) only [ISta, fr]; exact hA
    refine ok_askedR _ _ _ ⟨⟨rfl, by rw [e1]; exact hg.1, hg.2.1, hg.2.2, r9, s9, k9, a9, by rw [e5]; exact w4, by rw [e5, e13]; exact w3⟩, fun M8 f2 => ⟨0, by rw [(sta_mem fr).2.2], ?_⟩⟩
    exact inv_sta (fun p a b c d => (f2 p c d).trans (fr p a b c d)) hc hI0
  refine Vd_run (GGn_ok (l := l) (ω := ω)) 400 (cut := fun _ => none) (by decide) CutOK_none ?_
  conv => whnf
  repeat' first
    | (refine And.intro (fun h => ?_) (fun h => ?_) <;> (try simp (disch := decide) only [cmp3_lt, cmp3_ge, cmp3_gt, cmp3_le, cmp3_eq, ms_q, ms_f, mf_q, mf_f, mc_q, mc_f, and_self, and_true, true_and, and_false, false_and, or_true, true_or, or_false, false_or, if_true, if_false, not_true_eq_false, not_false_eq_true, eq_self, reduceIte, Int.reduceEq, Int.reduceLT, Int.reduceLE, Int.reduceNeg, Int.reduceAdd, Int.reduceSub, Int.reduceMul, Int.add_sub_cancel] at h) <;> (try simp (disch := omega) only [w32_e, w64_e, td_pos, tm_pos, Int.add_sub_cancel] at h) <;> first | exact absurd rfl h | exact absurd h (by decide) | (exfalso; omega) | (conv => whnf))
    | (refine And.intro (by first | omega | ((try simp (disch := decide) only [cmp3_lt, cmp3_ge, cmp3_gt, cmp3_le, cmp3_eq, ms_q, ms_f, mf_q, mf_f, mc_q, mc_f, and_self, and_true, true_and, and_false, false_and, or_true, true_or, or_false, false_or, if_true, if_false, not_true_eq_false, not_false_eq_true, eq_self, reduceIte, Int.reduceEq, Int.reduceLT, Int.reduceLE, Int.reduceNeg, Int.reduceAdd, Int.reduceSub, Int.reduceMul, Int.add_sub_cancel]); (try simp (disch := omega) only [w32_e, w64_e, td_pos, tm_pos, Int.add_sub_cancel]); first | assumption | omega) | ((try simp (disch := decide) only [cmp3_lt, cmp3_ge, cmp3_gt, cmp3_le, cmp3_eq, ms_q, ms_f, mf_q, mf_f, mc_q, mc_f, and_self, and_true, true_and, and_false, false_and, or_true, true_or, or_false, false_or, if_true, if_false, not_true_eq_false, not_false_eq_true, eq_self, reduceIte, Int.reduceEq, Int.reduceLT, Int.reduceLE, Int.reduceNeg, Int.reduceAdd, Int.reduceSub, Int.reduceMul, Int.add_sub_cancel]); (try simp (disch := omega) only [w32_e, w64_e, td_pos, tm_pos, Int.add_sub_cancel]); ((repeat' (first | assumption | omega | with_reducible rfl | apply And.intro)); done))) ?_; conv => whnf)
    | (intro v; intro hv; conv => whnf)
  all_goals refine ⟨0, _, rfl, ?_⟩
  all_goals refine Vd_run (GGn_ok (l := l) (ω := ω)) 400 (cut := fun _ => none) (by decide) CutOK_none ?_
  all_goals conv => whnf
  all_goals repeat' first
    | (refine And.intro (fun h => ?_) (fun h => ?_) <;> (try simp (disch := decide) only [cmp3_lt, cmp3_ge, cmp3_gt, cmp3_le, cmp3_eq, ms_q, ms_f, mf_q, mf_f, mc_q, mc_f, and_self, and_true, true_and, and_false, false_and, or_true, true_or, or_false, false_or, if_true, if_false, not_true_eq_false, not_false_eq_true, eq_self, reduceIte, Int.reduceEq, Int.reduceLT, Int.reduceLE, Int.reduceNeg, Int.reduceAdd, Int.reduceSub, Int.reduceMul, Int.add_sub_cancel] at h) <;> (try simp (disch := omega) only [w32_e, w64_e, td_pos, tm_pos, Int.add_sub_cancel] at h) <;> first | exact absurd rfl h | exact absurd h (by decide) | (exfalso; omega) | (conv => whnf))
    | (refine And.intro (by first | omega | ((try simp (disch := decide) only [cmp3_lt, cmp3_ge, cmp3_gt, cmp3_le, cmp3_eq, ms_q, ms_f, mf_q, mf_f, mc_q, mc_f, and_self, and_true, true_and, and_false, false_and, or_true, true_or, or_false, false_or, if_true, if_false, not_true_eq_false, not_false_eq_true, eq_self, reduceIte, Int.reduceEq, Int.reduceLT, Int.reduceLE, Int.reduceNeg, Int.reduceAdd, Int.reduceSub, Int.reduceMul, Int.add_sub_cancel]); (try simp (disch := omega) only [w32_e, w64_e, td_pos, tm_pos, Int.add_sub_cancel]); first | assumption | omega) | ((try simp (disch := decide) only [cmp3_lt, cmp3_ge, cmp3_gt, cmp3_le, cmp3_eq, ms_q, ms_f, mf_q, mf_f, mc_q, mc_f, and_self, and_true, true_and, and_false, false_and, or_true, true_or, or_false, false_or, if_true, if_false, not_true_eq_false, not_false_eq_true, eq_self, reduceIte, Int.reduceEq, Int.reduceLT, Int.reduceLE, Int.reduceNeg, Int.reduceAdd, Int.reduceSub, Int.reduceMul, Int.add_sub_cancel]); (try simp (disch := omega) only [w32_e, w64_e, td_pos, tm_pos, Int.add_sub_cancel]); ((repeat' (first | assumption | omega | with_reducible rfl | apply And.intro)); done))) ?_; conv => whnf)
    | (intro v; intro hv; conv => whnf)
  all_goals refine ⟨0, ?_, ?_⟩
  all_goals ((try simp (disch := decide) only [cmp3_lt, cmp3_ge, cmp3_gt, cmp3_le, cmp3_eq, ms_q, ms_f, mf_q, mf_f, mc_q, mc_f, and_self, and_true, true_and, and_false, false_and, or_true, true_or, or_false, false_or, if_true, if_false, not_true_eq_false, not_false_eq_true, eq_self, reduceIte, Int.reduceEq, Int.reduceLT, Int.reduceLE, Int.reduceNeg, Int.reduceAdd, Int.reduceSub, Int.reduceMul, Int.add_sub_cancel] at *); (try simp (disch := omega) only [w32_e, w64_e, td_pos, tm_pos, Int.add_sub_cancel] at *))
  all_goals first
    | exact Inv.next hc hI0
    | exact congrArg (fun z => some (vI z)) (by omega)
    | exact congrArg (fun z => some (vL z)) (by omega)
    | (exfalso; omega)
    | skip
