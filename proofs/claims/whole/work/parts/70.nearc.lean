/-! ===== near (wip/gen/p34b.py) ===== -/
def NFr (M M9 : Mem) : Prop := (∀ z, z ≠ 10 → z ≠ 11 → z ≠ 28 → z ≠ 29 → z ≠ 48 → z ≠ 49 → z ≠ 56 → z ≠ 57 → z ≠ 58 → z ≠ 59 → z ≠ 60 → z ≠ 81 → z ≠ 82 → z ≠ 98 → z ≠ 99 → (z < 109 ∨ 122 < z) → M9 z = M z) ∧ (∀ x f, f ≠ 9 → M9 10 x f = M 10 x f) ∧ (∀ x f, 0 ≤ f → f < 4 → M9 11 x f = M 11 x f)
theorem NFr.ofC {M v M9 : Mem} {D : DD} (rp : Rep M D v) (f : ∀ z, z ≠ 28 → z ≠ 29 → M9 z = v z) : NFr M M9 := ⟨fun z a b c d e g h i j k l m n o p _ => (f z c d).trans (rp.2.1 z a b e g h i j k l), fun x y h => by rw [f 10 (by decide) (by decide)]; exact rp.2.2.1 x y h, fun x y h h2 => by rw [f 11 (by decide) (by decide)]; exact rp.2.2.2 x y h h2⟩
theorem NFr.ofM {M u M9 : Mem} (ft : FT M u) (f : ∀ z, z ≠ 81 → z ≠ 82 → M9 z = u z) : NFr M M9 := ⟨fun z a b c d e g h i j k l m n o p q => (f z m n).trans (ft z o p q), fun x y h => by rw [f 10 (by decide) (by decide), ft 10 (by decide) (by decide) (by decide)], fun x y h h2 => by rw [f 11 (by decide) (by decide), ft 11 (by decide) (by decide) (by decide)]⟩
theorem NFr.trans {M M1 M2 : Mem} (h : NFr M M1) (h2 : NFr M1 M2) : NFr M M2 := ⟨fun z a b c d e g h' i j k l m n o p q => (h2.1 z a b c d e g h' i j k l m n o p q).trans (h.1 z a b c d e g h' i j k l m n o p q), fun x y z => (h2.2.1 x y z).trans (h.2.1 x y z), fun x y z z2 => (h2.2.2 x y z z2).trans (h.2.2 x y z z2)⟩
theorem wy_nf {M M9 : Mem} (fr : NFr M M9) : wy M9 = wy M := by
  have f := fr.1
  have w : wv M9 = wv M := by
    funext a b
    unfold wv
    simp (disch := decide) only [f]
  have t : tk M9 = tk M := by
    funext a b c
    unfold tk
    rw [w]
    simp (disch := decide) only [f]
  have l : lvA M9 = lvA M := by
    funext s b R n
    have e : lvS M9 s b = lvS M s b := by
      funext k R
      unfold lvS
      rw [t]
      simp (disch := decide) only [f]
    unfold lvA
    rw [e]
  funext b g s q
  have e : wyS M9 s = wyS M s := by
    funext k x
    unfold wyS
    rw [l]
    simp (disch := decide) only [f]
  unfold wy wyA
  rw [e]
  simp (disch := decide) only [f]
theorem NFr.day {M v : Mem} (fr : NFr M v) (H : DayH M) : DayH v := by
  obtain ⟨f, f10, f11⟩ := fr
  obtain ⟨a, b, c, d, e, g, h⟩ := H
  refine ⟨?_, ?_, ?_, ?_, ?_, ?_, ?_⟩
  · simp (disch := decide) only [INet, f]; exact a
  · simp (disch := decide) only [IStp, f]; exact b
  · simp (disch := decide) only [IRou, f]; exact c
  · simp (disch := decide) only [ISky, f]; exact d
  · simp (disch := decide) only [ISta, f]; exact e
  · simp (disch := decide) only [IRop, f, f10, f11]; exact g
  · simp (disch := decide) only [f]; exact h
theorem inv_near {c : Int} {M M2 : Mem} (hc : c < 512) (hI : Inv c M) (fr : NFr M M2) : Inv (c + 1) M2 := by
  obtain ⟨h0, hN, hS, hR, hK, hG, hW, hJ, hT, hA, hP, hO, hH⟩ := hI
  obtain ⟨g, g10, g11⟩ := fr
  refine ⟨by omega, ?_, ?_, ?_, ?_, ?_, ?_, ?_, ?_, ?_, ?_, ?_, ?_⟩
  · simp (disch := decide) only [INet, g]; exact hN
  · simp (disch := decide) only [IStp, g]; exact hS
  · simp (disch := decide) only [IRou, g]; exact hR
  · simp (disch := decide) only [ISky, g]; exact hK
  · simp (disch := decide) only [IGui, g]; exact hG
  · have q := hW.next
    simp (disch := decide) only [INow, g] at q ⊢
    exact q
  · have q := hJ.next
    simp (disch := decide) only [IImg, g] at q ⊢
    exact q
  · simp (disch := decide) only [ITap, g]; exact hT
  · simp (disch := decide) only [ISta, g]; exact hA
  · simp (disch := decide) only [IPpl, g]; exact hP
  · simp (disch := decide) only [IRop, g, g10, g11]; exact hO
  · simp (disch := decide) only [IHrs, g]; exact hH
def nV (M : Mem) (p q : Int) (D : DD) (i : Int) : Int := if i < M 5 0 0 then (if bitI (M 5 0 3) i = 1 then -4 else wy M 0 p (M 31 0 i) q) else if 0 ≤ lkV D (i - M 5 0 0) ∧ lkV D (i - M 5 0 0) < M 1 0 0 then wy M (lkV D (i - M 5 0 0)) p (M 11 (i - M 5 0 0) 1) q else -4
theorem nV_1 {M : Mem} {p q i : Int} {D : DD} (h : i < M 5 0 0) (h2 : bitI (M 5 0 3) i = 1) : nV M p q D i = -4 := (if_pos h).trans (if_pos h2)
theorem nV_2 {M : Mem} {p q i : Int} {D : DD} (h : i < M 5 0 0) (h2 : ¬ bitI (M 5 0 3) i = 1) : nV M p q D i = wy M 0 p (M 31 0 i) q := (if_pos h).trans (if_neg h2)
theorem nV_3 {M : Mem} {p q i : Int} {D : DD} (h : ¬ i < M 5 0 0) (h2 : 0 ≤ lkV D (i - M 5 0 0) ∧ lkV D (i - M 5 0 0) < M 1 0 0) : nV M p q D i = wy M (lkV D (i - M 5 0 0)) p (M 11 (i - M 5 0 0) 1) q := (if_neg h).trans (if_pos h2)
theorem nV_4 {M : Mem} {p q i : Int} {D : DD} (h : ¬ i < M 5 0 0) (h2 : ¬ (0 ≤ lkV D (i - M 5 0 0) ∧ lkV D (i - M 5 0 0) < M 1 0 0)) : nV M p q D i = -4 := (if_neg h).trans (if_neg h2)
theorem wy_96 {M : Mem} {b g s q : Int} (hN : 0 ≤ M 1 0 0) (hS : IStp M) (h2 : 0 ≤ s) (h3 : s ≤ 9) (hq : 0 ≤ q ∧ q ≤ 95) : wy M b g s q = -4 ∨ (0 ≤ wy M b g s q ∧ wy M b g s q < 96) := by
  have := wyA_inI (b := b) (t := M 1 0 0) hN hS h2 h3 hq hN g
  unfold wy
  split
  · exact Or.inr ⟨this.1, by assumption⟩
  · exact Or.inl rfl

def sp_neC : Spec1 := fun as M Q => match as with
  | [.inr (.inr (.inl (q0, i0))), .inl p, .inl q, .inl w] => match Nat.beq q0 0 with
    | true => (i0 = 0 ∧ DayH M ∧ (0 ≤ p ∧ p < M 1 0 0) ∧ (0 ≤ q ∧ q ≤ 95) ∧ (0 ≤ w ∧ w ≤ 1) ∧ IGui M ∧ (0 ≤ M 5 0 3 ∧ M 5 0 3 < 512)) ∧ ∀ M9, (∃ v : Mem, Rep M (dyN (dx M) (dOf M) 96) v ∧ ∀ z, z ≠ 28 → z ≠ 29 → M9 z = v z) → Q (some (vI (if w = 0 ∧ ¬ (nbN (nV M p q (dyN (dx M) (dOf M) (q + 1))) (M 5 0 0) 96 (M 5 0 0 + M 10 0 3)).2 = -4 then (nbN (nV M p q (dyN (dx M) (dOf M) (q + 1))) (M 5 0 0) 96 (M 5 0 0 + M 10 0 3)).1 else (nbN (nV M p q (dyN (dx M) (dOf M) (q + 1))) (M 5 0 0) 96 (M 5 0 0 + M 10 0 3)).2))) M9
    | false => False
  | _ => False
theorem ok_neC {l : Launch} {ω : WP} : ∀ as M Q, sp_neC as M Q → Vd l ω 9 146 as M Q := by
  intro as M Q h
  unfold sp_neC at h
  split at h
  case h_2 => exact h.elim
  rename_i q0 i0 p q w
  cases hb : Nat.beq q0 0 with
  | false => rw [hb] at h; exact h.elim
  | true =>
  rw [hb] at h
  obtain ⟨⟨hi, hH, hp, hq, hw, hg, ho⟩, hQ⟩ := h
  have hb := beq_eq hb
  subst hb
  subst hi
  refine Vd.ok fun hok hal => ?_
  have n8 : 0 ≤ M 10 0 3 ∧ M 10 0 3 ≤ 8 := hH.x.1
  have n5 := hg.2.2.1
  have n12 := hH.1.2.2.1
  obtain ⟨hN, hS, hR, hK, hA, hO, hd⟩ := id hH
  obtain ⟨D, eD⟩ : ∃ D, dyN (dx M) (dOf M) (q + 1) = D := ⟨_, rfl⟩
  rw [eD] at hQ
  obtain ⟨V, eV⟩ : ∃ V, nV M p q D = V := ⟨_, rfl⟩
  rw [eV] at hQ
  have hV : ∀ i, 0 ≤ i → i < M 5 0 0 + M 10 0 3 → V i = -4 ∨ (0 ≤ V i ∧ V i < 96) := fun i i0 i1 => by
    rw [← eV]
    by_cases x : i < M 5 0 0
    · by_cases y : bitI (M 5 0 3) i = 1
      · rw [nV_1 x y]; exact Or.inl rfl
      · rw [nV_2 x y]
        have s := (hg.2.2.2 i i0 x).2.1
        exact wy_96 (by omega) hS s.1 s.2 hq
    · by_cases y : 0 ≤ lkV D (i - M 5 0 0) ∧ lkV D (i - M 5 0 0) < M 1 0 0
      · rw [nV_3 x y]
        have s := (dm_facts hH (o := i - M 5 0 0) (by omega) (by omega)).2.2.1
        exact wy_96 (by omega) hS s.1 s.2 hq
      · rw [nV_4 x y]; exact Or.inl rfl
  have e5 := n8
  have e10 := n8
  have e31 := n8
  have e1 := n8
  have wyE := n8
  have e11 := n8
  have e60 := n8
  have key : ∀ n9, CutOK l ω 9 146 (cutL [(47, [0, 1, 2, 3, 4, 5, 6], fun kk vs M9 => ∃ a b i : Int, vs = [vR 0 0, vI p, vI q, vI w, vI a, vI b, vI i] ∧ kk = (100 - i).toNat ∧ (0 ≤ i ∧ i ≤ M 5 0 0 + M 10 0 3) ∧ (∃ v : Mem, Rep M (dyN (dx M) (dOf M) 96) v ∧ ∀ z, z ≠ 28 → z ≠ 29 → M9 z = v z) ∧ a = (nbN V (M 5 0 0) 96 i).1 ∧ b = (nbN V (M 5 0 0) 96 i).2)] n9) Q := by
    refine loops (GGB_ok (l := l) (ω := ω)) 500 _ ?_
    refine List.forall_mem_cons.mpr ⟨?_, fun _ h => absurd h List.not_mem_nil⟩
    · rintro n9 vs M9 ⟨a, b, i, rfl, rfl, i0, ⟨u, rp, fu⟩, ha, hb2⟩
      have nf := NFr.ofC rp fu
      have H9 := nf.day hH
      obtain ⟨hN9, hS9, hR9, hK9, hA9, hO9, hd9⟩ := id H9
      have wyE := wy_nf nf
      have e5 : M9 5 = M 5 := nf.1 5 (by decide) (by decide) (by decide) (by decide) (by decide) (by decide) (by decide) (by decide) (by decide) (by decide) (by decide) (by decide) (by decide) (by decide) (by decide) (by decide)
      have e1 : M9 1 = M 1 := nf.1 1 (by decide) (by decide) (by decide) (by decide) (by decide) (by decide) (by decide) (by decide) (by decide) (by decide) (by decide) (by decide) (by decide) (by decide) (by decide) (by decide)
      have e31 : M9 31 = M 31 := nf.1 31 (by decide) (by decide) (by decide) (by decide) (by decide) (by decide) (by decide) (by decide) (by decide) (by decide) (by decide) (by decide) (by decide) (by decide) (by decide) (by decide)
      have e10 : M9 10 0 3 = M 10 0 3 := nf.2.1 0 3 (by decide)
      have e11 : M9 11 (i - M 5 0 0) 1 = M 11 (i - M 5 0 0) 1 := nf.2.2 _ 1 (by decide) (by decide)
      have e60 : M 5 0 0 ≤ i → i < M 5 0 0 + M 10 0 3 → M9 60 (i - M 5 0 0) q = lkV D (i - M 5 0 0) := fun x y => by
        have s := dy_sn (D := dOf M) hH.x (r := i - M 5 0 0) (q := q) (show 0 ≤ i - M 5 0 0 ∧ i - M 5 0 0 < M 10 0 3 by omega) (by omega) 96 (by omega)
        have s2 : (dOf u).sn = (dyN (dx M) (dOf M) 96).sn := by rw [rp.1]
        have s3 : u 60 (i - M 5 0 0) q = (dyN (dx M) (dOf M) ((96 : Nat) : Int)).sn (i - M 5 0 0) q := congrFun (congrFun s2 (i - M 5 0 0)) q
        rw [fu 60 (by decide) (by decide), s3, s, ← eD]
      have sg : i < M 5 0 0 → 0 ≤ M 31 0 i ∧ M 31 0 i ≤ 9 := fun x => (hg.2.2.2 i i0.1 x).2.1
      have sr : M 5 0 0 ≤ i → i < M 5 0 0 + M 10 0 3 → 0 ≤ M 11 (i - M 5 0 0) 1 ∧ M 11 (i - M 5 0 0) 1 ≤ 9 := fun x y => (dm_facts hH (o := i - M 5 0 0) (by omega) (by omega)).2.2.1
      have v1 : i < M 5 0 0 → bitI (M 5 0 3) i = 1 → V i = -4 := fun x y => by rw [← eV]; exact nV_1 x y
      have v2 : i < M 5 0 0 → ¬ bitI (M 5 0 3) i = 1 → V i = wy M 0 p (M 31 0 i) q := fun x y => by rw [← eV]; exact nV_2 x y
      have v3 : ¬ i < M 5 0 0 → 0 ≤ lkV D (i - M 5 0 0) ∧ lkV D (i - M 5 0 0) < M 1 0 0 → V i = wy M (lkV D (i - M 5 0 0)) p (M 11 (i - M 5 0 0) 1) q := fun x y => by rw [← eV]; exact nV_3 x y
      have v4 : ¬ i < M 5 0 0 → ¬ (0 ≤ lkV D (i - M 5 0 0) ∧ lkV D (i - M 5 0 0) < M 1 0 0) → V i = -4 := fun x y => by rw [← eV]; exact nV_4 x y
      have nb := nb_in (V := V) (i0 := 96) hg.2.2.1 (show M 5 0 0 + M 10 0 3 ≤ 16 by omega) (by decide) hV i.toNat (by omega)
      rw [Int.toNat_of_nonneg i0.1, ← ha, ← hb2] at nb
      have ei : w32 (i + 1) = i + 1 := w32_e (by omega) (by omega)
      have ed : w32 (i - M 5 0 0) = i - M 5 0 0 := w32_e (by omega) (by omega)
      have ep : w32 (100 + (i - M 5 0 0)) = 100 + (i - M 5 0 0) := w32_e (by omega) (by omega)
      show wpH _ 500 _ 146 _ true 47 [vR 0 0, vI p, vI q, vI w, vI a, vI b, vI i, vU, vU, vU] [] _ Q
      conv => whnf
      repeat' first
        | (refine And.intro (fun h => ?_) (fun h => ?_) <;> (try simp (disch := decide) only [cmp3_lt, cmp3_ge, cmp3_gt, cmp3_le, cmp3_eq, ms_q, ms_f, mf_q, mf_f, mc_q, mc_f, and_self, and_true, true_and, and_false, false_and, or_true, true_or, or_false, false_or, if_true, if_false, not_true_eq_false, not_false_eq_true, eq_self, reduceIte, Int.reduceEq, Int.reduceLT, Int.reduceLE, Int.reduceNeg, Int.reduceAdd, Int.reduceSub, Int.reduceMul, Int.add_sub_cancel] at h) <;> (try simp (disch := omega) only [w32_e, w64_e, td_pos, tm_pos, Int.add_sub_cancel, e5, e10, e31, e1, bit_e, wyE, e11, e60] at h) <;> first | exact absurd rfl h | exact absurd h (by decide) | (exfalso; omega) | (conv => whnf))
        | (refine And.intro (by first | omega | ((try simp (disch := decide) only [cmp3_lt, cmp3_ge, cmp3_gt, cmp3_le, cmp3_eq, ms_q, ms_f, mf_q, mf_f, mc_q, mc_f, and_self, and_true, true_and, and_false, false_and, or_true, true_or, or_false, false_or, if_true, if_false, not_true_eq_false, not_false_eq_true, eq_self, reduceIte, Int.reduceEq, Int.reduceLT, Int.reduceLE, Int.reduceNeg, Int.reduceAdd, Int.reduceSub, Int.reduceMul, Int.add_sub_cancel]); (try simp (disch := omega) only [w32_e, w64_e, td_pos, tm_pos, Int.add_sub_cancel, e5, e10, e31, e1, bit_e, wyE, e11, e60]); first | assumption | omega) | exact ⟨rfl, hH⟩ | ((try simp (disch := decide) only [cmp3_lt, cmp3_ge, cmp3_gt, cmp3_le, cmp3_eq, ms_q, ms_f, mf_q, mf_f, mc_q, mc_f, and_self, and_true, true_and, and_false, false_and, or_true, true_or, or_false, false_or, if_true, if_false, not_true_eq_false, not_false_eq_true, eq_self, reduceIte, Int.reduceEq, Int.reduceLT, Int.reduceLE, Int.reduceNeg, Int.reduceAdd, Int.reduceSub, Int.reduceMul, Int.add_sub_cancel]); (try simp (disch := omega) only [w32_e, w64_e, td_pos, tm_pos, Int.add_sub_cancel, e5, e10, e31, e1, bit_e, wyE, e11, e60]); ((repeat' (first | assumption | omega | with_reducible rfl | apply And.intro)); done))) ?_; conv => whnf)
        | (intro v; intro hv; conv => whnf)
      all_goals first
        | (have e9 : i = M 5 0 0 + M 10 0 3 := by omega
           refine Eq.mp (congrArg (fun z => Q (some (vI z)) M9) ?_) (hQ M9 ⟨u, rp, fu⟩)
           rw [← e9, ← ha, ← hb2]
           first | (rw [if_pos ⟨by omega, by omega⟩]; done) | (rw [if_neg (fun z => by omega)]; done))
        | (have hi : i < M 5 0 0 + M 10 0 3 := by omega
           first
             | (have c : ¬ (¬ V i = -4 ∧ V i < (nbN V (M 5 0 0) 96 i).1) := by rw [← ha]; omega
                refine ⟨_, ?_, a, b, i + 1, by rw [ei], rfl, ⟨by omega, by omega⟩, ?_, ?_, ?_⟩
                · omega
                · first | exact ⟨u, rp, fu⟩ | exact ⟨u, rp, fun z x y => (hv z x y).trans (fu z x y)⟩
                · rw [nbN_a i0.1 c]; exact ha
                · rw [nbN_a i0.1 c]; exact hb2)
             | (have c : ¬ V i = -4 ∧ V i < (nbN V (M 5 0 0) 96 i).1 := by rw [← ha]; omega
                have nb2 := nbN_b i0.1 c
                first
                  | (have x : i < M 5 0 0 := by omega
                     rw [if_pos x] at nb2
                     refine ⟨_, ?_, V i, i, i + 1, by rw [ei, v2 x (by omega), wyE, e31], rfl, ⟨by omega, by omega⟩, ?_, ?_, ?_⟩
                     · omega
                     · exact ⟨u, rp, fun z x y => (hv z x y).trans (fu z x y)⟩
                     · rw [nb2]
                     · rw [nb2])
                  | (have x : ¬ i < M 5 0 0 := by omega
                     rw [if_neg x] at nb2
                     refine ⟨_, ?_, V i, 100 + (i - M 5 0 0), i + 1, by rw [ei, e5, ed, ep, v3 x (by omega), wyE, e11, e60 (by omega) (by omega)], rfl, ⟨by omega, by omega⟩, ?_, ?_, ?_⟩
                     · omega
                     · exact ⟨u, rp, fun z x y => (hv z x y).trans (fu z x y)⟩
                     · rw [nb2]
                     · rw [nb2])))
  refine Vd_run (GGB_ok (l := l) (ω := ω)) 500 (hC := key 1000) (by decide) ?_
  conv => whnf
  repeat' first
    | (refine And.intro (fun h => ?_) (fun h => ?_) <;> (try simp (disch := decide) only [cmp3_lt, cmp3_ge, cmp3_gt, cmp3_le, cmp3_eq, ms_q, ms_f, mf_q, mf_f, mc_q, mc_f, and_self, and_true, true_and, and_false, false_and, or_true, true_or, or_false, false_or, if_true, if_false, not_true_eq_false, not_false_eq_true, eq_self, reduceIte, Int.reduceEq, Int.reduceLT, Int.reduceLE, Int.reduceNeg, Int.reduceAdd, Int.reduceSub, Int.reduceMul, Int.add_sub_cancel] at h) <;> (try simp (disch := omega) only [w32_e, w64_e, td_pos, tm_pos, Int.add_sub_cancel, e5, e10, e31, e1, bit_e, wyE, e11, e60] at h) <;> first | exact absurd rfl h | exact absurd h (by decide) | (exfalso; omega) | (conv => whnf))
    | (refine And.intro (by first | omega | ((try simp (disch := decide) only [cmp3_lt, cmp3_ge, cmp3_gt, cmp3_le, cmp3_eq, ms_q, ms_f, mf_q, mf_f, mc_q, mc_f, and_self, and_true, true_and, and_false, false_and, or_true, true_or, or_false, false_or, if_true, if_false, not_true_eq_false, not_false_eq_true, eq_self, reduceIte, Int.reduceEq, Int.reduceLT, Int.reduceLE, Int.reduceNeg, Int.reduceAdd, Int.reduceSub, Int.reduceMul, Int.add_sub_cancel]); (try simp (disch := omega) only [w32_e, w64_e, td_pos, tm_pos, Int.add_sub_cancel, e5, e10, e31, e1, bit_e, wyE, e11, e60]); first | assumption | omega) | exact ⟨rfl, hH⟩ | ((try simp (disch := decide) only [cmp3_lt, cmp3_ge, cmp3_gt, cmp3_le, cmp3_eq, ms_q, ms_f, mf_q, mf_f, mc_q, mc_f, and_self, and_true, true_and, and_false, false_and, or_true, true_or, or_false, false_or, if_true, if_false, not_true_eq_false, not_false_eq_true, eq_self, reduceIte, Int.reduceEq, Int.reduceLT, Int.reduceLE, Int.reduceNeg, Int.reduceAdd, Int.reduceSub, Int.reduceMul, Int.add_sub_cancel]); (try simp (disch := omega) only [w32_e, w64_e, td_pos, tm_pos, Int.add_sub_cancel, e5, e10, e31, e1, bit_e, wyE, e11, e60]); ((repeat' (first | assumption | omega | with_reducible rfl | apply And.intro)); done))) ?_; conv => whnf)
    | (intro v; intro hv; conv => whnf)
  all_goals
    (rename_i v hv
     refine ⟨_, ?_, 96, -4, 0, rfl, rfl, ⟨Int.le_refl _, by omega⟩, ⟨v, hv, fun _ _ _ => rfl⟩, rfl, rfl⟩
     omega)
