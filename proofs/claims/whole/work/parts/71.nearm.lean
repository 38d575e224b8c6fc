/-! ===== near, by the model; the pair (wip/gen/p35.py) ===== -/
theorem lkB {X : DX} {D : DD} {P r : Int} (hX : XOK X) (sb : SB X P D) (ok : dOK X D) (r0 : 0 ≤ r) (r1 : r < X.n) (hP : 0 ≤ P ∧ P ≤ 12) : (0 ≤ lkV D r ∧ lkV D r ≤ 99 ↔ 0 ≤ lkV D r ∧ lkV D r < P) ∧ in32 (lkV D r) := by
  have a := sb r r0 r1
  obtain ⟨k1, k2⟩ := ok.2.2 r r0 r1
  have x := hX.2 r r0 r1
  unfold lkV in32
  rcases k2 with z | ⟨z, z2⟩
  · rw [if_pos z]
    omega
  · have y := (x.2.2.2.2.2 _ k1.1 z2).1
    rw [if_neg (by omega), w32_e (by omega) (by omega)]
    omega
theorem dx_nf {M v : Mem} (nf : NFr M v) : dx v = dx M := by
  obtain ⟨fr, f10, f11⟩ := nf
  have e : wkL v = wkL M := wkL_mem (fr 45 (by decide) (by decide) (by decide) (by decide) (by decide) (by decide) (by decide) (by decide) (by decide) (by decide) (by decide) (by decide) (by decide) (by decide) (by decide) (by decide)) (fr 47 (by decide) (by decide) (by decide) (by decide) (by decide) (by decide) (by decide) (by decide) (by decide) (by decide) (by decide) (by decide) (by decide) (by decide) (by decide) (by decide))
  have w : wv v = wv M := by
    funext a b
    unfold wv
    simp (disch := decide) only [fr]
  have t : tk v = tk M := by
    funext a b c
    unfold tk
    rw [w]
    simp (disch := decide) only [fr]
  have u : vrs v = vrs M := by
    funext r q p j
    unfold vrs ghd shd sln
    rw [w]
    simp (disch := decide) only [fr]
  have b : bkA v = bkA M := by
    funext r q p
    unfold bkA
    rw [e, u]
    simp (disch := decide) only [fr]
  unfold dx
  rw [t, b]
  simp (disch := decide) only [fr, f10, f11]
theorem day_xp {M : Mem} (H : DayH M) : XP (dx M) (M 1 0 0) := by
  intro r r0 r1 i i0 i1
  obtain ⟨d1, d2, d3, d4, d5, d6, d7⟩ := dm_facts H r0 r1
  obtain ⟨hN, hS, hR, hK, hA, hO, hd⟩ := id H
  have k := (hR.2.2.2.2 _ d2.1 d2.2.2).2 i i0 i1
  have s := hS.2.2.2 _ k.1 k.2
  exact ⟨s.1, s.2.1⟩

def sp_neM : Spec1 := fun as M Q => match as with
  | [.inr (.inr (.inl (q0, i0))), .inl p, .inl q, .inl w] => match Nat.beq q0 13 with
    | true => (i0 = 0 ∧ DayH M ∧ (0 ≤ p ∧ p < M 1 0 0) ∧ (0 ≤ q ∧ q ≤ 95) ∧ (0 ≤ w ∧ w ≤ 1) ∧ IGui M ∧ (∀ g, 0 ≤ g → g < 8 → M 86 0 g = bitI (M 5 0 3) g)) ∧ ∃ D : DD, ∀ M9, NFr M M9 → Q (some (vI (if (nbN (nV M p q (dyN (dx M) D (q + 1))) (M 5 0 0) 1000 (M 5 0 0 + M 10 0 3)).2 = -4 then -4 else if w = 0 then (nbN (nV M p q (dyN (dx M) D (q + 1))) (M 5 0 0) 1000 (M 5 0 0 + M 10 0 3)).1 else (nbN (nV M p q (dyN (dx M) D (q + 1))) (M 5 0 0) 1000 (M 5 0 0 + M 10 0 3)).2))) M9
    | false => False
  | _ => False
theorem ok_neM {l : Launch} {ω : WP} : ∀ as M Q, sp_neM as M Q → Vd l ω 9 248 as M Q := by
  intro as M Q h
  unfold sp_neM at h
  split at h
  case h_2 => exact h.elim
  rename_i q0 i0 p q w
  cases hb : Nat.beq q0 13 with
  | false => rw [hb] at h; exact h.elim
  | true =>
  rw [hb] at h
  obtain ⟨⟨hi, hH, hp, hq, hw, hg, hb86⟩, hQ⟩ := h
  have hb := beq_eq hb
  subst hb
  subst hi
  refine Vd.ok fun hok hal => ?_
  have n8 : 0 ≤ M 10 0 3 ∧ M 10 0 3 ≤ 8 := hH.x.1
  have n5 := hg.2.2.1
  have n12 := hH.1.2.2.1
  obtain ⟨D0, hQ⟩ := hQ
  obtain ⟨hN, hS, hR, hK, hA, hO, hd⟩ := id hH
  obtain ⟨D, eD⟩ : ∃ D, dyN (dx M) D0 (q + 1) = D := ⟨_, rfl⟩
  rw [eD] at hQ
  obtain ⟨V, eV⟩ : ∃ V, nV M p q D = V := ⟨_, rfl⟩
  rw [eV] at hQ
  have hV : ∀ i, 0 ≤ i → i < M 5 0 0 + M 10 0 3 → V i = -4 ∨ (0 ≤ V i ∧ V i < 96) := fun i i0 i1 => by
    rw [← eV]
    by_cases x : i < M 5 0 0
    · by_cases y : bitI (M 5 0 3) i = 1
      · rw [nV_1 x y]; exact Or.inl rfl
      · rw [nV_2 x y]
        have s := (hg.2.2.2 i i0 x).2.1
        exact wy_96 (by omega) hS s.1 s.2 hq
    · by_cases y : 0 ≤ lkV D (i - M 5 0 0) ∧ lkV D (i - M 5 0 0) < M 1 0 0
      · rw [nV_3 x y]
        have s := (dm_facts hH (o := i - M 5 0 0) (by omega) (by omega)).2.2.1
        exact wy_96 (by omega) hS s.1 s.2 hq
      · rw [nV_4 x y]; exact Or.inl rfl
  have okD : dOK (dx M) D := by rw [← eD]; exact ok_dyI hH.x (by omega)
  have sb : SB (dx M) (M 1 0 0) D := by
    have := sb_dy (D := D0) hH.x (day_xp hH) (q + 1).toNat
    rw [Int.toNat_of_nonneg (by omega)] at this
    rw [← eD]
    exact this
  have i130 : M 13 0 0 = M 1 0 0 := hN.1
  have e17 := n8
  have e54 := n8
  have e84 := n8
  have e106 := n8
  have e1 := n8
  have e86 := n8
  have wyE := n8
  have key : ∀ n9, CutOK l ω 9 248 (cutL [(49, [0, 1, 2, 3, 4, 5, 6], fun kk vs M9 => ∃ b a i : Int, vs = [vR 13 0, vI p, vI q, vI w, vI b, vI a, vI i] ∧ kk = (1000 - i).toNat ∧ (0 ≤ i ∧ i ≤ M 5 0 0) ∧ (∃ v : Mem, FT M v ∧ RelD (dx M) D v (q + 1) 0 0 0 ∧ ∀ z, z ≠ 81 → z ≠ 82 → M9 z = v z) ∧ a = (nbN V (M 5 0 0) 1000 i).1 ∧ b = (nbN V (M 5 0 0) 1000 i).2), (120, [0, 1, 2, 3, 4, 5, 6], fun kk vs M9 => ∃ b a r : Int, vs = [vR 13 0, vI p, vI q, vI w, vI b, vI a, vI r] ∧ kk = (100 - r).toNat ∧ (0 ≤ r ∧ r ≤ M 10 0 3) ∧ (∃ v : Mem, FT M v ∧ RelD (dx M) D v (q + 1) 0 0 0 ∧ ∀ z, z ≠ 81 → z ≠ 82 → M9 z = v z) ∧ a = (nbN V (M 5 0 0) 1000 (M 5 0 0 + r)).1 ∧ b = (nbN V (M 5 0 0) 1000 (M 5 0 0 + r)).2)] n9) Q := by
    refine loops (GGB_ok (l := l) (ω := ω)) 500 _ ?_
    refine List.forall_mem_cons.mpr ⟨?_, List.forall_mem_cons.mpr ⟨?_, fun _ h => absurd h List.not_mem_nil⟩⟩
    · rintro n9 vs M9 ⟨b, a, i, rfl, rfl, i0, ⟨u, ft, rel, fu⟩, ha, hb2⟩
      have nf := NFr.ofM ft fu
      have H9 := nf.day hH
      obtain ⟨hN9, hS9, hR9, hK9, hA9, hO9, hd9⟩ := id H9
      have wyE := wy_nf nf
      have e13 : M9 13 = M 13 := nf.1 13 (by decide) (by decide) (by decide) (by decide) (by decide) (by decide) (by decide) (by decide) (by decide) (by decide) (by decide) (by decide) (by decide) (by decide) (by decide) (by decide)
      have e1 : M9 1 = M 1 := nf.1 1 (by decide) (by decide) (by decide) (by decide) (by decide) (by decide) (by decide) (by decide) (by decide) (by decide) (by decide) (by decide) (by decide) (by decide) (by decide) (by decide)
      have e17 : M9 13 0 17 = M 5 0 0 := by rw [e13]; exact hg.1
      have e54 : M9 13 0 54 = M 10 0 3 := by rw [e13]; exact hO.1
      have e130 : M9 13 0 0 = M 1 0 0 := by rw [e13]; exact hN.1
      have e84 : M9 84 0 = M 31 0 := by rw [nf.1 84 (by decide) (by decide) (by decide) (by decide) (by decide) (by decide) (by decide) (by decide) (by decide) (by decide) (by decide) (by decide) (by decide) (by decide) (by decide) (by decide)]; exact hg.2.1.2.1
      have e86 : i < 8 → M9 86 0 i = bitI (M 5 0 3) i := fun x => by rw [nf.1 86 (by decide) (by decide) (by decide) (by decide) (by decide) (by decide) (by decide) (by decide) (by decide) (by decide) (by decide) (by decide) (by decide) (by decide) (by decide) (by decide)]; exact hb86 i i0.1 x
      have e106 := n8
      have bb := bit_01 (M 5 0 3) i
      have sg : i < M 5 0 0 → 0 ≤ M 31 0 i ∧ M 31 0 i ≤ 9 := fun x => (hg.2.2.2 i i0.1 x).2.1
      have v1 : i < M 5 0 0 → bitI (M 5 0 3) i = 1 → V i = -4 := fun x y => by rw [← eV]; exact nV_1 x y
      have v2 : i < M 5 0 0 → ¬ bitI (M 5 0 3) i = 1 → V i = wy M 0 p (M 31 0 i) q := fun x y => by rw [← eV]; exact nV_2 x y
      have nb := nb_in (V := V) (i0 := 1000) hg.2.2.1 (show M 5 0 0 + M 10 0 3 ≤ 16 by omega) (by decide) hV i.toNat (by omega)
      rw [Int.toNat_of_nonneg i0.1, ← ha, ← hb2] at nb
      have ei : w32 (i + 1) = i + 1 := w32_e (by omega) (by omega)
      show wpH _ 500 _ 248 _ true 49 [vR 13 0, vI p, vI q, vI w, vI b, vI a, vI i, vU, vU] [] _ Q
      conv => whnf
      repeat' first
        | (refine And.intro (fun h => ?_) (fun h => ?_) <;> (try simp (disch := decide) only [cmp3_lt, cmp3_ge, cmp3_gt, cmp3_le, cmp3_eq, ms_q, ms_f, mf_q, mf_f, mc_q, mc_f, and_self, and_true, true_and, and_false, false_and, or_true, true_or, or_false, false_or, if_true, if_false, not_true_eq_false, not_false_eq_true, eq_self, reduceIte, Int.reduceEq, Int.reduceLT, Int.reduceLE, Int.reduceNeg, Int.reduceAdd, Int.reduceSub, Int.reduceMul, Int.add_sub_cancel] at h) <;> (try simp (disch := omega) only [w32_e, w64_e, td_pos, tm_pos, Int.add_sub_cancel, e17, e54, e84, e106, e1, e86, wyE] at h) <;> first | exact absurd rfl h | exact absurd h (by decide) | (exfalso; omega) | (conv => whnf))
        | (refine And.intro (by first | omega | ((try simp (disch := decide) only [cmp3_lt, cmp3_ge, cmp3_gt, cmp3_le, cmp3_eq, ms_q, ms_f, mf_q, mf_f, mc_q, mc_f, and_self, and_true, true_and, and_false, false_and, or_true, true_or, or_false, false_or, if_true, if_false, not_true_eq_false, not_false_eq_true, eq_self, reduceIte, Int.reduceEq, Int.reduceLT, Int.reduceLE, Int.reduceNeg, Int.reduceAdd, Int.reduceSub, Int.reduceMul, Int.add_sub_cancel]); (try simp (disch := omega) only [w32_e, w64_e, td_pos, tm_pos, Int.add_sub_cancel, e17, e54, e84, e106, e1, e86, wyE]); first | assumption | omega) | exact ⟨rfl, hH, by omega, by omega⟩ | ((try simp (disch := decide) only [cmp3_lt, cmp3_ge, cmp3_gt, cmp3_le, cmp3_eq, ms_q, ms_f, mf_q, mf_f, mc_q, mc_f, and_self, and_true, true_and, and_false, false_and, or_true, true_or, or_false, false_or, if_true, if_false, not_true_eq_false, not_false_eq_true, eq_self, reduceIte, Int.reduceEq, Int.reduceLT, Int.reduceLE, Int.reduceNeg, Int.reduceAdd, Int.reduceSub, Int.reduceMul, Int.add_sub_cancel]); (try simp (disch := omega) only [w32_e, w64_e, td_pos, tm_pos, Int.add_sub_cancel, e17, e54, e84, e106, e1, e86, wyE]); ((repeat' (first | assumption | omega | with_reducible rfl | apply And.intro)); done))) ?_; conv => whnf)
        | (intro v; intro hv; conv => whnf)
      all_goals first
        | (have e9 : i = M 5 0 0 := by omega
           rw [e9] at ha hb2
           refine ⟨_, ?_, b, a, 0, rfl, rfl, ⟨Int.le_refl _, n8.1⟩, ⟨u, ft, rel, fu⟩, by rw [Int.add_zero]; exact ha, by rw [Int.add_zero]; exact hb2⟩
           omega)
        | (have c : ¬ (¬ V i = -4 ∧ V i < (nbN V (M 5 0 0) 1000 i).1) := by rw [← ha]; omega
           refine ⟨_, ?_, b, a, i + 1, by rw [ei], rfl, ⟨by omega, by omega⟩, ?_, ?_, ?_⟩
           · omega
           · first | exact ⟨u, ft, rel, fu⟩ | exact ⟨u, ft, rel, fun z x y => (hv z x y).trans (fu z x y)⟩
           · rw [nbN_a i0.1 c]; exact ha
           · rw [nbN_a i0.1 c]; exact hb2)
        | (have c : ¬ V i = -4 ∧ V i < (nbN V (M 5 0 0) 1000 i).1 := by rw [← ha]; omega
           have nb2 := nbN_b i0.1 c
           have x : i < M 5 0 0 := by omega
           rw [if_pos x] at nb2
           refine ⟨_, ?_, i, V i, i + 1, by rw [ei, v2 x (by omega), wyE, e84], rfl, ⟨by omega, by omega⟩, ⟨u, ft, rel, fun z x y => (hv z x y).trans (fu z x y)⟩, ?_, ?_⟩
           · omega
           · rw [nb2]
           · rw [nb2])
    · rintro n9 vs M9 ⟨b, a, r, rfl, rfl, r0, ⟨u, ft, rel, fu⟩, ha, hb2⟩
      have nf := NFr.ofM ft fu
      have H9 := nf.day hH
      obtain ⟨hN9, hS9, hR9, hK9, hA9, hO9, hd9⟩ := id H9
      have wyE := wy_nf nf
      have e13 : M9 13 = M 13 := nf.1 13 (by decide) (by decide) (by decide) (by decide) (by decide) (by decide) (by decide) (by decide) (by decide) (by decide) (by decide) (by decide) (by decide) (by decide) (by decide) (by decide)
      have e1 : M9 1 = M 1 := nf.1 1 (by decide) (by decide) (by decide) (by decide) (by decide) (by decide) (by decide) (by decide) (by decide) (by decide) (by decide) (by decide) (by decide) (by decide) (by decide) (by decide)
      have e17 : M9 13 0 17 = M 5 0 0 := by rw [e13]; exact hg.1
      have e54 : M9 13 0 54 = M 10 0 3 := by rw [e13]; exact hO.1
      have e130 : M9 13 0 0 = M 1 0 0 := by rw [e13]; exact hN.1
      have e84 : M9 84 0 = M 31 0 := by rw [nf.1 84 (by decide) (by decide) (by decide) (by decide) (by decide) (by decide) (by decide) (by decide) (by decide) (by decide) (by decide) (by decide) (by decide) (by decide) (by decide) (by decide)]; exact hg.2.1.2.1
      have e86 := n8
      have e106 : r < M 10 0 3 → M9 106 0 r = M 11 r 1 := fun x => by rw [nf.1 106 (by decide) (by decide) (by decide) (by decide) (by decide) (by decide) (by decide) (by decide) (by decide) (by decide) (by decide) (by decide) (by decide) (by decide) (by decide) (by decide)]; exact (dm_facts hH r0.1 x).1.2.1
      have i0 : 0 ≤ M 5 0 0 + r ∧ M 5 0 0 + r ≤ 16 := by omega
      have sr : r < M 10 0 3 → 0 ≤ M 11 r 1 ∧ M 11 r 1 ≤ 9 := fun y => (dm_facts hH r0.1 y).2.2.1
      have er : M 5 0 0 + r - M 5 0 0 = r := by omega
      have v3 : 0 ≤ lkV D r ∧ lkV D r < M 1 0 0 → V (M 5 0 0 + r) = wy M (lkV D r) p (M 11 r 1) q := fun y => by
        have := nV_3 (M := M) (p := p) (q := q) (D := D) (i := M 5 0 0 + r) (by omega) (by rw [er]; exact y)
        rw [er] at this
        rw [← eV]
        exact this
      have v4 : ¬ (0 ≤ lkV D r ∧ lkV D r < M 1 0 0) → V (M 5 0 0 + r) = -4 := fun y => by
        rw [← eV]
        exact nV_4 (M := M) (p := p) (q := q) (D := D) (i := M 5 0 0 + r) (by omega) (by rw [er]; exact y)
      have lv : r < M 10 0 3 → (0 ≤ lkV D r ∧ lkV D r ≤ 99 ↔ 0 ≤ lkV D r ∧ lkV D r < M 1 0 0) ∧ in32 (lkV D r) := fun x => lkB hH.x sb okD r0.1 x n12
      have nb := nb_in (V := V) (i0 := 1000) hg.2.2.1 (show M 5 0 0 + M 10 0 3 ≤ 16 by omega) (by decide) hV (M 5 0 0 + r).toNat (by omega)
      rw [Int.toNat_of_nonneg i0.1, ← ha, ← hb2] at nb
      have ei : w32 (r + 1) = r + 1 := w32_e (by omega) (by omega)
      have ep : w32 (100 + r) = 100 + r := w32_e (by omega) (by omega)
      have lv2 : r < M 10 0 3 → 0 ≤ lkV D r → lkV D r ≤ 99 → lkV D r < M 1 0 0 := fun x y z => ((lv x).1.mp ⟨y, z⟩).2
      have lv3 : r < M 10 0 3 → -2147483648 ≤ lkV D r ∧ lkV D r < 2147483648 := fun x => (lv x).2
      have lv4 : r < M 10 0 3 → lkV D r < M 1 0 0 → 0 ≤ lkV D r → lkV D r ≤ 99 := fun x y z => ((lv x).1.mpr ⟨z, y⟩).2
      have xe := dx_nf nf
      show wpH _ 500 _ 248 _ true 120 [vR 13 0, vI p, vI q, vI w, vI b, vI a, vI r, vU, vU] [] _ Q
      conv => whnf
      repeat' first
        | (refine And.intro (fun h => ?_) (fun h => ?_) <;> (try simp (disch := decide) only [cmp3_lt, cmp3_ge, cmp3_gt, cmp3_le, cmp3_eq, ms_q, ms_f, mf_q, mf_f, mc_q, mc_f, and_self, and_true, true_and, and_false, false_and, or_true, true_or, or_false, false_or, if_true, if_false, not_true_eq_false, not_false_eq_true, eq_self, reduceIte, Int.reduceEq, Int.reduceLT, Int.reduceLE, Int.reduceNeg, Int.reduceAdd, Int.reduceSub, Int.reduceMul, Int.add_sub_cancel] at h) <;> (try simp (disch := omega) only [w32_e, w64_e, td_pos, tm_pos, Int.add_sub_cancel, e17, e54, e84, e106, e1, e86, wyE] at h) <;> first | exact absurd rfl h | exact absurd h (by decide) | (exfalso; omega) | (conv => whnf))
        | (refine And.intro (by first | omega | ((try simp (disch := decide) only [cmp3_lt, cmp3_ge, cmp3_gt, cmp3_le, cmp3_eq, ms_q, ms_f, mf_q, mf_f, mc_q, mc_f, and_self, and_true, true_and, and_false, false_and, or_true, true_or, or_false, false_or, if_true, if_false, not_true_eq_false, not_false_eq_true, eq_self, reduceIte, Int.reduceEq, Int.reduceLT, Int.reduceLE, Int.reduceNeg, Int.reduceAdd, Int.reduceSub, Int.reduceMul, Int.add_sub_cancel]); (try simp (disch := omega) only [w32_e, w64_e, td_pos, tm_pos, Int.add_sub_cancel, e17, e54, e84, e106, e1, e86, wyE]); first | assumption | omega) | exact ⟨rfl, hH, by omega, by omega⟩ | ((try simp (disch := decide) only [cmp3_lt, cmp3_ge, cmp3_gt, cmp3_le, cmp3_eq, ms_q, ms_f, mf_q, mf_f, mc_q, mc_f, and_self, and_true, true_and, and_false, false_and, or_true, true_or, or_false, false_or, if_true, if_false, not_true_eq_false, not_false_eq_true, eq_self, reduceIte, Int.reduceEq, Int.reduceLT, Int.reduceLE, Int.reduceNeg, Int.reduceAdd, Int.reduceSub, Int.reduceMul, Int.add_sub_cancel]); (try simp (disch := omega) only [w32_e, w64_e, td_pos, tm_pos, Int.add_sub_cancel, e17, e54, e84, e106, e1, e86, wyE]); ((repeat' (first | assumption | omega | with_reducible rfl | apply And.intro)); done))) ?_; conv => whnf)
        | (intro v; intro hv; conv => whnf)
      all_goals first
        | (have e9 : r = M 10 0 3 := by omega
           refine Eq.mp (congrArg (fun z => Q (some (vI z)) M9) ?_) (hQ M9 nf)
           rw [← e9, ← ha, ← hb2]
           first | (rw [if_pos (by omega)]; done) | (rw [if_neg (by omega), if_pos (by omega)]; done) | (rw [if_neg (by omega), if_neg (by omega)]; done))
        | (refine ⟨D, q + 1, ⟨H9, by rw [xe]; exact okD, by rw [xe]; exact rel.cg (fun z z0 z1 => fu z (by omega) (by omega)), r0.1, by rw [nf.2.1 0 3 (by decide)]; omega⟩, ?_⟩
           conv => whnf)
      all_goals repeat' first
        | (refine And.intro (fun h => ?_) (fun h => ?_) <;> (try simp (disch := decide) only [cmp3_lt, cmp3_ge, cmp3_gt, cmp3_le, cmp3_eq, ms_q, ms_f, mf_q, mf_f, mc_q, mc_f, and_self, and_true, true_and, and_false, false_and, or_true, true_or, or_false, false_or, if_true, if_false, not_true_eq_false, not_false_eq_true, eq_self, reduceIte, Int.reduceEq, Int.reduceLT, Int.reduceLE, Int.reduceNeg, Int.reduceAdd, Int.reduceSub, Int.reduceMul, Int.add_sub_cancel] at h) <;> (try simp (disch := omega) only [w32_e, w64_e, td_pos, tm_pos, Int.add_sub_cancel, e17, e54, e84, e106, e1, e86, wyE] at h) <;> first | exact absurd rfl h | exact absurd h (by decide) | (exfalso; omega) | (conv => whnf))
        | (refine And.intro (by first | omega | ((try simp (disch := decide) only [cmp3_lt, cmp3_ge, cmp3_gt, cmp3_le, cmp3_eq, ms_q, ms_f, mf_q, mf_f, mc_q, mc_f, and_self, and_true, true_and, and_false, false_and, or_true, true_or, or_false, false_or, if_true, if_false, not_true_eq_false, not_false_eq_true, eq_self, reduceIte, Int.reduceEq, Int.reduceLT, Int.reduceLE, Int.reduceNeg, Int.reduceAdd, Int.reduceSub, Int.reduceMul, Int.add_sub_cancel]); (try simp (disch := omega) only [w32_e, w64_e, td_pos, tm_pos, Int.add_sub_cancel, e17, e54, e84, e106, e1, e86, wyE]); first | assumption | omega) | ((try simp (disch := decide) only [cmp3_lt, cmp3_ge, cmp3_gt, cmp3_le, cmp3_eq, ms_q, ms_f, mf_q, mf_f, mc_q, mc_f, and_self, and_true, true_and, and_false, false_and, or_true, true_or, or_false, false_or, if_true, if_false, not_true_eq_false, not_false_eq_true, eq_self, reduceIte, Int.reduceEq, Int.reduceLT, Int.reduceLE, Int.reduceNeg, Int.reduceAdd, Int.reduceSub, Int.reduceMul, Int.add_sub_cancel]); (try simp (disch := omega) only [w32_e, w64_e, td_pos, tm_pos, Int.add_sub_cancel, e17, e54, e84, e106, e1, e86, wyE]); ((repeat' (first | assumption | omega | with_reducible rfl | apply And.intro)); done))) ?_; conv => whnf)
        | (intro v; intro hv; conv => whnf)
      all_goals first
        | (have c : ¬ (¬ V (M 5 0 0 + r) = -4 ∧ V (M 5 0 0 + r) < (nbN V (M 5 0 0) 1000 (M 5 0 0 + r)).1) := by rw [← ha]; omega
           refine ⟨_, ?_, b, a, r + 1, by rw [ei], rfl, ⟨by omega, by omega⟩, ?_, ?_, ?_⟩
           · omega
           · first | exact ⟨u, ft, rel, fu⟩ | exact ⟨u, ft, rel, fun z x y => (hv z x y).trans (fu z x y)⟩
           · rw [← Int.add_assoc, nbN_a i0.1 c]; exact ha
           · rw [← Int.add_assoc, nbN_a i0.1 c]; exact hb2)
        | (have c : ¬ V (M 5 0 0 + r) = -4 ∧ V (M 5 0 0 + r) < (nbN V (M 5 0 0) 1000 (M 5 0 0 + r)).1 := by rw [← ha]; omega
           have nb2 := nbN_b i0.1 c
           rw [if_neg (by omega), er] at nb2
           refine ⟨_, ?_, 100 + r, V (M 5 0 0 + r), r + 1, by rw [ei, ep, v3 (by omega), wyE, e106 (by omega)], rfl, ⟨by omega, by omega⟩, ⟨u, ft, rel, fun z x y => (hv z x y).trans (fu z x y)⟩, ?_, ?_⟩
           · omega
           · rw [← Int.add_assoc, nb2]
           · rw [← Int.add_assoc, nb2])
  refine Vd_run (GGB_ok (l := l) (ω := ω)) 500 (hC := key 10000) (by decide) ?_
  conv => whnf
  repeat' first
    | (refine And.intro (fun h => ?_) (fun h => ?_) <;> (try simp (disch := decide) only [cmp3_lt, cmp3_ge, cmp3_gt, cmp3_le, cmp3_eq, ms_q, ms_f, mf_q, mf_f, mc_q, mc_f, and_self, and_true, true_and, and_false, false_and, or_true, true_or, or_false, false_or, if_true, if_false, not_true_eq_false, not_false_eq_true, eq_self, reduceIte, Int.reduceEq, Int.reduceLT, Int.reduceLE, Int.reduceNeg, Int.reduceAdd, Int.reduceSub, Int.reduceMul, Int.add_sub_cancel] at h) <;> (try simp (disch := omega) only [w32_e, w64_e, td_pos, tm_pos, Int.add_sub_cancel, e17, e54, e84, e106, e1, e86, wyE] at h) <;> first | exact absurd rfl h | exact absurd h (by decide) | (exfalso; omega) | (conv => whnf))
    | (refine And.intro (by first | omega | ((try simp (disch := decide) only [cmp3_lt, cmp3_ge, cmp3_gt, cmp3_le, cmp3_eq, ms_q, ms_f, mf_q, mf_f, mc_q, mc_f, and_self, and_true, true_and, and_false, false_and, or_true, true_or, or_false, false_or, if_true, if_false, not_true_eq_false, not_false_eq_true, eq_self, reduceIte, Int.reduceEq, Int.reduceLT, Int.reduceLE, Int.reduceNeg, Int.reduceAdd, Int.reduceSub, Int.reduceMul, Int.add_sub_cancel]); (try simp (disch := omega) only [w32_e, w64_e, td_pos, tm_pos, Int.add_sub_cancel, e17, e54, e84, e106, e1, e86, wyE]); first | assumption | omega) | exact ⟨rfl, hH, by omega, by omega⟩ | ((try simp (disch := decide) only [cmp3_lt, cmp3_ge, cmp3_gt, cmp3_le, cmp3_eq, ms_q, ms_f, mf_q, mf_f, mc_q, mc_f, and_self, and_true, true_and, and_false, false_and, or_true, true_or, or_false, false_or, if_true, if_false, not_true_eq_false, not_false_eq_true, eq_self, reduceIte, Int.reduceEq, Int.reduceLT, Int.reduceLE, Int.reduceNeg, Int.reduceAdd, Int.reduceSub, Int.reduceMul, Int.add_sub_cancel]); (try simp (disch := omega) only [w32_e, w64_e, td_pos, tm_pos, Int.add_sub_cancel, e17, e54, e84, e106, e1, e86, wyE]); ((repeat' (first | assumption | omega | with_reducible rfl | apply And.intro)); done))) ?_; conv => whnf)
    | (intro v; intro hv; conv => whnf)
  all_goals first
    | (exfalso; omega)
    | (refine ⟨D0, fun v hv => ?_⟩
       conv => whnf
       refine ⟨_, ?_, -4, 1000, 0, rfl, rfl, ⟨Int.le_refl _, n5.1⟩, ⟨v, hv.1, by rw [← eD]; exact hv.2, fun _ _ _ => rfl⟩, rfl, rfl⟩
       omega)
