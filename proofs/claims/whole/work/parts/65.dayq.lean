/-! ===== the day, by the model: a quarter, the day (wip/gen/p30.py) ===== -/
def GLy : List (Nat × Nat × Spec1) := (241, 6, sp_deM) :: GLx
abbrev GGy : Env1 := fun n => getG n GLy
theorem GGy_all {l : Launch} {ω : WP} : ∀ e ∈ GLy, ∀ as M Q, e.2.2 as M Q → Vd l ω e.2.1 e.1 as M Q := List.forall_mem_cons.mpr ⟨ok_deM, GGx_all⟩
theorem GGy_ok {l : Launch} {ω : WP} : GOK l ω GGy := getG_ok GLy GGy_all
theorem FT.de {M T v : Mem} {X : DX} {o q : Int} (h : FT M T) (f : ∀ p, p ≠ 98 → p ≠ 99 → v p = deT X o q T p) : FT M v := by
  have d : ∀ T : Mem, FT M T → FT M (doT X o q T) := fun T h => by
    unfold doT
    exact ((((h.set (by decide)).set (by decide)).set (by decide)).set (by decide)).set (by decide)
  refine FT.trans ?_ (FT.scr f)
  unfold deT
  split
  · exact d T h
  · split
    · exact d _ (h.set (by decide))
    · split
      · exact h.set (by decide)
      · exact h.set (by decide)
theorem cm_122 {o p q : Int} {T : Mem} : cmT o p q T 122 = T 122 := by
  unfold cmT
  rw [ms_q (by decide), ms_q (by decide), ms_q (by decide), ms_q (by decide)]
theorem FT.cm {M T : Mem} {o p q : Int} (h : FT M T) : FT M (cmT o p q T) := by
  unfold cmT
  exact (((h.set (by decide)).set (by decide)).set (by decide)).set (by decide)
theorem day_tm {M : Mem} (H : DayH M) {q : Int} : ∀ r, 0 ≤ r → r < (dx M).n → ∀ j, 0 ≤ j → j < (dx M).si ((dx M).rt r) → (dx M).tm ((dx M).ro ((dx M).rt r) j) ((dx M).rs r) q = -5 ∨ (0 ≤ (dx M).tm ((dx M).ro ((dx M).rt r) j) ((dx M).rs r) q ∧ (dx M).tm ((dx M).ro ((dx M).rt r) j) ((dx M).rs r) q ≤ 1000000) := by
  intro r r0 r1 j j0 j1
  obtain ⟨d1, d2, d3, d4, d5, d6, d7⟩ := dm_facts H r0 r1
  obtain ⟨hN, hS, hR, hK, hA, hO, hd⟩ := id H
  have k := (hR.2.2.2.2 _ d2.1 d2.2.2).2 j j0 j1
  have t := tk_in (q := q) hS k.1 k.2 d3.1 d3.2
  rcases t with z | z
  · exact Or.inl z
  · exact Or.inr ⟨show 0 ≤ tk M _ _ q by exact Int.le_trans (by decide) z.1, show tk M _ _ q ≤ 1000000 by exact Int.le_trans z.2 (by decide)⟩

def sp_quM : Spec1 := fun as M Q => match as with
  | [.inr (.inr (.inl (q0, i0))), .inl q] => match Nat.beq q0 13 with
    | true => (i0 = 0 ∧ DayH M ∧ (0 ≤ q ∧ q ≤ 95)) ∧ ∃ D : DD, (dOK (dx M) D ∧ RelD (dx M) D M q 0 0 0) ∧ ∀ M9, (FT M M9 ∧ RelD (dx M) (quD (dx M) q D) M9 (q + 1) 0 0 0) → Q none M9
    | false => False
  | _ => False
theorem ok_quM {l : Launch} {ω : WP} : ∀ as M Q, sp_quM as M Q → Vd l ω 7 242 as M Q := by
  intro as M Q h
  unfold sp_quM at h
  split at h
  case h_2 => exact h.elim
  rename_i q0 i0 q
  cases hb : Nat.beq q0 13 with
  | false => rw [hb] at h; exact h.elim
  | true =>
  rw [hb] at h
  obtain ⟨⟨hi, hH, hq⟩, hQ⟩ := h
  have hb := beq_eq hb
  subst hb
  subst hi
  refine Vd.ok fun hok hal => ?_
  obtain ⟨D, ⟨hD, hRel⟩, hQ⟩ := hQ
  have hX := hH.x
  have n8 : 0 ≤ M 10 0 3 ∧ M 10 0 3 ≤ 8 := hX.1
  have okL := ok_lcI (q := q) (i := (dx M).n) hX hD ⟨hX.1.1, Int.le_refl _⟩
  have e54 := n8
  have e105 := n8
  have e107 := n8
  have e70 := n8
  have e71 := n8
  have e77a := n8
  have e77b := n8
  have dcn := n8
  have lcond := n8
  have key : ∀ n9, CutOK l ω 7 242 (cutL [(2, [0, 1, 2], fun kk vs M9 => ∃ o : Int, vs = [vR 13 0, vI q, vI o] ∧ kk = (100000 - o).toNat ∧ (0 ≤ o ∧ o ≤ M 10 0 3) ∧ FT M M9 ∧ RelD (dx M) (lcN (dx M) q D o) M9 q o 0 0 ∧ (∀ j, 0 ≤ j → j < o → M9 122 0 j = 0)), (134, [0, 1, 2], fun kk vs M9 => ∃ b i : Int, vs = [vR 13 0, vI q, vI b] ∧ kk = (((lcN (dx M) q D (dx M).n).qn - i) * 1000 + b * 500).toNat ∧ (0 ≤ i ∧ i ≤ (lcN (dx M) q D (dx M).n).qn) ∧ FT M M9 ∧ RelD (dx M) (lgN (dx M) q (lcN (dx M) q D (dx M).n) i).2 M9 q (dx M).n (lgN (dx M) q (lcN (dx M) q D (dx M).n) i).1 i ∧ RE (lgN (dx M) q (lcN (dx M) q D (dx M).n) i).2 M9 (lgN (dx M) q (lcN (dx M) q D (dx M).n) i).1 i ∧ (b = 1 ∨ (b = 0 ∧ i = (lcN (dx M) q D (dx M).n).qn))), (144, [0, 1, 2, 3, 4], fun kk vs M9 => ∃ f o i : Int, vs = [vR 13 0, vI q, vI 1, vI f, vI o] ∧ kk = (((lcN (dx M) q D (dx M).n).qn - i) * 1000 + 400 - o).toNat ∧ (0 ≤ i ∧ i ≤ (lcN (dx M) q D (dx M).n).qn) ∧ FT M M9 ∧ RelD (dx M) (lgN (dx M) q (lcN (dx M) q D (dx M).n) i).2 M9 q (dx M).n (lgN (dx M) q (lcN (dx M) q D (dx M).n) i).1 i ∧ RE (lgN (dx M) q (lcN (dx M) q D (dx M).n) i).2 M9 (lgN (dx M) q (lcN (dx M) q D (dx M).n) i).1 i ∧ (0 ≤ o ∧ o ≤ M 10 0 3) ∧ FI M9 f o)] n9) Q := by
    refine loops (GGy_ok (l := l) (ω := ω)) 600 _ ?_
    refine List.forall_mem_cons.mpr ⟨?_, List.forall_mem_cons.mpr ⟨?_, List.forall_mem_cons.mpr ⟨?_, fun _ h => absurd h List.not_mem_nil⟩⟩⟩
    · rintro n9 vs M9 ⟨o, rfl, rfl, o0, ft, rel, r122⟩
      have H9 := ft.day hH
      have xe := dx_ft ft
      have e10 : M9 10 = M 10 := ft 10 (by decide) (by decide) (by decide)
      have e54 : M9 13 0 54 = M 10 0 3 := by rw [ft 13 (by decide) (by decide) (by decide)]; exact hH.2.2.2.2.2.1.1
      have df : o < M 10 0 3 → _ := fun z => dm_facts hH o0.1 z
      have e105 : o < M 10 0 3 → M9 105 0 o = M 11 o 0 := fun z => by rw [ft 105 (by decide) (by decide) (by decide)]; exact (df z).1.1
      have e107 : o < M 10 0 3 → M9 107 0 o = M 11 o 2 := fun z => by rw [ft 107 (by decide) (by decide) (by decide)]; exact (df z).1.2.2.1
      have e70 : M9 70 0 = M 15 0 := by rw [ft 70 (by decide) (by decide) (by decide)]; exact hH.2.1.2.1.1
      have e71 : M9 71 0 = M 16 0 := by rw [ft 71 (by decide) (by decide) (by decide)]; exact hH.2.1.2.1.2.1
      have r6 : o < M 10 0 3 → 0 ≤ M 11 o 0 ∧ M 11 o 0 < 6 := fun z => ⟨(df z).2.1.1, (df z).2.1.2.1⟩
      have e77a : o < M 10 0 3 → M9 77 0 (6 * M 11 o 0 + 0) = M 23 (M 11 o 0) 0 := fun z => by
        rw [ft 77 (by decide) (by decide) (by decide)]
        exact (df z).2.2.2.2.2.2 0 (by decide) (by decide)
      have okc := ok_lcI (q := q) hX hD o0
      have ro := fun z : o < M 10 0 3 => rel.1 o o0.1 z
      have kk : o < M 10 0 3 → ¬ M9 109 0 o = 0 → M9 115 0 o = q → (0 ≤ M9 112 0 o ∧ M9 112 0 o < 6) ∧ M9 112 0 o < M 21 0 (M 11 o 0) := fun z a b => by
        obtain ⟨w1, w2, w3, w4, w5, w6, w7, w8, w9, w10, w11, w12⟩ := ro z
        obtain ⟨k1, k2⟩ := okc.2.2 o o0.1 z
        have k1' : 0 ≤ (lcN (dx M) q D o).rp o 7 ∧ (lcN (dx M) q D o).rp o 7 ≤ M 21 0 (M 11 o 0) := k1
        have d6 := (df z).2.2.2.2.2.1
        rw [w5.2.1]
        rcases k2 with k2 | ⟨k2, k3⟩
        · have := w6 k2
          omega
        · have k3' : (lcN (dx M) q D o).rp o 7 < M 21 0 (M 11 o 0) := k3
          omega
      have e77b : o < M 10 0 3 → (0 ≤ M9 112 0 o ∧ M9 112 0 o < 6) → M9 77 0 (6 * M 11 o 0 + M9 112 0 o) = M 23 (M 11 o 0) (M9 112 0 o) := fun z w => by
        rw [ft 77 (by decide) (by decide) (by decide)]
        exact (df z).2.2.2.2.2.2 _ w.1 w.2
      have xf : o < M 10 0 3 → ∀ j, 0 ≤ j → j < M 21 0 (M 11 o 0) → (0 ≤ M 23 (M 11 o 0) j ∧ M 23 (M 11 o 0) j < 20) ∧ (0 ≤ M 15 0 (M 23 (M 11 o 0) j) ∧ M 15 0 (M 23 (M 11 o 0) j) < 12) ∧ (0 ≤ M 16 0 (M 23 (M 11 o 0) j) ∧ M 16 0 (M 23 (M 11 o 0) j) < 12) := fun z j j0 j1 => (hX.2 o o0.1 z).2.2.2.2.2 j j0 j1
      have xf0 : o < M 10 0 3 → _ := fun z => xf z 0 (by decide) (by have := (df z).2.2.2.2.2.1; omega)
      have xfb : o < M 10 0 3 → (0 ≤ M9 112 0 o ∧ M9 112 0 o < M 21 0 (M 11 o 0)) → _ := fun z w => xf z (M9 112 0 o) w.1 w.2
      have ei : w32 (o + 1) = o + 1 := w32_e (by omega) (by omega)
      have dcn := n8
      have lcond := n8
      have s122 : ∀ z : Mem, z 122 = mset M9 122 0 o 0 122 → ∀ j, 0 ≤ j → j < o + 1 → z 122 0 j = 0 := fun z e j j0 j1 => by
        rw [e, ms_f]
        by_cases c : j = o
        · rw [if_pos ⟨rfl, c⟩]
        · rw [if_neg (fun y => c y.2)]
          exact r122 j j0 (by omega)
      show wpH _ 600 _ 242 _ true 2 [vR 13 0, vI q, vI o, vU, vU, vU] [] _ Q
      conv => whnf
      repeat' first
        | (refine And.intro (fun h => ?_) (fun h => ?_) <;> (try simp (disch := decide) only [cmp3_lt, cmp3_ge, cmp3_gt, cmp3_le, cmp3_eq, ms_q, ms_f, mf_q, mf_f, mc_q, mc_f, and_self, and_true, true_and, and_false, false_and, or_true, true_or, or_false, false_or, if_true, if_false, not_true_eq_false, not_false_eq_true, eq_self, reduceIte, Int.reduceEq, Int.reduceLT, Int.reduceLE, Int.reduceNeg, Int.reduceAdd, Int.reduceSub, Int.reduceMul, Int.add_sub_cancel] at h) <;> (try simp (disch := omega) only [w32_e, w64_e, td_pos, tm_pos, Int.add_sub_cancel, e54, e105, e107, e70, e71, e77a, e77b] at h) <;> first | exact absurd rfl h | exact absurd h (by decide) | (exfalso; omega) | (conv => whnf))
        | (refine And.intro (by first | omega | ((try simp (disch := decide) only [cmp3_lt, cmp3_ge, cmp3_gt, cmp3_le, cmp3_eq, ms_q, ms_f, mf_q, mf_f, mc_q, mc_f, and_self, and_true, true_and, and_false, false_and, or_true, true_or, or_false, false_or, if_true, if_false, not_true_eq_false, not_false_eq_true, eq_self, reduceIte, Int.reduceEq, Int.reduceLT, Int.reduceLE, Int.reduceNeg, Int.reduceAdd, Int.reduceSub, Int.reduceMul, Int.add_sub_cancel]); (try simp (disch := omega) only [w32_e, w64_e, td_pos, tm_pos, Int.add_sub_cancel, e54, e105, e107, e70, e71, e77a, e77b]); first | assumption | omega) | exact dcn (by omega) (by omega) | ((try simp (disch := decide) only [cmp3_lt, cmp3_ge, cmp3_gt, cmp3_le, cmp3_eq, ms_q, ms_f, mf_q, mf_f, mc_q, mc_f, and_self, and_true, true_and, and_false, false_and, or_true, true_or, or_false, false_or, if_true, if_false, not_true_eq_false, not_false_eq_true, eq_self, reduceIte, Int.reduceEq, Int.reduceLT, Int.reduceLE, Int.reduceNeg, Int.reduceAdd, Int.reduceSub, Int.reduceMul, Int.add_sub_cancel]); (try simp (disch := omega) only [w32_e, w64_e, td_pos, tm_pos, Int.add_sub_cancel, e54, e105, e107, e70, e71, e77a, e77b]); ((repeat' (first | assumption | omega | with_reducible rfl | apply And.intro)); done))) ?_; conv => whnf)
        | (intro v; intro hv; conv => whnf)
      all_goals first
        | (have e9 : o = M 10 0 3 := by omega
           rw [e9] at rel r122
           have oq := okL.1
           have rel' : RelD (dx M) (lcN (dx M) q D (dx M).n) M9 q (dx M).n 0 0 := rel
           refine ⟨_, ?_, 1, 0, rfl, rfl, ⟨Int.le_refl _, oq.1⟩, ft, rel', ⟨fun j a b => absurd b (by show ¬ j < 0; omega), fun j a b => ?_⟩, Or.inl rfl⟩
           · omega
           · have z := okL.2.1 j a b
             exact r122 _ z.1.1 z.1.2)
        | (have hlt : o < M 10 0 3 := by omega
           have c1 : M9 109 0 o = 0 → ¬ (dx M).sa o = q := fun z (y : M 11 o 2 = q) => by omega
           have c2 : ¬ M9 109 0 o = 0 → ¬ M9 115 0 o = q := fun z => by omega
           refine ⟨_, ?_, o + 1, by rw [ei], rfl, ⟨by omega, by omega⟩, ft.set (by decide), ?_, s122 _ rfl⟩
           · omega
           · rw [lcN_s o0.1]
             exact rel_lcC rel ⟨o0.1, hlt⟩ c1 c2)
        | (have hlt : o < M 10 0 3 := by omega
           have ha : M9 109 0 o = 0 := by assumption
           have hs : M 11 o 2 = q := by assumption
           have r6' := r6 hlt
           simp (disch := decide) only [ms_q]
           rw [e70, e105 hlt, w32_e (x := 6 * M 11 o 0) (by omega) (by omega), w32_e (x := 6 * M 11 o 0 + 0) (by omega) (by omega), e77a hlt]
           refine ⟨_, ?_, o + 1, by rw [ei], rfl, ⟨by omega, by omega⟩, ((ft.set (by decide)).set (by decide)).cm, ?_, s122 _ ?_⟩
           · omega
           · rw [lcN_s o0.1]
             exact rel_lcA hX rel ⟨o0.1, hlt⟩ ha hs
           · rw [cm_122, ms_q (by decide)])
        | (have hlt : o < M 10 0 3 := by omega
           have ha : ¬ M9 109 0 o = 0 := by assumption
           have hs : M9 115 0 o = q := by assumption
           have r6' := r6 hlt
           have k' := kk hlt ha hs
           simp (disch := decide) only [ms_q]
           rw [e71, e105 hlt, w32_e (x := 6 * M 11 o 0) (by omega) (by omega), w32_e (x := 6 * M 11 o 0 + M9 112 0 o) (by omega) (by omega), e77b hlt k'.1]
           refine ⟨_, ?_, o + 1, by rw [ei], rfl, ⟨by omega, by omega⟩, ((ft.set (by decide)).set (by decide)).cm, ?_, s122 _ ?_⟩
           · omega
           · rw [lcN_s o0.1]
             exact rel_lcB hX okc hq.1 rel ⟨o0.1, hlt⟩ ha hs
           · rw [cm_122, ms_q (by decide)])
    · rintro n9 vs M9 ⟨b, i, rfl, rfl, i0, ft, rel, re_, hb1⟩
      have dcn := n8
      have e54 : M9 13 0 54 = M 10 0 3 := by rw [ft 13 (by decide) (by decide) (by decide)]; exact hH.2.2.2.2.2.1.1
      have e105 := n8
      have e107 := n8
      have e70 := n8
      have e71 := n8
      have e77a := n8
      have e77b := n8
      have lcond := n8
      show wpH _ 600 _ 242 _ true 134 [vR 13 0, vI q, vI b, vU, vU, vU] [] _ Q
      conv => whnf
      repeat' first
        | (refine And.intro (fun h => ?_) (fun h => ?_) <;> (try simp (disch := decide) only [cmp3_lt, cmp3_ge, cmp3_gt, cmp3_le, cmp3_eq, ms_q, ms_f, mf_q, mf_f, mc_q, mc_f, and_self, and_true, true_and, and_false, false_and, or_true, true_or, or_false, false_or, if_true, if_false, not_true_eq_false, not_false_eq_true, eq_self, reduceIte, Int.reduceEq, Int.reduceLT, Int.reduceLE, Int.reduceNeg, Int.reduceAdd, Int.reduceSub, Int.reduceMul, Int.add_sub_cancel] at h) <;> (try simp (disch := omega) only [w32_e, w64_e, td_pos, tm_pos, Int.add_sub_cancel, e54, e105, e107, e70, e71, e77a, e77b] at h) <;> first | exact absurd rfl h | exact absurd h (by decide) | (exfalso; omega) | (conv => whnf))
        | (refine And.intro (by first | omega | ((try simp (disch := decide) only [cmp3_lt, cmp3_ge, cmp3_gt, cmp3_le, cmp3_eq, ms_q, ms_f, mf_q, mf_f, mc_q, mc_f, and_self, and_true, true_and, and_false, false_and, or_true, true_or, or_false, false_or, if_true, if_false, not_true_eq_false, not_false_eq_true, eq_self, reduceIte, Int.reduceEq, Int.reduceLT, Int.reduceLE, Int.reduceNeg, Int.reduceAdd, Int.reduceSub, Int.reduceMul, Int.add_sub_cancel]); (try simp (disch := omega) only [w32_e, w64_e, td_pos, tm_pos, Int.add_sub_cancel, e54, e105, e107, e70, e71, e77a, e77b]); first | assumption | omega) | exact dcn (by omega) (by omega) | ((try simp (disch := decide) only [cmp3_lt, cmp3_ge, cmp3_gt, cmp3_le, cmp3_eq, ms_q, ms_f, mf_q, mf_f, mc_q, mc_f, and_self, and_true, true_and, and_false, false_and, or_true, true_or, or_false, false_or, if_true, if_false, not_true_eq_false, not_false_eq_true, eq_self, reduceIte, Int.reduceEq, Int.reduceLT, Int.reduceLE, Int.reduceNeg, Int.reduceAdd, Int.reduceSub, Int.reduceMul, Int.add_sub_cancel]); (try simp (disch := omega) only [w32_e, w64_e, td_pos, tm_pos, Int.add_sub_cancel, e54, e105, e107, e70, e71, e77a, e77b]); ((repeat' (first | assumption | omega | with_reducible rfl | apply And.intro)); done))) ?_; conv => whnf)
        | (intro v; intro hv; conv => whnf)
      · have e9 : i = (lcN (dx M) q D (dx M).n).qn := by omega
        exact hQ M9 ⟨ft, rel_end (q := q) hX hD rel e9⟩
      all_goals first
        | (have b1 : b = 1 := by omega
           refine ⟨_, ?_, -4, 0, i, by rw [b1], rfl, i0, ft, rel, re_, ⟨Int.le_refl _, n8.1⟩, Or.inl ⟨rfl, fun o a b => by omega⟩⟩
           omega)
    · rintro n9 vs M9 ⟨f, o, i, rfl, rfl, i0, ft, rel, re_, o0, fi⟩
      have e54 : M9 13 0 54 = M 10 0 3 := by rw [ft 13 (by decide) (by decide) (by decide)]; exact hH.2.2.2.2.2.1.1
      have fi' : f = -4 ∨ (0 ≤ f ∧ f < o) := fi.elim (fun z => Or.inl z.1) (fun z => Or.inr z.1)
      have okg := ok_lgI (q := q) okL (i := i) i0
      have xe := dx_ft ft
      have nn : (dx M).n = M 10 0 3 := rfl
      have fof : M 10 0 3 ≤ o → (f = -4 ∧ i = (lgN (dx M) q (lcN (dx M) q D (dx M).n) i).2.qn) ∨ (i < (lgN (dx M) q (lcN (dx M) q D (dx M).n) i).2.qn ∧ f = (lgN (dx M) q (lcN (dx M) q D (dx M).n) i).2.qu i) := fun z => by
        have e9 : o = (dx M).n := by omega
        rw [e9] at fi
        exact FI.of rel re_ fi
      have ff : f = -4 ∨ (mayT M9 f) := fi.elim (fun z => Or.inl z.1) (fun z => Or.inr z.2.1)
      have ftm := ft.set (p := 122) (i := 0) (j := f) (x := 1) (by decide)
      have dcn : M 10 0 3 ≤ o → ¬ f = -4 → (0 : Int) = 0 ∧ DayH (mset M9 122 0 f 1) ∧ (0 ≤ f ∧ f < mset M9 122 0 f 1 10 0 3) ∧ (0 ≤ q ∧ q ≤ 95) ∧ (0 ≤ mset M9 122 0 f 1 113 0 f ∧ mset M9 122 0 f 1 113 0 f < 12) ∧ (0 ≤ mset M9 122 0 f 1 112 0 f ∧ mset M9 122 0 f 1 112 0 f ≤ mset M9 122 0 f 1 21 0 (mset M9 122 0 f 1 11 f 0)) ∧ (∀ o, 0 ≤ o → o < mset M9 122 0 f 1 10 0 3 → ¬ mset M9 122 0 f 1 109 0 o = 0 → ¬ mset M9 122 0 f 1 115 0 o = -4 → 0 ≤ mset M9 122 0 f 1 112 0 o ∧ mset M9 122 0 f 1 112 0 o < 6) := fun z nf => by
        rw [ms_q (by decide), ms_q (by decide), ms_q (by decide), ms_q (by decide), ms_q (by decide), ms_q (by decide), ms_q (by decide), ft 10 (by decide) (by decide) (by decide), ft 21 (by decide) (by decide) (by decide), ft 11 (by decide) (by decide) (by decide)]
        have fo : 0 ≤ f ∧ f < M 10 0 3 := by omega
        obtain ⟨w1, w2, w3, w4, w5, w6, w7, w8, w9, w10, w11, w12⟩ := rel.1 f fo.1 fo.2
        have my : mayT M9 f := ff.elim (fun y => absurd y nf) (fun y => y)
        have n6 := fun y => my.1 (w1 y)
        have k := (okg.2.1.2.2 f fo.1 fo.2).1
        have k' : 0 ≤ (lgN (dx M) q (lcN (dx M) q D (dx M).n) i).2.rp f 7 ∧ (lgN (dx M) q (lcN (dx M) q D (dx M).n) i).2.rp f 7 ≤ M 21 0 (M 11 f 0) := k
        refine ⟨rfl, ftm.day hH, fo, hq, ?_, by rw [w5.2.1]; exact k', fun y y0 y1 a b => ?_⟩
        · rw [(w2 n6).2]
          exact w11.elim (fun y => absurd y n6) (fun y => y)
        · obtain ⟨u1, u2, u3, u4, u5, u6, u7, u8, u9, u10, u11, u12⟩ := rel.1 y y0 y1
          obtain ⟨v1, v2⟩ := okg.2.1.2.2 y y0 y1
          have x5 := (hX.2 y y0 y1).2.2.2.2.1
          rw [u5.2.1]
          rcases v2 with v2 | ⟨v2, v3⟩
          · exact absurd (u6 v2) b
          · exact ⟨v1.1, by omega⟩
      have e105 := n8
      have e107 := n8
      have e70 := n8
      have e71 := n8
      have e77a := n8
      have e77b := n8
      have lcond := n8
      show wpH _ 600 _ 242 _ true 144 [vR 13 0, vI q, vI 1, vI f, vI o, vU] [] _ Q
      conv => whnf
      repeat' first
        | (refine And.intro (fun h => ?_) (fun h => ?_) <;> (try simp (disch := decide) only [cmp3_lt, cmp3_ge, cmp3_gt, cmp3_le, cmp3_eq, ms_q, ms_f, mf_q, mf_f, mc_q, mc_f, and_self, and_true, true_and, and_false, false_and, or_true, true_or, or_false, false_or, if_true, if_false, not_true_eq_false, not_false_eq_true, eq_self, reduceIte, Int.reduceEq, Int.reduceLT, Int.reduceLE, Int.reduceNeg, Int.reduceAdd, Int.reduceSub, Int.reduceMul, Int.add_sub_cancel] at h) <;> (try simp (disch := omega) only [w32_e, w64_e, td_pos, tm_pos, Int.add_sub_cancel, e54, e105, e107, e70, e71, e77a, e77b] at h) <;> first | exact absurd rfl h | exact absurd h (by decide) | (exfalso; omega) | (conv => whnf))
        | (refine And.intro (by first | omega | ((try simp (disch := decide) only [cmp3_lt, cmp3_ge, cmp3_gt, cmp3_le, cmp3_eq, ms_q, ms_f, mf_q, mf_f, mc_q, mc_f, and_self, and_true, true_and, and_false, false_and, or_true, true_or, or_false, false_or, if_true, if_false, not_true_eq_false, not_false_eq_true, eq_self, reduceIte, Int.reduceEq, Int.reduceLT, Int.reduceLE, Int.reduceNeg, Int.reduceAdd, Int.reduceSub, Int.reduceMul, Int.add_sub_cancel]); (try simp (disch := omega) only [w32_e, w64_e, td_pos, tm_pos, Int.add_sub_cancel, e54, e105, e107, e70, e71, e77a, e77b]); first | assumption | omega) | exact dcn (by omega) (by omega) | ((try simp (disch := decide) only [cmp3_lt, cmp3_ge, cmp3_gt, cmp3_le, cmp3_eq, ms_q, ms_f, mf_q, mf_f, mc_q, mc_f, and_self, and_true, true_and, and_false, false_and, or_true, true_or, or_false, false_or, if_true, if_false, not_true_eq_false, not_false_eq_true, eq_self, reduceIte, Int.reduceEq, Int.reduceLT, Int.reduceLE, Int.reduceNeg, Int.reduceAdd, Int.reduceSub, Int.reduceMul, Int.add_sub_cancel]); (try simp (disch := omega) only [w32_e, w64_e, td_pos, tm_pos, Int.add_sub_cancel, e54, e105, e107, e70, e71, e77a, e77b]); ((repeat' (first | assumption | omega | with_reducible rfl | apply And.intro)); done))) ?_; conv => whnf)
        | (intro v; intro hv; conv => whnf)
      all_goals first
        | (have i2 := fof (by omega)
           have fm : f = -4 := by assumption
           have i3 : i = (lcN (dx M) q D (dx M).n).qn := by
             rcases i2 with ⟨_, z⟩ | ⟨z, z2⟩
             · rw [z]
               exact okg.2.2
             · have := (okg.2.1.2.1 i i0.1 z).1
               omega
           refine ⟨_, ?_, 0, i, rfl, rfl, i0, ft, rel, re_, Or.inr ⟨rfl, i3⟩⟩
           omega)
        | (have i2 := fof (by omega)
           have nf : ¬ f = -4 := by assumption
           have i3 : i < (lgN (dx M) q (lcN (dx M) q D (dx M).n) i).2.qn ∧ f = (lgN (dx M) q (lcN (dx M) q D (dx M).n) i).2.qu i := i2.elim (fun z => absurd z.1 nf) (fun z => z)
           have i4 : i < (lcN (dx M) q D (dx M).n).qn := by
             have := okg.2.2
             omega
           have xm := dx_ft ftm
           rw [xm] at hv
           have fv := FT.de ftm hv
           have rs := rel.sw (T1 := mset M9 122 0 f 1) (fun p hp => ms_q hp)
           have rw1 := rel_wa hX okg.2.1 hq (day_tm hH) rs i3.1
           have rw2 := re_wa rel re_ i3.1
           rw [← i3.2] at rw1 rw2
           have ls := lgN_s (X := dx M) (q := q) (D := lcN (dx M) q D (dx M).n) i0.1
           have ls2 : lgN (dx M) q (lcN (dx M) q D (dx M).n) (i + 1) = lgS (dx M) q i ((lgN (dx M) q (lcN (dx M) q D (dx M).n) i).1, (lgN (dx M) q (lcN (dx M) q D (dx M).n) i).2) := ls
           rw [← ls2] at rw1 rw2
           refine ⟨_, ?_, 1, i + 1, rfl, rfl, ⟨by omega, by omega⟩, fv, rw1.cg (fun p p0 p1 => hv p (by omega) (by omega)), ?_, Or.inl rfl⟩
           · omega
           · unfold RE at rw2 ⊢
             rw [hv 122 (by decide) (by decide)]
             exact rw2)
        | (have ei : w32 (o + 1) = o + 1 := w32_e (by omega) (by omega)
           first
             | (have fi2 : FI M9 f (o + 1) := fi.b (by unfold mayT; omega)
                refine ⟨_, ?_, f, o + 1, i, by rw [ei], rfl, i0, ft, rel, re_, ⟨by omega, by omega⟩, fi2⟩
                omega)
             | (have fi2 : FI M9 o (o + 1) := fi.a o0.1 (by unfold mayT; omega) (by omega)
                refine ⟨_, ?_, o, o + 1, i, by rw [ei], rfl, i0, ft, rel, re_, ⟨by omega, by omega⟩, fi2⟩
                omega))
  refine Vd_run (GGy_ok (l := l) (ω := ω)) 600 (hC := key 200000) (by decide) ?_
  conv => whnf
  repeat' first
    | (refine And.intro (fun h => ?_) (fun h => ?_) <;> (try simp (disch := decide) only [cmp3_lt, cmp3_ge, cmp3_gt, cmp3_le, cmp3_eq, ms_q, ms_f, mf_q, mf_f, mc_q, mc_f, and_self, and_true, true_and, and_false, false_and, or_true, true_or, or_false, false_or, if_true, if_false, not_true_eq_false, not_false_eq_true, eq_self, reduceIte, Int.reduceEq, Int.reduceLT, Int.reduceLE, Int.reduceNeg, Int.reduceAdd, Int.reduceSub, Int.reduceMul, Int.add_sub_cancel] at h) <;> (try simp (disch := omega) only [w32_e, w64_e, td_pos, tm_pos, Int.add_sub_cancel, e54, e105, e107, e70, e71, e77a, e77b] at h) <;> first | exact absurd rfl h | exact absurd h (by decide) | (exfalso; omega) | (conv => whnf))
    | (refine And.intro (by first | omega | ((try simp (disch := decide) only [cmp3_lt, cmp3_ge, cmp3_gt, cmp3_le, cmp3_eq, ms_q, ms_f, mf_q, mf_f, mc_q, mc_f, and_self, and_true, true_and, and_false, false_and, or_true, true_or, or_false, false_or, if_true, if_false, not_true_eq_false, not_false_eq_true, eq_self, reduceIte, Int.reduceEq, Int.reduceLT, Int.reduceLE, Int.reduceNeg, Int.reduceAdd, Int.reduceSub, Int.reduceMul, Int.add_sub_cancel]); (try simp (disch := omega) only [w32_e, w64_e, td_pos, tm_pos, Int.add_sub_cancel, e54, e105, e107, e70, e71, e77a, e77b]); first | assumption | omega) | exact dcn (by omega) (by omega) | ((try simp (disch := decide) only [cmp3_lt, cmp3_ge, cmp3_gt, cmp3_le, cmp3_eq, ms_q, ms_f, mf_q, mf_f, mc_q, mc_f, and_self, and_true, true_and, and_false, false_and, or_true, true_or, or_false, false_or, if_true, if_false, not_true_eq_false, not_false_eq_true, eq_self, reduceIte, Int.reduceEq, Int.reduceLT, Int.reduceLE, Int.reduceNeg, Int.reduceAdd, Int.reduceSub, Int.reduceMul, Int.add_sub_cancel]); (try simp (disch := omega) only [w32_e, w64_e, td_pos, tm_pos, Int.add_sub_cancel, e54, e105, e107, e70, e71, e77a, e77b]); ((repeat' (first | assumption | omega | with_reducible rfl | apply And.intro)); done))) ?_; conv => whnf)
    | (intro v; intro hv; conv => whnf)
  all_goals
    (refine ⟨_, ?_, 0, rfl, rfl, ⟨Int.le_refl _, n8.1⟩, FT.refl, hRel, fun j a b => by omega⟩
     omega)
