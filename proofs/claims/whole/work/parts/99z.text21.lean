/-! ===== text: a comparison, its ways (wip/gen/txA.body) ===== -/
abbrev FRT (M M9 : Mem) : Prop := (∀ p, p ≠ 13 → p ≠ 96 → p ≠ 97 → M9 p = M p) ∧ (∀ j, j ≠ 29 → j ≠ 30 → j ≠ 31 → j ≠ 32 → j ≠ 33 → j ≠ 34 → j ≠ 43 → j ≠ 45 → M9 13 0 j = M 13 0 j)
theorem FRT.trans {M M1 M2 : Mem} (h1 : FRT M M1) (h2 : FRT M1 M2) : FRT M M2 := ⟨fun p a b c => (h2.1 p a b c).trans (h1.1 p a b c), fun j a b c d e f g i => (h2.2 j a b c d e f g i).trans (h1.2 j a b c d e f g i)⟩
theorem FRT.refl {M : Mem} : FRT M M := ⟨fun _ _ _ _ => rfl, fun _ _ _ _ _ _ _ _ _ => rfl⟩
theorem frt_nx {M M9 : Mem} (h : NXP M M9) : FRT M M9 := ⟨fun p a b c => h.1 p a, fun j a b c d e f g i => h.2.1 j a b c d e f⟩
theorem frt_f {M : Mem} {x y : Int} : FRT M (mset (mset M 13 0 33 x) 13 0 34 y) := ⟨fun p a b c => by rw [ms_q a, ms_q a], fun j a b c d e f g i => by rw [ms_f, if_neg (fun z => f z.2), ms_f, if_neg (fun z => e z.2)]⟩
theorem frt_code {M : Mem} {x i y : Int} : FRT M (mset (mset M 96 0 i x) 13 0 43 y) := ⟨fun p a b c => by rw [ms_q a, ms_q b], fun j a b c d e f g k => by rw [ms_f, if_neg (fun z => g z.2), ms_q (by decide)]⟩
theorem tpe_code {M : Mem} {x i y : Int} (h : TPE M) : TPE (mset (mset M 96 0 i x) 13 0 43 y) := tpe_13 (by decide) (by decide) (by decide) (tpe_p (by decide) (by decide) h)
theorem tpe_f {M : Mem} {x y : Int} (hx : 0 ≤ x) (h : TPE M) : TPE (mset (mset M 13 0 33 x) 13 0 34 y) := tpe_13 (by decide) (by decide) (by decide) (tpe_33 hx h)
theorem fb_code {M : Mem} {E : RSS} {x i y : Int} (h : FB M E) : FB (mset (mset M 96 0 i x) 13 0 43 y) E := by
  unfold FB at *
  simp (disch := decide) only [ms_q, ms_f, true_and, and_true, Int.reduceEq, if_true, if_false, reduceIte]
  exact h
theorem fb_f {M : Mem} {E : RSS} {x : Int} (hx : 0 < x) (h : E.1 = x ∧ E.2.1 = M 13 0 30) : FB (mset (mset M 13 0 33 x) 13 0 34 (M 13 0 30)) E := by
  unfold FB
  simp (disch := decide) only [ms_q, ms_f, true_and, and_true, Int.reduceEq, if_true, if_false, reduceIte]
  exact ⟨hx, h.1.symm, h.2.symm⟩
section ROS
variable {E : RSS} {W prev mprev : List Int} {τ : List Bool} {ln k : Int} {kd en : Int → Int} {M M9 v w x : Mem}
theorem sumZ_0 {base : List Int} {dd : Int} (h : SumZ E base prev mprev τ dd ln kd en M) : M 13 0 33 = 0 := by
  obtain ⟨s, p, cur, mcur, hL, -⟩ := h
  exact hL.1
theorem sumZ_le {base : List Int} {dd : Int} (h : SumZ E base prev mprev τ dd ln kd en M) : M 13 0 30 ≤ M 13 0 29 := by
  obtain ⟨s, p, cur, mcur, hL, hR, -⟩ := h
  have ti := tkn_in (T := M 90 0) (u := M 13 0 28) (p := p) hR.2.1.2
  rw [hL.2.2.1, hL.2.2.2.1]
  exact ti.2.1
theorem oneZ_le (h : OneZ E W prev mprev τ ln kd en M) : M 13 0 30 ≤ M 13 0 29 := by
  obtain ⟨s, p, cur, mcur, hL, hR, -⟩ := h
  have ti := tkn_in (T := M 90 0) (u := M 13 0 28) (p := p) hR.2.1.2
  rw [hL.2.2.1, hL.2.2.2.1]
  exact ti.2.1
theorem sumS_0 {base : List Int} {dd : Int} (h : SumS E base prev mprev τ dd ln kd en M) : M 13 0 33 = 0 := by
  obtain ⟨s, p, cur, mcur, hL, -⟩ := h
  exact hL.1
theorem notS_0 {n : Nat} (h : NotS E W prev mprev τ ln kd en n M) : M 13 0 33 = 0 := by
  obtain ⟨s, p, cur, mcur, hL, -⟩ := h
  exact hL.1
theorem oneZ_0 (h : OneZ E W prev mprev τ ln kd en M) : M 13 0 33 = 0 := by
  obtain ⟨s, p, cur, mcur, hL, -⟩ := h
  exact hL.1
theorem notS_n {n : Nat} (hT : TPE M) (h : NotS E W prev mprev τ ln kd en n M) : n ≤ 240 ∧ M 13 0 30 ≤ 240 := by
  obtain ⟨s, p, cur, mcur, hL, hR, hS, hP, hN, hW, -⟩ := h
  have l := congrArg List.length hW
  unfold nts at l
  rw [List.length_append, List.length_replicate] at l
  have l6 := hR.2.2.2
  have l7 := hR.2.1
  have t := hT.1
  have ti := tkn_in (T := M 90 0) (u := M 13 0 28) (p := p) hR.2.1.2
  rw [hL.2.2.2.1]
  omega
def ROI (E : RSS) (W prev mprev : List Int) (τ : List Bool) (ln : Int) (kd en : Int → Int) (M M9 : Mem) (k : Int) : Prop := FRT M M9 ∧ TPE M9 ∧ (0 ≤ M9 13 0 43 ∧ M9 13 0 43 ≤ 281) ∧ (0 ≤ k ∧ k ≤ 241 ∧ (M9 13 0 33 = 0 → M 13 0 30 ≤ M9 13 0 30)) ∧ (FB M9 E ∨ (M9 13 0 33 = 0 ∧ ∃ n : Nat, k = (n : Int) ∧ NotS E W prev mprev τ ln kd en n M9))
theorem ro_6 (h : ROI E W prev mprev τ ln kd en M M9 k) (h33 : M9 13 0 33 = 0) (h31 : M9 13 0 31 = 1) (h32 : M9 13 0 32 = 6) (hN : NXP M9 v) : (k ≤ 240 ∧ ROI E W prev mprev τ ln kd en M v (k + 1)) ∧ RSM v 0 < RSM M9 0 := by
  obtain ⟨h1, h2, h3, h4, h5⟩ := h
  rcases h5 with q | ⟨-, n, rfl, q⟩
  · exact absurd q.1 (by omega)
  have Tv := nx_tpe h2 hN
  have nn := notS_n h2 q
  have lt := not_lt q (by omega)
  have e43 := hN.2.1 43 (by decide) (by decide) (by decide) (by decide) (by decide) (by decide)
  have ti := tkn_in (T := M9 90 0) (u := M9 13 0 28) (p := M9 13 0 29) h2.1.2.1
  have e30 := hN.2.2.1.2
  have m30 := h4.2.2 h33
  refine ⟨⟨by omega, h1.trans (frt_nx hN), Tv, by omega, ⟨by omega, by omega, fun _ => by omega⟩, ?_⟩, ?_⟩
  · rcases not_6 q h31 h32 hN with z | z
    · exact Or.inl z
    · exact Or.inr ⟨notS_0 z, n + 1, by omega, z⟩
  · have ti := tkn_in (T := M9 90 0) (u := M9 13 0 28) (p := M9 13 0 29) h2.1.2.1
    have e30 := hN.2.2.1.2
    have u := h2.1
    unfold RSM
    rw [if_pos h33]
    split <;> omega
theorem ro_pre (h : ROI E W prev mprev τ ln kd en M M9 k) (hW : topb W < 3) (hml : mprev.length ≤ prev.length) (h0 : ¬ (M9 13 0 31 = 1 ∧ M9 13 0 32 = 6) ∨ ¬ M9 13 0 33 = 0) : TPE M9 ∧ (0 ≤ M9 13 0 43 ∧ M9 13 0 43 ≤ 281) ∧ topb (nts k.toNat W) < 5 ∧ mprev.length ≤ prev.length ∧ (FB M9 E ∨ SumS E (nts k.toNat W) prev mprev τ 1 ln kd en M9) := by
  obtain ⟨h1, h2, h3, h4, h5⟩ := h
  refine ⟨h2, h3, Int.lt_trans (topb_nts hW) (by decide), hml, ?_⟩
  rcases h5 with q | ⟨z, n, rfl, q⟩
  · exact Or.inl q
  · rw [Int.toNat_natCast]
    exact Or.inr (not_sum q (h0.resolve_right (fun y => y z)))
abbrev POSTS (E : RSS) (base prev mprev : List Int) (τb : List Bool) (dd ln : Int) (kd en : Int → Int) (M M9 : Mem) : Prop := ((∀ p, p ≠ 13 → p ≠ 96 → p ≠ 97 → M9 p = M p) ∧ (∀ j, j ≠ 29 → j ≠ 30 → j ≠ 31 → j ≠ 32 → j ≠ 33 → j ≠ 34 → j ≠ 43 → j ≠ 45 → M9 13 0 j = M 13 0 j)) ∧ TPE M9 ∧ (0 ≤ M9 13 0 43 ∧ M9 13 0 43 ≤ 281 ∧ (M9 13 0 33 = 0 → M 13 0 33 = 0 ∧ M 13 0 30 ≤ M9 13 0 30)) ∧ (FB M9 E ∨ SumZ E base prev mprev τb dd ln kd en M9)
abbrev POSTO (E : RSS) (W prev mprev : List Int) (τ : List Bool) (ln : Int) (kd en : Int → Int) (M M9 : Mem) : Prop := FRT M M9 ∧ TPE M9 ∧ (0 ≤ M9 13 0 43 ∧ M9 13 0 43 ≤ 283 ∧ (M9 13 0 33 = 0 → M 13 0 30 ≤ M9 13 0 30)) ∧ (FB M9 E ∨ OneZ E W prev mprev τ ln kd en M9)
theorem ro_c1 (h : ROI E W prev mprev τ ln kd en M M9 k) (hv : POSTS E (nts k.toNat W) prev mprev τ 1 ln kd en M9 v) (h33 : ¬ v 13 0 33 = 0) : POSTO E W prev mprev τ ln kd en M v := by
  refine ⟨h.1.trans hv.1, hv.2.1, ⟨hv.2.2.1.1, by have := hv.2.2.1; omega, fun z => absurd z h33⟩, ?_⟩
  rcases hv.2.2.2 with q | q
  · exact Or.inl q
  · exact absurd (sumZ_0 q) h33
theorem ro_c2 (h : ROI E W prev mprev τ ln kd en M M9 k) (hv : POSTS E (nts k.toNat W) prev mprev τ 1 ln kd en M9 v) (h33 : v 13 0 33 = 0) (hc : ¬ (v 13 0 31 = 3 ∧ (v 13 0 32 = 60 ∨ v 13 0 32 = 62 ∨ v 13 0 32 = 61))) : POSTO E W prev mprev τ ln kd en M (mset (mset v 13 0 33 2) 13 0 34 (v 13 0 30)) := by
  refine ⟨(h.1.trans hv.1).trans frt_f, tpe_f (by decide) hv.2.1, by
    have := hv.2.2.1
    simp (disch := decide) only [ms_q, ms_f, true_and, and_true, Int.reduceEq, if_true, if_false, reduceIte]
    exact ⟨this.1, by omega, fun z => absurd z (by decide)⟩, ?_⟩
  rcases hv.2.2.2 with q | q
  · exact absurd q.1 (by omega)
  · exact Or.inl (fb_f (by decide) (cmp_bad q hc))
/-- behind the comparison's sign -/
theorem ro_d (h : ROI E W prev mprev τ ln kd en M M9 k) (hW : topb W < 3) (hml : mprev.length ≤ prev.length) (hv : POSTS E (nts k.toNat W) prev mprev τ 1 ln kd en M9 v) (h33 : v 13 0 33 = 0) (h31 : v 13 0 31 = 3) (h32 : v 13 0 32 = 60 ∨ v 13 0 32 = 62 ∨ v 13 0 32 = 61) (hN : NXP v w) : ∃ t, (21 ≤ t ∧ t ≤ 23) ∧ cmap t = -100 - v 13 0 32 ∧ FRT M w ∧ TPE w ∧ (0 ≤ w 13 0 43 ∧ w 13 0 43 ≤ 281 ∧ M 13 0 30 ≤ w 13 0 30) ∧ topb (t :: nts k.toNat W) < 5 ∧ (FB w E ∨ SumS E (t :: nts k.toNat W) prev mprev (false :: τ) 2 ln kd en w) := by
  have e43 := hN.2.1 43 (by decide) (by decide) (by decide) (by decide) (by decide) (by decide)
  rcases hv.2.2.2 with q | q
  · exact absurd q.1 (by omega)
  obtain ⟨t, t1, t2, t3⟩ := cmp_ok (M9 := w) q hW h31 h32
  have b4 : bndT t = 4 := by
    rcases (by omega : t = 21 ∨ t = 22 ∨ t = 23) with z | z | z <;> rw [z] <;> decide
  have l30 := sumZ_le q
  have ti := tkn_in (T := v 90 0) (u := v 13 0 28) (p := v 13 0 29) hv.2.1.1.2.1
  have e30 := hN.2.2.1.2
  exact ⟨t, t1, t2, (h.1.trans hv.1).trans (frt_nx hN), nx_tpe hv.2.1 hN, ⟨by have := hv.2.2.1; omega, by have := hv.2.2.1; omega, by have z := hv.2.2.1.2.2 h33; have := h.2.2.2.1.2.2 z.1; omega⟩, by show bndT t < 5; omega, t3 hN⟩
theorem ro_e {t sg : Int} (h30 : M 13 0 30 ≤ w 13 0 30) (hk : 0 ≤ k) (hW : topb W < 3) (ht : 21 ≤ t ∧ t ≤ 23) (hs : cmap t = -100 - sg) (hf : FRT M w) (hx : POSTS E (t :: nts k.toNat W) prev mprev (false :: τ) 2 ln kd en w x) : (¬ k.tmod 2 = 1 → POSTO E W prev mprev τ ln kd en M (mset (mset x 96 0 (x 13 0 43) (-100 - sg)) 13 0 43 (x 13 0 43 + 1))) ∧ (k.tmod 2 = 1 → POSTO E W prev mprev τ ln kd en M (mset (mset (mset (mset x 96 0 (x 13 0 43) (-100 - sg)) 13 0 43 (x 13 0 43 + 1)) 96 0 (x 13 0 43 + 1) (-133)) 13 0 43 (x 13 0 43 + 1 + 1))) := by
  have hf2 : FRT M x := hf.trans hx.1
  have b := hx.2.2.1
  have km : k.tmod 2 = k % 2 := Int.tmod_eq_emod_of_nonneg hk
  refine ⟨fun z => ⟨hf2.trans frt_code, tpe_code hx.2.1, ⟨by rw [ms_f, if_pos ⟨rfl, rfl⟩]; omega, by rw [ms_f, if_pos ⟨rfl, rfl⟩]; omega, by simp (disch := decide) only [ms_q, ms_f, true_and, and_true, Int.reduceEq, if_true, if_false, reduceIte]; intro y; have := b.2.2 y; omega⟩, ?_⟩, fun z => ⟨(hf2.trans frt_code).trans frt_code, tpe_code (tpe_code hx.2.1), ⟨by rw [ms_f, if_pos ⟨rfl, rfl⟩]; omega, by rw [ms_f, if_pos ⟨rfl, rfl⟩]; omega, by simp (disch := decide) only [ms_q, ms_f, true_and, and_true, Int.reduceEq, if_true, if_false, reduceIte]; intro y; have := b.2.2 y; omega⟩, ?_⟩⟩
  · rcases hx.2.2.2 with q | q
    · exact Or.inl (fb_code q)
    · exact Or.inr ((one_end q hW ht hs b.1).1 (by omega))
  · rcases hx.2.2.2 with q | q
    · exact Or.inl (fb_code (fb_code q))
    · exact Or.inr ((one_end q hW ht hs b.1).2 (by omega))
end ROS
