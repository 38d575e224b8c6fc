/-! ===== text: a comparison, token by token (wip/gen/tx9.body) ===== -/
theorem pp_comp {b b' : Int} (h : b ≤ b') : ∀ (ws o : List Int), pp b o ws = pp b (pp b' o ws).1 (pp b' o ws).2
  | [], o => rfl
  | w :: ws, o => by
    by_cases c : b' ≤ bndT w
    · rw [pp, if_pos (by omega)]
      conv => rhs; rw [pp, if_pos c]
      exact pp_comp h ws (w :: o)
    · conv => rhs; rw [pp, if_neg c]
theorem pp_stay {b : Int} : ∀ {ws o : List Int}, topb ws < b → pp b o ws = (o, ws)
  | [], o, _ => rfl
  | w :: ws, o, h => by
    have h : bndT w < b := h
    rw [pp, if_neg (by omega)]
theorem pp_low {b b' : Int} {ws o o' base : List Int} (h : b ≤ b') (e : pp b' o ws = (o', base)) (ht : topb base < b) : pp b o ws = (o', base) := by
  rw [pp_comp h, e]
  exact pp_stay ht
def nts (n : Nat) (W : List Int) : List Int := List.replicate n 6 ++ W
theorem topb_nts {n : Nat} {W : List Int} (h : topb W < 3) : topb (nts n W) < 4 := by
  cases n with
  | zero => exact Int.lt_trans h (by decide)
  | succ n => exact (by decide : (3 : Int) < 4)
theorem pp_nts {W : List Int} (h : topb W < 3) : ∀ (n : Nat) (o : List Int), pp 3 o (nts n W) = (List.replicate n 6 ++ o, W)
  | 0, o => pp_stay h
  | n + 1, o => by
    show pp 3 o (6 :: nts n W) = _
    rw [pp, if_pos (by decide), pp_nts h n (6 :: o)]
    have e : List.replicate n (6 : Int) ++ 6 :: o = List.replicate (n + 1) 6 ++ o := by
      rw [List.replicate_succ']
      simp
    rw [e]
def NotS (E : RSS) (W prev mprev : List Int) (τ : List Bool) (ln : Int) (kd en : Int → Int) (n : Nat) (M : Mem) : Prop := ∃ s p cur mcur, LAo M p ∧ RN (M 90 0) (M 13 0 28) E s p ∧ cS s = 1 ∧ (cP s = 0 ∧ cD s = 1 ∧ cL s = ln ∧ cK s = kd ∧ cE s = en) ∧ cN s = 1 ∧ cW s = nts n W ∧ cO s = cur ++ prev ∧ stk (M 96 0) (M 13 0 43).toNat = mcur ++ mprev ∧ Pre cur mcur false τ
def OneZ (E : RSS) (W prev mprev : List Int) (τ : List Bool) (ln : Int) (kd en : Int → Int) (M : Mem) : Prop := ∃ s p cur mcur, LAo M p ∧ RN (M 90 0) (M 13 0 28) E s p ∧ cS s = 2 ∧ (cP s = 0 ∧ cD s = 2 ∧ cL s = ln ∧ cK s = kd ∧ cE s = en) ∧ ¬ (18 ≤ tkT (M 90 0) (M 13 0 28) p ∧ tkT (M 90 0) (M 13 0 28) p ≤ 20) ∧ pp 3 (cO s) (cW s) = (cur ++ prev, W) ∧ stk (M 96 0) (M 13 0 43).toNat = mcur ++ mprev ∧ Pre cur mcur false (true :: τ)
theorem LAo_cg {M M9 : Mem} {p : Int} (h90 : M9 90 = M 90) (hj : ∀ j, j = 28 ∨ j = 29 ∨ j = 30 ∨ j = 31 ∨ j = 32 ∨ j = 33 → M9 13 0 j = M 13 0 j) (h : LAo M p) : LAo M9 p := by
  unfold LAo at *
  rw [h90, hj 28 (by omega), hj 29 (by omega), hj 30 (by omega), hj 31 (by omega), hj 32 (by omega), hj 33 (by omega)]
  exact h
section ONES
variable {E : RSS} {W prev mprev : List Int} {τ : List Bool} {ln : Int} {kd en : Int → Int} {M M9 : Mem} {n : Nat}
theorem not_6 (h : NotS E W prev mprev τ ln kd en n M) (h31 : M 13 0 31 = 1) (h32 : M 13 0 32 = 6) (hN : NXP M M9) : FB M9 E ∨ NotS E W prev mprev τ ln kd en (n + 1) M9 := by
  obtain ⟨s, p, cur, mcur, hL, hR, hS, ⟨hP, hD, hLn, hK, hE⟩, hNn, hW, hO, h96, hPr⟩ := h
  have t6 := (SV_f hL.2.2.2.2).2.2.2.2.2.2.2.2.1.mp ⟨h31, h32⟩
  have st : stp1 (tkT (M 90 0) (M 13 0 28) p) (tkV (M 90 0) (M 13 0 28) p) s = (0, (cO s, 6 :: cW s, cS s, cD s, cP s, cN s, cL s, cK s, cE s)) := by
    rw [t6]
    unfold stp1
    rw [if_neg (by decide), if_neg (by omega), if_pos hS, if_pos ⟨rfl, hNn⟩]
  have g := rn_go hR (by rw [st]) (by omega)
  rw [st] at g
  have g2 := nx_go hN (E := E) (by rw [hL.2.2.1]; exact g)
  rcases g2 with g2 | ⟨g2, g3⟩
  · exact Or.inl g2
  refine Or.inr ⟨_, _, cur, mcur, g3, g2, hS, ⟨hP, hD, hLn, hK, hE⟩, hNn, by show 6 :: cW s = _; rw [hW]; rfl, hO, ?_, hPr⟩
  rw [hN.1 96 (by decide), hN.2.1 43 (by decide) (by decide) (by decide) (by decide) (by decide) (by decide)]
  exact h96
theorem not_lt (h : NotS E W prev mprev τ ln kd en n M) (h0 : ¬ M 13 0 31 = 0) : M 13 0 30 < M 13 0 29 ∧ 0 ≤ M 13 0 30 := by
  obtain ⟨s, p, cur, mcur, hL, hR, -⟩ := h
  have t26 : ¬ tkT (M 90 0) (M 13 0 28) p = 26 := fun z => h0 ((SV_f hL.2.2.2.2).2.2.2.2.2.2.1.mpr z)
  have ti := tkn_in (T := M 90 0) (u := M 13 0 28) (p := p) hR.2.1.2
  have t := ti.2.2.2.1 t26
  have l := hR.2.1
  rw [hL.2.2.1, hL.2.2.2.1]
  omega
theorem not_sum (h : NotS E W prev mprev τ ln kd en n M) (h6 : ¬ (M 13 0 31 = 1 ∧ M 13 0 32 = 6)) : SumS E (nts n W) prev mprev τ 1 ln kd en M := by
  obtain ⟨s, p, cur, mcur, hL, hR, hS, hP, hNn, hW, hO, h96, hPr⟩ := h
  exact ⟨s, p, cur, mcur, hL, hR, hS, hP, Or.inr (fun z => h6 ((SV_f hL.2.2.2.2).2.2.2.2.2.2.2.2.1.mpr z)), hW, hO, h96, hPr⟩
theorem cmp_ok (h : SumZ E (nts n W) prev mprev τ 1 ln kd en M) (hW3 : topb W < 3) (h31 : M 13 0 31 = 3) (h32 : M 13 0 32 = 60 ∨ M 13 0 32 = 62 ∨ M 13 0 32 = 61) : ∃ t, (21 ≤ t ∧ t ≤ 23) ∧ cmap t = -100 - M 13 0 32 ∧ (NXP M M9 → FB M9 E ∨ SumS E (t :: nts n W) prev mprev (false :: τ) 2 ln kd en M9) := by
  obtain ⟨s, p, cur, mcur, hL, hR, hS, ⟨hP, hD, hLn, hK, hE⟩, hNn, h18, hpp, h96, hPr⟩ := h
  obtain ⟨t, ht⟩ : ∃ t : Int, t = tkT (M 90 0) (M 13 0 28) p := ⟨_, rfl⟩
  have tc : (21 ≤ t ∧ t ≤ 23) ∧ cmap t = -100 - M 13 0 32 ∧ bndT t = 4 := by
    rw [ht]
    rcases h32 with z | z | z
    · have q := (SV_f hL.2.2.2.2).2.1.mp ⟨h31, z⟩
      rw [q, z]
      decide
    · have q := (SV_f hL.2.2.2.2).2.2.1.mp ⟨h31, z⟩
      rw [q, z]
      decide
    · have q := (SV_f hL.2.2.2.2).2.2.2.1.mp ⟨h31, z⟩
      rw [q, z]
      decide
  refine ⟨t, tc.1, tc.2.1, fun hN => ?_⟩
  have st : stp1 (tkT (M 90 0) (M 13 0 28) p) (tkV (M 90 0) (M 13 0 28) p) s = (0, jnS t s 2 (cN s)) := by
    rw [← ht]
    unfold stp1
    rw [if_neg (by omega), if_neg (by omega), if_neg (by omega), if_neg (by omega), if_neg (by omega), if_pos ⟨tc.1, hD⟩]
  have g := rn_go hR (by rw [st]) (by omega)
  rw [st] at g
  have p4 := pp_low (b := 4) (b' := 5) (by decide) hpp (topb_nts hW3)
  have js : jnS t s 2 (cN s) = (cur ++ prev, t :: nts n W, 1, 2, cP s, cN s, cL s, cK s, cE s) := by
    unfold jnS
    rw [tc.2.2, p4]
  rw [js] at g
  have g2 := nx_go hN (E := E) (by rw [hL.2.2.1]; exact g)
  rcases g2 with g2 | ⟨g2, g3⟩
  · exact Or.inl g2
  refine Or.inr ⟨_, _, cur, mcur, g3, g2, rfl, ⟨hP, rfl, hLn, hK, hE⟩, Or.inl hNn, rfl, rfl, ?_, hPr⟩
  rw [hN.1 96 (by decide), hN.2.1 43 (by decide) (by decide) (by decide) (by decide) (by decide) (by decide)]
  exact h96
theorem cmp_bad (h : SumZ E (nts n W) prev mprev τ 1 ln kd en M) (hc : ¬ (M 13 0 31 = 3 ∧ (M 13 0 32 = 60 ∨ M 13 0 32 = 62 ∨ M 13 0 32 = 61))) : E.1 = 2 ∧ E.2.1 = M 13 0 30 := by
  obtain ⟨s, p, cur, mcur, hL, hR, hS, ⟨hP, hD, hLn, hK, hE⟩, hNn, h18, hpp, h96, hPr⟩ := h
  have c21 : ¬ (21 ≤ tkT (M 90 0) (M 13 0 28) p ∧ tkT (M 90 0) (M 13 0 28) p ≤ 23) := fun z => by
    rcases (by omega : tkT (M 90 0) (M 13 0 28) p = 21 ∨ tkT (M 90 0) (M 13 0 28) p = 22 ∨ tkT (M 90 0) (M 13 0 28) p = 23) with y | y | y
    · have := (SV_f hL.2.2.2.2).2.1.mpr y
      exact hc ⟨this.1, Or.inl this.2⟩
    · have := (SV_f hL.2.2.2.2).2.2.1.mpr y
      exact hc ⟨this.1, Or.inr (Or.inl this.2)⟩
    · have := (SV_f hL.2.2.2.2).2.2.2.1.mpr y
      exact hc ⟨this.1, Or.inr (Or.inr this.2)⟩
  have st : (stp1 (tkT (M 90 0) (M 13 0 28) p) (tkV (M 90 0) (M 13 0 28) p) s).1 = 2 := by
    unfold stp1
    rw [if_neg hL.2.1, if_neg (by omega), if_neg (by omega), if_neg h18, if_neg (by omega), if_neg (fun z => c21 z.1), if_neg (by omega), if_neg (by omega)]
  have b := rn_bad hR (by rw [st]; decide)
  rw [st] at b
  rw [hL.2.2.2.1]
  exact b
theorem one_end {t sg : Int} (h : SumZ E (t :: nts n W) prev mprev (false :: τ) 2 ln kd en M) (hW3 : topb W < 3) (ht : 21 ≤ t ∧ t ≤ 23) (hs : cmap t = -100 - sg) (h43 : 0 ≤ M 13 0 43) : (n % 2 = 0 → OneZ E W prev mprev τ ln kd en (mset (mset M 96 0 (M 13 0 43) (-100 - sg)) 13 0 43 (M 13 0 43 + 1))) ∧ (n % 2 = 1 → OneZ E W prev mprev τ ln kd en (mset (mset (mset (mset M 96 0 (M 13 0 43) (-100 - sg)) 13 0 43 (M 13 0 43 + 1)) 96 0 (M 13 0 43 + 1) (-133)) 13 0 43 (M 13 0 43 + 1 + 1))) := by
  obtain ⟨s, p, cur, mcur, hL, hR, hS, hD, hNn, h18, hpp, h96, hPr⟩ := h
  have b4 : bndT t = 4 := by
    rcases (by omega : t = 21 ∨ t = 22 ∨ t = 23) with z | z | z <;> rw [z] <;> decide
  have p3 : pp 3 (cO s) (cW s) = (List.replicate n 6 ++ (t :: cur) ++ prev, W) := by
    rw [pp_comp (b := 3) (b' := 5) (by decide), hpp]
    show pp 3 (cur ++ prev) (t :: nts n W) = _
    rw [pp, if_pos (by omega), pp_nts hW3]
    simp
  have p1 := PreW hPr (ty_cmp ht)
  rw [hs] at p1
  have pn := Pre_nots p1 n
  refine ⟨fun z => ?_, fun z => ?_⟩
  · refine ⟨s, p, List.replicate n 6 ++ (t :: cur), (-100 - sg) :: mcur, LAo_cg (by rw [ms_q (by decide), ms_q (by decide)]) (fun j hj => by rw [ms_f, if_neg (by omega), ms_q (by decide)]) hL, ?_, hS, hD, ?_, p3, ?_, pn.1 z⟩
    · rw [ms_q (by decide), ms_q (by decide), ms_f, if_neg (by omega), ms_q (by decide)]
      exact hR
    · rw [ms_q (by decide), ms_q (by decide), ms_f, if_neg (by omega), ms_q (by decide)]
      exact h18
    · rw [ms_f, if_pos ⟨rfl, rfl⟩, ms_q (by decide), ms_n, stk_push h43, h96]
      rfl
  · refine ⟨s, p, List.replicate n 6 ++ (t :: cur), -133 :: (-100 - sg) :: mcur, LAo_cg (by rw [ms_q (by decide), ms_q (by decide), ms_q (by decide), ms_q (by decide)]) (fun j hj => by rw [ms_f, if_neg (by omega), ms_q (by decide), ms_f, if_neg (by omega), ms_q (by decide)]) hL, ?_, hS, hD, ?_, p3, ?_, pn.2 z⟩
    · rw [ms_q (by decide), ms_q (by decide), ms_q (by decide), ms_q (by decide), ms_f, if_neg (by omega), ms_q (by decide), ms_f, if_neg (by omega), ms_q (by decide)]
      exact hR
    · rw [ms_q (by decide), ms_q (by decide), ms_q (by decide), ms_q (by decide), ms_f, if_neg (by omega), ms_q (by decide), ms_f, if_neg (by omega), ms_q (by decide)]
      exact h18
    · rw [ms_f, if_pos ⟨rfl, rfl⟩, ms_q (by decide), ms_n, stk_push (by omega), ms_q (by decide), ms_n, stk_push h43, h96]
      rfl
/-- how much is written where nothing is wrong -/
theorem sumZ_43 {base : List Int} {dd : Int} (h : SumZ E base prev mprev τ dd ln kd en M) (hml : mprev.length ≤ prev.length) (h0 : 0 ≤ M 13 0 43) (hT : TPE M) : M 13 0 43 ≤ 240 := by
  obtain ⟨s, p, cur, mcur, hL, hR, hS, hD, hNn, h18, hpp, h96, hPr⟩ := h
  have l1 := pp_len (b := 5) (cW s) (cO s)
  rw [hpp] at l1
  have l1 := l1.1
  simp only [List.length_append] at l1
  have l2 := congrArg List.length h96
  rw [stk_len, List.length_append] at l2
  have l5 := Pre_len hPr
  have l6 := hR.2.2.2
  have l7 := hR.2.1
  have t := hT.1
  omega
theorem oneZ_43 (h : OneZ E W prev mprev τ ln kd en M) (hml : mprev.length ≤ prev.length) (h0 : 0 ≤ M 13 0 43) (hT : TPE M) : M 13 0 43 ≤ 240 := by
  obtain ⟨s, p, cur, mcur, hL, hR, hS, hD, h18, hpp, h96, hPr⟩ := h
  have l1 := pp_len (b := 3) (cW s) (cO s)
  rw [hpp] at l1
  have l1 := l1.1
  simp only [List.length_append] at l1
  have l2 := congrArg List.length h96
  rw [stk_len, List.length_append] at l2
  have l5 := Pre_len hPr
  have l6 := hR.2.2.2
  have l7 := hR.2.1
  have t := hT.1
  omega
end ONES
