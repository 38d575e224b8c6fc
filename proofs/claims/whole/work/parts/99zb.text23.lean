/-! ===== text: a test, token by token (wip/gen/txB.body) ===== -/
def Wof (an or : Int) : List Int := (if an = 1 then [5] else []) ++ (if or = 1 then [4] else [])
def tof (an or : Int) : List Bool := (if an = 1 then [true] else []) ++ (if or = 1 then [true] else [])
theorem Wof_1 {or : Int} : Wof 1 or = 5 :: Wof 0 or ∧ tof 1 or = true :: tof 0 or := ⟨rfl, rfl⟩
theorem topb_W0 {or : Int} : topb (Wof 0 or) < 2 := by
  unfold Wof
  rw [if_neg (by decide)]
  split <;> decide
theorem topb_W {an or : Int} : topb (Wof an or) < 3 := by
  unfold Wof
  by_cases c : an = 1
  · rw [if_pos c]
    show bndT 5 < 3
    decide
  · rw [if_neg c]
    split <;> decide
def MidZ (b cd : Int) (E : RSS) (W prev mprev : List Int) (τ : List Bool) (ln : Int) (kd en : Int → Int) (f : Int → Prop) (M : Mem) : Prop := ∃ s p cur mcur, LAo M p ∧ RN (M 90 0) (M 13 0 28) E s p ∧ cS s = 2 ∧ (cP s = 0 ∧ cD s = cd ∧ cL s = ln ∧ cK s = kd ∧ cE s = en) ∧ (¬ (18 ≤ tkT (M 90 0) (M 13 0 28) p ∧ tkT (M 90 0) (M 13 0 28) p ≤ 20) ∧ f (tkT (M 90 0) (M 13 0 28) p)) ∧ pp b (cO s) (cW s) = (cur ++ prev, W) ∧ stk (M 96 0) (M 13 0 43).toNat = mcur ++ mprev ∧ Pre cur mcur false τ
abbrev AndZ (E : RSS) (or : Int) (prev mprev : List Int) (ln : Int) (kd en : Int → Int) (M : Mem) : Prop := MidZ 2 2 E (Wof 0 or) prev mprev (true :: tof 0 or) ln kd en (fun _ => True) M
abbrev BstZ (E : RSS) (or : Int) (prev mprev : List Int) (ln : Int) (kd en : Int → Int) (M : Mem) : Prop := MidZ 2 2 E (Wof 0 or) prev mprev (true :: tof 0 or) ln kd en (fun t => ¬ t = 5) M
abbrev OrZ (E : RSS) (prev mprev : List Int) (ln : Int) (kd en : Int → Int) (M : Mem) : Prop := MidZ 1 2 E [] prev mprev [true] ln kd en (fun t => ¬ t = 5) M
abbrev TstZ (E : RSS) (prev mprev : List Int) (ln : Int) (kd en : Int → Int) (M : Mem) : Prop := MidZ 1 2 E [] prev mprev [true] ln kd en (fun t => ¬ t = 5 ∧ ¬ t = 4) M
section TSTS
variable {E : RSS} {prev mprev W : List Int} {τ : List Bool} {ln b cd or an : Int} {kd en : Int → Int} {f : Int → Prop} {M M9 v w : Mem}
theorem mid_0 (h : MidZ b cd E W prev mprev τ ln kd en f M) : M 13 0 33 = 0 := by
  obtain ⟨s, p, cur, mcur, hL, -⟩ := h
  exact hL.1
theorem mid_b (hT : TPE M) (h : MidZ b cd E W prev mprev τ ln kd en f M) (hml : mprev.length ≤ prev.length) (h0 : 0 ≤ M 13 0 43) : M 13 0 30 ≤ 240 ∧ M 13 0 43 ≤ 240 ∧ M 13 0 30 ≤ M 13 0 29 := by
  obtain ⟨s, p, cur, mcur, hL, hR, hS, hD, hN, hpp, h96, hPr⟩ := h
  have ti := tkn_in (T := M 90 0) (u := M 13 0 28) (p := p) hR.2.1.2
  have t := hT.1
  have l1 := pp_len (b := b) (cW s) (cO s)
  rw [hpp] at l1
  have l1 := l1.1
  simp only [List.length_append] at l1
  have l2 := congrArg List.length h96
  rw [stk_len, List.length_append] at l2
  have l5 := Pre_len hPr
  have l6 := hR.2.2.2
  have l7 := hR.2.1
  rw [hL.2.2.2.1, hL.2.2.1]
  omega
theorem not_43 {n : Nat} (hT : TPE M) (h : NotS E W prev mprev τ ln kd en n M) (hml : mprev.length ≤ prev.length) (h0 : 0 ≤ M 13 0 43) : M 13 0 43 ≤ 240 := by
  obtain ⟨s, p, cur, mcur, hL, hR, hS, hD, hN, hW, hO, h96, hPr⟩ := h
  have t := hT.1
  have l1 := congrArg List.length hO
  simp only [List.length_append] at l1
  have l2 := congrArg List.length h96
  rw [stk_len, List.length_append] at l2
  have l5 := Pre_len hPr
  have l6 := hR.2.2.2
  have l7 := hR.2.1
  omega
theorem mid_code {x : Int} {W' cur' : List Int} {τ' : List Bool} {b' : Int} {wd : Int} (h : MidZ b cd E W prev mprev τ ln kd en f M) (hb : b' ≤ b) (hp : ∀ o, pp b' o W = (wd :: o, W')) (hx : cmap wd = x) (ht : tyS wd τ = some τ') (h43 : 0 ≤ M 13 0 43) : MidZ b' cd E W' prev mprev τ' ln kd en f (mset (mset M 96 0 (M 13 0 43) x) 13 0 43 (M 13 0 43 + 1)) := by
  obtain ⟨s, p, cur, mcur, hL, hR, hS, hD, hN, hpp, h96, hPr⟩ := h
  refine ⟨s, p, wd :: cur, x :: mcur, LAo_cg (by rw [ms_q (by decide), ms_q (by decide)]) (fun j hj => by rw [ms_f, if_neg (by omega), ms_q (by decide)]) hL, ?_, hS, hD, ?_, ?_, ?_, ?_⟩
  · rw [ms_q (by decide), ms_q (by decide), ms_f, if_neg (by omega), ms_q (by decide)]
    exact hR
  · rw [ms_q (by decide), ms_q (by decide), ms_f, if_neg (by omega), ms_q (by decide)]
    exact hN
  · rw [pp_comp hb, hpp, hp]
    rfl
  · rw [ms_f, if_pos ⟨rfl, rfl⟩, ms_q (by decide), ms_n, stk_push h43, h96]
    rfl
  · rw [← hx]
    exact PreW hPr ht
theorem mid_low {b' : Int} (h : MidZ b cd E W prev mprev τ ln kd en f M) (hb : b' ≤ b) (ht : topb W < b') : MidZ b' cd E W prev mprev τ ln kd en f M := by
  obtain ⟨s, p, cur, mcur, hL, hR, hS, hD, hN, hpp, h96, hPr⟩ := h
  exact ⟨s, p, cur, mcur, hL, hR, hS, hD, hN, pp_low hb hpp ht, h96, hPr⟩
theorem mid_f {g : Int → Prop} (h : MidZ b cd E W prev mprev τ ln kd en f M) (hg : ∀ t, (∃ n, SV t n (M 13 0 31) (M 13 0 32)) → f t → g t) : MidZ b cd E W prev mprev τ ln kd en g M := by
  obtain ⟨s, p, cur, mcur, hL, hR, hS, hD, hN, hpp, h96, hPr⟩ := h
  exact ⟨s, p, cur, mcur, hL, hR, hS, hD, ⟨hN.1, hg _ ⟨_, hL.2.2.2.2⟩ hN.2⟩, hpp, h96, hPr⟩
theorem mid_one (h : OneZ E W prev mprev τ ln kd en M) : MidZ 3 2 E W prev mprev (true :: τ) ln kd en (fun _ => True) M := by
  obtain ⟨s, p, cur, mcur, hL, hR, hS, hD, hN, hpp, h96, hPr⟩ := h
  exact ⟨s, p, cur, mcur, hL, hR, hS, hD, ⟨hN, trivial⟩, hpp, h96, hPr⟩
theorem and_1 (h : OneZ E (Wof 1 or) prev mprev (tof 1 or) ln kd en M) (h43 : 0 ≤ M 13 0 43) : AndZ E or prev mprev ln kd en (mset (mset M 96 0 (M 13 0 43) (-138)) 13 0 43 (M 13 0 43 + 1)) := by
  refine mid_code (cur' := []) (mid_one h) (by decide) (wd := 5) (fun o => ?_) (by decide) (ty_ao (Or.inr rfl)) h43
  show pp 2 o (5 :: Wof 0 or) = _
  rw [pp, if_pos (by decide), pp_stay topb_W0]
theorem and_0 (h : OneZ E (Wof 0 or) prev mprev (tof 0 or) ln kd en M) : AndZ E or prev mprev ln kd en M := mid_low (mid_one h) (by decide) topb_W0
theorem or_1 (h : BstZ E 1 prev mprev ln kd en M) (h43 : 0 ≤ M 13 0 43) : OrZ E prev mprev ln kd en (mset (mset M 96 0 (M 13 0 43) (-224)) 13 0 43 (M 13 0 43 + 1)) := mid_code (cur' := []) h (by decide) (wd := 4) (fun o => by show pp 1 o [4] = _; rw [pp, if_pos (by decide)]; rfl) (by decide) (ty_ao (Or.inl rfl)) h43
theorem or_0 (h : BstZ E 0 prev mprev ln kd en M) : OrZ E prev mprev ln kd en M := mid_low h (by decide) (by decide)
/-- AND or OR: on to the next comparison -/
theorem mid_go {t : Int} (h : MidZ b 2 E W prev mprev τ ln kd en f M) (ht : t = 4 ∨ t = 5) (hb : bndT t = b) (h31 : M 13 0 31 = 1) (h32 : M 13 0 32 = t) (hN : NXP M M9) : FB M9 E ∨ NotS E (t :: W) prev mprev τ ln kd en 0 M9 := by
  obtain ⟨s, p, cur, mcur, hL, hR, hS, ⟨hP, hD, hLn, hK, hE⟩, hNn, hpp, h96, hPr⟩ := h
  have tt : tkT (M 90 0) (M 13 0 28) p = t := by
    rcases ht with rfl | rfl
    · exact (SV_f hL.2.2.2.2).2.2.2.2.2.2.2.2.2.2.1.mp ⟨h31, h32⟩
    · exact (SV_f hL.2.2.2.2).2.2.2.2.2.2.2.2.2.1.mp ⟨h31, h32⟩
  have st : stp1 (tkT (M 90 0) (M 13 0 28) p) (tkV (M 90 0) (M 13 0 28) p) s = (0, jnS t s 1 1) := by
    rw [tt]
    unfold stp1
    rw [if_neg (by omega), if_neg (by omega), if_neg (by omega), if_neg (by omega), if_neg (by omega), if_neg (by omega), if_pos ⟨ht, hD⟩]
  have g := rn_go hR (by rw [st]) (by omega)
  rw [st] at g
  have js : jnS t s 1 1 = (cur ++ prev, t :: W, 1, 1, cP s, 1, cL s, cK s, cE s) := by
    unfold jnS
    rw [hb, hpp]
  rw [js] at g
  have g2 := nx_go hN (E := E) (by rw [hL.2.2.1]; exact g)
  rcases g2 with g2 | ⟨g2, g3⟩
  · exact Or.inl g2
  refine Or.inr ⟨_, _, cur, mcur, g3, g2, rfl, ⟨hP, rfl, hLn, hK, hE⟩, rfl, rfl, rfl, ?_, hPr⟩
  rw [hN.1 96 (by decide), hN.2.1 43 (by decide) (by decide) (by decide) (by decide) (by decide) (by decide)]
  exact h96
def TIn (E : RSS) (prev mprev : List Int) (ln : Int) (kd en : Int → Int) (M M9 : Mem) (or on an part : Int) : Prop := FRT M M9 ∧ TPE M9 ∧ (0 ≤ M9 13 0 43 ∧ M9 13 0 43 ≤ 284) ∧ ((or = 0 ∨ or = 1) ∧ (an = 0 ∨ an = 1) ∧ (part = 0 ∨ part = 1)) ∧ (FB M9 E ∨ (part = 1 ∧ NotS E (Wof an or) prev mprev (tof an or) ln kd en 0 M9) ∨ (part = 0 ∧ an = 0 ∧ BstZ E or prev mprev ln kd en M9))
def TOu (E : RSS) (prev mprev : List Int) (ln : Int) (kd en : Int → Int) (M M9 : Mem) (or on : Int) : Prop := FRT M M9 ∧ TPE M9 ∧ (0 ≤ M9 13 0 43 ∧ M9 13 0 43 ≤ 285) ∧ ((or = 0 ∨ or = 1) ∧ (on = 0 ∨ on = 1)) ∧ (FB M9 E ∨ (on = 1 ∧ NotS E (Wof 0 or) prev mprev (tof 0 or) ln kd en 0 M9) ∨ (on = 0 ∧ or = 0 ∧ TstZ E prev mprev ln kd en M9))
def mOu (M9 : Mem) (on : Int) : Nat := (if M9 13 0 33 = 0 then 4000 - 8 * M9 13 0 30 + 3 * on else 0).toNat
def mIn (M9 : Mem) (part : Int) : Nat := (if M9 13 0 33 = 0 then 4000 - 8 * M9 13 0 30 + 1 + part else 1).toNat
theorem FB.ne (h : FB M E) : ¬ M 13 0 33 = 0 := by
  have := h.1
  omega
/-- what a step of the inner loop is about -/
def TMd (E : RSS) (Z : Mem → Prop) (M M9 M2 : Mem) (bd : Int) : Prop := FRT M M2 ∧ TPE M2 ∧ (0 ≤ M2 13 0 43 ∧ M2 13 0 43 ≤ bd) ∧ (M2 13 0 33 = 0 → M9 13 0 30 ≤ M2 13 0 30) ∧ (FB M2 E ∨ Z M2)
theorem ti_pre {on part : Int} (h : TIn E prev mprev ln kd en M M9 or on an part) (hml : mprev.length ≤ prev.length) (hp : ¬ part = 0) (h33 : M9 13 0 33 = 0) : (TPE M9 ∧ (0 ≤ M9 13 0 43 ∧ M9 13 0 43 ≤ 281) ∧ topb (Wof an or) < 3 ∧ mprev.length ≤ prev.length ∧ NotS E (Wof an or) prev mprev (tof an or) ln kd en 0 M9) ∧ M9 13 0 30 ≤ 240 ∧ part = 1 := by
  obtain ⟨h1, h2, h3, h4, h5⟩ := h
  rcases h5 with q | q | q
  · exact absurd h33 (FB.ne q)
  · exact ⟨⟨h2, ⟨h3.1, by have := not_43 h2 q.2 hml h3.1; omega⟩, topb_W, hml, q.2⟩, (notS_n h2 q.2).2, q.1⟩
  · exact absurd q.1 hp
theorem ti_a0 {on part : Int} (h : TIn E prev mprev ln kd en M M9 or on 0 part) (hv : POSTO E (Wof 0 or) prev mprev (tof 0 or) ln kd en M9 v) : TMd E (AndZ E or prev mprev ln kd en) M M9 v 284 := ⟨h.1.trans hv.1, hv.2.1, ⟨hv.2.2.1.1, by have := hv.2.2.1; omega⟩, hv.2.2.1.2.2, hv.2.2.2.elim Or.inl (fun q => Or.inr (and_0 q))⟩
theorem ti_a1 {on part : Int} (h : TIn E prev mprev ln kd en M M9 or on 1 part) (hv : POSTO E (Wof 1 or) prev mprev (tof 1 or) ln kd en M9 v) : TMd E (AndZ E or prev mprev ln kd en) M M9 (mset (mset v 96 0 (v 13 0 43) (-138)) 13 0 43 (v 13 0 43 + 1)) 284 := ⟨(h.1.trans hv.1).trans frt_code, tpe_code hv.2.1, by rw [ms_f, if_pos ⟨rfl, rfl⟩]; have := hv.2.2.1; omega, by simp (disch := decide) only [ms_q, ms_f, true_and, and_true, Int.reduceEq, if_true, if_false, reduceIte]; exact hv.2.2.1.2.2, hv.2.2.2.elim (fun q => Or.inl (fb_code q)) (fun q => Or.inr (and_1 q hv.2.2.1.1))⟩
theorem md_nand {M2 : Mem} {on : Int} (h : TMd E (AndZ E or prev mprev ln kd en) M M9 M2 284) (hor : or = 0 ∨ or = 1) (h33 : M9 13 0 33 = 0) (h30 : M9 13 0 30 ≤ 240) (hn : ¬ (M2 13 0 31 = 1 ∧ M2 13 0 32 = 5)) : TIn E prev mprev ln kd en M M2 or on 0 0 ∧ mIn M2 0 < mIn M9 1 := by
  obtain ⟨h1, h2, h3, h4, h5⟩ := h
  refine ⟨⟨h1, h2, h3, ⟨hor, Or.inl rfl, Or.inl rfl⟩, h5.elim Or.inl (fun q => Or.inr (Or.inr ⟨rfl, rfl, mid_f q (fun t hs _ => ?_)⟩))⟩, ?_⟩
  · obtain ⟨n, hs⟩ := hs
    exact fun z => hn ((SV_f hs).2.2.2.2.2.2.2.2.2.1.mpr z)
  · unfold mIn
    rw [if_pos h33]
    split <;> omega
theorem md_and1 {M2 : Mem} {on : Int} (h : TMd E (AndZ E or prev mprev ln kd en) M M9 M2 284) (hor : or = 0 ∨ or = 1) (h33 : M9 13 0 33 = 0) (h30 : M9 13 0 30 ≤ 240) (hn : ¬ M2 13 0 33 = 0) : TIn E prev mprev ln kd en M M2 or on 1 1 ∧ mIn M2 1 < mIn M9 1 := by
  obtain ⟨h1, h2, h3, h4, h5⟩ := h
  refine ⟨⟨h1, h2, h3, ⟨hor, Or.inr rfl, Or.inr rfl⟩, h5.elim Or.inl (fun q => absurd (mid_0 q) hn)⟩, ?_⟩
  unfold mIn
  rw [if_pos h33, if_neg hn]
  omega
theorem md_and {M2 : Mem} {on : Int} (h : TMd E (AndZ E or prev mprev ln kd en) M M9 M2 284) (hml : mprev.length ≤ prev.length) (hor : or = 0 ∨ or = 1) (h33 : M9 13 0 33 = 0) (h30 : M9 13 0 30 ≤ 240) (hz : M2 13 0 33 = 0) (h31 : M2 13 0 31 = 1) (h32 : M2 13 0 32 = 5) (hN : NXP M2 w) : TIn E prev mprev ln kd en M w or on 1 1 ∧ mIn w 1 < mIn M9 1 := by
  obtain ⟨h1, h2, h3, h4, h5⟩ := h
  have h5 := h5.resolve_left (fun q => FB.ne q hz)
  have e43 := hN.2.1 43 (by decide) (by decide) (by decide) (by decide) (by decide) (by decide)
  have l := mid_b h2 h5 hml h3.1
  have lt : M2 13 0 30 < M2 13 0 29 := by
    obtain ⟨s, p, cur, mcur, hL, hR, -⟩ := h5
    have t26 : ¬ tkT (M2 90 0) (M2 13 0 28) p = 26 := fun z => by
      have := (SV_f hL.2.2.2.2).2.2.2.2.2.2.1.mpr z
      omega
    have ti := tkn_in (T := M2 90 0) (u := M2 13 0 28) (p := p) hR.2.1.2
    rw [hL.2.2.1, hL.2.2.2.1]
    exact ti.2.2.2.1 t26
  refine ⟨⟨h1.trans (frt_nx hN), nx_tpe h2 hN, by omega, ⟨hor, Or.inr rfl, Or.inr rfl⟩, (mid_go h5 (Or.inr rfl) (by decide) h31 h32 hN).elim Or.inl (fun q => Or.inr (Or.inl ⟨rfl, q⟩))⟩, ?_⟩
  have ti := tkn_in (T := M2 90 0) (u := M2 13 0 28) (p := M2 13 0 29) h2.1.2.1
  have e30 := hN.2.2.1.2
  have := h4 hz
  unfold mIn
  rw [if_pos h33]
  split <;> omega
theorem to_o0 {on part : Int} (h : TIn E prev mprev ln kd en M M9 0 on an part) (he : part = 0 ∨ ¬ M9 13 0 33 = 0) : TMd E (OrZ E prev mprev ln kd en) M M9 M9 285 := by
  obtain ⟨h1, h2, h3, h4, h5⟩ := h
  refine ⟨h1, h2, by omega, fun _ => Int.le_refl _, ?_⟩
  rcases h5 with q | q | q
  · exact Or.inl q
  · exact absurd (notS_0 q.2) (he.resolve_left (by omega))
  · exact Or.inr (or_0 q.2.2)
theorem to_o1 {on part : Int} (h : TIn E prev mprev ln kd en M M9 1 on an part) (he : part = 0 ∨ ¬ M9 13 0 33 = 0) : TMd E (OrZ E prev mprev ln kd en) M M9 (mset (mset M9 96 0 (M9 13 0 43) (-224)) 13 0 43 (M9 13 0 43 + 1)) 285 := by
  obtain ⟨h1, h2, h3, h4, h5⟩ := h
  refine ⟨h1.trans frt_code, tpe_code h2, by rw [ms_f, if_pos ⟨rfl, rfl⟩]; omega, by simp (disch := decide) only [ms_q, ms_f, true_and, and_true, Int.reduceEq, if_true, if_false, reduceIte]; exact fun _ => Int.le_refl _, ?_⟩
  rcases h5 with q | q | q
  · exact Or.inl (fb_code q)
  · exact absurd (notS_0 q.2) (he.resolve_left (by omega))
  · exact Or.inr (or_1 q.2.2 h3.1)
theorem ti_30 {on part : Int} (h : TIn E prev mprev ln kd en M M9 or on an part) (hml : mprev.length ≤ prev.length) (h33 : M9 13 0 33 = 0) : M9 13 0 30 ≤ 240 := by
  obtain ⟨h1, h2, h3, h4, h5⟩ := h
  rcases h5 with q | q | q
  · exact absurd h33 (FB.ne q)
  · exact (notS_n h2 q.2).2
  · exact (mid_b h2 q.2.2 hml h3.1).1
theorem md_nor {M2 : Mem} {part : Int} (h : TMd E (OrZ E prev mprev ln kd en) M M9 M2 285) (hpt : part = 0 ∨ part = 1) (e33 : M2 13 0 33 = M9 13 0 33) (h30 : M9 13 0 33 = 0 → M9 13 0 30 ≤ 240) (hn : ¬ (M2 13 0 31 = 1 ∧ M2 13 0 32 = 4)) : TOu E prev mprev ln kd en M M2 0 0 ∧ mOu M2 0 < mIn M9 part := by
  obtain ⟨h1, h2, h3, h4, h5⟩ := h
  refine ⟨⟨h1, h2, h3, ⟨Or.inl rfl, Or.inl rfl⟩, h5.elim Or.inl (fun q => Or.inr (Or.inr ⟨rfl, rfl, mid_f q (fun t hs z => ⟨z, ?_⟩)⟩))⟩, ?_⟩
  · obtain ⟨n, hs⟩ := hs
    exact fun z => hn ((SV_f hs).2.2.2.2.2.2.2.2.2.2.1.mpr z)
  · unfold mIn mOu
    rw [e33] at h4 ⊢
    by_cases c : M9 13 0 33 = 0
    · rw [if_pos c, if_pos c]
      have := h4 c
      have := h30 c
      omega
    · rw [if_neg c, if_neg c]
      omega
theorem md_or1 {M2 : Mem} {part : Int} (h : TMd E (OrZ E prev mprev ln kd en) M M9 M2 285) (e33 : M2 13 0 33 = M9 13 0 33) (hn : ¬ M2 13 0 33 = 0) : TOu E prev mprev ln kd en M M2 1 1 ∧ mOu M2 1 < mIn M9 part := by
  obtain ⟨h1, h2, h3, h4, h5⟩ := h
  refine ⟨⟨h1, h2, h3, ⟨Or.inr rfl, Or.inr rfl⟩, h5.elim Or.inl (fun q => absurd (mid_0 q) hn)⟩, ?_⟩
  unfold mIn mOu
  rw [if_neg hn, if_neg (by omega)]
  omega
theorem md_or {M2 : Mem} {part : Int} (h : TMd E (OrZ E prev mprev ln kd en) M M9 M2 285) (hml : mprev.length ≤ prev.length) (hpt : part = 0 ∨ part = 1) (e33 : M2 13 0 33 = M9 13 0 33) (h30 : M9 13 0 33 = 0 → M9 13 0 30 ≤ 240) (hz : M2 13 0 33 = 0) (h31 : M2 13 0 31 = 1) (h32 : M2 13 0 32 = 4) (hN : NXP M2 w) : TOu E prev mprev ln kd en M w 1 1 ∧ mOu w 1 < mIn M9 part := by
  obtain ⟨h1, h2, h3, h4, h5⟩ := h
  have h5 := h5.resolve_left (fun q => FB.ne q hz)
  have e43 := hN.2.1 43 (by decide) (by decide) (by decide) (by decide) (by decide) (by decide)
  have lt : M2 13 0 30 < M2 13 0 29 := by
    obtain ⟨s, p, cur, mcur, hL, hR, -⟩ := h5
    have t26 : ¬ tkT (M2 90 0) (M2 13 0 28) p = 26 := fun z => by
      have := (SV_f hL.2.2.2.2).2.2.2.2.2.2.1.mpr z
      omega
    have ti := tkn_in (T := M2 90 0) (u := M2 13 0 28) (p := p) hR.2.1.2
    rw [hL.2.2.1, hL.2.2.2.1]
    exact ti.2.2.2.1 t26
  refine ⟨⟨h1.trans (frt_nx hN), nx_tpe h2 hN, by omega, ⟨Or.inr rfl, Or.inr rfl⟩, (mid_go h5 (Or.inl rfl) (by decide) h31 h32 hN).elim Or.inl (fun q => Or.inr (Or.inl ⟨rfl, q⟩))⟩, ?_⟩
  have ti := tkn_in (T := M2 90 0) (u := M2 13 0 28) (p := M2 13 0 29) h2.1.2.1
  have e30 := hN.2.2.1.2
  have := h4 hz
  have := h30 (by omega)
  unfold mIn mOu
  rw [if_pos (by omega : M9 13 0 33 = 0)]
  split <;> omega
theorem ou_in {on : Int} (h : TOu E prev mprev ln kd en M M9 or on) (hml : mprev.length ≤ prev.length) (ho : ¬ on = 0) (h33 : M9 13 0 33 = 0) : TIn E prev mprev ln kd en M M9 or on 0 1 ∧ mIn M9 1 < mOu M9 on := by
  obtain ⟨h1, h2, h3, h4, h5⟩ := h
  rcases h5 with q | q | q
  · exact absurd h33 (FB.ne q)
  · have := not_43 h2 q.2 hml h3.1
    have := (notS_n h2 q.2).2
    refine ⟨⟨h1, h2, by omega, ⟨h4.1, Or.inl rfl, Or.inr rfl⟩, Or.inr (Or.inl ⟨rfl, q.2⟩)⟩, ?_⟩
    unfold mIn mOu
    rw [if_pos h33, if_pos h33]
    omega
  · exact absurd q.1 ho
theorem ou_fin {on : Int} (h : TOu E prev mprev ln kd en M M9 or on) (he : on = 0 ∨ ¬ M9 13 0 33 = 0) : FRT M M9 ∧ TPE M9 ∧ (0 ≤ M9 13 0 43 ∧ M9 13 0 43 ≤ 285) ∧ (FB M9 E ∨ TstZ E prev mprev ln kd en M9) := by
  obtain ⟨h1, h2, h3, h4, h5⟩ := h
  refine ⟨h1, h2, h3, ?_⟩
  rcases h5 with q | q | q
  · exact Or.inl q
  · exact absurd (notS_0 q.2) (he.resolve_left (by omega))
  · exact Or.inr q.2.2
end TSTS
