/-! ===== text: a sum, token by token (wip/gen/tx6.body) ===== -/
theorem SV_f {t n s v : Int} (h : SV t n s v) : (((s = 3 ∧ v = 40) ↔ t = 16) ∧ ((s = 3 ∧ v = 41) ↔ t = 17) ∧ ((s = 3 ∧ v = 43) ↔ t = 18) ∧ ((s = 3 ∧ v = 45) ↔ t = 19) ∧ ((s = 3 ∧ v = 42) ↔ t = 20)) ∧ ((s = 3 ∧ v = 60) ↔ t = 21) ∧ ((s = 3 ∧ v = 62) ↔ t = 22) ∧ ((s = 3 ∧ v = 61) ↔ t = 23) ∧ ((s = 3 ∧ v = 59) ↔ t = 24) ∧ (s = 2 ↔ t = 25) ∧ (s = 0 ↔ t = 26) ∧ ((s = 1 ∧ 10 ≤ v) ↔ (7 ≤ t ∧ t ≤ 15)) ∧ ((s = 1 ∧ v = 6) ↔ t = 6) ∧ ((s = 1 ∧ v = 5) ↔ t = 5) ∧ ((s = 1 ∧ v = 4) ↔ t = 4) ∧ ((s = 1 ∧ (0 ≤ v ∧ v ≤ 3)) ↔ (0 ≤ t ∧ t ≤ 3)) ∧ (s = 1 → 7 ≤ t → t = v - 3) ∧ (s = 1 → 0 ≤ t → t ≤ 6 → t = v) ∧ (s = 2 → v = n) := by
  unfold SV at h
  rcases h with ⟨h, rfl, rfl⟩ | ⟨h, rfl, rfl⟩ | ⟨rfl, rfl, rfl⟩ | ⟨rfl, rfl⟩
  · unfold vmM
    by_cases c : t ≤ 6
    · rw [if_pos c]
      omega
    · rw [if_neg c, if_pos (by omega)]
      omega
  · unfold chM
    rcases (by omega : t = 16 ∨ t = 17 ∨ t = 18 ∨ t = 19 ∨ t = 20 ∨ t = 21 ∨ t = 22 ∨ t = 23 ∨ t = 24) with h | h | h | h | h | h | h | h | h <;> subst h <;> simp
  · omega
  · omega
theorem Pre_len : ∀ {c m : List Int} {p : Bool} {τ : List Bool}, Pre c m p τ → m.length ≤ c.length
  | [], m, p, τ, h => by rw [h.1]; exact Nat.le_refl _
  | w :: c, m, false, τ, h => by
    rcases h with ⟨τ0, m0, h1, h2, rfl⟩ | ⟨h1, h2, h3⟩
    · have := Pre_len h1
      simp only [List.length_cons]
      omega
    · have := Pre_len h3
      simp only [List.length_cons]
      omega
  | w :: c, m, true, τ, h => by
    have := Pre_len h.2.2
    simp only [List.length_cons]
    omega
theorem tkV_in {T : Int → Int} {u p : Int} (h : tkT T u p = 25) : 0 ≤ tkV T u p ∧ tkV T u p ≤ 9999 := by
  unfold tkT at h
  by_cases c : u ≤ tkS T u p
  · rw [if_pos c] at h
    exact absurd h (by decide)
  rw [if_neg c] at h
  by_cases c1 : 97 ≤ T (tkS T u p) ∧ T (tkS T u p) ≤ 122
  · rw [if_pos c1] at h
    exact absurd h nmF_25
  rw [if_neg c1] at h
  by_cases c2 : 48 ≤ T (tkS T u p) ∧ T (tkS T u p) ≤ 57
  · rw [if_pos c2] at h
    by_cases c3 : 4 < rn 48 57 T u (tkS T u p) - tkS T u p
    · rw [if_pos c3] at h
      exact absurd h (by decide)
    · unfold tkV
      unfold rn at c3
      exact (nv_eq (T := T) (u := u) (s := tkS T u p) (u - tkS T u p).toNat (tkS T u p) 0 (by omega) (by omega) (by omega) (by omega) (by omega) (by omega) (by omega) (by omega) (by omega)).2
  rw [if_neg c2] at h
  exact absurd h sgC_25
def SumA (E : RSS) (base prev mprev : List Int) (τb : List Bool) (dd ln : Int) (kd en : Int → Int) (M : Mem) (a wv : Int) : Prop := ∃ s p wc cur mcur, LAo M p ∧ RN (M 90 0) (M 13 0 28) E s p ∧ cS s = (if wv = 1 then 1 else 2) ∧ (cP s = a ∧ cD s = dd ∧ cL s = ln ∧ cK s = kd ∧ cE s = en) ∧ (cN s = 0 ∨ (wv = 1 ∧ ¬ tkT (M 90 0) (M 13 0 28) p = 6)) ∧ cW s = wc ++ base ∧ WB wc a ∧ stk (M 97 0) (M 13 0 45).toNat = wc.map chW ∧ cO s = cur ++ prev ∧ stk (M 96 0) (M 13 0 43).toNat = mcur ++ mprev ∧ Pre cur mcur false (fls (nop wc + (if wv = 1 then 0 else 1)) τb)
def SumZ (E : RSS) (base prev mprev : List Int) (τb : List Bool) (dd ln : Int) (kd en : Int → Int) (M : Mem) : Prop := ∃ s p cur mcur, LAo M p ∧ RN (M 90 0) (M 13 0 28) E s p ∧ cS s = 2 ∧ (cP s = 0 ∧ cD s = dd ∧ cL s = ln ∧ cK s = kd ∧ cE s = en) ∧ cN s = 0 ∧ ¬ (18 ≤ tkT (M 90 0) (M 13 0 28) p ∧ tkT (M 90 0) (M 13 0 28) p ≤ 20) ∧ pp 5 (cO s) (cW s) = (cur ++ prev, base) ∧ stk (M 96 0) (M 13 0 43).toNat = mcur ++ mprev ∧ Pre cur mcur false (false :: τb)
section SUMS
variable {E : RSS} {base prev mprev : List Int} {τb : List Bool} {dd ln a : Int} {kd en : Int → Int} {M M9 : Mem}
theorem sum_bd {wv : Int} (h : SumA E base prev mprev τb dd ln kd en M a wv) (hml : mprev.length ≤ prev.length) (hT : TPE M) (h43 : 0 ≤ M 13 0 43) (h45 : 0 ≤ M 13 0 45) : (0 ≤ a ∧ a ≤ 6) ∧ M 13 0 45 ≤ 20 ∧ (M 13 0 43 + M 13 0 45 ≤ 240) ∧ (∀ j, 0 ≤ j → j < M 13 0 45 → 0 ≤ M 97 0 j ∧ M 97 0 j ≤ 255) := by
  obtain ⟨s, p, wc, cur, mcur, hL, hR, hS, ⟨hP, -⟩, hN, hW, hB, h97, hO, h96, hPr⟩ := h
  have cp := hR.2.2.1.2.1
  have wl := WB_len hB
  have l1 := congrArg List.length h97
  rw [stk_len, List.length_map] at l1
  have l2 := congrArg List.length h96
  rw [stk_len, List.length_append] at l2
  have l3 := congrArg List.length hO
  rw [List.length_append] at l3
  have l4 := congrArg List.length hW
  rw [List.length_append] at l4
  have l5 := Pre_len hPr
  have l6 := hR.2.2.2
  have l7 := hR.2.1
  have t := hT.1
  refine ⟨by omega, ?_, by omega, fun j j0 j1 => ?_⟩
  · split at wl
    · omega
    · split at wl <;> omega
  · have q : ∀ w ∈ stk (M 97 0) (M 13 0 45).toNat, 0 ≤ w ∧ w ≤ 255 := fun w hw => by
      rw [h97] at hw
      obtain ⟨x, -, rfl⟩ := List.mem_map.mp hw
      unfold chW
      repeat' split
      all_goals omega
    exact stk_mem q j j0 (by omega)
theorem sum_open (h : SumA E base prev mprev τb dd ln kd en M a 1) (h31 : M 13 0 31 = 3) (h32 : M 13 0 32 = 40) (ha : a < 6) (h45 : 0 ≤ M 13 0 45) (hN : NXP (mset (mset M 97 0 (M 13 0 45) 40) 13 0 45 (M 13 0 45 + 1)) M9) : FB M9 E ∨ SumA E base prev mprev τb dd ln kd en M9 (a + 1) 1 := by
  obtain ⟨s, p, wc, cur, mcur, hL, hR, hS, ⟨hP, hD, hLn, hK, hE⟩, hNn, hW, hB, h97, hO, h96, hPr⟩ := h
  rw [if_pos rfl] at hS hPr
  have t16 := (SV_f hL.2.2.2.2).1.1.mp ⟨h31, h32⟩
  have st : stp1 (tkT (M 90 0) (M 13 0 28) p) (tkV (M 90 0) (M 13 0 28) p) s = (0, (cO s, 16 :: cW s, cS s, cD s, cP s + 1, 0, cL s, cK s, cE s)) := by
    rw [t16]
    unfold stp1
    rw [if_neg (by decide), if_neg (by omega), if_pos hS, if_neg (by omega), if_pos rfl, if_neg (by omega)]
  have g := rn_go hR (by rw [st]) (by omega)
  rw [st] at g
  have e90 : mset (mset M 97 0 (M 13 0 45) 40) 13 0 45 (M 13 0 45 + 1) 90 = M 90 := by rw [ms_q (by decide), ms_q (by decide)]
  have e28 : mset (mset M 97 0 (M 13 0 45) 40) 13 0 45 (M 13 0 45 + 1) 13 0 28 = M 13 0 28 := by rw [ms_f, if_neg (fun z => absurd z.2 (by decide)), ms_q (by decide)]
  have e29 : mset (mset M 97 0 (M 13 0 45) 40) 13 0 45 (M 13 0 45 + 1) 13 0 29 = tkX (M 90 0) (M 13 0 28) p := by rw [ms_f, if_neg (fun z => absurd z.2 (by decide)), ms_q (by decide)]; exact hL.2.2.1
  have g2 := nx_go hN (E := E) (s := (cO s, 16 :: cW s, cS s, cD s, cP s + 1, 0, cL s, cK s, cE s)) (by rw [e90, e28, e29]; exact g)
  rcases g2 with g2 | ⟨g2, g3⟩
  · exact Or.inl g2
  refine Or.inr ⟨_, _, 16 :: wc, cur, mcur, g3, g2, by rw [if_pos rfl]; exact hS, ⟨by show cP s + 1 = a + 1; omega, hD, hLn, hK, hE⟩, Or.inl rfl, by show 16 :: cW s = _; rw [hW]; rfl, Or.inl ⟨rfl, by have := hR.2.2.1.2.1; omega, by rw [Int.add_sub_cancel]; exact hB⟩, ?_, hO, ?_, ?_⟩
  · rw [hN.1 97 (by decide), ms_q (by decide), hN.2.1 45 (by decide) (by decide) (by decide) (by decide) (by decide) (by decide), ms_f, if_pos ⟨rfl, rfl⟩, ms_n, stk_push h45, h97]
    rfl
  · rw [hN.1 96 (by decide), ms_q (by decide), ms_q (by decide), hN.2.1 43 (by decide) (by decide) (by decide) (by decide) (by decide) (by decide), ms_f, if_neg (fun z => absurd z.2 (by decide)), ms_q (by decide)]
    exact h96
  · rw [if_pos rfl]
    show Pre cur mcur false (fls ((if (16 : Int) = 16 then 0 else 1) + nop wc + 0) τb)
    rw [if_pos rfl, Nat.zero_add]
    exact hPr
theorem sum_bad {wv f : Int} (h : SumA E base prev mprev τb dd ln kd en M a wv) (hf : ∀ s p, LAo M p → CI s → cS s = (if wv = 1 then 1 else 2) → cP s = a → (cN s = 0 ∨ (wv = 1 ∧ ¬ tkT (M 90 0) (M 13 0 28) p = 6)) → (stp1 (tkT (M 90 0) (M 13 0 28) p) (tkV (M 90 0) (M 13 0 28) p) s).1 = f) (f0 : ¬ f = 0) : E.1 = f ∧ E.2.1 = M 13 0 30 := by
  obtain ⟨s, p, wc, cur, mcur, hL, hR, hS, ⟨hP, hD, hLn, hK, hE⟩, hNn, hW, hB, h97, hO, h96, hPr⟩ := h
  have q := hf s p hL hR.2.2.1 hS hP hNn
  have b := rn_bad hR (by rw [q]; exact f0)
  rw [q] at b
  rw [hL.2.2.2.1]
  exact b
theorem sum_open_bad (h : SumA E base prev mprev τb dd ln kd en M a 1) (h31 : M 13 0 31 = 3) (h32 : M 13 0 32 = 40) (ha : ¬ a < 6) : E.1 = 3 ∧ E.2.1 = M 13 0 30 := sum_bad h (fun s p hL hC hS hP hN => by
  rw [if_pos rfl] at hS
  have t16 := (SV_f hL.2.2.2.2).1.1.mp ⟨h31, h32⟩
  rw [t16]
  unfold stp1
  rw [if_neg (by decide), if_neg (by omega), if_pos hS, if_neg (by omega), if_pos rfl, if_pos (by omega)]) (by decide)
theorem sum_val_bad (h : SumA E base prev mprev τb dd ln kd en M a 1) (h1 : ¬ (M 13 0 31 = 3 ∧ M 13 0 32 = 40)) (h2 : ¬ M 13 0 31 = 2) (h3 : ¬ (M 13 0 31 = 1 ∧ 10 ≤ M 13 0 32)) : E.1 = 2 ∧ E.2.1 = M 13 0 30 := sum_bad h (fun s p hL hC hS hP hN => by
  rw [if_pos rfl] at hS
  have n27 := hL.2.1
  have c16 : ¬ tkT (M 90 0) (M 13 0 28) p = 16 := fun z => h1 ((SV_f hL.2.2.2.2).1.1.mpr z)
  have c25 : ¬ tkT (M 90 0) (M 13 0 28) p = 25 := fun z => h2 ((SV_f hL.2.2.2.2).2.2.2.2.2.1.mpr z)
  have c7 : ¬ (7 ≤ tkT (M 90 0) (M 13 0 28) p ∧ tkT (M 90 0) (M 13 0 28) p ≤ 15) := fun z => h3 ((SV_f hL.2.2.2.2).2.2.2.2.2.2.2.1.mpr z)
  unfold stp1
  rw [if_neg n27, if_neg (by omega), if_pos hS, if_neg (fun z => by rcases hN with y | y <;> omega), if_neg c16, if_pos ⟨c25, c7⟩]) (by decide)
theorem sum_val (h : SumA E base prev mprev τb dd ln kd en M a 1) (hc : M 13 0 31 = 2 ∨ (M 13 0 31 = 1 ∧ 10 ≤ M 13 0 32)) {v : Int} (hv : v = if M 13 0 31 = 2 then M 13 0 32 else -1 - (M 13 0 32 - 10)) (h43 : 0 ≤ M 13 0 43) (hN : NXP (mset (mset M 96 0 (M 13 0 43) v) 13 0 43 (M 13 0 43 + 1)) M9) : FB M9 E ∨ SumA E base prev mprev τb dd ln kd en M9 a 0 := by
  obtain ⟨s, p, wc, cur, mcur, hL, hR, hS, ⟨hP, hD, hLn, hK, hE⟩, hNn, hW, hB, h97, hO, h96, hPr⟩ := h
  rw [if_pos rfl] at hS hPr
  have n27 := hL.2.1
  have tc : tkT (M 90 0) (M 13 0 28) p = 25 ∨ (7 ≤ tkT (M 90 0) (M 13 0 28) p ∧ tkT (M 90 0) (M 13 0 28) p ≤ 15) := hc.elim (fun z => Or.inl ((SV_f hL.2.2.2.2).2.2.2.2.2.1.mp z)) (fun z => Or.inr ((SV_f hL.2.2.2.2).2.2.2.2.2.2.2.1.mp z))
  obtain ⟨w, hw⟩ : ∃ w : Int, w = if tkT (M 90 0) (M 13 0 28) p = 25 then 100 + tkV (M 90 0) (M 13 0 28) p else tkT (M 90 0) (M 13 0 28) p := ⟨_, rfl⟩
  have st : stp1 (tkT (M 90 0) (M 13 0 28) p) (tkV (M 90 0) (M 13 0 28) p) s = (0, (w :: cO s, cW s, 2, cD s, cP s, 0, cL s, cK s, cE s)) := by
    unfold stp1
    rw [if_neg n27, if_neg (by omega), if_pos hS, if_neg (by omega), if_neg (by omega), if_neg (by omega), ← hw]
  have g := rn_go hR (by rw [st]) (by omega)
  rw [st] at g
  have vb : tkT (M 90 0) (M 13 0 28) p = 25 → 0 ≤ tkV (M 90 0) (M 13 0 28) p ∧ tkV (M 90 0) (M 13 0 28) p ≤ 9999 := tkV_in
  have wv2 : ((100 ≤ w ∧ w ≤ 10099) ∨ (7 ≤ w ∧ w ≤ 15)) ∧ v = cmap w := by
    by_cases c : tkT (M 90 0) (M 13 0 28) p = 25
    · rw [if_pos c] at hw
      have b := vb c
      have s2 := (SV_f hL.2.2.2.2).2.2.2.2.2.1.mpr c
      rw [if_pos s2] at hv
      have vn := (SV_f hL.2.2.2.2).2.2.2.2.2.2.2.2.2.2.2.2.2.2 s2
      refine ⟨Or.inl (by omega), ?_⟩
      unfold cmap
      rw [if_pos (by omega), hv, vn, hw]
      omega
    · rw [if_neg c] at hw
      have t7 := tc.resolve_left c
      have s1 := (SV_f hL.2.2.2.2).2.2.2.2.2.2.2.1.mpr t7
      rw [if_neg (by omega)] at hv
      have tv := (SV_f hL.2.2.2.2).2.2.2.2.2.2.2.2.2.2.2.2.1 s1.1 t7.1
      refine ⟨Or.inr (by omega), ?_⟩
      unfold cmap
      rw [if_neg (by omega), if_pos (by omega), if_pos (by omega), hv, hw]
      omega
  have e90 : mset (mset M 96 0 (M 13 0 43) v) 13 0 43 (M 13 0 43 + 1) 90 = M 90 := by rw [ms_q (by decide), ms_q (by decide)]
  have e28 : mset (mset M 96 0 (M 13 0 43) v) 13 0 43 (M 13 0 43 + 1) 13 0 28 = M 13 0 28 := by rw [ms_f, if_neg (fun z => absurd z.2 (by decide)), ms_q (by decide)]
  have e29 : mset (mset M 96 0 (M 13 0 43) v) 13 0 43 (M 13 0 43 + 1) 13 0 29 = tkX (M 90 0) (M 13 0 28) p := by rw [ms_f, if_neg (fun z => absurd z.2 (by decide)), ms_q (by decide)]; exact hL.2.2.1
  have g2 := nx_go hN (E := E) (s := (w :: cO s, cW s, 2, cD s, cP s, 0, cL s, cK s, cE s)) (by rw [e90, e28, e29]; exact g)
  rcases g2 with g2 | ⟨g2, g3⟩
  · exact Or.inl g2
  refine Or.inr ⟨_, _, wc, w :: cur, cmap w :: mcur, g3, g2, by rw [if_neg (by decide)]; rfl, ⟨hP, hD, hLn, hK, hE⟩, Or.inl rfl, hW, hB, ?_, by show w :: cO s = _; rw [hO]; rfl, ?_, ?_⟩
  · rw [hN.1 97 (by decide), ms_q (by decide), ms_q (by decide), hN.2.1 45 (by decide) (by decide) (by decide) (by decide) (by decide) (by decide), ms_f, if_neg (fun z => absurd z.2 (by decide)), ms_q (by decide)]
    exact h97
  · rw [hN.1 96 (by decide), ms_q (by decide), hN.2.1 43 (by decide) (by decide) (by decide) (by decide) (by decide) (by decide), ms_f, if_pos ⟨rfl, rfl⟩, ms_n, stk_push h43, h96, wv2.2]
    rfl
  · rw [if_neg (by decide)]
    exact PreW hPr (ty_val wv2.1)
abbrev POP (b : Int) (M v : Mem) : Prop := (∀ p, p ≠ 13 → p ≠ 96 → v p = M p) ∧ (∀ j, j ≠ 43 → j ≠ 45 → v 13 0 j = M 13 0 j) ∧ (0 ≤ v 13 0 43 ∧ 0 ≤ v 13 0 45 ∧ v 13 0 45 ≤ M 13 0 45 ∧ v 13 0 43 + v 13 0 45 = M 13 0 43 + M 13 0 45) ∧ (stk (v 96 0) (v 13 0 43).toNat, stk (M 97 0) (v 13 0 45).toNat) = pq b (stk (M 96 0) (M 13 0 43).toNat) (stk (M 97 0) (M 13 0 45).toNat)
theorem pp_base {b : Int} {wc : List Int} {cur : List Int} (h : topb base < b ∨ (pp b (cur ++ prev) wc).2 ≠ []) : pp b (cur ++ prev) (wc ++ base) = ((pp b cur wc).1 ++ prev, (pp b cur wc).2 ++ base) := by
  rw [pp_app wc (cur ++ prev) h, pp_out]
theorem LA_pop {b p : Int} {v : Mem} (h : LAo M p) (hp : POP b M v) : LAo v p := by
  have e := fun j h1 h2 => hp.2.1 j h1 h2
  unfold LAo at *
  rw [hp.1 90 (by decide) (by decide), e 28 (by decide) (by decide), e 29 (by decide) (by decide), e 30 (by decide) (by decide), e 31 (by decide) (by decide), e 32 (by decide) (by decide), e 33 (by decide) (by decide)]
  exact h
theorem sum_op (h : SumA E base prev mprev τb dd ln kd en M a 0) (hb5 : topb base < 5) (h31 : M 13 0 31 = 3) (h32 : M 13 0 32 = 42 ∨ M 13 0 32 = 43 ∨ M 13 0 32 = 45) {v : Mem} (hp : POP (rkM (M 13 0 32)) M v) (hN : NXP (mset (mset v 97 0 (v 13 0 45) (M 13 0 32)) 13 0 45 (v 13 0 45 + 1)) M9) : FB M9 E ∨ SumA E base prev mprev τb dd ln kd en M9 a 1 := by
  obtain ⟨s, p, wc, cur, mcur, hL, hR, hS, ⟨hP, hD, hLn, hK, hE⟩, hNn, hW, hB, h97, hO, h96, hPr⟩ := h
  rw [if_neg (by decide)] at hS hPr
  have n27 := hL.2.1
  have hw := hR.2.2.1
  obtain ⟨t, ht⟩ : ∃ t : Int, t = tkT (M 90 0) (M 13 0 28) p := ⟨_, rfl⟩
  have tc : (18 ≤ t ∧ t ≤ 20) ∧ M 13 0 32 = chW t ∧ bndT t = 4 + rkM (chW t) ∧ (rkM (chW t) = 1 ∨ rkM (chW t) = 2) := by
    rw [ht]
    rcases h32 with z | z | z
    · have q := (SV_f hL.2.2.2.2).1.2.2.2.2.mp ⟨h31, z⟩
      rw [q, z]
      decide
    · have q := (SV_f hL.2.2.2.2).1.2.2.1.mp ⟨h31, z⟩
      rw [q, z]
      decide
    · have q := (SV_f hL.2.2.2.2).1.2.2.2.1.mp ⟨h31, z⟩
      rw [q, z]
      decide
  have st : stp1 (tkT (M 90 0) (M 13 0 28) p) (tkV (M 90 0) (M 13 0 28) p) s = (0, jnS t s (cD s) (cN s)) := by
    rw [← ht]
    unfold stp1
    rw [if_neg (by omega), if_neg (by omega), if_neg (by omega), if_pos tc.1]
  have g := rn_go hR (by rw [st]) (by omega)
  rw [st] at g
  have js : jnS t s (cD s) (cN s) = ((pp (bndT t) cur wc).1 ++ prev, t :: ((pp (bndT t) cur wc).2 ++ base), 1, cD s, cP s, cN s, cL s, cK s, cE s) := by
    unfold jnS
    rw [hO, hW, pp_base (Or.inl (by omega))]
  rw [js] at g
  rw [tc.2.1] at hp hN
  have pr := pops_rel tc.2.2.2 wc cur mcur (WB_op hB) hPr
  rw [← tc.2.2.1] at pr
  have pv := hp.2.2.2
  rw [h96, h97, pq_app] at pv
  have w2 := WB_pp (b := bndT t) (by omega) (c := cur) hB
  have e90 : mset (mset v 97 0 (v 13 0 45) (chW t)) 13 0 45 (v 13 0 45 + 1) 90 = M 90 := by rw [ms_q (by decide), ms_q (by decide)]; exact hp.1 90 (by decide) (by decide)
  have e28 : mset (mset v 97 0 (v 13 0 45) (chW t)) 13 0 45 (v 13 0 45 + 1) 13 0 28 = M 13 0 28 := by rw [ms_f, if_neg (fun z => absurd z.2 (by decide)), ms_q (by decide)]; exact hp.2.1 28 (by decide) (by decide)
  have e29 : mset (mset v 97 0 (v 13 0 45) (chW t)) 13 0 45 (v 13 0 45 + 1) 13 0 29 = tkX (M 90 0) (M 13 0 28) p := by rw [ms_f, if_neg (fun z => absurd z.2 (by decide)), ms_q (by decide), hp.2.1 29 (by decide) (by decide)]; exact hL.2.2.1
  have g2 := nx_go hN (E := E) (by rw [e90, e28, e29]; exact g)
  rcases g2 with g2 | ⟨g2, g3⟩
  · exact Or.inl g2
  refine Or.inr ⟨_, _, t :: (pp (bndT t) cur wc).2, (pp (bndT t) cur wc).1, (pq (rkM (chW t)) mcur (wc.map chW)).1, g3, g2, by rw [if_pos rfl]; rfl, ⟨hP, hD, hLn, hK, hE⟩, Or.inl (hNn.elim id (fun z => absurd z.1 (by decide))), rfl, Or.inr ⟨tc.1, w2.2, w2.1⟩, ?_, rfl, ?_, ?_⟩
  · rw [hN.1 97 (by decide), ms_q (by decide), hN.2.1 45 (by decide) (by decide) (by decide) (by decide) (by decide) (by decide), ms_f, if_pos ⟨rfl, rfl⟩, ms_n, stk_push hp.2.2.1.2.1, hp.1 97 (by decide) (by decide), List.map_cons]
    have q := congrArg Prod.snd pv
    rw [pr.2] at q
    exact congrArg (fun z => chW t :: z) q
  · rw [hN.1 96 (by decide), ms_q (by decide), ms_q (by decide), hN.2.1 43 (by decide) (by decide) (by decide) (by decide) (by decide) (by decide), ms_f, if_neg (fun z => absurd z.2 (by decide)), ms_q (by decide)]
    exact congrArg Prod.fst pv
  · rw [if_pos rfl]
    have e : nop (t :: (pp (bndT t) cur wc).2) + 0 = nop (pp (bndT t) cur wc).2 + 1 := by
      show (if t = 16 then 0 else 1) + nop (pp (bndT t) cur wc).2 + 0 = _
      rw [if_neg (by omega)]
      omega
    rw [e]
    exact pr.1
theorem sum_close (h : SumA E base prev mprev τb dd ln kd en M a 0) (h31 : M 13 0 31 = 3) (h32 : M 13 0 32 = 41) (ha : 0 < a) {v : Mem} (hp : POP 1 M v) : 1 ≤ v 13 0 45 ∧ (NXP (mset v 13 0 45 (v 13 0 45 - 1)) M9 → FB M9 E ∨ SumA E base prev mprev τb dd ln kd en M9 (a - 1) 0) := by
  obtain ⟨s, p, wc, cur, mcur, hL, hR, hS, ⟨hP, hD, hLn, hK, hE⟩, hNn, hW, hB, h97, hO, h96, hPr⟩ := h
  rw [if_neg (by decide)] at hS hPr
  have t17 := (SV_f hL.2.2.2.2).1.2.1.mp ⟨h31, h32⟩
  obtain ⟨r, hr, hBr⟩ := WB_close (c := cur) hB ha
  have p15 := pp_15 wc cur (WB_op hB)
  have ne : (pp 1 (cur ++ prev) wc).2 ≠ [] := by
    rw [pp_out, p15, hr]
    exact fun z => by cases z
  have pw : pp 1 (cO s) (cW s) = ((pp 5 cur wc).1 ++ prev, 16 :: (r ++ base)) := by
    rw [hO, hW, pp_base (Or.inr ne), p15, hr]
    rfl
  have st : stp1 (tkT (M 90 0) (M 13 0 28) p) (tkV (M 90 0) (M 13 0 28) p) s = (0, ((pp 5 cur wc).1 ++ prev, r ++ base, cS s, cD s, cP s - 1, cN s, cL s, cK s, cE s)) := by
    rw [t17]
    unfold stp1
    rw [if_neg (by decide), if_neg (by omega), if_neg (by omega), if_neg (by decide), if_pos (by omega), if_neg (by decide), pw]
    rfl
  have g := rn_go hR (by rw [st]) (by omega)
  rw [st] at g
  have pr := pops_rel (Or.inl rfl) wc cur mcur (WB_op hB) hPr
  have e5 : (4 : Int) + 1 = 5 := rfl
  rw [e5, hr] at pr
  have pv := hp.2.2.2
  rw [h96, h97, pq_app, pr.2] at pv
  have q := congrArg Prod.snd pv
  have q : stk (M 97 0) (v 13 0 45).toNat = 40 :: r.map chW := q
  have l := congrArg List.length q
  rw [stk_len, List.length_cons] at l
  refine ⟨by omega, fun hN => ?_⟩
  have e90 : mset v 13 0 45 (v 13 0 45 - 1) 90 = M 90 := by rw [ms_q (by decide)]; exact hp.1 90 (by decide) (by decide)
  have e28 : mset v 13 0 45 (v 13 0 45 - 1) 13 0 28 = M 13 0 28 := by rw [ms_f, if_neg (fun z => absurd z.2 (by decide))]; exact hp.2.1 28 (by decide) (by decide)
  have e29 : mset v 13 0 45 (v 13 0 45 - 1) 13 0 29 = tkX (M 90 0) (M 13 0 28) p := by rw [ms_f, if_neg (fun z => absurd z.2 (by decide)), hp.2.1 29 (by decide) (by decide)]; exact hL.2.2.1
  have g2 := nx_go hN (E := E) (by rw [e90, e28, e29]; exact g)
  rcases g2 with g2 | ⟨g2, g3⟩
  · exact Or.inl g2
  refine Or.inr ⟨_, _, r, (pp 5 cur wc).1, (pq 1 mcur (wc.map chW)).1, g3, g2, by rw [if_neg (by decide)]; exact hS, ⟨by show cP s - 1 = a - 1; omega, hD, hLn, hK, hE⟩, Or.inl (hNn.elim id (fun z => absurd z.1 (by decide))), rfl, hBr, ?_, rfl, ?_, ?_⟩
  · rw [hN.1 97 (by decide), ms_q (by decide), hN.2.1 45 (by decide) (by decide) (by decide) (by decide) (by decide) (by decide), ms_f, if_pos ⟨rfl, rfl⟩, hp.1 97 (by decide) (by decide), stk_tl (by omega), q]
    rfl
  · rw [hN.1 96 (by decide), ms_q (by decide), hN.2.1 43 (by decide) (by decide) (by decide) (by decide) (by decide) (by decide), ms_f, if_neg (fun z => absurd z.2 (by decide))]
    exact congrArg Prod.fst pv
  · rw [if_neg (by decide)]
    have e : nop (16 :: r) = nop r := by
      show (if (16 : Int) = 16 then 0 else 1) + nop r = _
      rw [if_pos rfl, Nat.zero_add]
    rw [e] at pr
    exact pr.1
theorem sum_end_bad (h : SumA E base prev mprev τb dd ln kd en M a 0) (h1 : ¬ (M 13 0 31 = 3 ∧ (M 13 0 32 = 42 ∨ M 13 0 32 = 43 ∨ M 13 0 32 = 45))) (h2 : ¬ (M 13 0 31 = 3 ∧ M 13 0 32 = 41 ∧ 0 < a)) (ha : ¬ a = 0) : E.1 = 2 ∧ E.2.1 = M 13 0 30 := sum_bad h (fun s p hL hC hS hP hN => by
  rw [if_neg (by decide)] at hS
  have n27 := hL.2.1
  have cp := hC.2.1
  have c18 : ¬ (18 ≤ tkT (M 90 0) (M 13 0 28) p ∧ tkT (M 90 0) (M 13 0 28) p ≤ 20) := fun z => by
    rcases (by omega : tkT (M 90 0) (M 13 0 28) p = 18 ∨ tkT (M 90 0) (M 13 0 28) p = 19 ∨ tkT (M 90 0) (M 13 0 28) p = 20) with y | y | y
    · have := (SV_f hL.2.2.2.2).1.2.2.1.mpr y
      exact h1 ⟨this.1, Or.inr (Or.inl this.2)⟩
    · have := (SV_f hL.2.2.2.2).1.2.2.2.1.mpr y
      exact h1 ⟨this.1, Or.inr (Or.inr this.2)⟩
    · have := (SV_f hL.2.2.2.2).1.2.2.2.2.mpr y
      exact h1 ⟨this.1, Or.inl this.2⟩
  have c17 : ¬ tkT (M 90 0) (M 13 0 28) p = 17 := fun z => by
    have := (SV_f hL.2.2.2.2).1.2.1.mpr z
    exact h2 ⟨this.1, this.2, by omega⟩
  unfold stp1
  rw [if_neg n27, if_neg (by omega), if_neg (by omega), if_neg c18, if_pos (by omega), if_pos c17]) (by decide)
theorem sum_end (h : SumA E base prev mprev τb dd ln kd en M 0 0) (hb5 : topb base < 5) (h1 : ¬ (M 13 0 31 = 3 ∧ (M 13 0 32 = 42 ∨ M 13 0 32 = 43 ∨ M 13 0 32 = 45))) {v : Mem} (hp : POP 1 M v) : SumZ E base prev mprev τb dd ln kd en v := by
  obtain ⟨s, p, wc, cur, mcur, hL, hR, hS, ⟨hP, hD, hLn, hK, hE⟩, hNn, hW, hB, h97, hO, h96, hPr⟩ := h
  rw [if_neg (by decide)] at hS hPr
  have e90 := hp.1 90 (by decide) (by decide)
  have e28 := hp.2.1 28 (by decide) (by decide)
  have c18 : ¬ (18 ≤ tkT (M 90 0) (M 13 0 28) p ∧ tkT (M 90 0) (M 13 0 28) p ≤ 20) := fun z => by
    rcases (by omega : tkT (M 90 0) (M 13 0 28) p = 18 ∨ tkT (M 90 0) (M 13 0 28) p = 19 ∨ tkT (M 90 0) (M 13 0 28) p = 20) with y | y | y
    · have := (SV_f hL.2.2.2.2).1.2.2.1.mpr y
      exact h1 ⟨this.1, Or.inr (Or.inl this.2)⟩
    · have := (SV_f hL.2.2.2.2).1.2.2.2.1.mpr y
      exact h1 ⟨this.1, Or.inr (Or.inr this.2)⟩
    · have := (SV_f hL.2.2.2.2).1.2.2.2.2.mpr y
      exact h1 ⟨this.1, Or.inl this.2⟩
  have z := WB_0 (c := cur) hB
  have pr := pops_rel (Or.inl rfl) wc cur mcur (WB_op hB) hPr
  have e5 : (4 : Int) + 1 = 5 := rfl
  rw [e5, z] at pr
  have pv := hp.2.2.2
  rw [h96, h97, pq_app] at pv
  refine ⟨s, p, (pp 5 cur wc).1, (pq 1 mcur (wc.map chW)).1, LA_pop hL hp, by rw [e90, e28]; exact hR, hS, ⟨hP, hD, hLn, hK, hE⟩, hNn.elim id (fun z => absurd z.1 (by decide)), by rw [e90, e28]; exact c18, ?_, congrArg Prod.fst pv, pr.1⟩
  rw [hO, hW, pp_base (Or.inl hb5), z]
  rfl
end SUMS
