/-! ===== text: a sum, the loop (wip/gen/tx7.body) ===== -/
theorem tpe_13 {M : Mem} {k x : Int} (h1 : ¬ k = 28) (h2 : ¬ k = 29) (h3 : ¬ k = 33) (h : TPE M) : TPE (mset M 13 0 k x) := by
  have e90 : mset M 13 0 k x 90 = M 90 := ms_q (by decide)
  unfold TPE at *
  rw [e90, ms_f, if_neg (fun z => h2 z.2.symm), ms_f, if_neg (fun z => h1 z.2.symm), ms_f, if_neg (fun z => h3 z.2.symm)]
  exact h
theorem tpe_33 {M : Mem} {x : Int} (hx : 0 ≤ x) (h : TPE M) : TPE (mset M 13 0 33 x) := by
  have e90 : mset M 13 0 33 x 90 = M 90 := ms_q (by decide)
  unfold TPE at *
  rw [e90, ms_f, if_neg (fun z => absurd z.2 (by decide)), ms_f, if_neg (fun z => absurd z.2 (by decide)), ms_f, if_pos ⟨rfl, rfl⟩]
  exact ⟨h.1, h.2.1, hx⟩
theorem tpe_p {M : Mem} {q : Nat} {k x : Int} (h1 : 13 ≠ q) (h2 : 90 ≠ q) (h : TPE M) : TPE (mset M q 0 k x) := by
  unfold TPE at *
  rw [ms_q h1, ms_q h2]
  exact h
theorem tpe_pop {M v : Mem} {b : Int} (h : TPE M) (hp : POP b M v) : TPE v := by
  unfold TPE at *
  rw [hp.1 90 (by decide) (by decide), hp.2.1 28 (by decide) (by decide), hp.2.1 29 (by decide) (by decide), hp.2.1 33 (by decide) (by decide)]
  exact h
section SUML
variable {E : RSS} {base prev mprev : List Int} {τb : List Bool} {dd ln a wv on : Int} {kd en : Int → Int} {M M9 M8 v : Mem}
def NOP (M : Mem) : Prop := ¬ (M 13 0 31 = 3 ∧ (M 13 0 32 = 42 ∨ M 13 0 32 = 43 ∨ M 13 0 32 = 45))
def RSI (E : RSS) (base prev mprev : List Int) (τb : List Bool) (dd ln : Int) (kd en : Int → Int) (M M9 : Mem) (a wv on : Int) : Prop := ((∀ p, p ≠ 13 → p ≠ 96 → p ≠ 97 → M9 p = M p) ∧ (∀ j, j ≠ 29 → j ≠ 30 → j ≠ 31 → j ≠ 32 → j ≠ 33 → j ≠ 34 → j ≠ 43 → j ≠ 45 → M9 13 0 j = M 13 0 j)) ∧ TPE M9 ∧ (0 ≤ M9 13 0 43 ∧ 0 ≤ M9 13 0 45 ∧ M9 13 0 43 + M9 13 0 45 ≤ 281 ∧ M9 13 0 45 ≤ 40) ∧ (∀ j, 0 ≤ j → j < M9 13 0 45 → 0 ≤ M9 97 0 j ∧ M9 97 0 j ≤ 255) ∧ ((0 ≤ a ∧ a ≤ 7) ∧ (wv = 0 ∨ wv = 1) ∧ (on = 0 ∨ on = 1) ∧ (M9 13 0 33 = 0 → M 13 0 33 = 0 ∧ M 13 0 30 ≤ M9 13 0 30)) ∧
  (FB M9 E ∨ (on = 1 ∧ M9 13 0 33 = 0 ∧ a ≤ 6 ∧ SumA E base prev mprev τb dd ln kd en M9 a wv) ∨ (on = 0 ∧ M9 13 0 33 = 0 ∧ a = 0 ∧ wv = 0 ∧ NOP M9 ∧ SumA E base prev mprev τb dd ln kd en M9 0 0))
def RSM (M9 : Mem) (on : Int) : Nat := (2000 - 4 * M9 13 0 30 + on + (if M9 13 0 33 = 0 then 2 else 0)).toNat
theorem sum_lt (h : SumA E base prev mprev τb dd ln kd en M a wv) (h0 : ¬ M 13 0 31 = 0) : M 13 0 30 < M 13 0 29 ∧ 0 ≤ M 13 0 30 := by
  obtain ⟨s, p, wc, cur, mcur, hL, hR, hS, -⟩ := h
  have t26 : ¬ tkT (M 90 0) (M 13 0 28) p = 26 := fun z => h0 ((SV_f hL.2.2.2.2).2.2.2.2.2.2.1.mpr z)
  have ti := tkn_in (T := M 90 0) (u := M 13 0 28) (p := p) hR.2.1.2
  have t := ti.2.2.2.1 t26
  have l := hR.2.1
  rw [hL.2.2.1, hL.2.2.2.1]
  omega
theorem sum_0 (h : SumA E base prev mprev τb dd ln kd en M a wv) : M 13 0 33 = 0 := by
  obtain ⟨s, p, wc, cur, mcur, hL, -⟩ := h
  exact hL.1
theorem rsi_nx {b wv2 : Int} (hR : RSI E base prev mprev τb dd ln kd en M M9 a wv 1) (h33 : M9 13 0 33 = 0) (hlt : M9 13 0 30 < M9 13 0 29 ∧ 0 ≤ M9 13 0 30) (f1 : ∀ p, p ≠ 13 → p ≠ 96 → p ≠ 97 → M8 p = M9 p) (f2 : ∀ j, j ≠ 43 → j ≠ 45 → M8 13 0 j = M9 13 0 j) (bd : 0 ≤ M8 13 0 43 ∧ 0 ≤ M8 13 0 45 ∧ M8 13 0 43 + M8 13 0 45 ≤ 281 ∧ M8 13 0 45 ≤ 40) (hw : ∀ j, 0 ≤ j → j < M8 13 0 45 → 0 ≤ M8 97 0 j ∧ M8 97 0 j ≤ 255) (hN : NXP M8 v) (hA : FB v E ∨ SumA E base prev mprev τb dd ln kd en v b wv2) (hb : 0 ≤ b ∧ b ≤ 6) (h2 : wv2 = 0 ∨ wv2 = 1) : RSI E base prev mprev τb dd ln kd en M v b wv2 1 ∧ RSM v 1 < RSM M9 1 := by
  obtain ⟨⟨r1, r2⟩, rT, -, -, ⟨-, -, -, r30⟩, -⟩ := hR
  have r30 := r30 h33
  have e28 := f2 28 (by decide) (by decide)
  have e29 := f2 29 (by decide) (by decide)
  have e33 := f2 33 (by decide) (by decide)
  have e90 := f1 90 (by decide) (by decide) (by decide)
  have T8 : TPE M8 := by
    unfold TPE at *
    rw [e28, e29, e33, e90]
    exact rT
  have Tv := nx_tpe T8 hN
  have e43 := hN.2.1 43 (by decide) (by decide) (by decide) (by decide) (by decide) (by decide)
  have e45 := hN.2.1 45 (by decide) (by decide) (by decide) (by decide) (by decide) (by decide)
  refine ⟨⟨⟨fun p p1 p2 p3 => ?_, fun j j1 j2 j3 j4 j5 j6 j7 j8 => ?_⟩, Tv, by rw [e43, e45]; exact bd, ?_, ⟨by omega, h2, Or.inr rfl, ?_⟩, ?_⟩, ?_⟩
  · rw [hN.1 p p1, f1 p p1 p2 p3, r1 p p1 p2 p3]
  · rw [hN.2.1 j j1 j2 j3 j4 j5 j6, f2 j j7 j8, r2 j j1 j2 j3 j4 j5 j6 j7 j8]
  · rw [e45, hN.1 97 (by decide)]
    exact hw
  · have ti := tkn_in (T := M8 90 0) (u := M8 13 0 28) (p := M8 13 0 29) T8.1.2.1
    have e30 := hN.2.2.1.2
    exact fun _ => ⟨r30.1, by omega⟩
  · rcases hA with z | z
    · exact Or.inl z
    · exact Or.inr (Or.inl ⟨rfl, sum_0 z, hb.2, z⟩)
  · have ti := tkn_in (T := M8 90 0) (u := M8 13 0 28) (p := M8 13 0 29) T8.1.2.1
    have e30 := hN.2.2.1.2
    have u := T8.1
    unfold RSM
    rw [if_pos h33]
    split <;> omega
theorem rsi_f {b wv2 on2 : Int} (hR : RSI E base prev mprev τb dd ln kd en M M9 a wv 1) (h33 : M9 13 0 33 = 0) (f1 : ∀ p, p ≠ 13 → p ≠ 96 → p ≠ 97 → M8 p = M9 p) (f2 : ∀ j, j ≠ 33 → j ≠ 34 → j ≠ 43 → j ≠ 45 → M8 13 0 j = M9 13 0 j) (bd : 0 ≤ M8 13 0 43 ∧ 0 ≤ M8 13 0 45 ∧ M8 13 0 43 + M8 13 0 45 ≤ 281 ∧ M8 13 0 45 ≤ 40) (hw : ∀ j, 0 ≤ j → j < M8 13 0 45 → 0 ≤ M8 97 0 j ∧ M8 97 0 j ≤ 255) (hf : 0 < M8 13 0 33) (hE : E.1 = M8 13 0 33 ∧ E.2.1 = M8 13 0 34) (hb : 0 ≤ b ∧ b ≤ 7) (h2 : wv2 = 0 ∨ wv2 = 1) (h3 : on2 = 0 ∨ on2 = 1) (h30 : M9 13 0 30 ≤ 240) : RSI E base prev mprev τb dd ln kd en M M8 b wv2 on2 ∧ RSM M8 on2 < RSM M9 1 := by
  obtain ⟨⟨r1, r2⟩, rT, -⟩ := hR
  have e28 := f2 28 (by decide) (by decide) (by decide) (by decide)
  have e29 := f2 29 (by decide) (by decide) (by decide) (by decide)
  have e30 := f2 30 (by decide) (by decide) (by decide) (by decide)
  have e90 := f1 90 (by decide) (by decide) (by decide)
  refine ⟨⟨⟨fun p p1 p2 p3 => ?_, fun j j1 j2 j3 j4 j5 j6 j7 j8 => ?_⟩, ?_, bd, hw, ⟨hb, h2, h3, fun z => absurd z (by omega)⟩, Or.inl ⟨hf, hE.1.symm, hE.2.symm⟩⟩, ?_⟩
  · rw [f1 p p1 p2 p3, r1 p p1 p2 p3]
  · rw [f2 j j5 j6 j7 j8, r2 j j1 j2 j3 j4 j5 j6 j7 j8]
  · unfold TPE at *
    rw [e28, e29, e90]
    exact ⟨rT.1, rT.2.1, by omega⟩
  · unfold RSM
    rw [if_pos h33, if_neg (by omega), e30]
    omega
/-- how a sum begins -/
def SumS (E : RSS) (base prev mprev : List Int) (τb : List Bool) (dd ln : Int) (kd en : Int → Int) (M : Mem) : Prop := ∃ s p cur mcur, LAo M p ∧ RN (M 90 0) (M 13 0 28) E s p ∧ cS s = 1 ∧ (cP s = 0 ∧ cD s = dd ∧ cL s = ln ∧ cK s = kd ∧ cE s = en) ∧ (cN s = 0 ∨ ¬ tkT (M 90 0) (M 13 0 28) p = 6) ∧ cW s = base ∧ cO s = cur ++ prev ∧ stk (M 96 0) (M 13 0 43).toNat = mcur ++ mprev ∧ Pre cur mcur false τb
theorem sum_s (h : SumS E base prev mprev τb dd ln kd en M) : SumA E base prev mprev τb dd ln kd en (mset M 13 0 45 0) 0 1 := by
  obtain ⟨s, p, cur, mcur, hL, hR, hS, hP, hN, hW, hO, h96, hPr⟩ := h
  have e90 : mset M 13 0 45 0 90 = M 90 := ms_q (by decide)
  have e96 : mset M 13 0 45 0 96 = M 96 := ms_q (by decide)
  have ef : ∀ j, ¬ j = 45 → mset M 13 0 45 0 13 0 j = M 13 0 j := fun j hj => by rw [ms_f, if_neg (fun z => hj z.2)]
  have e45 : mset M 13 0 45 0 13 0 45 = 0 := by rw [ms_f, if_pos ⟨rfl, rfl⟩]
  refine ⟨s, p, [], cur, mcur, ?_, ?_, by rw [if_pos rfl]; exact hS, hP, ?_, hW, rfl, by rw [e45]; rfl, hO, ?_, hPr⟩
  · unfold LAo at *
    rw [e90, ef 28 (by decide), ef 29 (by decide), ef 30 (by decide), ef 31 (by decide), ef 32 (by decide), ef 33 (by decide)]
    exact hL
  · rw [e90, ef 28 (by decide)]
    exact hR
  · rw [e90, ef 28 (by decide)]
    exact hN.elim Or.inl (fun z => Or.inr ⟨rfl, z⟩)
  · rw [e96, ef 43 (by decide)]
    exact h96
end SUML
