/-! ===== text: a line (wip/gen/txC.body) ===== -/
theorem LN_len {kd en mk mb : Int → Int} : ∀ (z : Nat) {c m : List Int}, LN kd en mk mb z c m → m.length ≤ c.length
  | 0, c, m, h => by rw [h.2]; exact Nat.zero_le _
  | z + 1, c, m, h => by
    obtain ⟨cur, mcur, prev, mprev, τ, rfl, rfl, h1, h2, -⟩ := h
    have a := LN_len z h1
    have b := Pre_len h2
    simp only [List.length_append]
    omega
theorem LN_cg {kd en mk mb kd' en' mk' mb' : Int → Int} : ∀ (z : Nat) {c m : List Int}, (∀ i : Int, 0 ≤ i → i < (z : Int) → kd' i = kd i ∧ en' i = en i ∧ mk' i = mk i ∧ mb' i = mb i) → (0 < z → mb' (z : Int) = mb (z : Int)) → LN kd en mk mb z c m → LN kd' en' mk' mb' z c m
  | 0, c, m, _, _, h => h
  | z + 1, c, m, hi, hz, h => by
    obtain ⟨cur, mcur, prev, mprev, τ, h1, h2, h3, h4, h5, h6, h7, h8, h9, h10⟩ := h
    have q := hi (z : Int) (by omega) (by omega)
    have hz := hz (Nat.succ_pos z)
    have ez : ((z + 1 : Nat) : Int) = (z : Int) + 1 := by omega
    rw [ez] at hz
    refine ⟨cur, mcur, prev, mprev, τ, h1, h2, LN_cg z (fun i a b => hi i a (by omega)) (fun _ => q.2.2.2) h3, h4, h5, ?_, ?_, ?_, ?_, ?_⟩
    · rw [q.2.1]; exact h6
    · rw [q.2.2.2]; exact h7
    · rw [hz]; exact h8
    · rw [q.2.2.1, q.1]; exact h9
    · rw [q.1]; exact h10
theorem LN_last {kd en mk mb : Int → Int} : ∀ (z : Nat) {c m : List Int}, LN kd en mk mb z c m → 0 < z → mb (z : Int) = (m.length : Int)
  | 0, c, m, _, h => absurd h (by omega)
  | z + 1, c, m, h, _ => by
    obtain ⟨cur, mcur, prev, mprev, τ, h1, h2, h3, h4, h5, h6, h7, h8, h9, h10⟩ := h
    have ez : ((z + 1 : Nat) : Int) = (z : Int) + 1 := by omega
    rw [ez]
    exact h8
def LinZ (E : RSS) (M : Mem) : Prop := ∃ s p, LAo M p ∧ RN (M 90 0) (M 13 0 28) E s p ∧ cS s = 0 ∧ cP s = 0 ∧ cW s = [] ∧ cL s = M 13 0 39 ∧ LN (cK s) (cE s) (M 94 0) (M 95 0) (M 13 0 39).toNat (cO s) (stk (M 96 0) (M 13 0 43).toNat)
def LCx (M v : Mem) (kind : Int) (kd en kd' : Int → Int) (prev mprev : List Int) : Prop := LN kd en (M 94 0) (M 95 0) (M 13 0 39).toNat prev mprev ∧ v 94 0 = updI (M 94 0) (M 13 0 39) kind ∧ v 95 0 = updI (M 95 0) (M 13 0 39) (mprev.length : Int) ∧ kd' = updI kd (M 13 0 39) kind ∧ (0 ≤ kind ∧ kind ≤ 3) ∧ v 13 0 39 = M 13 0 39 ∧ (0 ≤ M 13 0 39 ∧ M 13 0 39 < 12)
abbrev FRL (M M9 : Mem) : Prop := (∀ p, p ≠ 13 → p ≠ 94 → p ≠ 95 → p ≠ 96 → p ≠ 97 → M9 p = M p) ∧ (∀ j, j ≠ 29 → j ≠ 30 → j ≠ 31 → j ≠ 32 → j ≠ 33 → j ≠ 34 → j ≠ 39 → j ≠ 43 → j ≠ 45 → M9 13 0 j = M 13 0 j)
theorem FRL.trans {M M1 M2 : Mem} (h1 : FRL M M1) (h2 : FRL M1 M2) : FRL M M2 := ⟨fun p a b c d e => (h2.1 p a b c d e).trans (h1.1 p a b c d e), fun j a b c d e f g h i => (h2.2 j a b c d e f g h i).trans (h1.2 j a b c d e f g h i)⟩
theorem frl_t {M M9 : Mem} (h : FRT M M9) : FRL M M9 := ⟨fun p a b c d e => h.1 p a d e, fun j a b c d e f g k l => h.2 j a b c d e f k l⟩
theorem frl_k {M : Mem} {i x y : Int} : FRL M (mset (mset M 94 0 i x) 95 0 i y) := ⟨fun p a b c d e => by rw [ms_q c, ms_q b], fun j a b c d e f g k l => by rw [ms_q (by decide), ms_q (by decide)]⟩
theorem frl_l {M : Mem} {x i y : Int} : FRL M (mset (mset M 13 0 39 x) 95 0 i y) := ⟨fun p a b c d e => by rw [ms_q c, ms_q a], fun j a b c d e f g k l => by rw [ms_q (by decide), ms_f, if_neg (fun z => g z.2)]⟩
section LINS
variable {E : RSS} {prev mprev : List Int} {kind cd : Int} {τ : List Bool} {kd en kd' : Int → Int} {M M9 v w x : Mem}
abbrev EndZ (E : RSS) (cd : Int) (τ : List Bool) (prev mprev : List Int) (z : Int) (kd' en : Int → Int) (v : Mem) : Prop := (cd = 0 ∨ cd = 2) ∧ τ.length = 1 ∧ MidZ 1 cd E [] prev mprev τ z kd' en (fun t => cd = 2 → ¬ t = 5 ∧ ¬ t = 4) v
theorem end_s {z : Int} (h : SumZ E [] prev mprev [] 0 z kd' en v) : EndZ E 0 [false] prev mprev z kd' en v := by
  obtain ⟨s, p, cur, mcur, hL, hR, hS, hD, hNn, h18, hpp, h96, hPr⟩ := h
  exact ⟨Or.inl rfl, rfl, s, p, cur, mcur, hL, hR, hS, hD, ⟨h18, fun z => absurd z (by decide)⟩, pp_low (by decide) hpp (by decide), h96, hPr⟩
theorem end_t {z : Int} (h : TstZ E prev mprev z kd' en v) : EndZ E 2 [true] prev mprev z kd' en v := ⟨Or.inr rfl, rfl, mid_f h (fun t _ q _ => q)⟩
theorem lin_0 (h : LinZ E M) : M 13 0 33 = 0 := by
  obtain ⟨s, p, hL, -⟩ := h
  exact hL.1
theorem lin_bad2 (h : LinZ E M) (h0 : ¬ M 13 0 31 = 0) (hb : ¬ (M 13 0 31 = 1 ∧ (0 ≤ M 13 0 32 ∧ M 13 0 32 ≤ 3))) : E.1 = 2 ∧ E.2.1 = M 13 0 30 := by
  obtain ⟨s, p, hL, hR, hS, hP, hW, hLn, hLN⟩ := h
  have t26 : ¬ tkT (M 90 0) (M 13 0 28) p = 26 := fun z => h0 ((SV_f hL.2.2.2.2).2.2.2.2.2.2.1.mpr z)
  have t3 : ¬ (0 ≤ tkT (M 90 0) (M 13 0 28) p ∧ tkT (M 90 0) (M 13 0 28) p ≤ 3) := fun z => hb ((SV_f hL.2.2.2.2).2.2.2.2.2.2.2.2.2.2.2.1.mpr z)
  have ti := tkT_in (T := M 90 0) (u := M 13 0 28) (p := p)
  have st : (stp1 (tkT (M 90 0) (M 13 0 28) p) (tkV (M 90 0) (M 13 0 28) p) s).1 = 2 := by
    unfold stp1
    rw [if_neg hL.2.1, if_pos hS, if_neg t26, if_pos (by omega)]
  have b := rn_bad hR (by rw [st]; decide)
  rw [st] at b
  rw [hL.2.2.2.1]
  exact b
theorem lin_bad4 (h : LinZ E M) (hb : M 13 0 31 = 1 ∧ (0 ≤ M 13 0 32 ∧ M 13 0 32 ≤ 3)) (h12 : ¬ M 13 0 39 < 12) : E.1 = 4 ∧ E.2.1 = M 13 0 30 := by
  obtain ⟨s, p, hL, hR, hS, hP, hW, hLn, hLN⟩ := h
  have t3 := (SV_f hL.2.2.2.2).2.2.2.2.2.2.2.2.2.2.2.1.mp hb
  have st : (stp1 (tkT (M 90 0) (M 13 0 28) p) (tkV (M 90 0) (M 13 0 28) p) s).1 = 4 := by
    unfold stp1
    rw [if_neg hL.2.1, if_pos hS, if_neg (by omega), if_neg (by omega), if_pos (by omega)]
  have b := rn_bad hR (by rw [st]; decide)
  rw [st] at b
  rw [hL.2.2.2.1]
  exact b
/-- the line's name: on to its sum or test -/
theorem lin_go (hT : TPE M) (h : LinZ E M) (hb : M 13 0 31 = 1 ∧ (0 ≤ M 13 0 32 ∧ M 13 0 32 ≤ 3)) (h12 : 0 ≤ M 13 0 39 ∧ M 13 0 39 < 12) (h43 : 0 ≤ M 13 0 43 ∧ M 13 0 43 ≤ 240) (hN : NXP (mset (mset M 94 0 (M 13 0 39) (M 13 0 32)) 95 0 (M 13 0 39) (M 13 0 43)) w) : ∃ kd en kd' prev mprev, LCx M w (M 13 0 32) kd en kd' prev mprev ∧ mprev.length ≤ prev.length ∧ FRL M w ∧ TPE w ∧ (0 ≤ w 13 0 43 ∧ w 13 0 43 ≤ 240) ∧ ((M 13 0 32 = 1 ∨ M 13 0 32 = 2) → FB w E ∨ SumS E [] prev mprev [] 0 (M 13 0 39) kd' en w) ∧ (¬ (M 13 0 32 = 1 ∨ M 13 0 32 = 2) → FB w E ∨ NotS E [] prev mprev [] (M 13 0 39) kd' en 0 w) := by
  obtain ⟨s, p, hL, hR, hS, hP, hW, hLn, hLN⟩ := h
  have t3 := (SV_f hL.2.2.2.2).2.2.2.2.2.2.2.2.2.2.2.1.mp hb
  have tv := (SV_f hL.2.2.2.2).2.2.2.2.2.2.2.2.2.2.2.2.2.1 hb.1 t3.1 (by omega)
  have st : stp1 (tkT (M 90 0) (M 13 0 28) p) (tkV (M 90 0) (M 13 0 28) p) s = (0, (cO s, cW s, 1, (if M 13 0 32 = 0 ∨ M 13 0 32 = 3 then 1 else 0), cP s, (if M 13 0 32 = 0 ∨ M 13 0 32 = 3 then 1 else 0), cL s, updI (cK s) (cL s) (M 13 0 32), cE s)) := by
    rw [tv]
    unfold stp1
    rw [if_neg (by omega), if_pos hS, if_neg (by omega), if_neg (by omega), if_neg (by omega)]
  have g := rn_go hR (by rw [st]) (by omega)
  rw [st] at g
  obtain ⟨M1, hM1⟩ : ∃ M1, M1 = mset (mset M 94 0 (M 13 0 39) (M 13 0 32)) 95 0 (M 13 0 39) (M 13 0 43) := ⟨_, rfl⟩
  have e13 : M1 13 = M 13 := by rw [hM1, ms_q (by decide), ms_q (by decide)]
  have e90 : M1 90 = M 90 := by rw [hM1, ms_q (by decide), ms_q (by decide)]
  have e96 : M1 96 = M 96 := by rw [hM1, ms_q (by decide), ms_q (by decide)]
  have e94 : M1 94 0 = updI (M 94 0) (M 13 0 39) (M 13 0 32) := by rw [hM1, ms_q (by decide), ms_n]
  have e95 : M1 95 0 = updI (M 95 0) (M 13 0 39) (M 13 0 43) := by rw [hM1, ms_n, ms_q (by decide)]
  have f1 : FRL M M1 := by rw [hM1]; exact frl_k
  rw [← hM1] at hN
  have T1 : TPE M1 := by
    unfold TPE at *
    rw [e13, e90]
    exact hT
  have g2 := nx_go hN (E := E) (by rw [e90, e13, hL.2.2.1]; exact g)
  have w43 := hN.2.1 43 (by decide) (by decide) (by decide) (by decide) (by decide) (by decide)
  have w39 := hN.2.1 39 (by decide) (by decide) (by decide) (by decide) (by decide) (by decide)
  rw [e13] at w43 w39
  have h96 : stk (w 96 0) (w 13 0 43).toNat = stk (M 96 0) (M 13 0 43).toNat := by rw [hN.1 96 (by decide), e96, w43]
  refine ⟨cK s, cE s, updI (cK s) (M 13 0 39) (M 13 0 32), cO s, stk (M 96 0) (M 13 0 43).toNat, ⟨hLN, by rw [hN.1 94 (by decide)]; exact e94, by rw [hN.1 95 (by decide), e95, stk_len, Int.toNat_of_nonneg h43.1], rfl, hb.2, w39, h12⟩, LN_len _ hLN, f1.trans (frl_t (frt_nx hN)), nx_tpe T1 hN, by omega, fun hk => ?_, fun hk => ?_⟩
  · rcases g2 with g2 | ⟨g2, g3⟩
    · exact Or.inl g2
    · rw [if_neg (by omega)] at g2
      exact Or.inr ⟨_, _, [], [], g3, g2, rfl, ⟨hP, rfl, hLn, by rw [← hLn]; rfl, rfl⟩, Or.inl rfl, hW, rfl, h96, ⟨rfl, rfl, rfl⟩⟩
  · rcases g2 with g2 | ⟨g2, g3⟩
    · exact Or.inl g2
    · rw [if_pos (by omega)] at g2
      exact Or.inr ⟨_, _, [], [], g3, g2, rfl, ⟨hP, rfl, hLn, by rw [← hLn]; rfl, rfl⟩, rfl, hW, rfl, h96, ⟨rfl, rfl, rfl⟩⟩
abbrev POSTL (E : RSS) (M M9 : Mem) : Prop := FRL M M9 ∧ TPE M9 ∧ (0 ≤ M9 13 0 43 ∧ M9 13 0 43 ≤ 285) ∧ (0 ≤ M9 13 0 39 ∧ M9 13 0 39 ≤ 12) ∧ (FB M9 E ∨ (LinZ E M9 ∧ M9 13 0 39 = M 13 0 39 + 1 ∧ M9 13 0 43 ≤ 240))
theorem post_f {x : Int} (hT : TPE M) (h43 : 0 ≤ M 13 0 43 ∧ M 13 0 43 ≤ 240) (h39 : 0 ≤ M 13 0 39 ∧ M 13 0 39 ≤ 12) (hx : 0 < x) (h : E.1 = x ∧ E.2.1 = M 13 0 30) : POSTL E M (mset (mset M 13 0 33 x) 13 0 34 (M 13 0 30)) := by
  refine ⟨frl_t frt_f, tpe_f (by omega) hT, ?_, ?_, Or.inl (fb_f hx h)⟩
  · simp (disch := decide) only [ms_q, ms_f, true_and, and_true, Int.reduceEq, if_true, if_false, reduceIte]
    omega
  · simp (disch := decide) only [ms_q, ms_f, true_and, and_true, Int.reduceEq, if_true, if_false, reduceIte]
    exact h39
/-- the line's last words where something is wrong already -/
theorem end_fb (hf : FRL M v) (hT : TPE v) (h43 : 0 ≤ v 13 0 43 ∧ v 13 0 43 ≤ 285) (h39 : v 13 0 39 = M 13 0 39 ∧ (0 ≤ M 13 0 39 ∧ M 13 0 39 < 12)) (h : FB v E) : POSTL E M (mset (mset v 13 0 39 (v 13 0 39 + 1)) 95 0 (v 13 0 39 + 1) (v 13 0 43)) := by
  refine ⟨hf.trans frl_l, tpe_p (by decide) (by decide) (tpe_13 (by decide) (by decide) (by decide) hT), ?_, ?_, Or.inl ?_⟩
  · simp (disch := decide) only [ms_q, ms_f, true_and, and_true, Int.reduceEq, if_true, if_false, reduceIte]
    omega
  · simp (disch := decide) only [ms_q, ms_f, true_and, and_true, Int.reduceEq, if_true, if_false, reduceIte]
    omega
  · unfold FB at *
    simp (disch := decide) only [ms_q, ms_f, true_and, and_true, Int.reduceEq, if_true, if_false, reduceIte]
    exact h
theorem end_bad {z : Int} (h : EndZ E cd τ prev mprev z kd' en v) (hb : ¬ (v 13 0 31 = 3 ∧ v 13 0 32 = 59)) : E.1 = 2 ∧ E.2.1 = v 13 0 30 := by
  obtain ⟨hc, -, s, p, cur, mcur, hL, hR, hS, ⟨hP, hD, -⟩, ⟨h18, hf⟩, -⟩ := h
  have t24 : ¬ tkT (v 90 0) (v 13 0 28) p = 24 := fun z => hb ((SV_f hL.2.2.2.2).2.2.2.2.1.mpr z)
  have st : (stp1 (tkT (v 90 0) (v 13 0 28) p) (tkV (v 90 0) (v 13 0 28) p) s).1 = 2 := by
    unfold stp1
    rw [if_neg hL.2.1, if_neg (by omega), if_neg (by omega), if_neg h18, if_neg (by omega), if_neg (by omega), if_neg (fun y => by have q := hf (by omega); omega), if_neg (by omega)]
  have b := rn_bad hR (by rw [st]; decide)
  rw [st] at b
  rw [hL.2.2.2.1]
  exact b
theorem end_ok (hC : LCx M v kind kd en kd' prev mprev) (hf : FRL M v) (hT : TPE v) (hml : mprev.length ≤ prev.length) (h43 : 0 ≤ v 13 0 43) (h : EndZ E cd τ prev mprev (M 13 0 39) kd' en v) (h31 : v 13 0 31 = 3) (h32 : v 13 0 32 = 59) (hN : NXP v w) : POSTL E M (mset (mset w 13 0 39 (w 13 0 39 + 1)) 95 0 (w 13 0 39 + 1) (w 13 0 43)) := by
  obtain ⟨hLN, k94, k95, kkd, krg, k39, kz⟩ := hC
  obtain ⟨hc, hτ, hmid⟩ := h
  have b43 := (mid_b hT hmid hml h43).2.1
  obtain ⟨s, p, cur, mcur, hL, hR, hS, ⟨hP, hD, hLn, hK, hE⟩, ⟨h18, -⟩, hpp, h96, hPr⟩ := hmid
  have t24 := (SV_f hL.2.2.2.2).2.2.2.2.1.mp ⟨h31, h32⟩
  have st : stp1 (tkT (v 90 0) (v 13 0 28) p) (tkV (v 90 0) (v 13 0 28) p) s = (0, (cur ++ prev, [], 0, cD s, cP s, cN s, cL s + 1, cK s, updI (cE s) (cL s) (((cur ++ prev).length : Nat) : Int))) := by
    rw [t24]
    unfold stp1
    rw [if_neg (by decide), if_neg (by omega), if_neg (by omega), if_neg (by decide), if_neg (by omega), if_neg (by omega), if_neg (by omega), if_pos ⟨rfl, by omega⟩, hpp]
  have g := rn_go hR (by rw [st]) (by omega)
  rw [st] at g
  have g2 := nx_go hN (E := E) (by rw [hL.2.2.1]; exact g)
  have e43 := hN.2.1 43 (by decide) (by decide) (by decide) (by decide) (by decide) (by decide)
  have e39 := hN.2.1 39 (by decide) (by decide) (by decide) (by decide) (by decide) (by decide)
  have T2 := nx_tpe hT hN
  have f2 := hf.trans (frl_t (frt_nx hN))
  rcases g2 with g2 | ⟨g2, g3⟩
  · exact end_fb f2 T2 (by omega) ⟨by omega, kz⟩ g2
  refine ⟨f2.trans frl_l, tpe_p (by decide) (by decide) (tpe_13 (by decide) (by decide) (by decide) T2), ?_, ?_, Or.inr ⟨⟨(cur ++ prev, [], 0, cD s, cP s, cN s, cL s + 1, cK s, updI (cE s) (cL s) (((cur ++ prev).length : Nat) : Int)), _, LAo_cg (by rw [ms_q (by decide), ms_q (by decide)]) (fun j hj => by rw [ms_q (by decide), ms_f, if_neg (by omega)]) g3, ?_, ?_, ?_, ?_, ?_, ?_⟩, ?_, ?_⟩⟩
  · simp (disch := decide) only [ms_q, ms_f, true_and, and_true, Int.reduceEq, if_true, if_false, reduceIte]
    omega
  · simp (disch := decide) only [ms_q, ms_f, true_and, and_true, Int.reduceEq, if_true, if_false, reduceIte]
    omega
  · rw [ms_q (by decide), ms_q (by decide), ms_q (by decide), ms_f, if_neg (by omega)]
    exact g2
  · rfl
  · exact hP
  · rfl
  · show cL s + 1 = _
    simp (disch := decide) only [ms_q, ms_f, true_and, and_true, Int.reduceEq, if_true, if_false, reduceIte]
    omega
  · have z39 : mset (mset w 13 0 39 (w 13 0 39 + 1)) 95 0 (w 13 0 39 + 1) (w 13 0 43) 13 0 39 = M 13 0 39 + 1 := by
      simp (disch := decide) only [ms_q, ms_f, true_and, and_true, Int.reduceEq, if_true, if_false, reduceIte]
      omega
    have z43 : mset (mset w 13 0 39 (w 13 0 39 + 1)) 95 0 (w 13 0 39 + 1) (w 13 0 43) 13 0 43 = v 13 0 43 := by
      simp (disch := decide) only [ms_q, ms_f, true_and, and_true, Int.reduceEq, if_true, if_false, reduceIte]
      exact e43
    have z94 : mset (mset w 13 0 39 (w 13 0 39 + 1)) 95 0 (w 13 0 39 + 1) (w 13 0 43) 94 0 = updI (M 94 0) (M 13 0 39) kind := by
      rw [ms_q (by decide), ms_q (by decide), hN.1 94 (by decide)]
      exact k94
    have z96 : mset (mset w 13 0 39 (w 13 0 39 + 1)) 95 0 (w 13 0 39 + 1) (w 13 0 43) 96 0 = v 96 0 := by
      rw [ms_q (by decide), ms_q (by decide), hN.1 96 (by decide)]
    have z95 : mset (mset w 13 0 39 (w 13 0 39 + 1)) 95 0 (w 13 0 39 + 1) (w 13 0 43) 95 0 = updI (updI (M 95 0) (M 13 0 39) (mprev.length : Int)) (M 13 0 39 + 1) (v 13 0 43) := by
      rw [ms_n, ms_q (by decide), hN.1 95 (by decide), k95, e39, k39, e43]
    have l43 := congrArg List.length h96
    rw [stk_len] at l43
    rw [z39, z43, z94, z96, z95, h96]
    show LN (cK s) (updI (cE s) (cL s) _) _ _ _ (cur ++ prev) (mcur ++ mprev)
    rw [hK, hE, hLn]
    have ez : (M 13 0 39 + 1).toNat = (M 13 0 39).toNat + 1 := by omega
    have ec : (((M 13 0 39).toNat : Nat) : Int) = M 13 0 39 := by omega
    rw [ez]
    refine ⟨cur, mcur, prev, mprev, τ, rfl, rfl, ?_, hPr, hτ, ?_, ?_, ?_, ?_, ?_⟩
    · refine LN_cg _ (fun i a b => ?_) (fun hz => ?_) hLN
      · rw [ec] at b
        rw [kkd]
        refine ⟨by rw [updI_f, if_neg (by omega)], by rw [updI_f, if_neg (by omega)], by rw [updI_f, if_neg (by omega)], by rw [updI_f, if_neg (by omega), updI_f, if_neg (by omega)]⟩
      · have q := LN_last _ hLN hz
        rw [ec] at q ⊢
        rw [updI_f, if_neg (by omega), updI_f, if_pos rfl]
        exact q.symm
    · rw [ec, updI_f, if_pos rfl]
    · rw [ec, updI_f, if_neg (by omega), updI_f, if_pos rfl]
    · rw [ec, updI_f, if_pos rfl]
      omega
    · rw [ec, kkd, updI_f, if_pos rfl, updI_f, if_pos rfl]
    · rw [ec, kkd, updI_f, if_pos rfl]
      exact krg
  · simp (disch := decide) only [ms_q, ms_f, true_and, and_true, Int.reduceEq, if_true, if_false, reduceIte]
    omega
  · simp (disch := decide) only [ms_q, ms_f, true_and, and_true, Int.reduceEq, if_true, if_false, reduceIte]
    omega
theorem lcx_t (h : LCx M v kind kd en kd' prev mprev) (hf : FRT v x) : LCx M x kind kd en kd' prev mprev := ⟨h.1, by rw [hf.1 94 (by decide) (by decide) (by decide)]; exact h.2.1, by rw [hf.1 95 (by decide) (by decide) (by decide)]; exact h.2.2.1, h.2.2.2.1, h.2.2.2.2.1, (hf.2 39 (by decide) (by decide) (by decide) (by decide) (by decide) (by decide) (by decide) (by decide)).trans h.2.2.2.2.2.1, h.2.2.2.2.2.2⟩
theorem end_0 {z : Int} (h : EndZ E cd τ prev mprev z kd' en v) : v 13 0 33 = 0 := by
  obtain ⟨-, -, s, p, cur, mcur, hL, -⟩ := h
  exact hL.1
/-- what the line's end is met with -/
abbrev LEnd (E : RSS) (M : Mem) (x : Mem) : Prop := ∃ cd τ kd en kd' prev mprev kind, LCx M x kind kd en kd' prev mprev ∧ mprev.length ≤ prev.length ∧ FRL M x ∧ TPE x ∧ (0 ≤ x 13 0 43 ∧ x 13 0 43 ≤ 285) ∧ (FB x E ∨ EndZ E cd τ prev mprev (M 13 0 39) kd' en x)
theorem le_1 (h : LEnd E M x) : TPE x ∧ (0 ≤ x 13 0 43 ∧ x 13 0 43 ≤ 285) ∧ x 13 0 39 = M 13 0 39 ∧ (0 ≤ M 13 0 39 ∧ M 13 0 39 < 12) := by
  obtain ⟨cd, τ, kd, en, kd', prev, mprev, kind, hC, hml, hF, hT, h43, hS⟩ := h
  exact ⟨hT, h43, hC.2.2.2.2.2.1, hC.2.2.2.2.2.2⟩
theorem le_fb (h : LEnd E M x) (hf : ¬ x 13 0 33 = 0) : POSTL E M (mset (mset x 13 0 39 (x 13 0 39 + 1)) 95 0 (x 13 0 39 + 1) (x 13 0 43)) := by
  obtain ⟨cd, τ, kd, en, kd', prev, mprev, kind, hC, hml, hF, hT, h43, hS⟩ := h
  exact end_fb hF hT h43 ⟨hC.2.2.2.2.2.1, hC.2.2.2.2.2.2⟩ (hS.resolve_right (fun q => hf (end_0 q)))
theorem le_bad (h : LEnd E M x) (h0 : x 13 0 33 = 0) (hb : ¬ (x 13 0 31 = 3 ∧ x 13 0 32 = 59)) (e39 : v 13 0 39 = x 13 0 39) (e43 : v 13 0 43 = x 13 0 43) (ev : v = mset (mset x 13 0 33 2) 13 0 34 (x 13 0 30)) : POSTL E M (mset (mset v 13 0 39 (v 13 0 39 + 1)) 95 0 (v 13 0 39 + 1) (v 13 0 43)) := by
  obtain ⟨cd, τ, kd, en, kd', prev, mprev, kind, hC, hml, hF, hT, h43, hS⟩ := h
  have q := hS.resolve_left (fun z => absurd z.1 (by omega))
  have b := end_bad q hb
  exact end_fb (hF.trans (frl_t (by rw [ev]; exact frt_f))) (by rw [ev]; exact tpe_f (by decide) hT) (by omega) ⟨e39.trans hC.2.2.2.2.2.1, hC.2.2.2.2.2.2⟩ (by rw [ev]; exact fb_f (by decide) b)
theorem le_ok (h : LEnd E M x) (h0 : x 13 0 33 = 0) (h31 : x 13 0 31 = 3) (h32 : x 13 0 32 = 59) (hN : NXP x w) : POSTL E M (mset (mset w 13 0 39 (w 13 0 39 + 1)) 95 0 (w 13 0 39 + 1) (w 13 0 43)) := by
  obtain ⟨cd, τ, kd, en, kd', prev, mprev, kind, hC, hml, hF, hT, h43, hS⟩ := h
  exact end_ok hC hF hT hml h43.1 (hS.resolve_left (fun z => absurd z.1 (by omega))) h31 h32 hN
theorem nx_39 (hN : NXP M w) : w 13 0 39 = M 13 0 39 ∧ w 13 0 43 = M 13 0 43 := ⟨hN.2.1 39 (by decide) (by decide) (by decide) (by decide) (by decide) (by decide), hN.2.1 43 (by decide) (by decide) (by decide) (by decide) (by decide) (by decide)⟩
theorem le_eq (h : w 13 0 39 = M 13 0 39) (hz : 0 ≤ M 13 0 39 ∧ M 13 0 39 < 12) : mset (mset w 13 0 39 (w32 (w 13 0 39 + 1))) 95 0 (mset w 13 0 39 (w32 (w 13 0 39 + 1)) 13 0 39) (mset w 13 0 39 (w32 (w 13 0 39 + 1)) 13 0 43) = mset (mset w 13 0 39 (w 13 0 39 + 1)) 95 0 (w 13 0 39 + 1) (w 13 0 43) := by
  rw [w32_e (by omega) (by omega)]
  congr 1
theorem le_w (h : mset (mset x 13 0 33 2) 13 0 34 (mset x 13 0 33 2 13 0 30) = v) : v = mset (mset x 13 0 33 2) 13 0 34 (x 13 0 30) ∧ v 13 0 39 = x 13 0 39 ∧ v 13 0 43 = x 13 0 43 := by
  rw [ms_f (a := 0) (b := 30), if_neg (fun z => absurd z.2 (by decide))] at h
  rw [← h]
  refine ⟨rfl, ?_, ?_⟩
  · simp (disch := decide) only [ms_q, ms_f, true_and, and_true, Int.reduceEq, if_true, if_false, reduceIte]
  · simp (disch := decide) only [ms_q, ms_f, true_and, and_true, Int.reduceEq, if_true, if_false, reduceIte]
end LINS
