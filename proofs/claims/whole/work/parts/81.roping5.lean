/-! ===== roping, side two: the best (wip/gen/p42.py) ===== -/
def GLK : List (Nat × Nat × Spec1) := (232, 3, sp_woM) :: GLJ
abbrev GGK : Env1 := fun n => getG n GLK
theorem GGK_all {l : Launch} {ω : WP} : ∀ e ∈ GLK, ∀ as M Q, e.2.2 as M Q → Vd l ω e.2.1 e.1 as M Q := List.forall_mem_cons.mpr ⟨ok_woM, GGJ_all⟩
theorem GGK_ok {l : Launch} {ω : WP} : GOK l ω GGK := getG_ok GLK GGK_all
theorem moL_s {m k : Nat} : moL m (k + 1) = moL m k ++ (bif okRp m k then [k] else []) := by
  unfold moL
  rw [List.range_succ, List.filter_append]
  cases hb : okRp m k <;> simp [hb]
theorem mo_no {N le : Int} {sg vl : Nat → Int} {W : Int → Int} {m r : Nat} {x : Int × Int} (h : okRp m r = false) : List.foldl (rpS N le sg vl W m) x (moL m (r + 1)) = List.foldl (rpS N le sg vl W m) x (moL m r) := by
  rw [moL_s, h]
  simp only [cond_false, List.append_nil]
theorem mo_yes {N le : Int} {sg vl : Nat → Int} {W : Int → Int} {m r : Nat} {x : Int × Int} (h : okRp m r = true) : List.foldl (rpS N le sg vl W m) x (moL m (r + 1)) = rpS N le sg vl W m (List.foldl (rpS N le sg vl W m) x (moL m r)) r := by
  rw [moL_s, h]
  simp only [cond_true, List.foldl_append, List.foldl_cons, List.foldl_nil]
theorem cn_pc : ∀ r : Nat, r < 512 → cn (r : Int) 9 = (pcN r : Int) := by decide +kernel
theorem moL_1 : ∀ m : Nat, moL m 1 = [] := fun m => by
  rw [moL_s]
  have : okRp m 0 = false := by
    unfold okRp
    have e : pcN 0 = 0 := by decide
    rw [e]
    cases (Nat.beq (Nat.land 0 m) 0) <;> cases (Nat.beq (Nat.land 0 (2 ^ loN m)) 0) <;> rfl
  rw [this]
  rfl
theorem ok_split {m r : Nat} : okRp m r = true ↔ (r &&& m = r ∧ ¬ r &&& 2 ^ loN m = 0 ∧ (pcN r = 2 ∨ pcN r = 3)) := by
  unfold okRp
  simp only [Bool.and_eq_true, Bool.or_eq_true, Bool.not_eq_true']
  constructor
  · rintro ⟨⟨a, b⟩, c⟩
    refine ⟨Nat.eq_of_beq_eq_true a, fun z => ?_, c.elim (fun z => Or.inl (Nat.eq_of_beq_eq_true z)) (fun z => Or.inr (Nat.eq_of_beq_eq_true z))⟩
    have z' : Nat.land r (2 ^ loN m) = 0 := z
    rw [z'] at b
    cases b
  · rintro ⟨a, b, c⟩
    refine ⟨⟨?_, ?_⟩, ?_⟩
    · have a' : Nat.land r m = r := a
      rw [a']
      exact Nat.beq_refl r
    · cases hb : Nat.beq (Nat.land r (2 ^ loN m)) 0 with
      | true => exact absurd (Nat.eq_of_beq_eq_true hb) b
      | false => rfl
    · rcases c with c | c
      · rw [c]; exact Or.inl rfl
      · rw [c]; exact Or.inr rfl

def sp_frM : Spec1 := fun as M Q => match as with
  | [.inr (.inr (.inl (q0, i0))), .inl le] => match Nat.beq q0 13 with
    | true => (i0 = 0 ∧ IPpl M) ∧ ∀ M9, ((∀ p, p ≠ 103 → p ≠ 104 → M9 p = M p) ∧ M9 103 0 = (rpA (-100000) le (sgR (M 50 0) (M 9 0 0)) (fun r => wiR (M 52) (M 9 0 0) r (M 9 0 0)) (fun x => x) (M 103 0) (M 104 0) (((2 : Int) ^ (M 9 0 0).toNat) - 1)).1 ∧ M9 104 0 = (rpA (-100000) le (sgR (M 50 0) (M 9 0 0)) (fun r => wiR (M 52) (M 9 0 0) r (M 9 0 0)) (fun x => x) (M 103 0) (M 104 0) (((2 : Int) ^ (M 9 0 0).toNat) - 1)).2) → Q none M9
    | false => False
  | _ => False
theorem ok_frM {l : Launch} {ω : WP} : ∀ as M Q, sp_frM as M Q → Vd l ω 4 233 as M Q := by
  intro as M Q h
  unfold sp_frM at h
  split at h
  case h_2 => exact h.elim
  rename_i q0 i0 le
  cases hb : Nat.beq q0 13 with
  | false => rw [hb] at h; exact h.elim
  | true =>
  rw [hb] at h
  obtain ⟨⟨hi, hP⟩, hQ⟩ := h
  have hb := beq_eq hb
  subst hb
  subst hi
  refine Vd.ok fun hok hal => ?_
  have p9 := hP.2.1
  have pw := pw_in p9.1 p9.2
  have e49 := p9
  have an := p9
  have al := p9
  have key : ∀ n9, CutOK l ω 4 233 (cutL [(9, [0, 1, 2], fun kk vs M9 => ∃ k : Int, vs = [vR 13 0, vI le, vI k] ∧ kk = (1000000 - k * 1000).toNat ∧ (1 ≤ k ∧ k ≤ ((2 : Int) ^ (M 9 0 0).toNat)) ∧ (∀ p, p ≠ 103 → p ≠ 104 → M9 p = M p) ∧ M9 103 0 = (rpA (-100000) le (sgR (M 50 0) (M 9 0 0)) (fun r => wiR (M 52) (M 9 0 0) r (M 9 0 0)) (fun x => x) (M 103 0) (M 104 0) (k - 1)).1 ∧ M9 104 0 = (rpA (-100000) le (sgR (M 50 0) (M 9 0 0)) (fun r => wiR (M 52) (M 9 0 0) r (M 9 0 0)) (fun x => x) (M 103 0) (M 104 0) (k - 1)).2), (36, [0, 1, 2, 3, 4], fun kk vs M9 => ∃ k w r : Int, vs = [vR 13 0, vI le, vI k, vI w, vI r] ∧ kk = (1000000 - k * 1000 - 10 - r).toNat ∧ (1 ≤ k ∧ k < ((2 : Int) ^ (M 9 0 0).toNat)) ∧ w = ((2 ^ loN k.toNat : Nat) : Int) ∧ (1 ≤ r ∧ r ≤ k + 1) ∧ (∀ p, p ≠ 103 → p ≠ 104 → M9 p = M p) ∧ M9 103 0 = updI (rpA (-100000) le (sgR (M 50 0) (M 9 0 0)) (fun r => wiR (M 52) (M 9 0 0) r (M 9 0 0)) (fun x => x) (M 103 0) (M 104 0) (k - 1)).1 k (List.foldl (rpS (-100000) le (sgR (M 50 0) (M 9 0 0)) (fun r => wiR (M 52) (M 9 0 0) r (M 9 0 0)) (rpA (-100000) le (sgR (M 50 0) (M 9 0 0)) (fun r => wiR (M 52) (M 9 0 0) r (M 9 0 0)) (fun x => x) (M 103 0) (M 104 0) (k - 1)).1 k.toNat) (-100000, (rpA (-100000) le (sgR (M 50 0) (M 9 0 0)) (fun r => wiR (M 52) (M 9 0 0) r (M 9 0 0)) (fun x => x) (M 103 0) (M 104 0) (k - 1)).2 k) (moL k.toNat r.toNat)).1 ∧ M9 104 0 = updI (rpA (-100000) le (sgR (M 50 0) (M 9 0 0)) (fun r => wiR (M 52) (M 9 0 0) r (M 9 0 0)) (fun x => x) (M 103 0) (M 104 0) (k - 1)).2 k (List.foldl (rpS (-100000) le (sgR (M 50 0) (M 9 0 0)) (fun r => wiR (M 52) (M 9 0 0) r (M 9 0 0)) (rpA (-100000) le (sgR (M 50 0) (M 9 0 0)) (fun r => wiR (M 52) (M 9 0 0) r (M 9 0 0)) (fun x => x) (M 103 0) (M 104 0) (k - 1)).1 k.toNat) (-100000, (rpA (-100000) le (sgR (M 50 0) (M 9 0 0)) (fun r => wiR (M 52) (M 9 0 0) r (M 9 0 0)) (fun x => x) (M 103 0) (M 104 0) (k - 1)).2 k) (moL k.toNat r.toNat)).2)] n9) Q := by
    refine loops (GGK_ok (l := l) (ω := ω)) 500 _ ?_
    refine List.forall_mem_cons.mpr ⟨?_, List.forall_mem_cons.mpr ⟨?_, fun _ h => absurd h List.not_mem_nil⟩⟩
    · rintro n9 vs M9 ⟨k, rfl, rfl, k0, fr, h53, h54⟩
      have e9 : M9 9 = M 9 := fr 9 (by decide) (by decide)
      have e13 : M9 13 = M 13 := fr 13 (by decide) (by decide)
      have e49 : M9 13 0 49 = M 9 0 0 := by rw [e13]; exact hP.1
      have e50 : M9 50 = M 50 := fr 50 (by decide) (by decide)
      have e52 : M9 52 = M 52 := fr 52 (by decide) (by decide)
      have hP9 : IPpl M9 := by simp (disch := decide) only [IPpl, fr]; exact hP
      have ek : w32 (k + 1) = k + 1 := w32_e (by omega) (by omega)
      have ck : ((k.toNat : Nat) : Int) = k := Int.toNat_of_nonneg (by omega)
      have an := p9
      have al := p9
      show wpH _ 500 _ 233 _ true 9 [vR 13 0, vI le, vI k, vU, vU, vU, vU] [] _ Q
      conv => whnf
      repeat' first
        | (refine And.intro (fun h => ?_) (fun h => ?_) <;> (try simp (disch := decide) only [cmp3_lt, cmp3_ge, cmp3_gt, cmp3_le, cmp3_eq, ms_q, ms_f, mf_q, mf_f, mc_q, mc_f, and_self, and_true, true_and, and_false, false_and, or_true, true_or, or_false, false_or, if_true, if_false, not_true_eq_false, not_false_eq_true, eq_self, reduceIte, Int.reduceEq, Int.reduceLT, Int.reduceLE, Int.reduceNeg, Int.reduceAdd, Int.reduceSub, Int.reduceMul, Int.add_sub_cancel] at h) <;> (try simp (disch := omega) only [w32_e, w64_e, td_pos, tm_pos, Int.add_sub_cancel, e49, sh_e, an, al] at h) <;> first | exact absurd rfl h | exact absurd h (by decide) | (exfalso; omega) | (conv => whnf))
        | (refine And.intro (by first | omega | ((try simp (disch := decide) only [cmp3_lt, cmp3_ge, cmp3_gt, cmp3_le, cmp3_eq, ms_q, ms_f, mf_q, mf_f, mc_q, mc_f, and_self, and_true, true_and, and_false, false_and, or_true, true_or, or_false, false_or, if_true, if_false, not_true_eq_false, not_false_eq_true, eq_self, reduceIte, Int.reduceEq, Int.reduceLT, Int.reduceLE, Int.reduceNeg, Int.reduceAdd, Int.reduceSub, Int.reduceMul, Int.add_sub_cancel]); (try simp (disch := omega) only [w32_e, w64_e, td_pos, tm_pos, Int.add_sub_cancel, e49, sh_e, an, al]); first | assumption | omega) | ((try simp (disch := decide) only [cmp3_lt, cmp3_ge, cmp3_gt, cmp3_le, cmp3_eq, ms_q, ms_f, mf_q, mf_f, mc_q, mc_f, and_self, and_true, true_and, and_false, false_and, or_true, true_or, or_false, false_or, if_true, if_false, not_true_eq_false, not_false_eq_true, eq_self, reduceIte, Int.reduceEq, Int.reduceLT, Int.reduceLE, Int.reduceNeg, Int.reduceAdd, Int.reduceSub, Int.reduceMul, Int.add_sub_cancel]); (try simp (disch := omega) only [w32_e, w64_e, td_pos, tm_pos, Int.add_sub_cancel, e49, sh_e, an, al]); ((repeat' (first | assumption | omega | with_reducible rfl | apply And.intro)); done))) ?_; conv => whnf)
        | (intro v; intro hv; conv => whnf)
      all_goals first
        | (have e8 : k = 2 ^ (M 9 0 0).toNat := by omega
           rw [e8] at h53 h54
           exact hQ M9 ⟨fr, h53, h54⟩)
        | (have kb : 1 ≤ k ∧ k < 512 := by omega
           obtain ⟨lw, lt1, lt2, -⟩ := low_t k.toNat (by omega) (by omega)
           rw [ck] at lw
           refine ⟨_, ?_, k, _, 1, by rw [lw], rfl, ⟨by omega, by omega⟩, rfl, ⟨Int.le_refl _, by omega⟩, fun p a b => by rw [ms_q a]; exact fr p a b, ?_, ?_⟩
           · omega
           · have e1 : (1 : Int).toNat = 1 := rfl
             rw [ms_n, h53, e1, moL_1]
             rfl
           · have e1 : (1 : Int).toNat = 1 := rfl
             rw [ms_q (by decide), h54, e1, moL_1]
             exact updI_0.symm)
    · rintro n9 vs M9 ⟨k, w, r, rfl, rfl, k0, hw, r0, fr, h53, h54⟩
      have e9 : M9 9 = M 9 := fr 9 (by decide) (by decide)
      have e13 : M9 13 = M 13 := fr 13 (by decide) (by decide)
      have e49 : M9 13 0 49 = M 9 0 0 := by rw [e13]; exact hP.1
      have e50 : M9 50 = M 50 := fr 50 (by decide) (by decide)
      have e52 : M9 52 = M 52 := fr 52 (by decide) (by decide)
      have hP9 : IPpl M9 := by simp (disch := decide) only [IPpl, fr]; exact hP
      have ek : w32 (k + 1) = k + 1 := w32_e (by omega) (by omega)
      have ck : ((k.toNat : Nat) : Int) = k := Int.toNat_of_nonneg (by omega)
      have er : w32 (r + 1) = r + 1 := w32_e (by omega) (by omega)
      have rn : (r + 1).toNat = r.toNat + 1 := by omega
      have cr : ((r.toNat : Nat) : Int) = r := Int.toNat_of_nonneg (by omega)
      have kb : 1 ≤ k ∧ k < 512 := by omega
      obtain ⟨lw, lt1, lt2, -⟩ := low_t k.toNat (by omega) (by omega)
      have l2 : 1 ≤ 2 ^ loN k.toNat ∧ 2 ^ loN k.toNat ≤ 256 := (by decide : ∀ f : Nat, f < 9 → 1 ≤ 2 ^ f ∧ 2 ^ f ≤ 256) (loN k.toNat) lt1
      have an : r ≤ k → (Int32.ofInt r &&& Int32.ofInt ((Int32.ofInt k ^^^ Int32.ofInt (-1)).toInt)).toInt = ((r.toNat - (r.toNat &&& k.toNat) : Nat) : Int) := fun z => andn_e (by omega) (by omega) (by omega) (by omega)
      have al : r ≤ k → (Int32.ofInt r &&& Int32.ofInt w).toInt = ((r.toNat &&& 2 ^ loN k.toNat : Nat) : Int) := fun z => by
        rw [and_e (by omega) (by omega) (by omega) (by omega), hw, Int.toNat_natCast]
      have lle : r.toNat &&& k.toNat ≤ r.toNat := Nat.and_le_left
      have wb : ∀ j, 0 ≤ j → j < k → -100000 ≤ M9 103 0 j ∧ M9 103 0 j ≤ 40000 := fun j j0 j1 => by
        rw [h53]
        unfold updI
        rw [if_neg (by omega)]
        have g := rp_all (le := le) (g1 := fun x => x) (g2 := fun x => x) (W1 := M 103 0) (W2 := M 103 0) (F1 := M 104 0) (F2 := M 104 0) (k := (k - 1).toNat) (m := j.toNat) hP (by omega) (by omega)
        have c1 : (((k - 1).toNat : Nat) : Int) = k - 1 := Int.toNat_of_nonneg (by omega)
        have c2 : ((j.toNat : Nat) : Int) = j := Int.toNat_of_nonneg j0
        unfold GR at g
        rw [c1, c2] at g
        rcases g with ⟨-, g1⟩ | ⟨g0, g2, -⟩
        · omega
        · omega
      have wbr : r ≤ k → _ := fun z => wb (k - r) (by omega) (by omega)
      have wi := wir_in hP (r := r.toNat) (n := M 9 0 0) p9.1 p9.2 (a := M 9 0 0) p9.1 (Int.le_refl _)
      have vin : -100000 ≤ (if (2 ≤ cn r 9 ∧ cn r 9 ≤ 3) ∧ le ≤ sgR (M9 50 0) (M9 9 0 0) r.toNat then wiR (M9 52) (M9 9 0 0) r.toNat (M9 9 0 0) else -100000) ∧ (if (2 ≤ cn r 9 ∧ cn r 9 ≤ 3) ∧ le ≤ sgR (M9 50 0) (M9 9 0 0) r.toNat then wiR (M9 52) (M9 9 0 0) r.toNat (M9 9 0 0) else -100000) ≤ 729 := by
        rw [e50, e9, e52]
        split <;> omega
      have cp : r ≤ k → cn r 9 = (pcN r.toNat : Int) := fun z => by
        have := cn_pc r.toNat (by omega)
        rw [cr] at this
        exact this
      have os := ok_split (m := k.toNat) (r := r.toNat)
      have kr : r ≤ k → ((k.toNat - r.toNat : Nat) : Int) = k - r := fun z => by omega
      have a1 : r ≤ k → M9 103 0 (k - r) = (rpA (-100000) le (sgR (M 50 0) (M 9 0 0)) (fun r => wiR (M 52) (M 9 0 0) r (M 9 0 0)) (fun x => x) (M 103 0) (M 104 0) (k - 1)).1 ((k.toNat - r.toNat : Nat) : Int) := fun z => by
        rw [h53, kr z]
        unfold updI
        rw [if_neg (by omega)]
      have a2 : M9 103 0 k = (List.foldl (rpS (-100000) le (sgR (M 50 0) (M 9 0 0)) (fun r => wiR (M 52) (M 9 0 0) r (M 9 0 0)) (rpA (-100000) le (sgR (M 50 0) (M 9 0 0)) (fun r => wiR (M 52) (M 9 0 0) r (M 9 0 0)) (fun x => x) (M 103 0) (M 104 0) (k - 1)).1 k.toNat) (-100000, (rpA (-100000) le (sgR (M 50 0) (M 9 0 0)) (fun r => wiR (M 52) (M 9 0 0) r (M 9 0 0)) (fun x => x) (M 103 0) (M 104 0) (k - 1)).2 k) (moL k.toNat r.toNat)).1 := by
        rw [h53]
        unfold updI
        rw [if_pos rfl]
      have skipN : okRp k.toNat r.toNat = false → M9 103 0 = updI (rpA (-100000) le (sgR (M 50 0) (M 9 0 0)) (fun r => wiR (M 52) (M 9 0 0) r (M 9 0 0)) (fun x => x) (M 103 0) (M 104 0) (k - 1)).1 k (List.foldl (rpS (-100000) le (sgR (M 50 0) (M 9 0 0)) (fun r => wiR (M 52) (M 9 0 0) r (M 9 0 0)) (rpA (-100000) le (sgR (M 50 0) (M 9 0 0)) (fun r => wiR (M 52) (M 9 0 0) r (M 9 0 0)) (fun x => x) (M 103 0) (M 104 0) (k - 1)).1 k.toNat) (-100000, (rpA (-100000) le (sgR (M 50 0) (M 9 0 0)) (fun r => wiR (M 52) (M 9 0 0) r (M 9 0 0)) (fun x => x) (M 103 0) (M 104 0) (k - 1)).2 k) (moL k.toNat (r + 1).toNat)).1 ∧ M9 104 0 = updI (rpA (-100000) le (sgR (M 50 0) (M 9 0 0)) (fun r => wiR (M 52) (M 9 0 0) r (M 9 0 0)) (fun x => x) (M 103 0) (M 104 0) (k - 1)).2 k (List.foldl (rpS (-100000) le (sgR (M 50 0) (M 9 0 0)) (fun r => wiR (M 52) (M 9 0 0) r (M 9 0 0)) (rpA (-100000) le (sgR (M 50 0) (M 9 0 0)) (fun r => wiR (M 52) (M 9 0 0) r (M 9 0 0)) (fun x => x) (M 103 0) (M 104 0) (k - 1)).1 k.toNat) (-100000, (rpA (-100000) le (sgR (M 50 0) (M 9 0 0)) (fun r => wiR (M 52) (M 9 0 0) r (M 9 0 0)) (fun x => x) (M 103 0) (M 104 0) (k - 1)).2 k) (moL k.toNat (r + 1).toNat)).2 := fun z => by
        rw [rn, mo_no z]
        exact ⟨h53, h54⟩
      have nope : (¬ okRp k.toNat r.toNat = true) → okRp k.toNat r.toNat = false := fun z => by
        cases hb : okRp k.toNat r.toNat with
        | true => exact absurd hb z
        | false => rfl
      have skipY : okRp k.toNat r.toNat = true → (¬ (le ≤ (sgR (M 50 0) (M 9 0 0)) r.toNat ∧ ¬ (rpA (-100000) le (sgR (M 50 0) (M 9 0 0)) (fun r => wiR (M 52) (M 9 0 0) r (M 9 0 0)) (fun x => x) (M 103 0) (M 104 0) (k - 1)).1 ((k.toNat - r.toNat : Nat) : Int) = -100000 ∧ (List.foldl (rpS (-100000) le (sgR (M 50 0) (M 9 0 0)) (fun r => wiR (M 52) (M 9 0 0) r (M 9 0 0)) (rpA (-100000) le (sgR (M 50 0) (M 9 0 0)) (fun r => wiR (M 52) (M 9 0 0) r (M 9 0 0)) (fun x => x) (M 103 0) (M 104 0) (k - 1)).1 k.toNat) (-100000, (rpA (-100000) le (sgR (M 50 0) (M 9 0 0)) (fun r => wiR (M 52) (M 9 0 0) r (M 9 0 0)) (fun x => x) (M 103 0) (M 104 0) (k - 1)).2 k) (moL k.toNat r.toNat)).1 < (rpA (-100000) le (sgR (M 50 0) (M 9 0 0)) (fun r => wiR (M 52) (M 9 0 0) r (M 9 0 0)) (fun x => x) (M 103 0) (M 104 0) (k - 1)).1 ((k.toNat - r.toNat : Nat) : Int) + (fun r => wiR (M 52) (M 9 0 0) r (M 9 0 0)) r.toNat)) → M9 103 0 = updI (rpA (-100000) le (sgR (M 50 0) (M 9 0 0)) (fun r => wiR (M 52) (M 9 0 0) r (M 9 0 0)) (fun x => x) (M 103 0) (M 104 0) (k - 1)).1 k (List.foldl (rpS (-100000) le (sgR (M 50 0) (M 9 0 0)) (fun r => wiR (M 52) (M 9 0 0) r (M 9 0 0)) (rpA (-100000) le (sgR (M 50 0) (M 9 0 0)) (fun r => wiR (M 52) (M 9 0 0) r (M 9 0 0)) (fun x => x) (M 103 0) (M 104 0) (k - 1)).1 k.toNat) (-100000, (rpA (-100000) le (sgR (M 50 0) (M 9 0 0)) (fun r => wiR (M 52) (M 9 0 0) r (M 9 0 0)) (fun x => x) (M 103 0) (M 104 0) (k - 1)).2 k) (moL k.toNat (r + 1).toNat)).1 ∧ M9 104 0 = updI (rpA (-100000) le (sgR (M 50 0) (M 9 0 0)) (fun r => wiR (M 52) (M 9 0 0) r (M 9 0 0)) (fun x => x) (M 103 0) (M 104 0) (k - 1)).2 k (List.foldl (rpS (-100000) le (sgR (M 50 0) (M 9 0 0)) (fun r => wiR (M 52) (M 9 0 0) r (M 9 0 0)) (rpA (-100000) le (sgR (M 50 0) (M 9 0 0)) (fun r => wiR (M 52) (M 9 0 0) r (M 9 0 0)) (fun x => x) (M 103 0) (M 104 0) (k - 1)).1 k.toNat) (-100000, (rpA (-100000) le (sgR (M 50 0) (M 9 0 0)) (fun r => wiR (M 52) (M 9 0 0) r (M 9 0 0)) (fun x => x) (M 103 0) (M 104 0) (k - 1)).2 k) (moL k.toNat (r + 1).toNat)).2 := fun z y => by
        rw [rn, mo_yes z]
        have e : rpS (-100000) le (sgR (M 50 0) (M 9 0 0)) (fun r => wiR (M 52) (M 9 0 0) r (M 9 0 0)) (rpA (-100000) le (sgR (M 50 0) (M 9 0 0)) (fun r => wiR (M 52) (M 9 0 0) r (M 9 0 0)) (fun x => x) (M 103 0) (M 104 0) (k - 1)).1 k.toNat (List.foldl (rpS (-100000) le (sgR (M 50 0) (M 9 0 0)) (fun r => wiR (M 52) (M 9 0 0) r (M 9 0 0)) (rpA (-100000) le (sgR (M 50 0) (M 9 0 0)) (fun r => wiR (M 52) (M 9 0 0) r (M 9 0 0)) (fun x => x) (M 103 0) (M 104 0) (k - 1)).1 k.toNat) (-100000, (rpA (-100000) le (sgR (M 50 0) (M 9 0 0)) (fun r => wiR (M 52) (M 9 0 0) r (M 9 0 0)) (fun x => x) (M 103 0) (M 104 0) (k - 1)).2 k) (moL k.toNat r.toNat)) r.toNat = (List.foldl (rpS (-100000) le (sgR (M 50 0) (M 9 0 0)) (fun r => wiR (M 52) (M 9 0 0) r (M 9 0 0)) (rpA (-100000) le (sgR (M 50 0) (M 9 0 0)) (fun r => wiR (M 52) (M 9 0 0) r (M 9 0 0)) (fun x => x) (M 103 0) (M 104 0) (k - 1)).1 k.toNat) (-100000, (rpA (-100000) le (sgR (M 50 0) (M 9 0 0)) (fun r => wiR (M 52) (M 9 0 0) r (M 9 0 0)) (fun x => x) (M 103 0) (M 104 0) (k - 1)).2 k) (moL k.toNat r.toNat)) := if_neg y
        rw [e]
        exact ⟨h53, h54⟩
      show wpH _ 500 _ 233 _ true 36 [vR 13 0, vI le, vI k, vI w, vI r, vU, vU] [] _ Q
      conv => whnf
      repeat' first
        | (refine And.intro (fun h => ?_) (fun h => ?_) <;> (try simp (disch := decide) only [cmp3_lt, cmp3_ge, cmp3_gt, cmp3_le, cmp3_eq, ms_q, ms_f, mf_q, mf_f, mc_q, mc_f, and_self, and_true, true_and, and_false, false_and, or_true, true_or, or_false, false_or, if_true, if_false, not_true_eq_false, not_false_eq_true, eq_self, reduceIte, Int.reduceEq, Int.reduceLT, Int.reduceLE, Int.reduceNeg, Int.reduceAdd, Int.reduceSub, Int.reduceMul, Int.add_sub_cancel] at h) <;> (try simp (disch := omega) only [w32_e, w64_e, td_pos, tm_pos, Int.add_sub_cancel, e49, sh_e, an, al] at h) <;> first | exact absurd rfl h | exact absurd h (by decide) | (exfalso; omega) | (conv => whnf))
        | (refine And.intro (by first | omega | ((try simp (disch := decide) only [cmp3_lt, cmp3_ge, cmp3_gt, cmp3_le, cmp3_eq, ms_q, ms_f, mf_q, mf_f, mc_q, mc_f, and_self, and_true, true_and, and_false, false_and, or_true, true_or, or_false, false_or, if_true, if_false, not_true_eq_false, not_false_eq_true, eq_self, reduceIte, Int.reduceEq, Int.reduceLT, Int.reduceLE, Int.reduceNeg, Int.reduceAdd, Int.reduceSub, Int.reduceMul, Int.add_sub_cancel]); (try simp (disch := omega) only [w32_e, w64_e, td_pos, tm_pos, Int.add_sub_cancel, e49, sh_e, an, al]); first | assumption | omega) | ((try simp (disch := decide) only [cmp3_lt, cmp3_ge, cmp3_gt, cmp3_le, cmp3_eq, ms_q, ms_f, mf_q, mf_f, mc_q, mc_f, and_self, and_true, true_and, and_false, false_and, or_true, true_or, or_false, false_or, if_true, if_false, not_true_eq_false, not_false_eq_true, eq_self, reduceIte, Int.reduceEq, Int.reduceLT, Int.reduceLE, Int.reduceNeg, Int.reduceAdd, Int.reduceSub, Int.reduceMul, Int.add_sub_cancel]); (try simp (disch := omega) only [w32_e, w64_e, td_pos, tm_pos, Int.add_sub_cancel, e49, sh_e, an, al]); ((repeat' (first | assumption | omega | with_reducible rfl | apply And.intro)); done))) ?_; conv => whnf)
        | (intro v; intro hv; conv => whnf)
      all_goals first
        | (have e8 : r = k + 1 := by omega
           have en : (k + 1).toNat = k.toNat + 1 := by omega
           rw [e8, en, rp_t1 k.toNat (by omega) (by omega)] at h53 h54
           have ea : k + 1 - 1 = (k - 1) + 1 := by omega
           have eb : (k - 1) + 1 = k := by omega
           have ec : (k - 1).toNat + 1 = k.toNat := by omega
           refine ⟨_, ?_, k + 1, by rw [ek], rfl, ⟨by omega, by omega⟩, fr, ?_, ?_⟩
           · omega
           · rw [ea, rpA_s (by omega)]
             unfold rpT rwF
             simp only []
             rw [eb, ec]
             exact h53
           · rw [ea, rpA_s (by omega)]
             unfold rpT rwF
             simp only []
             rw [eb, ec]
             exact h54)
        | (have hrk : r ≤ k := by omega
           have cp' := cp hrk
           have a1' := a1 hrk
           have sk : M9 103 0 = updI (rpA (-100000) le (sgR (M 50 0) (M 9 0 0)) (fun r => wiR (M 52) (M 9 0 0) r (M 9 0 0)) (fun x => x) (M 103 0) (M 104 0) (k - 1)).1 k (List.foldl (rpS (-100000) le (sgR (M 50 0) (M 9 0 0)) (fun r => wiR (M 52) (M 9 0 0) r (M 9 0 0)) (rpA (-100000) le (sgR (M 50 0) (M 9 0 0)) (fun r => wiR (M 52) (M 9 0 0) r (M 9 0 0)) (fun x => x) (M 103 0) (M 104 0) (k - 1)).1 k.toNat) (-100000, (rpA (-100000) le (sgR (M 50 0) (M 9 0 0)) (fun r => wiR (M 52) (M 9 0 0) r (M 9 0 0)) (fun x => x) (M 103 0) (M 104 0) (k - 1)).2 k) (moL k.toNat (r + 1).toNat)).1 ∧ M9 104 0 = updI (rpA (-100000) le (sgR (M 50 0) (M 9 0 0)) (fun r => wiR (M 52) (M 9 0 0) r (M 9 0 0)) (fun x => x) (M 103 0) (M 104 0) (k - 1)).2 k (List.foldl (rpS (-100000) le (sgR (M 50 0) (M 9 0 0)) (fun r => wiR (M 52) (M 9 0 0) r (M 9 0 0)) (rpA (-100000) le (sgR (M 50 0) (M 9 0 0)) (fun r => wiR (M 52) (M 9 0 0) r (M 9 0 0)) (fun x => x) (M 103 0) (M 104 0) (k - 1)).1 k.toNat) (-100000, (rpA (-100000) le (sgR (M 50 0) (M 9 0 0)) (fun r => wiR (M 52) (M 9 0 0) r (M 9 0 0)) (fun x => x) (M 103 0) (M 104 0) (k - 1)).2 k) (moL k.toNat (r + 1).toNat)).2 := by
             first
               | exact skipN (nope (fun z => by have := (os.mp z).1; omega))
               | exact skipN (nope (fun z => by have := (os.mp z).2.1; omega))
               | (by_cases ok : okRp k.toNat r.toNat = true
                  · refine skipY ok (fun z => ?_)
                    have pc := (os.mp ok).2.2
                    have hC : (2 ≤ cn r 9 ∧ cn r 9 ≤ 3) ∧ le ≤ (sgR (M 50 0) (M 9 0 0)) r.toNat := ⟨by omega, z.1⟩
                    rw [e50, e9, e52, if_pos hC] at h
                    have z3 : (List.foldl (rpS (-100000) le (sgR (M 50 0) (M 9 0 0)) (fun r => wiR (M 52) (M 9 0 0) r (M 9 0 0)) (rpA (-100000) le (sgR (M 50 0) (M 9 0 0)) (fun r => wiR (M 52) (M 9 0 0) r (M 9 0 0)) (fun x => x) (M 103 0) (M 104 0) (k - 1)).1 k.toNat) (-100000, (rpA (-100000) le (sgR (M 50 0) (M 9 0 0)) (fun r => wiR (M 52) (M 9 0 0) r (M 9 0 0)) (fun x => x) (M 103 0) (M 104 0) (k - 1)).2 k) (moL k.toNat r.toNat)).1 < (rpA (-100000) le (sgR (M 50 0) (M 9 0 0)) (fun r => wiR (M 52) (M 9 0 0) r (M 9 0 0)) (fun x => x) (M 103 0) (M 104 0) (k - 1)).1 ((k.toNat - r.toNat : Nat) : Int) + wiR (M 52) (M 9 0 0) r.toNat (M 9 0 0) := z.2.2
                    first
                      | (exfalso; omega)
                      | (rw [a1'] at h; exact absurd h z.2.1)
                      | (rw [a1', a2] at h; omega)
                  · exact skipN (nope ok))
               | (by_cases ok : okRp k.toNat r.toNat = true
                  · refine skipY ok (fun z => ?_)
                    rw [a1'] at h
                    exact absurd h z.2.1
                  · exact skipN (nope ok))
           refine ⟨_, ?_, k, w, r + 1, by rw [er], rfl, k0, hw, ⟨by omega, by omega⟩, fr, sk.1, sk.2⟩
           omega)
        | (have hrk : r ≤ k := by omega
           have cp' := cp hrk
           have a1' := a1 hrk
           have wbr' := wbr hrk
           have C : (2 ≤ cn r 9 ∧ cn r 9 ≤ 3) ∧ le ≤ sgR (M9 50 0) (M9 9 0 0) r.toNat := Classical.byContradiction (fun hc => (by assumption : ¬ (if (2 ≤ cn r 9 ∧ cn r 9 ≤ 3) ∧ le ≤ sgR (M9 50 0) (M9 9 0 0) r.toNat then wiR (M9 52) (M9 9 0 0) r.toNat (M9 9 0 0) else -100000) = -100000) (if_neg hc))
           have nN : ¬ M9 103 0 (k - r) = -100000 := by assumption
           have ok : okRp k.toNat r.toNat = true := os.mpr ⟨by omega, by omega, by omega⟩
           rw [if_pos C, e9, e52] at h ⊢
           rw [e50, e9] at C
           have sy : rpS (-100000) le (sgR (M 50 0) (M 9 0 0)) (fun r => wiR (M 52) (M 9 0 0) r (M 9 0 0)) (rpA (-100000) le (sgR (M 50 0) (M 9 0 0)) (fun r => wiR (M 52) (M 9 0 0) r (M 9 0 0)) (fun x => x) (M 103 0) (M 104 0) (k - 1)).1 k.toNat (List.foldl (rpS (-100000) le (sgR (M 50 0) (M 9 0 0)) (fun r => wiR (M 52) (M 9 0 0) r (M 9 0 0)) (rpA (-100000) le (sgR (M 50 0) (M 9 0 0)) (fun r => wiR (M 52) (M 9 0 0) r (M 9 0 0)) (fun x => x) (M 103 0) (M 104 0) (k - 1)).1 k.toNat) (-100000, (rpA (-100000) le (sgR (M 50 0) (M 9 0 0)) (fun r => wiR (M 52) (M 9 0 0) r (M 9 0 0)) (fun x => x) (M 103 0) (M 104 0) (k - 1)).2 k) (moL k.toNat r.toNat)) r.toNat = ((rpA (-100000) le (sgR (M 50 0) (M 9 0 0)) (fun r => wiR (M 52) (M 9 0 0) r (M 9 0 0)) (fun x => x) (M 103 0) (M 104 0) (k - 1)).1 ((k.toNat - r.toNat : Nat) : Int) + wiR (M 52) (M 9 0 0) r.toNat (M 9 0 0), ((r.toNat : Nat) : Int)) := if_pos ⟨C.2, by rw [← a1']; exact nN, by
             show (List.foldl (rpS (-100000) le (sgR (M 50 0) (M 9 0 0)) (fun r => wiR (M 52) (M 9 0 0) r (M 9 0 0)) (rpA (-100000) le (sgR (M 50 0) (M 9 0 0)) (fun r => wiR (M 52) (M 9 0 0) r (M 9 0 0)) (fun x => x) (M 103 0) (M 104 0) (k - 1)).1 k.toNat) (-100000, (rpA (-100000) le (sgR (M 50 0) (M 9 0 0)) (fun r => wiR (M 52) (M 9 0 0) r (M 9 0 0)) (fun x => x) (M 103 0) (M 104 0) (k - 1)).2 k) (moL k.toNat r.toNat)).1 < (rpA (-100000) le (sgR (M 50 0) (M 9 0 0)) (fun r => wiR (M 52) (M 9 0 0) r (M 9 0 0)) (fun x => x) (M 103 0) (M 104 0) (k - 1)).1 ((k.toNat - r.toNat : Nat) : Int) + wiR (M 52) (M 9 0 0) r.toNat (M 9 0 0)
             rw [← a1', ← a2]
             omega⟩
           have kw : w32 (k - r) = k - r := w32_e (by omega) (by omega)
           have vw : w32 (wiR (M 52) (M 9 0 0) r.toNat (M 9 0 0) + M9 103 0 (k - r)) = (rpA (-100000) le (sgR (M 50 0) (M 9 0 0)) (fun r => wiR (M 52) (M 9 0 0) r (M 9 0 0)) (fun x => x) (M 103 0) (M 104 0) (k - 1)).1 ((k.toNat - r.toNat : Nat) : Int) + wiR (M 52) (M 9 0 0) r.toNat (M 9 0 0) := by
             rw [w32_e (by omega) (by omega), a1', Int.add_comm]
           rw [kw, vw]
           refine ⟨_, ?_, k, w, r + 1, by rw [er], rfl, k0, hw, ⟨by omega, by omega⟩, fun p a b => by rw [ms_q b, ms_q a]; exact fr p a b, ?_, ?_⟩
           · omega
           · rw [ms_q (by decide), ms_n, rn, mo_yes ok, sy, h53, updI_2]
           · rw [ms_n, ms_q (by decide), rn, mo_yes ok, sy, h54, updI_2, cr])
  refine Vd_run (GGK_ok (l := l) (ω := ω)) 500 (hC := key 5000000) (by decide) ?_
  conv => whnf
  repeat' first
    | (refine And.intro (fun h => ?_) (fun h => ?_) <;> (try simp (disch := decide) only [cmp3_lt, cmp3_ge, cmp3_gt, cmp3_le, cmp3_eq, ms_q, ms_f, mf_q, mf_f, mc_q, mc_f, and_self, and_true, true_and, and_false, false_and, or_true, true_or, or_false, false_or, if_true, if_false, not_true_eq_false, not_false_eq_true, eq_self, reduceIte, Int.reduceEq, Int.reduceLT, Int.reduceLE, Int.reduceNeg, Int.reduceAdd, Int.reduceSub, Int.reduceMul, Int.add_sub_cancel] at h) <;> (try simp (disch := omega) only [w32_e, w64_e, td_pos, tm_pos, Int.add_sub_cancel, e49, sh_e, an, al] at h) <;> first | exact absurd rfl h | exact absurd h (by decide) | (exfalso; omega) | (conv => whnf))
    | (refine And.intro (by first | omega | ((try simp (disch := decide) only [cmp3_lt, cmp3_ge, cmp3_gt, cmp3_le, cmp3_eq, ms_q, ms_f, mf_q, mf_f, mc_q, mc_f, and_self, and_true, true_and, and_false, false_and, or_true, true_or, or_false, false_or, if_true, if_false, not_true_eq_false, not_false_eq_true, eq_self, reduceIte, Int.reduceEq, Int.reduceLT, Int.reduceLE, Int.reduceNeg, Int.reduceAdd, Int.reduceSub, Int.reduceMul, Int.add_sub_cancel]); (try simp (disch := omega) only [w32_e, w64_e, td_pos, tm_pos, Int.add_sub_cancel, e49, sh_e, an, al]); first | assumption | omega) | ((try simp (disch := decide) only [cmp3_lt, cmp3_ge, cmp3_gt, cmp3_le, cmp3_eq, ms_q, ms_f, mf_q, mf_f, mc_q, mc_f, and_self, and_true, true_and, and_false, false_and, or_true, true_or, or_false, false_or, if_true, if_false, not_true_eq_false, not_false_eq_true, eq_self, reduceIte, Int.reduceEq, Int.reduceLT, Int.reduceLE, Int.reduceNeg, Int.reduceAdd, Int.reduceSub, Int.reduceMul, Int.add_sub_cancel]); (try simp (disch := omega) only [w32_e, w64_e, td_pos, tm_pos, Int.add_sub_cancel, e49, sh_e, an, al]); ((repeat' (first | assumption | omega | with_reducible rfl | apply And.intro)); done))) ?_; conv => whnf)
    | (intro v; intro hv; conv => whnf)
  all_goals
    (refine ⟨_, ?_, 1, rfl, rfl, ⟨Int.le_refl _, by omega⟩, fun p a b => by rw [ms_q a], ?_, ?_⟩
     · omega
     · rw [ms_n]
       rfl
     · rw [ms_q (by decide)]
       rfl)
