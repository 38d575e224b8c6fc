/-! ===== roping, side one (wip/gen/p39.py) ===== -/
theorem hiL_2 {f l h : Nat} (fh : f < h) (hh : h < 9) (b : btN l h = true) : 2 ^ f + 2 ^ h ∈ hiL f l 9 := by
  unfold hiL
  refine List.mem_flatMap.mpr ⟨h, List.mem_range.mpr hh, ?_⟩
  have e : (Nat.blt f h && btN l h) = true := by
    rw [b, Bool.and_true]
    exact Nat.ble_eq_true_of_le fh
  rw [e]
  exact List.mem_cons_self
theorem hiL_3 {f l y h : Nat} (fy : f < y) (yh : y < h) (hh : h < 9) (b : btN l h = true) (b2 : btN l y = true) : 2 ^ f + 2 ^ y + 2 ^ h ∈ hiL f l 9 := by
  unfold hiL
  refine List.mem_flatMap.mpr ⟨h, List.mem_range.mpr hh, ?_⟩
  have e : (Nat.blt f h && btN l h) = true := by
    rw [b, Bool.and_true]
    exact Nat.ble_eq_true_of_le (by omega)
  rw [e]
  refine List.mem_cons_of_mem _ ?_
  unfold thL
  refine List.mem_map.mpr ⟨y, List.mem_filter.mpr ⟨List.mem_range.mpr yh, ?_⟩, rfl⟩
  rw [b2, Bool.and_true]
  exact Nat.ble_eq_true_of_le fy
theorem updI_2 {R : Int → Int} {a v w : Int} : updI (updI R a v) a w = updI R a w := by
  funext p
  unfold updI
  split <;> rfl
theorem updI_0 {R : Int → Int} {a : Int} : updI R a (R a) = R := by
  funext p
  unfold updI
  split
  · rename_i h
    rw [h]
  · rfl
theorem pw_t : ∀ f : Nat, f < 9 → (Int32.ofInt 1 <<< (Int32.ofInt (f : Int) &&& 31)).toInt = ((2 ^ f : Nat) : Int) := by decide +kernel
theorem or2_t : ∀ f : Nat, f < 9 → ∀ h : Nat, h < 9 → f < h → (Int32.ofInt ((2 ^ f : Nat) : Int) ||| Int32.ofInt ((2 ^ h : Nat) : Int)).toInt = ((2 ^ f + 2 ^ h : Nat) : Int) := by decide +kernel
theorem or3_t : ∀ f : Nat, f < 9 → ∀ y : Nat, y < 9 → ∀ h : Nat, h < 9 → f < y → y < h → (Int32.ofInt ((2 ^ f + 2 ^ y : Nat) : Int) ||| Int32.ofInt ((2 ^ h : Nat) : Int)).toInt = ((2 ^ f + 2 ^ y + 2 ^ h : Nat) : Int) := by decide +kernel
theorem pw_e {f : Int} (h0 : 0 ≤ f) (h1 : f < 9) : (Int32.ofInt 1 <<< (Int32.ofInt f &&& 31)).toInt = ((2 ^ f.toNat : Nat) : Int) := by
  have := pw_t f.toNat (by omega)
  rw [Int.toNat_of_nonneg h0] at this
  exact this
theorem cn_p : ∀ f : Nat, f < 9 → cn ((2 ^ f : Nat) - 1 : Int) 9 = (f : Int) := by decide +kernel

def sp_bdC : Spec1 := fun as M Q => match as with
  | [.inr (.inr (.inl (q0, i0))), .inl a, .inl b] => match Nat.beq q0 9 with
    | true => (i0 = 0 ∧ (0 ≤ a ∧ a < 9) ∧ (0 ≤ b ∧ b < 9) ∧ IPpl M) ∧ Q (some (vI (M 52 a b + M 52 b a))) M
    | false => False
  | _ => False
theorem ok_bdC {l : Launch} {ω : WP} : ∀ as M Q, sp_bdC as M Q → Vd l ω 1 92 as M Q := by
  intro as M Q h
  unfold sp_bdC at h
  split at h
  case h_2 => exact h.elim
  rename_i q0 i0 a b
  cases hb : Nat.beq q0 9 with
  | false => rw [hb] at h; exact h.elim
  | true =>
  rw [hb] at h
  obtain ⟨⟨hi, ha, hb2, hP⟩, hQ⟩ := h
  have hb := beq_eq hb
  subst hb
  subst hi
  refine Vd.ok fun hok hal => ?_
  have wa := (hP.2.2.2.2 a b ha.1 ha.2 hb2.1 hb2.2).2.1
  have wb := (hP.2.2.2.2 b a hb2.1 hb2.2 ha.1 ha.2).2.1
  refine Vd_run (GGD_ok (l := l) (ω := ω)) 400 (cut := fun _ => none) (by decide) CutOK_none ?_
  conv => whnf
  repeat' first
    | (refine And.intro (fun h => ?_) (fun h => ?_) <;> (try simp (disch := decide) only [cmp3_lt, cmp3_ge, cmp3_gt, cmp3_le, cmp3_eq, ms_q, ms_f, mf_q, mf_f, mc_q, mc_f, and_self, and_true, true_and, and_false, false_and, or_true, true_or, or_false, false_or, if_true, if_false, not_true_eq_false, not_false_eq_true, eq_self, reduceIte, Int.reduceEq, Int.reduceLT, Int.reduceLE, Int.reduceNeg, Int.reduceAdd, Int.reduceSub, Int.reduceMul, Int.add_sub_cancel] at h) <;> (try simp (disch := omega) only [w32_e, w64_e, td_pos, tm_pos, Int.add_sub_cancel] at h) <;> first | exact absurd rfl h | exact absurd h (by decide) | (exfalso; omega) | (conv => whnf))
    | (refine And.intro (by first | omega | ((try simp (disch := decide) only [cmp3_lt, cmp3_ge, cmp3_gt, cmp3_le, cmp3_eq, ms_q, ms_f, mf_q, mf_f, mc_q, mc_f, and_self, and_true, true_and, and_false, false_and, or_true, true_or, or_false, false_or, if_true, if_false, not_true_eq_false, not_false_eq_true, eq_self, reduceIte, Int.reduceEq, Int.reduceLT, Int.reduceLE, Int.reduceNeg, Int.reduceAdd, Int.reduceSub, Int.reduceMul, Int.add_sub_cancel]); (try simp (disch := omega) only [w32_e, w64_e, td_pos, tm_pos, Int.add_sub_cancel]); first | assumption | omega) | ((try simp (disch := decide) only [cmp3_lt, cmp3_ge, cmp3_gt, cmp3_le, cmp3_eq, ms_q, ms_f, mf_q, mf_f, mc_q, mc_f, and_self, and_true, true_and, and_false, false_and, or_true, true_or, or_false, false_or, if_true, if_false, not_true_eq_false, not_false_eq_true, eq_self, reduceIte, Int.reduceEq, Int.reduceLT, Int.reduceLE, Int.reduceNeg, Int.reduceAdd, Int.reduceSub, Int.reduceMul, Int.add_sub_cancel]); (try simp (disch := omega) only [w32_e, w64_e, td_pos, tm_pos, Int.add_sub_cancel]); ((repeat' (first | assumption | omega | with_reducible rfl | apply And.intro)); done))) ?_; conv => whnf)
    | (intro v; intro hv; conv => whnf)
  all_goals ((try simp (disch := decide) only [cmp3_lt, cmp3_ge, cmp3_gt, cmp3_le, cmp3_eq, ms_q, ms_f, mf_q, mf_f, mc_q, mc_f, and_self, and_true, true_and, and_false, false_and, or_true, true_or, or_false, false_or, if_true, if_false, not_true_eq_false, not_false_eq_true, eq_self, reduceIte, Int.reduceEq, Int.reduceLT, Int.reduceLE, Int.reduceNeg, Int.reduceAdd, Int.reduceSub, Int.reduceMul, Int.add_sub_cancel] at *); (try simp (disch := omega) only [w32_e, w64_e, td_pos, tm_pos, Int.add_sub_cancel] at *))
  all_goals exact hQ

def sp_tpC : Spec1 := fun as M Q => match as with
  | [.inr (.inr (.inl (q0, i0))), .inl l0, .inl r, .inl v0] => match Nat.beq q0 9 with
    | true => (i0 = 0 ∧ (1 ≤ l0 ∧ l0 < 512) ∧ (0 ≤ r ∧ r ≤ l0) ∧ (l0.toNat &&& r.toNat = r.toNat) ∧ (-60 ≤ v0 ∧ v0 ≤ 60) ∧ (-1000000 ≤ M 53 0 (l0 - r) ∧ M 53 0 (l0 - r) ≤ 40000)) ∧ ∀ M9, ((∀ p, p ≠ 53 → p ≠ 54 → M9 p = M p) ∧ M9 53 0 = (if ¬ M 53 0 (l0 - r) = -1000000 ∧ M 53 0 l0 < M 53 0 (l0 - r) + v0 then updI (M 53 0) l0 (M 53 0 (l0 - r) + v0) else M 53 0) ∧ M9 54 0 = (if ¬ M 53 0 (l0 - r) = -1000000 ∧ M 53 0 l0 < M 53 0 (l0 - r) + v0 then updI (M 54 0) l0 r else M 54 0)) → Q none M9
    | false => False
  | _ => False
theorem ok_tpC {l : Launch} {ω : WP} : ∀ as M Q, sp_tpC as M Q → Vd l ω 1 91 as M Q := by
  intro as M Q h
  unfold sp_tpC at h
  split at h
  case h_2 => exact h.elim
  rename_i q0 i0 l0 r v0
  cases hb : Nat.beq q0 9 with
  | false => rw [hb] at h; exact h.elim
  | true =>
  rw [hb] at h
  obtain ⟨⟨hi, h1, h2, h3, h4, h5⟩, hQ⟩ := h
  have hb := beq_eq hb
  subst hb
  subst hi
  refine Vd.ok fun hok hal => ?_
  have an : (Int32.ofInt l0 &&& Int32.ofInt ((Int32.ofInt r ^^^ Int32.ofInt (-1)).toInt)).toInt = l0 - r := by
    rw [andn_e (by omega) (by omega) (by omega) (by omega), h3]
    omega
  refine Vd_run (GGD_ok (l := l) (ω := ω)) 400 (cut := fun _ => none) (by decide) CutOK_none ?_
  conv => whnf
  repeat' first
    | (refine And.intro (fun h => ?_) (fun h => ?_) <;> (try simp (disch := decide) only [cmp3_lt, cmp3_ge, cmp3_gt, cmp3_le, cmp3_eq, ms_q, ms_f, mf_q, mf_f, mc_q, mc_f, and_self, and_true, true_and, and_false, false_and, or_true, true_or, or_false, false_or, if_true, if_false, not_true_eq_false, not_false_eq_true, eq_self, reduceIte, Int.reduceEq, Int.reduceLT, Int.reduceLE, Int.reduceNeg, Int.reduceAdd, Int.reduceSub, Int.reduceMul, Int.add_sub_cancel] at h) <;> (try simp (disch := omega) only [w32_e, w64_e, td_pos, tm_pos, Int.add_sub_cancel, an] at h) <;> first | exact absurd rfl h | exact absurd h (by decide) | (exfalso; omega) | (conv => whnf))
    | (refine And.intro (by first | omega | ((try simp (disch := decide) only [cmp3_lt, cmp3_ge, cmp3_gt, cmp3_le, cmp3_eq, ms_q, ms_f, mf_q, mf_f, mc_q, mc_f, and_self, and_true, true_and, and_false, false_and, or_true, true_or, or_false, false_or, if_true, if_false, not_true_eq_false, not_false_eq_true, eq_self, reduceIte, Int.reduceEq, Int.reduceLT, Int.reduceLE, Int.reduceNeg, Int.reduceAdd, Int.reduceSub, Int.reduceMul, Int.add_sub_cancel]); (try simp (disch := omega) only [w32_e, w64_e, td_pos, tm_pos, Int.add_sub_cancel, an]); first | assumption | omega) | ((try simp (disch := decide) only [cmp3_lt, cmp3_ge, cmp3_gt, cmp3_le, cmp3_eq, ms_q, ms_f, mf_q, mf_f, mc_q, mc_f, and_self, and_true, true_and, and_false, false_and, or_true, true_or, or_false, false_or, if_true, if_false, not_true_eq_false, not_false_eq_true, eq_self, reduceIte, Int.reduceEq, Int.reduceLT, Int.reduceLE, Int.reduceNeg, Int.reduceAdd, Int.reduceSub, Int.reduceMul, Int.add_sub_cancel]); (try simp (disch := omega) only [w32_e, w64_e, td_pos, tm_pos, Int.add_sub_cancel, an]); ((repeat' (first | assumption | omega | with_reducible rfl | apply And.intro)); done))) ?_; conv => whnf)
    | (intro v; intro hv; conv => whnf)
  all_goals ((try simp (disch := decide) only [cmp3_lt, cmp3_ge, cmp3_gt, cmp3_le, cmp3_eq, ms_q, ms_f, mf_q, mf_f, mc_q, mc_f, and_self, and_true, true_and, and_false, false_and, or_true, true_or, or_false, false_or, if_true, if_false, not_true_eq_false, not_false_eq_true, eq_self, reduceIte, Int.reduceEq, Int.reduceLT, Int.reduceLE, Int.reduceNeg, Int.reduceAdd, Int.reduceSub, Int.reduceMul, Int.add_sub_cancel] at *); (try simp (disch := omega) only [w32_e, w64_e, td_pos, tm_pos, Int.add_sub_cancel, an] at *))
  all_goals refine hQ _ ?_
  all_goals first
    | (rw [if_neg (fun z => z.1 (by assumption)), if_neg (fun z => z.1 (by assumption))]
       exact ⟨fun _ _ _ => rfl, rfl, rfl⟩)
    | (rw [if_neg (fun z => by omega), if_neg (fun z => by omega)]
       exact ⟨fun _ _ _ => rfl, rfl, rfl⟩)
    | (rw [if_pos ⟨by assumption, by omega⟩, if_pos ⟨by assumption, by omega⟩]
       refine ⟨fun p a b => by rw [ms_q b, ms_q a], ?_, ?_⟩
       · rw [ms_q (by decide), ms_n]
       · rw [ms_n, ms_q (by decide)])

def GLE : List (Nat × Nat × Spec1) := (92, 1, sp_bdC) :: (91, 1, sp_tpC) :: GLD
abbrev GGE : Env1 := fun n => getG n GLE
theorem GGE_all {l : Launch} {ω : WP} : ∀ e ∈ GLE, ∀ as M Q, e.2.2 as M Q → Vd l ω e.2.1 e.1 as M Q := List.forall_mem_cons.mpr ⟨ok_bdC, List.forall_mem_cons.mpr ⟨ok_tpC, GGD_all⟩⟩
theorem GGE_ok {l : Launch} {ω : WP} : GOK l ω GGE := getG_ok GLE GGE_all
theorem tr_step {W F A B : Int → Int} {le : Int} {sg vl : Nat → Int} {x : Int × Int} {m R : Nat} {l0 : Int} {v53 v54 : Int → Int} (em : l0 = (m : Int)) (h1 : R ≤ m) (h2 : 1 ≤ R) (hA : A = updI W l0 x.1) (hB : B = updI F l0 x.2) (hl : le ≤ sg R)
    (e1 : v53 = if ¬ A (l0 - (R : Int)) = -1000000 ∧ A l0 < A (l0 - (R : Int)) + vl R then updI A l0 (A (l0 - (R : Int)) + vl R) else A) (e2 : v54 = if ¬ A (l0 - (R : Int)) = -1000000 ∧ A l0 < A (l0 - (R : Int)) + vl R then updI B l0 (R : Int) else B) :
    v53 = updI W l0 (rpS (-1000000) le sg vl W m x R).1 ∧ v54 = updI F l0 (rpS (-1000000) le sg vl W m x R).2 := by
  have a1 : A (l0 - (R : Int)) = W ((m - R : Nat) : Int) := by
    rw [hA]
    unfold updI
    rw [if_neg (by omega)]
    congr 1
    omega
  have a2 : A l0 = x.1 := by
    rw [hA]
    unfold updI
    rw [if_pos rfl]
  rw [a1, a2] at e1 e2
  unfold rpS
  by_cases c : ¬ W ((m - R : Nat) : Int) = -1000000 ∧ x.1 < W ((m - R : Nat) : Int) + vl R
  · rw [if_pos c] at e1 e2
    rw [if_pos ⟨hl, c⟩, e1, e2, hA, hB, updI_2, updI_2]
    exact ⟨rfl, rfl⟩
  · rw [if_neg c] at e1 e2
    rw [if_neg (fun z => c z.2), e1, e2, hA, hB]
    exact ⟨rfl, rfl⟩
theorem tr_skip {W : Int → Int} {N le : Int} {sg vl : Nat → Int} {x : Int × Int} {m R : Nat} (hl : ¬ le ≤ sg R) : rpS N le sg vl W m x R = x := if_neg (fun z => hl z.1)
theorem bt_lt {l0 : Int} {p y : Nat} (h0 : 0 ≤ l0) (h1 : l0 < 2 ^ p) (hb : btN l0.toNat y = true) : y < p := by
  rcases Nat.lt_or_ge y p with z | z
  · exact z
  · have a := bt_1.mp hb
    rw [Int.toNat_of_nonneg h0] at a
    have b := bit_hi2 (x := l0) (n := (p : Int)) (g := (y : Int)) h0 (by rw [Int.toNat_natCast]; exact h1) (by omega) (by omega)
    omega

def sp_ttC : Spec1 := fun as M Q => match as with
  | [.inr (.inr (.inl (q0, i0))), .inl l0, .inl f, .inl u0, .inl le] => match Nat.beq q0 9 with
    | true => (i0 = 0 ∧ (1 ≤ l0 ∧ l0 < 512) ∧ (0 ≤ f ∧ f < u0 ∧ u0 < M 9 0 0) ∧ f.toNat = loN l0.toNat ∧ btN l0.toNat u0.toNat = true ∧ IPpl M ∧ (∀ j, 0 ≤ j → j < l0 → -1000000 ≤ M 53 0 j ∧ M 53 0 j ≤ 40000)) ∧ ∀ M9, ((∀ p, p ≠ 53 → p ≠ 54 → M9 p = M p) ∧ M9 53 0 = updI (M 53 0) l0 (List.foldl (rpS (-1000000) le (sgR (M 50 0) (M 9 0 0)) (fun r => wiR (M 52) (M 9 0 0) r (M 9 0 0)) (M 53 0) l0.toNat) (M 53 0 l0, M 54 0 l0) (thL f.toNat l0.toNat u0.toNat u0.toNat)).1 ∧ M9 54 0 = updI (M 54 0) l0 (List.foldl (rpS (-1000000) le (sgR (M 50 0) (M 9 0 0)) (fun r => wiR (M 52) (M 9 0 0) r (M 9 0 0)) (M 53 0) l0.toNat) (M 53 0 l0, M 54 0 l0) (thL f.toNat l0.toNat u0.toNat u0.toNat)).2) → Q none M9
    | false => False
  | _ => False
theorem ok_ttC {l : Launch} {ω : WP} : ∀ as M Q, sp_ttC as M Q → Vd l ω 2 90 as M Q := by
  intro as M Q h
  unfold sp_ttC at h
  split at h
  case h_2 => exact h.elim
  rename_i q0 i0 l0 f u0 le
  cases hb : Nat.beq q0 9 with
  | false => rw [hb] at h; exact h.elim
  | true =>
  rw [hb] at h
  obtain ⟨⟨hi, h1, h2, hf2, hb2, hP, hW⟩, hQ⟩ := h
  have hb := beq_eq hb
  subst hb
  subst hi
  refine Vd.ok fun hok hal => ?_
  have p9 := hP.2.1
  have e9 := p9
  have e50 := p9
  have e52 := p9
  have eo2 := p9
  have eo3 := p9
  have key : ∀ n9, CutOK l ω 2 90 (cutL [(5, [0, 1, 2, 3, 4, 5], fun kk vs M9 => ∃ y : Int, vs = [vR 9 0, vI l0, vI f, vI u0, vI le, vI y] ∧ kk = (100 - y).toNat ∧ (f + 1 ≤ y ∧ y ≤ u0) ∧ (∀ p, p ≠ 53 → p ≠ 54 → M9 p = M p) ∧ M9 53 0 = updI (M 53 0) l0 (List.foldl (rpS (-1000000) le (sgR (M 50 0) (M 9 0 0)) (fun r => wiR (M 52) (M 9 0 0) r (M 9 0 0)) (M 53 0) l0.toNat) (M 53 0 l0, M 54 0 l0) (thL f.toNat l0.toNat u0.toNat y.toNat)).1 ∧ M9 54 0 = updI (M 54 0) l0 (List.foldl (rpS (-1000000) le (sgR (M 50 0) (M 9 0 0)) (fun r => wiR (M 52) (M 9 0 0) r (M 9 0 0)) (M 53 0) l0.toNat) (M 53 0 l0, M 54 0 l0) (thL f.toNat l0.toNat u0.toNat y.toNat)).2)] n9) Q := by
    refine loops (GGE_ok (l := l) (ω := ω)) 500 _ ?_
    refine List.forall_mem_cons.mpr ⟨?_, fun _ h => absurd h List.not_mem_nil⟩
    · rintro n9 vs M9 ⟨y, rfl, rfl, y0, fr, h53, h54⟩
      have e9 : M9 9 = M 9 := fr 9 (by decide) (by decide)
      have e50 : M9 50 = M 50 := fr 50 (by decide) (by decide)
      have e52 : M9 52 = M 52 := fr 52 (by decide) (by decide)
      have hP9 : IPpl M9 := by simp (disch := decide) only [IPpl, fr]; exact hP
      have sf := hP.2.2.2.1 f (by omega) (by omega)
      have sh := hP.2.2.2.1 u0 (by omega) (by omega)
      have sy := hP.2.2.2.1 y (by omega) (by omega)
      have wq := fun a b (a0 : 0 ≤ a) (a1 : a < 9) (b0 : 0 ≤ b) (b1 : b < 9) => (hP.2.2.2.2 a b a0 a1 b0 b1).2.1
      have w1 := wq f u0 (by omega) (by omega) (by omega) (by omega)
      have w2 := wq u0 f (by omega) (by omega) (by omega) (by omega)
      have w3 := wq f y (by omega) (by omega) (by omega) (by omega)
      have w4 := wq y f (by omega) (by omega) (by omega) (by omega)
      have w5 := wq y u0 (by omega) (by omega) (by omega) (by omega)
      have w6 := wq u0 y (by omega) (by omega) (by omega) (by omega)
      have ey : w32 (y + 1) = y + 1 := w32_e (by omega) (by omega)
      have yn : (y + 1).toNat = y.toNat + 1 := by omega
      have cf : ((f.toNat : Nat) : Int) = f := Int.toNat_of_nonneg (by omega)
      have ch : ((u0.toNat : Nat) : Int) = u0 := Int.toNat_of_nonneg (by omega)
      have cy : ((y.toNat : Nat) : Int) = y := Int.toNat_of_nonneg (by omega)
      have eo2 : y < u0 → (Int32.ofInt ((2 ^ f.toNat : Nat) : Int) ||| Int32.ofInt ((2 ^ y.toNat : Nat) : Int)).toInt = ((2 ^ f.toNat + 2 ^ y.toNat : Nat) : Int) := fun z => or2_t f.toNat (by omega) y.toNat (by omega) (by omega)
      have eo3 : y < u0 → (Int32.ofInt ((2 ^ f.toNat + 2 ^ y.toNat : Nat) : Int) ||| Int32.ofInt ((2 ^ u0.toNat : Nat) : Int)).toInt = ((2 ^ f.toNat + 2 ^ y.toNat + 2 ^ u0.toNat : Nat) : Int) := fun z => or3_t f.toNat (by omega) y.toNat (by omega) u0.toNat (by omega) (by omega) (by omega)
      have sg := fun z : y < u0 => sg3 (S := M 50 0) (p := M 9 0 0) (f := f.toNat) (k := y.toNat) (h := u0.toNat) (by omega) (by omega) (by omega) (by omega)
      have wi := fun z : y < u0 => wi3 (w := M 52) (p := M 9 0 0) (f := f.toNat) (k := y.toNat) (h := u0.toNat) (by omega) (by omega) (by omega) (by omega)
      rw [cf, ch, cy] at sg wi
      have bt : bitI l0 y = 1 ↔ btN l0.toNat y.toNat = true := by
        rw [bt_1, Int.toNat_of_nonneg (show 0 ≤ l0 by omega), cy]
      have rin := fun (z : y < u0) (b : bitI l0 y = 1) => rp_in (m := l0.toNat) (by omega) (by omega) (by rw [← hf2]; exact hiL_3 (f := f.toNat) (l := l0.toNat) (y := y.toNat) (h := u0.toNat) (by omega) (by omega) (by omega) hb2 (bt.mp b))
      have tcond : y < u0 → bitI l0 y = 1 → (1 ≤ l0 ∧ l0 < 512) ∧ (0 ≤ ((2 ^ f.toNat + 2 ^ y.toNat + 2 ^ u0.toNat : Nat) : Int) ∧ ((2 ^ f.toNat + 2 ^ y.toNat + 2 ^ u0.toNat : Nat) : Int) ≤ l0) ∧ (l0.toNat &&& ((2 ^ f.toNat + 2 ^ y.toNat + 2 ^ u0.toNat : Nat) : Int).toNat = ((2 ^ f.toNat + 2 ^ y.toNat + 2 ^ u0.toNat : Nat) : Int).toNat) ∧ (-60 ≤ M 52 f y + M 52 y f + (M 52 f u0 + M 52 u0 f) + (M 52 y u0 + M 52 u0 y) ∧ M 52 f y + M 52 y f + (M 52 f u0 + M 52 u0 f) + (M 52 y u0 + M 52 u0 y) ≤ 60) ∧ (-1000000 ≤ M9 53 0 (l0 - ((2 ^ f.toNat + 2 ^ y.toNat + 2 ^ u0.toNat : Nat) : Int)) ∧ M9 53 0 (l0 - ((2 ^ f.toNat + 2 ^ y.toNat + 2 ^ u0.toNat : Nat) : Int)) ≤ 40000) := fun z b => by
        obtain ⟨r1, r2, r3, -⟩ := rin z b
        rw [Int.toNat_natCast]
        refine ⟨h1, ⟨by omega, by omega⟩, r3, by omega, ?_⟩
        rw [h53]
        unfold updI
        rw [if_neg (by omega)]
        exact hW _ (by omega) (by omega)
      show wpH _ 500 _ 90 _ true 5 [vR 9 0, vI l0, vI f, vI u0, vI le, vI y, vU, vU] [] _ Q
      conv => whnf
      repeat' first
        | (refine And.intro (fun h => ?_) (fun h => ?_) <;> (try simp (disch := decide) only [cmp3_lt, cmp3_ge, cmp3_gt, cmp3_le, cmp3_eq, ms_q, ms_f, mf_q, mf_f, mc_q, mc_f, and_self, and_true, true_and, and_false, false_and, or_true, true_or, or_false, false_or, if_true, if_false, not_true_eq_false, not_false_eq_true, eq_self, reduceIte, Int.reduceEq, Int.reduceLT, Int.reduceLE, Int.reduceNeg, Int.reduceAdd, Int.reduceSub, Int.reduceMul, Int.add_sub_cancel] at h) <;> (try simp (disch := omega) only [w32_e, w64_e, td_pos, tm_pos, Int.add_sub_cancel, e9, e50, e52, bit_e, pw_e, eo2, eo3] at h) <;> first | exact absurd rfl h | exact absurd h (by decide) | (exfalso; omega) | (conv => whnf))
        | (refine And.intro (by first | omega | ((try simp (disch := decide) only [cmp3_lt, cmp3_ge, cmp3_gt, cmp3_le, cmp3_eq, ms_q, ms_f, mf_q, mf_f, mc_q, mc_f, and_self, and_true, true_and, and_false, false_and, or_true, true_or, or_false, false_or, if_true, if_false, not_true_eq_false, not_false_eq_true, eq_self, reduceIte, Int.reduceEq, Int.reduceLT, Int.reduceLE, Int.reduceNeg, Int.reduceAdd, Int.reduceSub, Int.reduceMul, Int.add_sub_cancel]); (try simp (disch := omega) only [w32_e, w64_e, td_pos, tm_pos, Int.add_sub_cancel, e9, e50, e52, bit_e, pw_e, eo2, eo3]); first | assumption | omega) | exact ⟨rfl, ⟨by omega, by omega⟩, ⟨by omega, by omega⟩, hP9⟩ | ((try simp (disch := decide) only [cmp3_lt, cmp3_ge, cmp3_gt, cmp3_le, cmp3_eq, ms_q, ms_f, mf_q, mf_f, mc_q, mc_f, and_self, and_true, true_and, and_false, false_and, or_true, true_or, or_false, false_or, if_true, if_false, not_true_eq_false, not_false_eq_true, eq_self, reduceIte, Int.reduceEq, Int.reduceLT, Int.reduceLE, Int.reduceNeg, Int.reduceAdd, Int.reduceSub, Int.reduceMul, Int.add_sub_cancel]); (try simp (disch := omega) only [w32_e, w64_e, td_pos, tm_pos, Int.add_sub_cancel, e9, e50, e52, bit_e, pw_e, eo2, eo3]); exact tcond (by omega) (by omega)) | ((try simp (disch := decide) only [cmp3_lt, cmp3_ge, cmp3_gt, cmp3_le, cmp3_eq, ms_q, ms_f, mf_q, mf_f, mc_q, mc_f, and_self, and_true, true_and, and_false, false_and, or_true, true_or, or_false, false_or, if_true, if_false, not_true_eq_false, not_false_eq_true, eq_self, reduceIte, Int.reduceEq, Int.reduceLT, Int.reduceLE, Int.reduceNeg, Int.reduceAdd, Int.reduceSub, Int.reduceMul, Int.add_sub_cancel]); (try simp (disch := omega) only [w32_e, w64_e, td_pos, tm_pos, Int.add_sub_cancel, e9, e50, e52, bit_e, pw_e, eo2, eo3]); ((repeat' (first | assumption | omega | with_reducible rfl | apply And.intro)); done))) ?_; conv => whnf)
        | (intro v; intro hv; conv => whnf)
      all_goals first
        | (have e8 : y = u0 := by omega
           rw [e8] at h53 h54
           exact hQ M9 ⟨fr, h53, h54⟩)
        | (have nb : ¬ bitI l0 y = 1 := by assumption
           have nb2 : (Nat.blt f.toNat y.toNat && btN l0.toNat y.toNat) = false := by
             cases hx : btN l0.toNat y.toNat with
             | true => exact absurd (bt.mpr hx) nb
             | false => rw [Bool.and_false]
           refine ⟨_, ?_, y + 1, by rw [ey], rfl, ⟨by omega, by omega⟩, fr, ?_, ?_⟩
           · omega
           · rw [yn, thL_s, nb2]
             simp only [cond_false, List.append_nil]
             exact h53
           · rw [yn, thL_s, nb2]
             simp only [cond_false, List.append_nil]
             exact h54)
        | (have yb : bitI l0 y = 1 := by assumption
           have yu : y < u0 := by omega
           have nb2 : (Nat.blt f.toNat y.toNat && btN l0.toNat y.toNat) = true := by
             rw [bt.mp yb, Bool.and_true]
             exact Nat.ble_eq_true_of_le (by omega)
           have sg' := sg yu
           have wi' := wi yu
           obtain ⟨r1, r2, r3, -⟩ := rin yu yb
           first
             | (have ns : ¬ le ≤ sgR (M 50 0) (M 9 0 0) (2 ^ f.toNat + 2 ^ y.toNat + 2 ^ u0.toNat) := by rw [sg']; omega
                refine ⟨_, ?_, y + 1, by rw [ey], rfl, ⟨by omega, by omega⟩, fr, ?_, ?_⟩
                · omega
                · rw [yn, thL_s, nb2]
                  simp only [cond_true, List.foldl_append, List.foldl_cons, List.foldl_nil]
                  rw [tr_skip ns]
                  exact h53
                · rw [yn, thL_s, nb2]
                  simp only [cond_true, List.foldl_append, List.foldl_cons, List.foldl_nil]
                  rw [tr_skip ns]
                  exact h54)
             | (have ns : le ≤ sgR (M 50 0) (M 9 0 0) (2 ^ f.toNat + 2 ^ y.toNat + 2 ^ u0.toNat) := by rw [sg']; omega
                have er : (Int32.ofInt (Int32.ofInt (Int32.ofInt 1 <<< (Int32.ofInt f &&& 31)).toInt ||| Int32.ofInt (Int32.ofInt 1 <<< (Int32.ofInt y &&& 31)).toInt).toInt ||| Int32.ofInt (Int32.ofInt 1 <<< (Int32.ofInt u0 &&& 31)).toInt).toInt = ((2 ^ f.toNat + 2 ^ y.toNat + 2 ^ u0.toNat : Nat) : Int) := by
                  rw [pw_e (f := f) (by omega) (by omega), pw_e (f := y) (by omega) (by omega), pw_e (f := u0) (by omega) (by omega), eo2 yu, eo3 yu]
                have ev : w32 (w32 (M9 52 f y + M9 52 y f + (M9 52 f u0 + M9 52 u0 f)) + (M9 52 y u0 + M9 52 u0 y)) = (fun r => wiR (M 52) (M 9 0 0) r (M 9 0 0)) (2 ^ f.toNat + 2 ^ y.toNat + 2 ^ u0.toNat) := by
                  show _ = wiR (M 52) (M 9 0 0) (2 ^ f.toNat + 2 ^ y.toNat + 2 ^ u0.toNat) (M 9 0 0)
                  rw [wi', e52, w32_e (x := M 52 f y + M 52 y f + (M 52 f u0 + M 52 u0 f)) (by omega) (by omega), w32_e (by omega) (by omega)]
                  omega
                rw [er, ev] at hv
                have ts := tr_step (sg := sgR (M 50 0) (M 9 0 0)) (vl := fun r => wiR (M 52) (M 9 0 0) r (M 9 0 0)) (Int.toNat_of_nonneg (show 0 ≤ l0 by omega)).symm r1 (by omega) h53 h54 ns hv.2.1 hv.2.2
                refine ⟨_, ?_, y + 1, by rw [ey], rfl, ⟨by omega, by omega⟩, fun p a b => (hv.1 p a b).trans (fr p a b), ?_, ?_⟩
                · omega
                · rw [yn, thL_s, nb2]
                  simp only [cond_true, List.foldl_append, List.foldl_cons, List.foldl_nil]
                  exact ts.1
                · rw [yn, thL_s, nb2]
                  simp only [cond_true, List.foldl_append, List.foldl_cons, List.foldl_nil]
                  exact ts.2))
  refine Vd_run (GGE_ok (l := l) (ω := ω)) 500 (hC := key 1000) (by decide) ?_
  conv => whnf
  repeat' first
    | (refine And.intro (fun h => ?_) (fun h => ?_) <;> (try simp (disch := decide) only [cmp3_lt, cmp3_ge, cmp3_gt, cmp3_le, cmp3_eq, ms_q, ms_f, mf_q, mf_f, mc_q, mc_f, and_self, and_true, true_and, and_false, false_and, or_true, true_or, or_false, false_or, if_true, if_false, not_true_eq_false, not_false_eq_true, eq_self, reduceIte, Int.reduceEq, Int.reduceLT, Int.reduceLE, Int.reduceNeg, Int.reduceAdd, Int.reduceSub, Int.reduceMul, Int.add_sub_cancel] at h) <;> (try simp (disch := omega) only [w32_e, w64_e, td_pos, tm_pos, Int.add_sub_cancel, e9, e50, e52, bit_e, pw_e, eo2, eo3] at h) <;> first | exact absurd rfl h | exact absurd h (by decide) | (exfalso; omega) | (conv => whnf))
    | (refine And.intro (by first | omega | ((try simp (disch := decide) only [cmp3_lt, cmp3_ge, cmp3_gt, cmp3_le, cmp3_eq, ms_q, ms_f, mf_q, mf_f, mc_q, mc_f, and_self, and_true, true_and, and_false, false_and, or_true, true_or, or_false, false_or, if_true, if_false, not_true_eq_false, not_false_eq_true, eq_self, reduceIte, Int.reduceEq, Int.reduceLT, Int.reduceLE, Int.reduceNeg, Int.reduceAdd, Int.reduceSub, Int.reduceMul, Int.add_sub_cancel]); (try simp (disch := omega) only [w32_e, w64_e, td_pos, tm_pos, Int.add_sub_cancel, e9, e50, e52, bit_e, pw_e, eo2, eo3]); first | assumption | omega) | exact ⟨rfl, ⟨by omega, by omega⟩, ⟨by omega, by omega⟩, hP9⟩ | ((try simp (disch := decide) only [cmp3_lt, cmp3_ge, cmp3_gt, cmp3_le, cmp3_eq, ms_q, ms_f, mf_q, mf_f, mc_q, mc_f, and_self, and_true, true_and, and_false, false_and, or_true, true_or, or_false, false_or, if_true, if_false, not_true_eq_false, not_false_eq_true, eq_self, reduceIte, Int.reduceEq, Int.reduceLT, Int.reduceLE, Int.reduceNeg, Int.reduceAdd, Int.reduceSub, Int.reduceMul, Int.add_sub_cancel]); (try simp (disch := omega) only [w32_e, w64_e, td_pos, tm_pos, Int.add_sub_cancel, e9, e50, e52, bit_e, pw_e, eo2, eo3]); exact tcond (by omega) (by omega)) | ((try simp (disch := decide) only [cmp3_lt, cmp3_ge, cmp3_gt, cmp3_le, cmp3_eq, ms_q, ms_f, mf_q, mf_f, mc_q, mc_f, and_self, and_true, true_and, and_false, false_and, or_true, true_or, or_false, false_or, if_true, if_false, not_true_eq_false, not_false_eq_true, eq_self, reduceIte, Int.reduceEq, Int.reduceLT, Int.reduceLE, Int.reduceNeg, Int.reduceAdd, Int.reduceSub, Int.reduceMul, Int.add_sub_cancel]); (try simp (disch := omega) only [w32_e, w64_e, td_pos, tm_pos, Int.add_sub_cancel, e9, e50, e52, bit_e, pw_e, eo2, eo3]); ((repeat' (first | assumption | omega | with_reducible rfl | apply And.intro)); done))) ?_; conv => whnf)
    | (intro v; intro hv; conv => whnf)
  all_goals
    (refine ⟨_, ?_, f + 1, by rw [w32_e (by omega) (by omega)], rfl, ⟨by omega, by omega⟩, fun _ _ _ => rfl, ?_, ?_⟩
     · omega
     · rw [thL_f _ (by omega)]
       exact updI_0.symm
     · rw [thL_f _ (by omega)]
       exact updI_0.symm)

def GLF : List (Nat × Nat × Spec1) := (90, 2, sp_ttC) :: GLE
abbrev GGF : Env1 := fun n => getG n GLF
theorem GGF_all {l : Launch} {ω : WP} : ∀ e ∈ GLF, ∀ as M Q, e.2.2 as M Q → Vd l ω e.2.1 e.1 as M Q := List.forall_mem_cons.mpr ⟨ok_ttC, GGE_all⟩
theorem GGF_ok {l : Launch} {ω : WP} : GOK l ω GGF := getG_ok GLF GGF_all
theorem fold_cg {N le : Int} {sg vl : Nat → Int} {W W2 : Int → Int} {m : Nat} (hW : ∀ j : Nat, j < m → W2 (j : Int) = W (j : Int)) : ∀ (L : List Nat) (x : Int × Int), (∀ r, r ∈ L → 1 ≤ r ∧ r ≤ m) → L.foldl (rpS N le sg vl W2 m) x = L.foldl (rpS N le sg vl W m) x
  | [], _, _ => rfl
  | r :: L, x, h => by
    have q := h r List.mem_cons_self
    have e : rpS N le sg vl W2 m x r = rpS N le sg vl W m x r := by
      unfold rpS
      rw [hW (m - r) (by omega)]
    rw [List.foldl_cons, List.foldl_cons, e]
    exact fold_cg hW L _ (fun z hz => h z (List.mem_cons_of_mem _ hz))
theorem th_post {W F A B v53 v54 : Int → Int} {N le l0 : Int} {sg vl : Nat → Int} {m : Nat} {x : Int × Int} {L : List Nat} (em : l0 = (m : Int)) (hA : A = updI W l0 x.1) (hB : B = updI F l0 x.2) (hL : ∀ r, r ∈ L → 1 ≤ r ∧ r ≤ m) (e1 : v53 = updI A l0 (L.foldl (rpS N le sg vl A m) (A l0, B l0)).1) (e2 : v54 = updI B l0 (L.foldl (rpS N le sg vl A m) (A l0, B l0)).2) :
    v53 = updI W l0 (L.foldl (rpS N le sg vl W m) x).1 ∧ v54 = updI F l0 (L.foldl (rpS N le sg vl W m) x).2 := by
  have ex : (A l0, B l0) = x := by
    rw [hA, hB]
    unfold updI
    rw [if_pos rfl, if_pos rfl]
  have c := fold_cg (N := N) (le := le) (sg := sg) (vl := vl) (W := W) (W2 := A) (m := m) (fun j hj => by
    rw [hA]
    unfold updI
    rw [if_neg (by omega)]) L x hL
  rw [ex, c] at e1 e2
  rw [e1, e2, hA, hB, updI_2, updI_2]
  exact ⟨rfl, rfl⟩

def sp_trC : Spec1 := fun as M Q => match as with
  | [.inr (.inr (.inl (q0, i0))), .inl l0, .inl le] => match Nat.beq q0 9 with
    | true => (i0 = 0 ∧ (1 ≤ l0 ∧ l0 < 512) ∧ l0 < 2 ^ (M 9 0 0).toNat ∧ IPpl M ∧ (∀ j, 0 ≤ j → j < l0 → -1000000 ≤ M 53 0 j ∧ M 53 0 j ≤ 40000)) ∧ ∀ M9, ((∀ p, p ≠ 53 → p ≠ 54 → M9 p = M p) ∧ M9 53 0 = updI (M 53 0) l0 (List.foldl (rpS (-1000000) le (sgR (M 50 0) (M 9 0 0)) (fun r => wiR (M 52) (M 9 0 0) r (M 9 0 0)) (M 53 0) l0.toNat) (M 53 0 l0, M 54 0 l0) (hiL (loN l0.toNat) l0.toNat 9)).1 ∧ M9 54 0 = updI (M 54 0) l0 (List.foldl (rpS (-1000000) le (sgR (M 50 0) (M 9 0 0)) (fun r => wiR (M 52) (M 9 0 0) r (M 9 0 0)) (M 53 0) l0.toNat) (M 53 0 l0, M 54 0 l0) (hiL (loN l0.toNat) l0.toNat 9)).2) → Q none M9
    | false => False
  | _ => False
theorem ok_trC {l : Launch} {ω : WP} : ∀ as M Q, sp_trC as M Q → Vd l ω 3 89 as M Q := by
  intro as M Q h
  unfold sp_trC at h
  split at h
  case h_2 => exact h.elim
  rename_i q0 i0 l0 le
  cases hb : Nat.beq q0 9 with
  | false => rw [hb] at h; exact h.elim
  | true =>
  rw [hb] at h
  obtain ⟨⟨hi, h1, hpl, hP, hW⟩, hQ⟩ := h
  have hb := beq_eq hb
  subst hb
  subst hi
  refine Vd.ok fun hok hal => ?_
  have p9 := hP.2.1
  obtain ⟨lw, lt1, lt2, -⟩ := low_t l0.toNat (by omega) (by omega)
  rw [Int.toNat_of_nonneg (show 0 ≤ l0 by omega)] at lw
  obtain ⟨f, ef⟩ : ∃ f : Int, f = ((loN l0.toNat : Nat) : Int) := ⟨_, rfl⟩
  have hf2 : f.toNat = loN l0.toNat := by omega
  have fp : f < M 9 0 0 := by
    have := bt_lt (l0 := l0) (p := (M 9 0 0).toNat) (by omega) hpl lt2
    omega
  rw [← hf2] at lw lt2
  have xd := p9
  have h99 : hiL f.toNat l0.toNat 9 = hiL f.toNat l0.toNat (M 9 0 0).toNat := by
    have := hiL_hi (f := f.toNat) (m := l0.toNat) (p := (M 9 0 0).toNat) (fun x hx => by
      cases hb : btN l0.toNat x with
      | true =>
        have := bt_lt (l0 := l0) (p := (M 9 0 0).toNat) (by omega) hpl hb
        omega
      | false => rfl) (9 - (M 9 0 0).toNat)
    rw [← this]
    congr 1
    omega
  rw [← hf2, h99] at hQ
  have e9 := p9
  have e50 := p9
  have e52 := p9
  have eo2 := p9
  have tc2 := p9
  have tc3 := p9
  have key : ∀ n9, CutOK l ω 3 89 (cutL [(15, [0, 1, 2, 3, 4], fun kk vs M9 => ∃ u0 : Int, vs = [vR 9 0, vI l0, vI le, vI f, vI u0] ∧ kk = (100 - u0).toNat ∧ (f + 1 ≤ u0 ∧ u0 ≤ M 9 0 0) ∧ (∀ p, p ≠ 53 → p ≠ 54 → M9 p = M p) ∧ M9 53 0 = updI (M 53 0) l0 (List.foldl (rpS (-1000000) le (sgR (M 50 0) (M 9 0 0)) (fun r => wiR (M 52) (M 9 0 0) r (M 9 0 0)) (M 53 0) l0.toNat) (M 53 0 l0, M 54 0 l0) (hiL f.toNat l0.toNat u0.toNat)).1 ∧ M9 54 0 = updI (M 54 0) l0 (List.foldl (rpS (-1000000) le (sgR (M 50 0) (M 9 0 0)) (fun r => wiR (M 52) (M 9 0 0) r (M 9 0 0)) (M 53 0) l0.toNat) (M 53 0 l0, M 54 0 l0) (hiL f.toNat l0.toNat u0.toNat)).2)] n9) Q := by
    refine loops (GGF_ok (l := l) (ω := ω)) 500 _ ?_
    refine List.forall_mem_cons.mpr ⟨?_, fun _ h => absurd h List.not_mem_nil⟩
    · rintro n9 vs M9 ⟨u0, rfl, rfl, y0, fr, h53, h54⟩
      have e9 : M9 9 = M 9 := fr 9 (by decide) (by decide)
      have e50 : M9 50 = M 50 := fr 50 (by decide) (by decide)
      have e52 : M9 52 = M 52 := fr 52 (by decide) (by decide)
      have hP9 : IPpl M9 := by simp (disch := decide) only [IPpl, fr]; exact hP
      have sf := hP.2.2.2.1 f (by omega) (by omega)
      have su : u0 < M 9 0 0 → _ := fun z => hP.2.2.2.1 u0 (by omega) z
      have wq := fun a b (a0 : 0 ≤ a) (a1 : a < 9) (b0 : 0 ≤ b) (b1 : b < 9) => (hP.2.2.2.2 a b a0 a1 b0 b1).2.1
      have w1 := fun z : u0 < M 9 0 0 => wq f u0 (by omega) (by omega) (by omega) (by omega)
      have w2 := fun z : u0 < M 9 0 0 => wq u0 f (by omega) (by omega) (by omega) (by omega)
      have eu : w32 (u0 + 1) = u0 + 1 := w32_e (by omega) (by omega)
      have un : (u0 + 1).toNat = u0.toNat + 1 := by omega
      have cf : ((f.toNat : Nat) : Int) = f := Int.toNat_of_nonneg (by omega)
      have cu : ((u0.toNat : Nat) : Int) = u0 := Int.toNat_of_nonneg (by omega)
      have eo2 : u0 < M 9 0 0 → (Int32.ofInt ((2 ^ f.toNat : Nat) : Int) ||| Int32.ofInt ((2 ^ u0.toNat : Nat) : Int)).toInt = ((2 ^ f.toNat + 2 ^ u0.toNat : Nat) : Int) := fun z => or2_t f.toNat (by omega) u0.toNat (by omega) (by omega)
      have sg := fun z : u0 < M 9 0 0 => sg2 (S := M 50 0) (p := M 9 0 0) (f := f.toNat) (h := u0.toNat) (by omega) (by omega) (by omega)
      have wi := fun z : u0 < M 9 0 0 => wi2 (w := M 52) (p := M 9 0 0) (f := f.toNat) (h := u0.toNat) (by omega) (by omega) (by omega)
      rw [cf, cu] at sg wi
      have bt : bitI l0 u0 = 1 ↔ btN l0.toNat u0.toNat = true := by
        rw [bt_1, Int.toNat_of_nonneg (show 0 ≤ l0 by omega), cu]
      have rin := fun (z : u0 < M 9 0 0) (b : bitI l0 u0 = 1) => rp_in (m := l0.toNat) (by omega) (by omega) (by rw [← hf2]; exact hiL_2 (f := f.toNat) (l := l0.toNat) (h := u0.toNat) (by omega) (by omega) (bt.mp b))
      have rth := fun (z : u0 < M 9 0 0) (b : bitI l0 u0 = 1) (r : Nat) (hr : r ∈ thL f.toNat l0.toNat u0.toNat u0.toNat) => by
        have hm : r ∈ hiL (loN l0.toNat) l0.toNat 9 := by
          unfold thL at hr
          obtain ⟨k, k1, k2⟩ := List.mem_map.mp hr
          obtain ⟨k3, k4⟩ := List.mem_filter.mp k1
          simp only [Bool.and_eq_true] at k4
          have k5 := Nat.le_of_ble_eq_true k4.1
          have k6 := List.mem_range.mp k3
          rw [← hf2, ← k2]
          exact hiL_3 (by omega) k6 (by omega) (bt.mp b) k4.2
        have q := rp_in (m := l0.toNat) (by omega) (by omega) hm
        exact (⟨by omega, q.1⟩ : 1 ≤ r ∧ r ≤ l0.toNat)
      have tcond : u0 < M 9 0 0 → bitI l0 u0 = 1 → (1 ≤ l0 ∧ l0 < 512) ∧ (0 ≤ ((2 ^ f.toNat + 2 ^ u0.toNat : Nat) : Int) ∧ ((2 ^ f.toNat + 2 ^ u0.toNat : Nat) : Int) ≤ l0) ∧ (l0.toNat &&& ((2 ^ f.toNat + 2 ^ u0.toNat : Nat) : Int).toNat = ((2 ^ f.toNat + 2 ^ u0.toNat : Nat) : Int).toNat) ∧ (-60 ≤ M 52 f u0 + M 52 u0 f ∧ M 52 f u0 + M 52 u0 f ≤ 60) ∧ (-1000000 ≤ M9 53 0 (l0 - ((2 ^ f.toNat + 2 ^ u0.toNat : Nat) : Int)) ∧ M9 53 0 (l0 - ((2 ^ f.toNat + 2 ^ u0.toNat : Nat) : Int)) ≤ 40000) := fun z b => by
        obtain ⟨r1, r2, r3, -⟩ := rin z b
        have w1' := w1 z
        have w2' := w2 z
        rw [Int.toNat_natCast]
        refine ⟨h1, ⟨by omega, by omega⟩, r3, by omega, ?_⟩
        rw [h53]
        unfold updI
        rw [if_neg (by omega)]
        exact hW _ (by omega) (by omega)
      have wb9 : ∀ j, 0 ≤ j → j < l0 → -1000000 ≤ M9 53 0 j ∧ M9 53 0 j ≤ 40000 := fun j j0 j1 => by
        rw [h53]
        unfold updI
        rw [if_neg (by omega)]
        exact hW j j0 j1
      have tc2 : u0 < M 9 0 0 → bitI l0 u0 = 1 → (0 : Int) = 0 ∧ (1 ≤ l0 ∧ l0 < 512) ∧ (0 ≤ f ∧ f < u0 ∧ u0 < M9 9 0 0) ∧ f.toNat = loN l0.toNat ∧ btN l0.toNat u0.toNat = true ∧ IPpl M9 ∧ (∀ j, 0 ≤ j → j < l0 → -1000000 ≤ M9 53 0 j ∧ M9 53 0 j ≤ 40000) := fun z b => ⟨rfl, h1, by rw [e9]; omega, hf2, bt.mp b, hP9, wb9⟩
      have tc3 : u0 < M 9 0 0 → bitI l0 u0 = 1 → ∀ v : Mem, (∀ p, p ≠ 53 → p ≠ 54 → v p = M9 p) → (∀ j, j ≠ l0 → v 53 0 j = M9 53 0 j) → (0 : Int) = 0 ∧ (1 ≤ l0 ∧ l0 < 512) ∧ (0 ≤ f ∧ f < u0 ∧ u0 < v 9 0 0) ∧ f.toNat = loN l0.toNat ∧ btN l0.toNat u0.toNat = true ∧ IPpl v ∧ (∀ j, 0 ≤ j → j < l0 → -1000000 ≤ v 53 0 j ∧ v 53 0 j ≤ 40000) := fun z b v fv wv => ⟨rfl, h1, by rw [fv 9 (by decide) (by decide), e9]; omega, hf2, bt.mp b, by simp (disch := decide) only [IPpl, fv]; exact hP9, fun j j0 j1 => by rw [wv j (by omega)]; exact wb9 j j0 j1⟩
      show wpH _ 500 _ 89 _ true 15 [vR 9 0, vI l0, vI le, vI f, vI u0] [] _ Q
      conv => whnf
      repeat' first
        | (refine And.intro (fun h => ?_) (fun h => ?_) <;> (try simp (disch := decide) only [cmp3_lt, cmp3_ge, cmp3_gt, cmp3_le, cmp3_eq, ms_q, ms_f, mf_q, mf_f, mc_q, mc_f, and_self, and_true, true_and, and_false, false_and, or_true, true_or, or_false, false_or, if_true, if_false, not_true_eq_false, not_false_eq_true, eq_self, reduceIte, Int.reduceEq, Int.reduceLT, Int.reduceLE, Int.reduceNeg, Int.reduceAdd, Int.reduceSub, Int.reduceMul, Int.add_sub_cancel] at h) <;> (try simp (disch := omega) only [w32_e, w64_e, td_pos, tm_pos, Int.add_sub_cancel, e9, e50, e52, bit_e, pw_e, eo2, lw, xd] at h) <;> first | exact absurd rfl h | exact absurd h (by decide) | (exfalso; omega) | (conv => whnf))
        | (refine And.intro (by first | omega | ((try simp (disch := decide) only [cmp3_lt, cmp3_ge, cmp3_gt, cmp3_le, cmp3_eq, ms_q, ms_f, mf_q, mf_f, mc_q, mc_f, and_self, and_true, true_and, and_false, false_and, or_true, true_or, or_false, false_or, if_true, if_false, not_true_eq_false, not_false_eq_true, eq_self, reduceIte, Int.reduceEq, Int.reduceLT, Int.reduceLE, Int.reduceNeg, Int.reduceAdd, Int.reduceSub, Int.reduceMul, Int.add_sub_cancel]); (try simp (disch := omega) only [w32_e, w64_e, td_pos, tm_pos, Int.add_sub_cancel, e9, e50, e52, bit_e, pw_e, eo2, lw, xd]); first | assumption | omega) | exact ⟨rfl, ⟨by omega, by omega⟩, ⟨by omega, by omega⟩, hP9⟩ | exact tc2 (by omega) (by assumption) | exact tc3 (by omega) (by assumption) v hv.1 (fun j hj => by rw [hv.2.1]; split <;> first | rfl | (unfold updI; rw [if_neg hj])) | ((try simp (disch := decide) only [cmp3_lt, cmp3_ge, cmp3_gt, cmp3_le, cmp3_eq, ms_q, ms_f, mf_q, mf_f, mc_q, mc_f, and_self, and_true, true_and, and_false, false_and, or_true, true_or, or_false, false_or, if_true, if_false, not_true_eq_false, not_false_eq_true, eq_self, reduceIte, Int.reduceEq, Int.reduceLT, Int.reduceLE, Int.reduceNeg, Int.reduceAdd, Int.reduceSub, Int.reduceMul, Int.add_sub_cancel]); (try simp (disch := omega) only [w32_e, w64_e, td_pos, tm_pos, Int.add_sub_cancel, e9, e50, e52, bit_e, pw_e, eo2, lw, xd]); exact tcond (by omega) (by omega)) | ((try simp (disch := decide) only [cmp3_lt, cmp3_ge, cmp3_gt, cmp3_le, cmp3_eq, ms_q, ms_f, mf_q, mf_f, mc_q, mc_f, and_self, and_true, true_and, and_false, false_and, or_true, true_or, or_false, false_or, if_true, if_false, not_true_eq_false, not_false_eq_true, eq_self, reduceIte, Int.reduceEq, Int.reduceLT, Int.reduceLE, Int.reduceNeg, Int.reduceAdd, Int.reduceSub, Int.reduceMul, Int.add_sub_cancel]); (try simp (disch := omega) only [w32_e, w64_e, td_pos, tm_pos, Int.add_sub_cancel, e9, e50, e52, bit_e, pw_e, eo2, lw, xd]); ((repeat' (first | assumption | omega | with_reducible rfl | apply And.intro)); done))) ?_; conv => whnf)
        | (intro v; intro hv; conv => whnf)
      all_goals first
        | (have e8 : u0 = M 9 0 0 := by omega
           rw [e8] at h53 h54
           exact hQ M9 ⟨fr, h53, h54⟩)
        | (have nb : ¬ bitI l0 u0 = 1 := by assumption
           have nb2 : (Nat.blt f.toNat u0.toNat && btN l0.toNat u0.toNat) = false := by
             cases hx : btN l0.toNat u0.toNat with
             | true => exact absurd (bt.mpr hx) nb
             | false => rw [Bool.and_false]
           refine ⟨_, ?_, u0 + 1, by rw [eu], rfl, ⟨by omega, by omega⟩, fr, ?_, ?_⟩
           · omega
           · rw [un, hiL_s, nb2]
             simp only [cond_false, List.append_nil]
             exact h53
           · rw [un, hiL_s, nb2]
             simp only [cond_false, List.append_nil]
             exact h54)
        | (have yb : bitI l0 u0 = 1 := by assumption
           have yu : u0 < M 9 0 0 := by omega
           have nb2 : (Nat.blt f.toNat u0.toNat && btN l0.toNat u0.toNat) = true := by
             rw [bt.mp yb, Bool.and_true]
             exact Nat.ble_eq_true_of_le (by omega)
           have sg' := sg yu
           have wi' := wi yu
           obtain ⟨r1, r2, r3, -⟩ := rin yu yb
           have w1' := w1 yu
           have w2' := w2 yu
           first
             | (have ns : ¬ le ≤ sgR (M 50 0) (M 9 0 0) (2 ^ f.toNat + 2 ^ u0.toNat) := by rw [sg']; omega
                obtain ⟨hv0, hv1, hv2⟩ := hv
                rw [e9, e50, e52] at hv1 hv2
                have tp := th_post (Int.toNat_of_nonneg (show 0 ≤ l0 by omega)).symm h53 h54 (rth yu yb) hv1 hv2
                refine ⟨_, ?_, u0 + 1, by rw [eu], rfl, ⟨by omega, by omega⟩, fun p a b => (hv0 p a b).trans (fr p a b), ?_, ?_⟩
                · omega
                · rw [un, hiL_s, nb2]
                  simp only [cond_true, List.foldl_append, List.foldl_cons]
                  rw [tr_skip ns]
                  exact tp.1
                · rw [un, hiL_s, nb2]
                  simp only [cond_true, List.foldl_append, List.foldl_cons]
                  rw [tr_skip ns]
                  exact tp.2)
             | (have ns : le ≤ sgR (M 50 0) (M 9 0 0) (2 ^ f.toNat + 2 ^ u0.toNat) := by rw [sg']; omega
                rename_i vA hvA
                obtain ⟨hv0, hv1, hv2⟩ := hv
                have er : (Int32.ofInt (Int32.ofInt 1 <<< (Int32.ofInt f &&& 31)).toInt ||| Int32.ofInt (Int32.ofInt 1 <<< (Int32.ofInt u0 &&& 31)).toInt).toInt = ((2 ^ f.toNat + 2 ^ u0.toNat : Nat) : Int) := by
                  rw [pw_e (f := f) (by omega) (by omega), pw_e (f := u0) (by omega) (by omega), eo2 yu]
                have ev : M9 52 f u0 + M9 52 u0 f = (fun r => wiR (M 52) (M 9 0 0) r (M 9 0 0)) (2 ^ f.toNat + 2 ^ u0.toNat) := by
                  show _ = wiR (M 52) (M 9 0 0) (2 ^ f.toNat + 2 ^ u0.toNat) (M 9 0 0)
                  rw [wi', e52]
                rw [er, ev] at hvA
                have ts := tr_step (sg := sgR (M 50 0) (M 9 0 0)) (vl := fun r => wiR (M 52) (M 9 0 0) r (M 9 0 0)) (Int.toNat_of_nonneg (show 0 ≤ l0 by omega)).symm r1 (by omega) h53 h54 ns hvA.2.1 hvA.2.2
                rw [hvA.1 9 (by decide) (by decide), hvA.1 50 (by decide) (by decide), hvA.1 52 (by decide) (by decide), e9, e50, e52] at hv1 hv2
                have tp := th_post (Int.toNat_of_nonneg (show 0 ≤ l0 by omega)).symm ts.1 ts.2 (rth yu yb) hv1 hv2
                refine ⟨_, ?_, u0 + 1, by rw [eu], rfl, ⟨by omega, by omega⟩, fun p a b => ((hv0 p a b).trans (hvA.1 p a b)).trans (fr p a b), ?_, ?_⟩
                · omega
                · rw [un, hiL_s, nb2]
                  simp only [cond_true, List.foldl_append, List.foldl_cons]
                  exact tp.1
                · rw [un, hiL_s, nb2]
                  simp only [cond_true, List.foldl_append, List.foldl_cons]
                  exact tp.2))
  refine Vd_run (GGF_ok (l := l) (ω := ω)) 500 (hC := key 1000) (by decide) ?_
  conv => whnf
  repeat' first
    | (refine And.intro (fun h => ?_) (fun h => ?_) <;> (try simp (disch := decide) only [cmp3_lt, cmp3_ge, cmp3_gt, cmp3_le, cmp3_eq, ms_q, ms_f, mf_q, mf_f, mc_q, mc_f, and_self, and_true, true_and, and_false, false_and, or_true, true_or, or_false, false_or, if_true, if_false, not_true_eq_false, not_false_eq_true, eq_self, reduceIte, Int.reduceEq, Int.reduceLT, Int.reduceLE, Int.reduceNeg, Int.reduceAdd, Int.reduceSub, Int.reduceMul, Int.add_sub_cancel] at h) <;> (try simp (disch := omega) only [w32_e, w64_e, td_pos, tm_pos, Int.add_sub_cancel, e9, e50, e52, bit_e, pw_e, eo2, lw, xd] at h) <;> first | exact absurd rfl h | exact absurd h (by decide) | (exfalso; omega) | (conv => whnf))
    | (refine And.intro (by first | omega | ((try simp (disch := decide) only [cmp3_lt, cmp3_ge, cmp3_gt, cmp3_le, cmp3_eq, ms_q, ms_f, mf_q, mf_f, mc_q, mc_f, and_self, and_true, true_and, and_false, false_and, or_true, true_or, or_false, false_or, if_true, if_false, not_true_eq_false, not_false_eq_true, eq_self, reduceIte, Int.reduceEq, Int.reduceLT, Int.reduceLE, Int.reduceNeg, Int.reduceAdd, Int.reduceSub, Int.reduceMul, Int.add_sub_cancel]); (try simp (disch := omega) only [w32_e, w64_e, td_pos, tm_pos, Int.add_sub_cancel, e9, e50, e52, bit_e, pw_e, eo2, lw, xd]); first | assumption | omega) | exact ⟨rfl, ⟨by omega, by omega⟩, ⟨by omega, by omega⟩, hP9⟩ | exact tc2 (by omega) (by assumption) | exact tc3 (by omega) (by assumption) v hv.1 (fun j hj => by rw [hv.2.1]; split <;> first | rfl | (unfold updI; rw [if_neg hj])) | ((try simp (disch := decide) only [cmp3_lt, cmp3_ge, cmp3_gt, cmp3_le, cmp3_eq, ms_q, ms_f, mf_q, mf_f, mc_q, mc_f, and_self, and_true, true_and, and_false, false_and, or_true, true_or, or_false, false_or, if_true, if_false, not_true_eq_false, not_false_eq_true, eq_self, reduceIte, Int.reduceEq, Int.reduceLT, Int.reduceLE, Int.reduceNeg, Int.reduceAdd, Int.reduceSub, Int.reduceMul, Int.add_sub_cancel]); (try simp (disch := omega) only [w32_e, w64_e, td_pos, tm_pos, Int.add_sub_cancel, e9, e50, e52, bit_e, pw_e, eo2, lw, xd]); exact tcond (by omega) (by omega)) | ((try simp (disch := decide) only [cmp3_lt, cmp3_ge, cmp3_gt, cmp3_le, cmp3_eq, ms_q, ms_f, mf_q, mf_f, mc_q, mc_f, and_self, and_true, true_and, and_false, false_and, or_true, true_or, or_false, false_or, if_true, if_false, not_true_eq_false, not_false_eq_true, eq_self, reduceIte, Int.reduceEq, Int.reduceLT, Int.reduceLE, Int.reduceNeg, Int.reduceAdd, Int.reduceSub, Int.reduceMul, Int.add_sub_cancel]); (try simp (disch := omega) only [w32_e, w64_e, td_pos, tm_pos, Int.add_sub_cancel, e9, e50, e52, bit_e, pw_e, eo2, lw, xd]); ((repeat' (first | assumption | omega | with_reducible rfl | apply And.intro)); done))) ?_; conv => whnf)
    | (intro v; intro hv; conv => whnf)
  all_goals
    (have ev : v = f := by
       have q := hv
       have p2 : 1 ≤ 2 ^ f.toNat ∧ 2 ^ f.toNat ≤ 256 := (by decide : ∀ f : Nat, f < 9 → 1 ≤ 2 ^ f ∧ 2 ^ f ≤ 256) f.toNat (by omega)
       rw [lw, w32_e (by omega) (by omega)] at q
       rw [q (by omega) (by omega), cn_p f.toNat (by omega)]
       exact Int.toNat_of_nonneg (by omega)
     refine ⟨_, ?_, f + 1, by rw [ev, w32_e (by omega) (by omega)], rfl, ⟨by omega, by omega⟩, fun _ _ _ => rfl, ?_, ?_⟩
     · omega
     · rw [hiL_f _ (by omega)]
       exact updI_0.symm
     · rw [hiL_f _ (by omega)]
       exact updI_0.symm)
