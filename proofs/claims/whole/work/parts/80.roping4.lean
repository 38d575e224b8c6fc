/-! ===== roping, side two (wip/gen/p41.py) ===== -/
def GLJ : List (Nat × Nat × Spec1) := (94, 2, sp_cnC) :: (95, 2, sp_rwC) :: GLI
abbrev GGJ : Env1 := fun n => getG n GLJ
theorem GGJ_all {l : Launch} {ω : WP} : ∀ e ∈ GLJ, ∀ as M Q, e.2.2 as M Q → Vd l ω e.2.1 e.1 as M Q := List.forall_mem_cons.mpr ⟨ok_cnC, List.forall_mem_cons.mpr ⟨ok_rwC, GGI_all⟩⟩
theorem GGJ_ok {l : Launch} {ω : WP} : GOK l ω GGJ := getG_ok GLJ GGJ_all
theorem smI_in {g : Int → Int} {B : Int} (hB : 0 ≤ B) : ∀ n : Nat, (∀ a, 0 ≤ a → a < (n : Int) → -B ≤ g a ∧ g a ≤ B) → -(B * (n : Int)) ≤ smI g (n : Int) ∧ smI g (n : Int) ≤ B * (n : Int)
  | 0, _ => by
    have e : smI g ((0 : Nat) : Int) = 0 := rfl
    rw [e]
    have : B * ((0 : Nat) : Int) = 0 := Int.mul_zero B
    omega
  | n + 1, h => by
    have e : ((n + 1 : Nat) : Int) = (n : Int) + 1 := by omega
    have ih := smI_in hB n (fun a a0 a1 => h a a0 (by omega))
    have q := h (n : Int) (by omega) (by omega)
    have m : B * ((n : Int) + 1) = B * (n : Int) + B := by rw [Int.mul_add, Int.mul_one]
    rw [e, smI_s (by omega), m]
    omega
theorem smI_inI {g : Int → Int} {B n : Int} (hB : 0 ≤ B) (hn : 0 ≤ n) (h : ∀ a, 0 ≤ a → a < n → -B ≤ g a ∧ g a ≤ B) : -(B * n) ≤ smI g n ∧ smI g n ≤ B * n := by
  have := smI_in (g := g) hB n.toNat (fun a a0 a1 => h a a0 (by omega))
  rw [Int.toNat_of_nonneg hn] at this
  exact this
def sgf (S : Int → Int) (r : Nat) (a : Int) : Int := if bitI (r : Int) a = 1 then S a else 0
def wif (w : Int → Int → Int) (r : Nat) (a b : Int) : Int := if bitI (r : Int) a = 1 ∧ bitI (r : Int) b = 1 ∧ ¬ a = b then w a b else 0
theorem sgf_in {M : Mem} (hP : IPpl M) {r : Nat} {a : Int} (a0 : 0 ≤ a) (a1 : a < M 9 0 0) : -9 ≤ sgf (M 50 0) r a ∧ sgf (M 50 0) r a ≤ 9 := by
  have := hP.2.2.2.1 a a0 a1
  unfold sgf
  split <;> omega
theorem wif_in {M : Mem} (hP : IPpl M) {r : Nat} {a b : Int} (a0 : 0 ≤ a) (a1 : a < 9) (b0 : 0 ≤ b) (b1 : b < 9) : -9 ≤ wif (M 52) r a b ∧ wif (M 52) r a b ≤ 9 := by
  have := (hP.2.2.2.2 a b a0 a1 b0 b1).2.1
  unfold wif
  split <;> omega
theorem wia_in {M : Mem} (hP : IPpl M) {r : Nat} {a n : Int} (a0 : 0 ≤ a) (a1 : a < 9) (n0 : 0 ≤ n) (n1 : n ≤ 9) : -81 ≤ wiA (M 52) n r a n ∧ wiA (M 52) n r a n ≤ 81 := by
  have := smI_inI (g := wif (M 52) r a) (B := 9) (n := n) (by omega) n0 (fun b b0 b1 => wif_in hP a0 a1 b0 (by omega))
  have e : wiA (M 52) n r a n = smI (wif (M 52) r a) n := rfl
  rw [e]
  omega
theorem wir_in {M : Mem} (hP : IPpl M) {r : Nat} {n : Int} (n0 : 0 ≤ n) (n1 : n ≤ 9) {a : Int} (a0 : 0 ≤ a) (a1 : a ≤ n) : -729 ≤ wiR (M 52) n r a ∧ wiR (M 52) n r a ≤ 729 := by
  have := smI_inI (g := fun a => wiA (M 52) n r a n) (B := 81) (n := a) (by omega) a0 (fun b b0 b1 => wia_in hP b0 (by omega) n0 n1)
  have e : wiR (M 52) n r a = smI (fun a => wiA (M 52) n r a n) a := rfl
  rw [e]
  omega

def sp_woM : Spec1 := fun as M Q => match as with
  | [.inr (.inr (.inl (q0, i0))), .inl r, .inl le] => match Nat.beq q0 13 with
    | true => (i0 = 0 ∧ (0 ≤ r ∧ r < 512) ∧ IPpl M) ∧ Q (some (vI (if (2 ≤ cn r 9 ∧ cn r 9 ≤ 3) ∧ le ≤ sgR (M 50 0) (M 9 0 0) r.toNat then wiR (M 52) (M 9 0 0) r.toNat (M 9 0 0) else -100000))) M
    | false => False
  | _ => False
theorem ok_woM {l : Launch} {ω : WP} : ∀ as M Q, sp_woM as M Q → Vd l ω 3 232 as M Q := by
  intro as M Q h
  unfold sp_woM at h
  split at h
  case h_2 => exact h.elim
  rename_i q0 i0 r le
  cases hb : Nat.beq q0 13 with
  | false => rw [hb] at h; exact h.elim
  | true =>
  rw [hb] at h
  obtain ⟨⟨hi, h1, hP⟩, hQ⟩ := h
  have hb := beq_eq hb
  subst hb
  subst hi
  refine Vd.ok fun hok hal => ?_
  have p9 := hP.2.1
  have e49 : M 13 0 49 = M 9 0 0 := hP.1
  have er : ((r.toNat : Nat) : Int) = r := Int.toNat_of_nonneg h1.1
  have e101 := p9
  have e102 := p9
  have key : ∀ n9, CutOK l ω 3 232 (cutL [(8, [0, 1, 2, 3, 4, 5], fun kk vs M9 => ∃ s t a : Int, vs = [vR 13 0, vI r, vI le, vI s, vI t, vI a] ∧ M = M9 ∧ kk = (10000 - a * 100).toNat ∧ (0 ≤ a ∧ a ≤ (M 9 0 0)) ∧ s = wiR (M 52) (M 9 0 0) r.toNat a ∧ t = smI (sgf (M 50 0) r.toNat) a), (20, [0, 1, 2, 3, 4, 5, 6], fun kk vs M9 => ∃ s t a b : Int, vs = [vR 13 0, vI r, vI le, vI s, vI t, vI a, vI b] ∧ M = M9 ∧ kk = (10000 - a * 100 - 10 - b).toNat ∧ (0 ≤ a ∧ a < (M 9 0 0)) ∧ (0 ≤ b ∧ b ≤ (M 9 0 0)) ∧ s = wiR (M 52) (M 9 0 0) r.toNat a + smI (wif (M 52) r.toNat a) b ∧ t = smI (sgf (M 50 0) r.toNat) a)] n9) Q := by
    refine loops (GGJ_ok (l := l) (ω := ω)) 500 _ ?_
    refine List.forall_mem_cons.mpr ⟨?_, List.forall_mem_cons.mpr ⟨?_, fun _ h => absurd h List.not_mem_nil⟩⟩
    · rintro n9 vs M9 ⟨s, t, a, rfl, rfl, rfl, a0, hs, ht⟩
      have wr := wir_in hP (r := r.toNat) p9.1 p9.2 (a := a) a0.1 (by omega)
      have sr := smI_inI (g := sgf (M 50 0) r.toNat) (B := 9) (n := a) (by omega) a0.1 (fun b b0 b1 => sgf_in hP b0 (by omega))
      have ea : w32 (a + 1) = a + 1 := w32_e (by omega) (by omega)
      have e102 := p9
      have b01 := bit_01 r a
      show wpH _ 500 _ 232 _ true 8 [vR 13 0, vI r, vI le, vI s, vI t, vI a, vU] [] _ Q
      conv => whnf
      repeat' first
        | (refine And.intro (fun h => ?_) (fun h => ?_) <;> (try simp (disch := decide) only [cmp3_lt, cmp3_ge, cmp3_gt, cmp3_le, cmp3_eq, ms_q, ms_f, mf_q, mf_f, mc_q, mc_f, and_self, and_true, true_and, and_false, false_and, or_true, true_or, or_false, false_or, if_true, if_false, not_true_eq_false, not_false_eq_true, eq_self, reduceIte, Int.reduceEq, Int.reduceLT, Int.reduceLE, Int.reduceNeg, Int.reduceAdd, Int.reduceSub, Int.reduceMul, Int.add_sub_cancel] at h) <;> (try simp (disch := omega) only [w32_e, w64_e, td_pos, tm_pos, Int.add_sub_cancel, e49, bit_e, e101, e102] at h) <;> first | exact absurd rfl h | exact absurd h (by decide) | (exfalso; omega) | (conv => whnf))
        | (refine And.intro (by first | omega | ((try simp (disch := decide) only [cmp3_lt, cmp3_ge, cmp3_gt, cmp3_le, cmp3_eq, ms_q, ms_f, mf_q, mf_f, mc_q, mc_f, and_self, and_true, true_and, and_false, false_and, or_true, true_or, or_false, false_or, if_true, if_false, not_true_eq_false, not_false_eq_true, eq_self, reduceIte, Int.reduceEq, Int.reduceLT, Int.reduceLE, Int.reduceNeg, Int.reduceAdd, Int.reduceSub, Int.reduceMul, Int.add_sub_cancel]); (try simp (disch := omega) only [w32_e, w64_e, td_pos, tm_pos, Int.add_sub_cancel, e49, bit_e, e101, e102]); first | assumption | omega) | ((try simp (disch := decide) only [cmp3_lt, cmp3_ge, cmp3_gt, cmp3_le, cmp3_eq, ms_q, ms_f, mf_q, mf_f, mc_q, mc_f, and_self, and_true, true_and, and_false, false_and, or_true, true_or, or_false, false_or, if_true, if_false, not_true_eq_false, not_false_eq_true, eq_self, reduceIte, Int.reduceEq, Int.reduceLT, Int.reduceLE, Int.reduceNeg, Int.reduceAdd, Int.reduceSub, Int.reduceMul, Int.add_sub_cancel]); (try simp (disch := omega) only [w32_e, w64_e, td_pos, tm_pos, Int.add_sub_cancel, e49, bit_e, e101, e102]); ((repeat' (first | assumption | omega | with_reducible rfl | apply And.intro)); done))) ?_; conv => whnf)
        | (intro v; intro hv; conv => whnf)
      all_goals first
        | (have e9 : a = M 9 0 0 := by omega
           rw [e9] at hs ht
           refine Eq.mp (congrArg (fun z => Q (some (vI z)) M) ?_) hQ
           show (if (2 ≤ cn r 9 ∧ cn r 9 ≤ 3) ∧ le ≤ smI (sgf (M 50 0) r.toNat) (M 9 0 0) then wiR (M 52) (M 9 0 0) r.toNat (M 9 0 0) else -100000) = _
           rw [← ht, ← hs]
           first
             | (rw [if_pos ⟨by omega, by omega⟩]; done)
             | (rw [if_neg (fun z => by omega)]; done))
        | (refine ⟨_, ?_, s, t, a, 0, rfl, rfl, rfl, ⟨a0.1, by omega⟩, ⟨Int.le_refl _, p9.1⟩, ?_, ht⟩
           · omega
           · have z : smI (wif (M 52) r.toNat a) 0 = 0 := rfl
             rw [z]
             omega)
    · rintro n9 vs M9 ⟨s, t, a, b, rfl, rfl, rfl, a0, b0, hs, ht⟩
      have wr := wir_in hP (r := r.toNat) p9.1 p9.2 (a := a) a0.1 (by omega)
      have sr := smI_inI (g := sgf (M 50 0) r.toNat) (B := 9) (n := a) (by omega) a0.1 (fun b b0 b1 => sgf_in hP b0 (by omega))
      have ea : w32 (a + 1) = a + 1 := w32_e (by omega) (by omega)
      have e101 : M 101 0 a = M 50 0 a := by
        exact hP.2.2.1 a a0.1 (by omega)
      have b01 := bit_01 r a
      have wb := smI_inI (g := wif (M 52) r.toNat a) (B := 9) (n := b) (by omega) b0.1 (fun b b0 b1 => wif_in hP a0.1 (by omega) b0 (by omega))
      have eb : w32 (b + 1) = b + 1 := w32_e (by omega) (by omega)
      have e102 : b < M 9 0 0 → M 102 0 (9 * a + b) = M 52 a b := fun z => (hP.2.2.2.2 a b a0.1 (by omega) b0.1 (by omega)).1
      have wab : b < M 9 0 0 → _ := fun z => (hP.2.2.2.2 a b a0.1 (by omega) b0.1 (by omega)).2.1
      have sa := hP.2.2.2.1 a a0.1 a0.2
      have b02 := bit_01 r b
      have e00 : w32 (t + 0) = t := by rw [Int.add_zero]; exact w32_e (by omega) (by omega)
      have s00 : w32 (s + 0) = s := by rw [Int.add_zero]; exact w32_e (by omega) (by omega)
      have ss := smI_s (g := sgf (M 50 0) r.toNat) a0.1
      have sw := smI_s (g := fun a => wiA (M 52) (M 9 0 0) r.toNat a (M 9 0 0)) a0.1
      have sb := smI_s (g := wif (M 52) r.toNat a) b0.1
      have sw2 : wiR (M 52) (M 9 0 0) r.toNat (a + 1) = wiR (M 52) (M 9 0 0) r.toNat a + smI (wif (M 52) r.toNat a) (M 9 0 0) := sw
      show wpH _ 500 _ 232 _ true 20 [vR 13 0, vI r, vI le, vI s, vI t, vI a, vI b] [] _ Q
      conv => whnf
      repeat' first
        | (refine And.intro (fun h => ?_) (fun h => ?_) <;> (try simp (disch := decide) only [cmp3_lt, cmp3_ge, cmp3_gt, cmp3_le, cmp3_eq, ms_q, ms_f, mf_q, mf_f, mc_q, mc_f, and_self, and_true, true_and, and_false, false_and, or_true, true_or, or_false, false_or, if_true, if_false, not_true_eq_false, not_false_eq_true, eq_self, reduceIte, Int.reduceEq, Int.reduceLT, Int.reduceLE, Int.reduceNeg, Int.reduceAdd, Int.reduceSub, Int.reduceMul, Int.add_sub_cancel] at h) <;> (try simp (disch := omega) only [w32_e, w64_e, td_pos, tm_pos, Int.add_sub_cancel, e49, bit_e, e101, e102] at h) <;> first | exact absurd rfl h | exact absurd h (by decide) | (exfalso; omega) | (conv => whnf))
        | (refine And.intro (by first | omega | ((try simp (disch := decide) only [cmp3_lt, cmp3_ge, cmp3_gt, cmp3_le, cmp3_eq, ms_q, ms_f, mf_q, mf_f, mc_q, mc_f, and_self, and_true, true_and, and_false, false_and, or_true, true_or, or_false, false_or, if_true, if_false, not_true_eq_false, not_false_eq_true, eq_self, reduceIte, Int.reduceEq, Int.reduceLT, Int.reduceLE, Int.reduceNeg, Int.reduceAdd, Int.reduceSub, Int.reduceMul, Int.add_sub_cancel]); (try simp (disch := omega) only [w32_e, w64_e, td_pos, tm_pos, Int.add_sub_cancel, e49, bit_e, e101, e102]); first | assumption | omega) | ((try simp (disch := decide) only [cmp3_lt, cmp3_ge, cmp3_gt, cmp3_le, cmp3_eq, ms_q, ms_f, mf_q, mf_f, mc_q, mc_f, and_self, and_true, true_and, and_false, false_and, or_true, true_or, or_false, false_or, if_true, if_false, not_true_eq_false, not_false_eq_true, eq_self, reduceIte, Int.reduceEq, Int.reduceLT, Int.reduceLE, Int.reduceNeg, Int.reduceAdd, Int.reduceSub, Int.reduceMul, Int.add_sub_cancel]); (try simp (disch := omega) only [w32_e, w64_e, td_pos, tm_pos, Int.add_sub_cancel, e49, bit_e, e101, e102]); ((repeat' (first | assumption | omega | with_reducible rfl | apply And.intro)); done))) ?_; conv => whnf)
        | (intro v; intro hv; conv => whnf)
      all_goals first
        | (have e9 : b = M 9 0 0 := by omega
           rw [e9, ← sw2] at hs
           first
             | (have g0 : sgf (M 50 0) r.toNat a = 0 := by
                  unfold sgf
                  rw [er, if_neg (by assumption)]
                refine ⟨_, ?_, s, t, a + 1, by rw [ea, e00], rfl, rfl, ⟨by omega, by omega⟩, hs, by rw [ss, g0]; omega⟩
                omega)
             | (have g0 : sgf (M 50 0) r.toNat a = M 50 0 a := by
                  unfold sgf
                  rw [er, if_pos (by assumption)]
                refine ⟨_, ?_, s, t + M 50 0 a, a + 1, by rw [ea, e101, w32_e (x := t + M 50 0 a) (by omega) (by omega)], rfl, rfl, ⟨by omega, by omega⟩, hs, by rw [ss, g0]; omega⟩
                omega))
        | (have g0 : wif (M 52) r.toNat a b = 0 := by
             unfold wif
             rw [er]
             first
               | (rw [if_neg (fun z => absurd z.1 (by assumption))]; done)
               | (rw [if_neg (fun z => absurd z.2.1 (by assumption))]; done)
               | (rw [if_neg (fun z => z.2.2 (by assumption))]; done)
           refine ⟨_, ?_, s, t, a, b + 1, by rw [eb, s00], rfl, rfl, a0, ⟨by omega, by omega⟩, by rw [sb, g0]; omega, ht⟩
           omega)
        | (have g0 : wif (M 52) r.toNat a b = M 52 a b := by
             unfold wif
             rw [er, if_pos ⟨by assumption, by assumption, by assumption⟩]
           have wab' := wab (by omega)
           have e9 : w32 (w32 (9 * a) + b) = 9 * a + b := by rw [w32_e (x := 9 * a) (by omega) (by omega), w32_e (by omega) (by omega)]
           refine ⟨_, ?_, s + M 52 a b, t, a, b + 1, by rw [eb, e9, e102 (by omega), w32_e (x := s + M 52 a b) (by omega) (by omega)], rfl, rfl, a0, ⟨by omega, by omega⟩, by rw [sb, g0]; omega, ht⟩
           omega)
  refine Vd_run (GGJ_ok (l := l) (ω := ω)) 500 (hC := key 50000) (by decide) ?_
  conv => whnf
  repeat' first
    | (refine And.intro (fun h => ?_) (fun h => ?_) <;> (try simp (disch := decide) only [cmp3_lt, cmp3_ge, cmp3_gt, cmp3_le, cmp3_eq, ms_q, ms_f, mf_q, mf_f, mc_q, mc_f, and_self, and_true, true_and, and_false, false_and, or_true, true_or, or_false, false_or, if_true, if_false, not_true_eq_false, not_false_eq_true, eq_self, reduceIte, Int.reduceEq, Int.reduceLT, Int.reduceLE, Int.reduceNeg, Int.reduceAdd, Int.reduceSub, Int.reduceMul, Int.add_sub_cancel] at h) <;> (try simp (disch := omega) only [w32_e, w64_e, td_pos, tm_pos, Int.add_sub_cancel, e49, bit_e, e101, e102] at h) <;> first | exact absurd rfl h | exact absurd h (by decide) | (exfalso; omega) | (conv => whnf))
    | (refine And.intro (by first | omega | ((try simp (disch := decide) only [cmp3_lt, cmp3_ge, cmp3_gt, cmp3_le, cmp3_eq, ms_q, ms_f, mf_q, mf_f, mc_q, mc_f, and_self, and_true, true_and, and_false, false_and, or_true, true_or, or_false, false_or, if_true, if_false, not_true_eq_false, not_false_eq_true, eq_self, reduceIte, Int.reduceEq, Int.reduceLT, Int.reduceLE, Int.reduceNeg, Int.reduceAdd, Int.reduceSub, Int.reduceMul, Int.add_sub_cancel]); (try simp (disch := omega) only [w32_e, w64_e, td_pos, tm_pos, Int.add_sub_cancel, e49, bit_e, e101, e102]); first | assumption | omega) | ((try simp (disch := decide) only [cmp3_lt, cmp3_ge, cmp3_gt, cmp3_le, cmp3_eq, ms_q, ms_f, mf_q, mf_f, mc_q, mc_f, and_self, and_true, true_and, and_false, false_and, or_true, true_or, or_false, false_or, if_true, if_false, not_true_eq_false, not_false_eq_true, eq_self, reduceIte, Int.reduceEq, Int.reduceLT, Int.reduceLE, Int.reduceNeg, Int.reduceAdd, Int.reduceSub, Int.reduceMul, Int.add_sub_cancel]); (try simp (disch := omega) only [w32_e, w64_e, td_pos, tm_pos, Int.add_sub_cancel, e49, bit_e, e101, e102]); ((repeat' (first | assumption | omega | with_reducible rfl | apply And.intro)); done))) ?_; conv => whnf)
    | (intro v; intro hv; conv => whnf)
  all_goals
    (refine ⟨_, ?_, 0, 0, 0, rfl, rfl, rfl, ⟨Int.le_refl _, p9.1⟩, rfl, rfl⟩
     omega)
