/-! ===== count (wip/gen/p33.py) ===== -/
def tcN (f : Int → Int) : Int → Int := itI (fun r t => if f r = 0 then t else t + 1) 0
theorem tcN_s {f : Int → Int} {n : Int} (h : 0 ≤ n) : tcN f (n + 1) = if f n = 0 then tcN f n else tcN f n + 1 := itI_succ h
theorem tcN_in {f : Int → Int} : ∀ n : Nat, 0 ≤ tcN f (n : Int) ∧ tcN f (n : Int) ≤ (n : Int)
  | 0 => ⟨Int.le_refl _, Int.le_refl _⟩
  | n + 1 => by
    have ih := tcN_in (f := f) n
    have e : ((n + 1 : Nat) : Int) = (n : Int) + 1 := by omega
    rw [e, tcN_s (by omega)]
    split <;> omega
theorem tcN_inI {f : Int → Int} {n : Int} (h : 0 ≤ n) : 0 ≤ tcN f n ∧ tcN f n ≤ n := by
  have := tcN_in (f := f) n.toNat
  rw [Int.toNat_of_nonneg h] at this
  exact this
theorem tcN_cg {f g : Int → Int} : ∀ n : Nat, (∀ r, 0 ≤ r → r < (n : Int) → f r = g r) → tcN f (n : Int) = tcN g (n : Int)
  | 0, _ => rfl
  | n + 1, h => by
    have e : ((n + 1 : Nat) : Int) = (n : Int) + 1 := by omega
    rw [e, tcN_s (by omega), tcN_s (by omega), h (n : Int) (by omega) (by omega), tcN_cg n (fun r a b => h r a (by omega))]
theorem bit_hi2 {x g : Int} {n : Int} (h0 : 0 ≤ x) (h1 : x < 2 ^ n.toNat) (hn : 0 ≤ n) (hg : n ≤ g) : bitI x g = 0 := by
  have p := pw_le (a := n) (b := g) hn hg
  unfold bitI
  rw [Int.ediv_eq_zero_of_lt h0 (by omega)]
  rfl
theorem cn_hi {x n : Int} (h0 : 0 ≤ x) (h1 : x < 2 ^ n.toNat) (hn : 0 ≤ n) : ∀ k : Nat, cn x (n + (k : Int)) = cn x n
  | 0 => by
    congr 1
    omega
  | k + 1 => by
    have e : n + ((k + 1 : Nat) : Int) = n + (k : Int) + 1 := by omega
    rw [e, cn_s (by omega), cn_hi h0 h1 hn k, bit_hi2 h0 h1 hn (by omega)]
    omega
theorem cn_9 {x n : Int} (h0 : 0 ≤ x) (h1 : x < 2 ^ n.toNat) (hn : 0 ≤ n) (h9 : n ≤ 9) : cn x 9 = cn x n := by
  have := cn_hi h0 h1 hn (9 - n).toNat
  rw [← this]
  congr 1
  omega
theorem cn_up {x : Int} : ∀ k : Nat, cn x (k : Int) ≤ (k : Int)
  | 0 => Int.le_refl _
  | k + 1 => by
    have e : ((k + 1 : Nat) : Int) = (k : Int) + 1 := by omega
    have ih := cn_up (x := x) k
    have b := bit_01 x (k : Int)
    rw [e, cn_s (by omega)]
    omega

def sp_ctC : Spec1 := fun as M Q => match as with
  | [.inr (.inr (.inl (q0, i0)))] => match Nat.beq q0 10 with
    | true => (i0 = 0 ∧ (0 ≤ M 10 0 3 ∧ M 10 0 3 ≤ 8)) ∧ Q (some (vI (tcN (fun r => M 11 r 9) (M 10 0 3)))) M
    | false => False
  | _ => False
theorem ok_ctC {l : Launch} {ω : WP} : ∀ as M Q, sp_ctC as M Q → Vd l ω 1 32 as M Q := by
  intro as M Q h
  unfold sp_ctC at h
  split at h
  case h_2 => exact h.elim
  rename_i q0 i0 
  cases hb : Nat.beq q0 10 with
  | false => rw [hb] at h; exact h.elim
  | true =>
  rw [hb] at h
  obtain ⟨⟨hi, n8⟩, hQ⟩ := h
  have hb := beq_eq hb
  subst hb
  subst hi
  refine Vd.ok fun hok hal => ?_
  have key : ∀ n9, CutOK l ω 1 32 (cutL [(4, [0, 1, 2], fun kk vs M9 => ∃ t r : Int, vs = [vR 10 0, vI t, vI r] ∧ M = M9 ∧ kk = (M 10 0 3 - r).toNat ∧ (0 ≤ r ∧ r ≤ M 10 0 3) ∧ t = tcN (fun r => M 11 r 9) r)] n9) Q := by
    refine loops (GGA_ok (l := l) (ω := ω)) 300 _ ?_
    refine List.forall_mem_cons.mpr ⟨?_, fun _ h => absurd h List.not_mem_nil⟩
    · rintro n9 vs M9 ⟨t, r, rfl, rfl, rfl, r0, ht⟩
      have ti := tcN_inI (f := fun r => M 11 r 9) r0.1
      have er : w32 (r + 1) = r + 1 := w32_e (by omega) (by omega)
      have et : w32 (t + 1) = t + 1 := w32_e (by omega) (by omega)
      show wpH _ 300 _ 32 _ true 4 [vR 10 0, vI t, vI r] [] _ Q
      conv => whnf
      repeat' first
        | (refine And.intro (fun h => ?_) (fun h => ?_) <;> (try simp (disch := decide) only [cmp3_lt, cmp3_ge, cmp3_gt, cmp3_le, cmp3_eq, ms_q, ms_f, mf_q, mf_f, mc_q, mc_f, and_self, and_true, true_and, and_false, false_and, or_true, true_or, or_false, false_or, if_true, if_false, not_true_eq_false, not_false_eq_true, eq_self, reduceIte, Int.reduceEq, Int.reduceLT, Int.reduceLE, Int.reduceNeg, Int.reduceAdd, Int.reduceSub, Int.reduceMul, Int.add_sub_cancel] at h) <;> (try simp (disch := omega) only [w32_e, w64_e, td_pos, tm_pos, Int.add_sub_cancel] at h) <;> first | exact absurd rfl h | exact absurd h (by decide) | (exfalso; omega) | (conv => whnf))
        | (refine And.intro (by first | omega | ((try simp (disch := decide) only [cmp3_lt, cmp3_ge, cmp3_gt, cmp3_le, cmp3_eq, ms_q, ms_f, mf_q, mf_f, mc_q, mc_f, and_self, and_true, true_and, and_false, false_and, or_true, true_or, or_false, false_or, if_true, if_false, not_true_eq_false, not_false_eq_true, eq_self, reduceIte, Int.reduceEq, Int.reduceLT, Int.reduceLE, Int.reduceNeg, Int.reduceAdd, Int.reduceSub, Int.reduceMul, Int.add_sub_cancel]); (try simp (disch := omega) only [w32_e, w64_e, td_pos, tm_pos, Int.add_sub_cancel]); first | assumption | omega) | ((try simp (disch := decide) only [cmp3_lt, cmp3_ge, cmp3_gt, cmp3_le, cmp3_eq, ms_q, ms_f, mf_q, mf_f, mc_q, mc_f, and_self, and_true, true_and, and_false, false_and, or_true, true_or, or_false, false_or, if_true, if_false, not_true_eq_false, not_false_eq_true, eq_self, reduceIte, Int.reduceEq, Int.reduceLT, Int.reduceLE, Int.reduceNeg, Int.reduceAdd, Int.reduceSub, Int.reduceMul, Int.add_sub_cancel]); (try simp (disch := omega) only [w32_e, w64_e, td_pos, tm_pos, Int.add_sub_cancel]); ((repeat' (first | assumption | omega | with_reducible rfl | apply And.intro)); done))) ?_; conv => whnf)
        | (intro v; intro hv; conv => whnf)
      all_goals first
        | (have e9 : r = M 10 0 3 := by omega
           rw [← e9, ← ht] at hQ
           exact hQ)
        | (refine ⟨_, ?_, t, r + 1, by rw [er], rfl, rfl, ⟨by omega, by omega⟩, ?_⟩
           · omega
           · rw [tcN_s r0.1, ← ht, if_pos h])
        | (refine ⟨_, ?_, t + 1, r + 1, by rw [er, et], rfl, rfl, ⟨by omega, by omega⟩, ?_⟩
           · omega
           · rw [tcN_s r0.1, ← ht, if_neg h])
  refine Vd_run (GGA_ok (l := l) (ω := ω)) 300 (hC := key 100) (by decide) ?_
  conv => whnf
  repeat' first
    | (refine And.intro (fun h => ?_) (fun h => ?_) <;> (try simp (disch := decide) only [cmp3_lt, cmp3_ge, cmp3_gt, cmp3_le, cmp3_eq, ms_q, ms_f, mf_q, mf_f, mc_q, mc_f, and_self, and_true, true_and, and_false, false_and, or_true, true_or, or_false, false_or, if_true, if_false, not_true_eq_false, not_false_eq_true, eq_self, reduceIte, Int.reduceEq, Int.reduceLT, Int.reduceLE, Int.reduceNeg, Int.reduceAdd, Int.reduceSub, Int.reduceMul, Int.add_sub_cancel] at h) <;> (try simp (disch := omega) only [w32_e, w64_e, td_pos, tm_pos, Int.add_sub_cancel] at h) <;> first | exact absurd rfl h | exact absurd h (by decide) | (exfalso; omega) | (conv => whnf))
    | (refine And.intro (by first | omega | ((try simp (disch := decide) only [cmp3_lt, cmp3_ge, cmp3_gt, cmp3_le, cmp3_eq, ms_q, ms_f, mf_q, mf_f, mc_q, mc_f, and_self, and_true, true_and, and_false, false_and, or_true, true_or, or_false, false_or, if_true, if_false, not_true_eq_false, not_false_eq_true, eq_self, reduceIte, Int.reduceEq, Int.reduceLT, Int.reduceLE, Int.reduceNeg, Int.reduceAdd, Int.reduceSub, Int.reduceMul, Int.add_sub_cancel]); (try simp (disch := omega) only [w32_e, w64_e, td_pos, tm_pos, Int.add_sub_cancel]); first | assumption | omega) | ((try simp (disch := decide) only [cmp3_lt, cmp3_ge, cmp3_gt, cmp3_le, cmp3_eq, ms_q, ms_f, mf_q, mf_f, mc_q, mc_f, and_self, and_true, true_and, and_false, false_and, or_true, true_or, or_false, false_or, if_true, if_false, not_true_eq_false, not_false_eq_true, eq_self, reduceIte, Int.reduceEq, Int.reduceLT, Int.reduceLE, Int.reduceNeg, Int.reduceAdd, Int.reduceSub, Int.reduceMul, Int.add_sub_cancel]); (try simp (disch := omega) only [w32_e, w64_e, td_pos, tm_pos, Int.add_sub_cancel]); ((repeat' (first | assumption | omega | with_reducible rfl | apply And.intro)); done))) ?_; conv => whnf)
    | (intro v; intro hv; conv => whnf)
  all_goals
    (refine ⟨_, ?_, 0, 0, rfl, rfl, rfl, ⟨Int.le_refl _, n8.1⟩, rfl⟩
     omega)

def ctV (M : Mem) (w : Int) : Int := if w = 0 then M 13 0 0 else if w = 1 then M 13 0 2 else if w = 2 then M 13 0 9 else if w = 3 then M 13 0 17 else if w = 4 then M 13 0 35 else if w = 5 then M 13 0 49 else if w = 6 then M 13 0 54 else if w = 7 then M 13 0 73 else if w = 8 then M 13 0 26 else if w = 9 then M 13 0 25 else if w = 10 then cn (M 5 0 3) (M 5 0 0) else if w = 12 then M 13 0 28 else -1

def sp_ctM : Spec1 := fun as M Q => match as with
  | [.inr (.inr (.inl (q0, i0))), .inl w] => match Nat.beq q0 13 with
    | true => (i0 = 0 ∧ DayH M ∧ (0 ≤ M 5 0 0 ∧ M 5 0 0 ≤ 8) ∧ M 13 0 17 = M 5 0 0 ∧ (∀ g, 0 ≤ g → g < 8 → M 86 0 g = bitI (M 5 0 3) g)) ∧ (w = 11 → ∃ D : DD, ∀ M9, (FT M M9 ∧ RelD (dx M) (dyN (dx M) D (95 + 1)) M9 (95 + 1) 0 0 0) → Q (some (vI (tcN (M9 111 0) (M 10 0 3)))) M9) ∧ (¬ w = 11 → Q (some (vI (ctV M w))) M)
    | false => False
  | _ => False
theorem ok_ctM {l : Launch} {ω : WP} : ∀ as M Q, sp_ctM as M Q → Vd l ω 9 262 as M Q := by
  intro as M Q h
  unfold sp_ctM at h
  split at h
  case h_2 => exact h.elim
  rename_i q0 i0 w
  cases hb : Nat.beq q0 13 with
  | false => rw [hb] at h; exact h.elim
  | true =>
  rw [hb] at h
  obtain ⟨⟨hi, hH, n5, e17, b86⟩, hQ⟩ := h
  have hb := beq_eq hb
  subst hb
  subst hi
  refine Vd.ok fun hok hal => ?_
  obtain ⟨D, hQ1⟩ : ∃ D : DD, w = 11 → ∀ M9, (FT M M9 ∧ RelD (dx M) (dyN (dx M) D (95 + 1)) M9 (95 + 1) 0 0 0) → Q (some (vI (tcN (M9 111 0) (M 10 0 3)))) M9 := by
    by_cases hw : w = 11
    · obtain ⟨D, h⟩ := hQ.1 hw
      exact ⟨D, fun _ => h⟩
    · exact ⟨dOf M, fun z => absurd z hw⟩
  have hQ2 := hQ.2
  have n8 : 0 ≤ M 10 0 3 ∧ M 10 0 3 ≤ 8 := hH.x.1
  have e54 : M 13 0 54 = M 10 0 3 := hH.2.2.2.2.2.1.1
  have key : ∀ n9, CutOK l ω 9 262 (cutL [(4, [0, 1, 2, 3], fun kk vs M9 => ∃ t g : Int, vs = [vR 13 0, vI w, vI t, vI g] ∧ M = M9 ∧ kk = (1000 - g).toNat ∧ (0 ≤ g ∧ g ≤ M 5 0 0) ∧ t = cn (M 5 0 3) g), (52, [0, 1, 2, 3, 4], fun kk vs M9 => ∃ u t r : Int, vs = [vR 13 0, vI w, vI u, vI t, vI r] ∧ kk = (100 - r).toNat ∧ w = 11 ∧ FT M M9 ∧ RelD (dx M) (dyN (dx M) D (95 + 1)) M9 (95 + 1) 0 0 0 ∧ (0 ≤ r ∧ r ≤ M 10 0 3) ∧ t = tcN (M9 111 0) r)] n9) Q := by
    refine loops (GGA_ok (l := l) (ω := ω)) 500 _ ?_
    refine List.forall_mem_cons.mpr ⟨?_, List.forall_mem_cons.mpr ⟨?_, fun _ h => absurd h List.not_mem_nil⟩⟩
    · rintro n9 vs M9 ⟨t, g, rfl, rfl, rfl, g0, ht⟩
      have eg : w32 (g + 1) = g + 1 := w32_e (by omega) (by omega)
      have bg : g < 8 → M 86 0 g = bitI (M 5 0 3) g := fun z => b86 g g0.1 z
      have b1 := bit_01 (M 5 0 3) g
      have cs := cn_s (x := M 5 0 3) g0.1
      have cu := cn_up (x := M 5 0 3) g.toNat
      have c0 := cn_nn (x := M 5 0 3) g0.1
      rw [Int.toNat_of_nonneg g0.1] at cu
      have e00 : w32 (t + 0) = t := by rw [Int.add_zero]; exact w32_e (by omega) (by omega)
      have e01 : w32 (t + 1) = t + 1 := w32_e (by omega) (by omega)
      show wpH _ 500 _ 262 _ true 4 [vR 13 0, vI w, vI t, vI g, vU] [] _ Q
      conv => whnf
      repeat' first
        | (refine And.intro (fun h => ?_) (fun h => ?_) <;> (try simp (disch := decide) only [cmp3_lt, cmp3_ge, cmp3_gt, cmp3_le, cmp3_eq, ms_q, ms_f, mf_q, mf_f, mc_q, mc_f, and_self, and_true, true_and, and_false, false_and, or_true, true_or, or_false, false_or, if_true, if_false, not_true_eq_false, not_false_eq_true, eq_self, reduceIte, Int.reduceEq, Int.reduceLT, Int.reduceLE, Int.reduceNeg, Int.reduceAdd, Int.reduceSub, Int.reduceMul, Int.add_sub_cancel] at h) <;> (try simp (disch := omega) only [w32_e, w64_e, td_pos, tm_pos, Int.add_sub_cancel, e17, e54] at h) <;> first | exact absurd rfl h | exact absurd h (by decide) | (exfalso; omega) | (conv => whnf))
        | (refine And.intro (by first | omega | ((try simp (disch := decide) only [cmp3_lt, cmp3_ge, cmp3_gt, cmp3_le, cmp3_eq, ms_q, ms_f, mf_q, mf_f, mc_q, mc_f, and_self, and_true, true_and, and_false, false_and, or_true, true_or, or_false, false_or, if_true, if_false, not_true_eq_false, not_false_eq_true, eq_self, reduceIte, Int.reduceEq, Int.reduceLT, Int.reduceLE, Int.reduceNeg, Int.reduceAdd, Int.reduceSub, Int.reduceMul, Int.add_sub_cancel]); (try simp (disch := omega) only [w32_e, w64_e, td_pos, tm_pos, Int.add_sub_cancel, e17, e54]); first | assumption | omega) | exact ⟨rfl, hH, by omega, by omega⟩ | ((try simp (disch := decide) only [cmp3_lt, cmp3_ge, cmp3_gt, cmp3_le, cmp3_eq, ms_q, ms_f, mf_q, mf_f, mc_q, mc_f, and_self, and_true, true_and, and_false, false_and, or_true, true_or, or_false, false_or, if_true, if_false, not_true_eq_false, not_false_eq_true, eq_self, reduceIte, Int.reduceEq, Int.reduceLT, Int.reduceLE, Int.reduceNeg, Int.reduceAdd, Int.reduceSub, Int.reduceMul, Int.add_sub_cancel]); (try simp (disch := omega) only [w32_e, w64_e, td_pos, tm_pos, Int.add_sub_cancel, e17, e54]); ((repeat' (first | assumption | omega | with_reducible rfl | apply And.intro)); done))) ?_; conv => whnf)
        | (intro v; intro hv; conv => whnf)
      all_goals first
        | (have hq2 := hQ2 (by omega)
           refine Eq.mp (congrArg (fun z => Q (some (vI z)) M) ?_) hq2
           unfold ctV
           (repeat' first | rw [if_pos (by omega)] | rw [if_neg (by omega)]) <;> first | done | rfl | (rw [ht]; congr 1; omega))
        | (refine ⟨D, fun v hv => ?_⟩
           conv => whnf
           refine ⟨_, ?_, t, 0, 0, rfl, rfl, by assumption, hv.1, hv.2, ⟨Int.le_refl _, n8.1⟩, rfl⟩
           omega)
        | (refine ⟨_, ?_, t, g + 1, by rw [eg, e00], rfl, rfl, ⟨by omega, by omega⟩, ?_⟩
           · omega
           · rw [cs, ← bg (by omega)]
             omega)
        | (refine ⟨_, ?_, t + 1, g + 1, by rw [eg, e01], rfl, rfl, ⟨by omega, by omega⟩, ?_⟩
           · omega
           · have := bg (by omega)
             rw [cs, ← bg (by omega)]
             omega)
    · rintro n9 vs M9 ⟨u, t, r, rfl, rfl, hw, ft, rel, r0, ht⟩
      have e54 : M9 13 0 54 = M 10 0 3 := by rw [ft 13 (by decide) (by decide) (by decide)]; exact hH.2.2.2.2.2.1.1
      have ti := tcN_inI (f := M9 111 0) r0.1
      have er : w32 (r + 1) = r + 1 := w32_e (by omega) (by omega)
      have e00 : w32 (t + 0) = t := by rw [Int.add_zero]; exact w32_e (by omega) (by omega)
      have et : w32 (t + 1) = t + 1 := w32_e (by omega) (by omega)
      show wpH _ 500 _ 262 _ true 52 [vR 13 0, vI w, vI u, vI t, vI r] [] _ Q
      conv => whnf
      repeat' first
        | (refine And.intro (fun h => ?_) (fun h => ?_) <;> (try simp (disch := decide) only [cmp3_lt, cmp3_ge, cmp3_gt, cmp3_le, cmp3_eq, ms_q, ms_f, mf_q, mf_f, mc_q, mc_f, and_self, and_true, true_and, and_false, false_and, or_true, true_or, or_false, false_or, if_true, if_false, not_true_eq_false, not_false_eq_true, eq_self, reduceIte, Int.reduceEq, Int.reduceLT, Int.reduceLE, Int.reduceNeg, Int.reduceAdd, Int.reduceSub, Int.reduceMul, Int.add_sub_cancel] at h) <;> (try simp (disch := omega) only [w32_e, w64_e, td_pos, tm_pos, Int.add_sub_cancel, e17, e54] at h) <;> first | exact absurd rfl h | exact absurd h (by decide) | (exfalso; omega) | (conv => whnf))
        | (refine And.intro (by first | omega | ((try simp (disch := decide) only [cmp3_lt, cmp3_ge, cmp3_gt, cmp3_le, cmp3_eq, ms_q, ms_f, mf_q, mf_f, mc_q, mc_f, and_self, and_true, true_and, and_false, false_and, or_true, true_or, or_false, false_or, if_true, if_false, not_true_eq_false, not_false_eq_true, eq_self, reduceIte, Int.reduceEq, Int.reduceLT, Int.reduceLE, Int.reduceNeg, Int.reduceAdd, Int.reduceSub, Int.reduceMul, Int.add_sub_cancel]); (try simp (disch := omega) only [w32_e, w64_e, td_pos, tm_pos, Int.add_sub_cancel, e17, e54]); first | assumption | omega) | exact ⟨rfl, hH, by omega, by omega⟩ | ((try simp (disch := decide) only [cmp3_lt, cmp3_ge, cmp3_gt, cmp3_le, cmp3_eq, ms_q, ms_f, mf_q, mf_f, mc_q, mc_f, and_self, and_true, true_and, and_false, false_and, or_true, true_or, or_false, false_or, if_true, if_false, not_true_eq_false, not_false_eq_true, eq_self, reduceIte, Int.reduceEq, Int.reduceLT, Int.reduceLE, Int.reduceNeg, Int.reduceAdd, Int.reduceSub, Int.reduceMul, Int.add_sub_cancel]); (try simp (disch := omega) only [w32_e, w64_e, td_pos, tm_pos, Int.add_sub_cancel, e17, e54]); ((repeat' (first | assumption | omega | with_reducible rfl | apply And.intro)); done))) ?_; conv => whnf)
        | (intro v; intro hv; conv => whnf)
      all_goals first
        | (have e9 : r = M 10 0 3 := by omega
           refine Eq.mp (congrArg (fun z => Q (some (vI z)) M9) ?_) (hQ1 hw M9 ⟨ft, rel⟩)
           rw [ht, e9])
        | (refine ⟨_, ?_, u, t, r + 1, by rw [er, e00], rfl, hw, ft, rel, ⟨by omega, by omega⟩, ?_⟩
           · omega
           · rw [tcN_s r0.1, ← ht, if_pos h])
        | (refine ⟨_, ?_, u, t + 1, r + 1, by rw [er, et], rfl, hw, ft, rel, ⟨by omega, by omega⟩, ?_⟩
           · omega
           · rw [tcN_s r0.1, ← ht, if_neg h])
  refine Vd_run (GGA_ok (l := l) (ω := ω)) 500 (hC := key 10000) (by decide) ?_
  conv => whnf
  repeat' first
    | (refine And.intro (fun h => ?_) (fun h => ?_) <;> (try simp (disch := decide) only [cmp3_lt, cmp3_ge, cmp3_gt, cmp3_le, cmp3_eq, ms_q, ms_f, mf_q, mf_f, mc_q, mc_f, and_self, and_true, true_and, and_false, false_and, or_true, true_or, or_false, false_or, if_true, if_false, not_true_eq_false, not_false_eq_true, eq_self, reduceIte, Int.reduceEq, Int.reduceLT, Int.reduceLE, Int.reduceNeg, Int.reduceAdd, Int.reduceSub, Int.reduceMul, Int.add_sub_cancel] at h) <;> (try simp (disch := omega) only [w32_e, w64_e, td_pos, tm_pos, Int.add_sub_cancel, e17, e54] at h) <;> first | exact absurd rfl h | exact absurd h (by decide) | (exfalso; omega) | (conv => whnf))
    | (refine And.intro (by first | omega | ((try simp (disch := decide) only [cmp3_lt, cmp3_ge, cmp3_gt, cmp3_le, cmp3_eq, ms_q, ms_f, mf_q, mf_f, mc_q, mc_f, and_self, and_true, true_and, and_false, false_and, or_true, true_or, or_false, false_or, if_true, if_false, not_true_eq_false, not_false_eq_true, eq_self, reduceIte, Int.reduceEq, Int.reduceLT, Int.reduceLE, Int.reduceNeg, Int.reduceAdd, Int.reduceSub, Int.reduceMul, Int.add_sub_cancel]); (try simp (disch := omega) only [w32_e, w64_e, td_pos, tm_pos, Int.add_sub_cancel, e17, e54]); first | assumption | omega) | exact ⟨rfl, hH, by omega, by omega⟩ | ((try simp (disch := decide) only [cmp3_lt, cmp3_ge, cmp3_gt, cmp3_le, cmp3_eq, ms_q, ms_f, mf_q, mf_f, mc_q, mc_f, and_self, and_true, true_and, and_false, false_and, or_true, true_or, or_false, false_or, if_true, if_false, not_true_eq_false, not_false_eq_true, eq_self, reduceIte, Int.reduceEq, Int.reduceLT, Int.reduceLE, Int.reduceNeg, Int.reduceAdd, Int.reduceSub, Int.reduceMul, Int.add_sub_cancel]); (try simp (disch := omega) only [w32_e, w64_e, td_pos, tm_pos, Int.add_sub_cancel, e17, e54]); ((repeat' (first | assumption | omega | with_reducible rfl | apply And.intro)); done))) ?_; conv => whnf)
    | (intro v; intro hv; conv => whnf)
  all_goals
    (refine ⟨_, ?_, 0, 0, rfl, rfl, rfl, ⟨Int.le_refl _, n5.1⟩, rfl⟩
     omega)

def GLB : List (Nat × Nat × Spec1) := (32, 1, sp_ctC) :: GLA
abbrev GGB : Env1 := fun n => getG n GLB
theorem GGB_all {l : Launch} {ω : WP} : ∀ e ∈ GLB, ∀ as M Q, e.2.2 as M Q → Vd l ω e.2.1 e.1 as M Q := List.forall_mem_cons.mpr ⟨ok_ctC, GGA_all⟩
theorem GGB_ok {l : Launch} {ω : WP} : GOK l ω GGB := getG_ok GLB GGB_all

theorem pair_count {l : Launch} {ω : WP} {c : Int} {M : Mem} {w : Int} (hw : in32 w)  (hc : c < 512) (hI : Inv c M) : Vd l ω 9 157 [vR 0 0, vI w] M (PQ1 l ω c 262 [vI w]) := by
  have hI0 := hI
  obtain ⟨h0, hN, hS, hR, hK, hG, hW, hJ, hT, hA, hP, hO, hH⟩ := hI
  have b1 := hN.1
  have b2 := hN.2.2.1
  have b3 := hS.1
  have b4 := hS.2.2.1
  have b5 := hR.1
  have b6 := hR.2.2.2.1
  have b7 := hG.1
  have b8 := hG.2.2.1
  have hH9 : DayH M := ⟨hN, hS, hR, hK, hA, hO, hW.2.2.2.1, hW.2.2.1⟩
  have n8 : 0 ≤ M 10 0 3 ∧ M 10 0 3 ≤ 8 := hO.2.1
  obtain ⟨w1, w2, w3, w4, w5, w6, w7, w8, w9⟩ := id hW
  have o3 : 0 ≤ M 5 0 3 ∧ M 5 0 3 < 512 := by
    have := pw_in b8.1 (show M 5 0 0 ≤ 9 by omega)
    omega
  have i0 : M 13 0 0 = M 1 0 0 := hN.1
  have i2 : M 13 0 2 = M 1 0 2 := hS.1
  have i9 : M 13 0 9 = M 1 0 9 := hR.1
  have i17 : M 13 0 17 = M 5 0 0 := hG.1
  have i35 : M 13 0 35 = M 8 0 6 := hA.1
  have i49 : M 13 0 49 = M 9 0 0 := hP.1
  have i54 : M 13 0 54 = M 10 0 3 := hO.1
  have i73 : M 13 0 73 = M 12 0 0 := hH.1
  have i28 : M 13 0 28 = M 7 0 1 := hT.1
  refine Vd_run (GGB_ok (l := l) (ω := ω)) 400 (cut := fun _ => none) (by decide) CutOK_none ?_
  conv => whnf
  repeat' first
    | (refine And.intro (fun h => ?_) (fun h => ?_) <;> (try simp (disch := decide) only [cmp3_lt, cmp3_ge, cmp3_gt, cmp3_le, cmp3_eq, ms_q, ms_f, mf_q, mf_f, mc_q, mc_f, and_self, and_true, true_and, and_false, false_and, or_true, true_or, or_false, false_or, if_true, if_false, not_true_eq_false, not_false_eq_true, eq_self, reduceIte, Int.reduceEq, Int.reduceLT, Int.reduceLE, Int.reduceNeg, Int.reduceAdd, Int.reduceSub, Int.reduceMul, Int.add_sub_cancel] at h) <;> (try simp (disch := omega) only [w32_e, w64_e, td_pos, tm_pos, Int.add_sub_cancel] at h) <;> first | exact absurd rfl h | exact absurd h (by decide) | (exfalso; omega) | (conv => whnf))
    | (refine And.intro (by first | omega | ((try simp (disch := decide) only [cmp3_lt, cmp3_ge, cmp3_gt, cmp3_le, cmp3_eq, ms_q, ms_f, mf_q, mf_f, mc_q, mc_f, and_self, and_true, true_and, and_false, false_and, or_true, true_or, or_false, false_or, if_true, if_false, not_true_eq_false, not_false_eq_true, eq_self, reduceIte, Int.reduceEq, Int.reduceLT, Int.reduceLE, Int.reduceNeg, Int.reduceAdd, Int.reduceSub, Int.reduceMul, Int.add_sub_cancel]); (try simp (disch := omega) only [w32_e, w64_e, td_pos, tm_pos, Int.add_sub_cancel]); first | assumption | omega) | exact ⟨rfl, hH9⟩ | exact ⟨rfl, by rw [hv.2.2.1 0 3 (by decide)]; exact n8⟩ | ((try simp (disch := decide) only [cmp3_lt, cmp3_ge, cmp3_gt, cmp3_le, cmp3_eq, ms_q, ms_f, mf_q, mf_f, mc_q, mc_f, and_self, and_true, true_and, and_false, false_and, or_true, true_or, or_false, false_or, if_true, if_false, not_true_eq_false, not_false_eq_true, eq_self, reduceIte, Int.reduceEq, Int.reduceLT, Int.reduceLE, Int.reduceNeg, Int.reduceAdd, Int.reduceSub, Int.reduceMul, Int.add_sub_cancel]); (try simp (disch := omega) only [w32_e, w64_e, td_pos, tm_pos, Int.add_sub_cancel]); ((repeat' (first | assumption | omega | with_reducible rfl | apply And.intro)); done))) ?_; conv => whnf)
    | (intro v; intro hv; conv => whnf)
  all_goals refine ⟨0, _, rfl, ?_⟩
  all_goals first
    | (have e5 : v 5 = M 5 := hv.2.1 5 (by decide) (by decide) (by decide) (by decide) (by decide) (by decide) (by decide) (by decide) (by decide)
       have e13 : v 13 = M 13 := hv.2.1 13 (by decide) (by decide) (by decide) (by decide) (by decide) (by decide) (by decide) (by decide) (by decide)
       refine ok_ctM _ _ _ ⟨⟨rfl, hv.day hH9, by rw [e5]; exact b8, by rw [e5, e13]; exact i17, by rw [e5, hv.2.1 86 (by decide) (by decide) (by decide) (by decide) (by decide) (by decide) (by decide) (by decide) (by decide)]; exact w6⟩, fun _ => ⟨dOf M, fun M2 hM2 => ⟨0, ?_, inv_stepDay hc hI0 hv hM2.1⟩⟩, fun z => absurd (by assumption) z⟩
       have rel := rel_day hv hM2.2
       have rel2 : RelD (dx M) (dOf v) M2 96 0 0 0 := by
         rw [hv.1]
         exact rel
       have e10 : v 10 0 3 = M 10 0 3 := hv.2.2.1 0 3 (by decide)
       have tc := tcN_cg (f := M2 111 0) (g := fun r => v 11 r 9) (v 10 0 3).toNat (fun r r0 r1 => (rel2.1 r r0 (show r < M 10 0 3 by omega)).2.2.2.2.1.1)
       rw [Int.toNat_of_nonneg (by omega)] at tc
       exact congrArg (fun z => some (vI z)) tc)
    | (refine ok_ctM _ _ _ ⟨⟨rfl, hH9, b8, i17, w6⟩, fun z => absurd z (by omega), fun _ => ⟨0, congrArg (fun z => some (vI z)) ?_, Inv.next hc hI0⟩⟩
       have c9 := cn_9 w5.1 w5.2 b8.1 (show M 5 0 0 ≤ 9 by omega)
       unfold ctV
       (repeat' first | rw [if_pos (by omega)] | rw [if_neg (by omega)]) <;> first | done | rfl | omega | (have := hv o3.1 o3.2; omega))
