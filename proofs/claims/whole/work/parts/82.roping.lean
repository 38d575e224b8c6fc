/-! ===== the pair roping (wip/gen/p43.py) ===== -/
def GLL : List (Nat × Nat × Spec1) := (233, 4, sp_frM) :: GLK
abbrev GGL : Env1 := fun n => getG n GLL
theorem GGL_all {l : Launch} {ω : WP} : ∀ e ∈ GLL, ∀ as M Q, e.2.2 as M Q → Vd l ω e.2.1 e.1 as M Q := List.forall_mem_cons.mpr ⟨ok_frM, GGK_all⟩
theorem GGL_ok {l : Launch} {ω : WP} : GOK l ω GGL := getG_ok GLL GGL_all
theorem gr_c {C D : (Int → Int) × (Int → Int)} {m : Nat} (h : GR C D m) (g : ¬ C.1 (m : Int) = -1000000) : m = 0 ∨ ∃ r, r ∈ hiL (loN m) m 9 ∧ C.2 (m : Int) = (r : Int) ∧ D.2 (m : Int) = (r : Int) ∧ ¬ C.1 ((m - r : Nat) : Int) = -1000000 := by
  rcases h with ⟨a, -⟩ | ⟨-, -, c⟩
  · exact absurd a g
  · rcases c with c | ⟨c, r, d, e, f⟩
    · exact Or.inl c
    · exact Or.inr ⟨r, d, e, by rw [← c]; exact e, f⟩
theorem gr_g {C D : (Int → Int) × (Int → Int)} {m : Nat} (h : GR C D m) (hm : m < 512) : C.1 (m : Int) = -1000000 ↔ D.1 (m : Int) = -100000 := by
  rcases h with ⟨a, b⟩ | ⟨a, b, -⟩
  · exact ⟨fun _ => b, fun _ => a⟩
  · omega
theorem cnt_eq {C D : (Int → Int) × (Int → Int)} {n : Nat} (hG : ∀ m, m ≤ n → GR C D m) : ∀ (j m : Nat), m ≤ n → ¬ C.1 (m : Int) = -1000000 → cntR C.2 j m = cntR D.2 j m
  | 0, _, _, _ => rfl
  | j + 1, m, hm, g => by
    rw [cntR_s, cntR_s]
    rcases gr_c (hG m hm) g with z | ⟨r, a, b, c, d⟩
    · rw [if_pos z, if_pos z]
    · rw [b, c, Int.toNat_natCast, cnt_eq hG j (m - r) (by omega) d]
theorem rw_eq {C D : (Int → Int) × (Int → Int)} {n p : Nat} (hG : ∀ m, m ≤ n → GR C D m) : ∀ (j m : Nat), m ≤ n → btN m p = true → n < 512 → p < 9 → ¬ C.1 (m : Int) = -1000000 → rwR C.2 p j m = rwR D.2 p j m
  | 0, _, _, _, _, _, _ => rfl
  | j + 1, m, hm, hb, hn, hp, g => by
    rw [rwR_s, rwR_s]
    have m1 : 1 ≤ m := by
      rcases Nat.eq_zero_or_pos m with z | z
      · rw [z] at hb
        have := bt_1.mp hb
        have z0 := bit_z ((p : Nat) : Int)
        have e0 : ((0 : Nat) : Int) = 0 := rfl
        rw [e0] at this
        omega
      · exact z
    rcases gr_c (hG m hm) g with z | ⟨r, a, b, c, d⟩
    · omega
    · rw [b, c, Int.toNat_natCast]
      by_cases q : btN r p = true
      · rw [if_pos q, if_pos q]
      · rw [if_neg q, if_neg q]
        have i := (rp_in (by omega) m1 a).2.2.2.2 p hp
        have qf : btN r p = false := by
          cases hx : btN r p with
          | true => exact absurd hx q
          | false => rfl
        exact rw_eq hG j (m - r) (by omega) (by rw [i.2 qf]; exact hb) hn hp d
theorem p2_c {M : Mem} (hP : IPpl M) : (((2 ^ (M 9 0 0).toNat - 1 : Nat) : Nat) : Int) = ((2 : Int) ^ (M 9 0 0).toNat) - 1 ∧ (1 ≤ ((2 : Int) ^ (M 9 0 0).toNat) ∧ ((2 : Int) ^ (M 9 0 0).toNat) ≤ 512) ∧ (2 ^ (M 9 0 0).toNat - 1 : Nat) < 512 := by
  have p9 := hP.2.1
  have pw := pw_in p9.1 p9.2
  have pN : 1 ≤ 2 ^ (M 9 0 0).toNat ∧ 2 ^ (M 9 0 0).toNat ≤ 512 := (by decide : ∀ f : Nat, f < 10 → 1 ≤ 2 ^ f ∧ 2 ^ f ≤ 512) (M 9 0 0).toNat (by omega)
  have pc : (((2 ^ (M 9 0 0).toNat : Nat)) : Int) = (2 : Int) ^ (M 9 0 0).toNat := by norm_cast
  omega
theorem gr_all {M : Mem} (hP : IPpl M) {le : Int} {W1 F1 W2 F2 : Int → Int} : ∀ m : Nat, m ≤ (2 ^ (M 9 0 0).toNat - 1 : Nat) → GR (rpA (-1000000) le (sgR (M 50 0) (M 9 0 0)) (fun r => wiR (M 52) (M 9 0 0) r (M 9 0 0)) (fun _ => 0) W1 F1 (((2 : Int) ^ (M 9 0 0).toNat) - 1)) (rpA (-100000) le (sgR (M 50 0) (M 9 0 0)) (fun r => wiR (M 52) (M 9 0 0) r (M 9 0 0)) (fun x => x) W2 F2 (((2 : Int) ^ (M 9 0 0).toNat) - 1)) m := fun m hm => by
  obtain ⟨a, b, c⟩ := p2_c hP
  have := rp_all (le := le) (g1 := fun _ => 0) (g2 := fun x => x) (W1 := W1) (W2 := W2) (F1 := F1) (F2 := F2) (k := (2 ^ (M 9 0 0).toNat - 1 : Nat)) (m := m) hP (by omega) hm
  rw [a] at this
  exact this

def sp_roC : Spec1 := fun as M Q => match as with
  | [.inr (.inr (.inl (q0, i0))), .inl le, .inl w] => match Nat.beq q0 0 with
    | true => (i0 = 0 ∧ (0 ≤ le ∧ le ≤ 30) ∧ ((w = 0 ∨ w = 1) ∨ (10 ≤ w ∧ w < 10 + M 9 0 0)) ∧ IPpl M) ∧ ∀ M9, (∀ p, p ≠ 53 → p ≠ 54 → M9 p = M p) → Q (some (vI (if (rpA (-1000000) le (sgR (M 50 0) (M 9 0 0)) (fun r => wiR (M 52) (M 9 0 0) r (M 9 0 0)) (fun _ => 0) (M 53 0) (M 54 0) (((2 : Int) ^ (M 9 0 0).toNat) - 1)).1 (((2 : Int) ^ (M 9 0 0).toNat) - 1) = -1000000 then -1004 else if w = 0 then (rpA (-1000000) le (sgR (M 50 0) (M 9 0 0)) (fun r => wiR (M 52) (M 9 0 0) r (M 9 0 0)) (fun _ => 0) (M 53 0) (M 54 0) (((2 : Int) ^ (M 9 0 0).toNat) - 1)).1 (((2 : Int) ^ (M 9 0 0).toNat) - 1) else if w = 1 then cntR (rpA (-1000000) le (sgR (M 50 0) (M 9 0 0)) (fun r => wiR (M 52) (M 9 0 0) r (M 9 0 0)) (fun _ => 0) (M 53 0) (M 54 0) (((2 : Int) ^ (M 9 0 0).toNat) - 1)).2 512 (2 ^ (M 9 0 0).toNat - 1 : Nat) else rwR (rpA (-1000000) le (sgR (M 50 0) (M 9 0 0)) (fun r => wiR (M 52) (M 9 0 0) r (M 9 0 0)) (fun _ => 0) (M 53 0) (M 54 0) (((2 : Int) ^ (M 9 0 0).toNat) - 1)).2 (w - 10).toNat 512 (2 ^ (M 9 0 0).toNat - 1 : Nat)))) M9
    | false => False
  | _ => False
theorem ok_roC {l : Launch} {ω : WP} : ∀ as M Q, sp_roC as M Q → Vd l ω 9 140 as M Q := by
  intro as M Q h
  unfold sp_roC at h
  split at h
  case h_2 => exact h.elim
  rename_i q0 i0 le w
  cases hb : Nat.beq q0 0 with
  | false => rw [hb] at h; exact h.elim
  | true =>
  rw [hb] at h
  obtain ⟨⟨hi, h1, h2, hP⟩, hQ⟩ := h
  have hb := beq_eq hb
  subst hb
  subst hi
  refine Vd.ok fun hok hal => ?_
  have p9 := hP.2.1
  have q2 := p2_c hP
  have ch : ∀ v : Mem, (∀ p, p ≠ 53 → p ≠ 54 → v p = M p) → v 54 0 = (rpA (-1000000) le (sgR (M 50 0) (M 9 0 0)) (fun r => wiR (M 52) (M 9 0 0) r (M 9 0 0)) (fun _ => 0) (M 53 0) (M 54 0) (((2 : Int) ^ (M 9 0 0).toNat) - 1)).2 → ¬ (rpA (-1000000) le (sgR (M 50 0) (M 9 0 0)) (fun r => wiR (M 52) (M 9 0 0) r (M 9 0 0)) (fun _ => 0) (M 53 0) (M 54 0) (((2 : Int) ^ (M 9 0 0).toNat) - 1)).1 (((2 : Int) ^ (M 9 0 0).toNat) - 1) = -1000000 → IPpl v ∧ (∃ G : Nat → Prop, (∀ m : Nat, (m : Int) < 2 ^ (v 9 0 0).toNat → G m → m = 0 ∨ ∃ r, r ∈ hiL (loN m) m 9 ∧ v 54 0 (m : Int) = (r : Int) ∧ G (m - r)) ∧ G (2 ^ (v 9 0 0).toNat - 1)) := fun v f e g => ⟨by simp (disch := decide) only [IPpl, f]; exact hP, fun m => ¬ (rpA (-1000000) le (sgR (M 50 0) (M 9 0 0)) (fun r => wiR (M 52) (M 9 0 0) r (M 9 0 0)) (fun _ => 0) (M 53 0) (M 54 0) (((2 : Int) ^ (M 9 0 0).toNat) - 1)).1 (m : Int) = -1000000, fun m hm gm => by
      rw [f 9 (by decide) (by decide)] at hm
      rw [e]
      exact (gr_c (gr_all (W2 := M 53 0) (F2 := M 54 0) hP m (by omega)) gm).elim Or.inl (fun ⟨r, a, b, _, d⟩ => Or.inr ⟨r, a, b, d⟩), by
      rw [f 9 (by decide) (by decide)]
      show ¬ (rpA (-1000000) le (sgR (M 50 0) (M 9 0 0)) (fun r => wiR (M 52) (M 9 0 0) r (M 9 0 0)) (fun _ => 0) (M 53 0) (M 54 0) (((2 : Int) ^ (M 9 0 0).toNat) - 1)).1 (((2 ^ (M 9 0 0).toNat - 1 : Nat) : Nat) : Int) = -1000000
      rw [q2.1]
      exact g⟩
  refine Vd_run (GGL_ok (l := l) (ω := ω)) 600 (cut := fun _ => none) (by decide) CutOK_none ?_
  conv => whnf
  repeat' first
    | (refine And.intro (fun h => ?_) (fun h => ?_) <;> (try simp (disch := decide) only [cmp3_lt, cmp3_ge, cmp3_gt, cmp3_le, cmp3_eq, ms_q, ms_f, mf_q, mf_f, mc_q, mc_f, and_self, and_true, true_and, and_false, false_and, or_true, true_or, or_false, false_or, if_true, if_false, not_true_eq_false, not_false_eq_true, eq_self, reduceIte, Int.reduceEq, Int.reduceLT, Int.reduceLE, Int.reduceNeg, Int.reduceAdd, Int.reduceSub, Int.reduceMul, Int.add_sub_cancel] at h) <;> (try simp (disch := omega) only [w32_e, w64_e, td_pos, tm_pos, Int.add_sub_cancel] at h) <;> first | exact absurd rfl h | exact absurd h (by decide) | (exfalso; omega) | (conv => whnf))
    | (refine And.intro (by first | omega | ((try simp (disch := decide) only [cmp3_lt, cmp3_ge, cmp3_gt, cmp3_le, cmp3_eq, ms_q, ms_f, mf_q, mf_f, mc_q, mc_f, and_self, and_true, true_and, and_false, false_and, or_true, true_or, or_false, false_or, if_true, if_false, not_true_eq_false, not_false_eq_true, eq_self, reduceIte, Int.reduceEq, Int.reduceLT, Int.reduceLE, Int.reduceNeg, Int.reduceAdd, Int.reduceSub, Int.reduceMul, Int.add_sub_cancel]); (try simp (disch := omega) only [w32_e, w64_e, td_pos, tm_pos, Int.add_sub_cancel]); first | assumption | omega) | exact ⟨rfl, hP⟩ | ((try simp (disch := decide) only [cmp3_lt, cmp3_ge, cmp3_gt, cmp3_le, cmp3_eq, ms_q, ms_f, mf_q, mf_f, mc_q, mc_f, and_self, and_true, true_and, and_false, false_and, or_true, true_or, or_false, false_or, if_true, if_false, not_true_eq_false, not_false_eq_true, eq_self, reduceIte, Int.reduceEq, Int.reduceLT, Int.reduceLE, Int.reduceNeg, Int.reduceAdd, Int.reduceSub, Int.reduceMul, Int.add_sub_cancel]); (try simp (disch := omega) only [w32_e, w64_e, td_pos, tm_pos, Int.add_sub_cancel]); ((repeat' (first | assumption | omega | with_reducible rfl | apply And.intro)); done))) ?_; conv => whnf)
  all_goals
    (intro v hv
     obtain ⟨v0, v1, v2⟩ := hv
     have e9 : v 9 = M 9 := v0 9 (by decide) (by decide)
     have aw : w32 ((Int32.ofInt 1 <<< (Int32.ofInt (v 9 0 0) &&& 31)).toInt - 1) = ((2 : Int) ^ (M 9 0 0).toNat) - 1 := by
       rw [e9, sh_e p9.1 (by omega), w32_e (by omega) (by omega)]
     by_cases hcc : (rpA (-1000000) le (sgR (M 50 0) (M 9 0 0)) (fun r => wiR (M 52) (M 9 0 0) r (M 9 0 0)) (fun _ => 0) (M 53 0) (M 54 0) (((2 : Int) ^ (M 9 0 0).toNat) - 1)).1 (((2 : Int) ^ (M 9 0 0).toNat) - 1) = -1000000
     · rw [if_pos hcc] at hQ ⊢
       conv => whnf
       repeat' first
         | (refine And.intro (fun h => ?_) (fun h => ?_) <;> (try simp (disch := decide) only [cmp3_lt, cmp3_ge, cmp3_gt, cmp3_le, cmp3_eq, ms_q, ms_f, mf_q, mf_f, mc_q, mc_f, and_self, and_true, true_and, and_false, false_and, or_true, true_or, or_false, false_or, if_true, if_false, not_true_eq_false, not_false_eq_true, eq_self, reduceIte, Int.reduceEq, Int.reduceLT, Int.reduceLE, Int.reduceNeg, Int.reduceAdd, Int.reduceSub, Int.reduceMul, Int.add_sub_cancel] at h) <;> (try simp (disch := omega) only [w32_e, w64_e, td_pos, tm_pos, Int.add_sub_cancel] at h) <;> first | exact absurd rfl h | exact absurd h (by decide) | (exfalso; omega) | (conv => whnf))
         | (refine And.intro (by first | omega | ((try simp (disch := decide) only [cmp3_lt, cmp3_ge, cmp3_gt, cmp3_le, cmp3_eq, ms_q, ms_f, mf_q, mf_f, mc_q, mc_f, and_self, and_true, true_and, and_false, false_and, or_true, true_or, or_false, false_or, if_true, if_false, not_true_eq_false, not_false_eq_true, eq_self, reduceIte, Int.reduceEq, Int.reduceLT, Int.reduceLE, Int.reduceNeg, Int.reduceAdd, Int.reduceSub, Int.reduceMul, Int.add_sub_cancel]); (try simp (disch := omega) only [w32_e, w64_e, td_pos, tm_pos, Int.add_sub_cancel]); first | assumption | omega)) ?_; conv => whnf)
       all_goals exact hQ v v0
     · rw [if_neg hcc] at hQ ⊢
       have chv := ch v v0 v2 hcc
       conv => whnf
       repeat' first
         | (refine And.intro (fun h => ?_) (fun h => ?_) <;> (try simp (disch := decide) only [cmp3_lt, cmp3_ge, cmp3_gt, cmp3_le, cmp3_eq, ms_q, ms_f, mf_q, mf_f, mc_q, mc_f, and_self, and_true, true_and, and_false, false_and, or_true, true_or, or_false, false_or, if_true, if_false, not_true_eq_false, not_false_eq_true, eq_self, reduceIte, Int.reduceEq, Int.reduceLT, Int.reduceLE, Int.reduceNeg, Int.reduceAdd, Int.reduceSub, Int.reduceMul, Int.add_sub_cancel] at h) <;> (try simp (disch := omega) only [w32_e, w64_e, td_pos, tm_pos, Int.add_sub_cancel, e9, sh_e] at h) <;> first | exact absurd rfl h | exact absurd h (by decide) | (exfalso; omega) | (conv => whnf))
         | (refine And.intro (by first | omega | ((try simp (disch := decide) only [cmp3_lt, cmp3_ge, cmp3_gt, cmp3_le, cmp3_eq, ms_q, ms_f, mf_q, mf_f, mc_q, mc_f, and_self, and_true, true_and, and_false, false_and, or_true, true_or, or_false, false_or, if_true, if_false, not_true_eq_false, not_false_eq_true, eq_self, reduceIte, Int.reduceEq, Int.reduceLT, Int.reduceLE, Int.reduceNeg, Int.reduceAdd, Int.reduceSub, Int.reduceMul, Int.add_sub_cancel]); (try simp (disch := omega) only [w32_e, w64_e, td_pos, tm_pos, Int.add_sub_cancel, e9, sh_e]); first | assumption | omega) | exact ⟨rfl, chv.1, chv.2⟩ | exact ⟨rfl, chv.1, by rw [e9, w32_e (by omega) (by omega)]; omega, chv.2⟩ | ((try simp (disch := decide) only [cmp3_lt, cmp3_ge, cmp3_gt, cmp3_le, cmp3_eq, ms_q, ms_f, mf_q, mf_f, mc_q, mc_f, and_self, and_true, true_and, and_false, false_and, or_true, true_or, or_false, false_or, if_true, if_false, not_true_eq_false, not_false_eq_true, eq_self, reduceIte, Int.reduceEq, Int.reduceLT, Int.reduceLE, Int.reduceNeg, Int.reduceAdd, Int.reduceSub, Int.reduceMul, Int.add_sub_cancel]); (try simp (disch := omega) only [w32_e, w64_e, td_pos, tm_pos, Int.add_sub_cancel, e9, sh_e]); ((repeat' (first | assumption | omega | with_reducible rfl | apply And.intro)); done))) ?_; conv => whnf)
       all_goals refine Eq.mp (congrArg (fun z => Q (some (vI z)) v) ?_) (hQ v v0)
       all_goals first
         | (rw [if_pos (by omega), aw, v1]; done)
         | (rw [if_neg (by omega), if_pos (by omega), v2, e9]; done)
         | (rw [if_neg (by omega), if_neg (by omega), v2, e9, w32_e (by omega) (by omega)]; done))

def sp_roM : Spec1 := fun as M Q => match as with
  | [.inr (.inr (.inl (q0, i0))), .inl le, .inl w] => match Nat.beq q0 13 with
    | true => (i0 = 0 ∧ (0 ≤ le ∧ le ≤ 30) ∧ ((w = 0 ∨ w = 1) ∨ (10 ≤ w ∧ w < 10 + M 9 0 0)) ∧ IPpl M) ∧ ∀ M9, (∀ p, p ≠ 103 → p ≠ 104 → M9 p = M p) → Q (some (vI (if (rpA (-100000) le (sgR (M 50 0) (M 9 0 0)) (fun r => wiR (M 52) (M 9 0 0) r (M 9 0 0)) (fun x => x) (M 103 0) (M 104 0) (((2 : Int) ^ (M 9 0 0).toNat) - 1)).1 (((2 : Int) ^ (M 9 0 0).toNat) - 1) = -100000 then -1004 else if w = 0 then (rpA (-100000) le (sgR (M 50 0) (M 9 0 0)) (fun r => wiR (M 52) (M 9 0 0) r (M 9 0 0)) (fun x => x) (M 103 0) (M 104 0) (((2 : Int) ^ (M 9 0 0).toNat) - 1)).1 (((2 : Int) ^ (M 9 0 0).toNat) - 1) else if w = 1 then cntR (rpA (-100000) le (sgR (M 50 0) (M 9 0 0)) (fun r => wiR (M 52) (M 9 0 0) r (M 9 0 0)) (fun x => x) (M 103 0) (M 104 0) (((2 : Int) ^ (M 9 0 0).toNat) - 1)).2 512 (2 ^ (M 9 0 0).toNat - 1 : Nat) else rwR (rpA (-100000) le (sgR (M 50 0) (M 9 0 0)) (fun r => wiR (M 52) (M 9 0 0) r (M 9 0 0)) (fun x => x) (M 103 0) (M 104 0) (((2 : Int) ^ (M 9 0 0).toNat) - 1)).2 (w - 10).toNat 512 (2 ^ (M 9 0 0).toNat - 1 : Nat)))) M9
    | false => False
  | _ => False
theorem ok_roM {l : Launch} {ω : WP} : ∀ as M Q, sp_roM as M Q → Vd l ω 9 234 as M Q := by
  intro as M Q h
  unfold sp_roM at h
  split at h
  case h_2 => exact h.elim
  rename_i q0 i0 le w
  cases hb : Nat.beq q0 13 with
  | false => rw [hb] at h; exact h.elim
  | true =>
  rw [hb] at h
  obtain ⟨⟨hi, h1, h2, hP⟩, hQ⟩ := h
  have hb := beq_eq hb
  subst hb
  subst hi
  refine Vd.ok fun hok hal => ?_
  have p9 := hP.2.1
  have q2 := p2_c hP
  have e49 : M 13 0 49 = M 9 0 0 := hP.1
  have eF := p9
  have key : ∀ n9, CutOK l ω 9 234 (cutL [(84, [0, 1, 2, 3, 4, 5, 6], fun kk vs M9 => ∃ c o k : Int, vs = [vR 13 0, vI le, vI w, vI (((2 : Int) ^ (M 9 0 0).toNat) - 1), vI c, vI o, vI k] ∧ kk = (1000 - c).toNat ∧ (0 ≤ c ∧ c ≤ 4) ∧ (∀ p, p ≠ 103 → p ≠ 104 → M9 p = M p) ∧ M9 103 0 = (rpA (-100000) le (sgR (M 50 0) (M 9 0 0)) (fun r => wiR (M 52) (M 9 0 0) r (M 9 0 0)) (fun x => x) (M 103 0) (M 104 0) (((2 : Int) ^ (M 9 0 0).toNat) - 1)).1 ∧ M9 104 0 = (rpA (-100000) le (sgR (M 50 0) (M 9 0 0)) (fun r => wiR (M 52) (M 9 0 0) r (M 9 0 0)) (fun x => x) (M 103 0) (M 104 0) (((2 : Int) ^ (M 9 0 0).toNat) - 1)).2 ∧ (¬ (rpA (-100000) le (sgR (M 50 0) (M 9 0 0)) (fun r => wiR (M 52) (M 9 0 0) r (M 9 0 0)) (fun x => x) (M 103 0) (M 104 0) (((2 : Int) ^ (M 9 0 0).toNat) - 1)).1 (((2 : Int) ^ (M 9 0 0).toNat) - 1) = -100000) ∧ (∃ (m j : Nat), k = (m : Int) ∧ m ≤ (2 ^ (M 9 0 0).toNat - 1 : Nat) ∧ (¬ (rpA (-1000000) le (sgR (M 50 0) (M 9 0 0)) (fun r => wiR (M 52) (M 9 0 0) r (M 9 0 0)) (fun _ => 0) (M 53 0) (M 54 0) (((2 : Int) ^ (M 9 0 0).toNat) - 1)).1 (m : Int) = -1000000) ∧ c + cntR (rpA (-100000) le (sgR (M 50 0) (M 9 0 0)) (fun r => wiR (M 52) (M 9 0 0) r (M 9 0 0)) (fun x => x) (M 103 0) (M 104 0) (((2 : Int) ^ (M 9 0 0).toNat) - 1)).2 j m = cntR (rpA (-100000) le (sgR (M 50 0) (M 9 0 0)) (fun r => wiR (M 52) (M 9 0 0) r (M 9 0 0)) (fun x => x) (M 103 0) (M 104 0) (((2 : Int) ^ (M 9 0 0).toNat) - 1)).2 512 (2 ^ (M 9 0 0).toNat - 1 : Nat) ∧ c + (j : Int) = 512 ∧ 2 * c + (pcN m : Int) ≤ 9 ∧ (w < 10 ∨ (btN m (w - 10).toNat = true ∧ rwR (rpA (-100000) le (sgR (M 50 0) (M 9 0 0)) (fun r => wiR (M 52) (M 9 0 0) r (M 9 0 0)) (fun x => x) (M 103 0) (M 104 0) (((2 : Int) ^ (M 9 0 0).toNat) - 1)).2 (w - 10).toNat j m = rwR (rpA (-100000) le (sgR (M 50 0) (M 9 0 0)) (fun r => wiR (M 52) (M 9 0 0) r (M 9 0 0)) (fun x => x) (M 103 0) (M 104 0) (((2 : Int) ^ (M 9 0 0).toNat) - 1)).2 (w - 10).toNat 512 (2 ^ (M 9 0 0).toNat - 1 : Nat)) ∨ (btN m (w - 10).toNat = false ∧ o = rwR (rpA (-100000) le (sgR (M 50 0) (M 9 0 0)) (fun r => wiR (M 52) (M 9 0 0) r (M 9 0 0)) (fun x => x) (M 103 0) (M 104 0) (((2 : Int) ^ (M 9 0 0).toNat) - 1)).2 (w - 10).toNat 512 (2 ^ (M 9 0 0).toNat - 1 : Nat)))))] n9) Q := by
    refine loops (GGL_ok (l := l) (ω := ω)) 600 _ ?_
    refine List.forall_mem_cons.mpr ⟨?_, fun _ h => absurd h List.not_mem_nil⟩
    · rintro n9 vs M9 ⟨c, o, k, rfl, rfl, c0, fr, h53, h54, hg0, ⟨m, j, hk, hm, hg, hc, hj, hp, ho⟩⟩
      have e9 : M9 9 = M 9 := fr 9 (by decide) (by decide)
      have ec : w32 (c + 1) = c + 1 := w32_e (by omega) (by omega)
      have gm := gr_c (gr_all (le := le) (W1 := M 53 0) (F1 := M 54 0) (W2 := M 103 0) (F2 := M 104 0) hP m hm) hg
      have kb : 0 ≤ k ∧ k < 512 := by omega
      obtain ⟨F, eF⟩ : ∃ F, M9 104 0 k = F := ⟨_, rfl⟩
      obtain ⟨r, hr⟩ : ∃ r, 1 ≤ m → (r ∈ hiL (loN m) m 9 ∧ F = (r : Int) ∧ ¬ (rpA (-1000000) le (sgR (M 50 0) (M 9 0 0)) (fun r => wiR (M 52) (M 9 0 0) r (M 9 0 0)) (fun _ => 0) (M 53 0) (M 54 0) (((2 : Int) ^ (M 9 0 0).toNat) - 1)).1 ((m - r : Nat) : Int) = -1000000) := by
        by_cases z : 1 ≤ m
        · rcases gm with y | ⟨r, a, b, d, e⟩
          · omega
          · exact ⟨r, fun _ => ⟨a, by rw [← eF, h54, hk]; exact d, e⟩⟩
        · exact ⟨0, fun y => absurd y z⟩
      clear gm
      have rin := fun z : 1 ≤ m => rp_in (m := m) (by omega) z (hr z).1
      have fbd : 1 ≤ m → 0 ≤ F ∧ F < 512 := fun z => by
        have q := rin z
        have e := (hr z).2.1
        omega
      have f01 := bit_01 F (w - 10)
      show wpH _ 600 _ 234 _ true 84 [vR 13 0, vI le, vI w, vI (((2 : Int) ^ (M 9 0 0).toNat) - 1), vI c, vI o, vI k] [] _ Q
      conv => whnf
      repeat' first
        | (refine And.intro (fun h => ?_) (fun h => ?_) <;> (try simp (disch := decide) only [cmp3_lt, cmp3_ge, cmp3_gt, cmp3_le, cmp3_eq, ms_q, ms_f, mf_q, mf_f, mc_q, mc_f, and_self, and_true, true_and, and_false, false_and, or_true, true_or, or_false, false_or, if_true, if_false, not_true_eq_false, not_false_eq_true, eq_self, reduceIte, Int.reduceEq, Int.reduceLT, Int.reduceLE, Int.reduceNeg, Int.reduceAdd, Int.reduceSub, Int.reduceMul, Int.add_sub_cancel] at h) <;> (try simp (disch := omega) only [w32_e, w64_e, td_pos, tm_pos, Int.add_sub_cancel, e49, sh_e, bit_e, eF] at h) <;> first | exact absurd rfl h | exact absurd h (by decide) | (exfalso; omega) | (conv => whnf))
        | (refine And.intro (by first | omega | ((try simp (disch := decide) only [cmp3_lt, cmp3_ge, cmp3_gt, cmp3_le, cmp3_eq, ms_q, ms_f, mf_q, mf_f, mc_q, mc_f, and_self, and_true, true_and, and_false, false_and, or_true, true_or, or_false, false_or, if_true, if_false, not_true_eq_false, not_false_eq_true, eq_self, reduceIte, Int.reduceEq, Int.reduceLT, Int.reduceLE, Int.reduceNeg, Int.reduceAdd, Int.reduceSub, Int.reduceMul, Int.add_sub_cancel]); (try simp (disch := omega) only [w32_e, w64_e, td_pos, tm_pos, Int.add_sub_cancel, e49, sh_e, bit_e, eF]); first | assumption | omega) | exact ⟨rfl, hP⟩ | (rw [hv.1 13 (by decide) (by decide), hP.1, sh_e p9.1 (by omega), w32_e (by omega) (by omega)]; omega) | ((try simp (disch := decide) only [cmp3_lt, cmp3_ge, cmp3_gt, cmp3_le, cmp3_eq, ms_q, ms_f, mf_q, mf_f, mc_q, mc_f, and_self, and_true, true_and, and_false, false_and, or_true, true_or, or_false, false_or, if_true, if_false, not_true_eq_false, not_false_eq_true, eq_self, reduceIte, Int.reduceEq, Int.reduceLT, Int.reduceLE, Int.reduceNeg, Int.reduceAdd, Int.reduceSub, Int.reduceMul, Int.add_sub_cancel]); (try simp (disch := omega) only [w32_e, w64_e, td_pos, tm_pos, Int.add_sub_cancel, e49, sh_e, bit_e, eF]); ((repeat' (first | assumption | omega | with_reducible rfl | apply And.intro)); done))) ?_; conv => whnf)
        | (intro v; intro hv; conv => whnf)
      all_goals first
        | (have m0 : m = 0 := by omega
           rw [m0, cntR_0] at hc
           refine Eq.mp (congrArg (fun z => Q (some (vI z)) M9) ?_) (hQ M9 fr)
           rw [if_neg hg0]
           first
             | (rw [if_pos (by omega), h53]; done)
             | (rw [if_neg (by omega), if_pos (by omega)]; omega)
             | (rw [if_neg (by omega), if_neg (by omega)]
                rcases ho with z | ⟨z, -⟩ | ⟨-, z⟩
                · omega
                · rw [m0] at z
                  have := bt_1.mp z
                  have z0 := bit_z (((w - 10).toNat : Nat) : Int)
                  have e0 : ((0 : Nat) : Int) = 0 := rfl
                  rw [e0] at this
                  omega
                · exact z.symm))
        | (have m1 : 1 ≤ m := by omega
           obtain ⟨g1, g2, g3⟩ := hr m1
           have q := rin m1
           have kw : w32 (k - F) = ((m - r : Nat) : Int) := by rw [w32_e (by omega) (by omega)]; omega
           obtain ⟨j', ej⟩ : ∃ j', j = j' + 1 := ⟨j - 1, by omega⟩
           have e2 : (rpA (-100000) le (sgR (M 50 0) (M 9 0 0)) (fun r => wiR (M 52) (M 9 0 0) r (M 9 0 0)) (fun x => x) (M 103 0) (M 104 0) (((2 : Int) ^ (M 9 0 0).toNat) - 1)).2 (m : Int) = (r : Int) := by rw [← h54, ← hk, eF]; exact g2
           rw [ej, cntR_s, if_neg (by omega), e2, Int.toNat_natCast] at hc
           have st : ∀ o' : Int, (w < 10 ∨ (btN (m - r) (w - 10).toNat = true ∧ rwR (rpA (-100000) le (sgR (M 50 0) (M 9 0 0)) (fun r => wiR (M 52) (M 9 0 0) r (M 9 0 0)) (fun x => x) (M 103 0) (M 104 0) (((2 : Int) ^ (M 9 0 0).toNat) - 1)).2 (w - 10).toNat j' (m - r) = rwR (rpA (-100000) le (sgR (M 50 0) (M 9 0 0)) (fun r => wiR (M 52) (M 9 0 0) r (M 9 0 0)) (fun x => x) (M 103 0) (M 104 0) (((2 : Int) ^ (M 9 0 0).toNat) - 1)).2 (w - 10).toNat 512 (2 ^ (M 9 0 0).toNat - 1 : Nat)) ∨ (btN (m - r) (w - 10).toNat = false ∧ o' = rwR (rpA (-100000) le (sgR (M 50 0) (M 9 0 0)) (fun r => wiR (M 52) (M 9 0 0) r (M 9 0 0)) (fun x => x) (M 103 0) (M 104 0) (((2 : Int) ^ (M 9 0 0).toNat) - 1)).2 (w - 10).toNat 512 (2 ^ (M 9 0 0).toNat - 1 : Nat))) → ∃ (m2 j2 : Nat), ((m - r : Nat) : Int) = (m2 : Int) ∧ m2 ≤ (2 ^ (M 9 0 0).toNat - 1 : Nat) ∧ (¬ (rpA (-1000000) le (sgR (M 50 0) (M 9 0 0)) (fun r => wiR (M 52) (M 9 0 0) r (M 9 0 0)) (fun _ => 0) (M 53 0) (M 54 0) (((2 : Int) ^ (M 9 0 0).toNat) - 1)).1 (m2 : Int) = -1000000) ∧ c + 1 + cntR (rpA (-100000) le (sgR (M 50 0) (M 9 0 0)) (fun r => wiR (M 52) (M 9 0 0) r (M 9 0 0)) (fun x => x) (M 103 0) (M 104 0) (((2 : Int) ^ (M 9 0 0).toNat) - 1)).2 j2 m2 = cntR (rpA (-100000) le (sgR (M 50 0) (M 9 0 0)) (fun r => wiR (M 52) (M 9 0 0) r (M 9 0 0)) (fun x => x) (M 103 0) (M 104 0) (((2 : Int) ^ (M 9 0 0).toNat) - 1)).2 512 (2 ^ (M 9 0 0).toNat - 1 : Nat) ∧ c + 1 + (j2 : Int) = 512 ∧ 2 * (c + 1) + (pcN m2 : Int) ≤ 9 ∧ (w < 10 ∨ (btN m2 (w - 10).toNat = true ∧ rwR (rpA (-100000) le (sgR (M 50 0) (M 9 0 0)) (fun r => wiR (M 52) (M 9 0 0) r (M 9 0 0)) (fun x => x) (M 103 0) (M 104 0) (((2 : Int) ^ (M 9 0 0).toNat) - 1)).2 (w - 10).toNat j2 m2 = rwR (rpA (-100000) le (sgR (M 50 0) (M 9 0 0)) (fun r => wiR (M 52) (M 9 0 0) r (M 9 0 0)) (fun x => x) (M 103 0) (M 104 0) (((2 : Int) ^ (M 9 0 0).toNat) - 1)).2 (w - 10).toNat 512 (2 ^ (M 9 0 0).toNat - 1 : Nat)) ∨ (btN m2 (w - 10).toNat = false ∧ o' = rwR (rpA (-100000) le (sgR (M 50 0) (M 9 0 0)) (fun r => wiR (M 52) (M 9 0 0) r (M 9 0 0)) (fun x => x) (M 103 0) (M 104 0) (((2 : Int) ^ (M 9 0 0).toNat) - 1)).2 (w - 10).toNat 512 (2 ^ (M 9 0 0).toNat - 1 : Nat))) := fun o' ho' => ⟨m - r, j', rfl, by omega, g3, by omega, by omega, by omega, ho'⟩
           have hcl : 0 ≤ c + 1 ∧ c + 1 ≤ 4 := by omega
           by_cases w10 : w < 10
           · first
               | (exfalso; omega)
               | (refine ⟨_, ?_, c + 1, o, _, by rw [ec, eF, kw], rfl, hcl, fr, h53, h54, hg0, st o (Or.inl w10)⟩
                  omega)
           · have wr : 0 ≤ w - 10 ∧ w - 10 < 9 := by omega
             have cw : (((w - 10).toNat : Nat) : Int) = w - 10 := Int.toNat_of_nonneg wr.1
             have br : bitI F (w - 10) = 1 ↔ btN r (w - 10).toNat = true := by rw [g2, bt_1, cw]
             have qp := q.2.2.2.2 (w - 10).toNat (by omega)
             have hoo : (btN m (w - 10).toNat = true ∧ rwR (rpA (-100000) le (sgR (M 50 0) (M 9 0 0)) (fun r => wiR (M 52) (M 9 0 0) r (M 9 0 0)) (fun x => x) (M 103 0) (M 104 0) (((2 : Int) ^ (M 9 0 0).toNat) - 1)).2 (w - 10).toNat j m = rwR (rpA (-100000) le (sgR (M 50 0) (M 9 0 0)) (fun r => wiR (M 52) (M 9 0 0) r (M 9 0 0)) (fun x => x) (M 103 0) (M 104 0) (((2 : Int) ^ (M 9 0 0).toNat) - 1)).2 (w - 10).toNat 512 (2 ^ (M 9 0 0).toNat - 1 : Nat)) ∨ (btN m (w - 10).toNat = false ∧ o = rwR (rpA (-100000) le (sgR (M 50 0) (M 9 0 0)) (fun r => wiR (M 52) (M 9 0 0) r (M 9 0 0)) (fun x => x) (M 103 0) (M 104 0) (((2 : Int) ^ (M 9 0 0).toNat) - 1)).2 (w - 10).toNat 512 (2 ^ (M 9 0 0).toNat - 1 : Nat)) := ho.elim (fun z => absurd z w10) (fun z => z)
             rw [ej, rwR_s, e2, Int.toNat_natCast] at hoo
             first
               | (exfalso; clear hoo; omega)
               | (have b1 : btN r (w - 10).toNat = true := br.mp (by assumption)
                  refine ⟨_, ?_, c + 1, F, _, by rw [ec, eF, kw], rfl, hcl, fr, h53, h54, hg0, st F (Or.inr (Or.inr ⟨(qp.1 b1).2, ?_⟩))⟩
                  · omega
                  · rw [if_pos b1] at hoo
                    rcases hoo with ⟨-, z⟩ | ⟨z, -⟩
                    · rw [g2]
                      exact z
                    · rw [(qp.1 b1).1] at z
                      cases z)
               | (have b1 : btN r (w - 10).toNat = false := by
                    cases hx : btN r (w - 10).toNat with
                    | true => exact absurd (br.mpr hx) (by assumption)
                    | false => rfl
                  refine ⟨_, ?_, c + 1, o, _, by rw [ec, eF, kw], rfl, hcl, fr, h53, h54, hg0, st o (Or.inr ?_)⟩
                  · omega
                  · rw [if_neg (by rw [b1]; decide)] at hoo
                    rw [qp.2 b1]
                    exact hoo))
  refine Vd_run (GGL_ok (l := l) (ω := ω)) 600 (hC := key 5000) (by decide) ?_
  conv => whnf
  repeat' first
    | (refine And.intro (fun h => ?_) (fun h => ?_) <;> (try simp (disch := decide) only [cmp3_lt, cmp3_ge, cmp3_gt, cmp3_le, cmp3_eq, ms_q, ms_f, mf_q, mf_f, mc_q, mc_f, and_self, and_true, true_and, and_false, false_and, or_true, true_or, or_false, false_or, if_true, if_false, not_true_eq_false, not_false_eq_true, eq_self, reduceIte, Int.reduceEq, Int.reduceLT, Int.reduceLE, Int.reduceNeg, Int.reduceAdd, Int.reduceSub, Int.reduceMul, Int.add_sub_cancel] at h) <;> (try simp (disch := omega) only [w32_e, w64_e, td_pos, tm_pos, Int.add_sub_cancel, e49, sh_e, bit_e, eF] at h) <;> first | exact absurd rfl h | exact absurd h (by decide) | (exfalso; omega) | (conv => whnf))
    | (refine And.intro (by first | omega | ((try simp (disch := decide) only [cmp3_lt, cmp3_ge, cmp3_gt, cmp3_le, cmp3_eq, ms_q, ms_f, mf_q, mf_f, mc_q, mc_f, and_self, and_true, true_and, and_false, false_and, or_true, true_or, or_false, false_or, if_true, if_false, not_true_eq_false, not_false_eq_true, eq_self, reduceIte, Int.reduceEq, Int.reduceLT, Int.reduceLE, Int.reduceNeg, Int.reduceAdd, Int.reduceSub, Int.reduceMul, Int.add_sub_cancel]); (try simp (disch := omega) only [w32_e, w64_e, td_pos, tm_pos, Int.add_sub_cancel, e49, sh_e, bit_e, eF]); first | assumption | omega) | exact ⟨rfl, hP⟩ | (rw [hv.1 13 (by decide) (by decide), hP.1, sh_e p9.1 (by omega), w32_e (by omega) (by omega)]; omega) | ((try simp (disch := decide) only [cmp3_lt, cmp3_ge, cmp3_gt, cmp3_le, cmp3_eq, ms_q, ms_f, mf_q, mf_f, mc_q, mc_f, and_self, and_true, true_and, and_false, false_and, or_true, true_or, or_false, false_or, if_true, if_false, not_true_eq_false, not_false_eq_true, eq_self, reduceIte, Int.reduceEq, Int.reduceLT, Int.reduceLE, Int.reduceNeg, Int.reduceAdd, Int.reduceSub, Int.reduceMul, Int.add_sub_cancel]); (try simp (disch := omega) only [w32_e, w64_e, td_pos, tm_pos, Int.add_sub_cancel, e49, sh_e, bit_e, eF]); ((repeat' (first | assumption | omega | with_reducible rfl | apply And.intro)); done))) ?_; conv => whnf)
    | (intro v; intro hv; conv => whnf)
  all_goals
    (obtain ⟨v0, v1, v2⟩ := hv
     have aw : w32 ((Int32.ofInt 1 <<< (Int32.ofInt (v 13 0 49) &&& 31)).toInt - 1) = ((2 : Int) ^ (M 9 0 0).toNat) - 1 := by
       rw [v0 13 (by decide) (by decide), hP.1, sh_e p9.1 (by omega), w32_e (by omega) (by omega)]
     rw [aw] at h
     rw [v1] at h
     first
       | (refine Eq.mp (congrArg (fun z => Q (some (vI z)) v) ?_) (hQ v v0)
          rw [if_pos h])
       | (have gA := (gr_g (gr_all (le := le) (W1 := M 53 0) (F1 := M 54 0) (W2 := M 103 0) (F2 := M 104 0) hP (2 ^ (M 9 0 0).toNat - 1 : Nat) (Nat.le_refl _)) q2.2.2)
          rw [q2.1] at gA
          refine ⟨_, ?_, 0, 0, _, by rw [aw], rfl, ⟨Int.le_refl _, by decide⟩, v0, v1, v2, h, (2 ^ (M 9 0 0).toNat - 1 : Nat), 512, q2.1.symm, Nat.le_refl _, ?_, by omega, rfl, ?_, ?_⟩
          · omega
          · rw [q2.1]
            exact fun z => h (gA.mp z)
          · have := pc_t (2 ^ (M 9 0 0).toNat - 1 : Nat) q2.2.2
            omega
          · by_cases w10 : w < 10
            · exact Or.inl w10
            · exact Or.inr (Or.inl ⟨al_t (M 9 0 0).toNat (by omega) (w - 10).toNat (by omega), rfl⟩)))

theorem inv_roping {c : Int} {M : Mem} {M9 : Mem} (fr : ∀ p, p ≠ 53 → p ≠ 54 → p ≠ 103 → p ≠ 104 → M9 p = M p) (hc : c < 512) (hI : Inv c M) : Inv (c + 1) (M9) := by
  obtain ⟨h0, hN, hS, hR, hK, hG, hW, hJ, hT, hA, hP, hO, hH⟩ := hI
  refine ⟨by omega, ?_, ?_, ?_, ?_, ?_, ?_, ?_, ?_, ?_, ?_, ?_, ?_⟩
  all_goals first
    | (have q := hN; simp (disch := decide) only [INet, ms_q, ms_f, mf_q, mf_f, mc_q, mc_f, fr] at q ⊢; exact q)
    | (have q := hS; simp (disch := decide) only [IStp, ms_q, ms_f, mf_q, mf_f, mc_q, mc_f, fr] at q ⊢; exact q)
    | (have q := hR; simp (disch := decide) only [IRou, ms_q, ms_f, mf_q, mf_f, mc_q, mc_f, fr] at q ⊢; exact q)
    | (have q := hK; simp (disch := decide) only [ISky, ms_q, ms_f, mf_q, mf_f, mc_q, mc_f, fr] at q ⊢; exact q)
    | (have q := hG; simp (disch := decide) only [IGui, ms_q, ms_f, mf_q, mf_f, mc_q, mc_f, fr] at q ⊢; exact q)
    | (have q := hW.next; simp (disch := decide) only [INow, ms_q, ms_f, mf_q, mf_f, mc_q, mc_f, fr] at q ⊢; exact q)
    | (have q := hJ.next; simp (disch := decide) only [IImg, ms_q, ms_f, mf_q, mf_f, mc_q, mc_f, fr] at q ⊢; exact q)
    | (have q := hT; simp (disch := decide) only [ITap, ms_q, ms_f, mf_q, mf_f, mc_q, mc_f, fr] at q ⊢; exact q)
    | (have q := hA; simp (disch := decide) only [ISta, ms_q, ms_f, mf_q, mf_f, mc_q, mc_f, fr] at q ⊢; exact q)
    | (have q := hP; simp (disch := decide) only [IPpl, ms_q, ms_f, mf_q, mf_f, mc_q, mc_f, fr] at q ⊢; exact q)
    | (have q := hO; simp (disch := decide) only [IRop, ms_q, ms_f, mf_q, mf_f, mc_q, mc_f, fr] at q ⊢; exact q)
    | (have q := hH; simp (disch := decide) only [IHrs, ms_q, ms_f, mf_q, mf_f, mc_q, mc_f, fr] at q ⊢; exact q)
    | skip

theorem pair_roping {l : Launch} {ω : WP} {c : Int} {M : Mem} {le : Int} {w : Int} (hle : in32 le) (hw : in32 w)  (hc : c < 512) (hI : Inv c M) : Vd l ω 9 140 [vR 0 0, vI le, vI w] M (PQ1 l ω c 234 [vI le, vI w]) := by
  have hI0 := hI
  obtain ⟨h0, hN, hS, hR, hK, hG, hW, hJ, hT, hA, hP, hO, hH⟩ := hI
  have b1 := hN.1
  have b2 := hN.2.2.1
  have b3 := hS.1
  have b4 := hS.2.2.1
  have b5 := hR.1
  have b6 := hR.2.2.2.1
  have b7 := hG.1
  have b8 := hG.2.2.1
  have i49 : M 13 0 49 = M 9 0 0 := hP.1
  have p9 := hP.2.1
  have wB : -2147483648 ≤ w ∧ w < 2147483648 := hw
  have lB : -2147483648 ≤ le ∧ le < 2147483648 := hle
  by_cases hg : (0 ≤ le ∧ le ≤ 30) ∧ ((w = 0 ∨ w = 1) ∨ (10 ≤ w ∧ w < 10 + M 9 0 0))
  · refine ok_roC _ _ _ ⟨⟨rfl, hg.1, hg.2, hP⟩, fun M1 f1 => ⟨0, _, rfl, ?_⟩⟩
    have hP1 : IPpl M1 := by simp (disch := decide) only [IPpl, f1]; exact hP
    have e9 : M1 9 = M 9 := f1 9 (by decide) (by decide)
    refine ok_roM _ _ _ ⟨⟨rfl, hg.1, by rw [e9]; exact hg.2, hP1⟩, fun M2 f2 => ⟨0, ?_, inv_roping (fun p a b c d => (f2 p c d).trans (f1 p a b)) hc hI0⟩⟩
    rw [e9, f1 50 (by decide) (by decide), f1 52 (by decide) (by decide), f1 103 (by decide) (by decide), f1 104 (by decide) (by decide)]
    refine congrArg (fun z => some (vI z)) ?_
    have q2 := p2_c hP
    have wx : ¬ w = 0 → ¬ w = 1 → (M 9 0 0).toNat < 10 ∧ (w - 10).toNat < (M 9 0 0).toNat ∧ (w - 10).toNat < 9 := fun a b => by omega
    have G := gr_all (le := le) (W1 := M 53 0) (F1 := M 54 0) (W2 := M 103 0) (F2 := M 104 0) hP
    have gA := gr_g (G (2 ^ (M 9 0 0).toNat - 1 : Nat) (Nat.le_refl _)) q2.2.2
    have gE := G (2 ^ (M 9 0 0).toNat - 1 : Nat) (Nat.le_refl _)
    unfold GR at gE
    rw [q2.1] at gA gE
    generalize hC : (rpA (-1000000) le (sgR (M 50 0) (M 9 0 0)) (fun r => wiR (M 52) (M 9 0 0) r (M 9 0 0)) (fun _ => 0) (M 53 0) (M 54 0) (((2 : Int) ^ (M 9 0 0).toNat) - 1)) = C at *
    generalize hD : (rpA (-100000) le (sgR (M 50 0) (M 9 0 0)) (fun r => wiR (M 52) (M 9 0 0) r (M 9 0 0)) (fun x => x) (M 103 0) (M 104 0) (((2 : Int) ^ (M 9 0 0).toNat) - 1)) = D at *
    by_cases c : C.1 (((2 : Int) ^ (M 9 0 0).toNat) - 1) = -1000000
    · rw [if_pos c, if_pos (gA.mp c)]
    · rw [if_neg c, if_neg (fun z => c (gA.mpr z))]
      have eq1 : C.1 (((2 : Int) ^ (M 9 0 0).toNat) - 1) = D.1 (((2 : Int) ^ (M 9 0 0).toNat) - 1) := gE.elim (fun z => absurd z.1 c) (fun z => z.1)
      by_cases w0 : w = 0
      · rw [if_pos w0, if_pos w0, eq1]
      · rw [if_neg w0, if_neg w0]
        have c' : ¬ C.1 (((2 ^ (M 9 0 0).toNat - 1 : Nat) : Nat) : Int) = -1000000 := by rw [q2.1]; exact c
        by_cases w1 : w = 1
        · rw [if_pos w1, if_pos w1]
          exact (cnt_eq G 512 (2 ^ (M 9 0 0).toNat - 1 : Nat) (Nat.le_refl _) c').symm
        · rw [if_neg w1, if_neg w1]
          exact (rw_eq G 512 (2 ^ (M 9 0 0).toNat - 1 : Nat) (Nat.le_refl _) (al_t (M 9 0 0).toNat (wx w0 w1).1 (w - 10).toNat (wx w0 w1).2.1) q2.2.2 (wx w0 w1).2.2 c').symm
  refine Vd_run (GGL_ok (l := l) (ω := ω)) 400 (cut := fun _ => none) (by decide) CutOK_none ?_
  conv => whnf
  repeat' first
    | (refine And.intro (fun h => ?_) (fun h => ?_) <;> (try simp (disch := decide) only [cmp3_lt, cmp3_ge, cmp3_gt, cmp3_le, cmp3_eq, ms_q, ms_f, mf_q, mf_f, mc_q, mc_f, and_self, and_true, true_and, and_false, false_and, or_true, true_or, or_false, false_or, if_true, if_false, not_true_eq_false, not_false_eq_true, eq_self, reduceIte, Int.reduceEq, Int.reduceLT, Int.reduceLE, Int.reduceNeg, Int.reduceAdd, Int.reduceSub, Int.reduceMul, Int.add_sub_cancel] at h) <;> (try simp (disch := omega) only [w32_e, w64_e, td_pos, tm_pos, Int.add_sub_cancel, i49] at h) <;> first | exact absurd rfl h | exact absurd h (by decide) | (exfalso; omega) | (conv => whnf))
    | (refine And.intro (by first | omega | ((try simp (disch := decide) only [cmp3_lt, cmp3_ge, cmp3_gt, cmp3_le, cmp3_eq, ms_q, ms_f, mf_q, mf_f, mc_q, mc_f, and_self, and_true, true_and, and_false, false_and, or_true, true_or, or_false, false_or, if_true, if_false, not_true_eq_false, not_false_eq_true, eq_self, reduceIte, Int.reduceEq, Int.reduceLT, Int.reduceLE, Int.reduceNeg, Int.reduceAdd, Int.reduceSub, Int.reduceMul, Int.add_sub_cancel]); (try simp (disch := omega) only [w32_e, w64_e, td_pos, tm_pos, Int.add_sub_cancel, i49]); first | assumption | omega) | ((try simp (disch := decide) only [cmp3_lt, cmp3_ge, cmp3_gt, cmp3_le, cmp3_eq, ms_q, ms_f, mf_q, mf_f, mc_q, mc_f, and_self, and_true, true_and, and_false, false_and, or_true, true_or, or_false, false_or, if_true, if_false, not_true_eq_false, not_false_eq_true, eq_self, reduceIte, Int.reduceEq, Int.reduceLT, Int.reduceLE, Int.reduceNeg, Int.reduceAdd, Int.reduceSub, Int.reduceMul, Int.add_sub_cancel]); (try simp (disch := omega) only [w32_e, w64_e, td_pos, tm_pos, Int.add_sub_cancel, i49]); ((repeat' (first | assumption | omega | with_reducible rfl | apply And.intro)); done))) ?_; conv => whnf)
    | (intro v; intro hv; conv => whnf)
  all_goals refine ⟨0, _, rfl, ?_⟩
  all_goals refine Vd_run (GGL_ok (l := l) (ω := ω)) 400 (cut := fun _ => none) (by decide) CutOK_none ?_
  all_goals conv => whnf
  all_goals repeat' first
    | (refine And.intro (fun h => ?_) (fun h => ?_) <;> (try simp (disch := decide) only [cmp3_lt, cmp3_ge, cmp3_gt, cmp3_le, cmp3_eq, ms_q, ms_f, mf_q, mf_f, mc_q, mc_f, and_self, and_true, true_and, and_false, false_and, or_true, true_or, or_false, false_or, if_true, if_false, not_true_eq_false, not_false_eq_true, eq_self, reduceIte, Int.reduceEq, Int.reduceLT, Int.reduceLE, Int.reduceNeg, Int.reduceAdd, Int.reduceSub, Int.reduceMul, Int.add_sub_cancel] at h) <;> (try simp (disch := omega) only [w32_e, w64_e, td_pos, tm_pos, Int.add_sub_cancel, i49] at h) <;> first | exact absurd rfl h | exact absurd h (by decide) | (exfalso; omega) | (conv => whnf))
    | (refine And.intro (by first | omega | ((try simp (disch := decide) only [cmp3_lt, cmp3_ge, cmp3_gt, cmp3_le, cmp3_eq, ms_q, ms_f, mf_q, mf_f, mc_q, mc_f, and_self, and_true, true_and, and_false, false_and, or_true, true_or, or_false, false_or, if_true, if_false, not_true_eq_false, not_false_eq_true, eq_self, reduceIte, Int.reduceEq, Int.reduceLT, Int.reduceLE, Int.reduceNeg, Int.reduceAdd, Int.reduceSub, Int.reduceMul, Int.add_sub_cancel]); (try simp (disch := omega) only [w32_e, w64_e, td_pos, tm_pos, Int.add_sub_cancel, i49]); first | assumption | omega) | ((try simp (disch := decide) only [cmp3_lt, cmp3_ge, cmp3_gt, cmp3_le, cmp3_eq, ms_q, ms_f, mf_q, mf_f, mc_q, mc_f, and_self, and_true, true_and, and_false, false_and, or_true, true_or, or_false, false_or, if_true, if_false, not_true_eq_false, not_false_eq_true, eq_self, reduceIte, Int.reduceEq, Int.reduceLT, Int.reduceLE, Int.reduceNeg, Int.reduceAdd, Int.reduceSub, Int.reduceMul, Int.add_sub_cancel]); (try simp (disch := omega) only [w32_e, w64_e, td_pos, tm_pos, Int.add_sub_cancel, i49]); ((repeat' (first | assumption | omega | with_reducible rfl | apply And.intro)); done))) ?_; conv => whnf)
    | (intro v; intro hv; conv => whnf)
  all_goals refine ⟨0, ?_, ?_⟩
  all_goals ((try simp (disch := decide) only [cmp3_lt, cmp3_ge, cmp3_gt, cmp3_le, cmp3_eq, ms_q, ms_f, mf_q, mf_f, mc_q, mc_f, and_self, and_true, true_and, and_false, false_and, or_true, true_or, or_false, false_or, if_true, if_false, not_true_eq_false, not_false_eq_true, eq_self, reduceIte, Int.reduceEq, Int.reduceLT, Int.reduceLE, Int.reduceNeg, Int.reduceAdd, Int.reduceSub, Int.reduceMul, Int.add_sub_cancel] at *); (try simp (disch := omega) only [w32_e, w64_e, td_pos, tm_pos, Int.add_sub_cancel, i49] at *))
  all_goals first
    | exact Inv.next hc hI0
    | exact congrArg (fun z => some (vI z)) (by omega)
    | exact congrArg (fun z => some (vL z)) (by omega)
    | (exfalso; omega)
    | skip
