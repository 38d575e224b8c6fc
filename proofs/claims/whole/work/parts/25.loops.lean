/-! ===== loops; sums over a route, its times (wip/gen/p4.py) ===== -/
def cutL : List (Nat × List Nat × (Nat → List AV → Mem → Prop)) → Nat → Nat → Option Cut1
  | [], _, _ => none
  | (p, is, I) :: r, n, pc => bif Nat.beq pc p then some (is, fun vs M => ∃ k, k < n ∧ I k vs M) else cutL r n pc
theorem cutL_sp {n pc : Nat} {c : Cut1} : ∀ (L : List (Nat × List Nat × (Nat → List AV → Mem → Prop))), cutL L n pc = some c → ∃ e ∈ L, pc = e.1 ∧ c = (e.2.1, fun vs M => ∃ k, k < n ∧ e.2.2 k vs M)
  | [], h => by cases h
  | (p, is, I) :: r, h => by
    unfold cutL at h
    cases hb : Nat.beq pc p with
    | true =>
      rw [hb] at h
      cases h
      exact ⟨_, List.mem_cons_self, beq_eq hb, rfl⟩
    | false =>
      rw [hb] at h
      obtain ⟨e, he, h1, h2⟩ := cutL_sp r h
      exact ⟨e, List.mem_cons_of_mem _ he, h1, h2⟩
theorem loops {l : Launch} {ω : WP} {G : Env1} (hG : GOK l ω G) (fuel : Nat) {d y : Nat} {Q : Post} (L : List (Nat × List Nat × (Nat → List AV → Mem → Prop)))
    (hstep : ∀ e ∈ L, ∀ (n : Nat) (vs : List AV) (M : Mem), e.2.2 n vs M → wpH G fuel d y (cutL L n) true e.1 (plcL (mxt y) e.2.1 vs) [] M Q) (n : Nat) : CutOK l ω d y (cutL L n) Q := by
  induction n using Nat.strongRecOn with
  | _ n ih =>
    intro pc c hc vs M hI
    obtain ⟨e, he, rfl, rfl⟩ := cutL_sp L hc
    obtain ⟨k, hk, hI⟩ := hI
    exact Vx_run hG fuel (ih k hk) (hstep e he k vs M hI)
def itI {α : Type} (s : Int → α → α) (a : α) (n : Int) : α := Nat.rec a (fun k r => s (k : Int) r) n.toNat
theorem itI_zero {α : Type} {s : Int → α → α} {a : α} : itI s a 0 = a := rfl
theorem itI_succ {α : Type} {s : Int → α → α} {a : α} {n : Int} (h : 0 ≤ n) : itI s a (n + 1) = s n (itI s a n) := by
  have e : (n + 1).toNat = n.toNat + 1 := by omega
  unfold itI
  rw [e]
  show s ((n.toNat : Nat) : Int) _ = _
  rw [Int.toNat_of_nonneg h]
def ghd (M : Mem) (r : Int) : Int → Int := itI (fun i g => max g (M 19 0 (M 23 r i))) 0
def shd (M : Mem) (r : Int) : Int → Int := itI (fun i g => g + M 19 0 (M 23 r i)) 0
def sln (M : Mem) (r : Int) : Int → Int := itI (fun i g => g + M 18 0 (M 23 r i)) 0
theorem ghd_s {M : Mem} {r n : Int} (h : 0 ≤ n) : ghd M r (n + 1) = max (ghd M r n) (M 19 0 (M 23 r n)) := itI_succ h
theorem shd_s {M : Mem} {r n : Int} (h : 0 ≤ n) : shd M r (n + 1) = shd M r n + M 19 0 (M 23 r n) := itI_succ h
theorem sln_s {M : Mem} {r n : Int} (h : 0 ≤ n) : sln M r (n + 1) = sln M r n + M 18 0 (M 23 r n) := itI_succ h

def sp_ghC : Spec1 := fun as M Q => match as with
  | [.inr (.inr (.inl (q0, i0))), .inl r] => match Nat.beq q0 1 with
    | true => (i0 = 0 ∧ (0 ≤ r ∧ r < M 1 0 9) ∧ IRou M ∧ IStp M) ∧ Q (some (vI (ghd M r (M 21 0 r)))) M
    | false => False
  | _ => False
theorem ok_ghC {l : Launch} {ω : WP} : ∀ as M Q, sp_ghC as M Q → Vd l ω 1 51 as M Q := by
  intro as M Q h
  unfold sp_ghC at h
  split at h
  case h_2 => exact h.elim
  rename_i q0 i0 r
  cases hb : Nat.beq q0 1 with
  | false => rw [hb] at h; exact h.elim
  | true =>
  rw [hb] at h
  obtain ⟨⟨hi, h1, hR, hS⟩, hQ⟩ := h
  have hb := beq_eq hb
  subst hb
  subst hi
  refine Vd.ok fun hok hal => ?_
  obtain ⟨r1, r2, r3, r4, r5⟩ := id hR
  obtain ⟨r6, r7⟩ := r5 r h1.1 h1.2
  obtain ⟨s1, ⟨t1, t2, t3, t4, t5, t6⟩, s3, s4⟩ := id hS
  have y0 := t3
  have y1 := t4
  have y2 := t5
  have y3 := r2
  have y4 := r3
  have r8 : ∀ i, 0 ≤ i → i < M 21 0 r → (0 ≤ M 17 0 (M 23 r i) ∧ M 17 0 (M 23 r i) ≤ 4) ∧ (1 ≤ M 18 0 (M 23 r i) ∧ M 18 0 (M 23 r i) ≤ 9) ∧ (0 ≤ M 19 0 (M 23 r i) ∧ M 19 0 (M 23 r i) ≤ 5) := fun i a b => by
    have q := r7 i a b
    have q2 := s4 _ q.1 q.2
    exact ⟨q2.2.2.1, q2.2.2.2.1, q2.2.2.2.2⟩
  have key : ∀ n, CutOK l ω 1 51 (cutL [(4, [0, 1, 2, 3], fun k vs M9 => ∃ i g : Int, vs = [vR 1 0, vI r, vI g, vI i] ∧ M = M9 ∧ k = (M 21 0 r - i).toNat ∧ (0 ≤ i ∧ i ≤ M 21 0 r) ∧ (0 ≤ g ∧ g ≤ 5) ∧ g = ghd M r i)] n) Q := by
    refine loops (GGa_ok (l := l) (ω := ω)) 100 _ ?_
    refine List.forall_mem_cons.mpr ⟨?_, fun _ h => absurd h List.not_mem_nil⟩
    · rintro n vs M9 ⟨i, g, rfl, rfl, rfl, i0, g0, g1⟩
      have q8 : i < M 21 0 r → _ := fun b => r8 i (by omega) b
      have q7 : i < M 21 0 r → _ := fun b => r7 i (by omega) b
      show wpH _ 100 _ 51 _ true 4 [vR 1 0, vI r, vI g, vI i] [] _ Q
      conv => whnf
      repeat' first
        | (refine And.intro (fun h => ?_) (fun h => ?_) <;> (try simp (disch := decide) only [cmp3_lt, cmp3_ge, cmp3_gt, cmp3_le, cmp3_eq, ms_q, ms_f, and_self, and_true, true_and, and_false, false_and, or_true, true_or, or_false, false_or, if_true, if_false, not_true_eq_false, not_false_eq_true, eq_self, reduceIte, Int.reduceEq, Int.reduceLT, Int.reduceLE, Int.reduceNeg, Int.reduceAdd, Int.reduceSub, Int.reduceMul, Int.add_sub_cancel] at h) <;> (try simp (disch := omega) only [w32_e, w64_e, td_pos, tm_pos, Int.add_sub_cancel, y0, y1, y2, y3, y4] at h) <;> first | exact absurd rfl h | exact absurd h (by decide) | (exfalso; omega) | (conv => whnf))
        | (refine And.intro (by first | omega | ((try simp (disch := decide) only [cmp3_lt, cmp3_ge, cmp3_gt, cmp3_le, cmp3_eq, ms_q, ms_f, and_self, and_true, true_and, and_false, false_and, or_true, true_or, or_false, false_or, if_true, if_false, not_true_eq_false, not_false_eq_true, eq_self, reduceIte, Int.reduceEq, Int.reduceLT, Int.reduceLE, Int.reduceNeg, Int.reduceAdd, Int.reduceSub, Int.reduceMul, Int.add_sub_cancel]); (try simp (disch := omega) only [w32_e, w64_e, td_pos, tm_pos, Int.add_sub_cancel, y0, y1, y2, y3, y4]); first | assumption | omega) | ((try simp (disch := decide) only [cmp3_lt, cmp3_ge, cmp3_gt, cmp3_le, cmp3_eq, ms_q, ms_f, and_self, and_true, true_and, and_false, false_and, or_true, true_or, or_false, false_or, if_true, if_false, not_true_eq_false, not_false_eq_true, eq_self, reduceIte, Int.reduceEq, Int.reduceLT, Int.reduceLE, Int.reduceNeg, Int.reduceAdd, Int.reduceSub, Int.reduceMul, Int.add_sub_cancel]); (try simp (disch := omega) only [w32_e, w64_e, td_pos, tm_pos, Int.add_sub_cancel]); (repeat' (first | assumption | rfl | omega | apply And.intro)))) ?_; conv => whnf)
      all_goals first
        | (have e : i = M 21 0 r := by omega
           subst e
           rw [g1]
           exact hQ)
        | (refine ⟨_, ?_, _, _, rfl, rfl, rfl, ?_, ?_, ?_⟩ <;> ((try simp (disch := decide) only [cmp3_lt, cmp3_ge, cmp3_gt, cmp3_le, cmp3_eq, ms_q, ms_f, and_self, and_true, true_and, and_false, false_and, or_true, true_or, or_false, false_or, if_true, if_false, not_true_eq_false, not_false_eq_true, eq_self, reduceIte, Int.reduceEq, Int.reduceLT, Int.reduceLE, Int.reduceNeg, Int.reduceAdd, Int.reduceSub, Int.reduceMul, Int.add_sub_cancel]); (try simp (disch := omega) only [w32_e, w64_e, td_pos, tm_pos, Int.add_sub_cancel, y0, y1, y2, y3, y4])) <;> first | omega | (rw [ghd_s (by omega)]; omega))
  refine Vd_run (GGa_ok (l := l) (ω := ω)) 100 (hC := key 7) (by decide) ?_
  conv => whnf
  repeat' first
    | (refine And.intro (fun h => ?_) (fun h => ?_) <;> (try simp (disch := decide) only [cmp3_lt, cmp3_ge, cmp3_gt, cmp3_le, cmp3_eq, ms_q, ms_f, and_self, and_true, true_and, and_false, false_and, or_true, true_or, or_false, false_or, if_true, if_false, not_true_eq_false, not_false_eq_true, eq_self, reduceIte, Int.reduceEq, Int.reduceLT, Int.reduceLE, Int.reduceNeg, Int.reduceAdd, Int.reduceSub, Int.reduceMul, Int.add_sub_cancel] at h) <;> (try simp (disch := omega) only [w32_e, w64_e, td_pos, tm_pos, Int.add_sub_cancel, y0, y1, y2, y3, y4] at h) <;> first | exact absurd rfl h | exact absurd h (by decide) | (exfalso; omega) | (conv => whnf))
    | (refine And.intro (by first | omega | ((try simp (disch := decide) only [cmp3_lt, cmp3_ge, cmp3_gt, cmp3_le, cmp3_eq, ms_q, ms_f, and_self, and_true, true_and, and_false, false_and, or_true, true_or, or_false, false_or, if_true, if_false, not_true_eq_false, not_false_eq_true, eq_self, reduceIte, Int.reduceEq, Int.reduceLT, Int.reduceLE, Int.reduceNeg, Int.reduceAdd, Int.reduceSub, Int.reduceMul, Int.add_sub_cancel]); (try simp (disch := omega) only [w32_e, w64_e, td_pos, tm_pos, Int.add_sub_cancel, y0, y1, y2, y3, y4]); first | assumption | omega) | ((try simp (disch := decide) only [cmp3_lt, cmp3_ge, cmp3_gt, cmp3_le, cmp3_eq, ms_q, ms_f, and_self, and_true, true_and, and_false, false_and, or_true, true_or, or_false, false_or, if_true, if_false, not_true_eq_false, not_false_eq_true, eq_self, reduceIte, Int.reduceEq, Int.reduceLT, Int.reduceLE, Int.reduceNeg, Int.reduceAdd, Int.reduceSub, Int.reduceMul, Int.add_sub_cancel]); (try simp (disch := omega) only [w32_e, w64_e, td_pos, tm_pos, Int.add_sub_cancel]); (repeat' (first | assumption | rfl | omega | apply And.intro)))) ?_; conv => whnf)
  all_goals refine ⟨_, ?_, _, _, rfl, rfl, rfl, ?_, ?_, ?_⟩ <;> first | rfl | omega

def sp_ghM : Spec1 := fun as M Q => match as with
  | [.inr (.inr (.inl (q0, i0))), .inl r] => match Nat.beq q0 13 with
    | true => (i0 = 0 ∧ (0 ≤ r ∧ r < M 1 0 9) ∧ IRou M ∧ IStp M) ∧ Q (some (vI (ghd M r (M 21 0 r)))) M
    | false => False
  | _ => False
theorem ok_ghM {l : Launch} {ω : WP} : ∀ as M Q, sp_ghM as M Q → Vd l ω 1 171 as M Q := by
  intro as M Q h
  unfold sp_ghM at h
  split at h
  case h_2 => exact h.elim
  rename_i q0 i0 r
  cases hb : Nat.beq q0 13 with
  | false => rw [hb] at h; exact h.elim
  | true =>
  rw [hb] at h
  obtain ⟨⟨hi, h1, hR, hS⟩, hQ⟩ := h
  have hb := beq_eq hb
  subst hb
  subst hi
  refine Vd.ok fun hok hal => ?_
  obtain ⟨r1, r2, r3, r4, r5⟩ := id hR
  obtain ⟨r6, r7⟩ := r5 r h1.1 h1.2
  obtain ⟨s1, ⟨t1, t2, t3, t4, t5, t6⟩, s3, s4⟩ := id hS
  have y0 := t3
  have y1 := t4
  have y2 := t5
  have y3 := r2
  have y4 := r3
  have r8 : ∀ i, 0 ≤ i → i < M 21 0 r → (0 ≤ M 17 0 (M 23 r i) ∧ M 17 0 (M 23 r i) ≤ 4) ∧ (1 ≤ M 18 0 (M 23 r i) ∧ M 18 0 (M 23 r i) ≤ 9) ∧ (0 ≤ M 19 0 (M 23 r i) ∧ M 19 0 (M 23 r i) ≤ 5) := fun i a b => by
    have q := r7 i a b
    have q2 := s4 _ q.1 q.2
    exact ⟨q2.2.2.1, q2.2.2.2.1, q2.2.2.2.2⟩
  have key : ∀ n, CutOK l ω 1 171 (cutL [(4, [0, 1, 2, 3], fun k vs M9 => ∃ i g : Int, vs = [vR 13 0, vI r, vI g, vI i] ∧ M = M9 ∧ k = (M 21 0 r - i).toNat ∧ (0 ≤ i ∧ i ≤ M 21 0 r) ∧ (0 ≤ g ∧ g ≤ 5) ∧ g = ghd M r i)] n) Q := by
    refine loops (GGa_ok (l := l) (ω := ω)) 100 _ ?_
    refine List.forall_mem_cons.mpr ⟨?_, fun _ h => absurd h List.not_mem_nil⟩
    · rintro n vs M9 ⟨i, g, rfl, rfl, rfl, i0, g0, g1⟩
      have q8 : i < M 21 0 r → _ := fun b => r8 i (by omega) b
      have q7 : i < M 21 0 r → _ := fun b => r7 i (by omega) b
      show wpH _ 100 _ 171 _ true 4 [vR 13 0, vI r, vI g, vI i, vU] [] _ Q
      conv => whnf
      repeat' first
        | (refine And.intro (fun h => ?_) (fun h => ?_) <;> (try simp (disch := decide) only [cmp3_lt, cmp3_ge, cmp3_gt, cmp3_le, cmp3_eq, ms_q, ms_f, and_self, and_true, true_and, and_false, false_and, or_true, true_or, or_false, false_or, if_true, if_false, not_true_eq_false, not_false_eq_true, eq_self, reduceIte, Int.reduceEq, Int.reduceLT, Int.reduceLE, Int.reduceNeg, Int.reduceAdd, Int.reduceSub, Int.reduceMul, Int.add_sub_cancel] at h) <;> (try simp (disch := omega) only [w32_e, w64_e, td_pos, tm_pos, Int.add_sub_cancel, y0, y1, y2, y3, y4] at h) <;> first | exact absurd rfl h | exact absurd h (by decide) | (exfalso; omega) | (conv => whnf))
        | (refine And.intro (by first | omega | ((try simp (disch := decide) only [cmp3_lt, cmp3_ge, cmp3_gt, cmp3_le, cmp3_eq, ms_q, ms_f, and_self, and_true, true_and, and_false, false_and, or_true, true_or, or_false, false_or, if_true, if_false, not_true_eq_false, not_false_eq_true, eq_self, reduceIte, Int.reduceEq, Int.reduceLT, Int.reduceLE, Int.reduceNeg, Int.reduceAdd, Int.reduceSub, Int.reduceMul, Int.add_sub_cancel]); (try simp (disch := omega) only [w32_e, w64_e, td_pos, tm_pos, Int.add_sub_cancel, y0, y1, y2, y3, y4]); first | assumption | omega) | ((try simp (disch := decide) only [cmp3_lt, cmp3_ge, cmp3_gt, cmp3_le, cmp3_eq, ms_q, ms_f, and_self, and_true, true_and, and_false, false_and, or_true, true_or, or_false, false_or, if_true, if_false, not_true_eq_false, not_false_eq_true, eq_self, reduceIte, Int.reduceEq, Int.reduceLT, Int.reduceLE, Int.reduceNeg, Int.reduceAdd, Int.reduceSub, Int.reduceMul, Int.add_sub_cancel]); (try simp (disch := omega) only [w32_e, w64_e, td_pos, tm_pos, Int.add_sub_cancel]); (repeat' (first | assumption | rfl | omega | apply And.intro)))) ?_; conv => whnf)
      all_goals first
        | (have e : i = M 21 0 r := by omega
           subst e
           rw [g1]
           exact hQ)
        | (refine ⟨_, ?_, _, _, rfl, rfl, rfl, ?_, ?_, ?_⟩ <;> ((try simp (disch := decide) only [cmp3_lt, cmp3_ge, cmp3_gt, cmp3_le, cmp3_eq, ms_q, ms_f, and_self, and_true, true_and, and_false, false_and, or_true, true_or, or_false, false_or, if_true, if_false, not_true_eq_false, not_false_eq_true, eq_self, reduceIte, Int.reduceEq, Int.reduceLT, Int.reduceLE, Int.reduceNeg, Int.reduceAdd, Int.reduceSub, Int.reduceMul, Int.add_sub_cancel]); (try simp (disch := omega) only [w32_e, w64_e, td_pos, tm_pos, Int.add_sub_cancel, y0, y1, y2, y3, y4])) <;> first | omega | (rw [ghd_s (by omega)]; omega))
  refine Vd_run (GGa_ok (l := l) (ω := ω)) 100 (hC := key 7) (by decide) ?_
  conv => whnf
  repeat' first
    | (refine And.intro (fun h => ?_) (fun h => ?_) <;> (try simp (disch := decide) only [cmp3_lt, cmp3_ge, cmp3_gt, cmp3_le, cmp3_eq, ms_q, ms_f, and_self, and_true, true_and, and_false, false_and, or_true, true_or, or_false, false_or, if_true, if_false, not_true_eq_false, not_false_eq_true, eq_self, reduceIte, Int.reduceEq, Int.reduceLT, Int.reduceLE, Int.reduceNeg, Int.reduceAdd, Int.reduceSub, Int.reduceMul, Int.add_sub_cancel] at h) <;> (try simp (disch := omega) only [w32_e, w64_e, td_pos, tm_pos, Int.add_sub_cancel, y0, y1, y2, y3, y4] at h) <;> first | exact absurd rfl h | exact absurd h (by decide) | (exfalso; omega) | (conv => whnf))
    | (refine And.intro (by first | omega | ((try simp (disch := decide) only [cmp3_lt, cmp3_ge, cmp3_gt, cmp3_le, cmp3_eq, ms_q, ms_f, and_self, and_true, true_and, and_false, false_and, or_true, true_or, or_false, false_or, if_true, if_false, not_true_eq_false, not_false_eq_true, eq_self, reduceIte, Int.reduceEq, Int.reduceLT, Int.reduceLE, Int.reduceNeg, Int.reduceAdd, Int.reduceSub, Int.reduceMul, Int.add_sub_cancel]); (try simp (disch := omega) only [w32_e, w64_e, td_pos, tm_pos, Int.add_sub_cancel, y0, y1, y2, y3, y4]); first | assumption | omega) | ((try simp (disch := decide) only [cmp3_lt, cmp3_ge, cmp3_gt, cmp3_le, cmp3_eq, ms_q, ms_f, and_self, and_true, true_and, and_false, false_and, or_true, true_or, or_false, false_or, if_true, if_false, not_true_eq_false, not_false_eq_true, eq_self, reduceIte, Int.reduceEq, Int.reduceLT, Int.reduceLE, Int.reduceNeg, Int.reduceAdd, Int.reduceSub, Int.reduceMul, Int.add_sub_cancel]); (try simp (disch := omega) only [w32_e, w64_e, td_pos, tm_pos, Int.add_sub_cancel]); (repeat' (first | assumption | rfl | omega | apply And.intro)))) ?_; conv => whnf)
  all_goals refine ⟨_, ?_, _, _, rfl, rfl, rfl, ?_, ?_, ?_⟩ <;> first | rfl | omega

def sp_shC : Spec1 := fun as M Q => match as with
  | [.inr (.inr (.inl (q0, i0))), .inl r] => match Nat.beq q0 1 with
    | true => (i0 = 0 ∧ (0 ≤ r ∧ r < M 1 0 9) ∧ IRou M ∧ IStp M) ∧ Q (some (vI (shd M r (M 21 0 r)))) M
    | false => False
  | _ => False
theorem ok_shC {l : Launch} {ω : WP} : ∀ as M Q, sp_shC as M Q → Vd l ω 1 52 as M Q := by
  intro as M Q h
  unfold sp_shC at h
  split at h
  case h_2 => exact h.elim
  rename_i q0 i0 r
  cases hb : Nat.beq q0 1 with
  | false => rw [hb] at h; exact h.elim
  | true =>
  rw [hb] at h
  obtain ⟨⟨hi, h1, hR, hS⟩, hQ⟩ := h
  have hb := beq_eq hb
  subst hb
  subst hi
  refine Vd.ok fun hok hal => ?_
  obtain ⟨r1, r2, r3, r4, r5⟩ := id hR
  obtain ⟨r6, r7⟩ := r5 r h1.1 h1.2
  obtain ⟨s1, ⟨t1, t2, t3, t4, t5, t6⟩, s3, s4⟩ := id hS
  have y0 := t3
  have y1 := t4
  have y2 := t5
  have y3 := r2
  have y4 := r3
  have r8 : ∀ i, 0 ≤ i → i < M 21 0 r → (0 ≤ M 17 0 (M 23 r i) ∧ M 17 0 (M 23 r i) ≤ 4) ∧ (1 ≤ M 18 0 (M 23 r i) ∧ M 18 0 (M 23 r i) ≤ 9) ∧ (0 ≤ M 19 0 (M 23 r i) ∧ M 19 0 (M 23 r i) ≤ 5) := fun i a b => by
    have q := r7 i a b
    have q2 := s4 _ q.1 q.2
    exact ⟨q2.2.2.1, q2.2.2.2.1, q2.2.2.2.2⟩
  have key : ∀ n, CutOK l ω 1 52 (cutL [(4, [0, 1, 2, 3], fun k vs M9 => ∃ i g : Int, vs = [vR 1 0, vI r, vI g, vI i] ∧ M = M9 ∧ k = (M 21 0 r - i).toNat ∧ (0 ≤ i ∧ i ≤ M 21 0 r) ∧ (0 ≤ g ∧ g ≤ 5 * i) ∧ g = shd M r i)] n) Q := by
    refine loops (GGa_ok (l := l) (ω := ω)) 100 _ ?_
    refine List.forall_mem_cons.mpr ⟨?_, fun _ h => absurd h List.not_mem_nil⟩
    · rintro n vs M9 ⟨i, g, rfl, rfl, rfl, i0, g0, g1⟩
      have q8 : i < M 21 0 r → _ := fun b => r8 i (by omega) b
      have q7 : i < M 21 0 r → _ := fun b => r7 i (by omega) b
      show wpH _ 100 _ 52 _ true 4 [vR 1 0, vI r, vI g, vI i] [] _ Q
      conv => whnf
      repeat' first
        | (refine And.intro (fun h => ?_) (fun h => ?_) <;> (try simp (disch := decide) only [cmp3_lt, cmp3_ge, cmp3_gt, cmp3_le, cmp3_eq, ms_q, ms_f, and_self, and_true, true_and, and_false, false_and, or_true, true_or, or_false, false_or, if_true, if_false, not_true_eq_false, not_false_eq_true, eq_self, reduceIte, Int.reduceEq, Int.reduceLT, Int.reduceLE, Int.reduceNeg, Int.reduceAdd, Int.reduceSub, Int.reduceMul, Int.add_sub_cancel] at h) <;> (try simp (disch := omega) only [w32_e, w64_e, td_pos, tm_pos, Int.add_sub_cancel, y0, y1, y2, y3, y4] at h) <;> first | exact absurd rfl h | exact absurd h (by decide) | (exfalso; omega) | (conv => whnf))
        | (refine And.intro (by first | omega | ((try simp (disch := decide) only [cmp3_lt, cmp3_ge, cmp3_gt, cmp3_le, cmp3_eq, ms_q, ms_f, and_self, and_true, true_and, and_false, false_and, or_true, true_or, or_false, false_or, if_true, if_false, not_true_eq_false, not_false_eq_true, eq_self, reduceIte, Int.reduceEq, Int.reduceLT, Int.reduceLE, Int.reduceNeg, Int.reduceAdd, Int.reduceSub, Int.reduceMul, Int.add_sub_cancel]); (try simp (disch := omega) only [w32_e, w64_e, td_pos, tm_pos, Int.add_sub_cancel, y0, y1, y2, y3, y4]); first | assumption | omega) | ((try simp (disch := decide) only [cmp3_lt, cmp3_ge, cmp3_gt, cmp3_le, cmp3_eq, ms_q, ms_f, and_self, and_true, true_and, and_false, false_and, or_true, true_or, or_false, false_or, if_true, if_false, not_true_eq_false, not_false_eq_true, eq_self, reduceIte, Int.reduceEq, Int.reduceLT, Int.reduceLE, Int.reduceNeg, Int.reduceAdd, Int.reduceSub, Int.reduceMul, Int.add_sub_cancel]); (try simp (disch := omega) only [w32_e, w64_e, td_pos, tm_pos, Int.add_sub_cancel]); (repeat' (first | assumption | rfl | omega | apply And.intro)))) ?_; conv => whnf)
      all_goals first
        | (have e : i = M 21 0 r := by omega
           subst e
           rw [g1]
           exact hQ)
        | (refine ⟨_, ?_, _, _, rfl, rfl, rfl, ?_, ?_, ?_⟩ <;> ((try simp (disch := decide) only [cmp3_lt, cmp3_ge, cmp3_gt, cmp3_le, cmp3_eq, ms_q, ms_f, and_self, and_true, true_and, and_false, false_and, or_true, true_or, or_false, false_or, if_true, if_false, not_true_eq_false, not_false_eq_true, eq_self, reduceIte, Int.reduceEq, Int.reduceLT, Int.reduceLE, Int.reduceNeg, Int.reduceAdd, Int.reduceSub, Int.reduceMul, Int.add_sub_cancel]); (try simp (disch := omega) only [w32_e, w64_e, td_pos, tm_pos, Int.add_sub_cancel, y0, y1, y2, y3, y4])) <;> first | omega | (rw [shd_s (by omega)]; omega))
  refine Vd_run (GGa_ok (l := l) (ω := ω)) 100 (hC := key 7) (by decide) ?_
  conv => whnf
  repeat' first
    | (refine And.intro (fun h => ?_) (fun h => ?_) <;> (try simp (disch := decide) only [cmp3_lt, cmp3_ge, cmp3_gt, cmp3_le, cmp3_eq, ms_q, ms_f, and_self, and_true, true_and, and_false, false_and, or_true, true_or, or_false, false_or, if_true, if_false, not_true_eq_false, not_false_eq_true, eq_self, reduceIte, Int.reduceEq, Int.reduceLT, Int.reduceLE, Int.reduceNeg, Int.reduceAdd, Int.reduceSub, Int.reduceMul, Int.add_sub_cancel] at h) <;> (try simp (disch := omega) only [w32_e, w64_e, td_pos, tm_pos, Int.add_sub_cancel, y0, y1, y2, y3, y4] at h) <;> first | exact absurd rfl h | exact absurd h (by decide) | (exfalso; omega) | (conv => whnf))
    | (refine And.intro (by first | omega | ((try simp (disch := decide) only [cmp3_lt, cmp3_ge, cmp3_gt, cmp3_le, cmp3_eq, ms_q, ms_f, and_self, and_true, true_and, and_false, false_and, or_true, true_or, or_false, false_or, if_true, if_false, not_true_eq_false, not_false_eq_true, eq_self, reduceIte, Int.reduceEq, Int.reduceLT, Int.reduceLE, Int.reduceNeg, Int.reduceAdd, Int.reduceSub, Int.reduceMul, Int.add_sub_cancel]); (try simp (disch := omega) only [w32_e, w64_e, td_pos, tm_pos, Int.add_sub_cancel, y0, y1, y2, y3, y4]); first | assumption | omega) | ((try simp (disch := decide) only [cmp3_lt, cmp3_ge, cmp3_gt, cmp3_le, cmp3_eq, ms_q, ms_f, and_self, and_true, true_and, and_false, false_and, or_true, true_or, or_false, false_or, if_true, if_false, not_true_eq_false, not_false_eq_true, eq_self, reduceIte, Int.reduceEq, Int.reduceLT, Int.reduceLE, Int.reduceNeg, Int.reduceAdd, Int.reduceSub, Int.reduceMul, Int.add_sub_cancel]); (try simp (disch := omega) only [w32_e, w64_e, td_pos, tm_pos, Int.add_sub_cancel]); (repeat' (first | assumption | rfl | omega | apply And.intro)))) ?_; conv => whnf)
  all_goals refine ⟨_, ?_, _, _, rfl, rfl, rfl, ?_, ?_, ?_⟩ <;> first | rfl | omega

def sp_shM : Spec1 := fun as M Q => match as with
  | [.inr (.inr (.inl (q0, i0))), .inl r] => match Nat.beq q0 13 with
    | true => (i0 = 0 ∧ (0 ≤ r ∧ r < M 1 0 9) ∧ IRou M ∧ IStp M) ∧ Q (some (vI (shd M r (M 21 0 r)))) M
    | false => False
  | _ => False
theorem ok_shM {l : Launch} {ω : WP} : ∀ as M Q, sp_shM as M Q → Vd l ω 1 172 as M Q := by
  intro as M Q h
  unfold sp_shM at h
  split at h
  case h_2 => exact h.elim
  rename_i q0 i0 r
  cases hb : Nat.beq q0 13 with
  | false => rw [hb] at h; exact h.elim
  | true =>
  rw [hb] at h
  obtain ⟨⟨hi, h1, hR, hS⟩, hQ⟩ := h
  have hb := beq_eq hb
  subst hb
  subst hi
  refine Vd.ok fun hok hal => ?_
  obtain ⟨r1, r2, r3, r4, r5⟩ := id hR
  obtain ⟨r6, r7⟩ := r5 r h1.1 h1.2
  obtain ⟨s1, ⟨t1, t2, t3, t4, t5, t6⟩, s3, s4⟩ := id hS
  have y0 := t3
  have y1 := t4
  have y2 := t5
  have y3 := r2
  have y4 := r3
  have r8 : ∀ i, 0 ≤ i → i < M 21 0 r → (0 ≤ M 17 0 (M 23 r i) ∧ M 17 0 (M 23 r i) ≤ 4) ∧ (1 ≤ M 18 0 (M 23 r i) ∧ M 18 0 (M 23 r i) ≤ 9) ∧ (0 ≤ M 19 0 (M 23 r i) ∧ M 19 0 (M 23 r i) ≤ 5) := fun i a b => by
    have q := r7 i a b
    have q2 := s4 _ q.1 q.2
    exact ⟨q2.2.2.1, q2.2.2.2.1, q2.2.2.2.2⟩
  have key : ∀ n, CutOK l ω 1 172 (cutL [(4, [0, 1, 2, 3], fun k vs M9 => ∃ i g : Int, vs = [vR 13 0, vI r, vI g, vI i] ∧ M = M9 ∧ k = (M 21 0 r - i).toNat ∧ (0 ≤ i ∧ i ≤ M 21 0 r) ∧ (0 ≤ g ∧ g ≤ 5 * i) ∧ g = shd M r i)] n) Q := by
    refine loops (GGa_ok (l := l) (ω := ω)) 100 _ ?_
    refine List.forall_mem_cons.mpr ⟨?_, fun _ h => absurd h List.not_mem_nil⟩
    · rintro n vs M9 ⟨i, g, rfl, rfl, rfl, i0, g0, g1⟩
      have q8 : i < M 21 0 r → _ := fun b => r8 i (by omega) b
      have q7 : i < M 21 0 r → _ := fun b => r7 i (by omega) b
      show wpH _ 100 _ 172 _ true 4 [vR 13 0, vI r, vI g, vI i] [] _ Q
      conv => whnf
      repeat' first
        | (refine And.intro (fun h => ?_) (fun h => ?_) <;> (try simp (disch := decide) only [cmp3_lt, cmp3_ge, cmp3_gt, cmp3_le, cmp3_eq, ms_q, ms_f, and_self, and_true, true_and, and_false, false_and, or_true, true_or, or_false, false_or, if_true, if_false, not_true_eq_false, not_false_eq_true, eq_self, reduceIte, Int.reduceEq, Int.reduceLT, Int.reduceLE, Int.reduceNeg, Int.reduceAdd, Int.reduceSub, Int.reduceMul, Int.add_sub_cancel] at h) <;> (try simp (disch := omega) only [w32_e, w64_e, td_pos, tm_pos, Int.add_sub_cancel, y0, y1, y2, y3, y4] at h) <;> first | exact absurd rfl h | exact absurd h (by decide) | (exfalso; omega) | (conv => whnf))
        | (refine And.intro (by first | omega | ((try simp (disch := decide) only [cmp3_lt, cmp3_ge, cmp3_gt, cmp3_le, cmp3_eq, ms_q, ms_f, and_self, and_true, true_and, and_false, false_and, or_true, true_or, or_false, false_or, if_true, if_false, not_true_eq_false, not_false_eq_true, eq_self, reduceIte, Int.reduceEq, Int.reduceLT, Int.reduceLE, Int.reduceNeg, Int.reduceAdd, Int.reduceSub, Int.reduceMul, Int.add_sub_cancel]); (try simp (disch := omega) only [w32_e, w64_e, td_pos, tm_pos, Int.add_sub_cancel, y0, y1, y2, y3, y4]); first | assumption | omega) | ((try simp (disch := decide) only [cmp3_lt, cmp3_ge, cmp3_gt, cmp3_le, cmp3_eq, ms_q, ms_f, and_self, and_true, true_and, and_false, false_and, or_true, true_or, or_false, false_or, if_true, if_false, not_true_eq_false, not_false_eq_true, eq_self, reduceIte, Int.reduceEq, Int.reduceLT, Int.reduceLE, Int.reduceNeg, Int.reduceAdd, Int.reduceSub, Int.reduceMul, Int.add_sub_cancel]); (try simp (disch := omega) only [w32_e, w64_e, td_pos, tm_pos, Int.add_sub_cancel]); (repeat' (first | assumption | rfl | omega | apply And.intro)))) ?_; conv => whnf)
      all_goals first
        | (have e : i = M 21 0 r := by omega
           subst e
           rw [g1]
           exact hQ)
        | (refine ⟨_, ?_, _, _, rfl, rfl, rfl, ?_, ?_, ?_⟩ <;> ((try simp (disch := decide) only [cmp3_lt, cmp3_ge, cmp3_gt, cmp3_le, cmp3_eq, ms_q, ms_f, and_self, and_true, true_and, and_false, false_and, or_true, true_or, or_false, false_or, if_true, if_false, not_true_eq_false, not_false_eq_true, eq_self, reduceIte, Int.reduceEq, Int.reduceLT, Int.reduceLE, Int.reduceNeg, Int.reduceAdd, Int.reduceSub, Int.reduceMul, Int.add_sub_cancel]); (try simp (disch := omega) only [w32_e, w64_e, td_pos, tm_pos, Int.add_sub_cancel, y0, y1, y2, y3, y4])) <;> first | omega | (rw [shd_s (by omega)]; omega))
  refine Vd_run (GGa_ok (l := l) (ω := ω)) 100 (hC := key 7) (by decide) ?_
  conv => whnf
  repeat' first
    | (refine And.intro (fun h => ?_) (fun h => ?_) <;> (try simp (disch := decide) only [cmp3_lt, cmp3_ge, cmp3_gt, cmp3_le, cmp3_eq, ms_q, ms_f, and_self, and_true, true_and, and_false, false_and, or_true, true_or, or_false, false_or, if_true, if_false, not_true_eq_false, not_false_eq_true, eq_self, reduceIte, Int.reduceEq, Int.reduceLT, Int.reduceLE, Int.reduceNeg, Int.reduceAdd, Int.reduceSub, Int.reduceMul, Int.add_sub_cancel] at h) <;> (try simp (disch := omega) only [w32_e, w64_e, td_pos, tm_pos, Int.add_sub_cancel, y0, y1, y2, y3, y4] at h) <;> first | exact absurd rfl h | exact absurd h (by decide) | (exfalso; omega) | (conv => whnf))
    | (refine And.intro (by first | omega | ((try simp (disch := decide) only [cmp3_lt, cmp3_ge, cmp3_gt, cmp3_le, cmp3_eq, ms_q, ms_f, and_self, and_true, true_and, and_false, false_and, or_true, true_or, or_false, false_or, if_true, if_false, not_true_eq_false, not_false_eq_true, eq_self, reduceIte, Int.reduceEq, Int.reduceLT, Int.reduceLE, Int.reduceNeg, Int.reduceAdd, Int.reduceSub, Int.reduceMul, Int.add_sub_cancel]); (try simp (disch := omega) only [w32_e, w64_e, td_pos, tm_pos, Int.add_sub_cancel, y0, y1, y2, y3, y4]); first | assumption | omega) | ((try simp (disch := decide) only [cmp3_lt, cmp3_ge, cmp3_gt, cmp3_le, cmp3_eq, ms_q, ms_f, and_self, and_true, true_and, and_false, false_and, or_true, true_or, or_false, false_or, if_true, if_false, not_true_eq_false, not_false_eq_true, eq_self, reduceIte, Int.reduceEq, Int.reduceLT, Int.reduceLE, Int.reduceNeg, Int.reduceAdd, Int.reduceSub, Int.reduceMul, Int.add_sub_cancel]); (try simp (disch := omega) only [w32_e, w64_e, td_pos, tm_pos, Int.add_sub_cancel]); (repeat' (first | assumption | rfl | omega | apply And.intro)))) ?_; conv => whnf)
  all_goals refine ⟨_, ?_, _, _, rfl, rfl, rfl, ?_, ?_, ?_⟩ <;> first | rfl | omega

def sp_slC : Spec1 := fun as M Q => match as with
  | [.inr (.inr (.inl (q0, i0))), .inl r] => match Nat.beq q0 1 with
    | true => (i0 = 0 ∧ (0 ≤ r ∧ r < M 1 0 9) ∧ IRou M ∧ IStp M) ∧ Q (some (vI (sln M r (M 21 0 r)))) M
    | false => False
  | _ => False
theorem ok_slC {l : Launch} {ω : WP} : ∀ as M Q, sp_slC as M Q → Vd l ω 1 53 as M Q := by
  intro as M Q h
  unfold sp_slC at h
  split at h
  case h_2 => exact h.elim
  rename_i q0 i0 r
  cases hb : Nat.beq q0 1 with
  | false => rw [hb] at h; exact h.elim
  | true =>
  rw [hb] at h
  obtain ⟨⟨hi, h1, hR, hS⟩, hQ⟩ := h
  have hb := beq_eq hb
  subst hb
  subst hi
  refine Vd.ok fun hok hal => ?_
  obtain ⟨r1, r2, r3, r4, r5⟩ := id hR
  obtain ⟨r6, r7⟩ := r5 r h1.1 h1.2
  obtain ⟨s1, ⟨t1, t2, t3, t4, t5, t6⟩, s3, s4⟩ := id hS
  have y0 := t3
  have y1 := t4
  have y2 := t5
  have y3 := r2
  have y4 := r3
  have r8 : ∀ i, 0 ≤ i → i < M 21 0 r → (0 ≤ M 17 0 (M 23 r i) ∧ M 17 0 (M 23 r i) ≤ 4) ∧ (1 ≤ M 18 0 (M 23 r i) ∧ M 18 0 (M 23 r i) ≤ 9) ∧ (0 ≤ M 19 0 (M 23 r i) ∧ M 19 0 (M 23 r i) ≤ 5) := fun i a b => by
    have q := r7 i a b
    have q2 := s4 _ q.1 q.2
    exact ⟨q2.2.2.1, q2.2.2.2.1, q2.2.2.2.2⟩
  have key : ∀ n, CutOK l ω 1 53 (cutL [(4, [0, 1, 2, 3], fun k vs M9 => ∃ i g : Int, vs = [vR 1 0, vI r, vI g, vI i] ∧ M = M9 ∧ k = (M 21 0 r - i).toNat ∧ (0 ≤ i ∧ i ≤ M 21 0 r) ∧ (0 ≤ g ∧ g ≤ 9 * i) ∧ g = sln M r i)] n) Q := by
    refine loops (GGa_ok (l := l) (ω := ω)) 100 _ ?_
    refine List.forall_mem_cons.mpr ⟨?_, fun _ h => absurd h List.not_mem_nil⟩
    · rintro n vs M9 ⟨i, g, rfl, rfl, rfl, i0, g0, g1⟩
      have q8 : i < M 21 0 r → _ := fun b => r8 i (by omega) b
      have q7 : i < M 21 0 r → _ := fun b => r7 i (by omega) b
      show wpH _ 100 _ 53 _ true 4 [vR 1 0, vI r, vI g, vI i] [] _ Q
      conv => whnf
      repeat' first
        | (refine And.intro (fun h => ?_) (fun h => ?_) <;> (try simp (disch := decide) only [cmp3_lt, cmp3_ge, cmp3_gt, cmp3_le, cmp3_eq, ms_q, ms_f, and_self, and_true, true_and, and_false, false_and, or_true, true_or, or_false, false_or, if_true, if_false, not_true_eq_false, not_false_eq_true, eq_self, reduceIte, Int.reduceEq, Int.reduceLT, Int.reduceLE, Int.reduceNeg, Int.reduceAdd, Int.reduceSub, Int.reduceMul, Int.add_sub_cancel] at h) <;> (try simp (disch := omega) only [w32_e, w64_e, td_pos, tm_pos, Int.add_sub_cancel, y0, y1, y2, y3, y4] at h) <;> first | exact absurd rfl h | exact absurd h (by decide) | (exfalso; omega) | (conv => whnf))
        | (refine And.intro (by first | omega | ((try simp (disch := decide) only [cmp3_lt, cmp3_ge, cmp3_gt, cmp3_le, cmp3_eq, ms_q, ms_f, and_self, and_true, true_and, and_false, false_and, or_true, true_or, or_false, false_or, if_true, if_false, not_true_eq_false, not_false_eq_true, eq_self, reduceIte, Int.reduceEq, Int.reduceLT, Int.reduceLE, Int.reduceNeg, Int.reduceAdd, Int.reduceSub, Int.reduceMul, Int.add_sub_cancel]); (try simp (disch := omega) only [w32_e, w64_e, td_pos, tm_pos, Int.add_sub_cancel, y0, y1, y2, y3, y4]); first | assumption | omega) | ((try simp (disch := decide) only [cmp3_lt, cmp3_ge, cmp3_gt, cmp3_le, cmp3_eq, ms_q, ms_f, and_self, and_true, true_and, and_false, false_and, or_true, true_or, or_false, false_or, if_true, if_false, not_true_eq_false, not_false_eq_true, eq_self, reduceIte, Int.reduceEq, Int.reduceLT, Int.reduceLE, Int.reduceNeg, Int.reduceAdd, Int.reduceSub, Int.reduceMul, Int.add_sub_cancel]); (try simp (disch := omega) only [w32_e, w64_e, td_pos, tm_pos, Int.add_sub_cancel]); (repeat' (first | assumption | rfl | omega | apply And.intro)))) ?_; conv => whnf)
      all_goals first
        | (have e : i = M 21 0 r := by omega
           subst e
           rw [g1]
           exact hQ)
        | (refine ⟨_, ?_, _, _, rfl, rfl, rfl, ?_, ?_, ?_⟩ <;> ((try simp (disch := decide) only [cmp3_lt, cmp3_ge, cmp3_gt, cmp3_le, cmp3_eq, ms_q, ms_f, and_self, and_true, true_and, and_false, false_and, or_true, true_or, or_false, false_or, if_true, if_false, not_true_eq_false, not_false_eq_true, eq_self, reduceIte, Int.reduceEq, Int.reduceLT, Int.reduceLE, Int.reduceNeg, Int.reduceAdd, Int.reduceSub, Int.reduceMul, Int.add_sub_cancel]); (try simp (disch := omega) only [w32_e, w64_e, td_pos, tm_pos, Int.add_sub_cancel, y0, y1, y2, y3, y4])) <;> first | omega | (rw [sln_s (by omega)]; omega))
  refine Vd_run (GGa_ok (l := l) (ω := ω)) 100 (hC := key 7) (by decide) ?_
  conv => whnf
  repeat' first
    | (refine And.intro (fun h => ?_) (fun h => ?_) <;> (try simp (disch := decide) only [cmp3_lt, cmp3_ge, cmp3_gt, cmp3_le, cmp3_eq, ms_q, ms_f, and_self, and_true, true_and, and_false, false_and, or_true, true_or, or_false, false_or, if_true, if_false, not_true_eq_false, not_false_eq_true, eq_self, reduceIte, Int.reduceEq, Int.reduceLT, Int.reduceLE, Int.reduceNeg, Int.reduceAdd, Int.reduceSub, Int.reduceMul, Int.add_sub_cancel] at h) <;> (try simp (disch := omega) only [w32_e, w64_e, td_pos, tm_pos, Int.add_sub_cancel, y0, y1, y2, y3, y4] at h) <;> first | exact absurd rfl h | exact absurd h (by decide) | (exfalso; omega) | (conv => whnf))
    | (refine And.intro (by first | omega | ((try simp (disch := decide) only [cmp3_lt, cmp3_ge, cmp3_gt, cmp3_le, cmp3_eq, ms_q, ms_f, and_self, and_true, true_and, and_false, false_and, or_true, true_or, or_false, false_or, if_true, if_false, not_true_eq_false, not_false_eq_true, eq_self, reduceIte, Int.reduceEq, Int.reduceLT, Int.reduceLE, Int.reduceNeg, Int.reduceAdd, Int.reduceSub, Int.reduceMul, Int.add_sub_cancel]); (try simp (disch := omega) only [w32_e, w64_e, td_pos, tm_pos, Int.add_sub_cancel, y0, y1, y2, y3, y4]); first | assumption | omega) | ((try simp (disch := decide) only [cmp3_lt, cmp3_ge, cmp3_gt, cmp3_le, cmp3_eq, ms_q, ms_f, and_self, and_true, true_and, and_false, false_and, or_true, true_or, or_false, false_or, if_true, if_false, not_true_eq_false, not_false_eq_true, eq_self, reduceIte, Int.reduceEq, Int.reduceLT, Int.reduceLE, Int.reduceNeg, Int.reduceAdd, Int.reduceSub, Int.reduceMul, Int.add_sub_cancel]); (try simp (disch := omega) only [w32_e, w64_e, td_pos, tm_pos, Int.add_sub_cancel]); (repeat' (first | assumption | rfl | omega | apply And.intro)))) ?_; conv => whnf)
  all_goals refine ⟨_, ?_, _, _, rfl, rfl, rfl, ?_, ?_, ?_⟩ <;> first | rfl | omega

def sp_slM : Spec1 := fun as M Q => match as with
  | [.inr (.inr (.inl (q0, i0))), .inl r] => match Nat.beq q0 13 with
    | true => (i0 = 0 ∧ (0 ≤ r ∧ r < M 1 0 9) ∧ IRou M ∧ IStp M) ∧ Q (some (vI (sln M r (M 21 0 r)))) M
    | false => False
  | _ => False
theorem ok_slM {l : Launch} {ω : WP} : ∀ as M Q, sp_slM as M Q → Vd l ω 1 173 as M Q := by
  intro as M Q h
  unfold sp_slM at h
  split at h
  case h_2 => exact h.elim
  rename_i q0 i0 r
  cases hb : Nat.beq q0 13 with
  | false => rw [hb] at h; exact h.elim
  | true =>
  rw [hb] at h
  obtain ⟨⟨hi, h1, hR, hS⟩, hQ⟩ := h
  have hb := beq_eq hb
  subst hb
  subst hi
  refine Vd.ok fun hok hal => ?_
  obtain ⟨r1, r2, r3, r4, r5⟩ := id hR
  obtain ⟨r6, r7⟩ := r5 r h1.1 h1.2
  obtain ⟨s1, ⟨t1, t2, t3, t4, t5, t6⟩, s3, s4⟩ := id hS
  have y0 := t3
  have y1 := t4
  have y2 := t5
  have y3 := r2
  have y4 := r3
  have r8 : ∀ i, 0 ≤ i → i < M 21 0 r → (0 ≤ M 17 0 (M 23 r i) ∧ M 17 0 (M 23 r i) ≤ 4) ∧ (1 ≤ M 18 0 (M 23 r i) ∧ M 18 0 (M 23 r i) ≤ 9) ∧ (0 ≤ M 19 0 (M 23 r i) ∧ M 19 0 (M 23 r i) ≤ 5) := fun i a b => by
    have q := r7 i a b
    have q2 := s4 _ q.1 q.2
    exact ⟨q2.2.2.1, q2.2.2.2.1, q2.2.2.2.2⟩
  have key : ∀ n, CutOK l ω 1 173 (cutL [(4, [0, 1, 2, 3], fun k vs M9 => ∃ i g : Int, vs = [vR 13 0, vI r, vI g, vI i] ∧ M = M9 ∧ k = (M 21 0 r - i).toNat ∧ (0 ≤ i ∧ i ≤ M 21 0 r) ∧ (0 ≤ g ∧ g ≤ 9 * i) ∧ g = sln M r i)] n) Q := by
    refine loops (GGa_ok (l := l) (ω := ω)) 100 _ ?_
    refine List.forall_mem_cons.mpr ⟨?_, fun _ h => absurd h List.not_mem_nil⟩
    · rintro n vs M9 ⟨i, g, rfl, rfl, rfl, i0, g0, g1⟩
      have q8 : i < M 21 0 r → _ := fun b => r8 i (by omega) b
      have q7 : i < M 21 0 r → _ := fun b => r7 i (by omega) b
      show wpH _ 100 _ 173 _ true 4 [vR 13 0, vI r, vI g, vI i] [] _ Q
      conv => whnf
      repeat' first
        | (refine And.intro (fun h => ?_) (fun h => ?_) <;> (try simp (disch := decide) only [cmp3_lt, cmp3_ge, cmp3_gt, cmp3_le, cmp3_eq, ms_q, ms_f, and_self, and_true, true_and, and_false, false_and, or_true, true_or, or_false, false_or, if_true, if_false, not_true_eq_false, not_false_eq_true, eq_self, reduceIte, Int.reduceEq, Int.reduceLT, Int.reduceLE, Int.reduceNeg, Int.reduceAdd, Int.reduceSub, Int.reduceMul, Int.add_sub_cancel] at h) <;> (try simp (disch := omega) only [w32_e, w64_e, td_pos, tm_pos, Int.add_sub_cancel, y0, y1, y2, y3, y4] at h) <;> first | exact absurd rfl h | exact absurd h (by decide) | (exfalso; omega) | (conv => whnf))
        | (refine And.intro (by first | omega | ((try simp (disch := decide) only [cmp3_lt, cmp3_ge, cmp3_gt, cmp3_le, cmp3_eq, ms_q, ms_f, and_self, and_true, true_and, and_false, false_and, or_true, true_or, or_false, false_or, if_true, if_false, not_true_eq_false, not_false_eq_true, eq_self, reduceIte, Int.reduceEq, Int.reduceLT, Int.reduceLE, Int.reduceNeg, Int.reduceAdd, Int.reduceSub, Int.reduceMul, Int.add_sub_cancel]); (try simp (disch := omega) only [w32_e, w64_e, td_pos, tm_pos, Int.add_sub_cancel, y0, y1, y2, y3, y4]); first | assumption | omega) | ((try simp (disch := decide) only [cmp3_lt, cmp3_ge, cmp3_gt, cmp3_le, cmp3_eq, ms_q, ms_f, and_self, and_true, true_and, and_false, false_and, or_true, true_or, or_false, false_or, if_true, if_false, not_true_eq_false, not_false_eq_true, eq_self, reduceIte, Int.reduceEq, Int.reduceLT, Int.reduceLE, Int.reduceNeg, Int.reduceAdd, Int.reduceSub, Int.reduceMul, Int.add_sub_cancel]); (try simp (disch := omega) only [w32_e, w64_e, td_pos, tm_pos, Int.add_sub_cancel]); (repeat' (first | assumption | rfl | omega | apply And.intro)))) ?_; conv => whnf)
      all_goals first
        | (have e : i = M 21 0 r := by omega
           subst e
           rw [g1]
           exact hQ)
        | (refine ⟨_, ?_, _, _, rfl, rfl, rfl, ?_, ?_, ?_⟩ <;> ((try simp (disch := decide) only [cmp3_lt, cmp3_ge, cmp3_gt, cmp3_le, cmp3_eq, ms_q, ms_f, and_self, and_true, true_and, and_false, false_and, or_true, true_or, or_false, false_or, if_true, if_false, not_true_eq_false, not_false_eq_true, eq_self, reduceIte, Int.reduceEq, Int.reduceLT, Int.reduceLE, Int.reduceNeg, Int.reduceAdd, Int.reduceSub, Int.reduceMul, Int.add_sub_cancel]); (try simp (disch := omega) only [w32_e, w64_e, td_pos, tm_pos, Int.add_sub_cancel, y0, y1, y2, y3, y4])) <;> first | omega | (rw [sln_s (by omega)]; omega))
  refine Vd_run (GGa_ok (l := l) (ω := ω)) 100 (hC := key 7) (by decide) ?_
  conv => whnf
  repeat' first
    | (refine And.intro (fun h => ?_) (fun h => ?_) <;> (try simp (disch := decide) only [cmp3_lt, cmp3_ge, cmp3_gt, cmp3_le, cmp3_eq, ms_q, ms_f, and_self, and_true, true_and, and_false, false_and, or_true, true_or, or_false, false_or, if_true, if_false, not_true_eq_false, not_false_eq_true, eq_self, reduceIte, Int.reduceEq, Int.reduceLT, Int.reduceLE, Int.reduceNeg, Int.reduceAdd, Int.reduceSub, Int.reduceMul, Int.add_sub_cancel] at h) <;> (try simp (disch := omega) only [w32_e, w64_e, td_pos, tm_pos, Int.add_sub_cancel, y0, y1, y2, y3, y4] at h) <;> first | exact absurd rfl h | exact absurd h (by decide) | (exfalso; omega) | (conv => whnf))
    | (refine And.intro (by first | omega | ((try simp (disch := decide) only [cmp3_lt, cmp3_ge, cmp3_gt, cmp3_le, cmp3_eq, ms_q, ms_f, and_self, and_true, true_and, and_false, false_and, or_true, true_or, or_false, false_or, if_true, if_false, not_true_eq_false, not_false_eq_true, eq_self, reduceIte, Int.reduceEq, Int.reduceLT, Int.reduceLE, Int.reduceNeg, Int.reduceAdd, Int.reduceSub, Int.reduceMul, Int.add_sub_cancel]); (try simp (disch := omega) only [w32_e, w64_e, td_pos, tm_pos, Int.add_sub_cancel, y0, y1, y2, y3, y4]); first | assumption | omega) | ((try simp (disch := decide) only [cmp3_lt, cmp3_ge, cmp3_gt, cmp3_le, cmp3_eq, ms_q, ms_f, and_self, and_true, true_and, and_false, false_and, or_true, true_or, or_false, false_or, if_true, if_false, not_true_eq_false, not_false_eq_true, eq_self, reduceIte, Int.reduceEq, Int.reduceLT, Int.reduceLE, Int.reduceNeg, Int.reduceAdd, Int.reduceSub, Int.reduceMul, Int.add_sub_cancel]); (try simp (disch := omega) only [w32_e, w64_e, td_pos, tm_pos, Int.add_sub_cancel]); (repeat' (first | assumption | rfl | omega | apply And.intro)))) ?_; conv => whnf)
  all_goals refine ⟨_, ?_, _, _, rfl, rfl, rfl, ?_, ?_, ?_⟩ <;> first | rfl | omega
