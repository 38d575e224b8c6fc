/-! ===== what a statute bars, pays, asks (wip/gen/p15.py) ===== -/
def vrs (M : Mem) (r q p : Int) : Int → Int := fun j => if j = 0 then wv M (q / 4) 0 else if j = 1 then wv M (q / 4) 1 else if j = 2 then wv M (q / 4) 2 else if j = 3 then q else if j = 4 then ghd M r (M 21 0 r) else if j = 5 then p else if j = 6 then shd M r (M 21 0 r) else if j = 7 then sln M r (M 21 0 r) else M 5 0 2
theorem evW_congr {C V1 V2 : Int → Int} (h : ∀ j, 0 ≤ j → j < 9 → V1 j = V2 j) : ∀ (n : Nat) (i : Int) (st : List Int), evW C V1 n i st = evW C V2 n i st
  | 0, _, _ => rfl
  | n + 1, i, st => by
    have e : stW V1 (C i) st = stW V2 (C i) st := by
      unfold stW
      by_cases c1 : 100 ≤ C i
      · rw [if_pos c1, if_pos c1]
      · rw [if_neg c1, if_neg c1]
        by_cases c2 : 7 ≤ C i ∧ C i ≤ 15
        · rw [if_pos c2, if_pos c2, h _ (by omega) (by omega)]
        · rw [if_neg c2, if_neg c2]
    show evW C V1 n (i + 1) (stW V1 (C i) st) = evW C V2 n (i + 1) (stW V2 (C i) st)
    rw [e, evW_congr h n]
theorem evW_in {C R V : Int → Int} {f : Int} (hv : okV V) : ∀ {n : Nat} {i k : Int} {p : Bool} {τ : List Bool} {st : List Int}, Seg C R f n i k p τ → TS τ st → -1000000 ≤ hd0 (evW C V n i st) ∧ hd0 (evW C V n i st) ≤ 1000000
  | 0, i, k, p, τ, st, h, hs => by
    have e := TS_len hs
    rw [h.2.2] at e
    match τ, st, e, hs with
    | _ :: _, [x], _, hs => exact hs.1.1
    | [], [x], _, hs => exact hs.elim
  | n + 1, i, k, p, τ, st, h, hs => by
    obtain ⟨k1, p1, τ1, a, b⟩ := Seg_ty h
    show -1000000 ≤ hd0 (evW C V n (i + 1) (stW V (C i) st)) ∧ hd0 (evW C V n (i + 1) (stW V (C i) st)) ≤ 1000000
    exact evW_in hv b (TS_step hv a hs)
theorem ISta.seg {M : Mem} (h : ISta M) {z : Int} (h0 : 0 ≤ z) (h1 : z < M 8 0 6) : SegL M z := (h.2.2 z h0 h1).2.2.2
theorem wkL_in {M : Mem} {V : Int → Int} (h : ISta M) (hv : okV V) {z : Int} (h0 : 0 ≤ z) (h1 : z < M 8 0 6) : -1000000 ≤ wkL M V z ∧ wkL M V z ≤ 1000000 := evW_in hv (h.seg h0 h1) trivial
theorem wkL_congr {M : Mem} {V1 V2 : Int → Int} (h : ∀ j, 0 ≤ j → j < 9 → V1 j = V2 j) (z : Int) : wkL M V1 z = wkL M V2 z := by
  unfold wkL
  rw [evW_congr h]
theorem wkL_mem {M M9 : Mem} (h45 : M9 45 = M 45) (h47 : M9 47 = M 47) : wkL M9 = wkL M := by
  funext V z
  unfold wkL bgC
  rw [h45, h47]
theorem okV_congr {V1 V2 : Int → Int} (h : ∀ j, 0 ≤ j → j < 9 → V1 j = V2 j) (hv : okV V2) : okV V1 := fun j a b => by rw [h j a b]; exact hv j a b
/-- the first line of a kind whose test holds -/
def fhN (K W : Int → Int) (κ : Int) : Nat → Int → Int
  | 0, _ => -4
  | n + 1, z => if K z = κ ∧ W z = 1 then z else fhN K W κ n (z + 1)
theorem fhN_a {K W : Int → Int} {κ n z : Int} (h : z < n) (h1 : K z = κ ∧ W z = 1) : fhN K W κ (n - z).toNat z = z := by
  have e : (n - z).toNat = (n - (z + 1)).toNat + 1 := by omega
  rw [e]
  show (if _ then _ else _) = _
  rw [if_pos h1]
theorem fhN_b {K W : Int → Int} {κ n z : Int} (h : z < n) (h1 : ¬ (K z = κ ∧ W z = 1)) : fhN K W κ (n - z).toNat z = fhN K W κ (n - (z + 1)).toNat (z + 1) := by
  have e : (n - z).toNat = (n - (z + 1)).toNat + 1 := by omega
  rw [e]
  show (if _ then _ else _) = _
  rw [if_neg h1]
theorem fhN_c {K W : Int → Int} {κ n z : Int} (h : n ≤ z) : fhN K W κ (n - z).toNat z = -4 := by
  have e : (n - z).toNat = 0 := by omega
  rw [e]
  rfl
def spS (K W : Int → Int) : Int → Int := itI (fun z s => if K z = 1 then s + W z else s) 0
def asS (K W : Int → Int) : Int → Int := itI (fun z g => if K z = 2 then max g (W z) else g) 1
theorem spS_s {K W : Int → Int} {n : Int} (h : 0 ≤ n) : spS K W (n + 1) = if K n = 1 then spS K W n + W n else spS K W n := itI_succ h
theorem asS_s {K W : Int → Int} {n : Int} (h : 0 ≤ n) : asS K W (n + 1) = if K n = 2 then max (asS K W n) (W n) else asS K W n := itI_succ h

theorem wv48 {M : Mem} {i j v : Int} : wv (mset M 48 i j v) = wv M := by
  funext a b
  unfold wv
  simp (disch := decide) only [ms_q]
theorem gh48 {M : Mem} {i j v : Int} : ghd (mset M 48 i j v) = ghd M := by
  funext a b
  unfold ghd
  simp (disch := decide) only [ms_q]
theorem sh48 {M : Mem} {i j v : Int} : shd (mset M 48 i j v) = shd M := by
  funext a b
  unfold shd
  simp (disch := decide) only [ms_q]
theorem sl48 {M : Mem} {i j v : Int} : sln (mset M 48 i j v) = sln M := by
  funext a b
  unfold sln
  simp (disch := decide) only [ms_q]
theorem sky48 {M : Mem} {i j v : Int} : ISky (mset M 48 i j v) = ISky M := by
  unfold ISky
  simp (disch := decide) only [ms_q]
theorem rou48 {M : Mem} {i j v : Int} : IRou (mset M 48 i j v) = IRou M := by
  unfold IRou
  simp (disch := decide) only [ms_q]
theorem stp48 {M : Mem} {i j v : Int} : IStp (mset M 48 i j v) = IStp M := by
  unfold IStp
  simp (disch := decide) only [ms_q]

theorem wv98 {M : Mem} {i j v : Int} : wv (mset M 98 i j v) = wv M := by
  funext a b
  unfold wv
  simp (disch := decide) only [ms_q]
theorem gh98 {M : Mem} {i j v : Int} : ghd (mset M 98 i j v) = ghd M := by
  funext a b
  unfold ghd
  simp (disch := decide) only [ms_q]
theorem sh98 {M : Mem} {i j v : Int} : shd (mset M 98 i j v) = shd M := by
  funext a b
  unfold shd
  simp (disch := decide) only [ms_q]
theorem sl98 {M : Mem} {i j v : Int} : sln (mset M 98 i j v) = sln M := by
  funext a b
  unfold sln
  simp (disch := decide) only [ms_q]
theorem sky98 {M : Mem} {i j v : Int} : ISky (mset M 98 i j v) = ISky M := by
  unfold ISky
  simp (disch := decide) only [ms_q]
theorem rou98 {M : Mem} {i j v : Int} : IRou (mset M 98 i j v) = IRou M := by
  unfold IRou
  simp (disch := decide) only [ms_q]
theorem stp98 {M : Mem} {i j v : Int} : IStp (mset M 98 i j v) = IStp M := by
  unfold IStp
  simp (disch := decide) only [ms_q]

def GLl : List (Nat × Nat × Spec1) := (27, 3, sp_wkC) :: (218, 3, sp_wkM) :: GLk
abbrev GGl : Env1 := fun n => getG n GLl
theorem GGl_all {l : Launch} {ω : WP} : ∀ e ∈ GLl, ∀ as M Q, e.2.2 as M Q → Vd l ω e.2.1 e.1 as M Q := List.forall_mem_cons.mpr ⟨ok_wkC, List.forall_mem_cons.mpr ⟨ok_wkM, GGk_all⟩⟩
theorem GGl_ok {l : Launch} {ω : WP} : GOK l ω GGl := getG_ok GLl GGl_all

def sp_heC : Spec1 := fun as M Q => match as with
  | [.inr (.inr (.inl (q0, i0))), .inl r, .inl q, .inl p] => match Nat.beq q0 8 with
    | true => (i0 = 0 ∧ (0 ≤ r ∧ r < M 1 0 9) ∧ (0 ≤ q ∧ q ≤ 95) ∧ (1 ≤ p ∧ p ≤ 9) ∧ IRou M ∧ IStp M ∧ ISky M) ∧ ∀ M9, ((∀ p, p ≠ 48 → M9 p = M p) ∧ ∀ j, 0 ≤ j → j < 9 → M9 48 0 j = vrs M r q p j) → Q none M9
    | false => False
  | _ => False
theorem ok_heC {l : Launch} {ω : WP} : ∀ as M Q, sp_heC as M Q → Vd l ω 3 23 as M Q := by
  intro as M Q h
  unfold sp_heC at h
  split at h
  case h_2 => exact h.elim
  rename_i q0 i0 r q p
  cases hb : Nat.beq q0 8 with
  | false => rw [hb] at h; exact h.elim
  | true =>
  rw [hb] at h
  obtain ⟨⟨hi, h1, h2, h3, hR, hS, hK⟩, hQ⟩ := h
  have hb := beq_eq hb
  subst hb
  subst hi
  refine Vd.ok fun hok hal => ?_
  have b6 := hR.2.2.2.1
  have b4 := hS.2.2.1
  refine Vd_run (GGl_ok (l := l) (ω := ω)) 400 (cut := fun _ => none) (by decide) CutOK_none ?_
  conv => whnf
  repeat' first
    | (refine And.intro (fun h => ?_) (fun h => ?_) <;> (try simp (disch := decide) only [cmp3_lt, cmp3_ge, cmp3_gt, cmp3_le, cmp3_eq, ms_q, ms_f, mf_q, mf_f, mc_q, mc_f, and_self, and_true, true_and, and_false, false_and, or_true, true_or, or_false, false_or, if_true, if_false, not_true_eq_false, not_false_eq_true, eq_self, reduceIte, Int.reduceEq, Int.reduceLT, Int.reduceLE, Int.reduceNeg, Int.reduceAdd, Int.reduceSub, Int.reduceMul, Int.add_sub_cancel] at h) <;> (try simp (disch := omega) only [w32_e, w64_e, td_pos, tm_pos, Int.add_sub_cancel, wv48, gh48, sh48, sl48, sky48, rou48, stp48] at h) <;> first | exact absurd rfl h | exact absurd h (by decide) | (exfalso; omega) | (conv => whnf))
    | (refine And.intro (by first | omega | ((try simp (disch := decide) only [cmp3_lt, cmp3_ge, cmp3_gt, cmp3_le, cmp3_eq, ms_q, ms_f, mf_q, mf_f, mc_q, mc_f, and_self, and_true, true_and, and_false, false_and, or_true, true_or, or_false, false_or, if_true, if_false, not_true_eq_false, not_false_eq_true, eq_self, reduceIte, Int.reduceEq, Int.reduceLT, Int.reduceLE, Int.reduceNeg, Int.reduceAdd, Int.reduceSub, Int.reduceMul, Int.add_sub_cancel]); (try simp (disch := omega) only [w32_e, w64_e, td_pos, tm_pos, Int.add_sub_cancel, wv48, gh48, sh48, sl48, sky48, rou48, stp48]); first | assumption | omega) | ((try simp (disch := decide) only [cmp3_lt, cmp3_ge, cmp3_gt, cmp3_le, cmp3_eq, ms_q, ms_f, mf_q, mf_f, mc_q, mc_f, and_self, and_true, true_and, and_false, false_and, or_true, true_or, or_false, false_or, if_true, if_false, not_true_eq_false, not_false_eq_true, eq_self, reduceIte, Int.reduceEq, Int.reduceLT, Int.reduceLE, Int.reduceNeg, Int.reduceAdd, Int.reduceSub, Int.reduceMul, Int.add_sub_cancel]); (try simp (disch := omega) only [w32_e, w64_e, td_pos, tm_pos, Int.add_sub_cancel, wv48, gh48, sh48, sl48, sky48, rou48, stp48]); (repeat' (first | assumption | omega | with_reducible rfl | apply And.intro)))) ?_; conv => whnf)
    | (intro v; intro hv; conv => whnf)
  all_goals refine hQ _ ⟨fun p z0 => by simp only [ms_q z0], fun j j0 j1 => ?_⟩
  all_goals have hj : j = 0 ∨ j = 1 ∨ j = 2 ∨ j = 3 ∨ j = 4 ∨ j = 5 ∨ j = 6 ∨ j = 7 ∨ j = 8 := by omega
  all_goals rcases hj with rfl | rfl | rfl | rfl | rfl | rfl | rfl | rfl | rfl
  all_goals ((try simp (disch := decide) only [cmp3_lt, cmp3_ge, cmp3_gt, cmp3_le, cmp3_eq, ms_q, ms_f, mf_q, mf_f, mc_q, mc_f, and_self, and_true, true_and, and_false, false_and, or_true, true_or, or_false, false_or, if_true, if_false, not_true_eq_false, not_false_eq_true, eq_self, reduceIte, Int.reduceEq, Int.reduceLT, Int.reduceLE, Int.reduceNeg, Int.reduceAdd, Int.reduceSub, Int.reduceMul, Int.add_sub_cancel]); (try simp (disch := omega) only [w32_e, w64_e, td_pos, tm_pos, Int.add_sub_cancel, wv48, gh48, sh48, sl48, sky48, rou48, stp48]); (try simp (disch := decide) only [cmp3_lt, cmp3_ge, cmp3_gt, cmp3_le, cmp3_eq, ms_q, ms_f, mf_q, mf_f, mc_q, mc_f, and_self, and_true, true_and, and_false, false_and, or_true, true_or, or_false, false_or, if_true, if_false, not_true_eq_false, not_false_eq_true, eq_self, reduceIte, Int.reduceEq, Int.reduceLT, Int.reduceLE, Int.reduceNeg, Int.reduceAdd, Int.reduceSub, Int.reduceMul, Int.add_sub_cancel]))
  all_goals (try unfold vrs)
  all_goals (try simp only [and_self, and_true, true_and, and_false, false_and, or_true, true_or, or_false, false_or, if_true, if_false, not_true_eq_false, not_false_eq_true, eq_self, reduceIte, Int.reduceEq, Int.reduceLT, Int.reduceLE, Int.reduceNeg, Int.reduceAdd, Int.reduceSub, Int.reduceMul, Int.add_sub_cancel])
  all_goals first | rfl | assumption | omega

def sp_heM : Spec1 := fun as M Q => match as with
  | [.inr (.inr (.inl (q0, i0))), .inl r, .inl q, .inl p] => match Nat.beq q0 13 with
    | true => (i0 = 0 ∧ (0 ≤ r ∧ r < M 1 0 9) ∧ (0 ≤ q ∧ q ≤ 95) ∧ (1 ≤ p ∧ p ≤ 9) ∧ IRou M ∧ IStp M ∧ ISky M ∧ M 13 0 25 = M 5 0 2) ∧ ∀ M9, ((∀ p, p ≠ 98 → M9 p = M p) ∧ ∀ j, 0 ≤ j → j < 9 → M9 98 0 j = vrs M r q p j) → Q none M9
    | false => False
  | _ => False
theorem ok_heM {l : Launch} {ω : WP} : ∀ as M Q, sp_heM as M Q → Vd l ω 3 216 as M Q := by
  intro as M Q h
  unfold sp_heM at h
  split at h
  case h_2 => exact h.elim
  rename_i q0 i0 r q p
  cases hb : Nat.beq q0 13 with
  | false => rw [hb] at h; exact h.elim
  | true =>
  rw [hb] at h
  obtain ⟨⟨hi, h1, h2, h3, hR, hS, hK, hd⟩, hQ⟩ := h
  have hb := beq_eq hb
  subst hb
  subst hi
  refine Vd.ok fun hok hal => ?_
  have b6 := hR.2.2.2.1
  have b4 := hS.2.2.1
  refine Vd_run (GGl_ok (l := l) (ω := ω)) 400 (cut := fun _ => none) (by decide) CutOK_none ?_
  conv => whnf
  repeat' first
    | (refine And.intro (fun h => ?_) (fun h => ?_) <;> (try simp (disch := decide) only [cmp3_lt, cmp3_ge, cmp3_gt, cmp3_le, cmp3_eq, ms_q, ms_f, mf_q, mf_f, mc_q, mc_f, and_self, and_true, true_and, and_false, false_and, or_true, true_or, or_false, false_or, if_true, if_false, not_true_eq_false, not_false_eq_true, eq_self, reduceIte, Int.reduceEq, Int.reduceLT, Int.reduceLE, Int.reduceNeg, Int.reduceAdd, Int.reduceSub, Int.reduceMul, Int.add_sub_cancel] at h) <;> (try simp (disch := omega) only [w32_e, w64_e, td_pos, tm_pos, Int.add_sub_cancel, wv98, gh98, sh98, sl98, sky98, rou98, stp98] at h) <;> first | exact absurd rfl h | exact absurd h (by decide) | (exfalso; omega) | (conv => whnf))
    | (refine And.intro (by first | omega | ((try simp (disch := decide) only [cmp3_lt, cmp3_ge, cmp3_gt, cmp3_le, cmp3_eq, ms_q, ms_f, mf_q, mf_f, mc_q, mc_f, and_self, and_true, true_and, and_false, false_and, or_true, true_or, or_false, false_or, if_true, if_false, not_true_eq_false, not_false_eq_true, eq_self, reduceIte, Int.reduceEq, Int.reduceLT, Int.reduceLE, Int.reduceNeg, Int.reduceAdd, Int.reduceSub, Int.reduceMul, Int.add_sub_cancel]); (try simp (disch := omega) only [w32_e, w64_e, td_pos, tm_pos, Int.add_sub_cancel, wv98, gh98, sh98, sl98, sky98, rou98, stp98]); first | assumption | omega) | ((try simp (disch := decide) only [cmp3_lt, cmp3_ge, cmp3_gt, cmp3_le, cmp3_eq, ms_q, ms_f, mf_q, mf_f, mc_q, mc_f, and_self, and_true, true_and, and_false, false_and, or_true, true_or, or_false, false_or, if_true, if_false, not_true_eq_false, not_false_eq_true, eq_self, reduceIte, Int.reduceEq, Int.reduceLT, Int.reduceLE, Int.reduceNeg, Int.reduceAdd, Int.reduceSub, Int.reduceMul, Int.add_sub_cancel]); (try simp (disch := omega) only [w32_e, w64_e, td_pos, tm_pos, Int.add_sub_cancel, wv98, gh98, sh98, sl98, sky98, rou98, stp98]); (repeat' (first | assumption | omega | with_reducible rfl | apply And.intro)))) ?_; conv => whnf)
    | (intro v; intro hv; conv => whnf)
  all_goals refine hQ _ ⟨fun p z0 => by simp only [ms_q z0], fun j j0 j1 => ?_⟩
  all_goals have hj : j = 0 ∨ j = 1 ∨ j = 2 ∨ j = 3 ∨ j = 4 ∨ j = 5 ∨ j = 6 ∨ j = 7 ∨ j = 8 := by omega
  all_goals rcases hj with rfl | rfl | rfl | rfl | rfl | rfl | rfl | rfl | rfl
  all_goals ((try simp (disch := decide) only [cmp3_lt, cmp3_ge, cmp3_gt, cmp3_le, cmp3_eq, ms_q, ms_f, mf_q, mf_f, mc_q, mc_f, and_self, and_true, true_and, and_false, false_and, or_true, true_or, or_false, false_or, if_true, if_false, not_true_eq_false, not_false_eq_true, eq_self, reduceIte, Int.reduceEq, Int.reduceLT, Int.reduceLE, Int.reduceNeg, Int.reduceAdd, Int.reduceSub, Int.reduceMul, Int.add_sub_cancel]); (try simp (disch := omega) only [w32_e, w64_e, td_pos, tm_pos, Int.add_sub_cancel, wv98, gh98, sh98, sl98, sky98, rou98, stp98]); (try simp (disch := decide) only [cmp3_lt, cmp3_ge, cmp3_gt, cmp3_le, cmp3_eq, ms_q, ms_f, mf_q, mf_f, mc_q, mc_f, and_self, and_true, true_and, and_false, false_and, or_true, true_or, or_false, false_or, if_true, if_false, not_true_eq_false, not_false_eq_true, eq_self, reduceIte, Int.reduceEq, Int.reduceLT, Int.reduceLE, Int.reduceNeg, Int.reduceAdd, Int.reduceSub, Int.reduceMul, Int.add_sub_cancel]))
  all_goals (try unfold vrs)
  all_goals (try simp only [and_self, and_true, true_and, and_false, false_and, or_true, true_or, or_false, false_or, if_true, if_false, not_true_eq_false, not_false_eq_true, eq_self, reduceIte, Int.reduceEq, Int.reduceLT, Int.reduceLE, Int.reduceNeg, Int.reduceAdd, Int.reduceSub, Int.reduceMul, Int.add_sub_cancel])
  all_goals first | rfl | assumption | omega
