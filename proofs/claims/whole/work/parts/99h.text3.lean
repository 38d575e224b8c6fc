/-! ===== text, the class: its two texts (wip/gen/p58.py) ===== -/
theorem len_80 : (Int32.ofInt 80 >>> (Int32.ofInt 0 &&& 31)).toInt = 80 := by decide
theorem len_9 : (Int32.ofInt 9 >>> (Int32.ofInt 0 &&& 31)).toInt = 9 := by decide
theorem ch_e {j : Int} (h : 0 ≤ j ∧ j < 80) : ((Int32.ofInt (Int32.ofInt (strB 1010 j) &&& Int32.ofInt 255).toInt).toUInt32 % 65536).toInt32.toInt = strB 1010 j ∧ 0 ≤ strB 1010 j ∧ strB 1010 j < 128 := by
  obtain ⟨n, rfl⟩ := Int.eq_ofNat_of_zero_le h.1
  have hn : n < 80 := by omega
  have key : ∀ k, k < 80 → ((Int32.ofInt (Int32.ofInt (strB 1010 (k : Nat)) &&& Int32.ofInt 255).toInt).toUInt32 % 65536).toInt32.toInt = strB 1010 (k : Nat) ∧ 0 ≤ strB 1010 (k : Nat) ∧ strB 1010 (k : Nat) < 128 := by decide +kernel
  exact key n hn
def sgI (c : Int) : Int := if c = 40 then 0 else if c = 41 then 1 else if c = 43 then 2 else if c = 45 then 3 else if c = 42 then 4 else if c = 60 then 5 else if c = 62 then 6 else if c = 61 then 7 else if c = 59 then 8 else -1
theorem sgI_C {c : Int} : (0 ≤ sgI c ∧ sgC c = 16 + sgI c) ∨ (sgI c = -1 ∧ sgC c = 27) := by
  unfold sgI sgC
  repeat' split
  all_goals omega

def sp_lnS : Spec1 := fun as M Q => match as with
  | [.inr (.inr (.inl (q0, i0)))] => match Nat.beq q0 1000 with
    | true => (i0 = 0 ∧ True) ∧ Q (some (vI 80)) M
    | false => False
  | _ => False
theorem ok_lnS {l : Launch} {ω : WP} : ∀ as M Q, sp_lnS as M Q → Vd l ω 2 263 as M Q := by
  intro as M Q h
  unfold sp_lnS at h
  split at h
  case h_2 => exact h.elim
  rename_i q0 i0 
  cases hb : Nat.beq q0 1000 with
  | false => rw [hb] at h; exact h.elim
  | true =>
  rw [hb] at h
  obtain ⟨⟨hi, _⟩, hQ⟩ := h
  have hb := beq_eq hb
  subst hb
  subst hi
  refine Vd.ok fun hok hal => ?_
  refine Vd_run (GGR_ok (l := l) (ω := ω)) 300 (cut := fun _ => none) (by decide) CutOK_none ?_
  conv => whnf
  repeat' first
    | (refine And.intro (fun h => ?_) (fun h => ?_) <;> (try simp (disch := decide) only [cmp3_lt, cmp3_ge, cmp3_gt, cmp3_le, cmp3_eq, ms_q, ms_f, mf_q, mf_f, mc_q, mc_f, and_self, and_true, true_and, and_false, false_and, or_true, true_or, or_false, false_or, if_true, if_false, not_true_eq_false, not_false_eq_true, eq_self, reduceIte, Int.reduceEq, Int.reduceLT, Int.reduceLE, Int.reduceNeg, Int.reduceAdd, Int.reduceSub, Int.reduceMul, Int.add_sub_cancel] at h) <;> (try simp (disch := omega) only [w32_e, w64_e, td_pos, tm_pos, Int.add_sub_cancel] at h) <;> first | exact absurd rfl h | exact absurd h (by decide) | (exfalso; omega) | (conv => whnf))
    | (refine And.intro (by first | omega | ((try simp (disch := decide) only [cmp3_lt, cmp3_ge, cmp3_gt, cmp3_le, cmp3_eq, ms_q, ms_f, mf_q, mf_f, mc_q, mc_f, and_self, and_true, true_and, and_false, false_and, or_true, true_or, or_false, false_or, if_true, if_false, not_true_eq_false, not_false_eq_true, eq_self, reduceIte, Int.reduceEq, Int.reduceLT, Int.reduceLE, Int.reduceNeg, Int.reduceAdd, Int.reduceSub, Int.reduceMul, Int.add_sub_cancel]); (try simp (disch := omega) only [w32_e, w64_e, td_pos, tm_pos, Int.add_sub_cancel]); first | assumption | omega) | ((try simp (disch := decide) only [cmp3_lt, cmp3_ge, cmp3_gt, cmp3_le, cmp3_eq, ms_q, ms_f, mf_q, mf_f, mc_q, mc_f, and_self, and_true, true_and, and_false, false_and, or_true, true_or, or_false, false_or, if_true, if_false, not_true_eq_false, not_false_eq_true, eq_self, reduceIte, Int.reduceEq, Int.reduceLT, Int.reduceLE, Int.reduceNeg, Int.reduceAdd, Int.reduceSub, Int.reduceMul, Int.add_sub_cancel]); (try simp (disch := omega) only [w32_e, w64_e, td_pos, tm_pos, Int.add_sub_cancel]); ((repeat' (first | assumption | omega | with_reducible rfl | apply And.intro)); done))) ?_; conv => whnf)
    | (intro v; intro hv; conv => whnf)
  all_goals rw [len_80]
  all_goals exact hQ

def sp_chS : Spec1 := fun as M Q => match as with
  | [.inr (.inr (.inl (q0, i0))), .inl j] => match Nat.beq q0 1000 with
    | true => (i0 = 0 ∧ (0 ≤ j ∧ j < 80)) ∧ Q (some (vI (strB 1010 j))) M
    | false => False
  | _ => False
theorem ok_chS {l : Launch} {ω : WP} : ∀ as M Q, sp_chS as M Q → Vd l ω 4 264 as M Q := by
  intro as M Q h
  unfold sp_chS at h
  split at h
  case h_2 => exact h.elim
  rename_i q0 i0 j
  cases hb : Nat.beq q0 1000 with
  | false => rw [hb] at h; exact h.elim
  | true =>
  rw [hb] at h
  obtain ⟨⟨hi, hj⟩, hQ⟩ := h
  have hb := beq_eq hb
  subst hb
  subst hi
  refine Vd.ok fun hok hal => ?_
  have ce := ch_e hj
  refine Vd_run (GGR_ok (l := l) (ω := ω)) 300 (cut := fun _ => none) (by decide) CutOK_none ?_
  conv => whnf
  repeat' first
    | (refine And.intro (fun h => ?_) (fun h => ?_) <;> (try simp (disch := decide) only [cmp3_lt, cmp3_ge, cmp3_gt, cmp3_le, cmp3_eq, ms_q, ms_f, mf_q, mf_f, mc_q, mc_f, and_self, and_true, true_and, and_false, false_and, or_true, true_or, or_false, false_or, if_true, if_false, not_true_eq_false, not_false_eq_true, eq_self, reduceIte, Int.reduceEq, Int.reduceLT, Int.reduceLE, Int.reduceNeg, Int.reduceAdd, Int.reduceSub, Int.reduceMul, Int.add_sub_cancel] at h) <;> (try simp (disch := omega) only [w32_e, w64_e, td_pos, tm_pos, Int.add_sub_cancel] at h) <;> first | exact absurd rfl h | exact absurd h (by decide) | (exfalso; omega) | (conv => whnf))
    | (refine And.intro (by first | omega | ((try simp (disch := decide) only [cmp3_lt, cmp3_ge, cmp3_gt, cmp3_le, cmp3_eq, ms_q, ms_f, mf_q, mf_f, mc_q, mc_f, and_self, and_true, true_and, and_false, false_and, or_true, true_or, or_false, false_or, if_true, if_false, not_true_eq_false, not_false_eq_true, eq_self, reduceIte, Int.reduceEq, Int.reduceLT, Int.reduceLE, Int.reduceNeg, Int.reduceAdd, Int.reduceSub, Int.reduceMul, Int.add_sub_cancel]); (try simp (disch := omega) only [w32_e, w64_e, td_pos, tm_pos, Int.add_sub_cancel]); first | assumption | omega) | (rw [ce.1]; omega) | (rw [len_80]; omega) | ((try simp (disch := decide) only [cmp3_lt, cmp3_ge, cmp3_gt, cmp3_le, cmp3_eq, ms_q, ms_f, mf_q, mf_f, mc_q, mc_f, and_self, and_true, true_and, and_false, false_and, or_true, true_or, or_false, false_or, if_true, if_false, not_true_eq_false, not_false_eq_true, eq_self, reduceIte, Int.reduceEq, Int.reduceLT, Int.reduceLE, Int.reduceNeg, Int.reduceAdd, Int.reduceSub, Int.reduceMul, Int.add_sub_cancel]); (try simp (disch := omega) only [w32_e, w64_e, td_pos, tm_pos, Int.add_sub_cancel]); ((repeat' (first | assumption | omega | with_reducible rfl | apply And.intro)); done))) ?_; conv => whnf)
    | (intro v; intro hv; conv => whnf)
  all_goals first
    | (rw [ce.1]; exact hQ)

theorem sg_yes {x i : Int} (hx : 0 ≤ x ∧ x ≤ 255) (hi : 0 ≤ i ∧ i < 9) (h : strB 1011 i = (x + 128) % 256 - 128) : sgI x = i := by
  obtain ⟨n, rfl⟩ := Int.eq_ofNat_of_zero_le hi.1
  have hn : n < 9 := by omega
  have key : ∀ k, k < 9 → 0 ≤ strB 1011 (k : Nat) ∧ strB 1011 (k : Nat) < 128 ∧ sgI (strB 1011 (k : Nat)) = (k : Nat) := by decide +kernel
  have q := key n hn
  have e : x = strB 1011 (n : Nat) := by omega
  rw [e]
  exact q.2.2
theorem sg_no {x : Int} (hx : 0 ≤ x ∧ x ≤ 255) (h : ∀ j, 0 ≤ j → j < 9 → ¬ strB 1011 j = (x + 128) % 256 - 128) : sgI x = -1 := by
  have e0 : strB 1011 0 = 40 := by decide +kernel
  have e1 : strB 1011 1 = 41 := by decide +kernel
  have e2 : strB 1011 2 = 43 := by decide +kernel
  have e3 : strB 1011 3 = 45 := by decide +kernel
  have e4 : strB 1011 4 = 42 := by decide +kernel
  have e5 : strB 1011 5 = 60 := by decide +kernel
  have e6 : strB 1011 6 = 62 := by decide +kernel
  have e7 : strB 1011 7 = 61 := by decide +kernel
  have e8 : strB 1011 8 = 59 := by decide +kernel
  have h0 := h 0 (by decide) (by decide)
  have h1 := h 1 (by decide) (by decide)
  have h2 := h 2 (by decide) (by decide)
  have h3 := h 3 (by decide) (by decide)
  have h4 := h 4 (by decide) (by decide)
  have h5 := h 5 (by decide) (by decide)
  have h6 := h 6 (by decide) (by decide)
  have h7 := h 7 (by decide) (by decide)
  have h8 := h 8 (by decide) (by decide)
  clear h
  unfold sgI
  repeat' split
  all_goals omega

def sp_icS : Spec1 := fun as M Q => match as with
  | [.inr (.inr (.inl (q1, q))), .inl x, .inl f, .inl t] => (q1 = 1011 ∧ (0 ≤ x ∧ x ≤ 255) ∧ f = 0 ∧ t = 9) ∧ Q (some (vI (sgI x))) M
  | _ => False
theorem ok_icS {l : Launch} {ω : WP} : ∀ as M Q, sp_icS as M Q → Vd l ω 1 274 as M Q := by
  intro as M Q h
  unfold sp_icS at h
  split at h
  case h_2 => exact h.elim
  rename_i q x f t
  obtain ⟨⟨hq1, hx, hf, ht⟩, hQ⟩ := h
  refine Vd.ok fun hok hal => ?_
  subst hq1
  subst hf
  subst ht
  have key : ∀ n9, CutOK l ω 1 274 (cutL [(7, [0, 1, 2, 3, 4, 5], fun kk vs M9 => ∃ i : Int, vs = [vR 1011 q, vI x, vI 0, vI 9, vI ((x + 128) % 256 - 128), vI i] ∧ M = M9 ∧ kk = (100 - i).toNat ∧ (0 ≤ i ∧ i ≤ 9) ∧ (∀ j, 0 ≤ j → j < i → ¬ strB 1011 j = (x + 128) % 256 - 128))] n9) Q := by
    refine loops (GGR_ok (l := l) (ω := ω)) 400 _ ?_
    refine List.forall_mem_cons.mpr ⟨?_, fun _ h => absurd h List.not_mem_nil⟩
    · rintro n9 vs M9 ⟨i, rfl, rfl, rfl, i0, hn⟩
      have ei : w32 (i + 1) = i + 1 := w32_e (by omega) (by omega)
      show wpH _ 400 _ 274 _ true 7 [vR 1011 q, vI x, vI 0, vI 9, vI ((x + 128) % 256 - 128), vI i] [] _ Q
      conv => whnf
      repeat' first
        | (refine And.intro (fun h => ?_) (fun h => ?_) <;> (try simp (disch := decide) only [cmp3_lt, cmp3_ge, cmp3_gt, cmp3_le, cmp3_eq, ms_q, ms_f, mf_q, mf_f, mc_q, mc_f, and_self, and_true, true_and, and_false, false_and, or_true, true_or, or_false, false_or, if_true, if_false, not_true_eq_false, not_false_eq_true, eq_self, reduceIte, Int.reduceEq, Int.reduceLT, Int.reduceLE, Int.reduceNeg, Int.reduceAdd, Int.reduceSub, Int.reduceMul, Int.add_sub_cancel] at h) <;> (try simp (disch := omega) only [w32_e, w64_e, td_pos, tm_pos, Int.add_sub_cancel] at h) <;> first | exact absurd rfl h | exact absurd h (by decide) | (exfalso; omega) | (conv => whnf))
        | (refine And.intro (by first | omega | ((try simp (disch := decide) only [cmp3_lt, cmp3_ge, cmp3_gt, cmp3_le, cmp3_eq, ms_q, ms_f, mf_q, mf_f, mc_q, mc_f, and_self, and_true, true_and, and_false, false_and, or_true, true_or, or_false, false_or, if_true, if_false, not_true_eq_false, not_false_eq_true, eq_self, reduceIte, Int.reduceEq, Int.reduceLT, Int.reduceLE, Int.reduceNeg, Int.reduceAdd, Int.reduceSub, Int.reduceMul, Int.add_sub_cancel]); (try simp (disch := omega) only [w32_e, w64_e, td_pos, tm_pos, Int.add_sub_cancel]); first | assumption | omega) | ((try simp (disch := decide) only [cmp3_lt, cmp3_ge, cmp3_gt, cmp3_le, cmp3_eq, ms_q, ms_f, mf_q, mf_f, mc_q, mc_f, and_self, and_true, true_and, and_false, false_and, or_true, true_or, or_false, false_or, if_true, if_false, not_true_eq_false, not_false_eq_true, eq_self, reduceIte, Int.reduceEq, Int.reduceLT, Int.reduceLE, Int.reduceNeg, Int.reduceAdd, Int.reduceSub, Int.reduceMul, Int.add_sub_cancel]); (try simp (disch := omega) only [w32_e, w64_e, td_pos, tm_pos, Int.add_sub_cancel]); ((repeat' (first | assumption | omega | with_reducible rfl | apply And.intro)); done))) ?_; conv => whnf)
        | (intro v; intro hv; conv => whnf)
      all_goals first
        | (have e9 : i = 9 := by omega
           rw [e9] at hn
           rw [sg_no hx hn] at hQ
           exact hQ)
        | (have y : strB 1011 i = (x + 128) % 256 - 128 := by assumption
           rw [sg_yes hx (by omega) y] at hQ
           exact hQ)
        | (have y : ¬ strB 1011 i = (x + 128) % 256 - 128 := by assumption
           refine ⟨_, ?_, i + 1, by rw [ei], rfl, rfl, ⟨by omega, by omega⟩, fun j a b => ?_⟩
           · omega
           · by_cases z : j = i
             · rw [z]; exact y
             · exact hn j a (by omega))
  refine Vd_run (GGR_ok (l := l) (ω := ω)) 400 (hC := key 1000) (by decide) ?_
  conv => whnf
  repeat' first
    | (refine And.intro (fun h => ?_) (fun h => ?_) <;> (try simp (disch := decide) only [cmp3_lt, cmp3_ge, cmp3_gt, cmp3_le, cmp3_eq, ms_q, ms_f, mf_q, mf_f, mc_q, mc_f, and_self, and_true, true_and, and_false, false_and, or_true, true_or, or_false, false_or, if_true, if_false, not_true_eq_false, not_false_eq_true, eq_self, reduceIte, Int.reduceEq, Int.reduceLT, Int.reduceLE, Int.reduceNeg, Int.reduceAdd, Int.reduceSub, Int.reduceMul, Int.add_sub_cancel] at h) <;> (try simp (disch := omega) only [w32_e, w64_e, td_pos, tm_pos, Int.add_sub_cancel] at h) <;> first | exact absurd rfl h | exact absurd h (by decide) | (exfalso; omega) | (conv => whnf))
    | (refine And.intro (by first | omega | ((try simp (disch := decide) only [cmp3_lt, cmp3_ge, cmp3_gt, cmp3_le, cmp3_eq, ms_q, ms_f, mf_q, mf_f, mc_q, mc_f, and_self, and_true, true_and, and_false, false_and, or_true, true_or, or_false, false_or, if_true, if_false, not_true_eq_false, not_false_eq_true, eq_self, reduceIte, Int.reduceEq, Int.reduceLT, Int.reduceLE, Int.reduceNeg, Int.reduceAdd, Int.reduceSub, Int.reduceMul, Int.add_sub_cancel]); (try simp (disch := omega) only [w32_e, w64_e, td_pos, tm_pos, Int.add_sub_cancel]); first | assumption | omega) | ((try simp (disch := decide) only [cmp3_lt, cmp3_ge, cmp3_gt, cmp3_le, cmp3_eq, ms_q, ms_f, mf_q, mf_f, mc_q, mc_f, and_self, and_true, true_and, and_false, false_and, or_true, true_or, or_false, false_or, if_true, if_false, not_true_eq_false, not_false_eq_true, eq_self, reduceIte, Int.reduceEq, Int.reduceLT, Int.reduceLE, Int.reduceNeg, Int.reduceAdd, Int.reduceSub, Int.reduceMul, Int.add_sub_cancel]); (try simp (disch := omega) only [w32_e, w64_e, td_pos, tm_pos, Int.add_sub_cancel]); ((repeat' (first | assumption | omega | with_reducible rfl | apply And.intro)); done))) ?_; conv => whnf)
    | (intro v; intro hv; conv => whnf)
  all_goals
    (refine ⟨_, ?_, 0, rfl, rfl, rfl, ⟨by decide, by decide⟩, fun j a b => absurd b (by omega)⟩
     omega)

def GLS0 : List (Nat × Nat × Spec1) := (274, 1, sp_icS) :: GLR
abbrev GGS0 : Env1 := fun n => getG n GLS0
theorem GGS0_all {l : Launch} {ω : WP} : ∀ e ∈ GLS0, ∀ as M Q, e.2.2 as M Q → Vd l ω e.2.1 e.1 as M Q := List.forall_mem_cons.mpr ⟨ok_icS, GGR_all⟩
theorem GGS0_ok {l : Launch} {ω : WP} : GOK l ω GGS0 := getG_ok GLS0 GGS0_all

def sp_ixS : Spec1 := fun as M Q => match as with
  | [.inr (.inr (.inl (q0, i0))), .inl x] => match Nat.beq q0 1001 with
    | true => (i0 = 0 ∧ (0 ≤ x ∧ x ≤ 255)) ∧ Q (some (vI (sgI x))) M
    | false => False
  | _ => False
theorem ok_ixS {l : Launch} {ω : WP} : ∀ as M Q, sp_ixS as M Q → Vd l ω 4 265 as M Q := by
  intro as M Q h
  unfold sp_ixS at h
  split at h
  case h_2 => exact h.elim
  rename_i q0 i0 x
  cases hb : Nat.beq q0 1001 with
  | false => rw [hb] at h; exact h.elim
  | true =>
  rw [hb] at h
  obtain ⟨⟨hi, hx⟩, hQ⟩ := h
  have hb := beq_eq hb
  subst hb
  subst hi
  refine Vd.ok fun hok hal => ?_
  refine Vd_run (GGS0_ok (l := l) (ω := ω)) 600 (cut := fun _ => none) (by decide) CutOK_none ?_
  conv => whnf
  repeat' first
    | (refine And.intro (fun h => ?_) (fun h => ?_) <;> (try simp (disch := decide) only [cmp3_lt, cmp3_ge, cmp3_gt, cmp3_le, cmp3_eq, ms_q, ms_f, mf_q, mf_f, mc_q, mc_f, and_self, and_true, true_and, and_false, false_and, or_true, true_or, or_false, false_or, if_true, if_false, not_true_eq_false, not_false_eq_true, eq_self, reduceIte, Int.reduceEq, Int.reduceLT, Int.reduceLE, Int.reduceNeg, Int.reduceAdd, Int.reduceSub, Int.reduceMul, Int.add_sub_cancel] at h) <;> (try simp (disch := omega) only [w32_e, w64_e, td_pos, tm_pos, Int.add_sub_cancel] at h) <;> first | exact absurd rfl h | exact absurd h (by decide) | (exfalso; omega) | (conv => whnf))
    | (refine And.intro (by first | omega | ((try simp (disch := decide) only [cmp3_lt, cmp3_ge, cmp3_gt, cmp3_le, cmp3_eq, ms_q, ms_f, mf_q, mf_f, mc_q, mc_f, and_self, and_true, true_and, and_false, false_and, or_true, true_or, or_false, false_or, if_true, if_false, not_true_eq_false, not_false_eq_true, eq_self, reduceIte, Int.reduceEq, Int.reduceLT, Int.reduceLE, Int.reduceNeg, Int.reduceAdd, Int.reduceSub, Int.reduceMul, Int.add_sub_cancel]); (try simp (disch := omega) only [w32_e, w64_e, td_pos, tm_pos, Int.add_sub_cancel]); first | assumption | omega) | exact ⟨rfl, hx, by decide, by rw [len_9]; decide⟩ | ((try simp (disch := decide) only [cmp3_lt, cmp3_ge, cmp3_gt, cmp3_le, cmp3_eq, ms_q, ms_f, mf_q, mf_f, mc_q, mc_f, and_self, and_true, true_and, and_false, false_and, or_true, true_or, or_false, false_or, if_true, if_false, not_true_eq_false, not_false_eq_true, eq_self, reduceIte, Int.reduceEq, Int.reduceLT, Int.reduceLE, Int.reduceNeg, Int.reduceAdd, Int.reduceSub, Int.reduceMul, Int.add_sub_cancel]); (try simp (disch := omega) only [w32_e, w64_e, td_pos, tm_pos, Int.add_sub_cancel]); ((repeat' (first | assumption | omega | with_reducible rfl | apply And.intro)); done))) ?_; conv => whnf)
    | (intro v; intro hv; conv => whnf)
  all_goals first
    | exact hQ

def GLS : List (Nat × Nat × Spec1) := (265, 4, sp_ixS) :: (264, 4, sp_chS) :: (263, 2, sp_lnS) :: (68, 2, sp_wwC) :: GLS0
abbrev GGS : Env1 := fun n => getG n GLS
theorem GGS_all {l : Launch} {ω : WP} : ∀ e ∈ GLS, ∀ as M Q, e.2.2 as M Q → Vd l ω e.2.1 e.1 as M Q := List.forall_mem_cons.mpr ⟨ok_ixS, List.forall_mem_cons.mpr ⟨ok_chS, List.forall_mem_cons.mpr ⟨ok_lnS, List.forall_mem_cons.mpr ⟨ok_wwC, GGS0_all⟩⟩⟩⟩
theorem GGS_ok {l : Launch} {ω : WP} : GOK l ω GGS := getG_ok GLS GGS_all
