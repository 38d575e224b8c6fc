/-! ===== go, by the model (wip/gen/p25.py) ===== -/
theorem pl_in {L : List Int} {f : Int → Int} {n g k : Int} (h0 : 0 ≤ n) (hl : L.length = n.toNat) (hm : g ∈ L) (hf : ∀ j : Nat, (j : Int) < n → L[j]? = some (f (j : Int))) (kp : 0 ≤ k) (ke : f k = g) (lo : ∀ j, 0 ≤ j → j < k → ¬ f j = g) : ∃ k0 : Nat, L[k0]? = some g ∧ (∀ j, j < k0 → ¬ L[j]? = some g) ∧ ((k0 : Int) ≤ k ∧ k < n) ∧ (∀ j : Nat, (j : Int) < k → (if j < k0 then L[j]? else L[j + 1]?) = some (f (j : Int))) ∧ (∀ j : Nat, k ≤ (j : Int) → (j : Int) < n → L[j]? = some (f (j : Int))) := by
  obtain ⟨t, t0, t1⟩ := List.mem_iff_getElem.mp hm
  have tn : (t : Int) < n := by omega
  have ft : f (t : Int) = g := by
    have q := hf t tn
    rw [List.getElem?_eq_getElem t0, t1] at q
    exact (Option.some.inj q).symm
  have kt : k ≤ (t : Int) := by
    rcases Int.lt_or_le (t : Int) k with q | q
    · exact absurd ft (lo _ (by omega) q)
    · exact q
  have ek : ((k.toNat : Nat) : Int) = k := Int.toNat_of_nonneg kp
  refine ⟨k.toNat, ?_, ?_, ⟨by omega, by omega⟩, ?_, fun j _ b => hf j b⟩
  · rw [hf k.toNat (by omega), ek, ke]
  · intro j hj q
    rw [hf j (by omega)] at q
    exact lo (j : Int) (by omega) (by omega) (Option.some.inj q)
  · intro j hj
    rw [if_pos (by omega)]
    exact hf j (by omega)
theorem pl_ex {L : List Int} {f : Int → Int} {n g : Int} (h8 : n ≤ 8) (hl : L.length = n.toNat) (hm : g ∈ L) (hf : ∀ j : Nat, (j : Int) < n → L[j]? = some (f (j : Int))) : ∃ t : Int, (0 ≤ t ∧ t < 8) ∧ f t = g := by
  obtain ⟨t, t0, t1⟩ := List.mem_iff_getElem.mp hm
  refine ⟨(t : Int), ⟨by omega, by omega⟩, ?_⟩
  have q := hf t (by omega)
  rw [List.getElem?_eq_getElem t0, t1] at q
  exact (Option.some.inj q).symm
theorem pl_step {L : List Int} {f f' : Int → Int} {n k : Int} {k0 : Nat} (hk : k + 1 < n) (h0 : (k0 : Int) ≤ k)
    (lo : ∀ j : Nat, (j : Int) < k → (if j < k0 then L[j]? else L[j + 1]?) = some (f (j : Int))) (hi : ∀ j : Nat, k ≤ (j : Int) → (j : Int) < n → L[j]? = some (f (j : Int)))
    (e : ∀ j, f' j = if j = k then f (k + 1) else f j) : (∀ j : Nat, (j : Int) < k + 1 → (if j < k0 then L[j]? else L[j + 1]?) = some (f' (j : Int))) ∧ (∀ j : Nat, k + 1 ≤ (j : Int) → (j : Int) < n → L[j]? = some (f' (j : Int))) := by
  refine ⟨fun j hj => ?_, fun j hj hn => ?_⟩
  · rw [e]
    by_cases q : (j : Int) = k
    · rw [if_pos q, if_neg (by omega), hi (j + 1) (by omega) (by omega)]
      congr 2
      omega
    · rw [if_neg q]
      exact lo j (by omega)
  · rw [e, if_neg (by omega)]
    exact hi j (by omega) hn
theorem pl_out {L : List Int} {f f' : Int → Int} {n k g : Int} {k0 : Nat} (hl : L.length = n.toNat) (kg : L[k0]? = some g) (km : ∀ j, j < k0 → ¬ L[j]? = some g) (hk : k < n) (hk2 : n ≤ k + 1) (h0 : (k0 : Int) ≤ k)
    (lo : ∀ j : Nat, (j : Int) < k → (if j < k0 then L[j]? else L[j + 1]?) = some (f (j : Int)))
    (e : ∀ j, f' j = if j = n - 1 then g else f j) : ∀ j : Nat, (j : Int) < n → (L.erase g ++ [g])[j]? = some (f' (j : Int)) := by
  intro j hj
  rw [behind_get kg km j (by omega), e]
  by_cases q : (j : Int) = n - 1
  · rw [if_neg (by omega), if_pos q]
  · rw [if_pos (by omega), if_neg q]
    exact lo j (by omega)

def sp_ftN : Spec1 := fun as M Q => match as with
  | [.inr (.inr (.inl (q0, i0)))] => match Nat.beq q0 13 with
    | true => (i0 = 0 ∧ ISta M ∧ okV (M 98 0) ∧ M 13 0 35 = M 8 0 6) ∧ ∃ M0 : Mem, ((M 13 0 17 = M0 5 0 0 ∧ M 83 0 = M0 30 0 ∧ M 85 0 = M0 32 0 ∧ (0 ≤ M0 5 0 0 ∧ M0 5 0 0 ≤ 8)) ∧ IPerm (M0 5 0 0) (M0 34 0) ∧ (∀ i, 0 ≤ i → i < M0 5 0 0 → M 89 0 i = M0 34 0 i) ∧ (∀ g, 0 ≤ g → g < 8 → M 86 0 g = bitI (M0 5 0 3) g) ∧ M 13 0 25 = M0 5 0 2) ∧ ∀ M9, ((∀ p, p ≠ 99 → p ≠ 100 → M9 p = M p) ∧ (∀ j, 0 ≤ j → j < (tnA M0 (min (asS (M 46 0) (wkL M (M 98 0)) (M 8 0 6)) 8) (M 98 0 4) (M0 5 0 0)).1 → M9 100 0 j = (tnA M0 (min (asS (M 46 0) (wkL M (M 98 0)) (M 8 0 6)) 8) (M 98 0 4) (M0 5 0 0)).2 j)) → Q (some (vI (if (tnA M0 (min (asS (M 46 0) (wkL M (M 98 0)) (M 8 0 6)) 8) (M 98 0 4) (M0 5 0 0)).1 = (min (asS (M 46 0) (wkL M (M 98 0)) (M 8 0 6)) 8) then (tnA M0 (min (asS (M 46 0) (wkL M (M 98 0)) (M 8 0 6)) 8) (M 98 0 4) (M0 5 0 0)).1 else 0))) M9
    | false => False
  | _ => False
theorem ok_ftN {l : Launch} {ω : WP} : ∀ as M Q, sp_ftN as M Q → Vd l ω 7 226 as M Q := by
  intro as M Q h
  unfold sp_ftN at h
  split at h
  case h_2 => exact h.elim
  rename_i q0 i0 
  cases hb : Nat.beq q0 13 with
  | false => rw [hb] at h; exact h.elim
  | true =>
  rw [hb] at h
  obtain ⟨⟨hi, hA, ho, hl⟩, hQ⟩ := h
  have hb := beq_eq hb
  subst hb
  subst hi
  refine Vd.ok fun hok hal => ?_
  obtain ⟨M0, ⟨⟨b7, g5, g7, b8⟩, hP, w1, w6, w3⟩, hQ⟩ := hQ
  generalize ha : min (asS (M 46 0) (wkL M (M 98 0)) (M 8 0 6)) 8 = a at hQ
  generalize hnd : M 98 0 4 = nd at hQ
  have ha1 : 0 ≤ a ∧ a ≤ 8 := by
    have := asS_ge (K := M 46 0) (W := wkL M (M 98 0)) (M 8 0 6).toNat
    rw [Int.toNat_of_nonneg hA.2.1.1] at this
    omega
  have e13 := b8
  have e83 := b8
  have e85 := b8
  have e86 := b8
  have e89 := b8
  have e98 := b8
  have c89 := b8
  have c86 := b8
  have key : ∀ n9, CutOK l ω 7 226 (cutL [(9, [0, 1, 2, 3], fun kk vs M9 => ∃ m i : Int, vs = [vR 13 0, vI a, vI m, vI i] ∧ kk = (M0 5 0 0 - i).toNat ∧ (0 ≤ i ∧ i ≤ M0 5 0 0) ∧ (∀ p, p ≠ 99 → p ≠ 100 → M9 p = M p) ∧ m = (tnA M0 a nd i).1 ∧ (∀ j, 0 ≤ j → j < (tnA M0 a nd i).1 → M9 100 0 j = (tnA M0 a nd i).2 j))] n9) Q := by
    refine loops (GGn_ok (l := l) (ω := ω)) 300 _ ?_
    refine List.forall_mem_cons.mpr ⟨?_, fun _ h => absurd h List.not_mem_nil⟩
    · rintro n9 vs M9 ⟨m, i, rfl, rfl, i0, fr, hm, rw_⟩
      have e13 : M9 13 = M 13 := fr 13 (by decide) (by decide)
      have e83 : M9 83 = M 83 := fr 83 (by decide) (by decide)
      have e85 : M9 85 = M 85 := fr 85 (by decide) (by decide)
      have e86 : M9 86 = M 86 := fr 86 (by decide) (by decide)
      have e89 : M9 89 = M 89 := fr 89 (by decide) (by decide)
      have e98 : M9 98 = M 98 := fr 98 (by decide) (by decide)
      have ti := tnA_inI (M := M0) (a := a) (nd := nd) ha1.1 i0.1
      have pg : i < M0 5 0 0 → _ := fun z => hP.1 i i0.1 z
      have ts := tnA_s (M := M0) (a := a) (nd := nd) i0.1
      have q7 := bit_01 (M0 5 0 3) (M0 34 0 i)
      have c89 : i < M0 5 0 0 → M 89 0 i = M0 34 0 i := fun z => w1 i i0.1 z
      have c86 : i < M0 5 0 0 → M 86 0 (M0 34 0 i) = bitI (M0 5 0 3) (M0 34 0 i) := fun z => w6 _ (pg z).1 (by have := pg z; omega)
      show wpH _ 300 _ 226 _ true 9 [vR 13 0, vI a, vI m, vI i, vU] [] _ Q
      conv => whnf
      repeat' first
        | (refine And.intro (fun h => ?_) (fun h => ?_) <;> (try simp (disch := decide) only [cmp3_lt, cmp3_ge, cmp3_gt, cmp3_le, cmp3_eq, ms_q, ms_f, mf_q, mf_f, mc_q, mc_f, and_self, and_true, true_and, and_false, false_and, or_true, true_or, or_false, false_or, if_true, if_false, not_true_eq_false, not_false_eq_true, eq_self, reduceIte, Int.reduceEq, Int.reduceLT, Int.reduceLE, Int.reduceNeg, Int.reduceAdd, Int.reduceSub, Int.reduceMul, Int.add_sub_cancel] at h) <;> (try simp (disch := omega) only [w32_e, w64_e, td_pos, tm_pos, Int.add_sub_cancel, e13, e83, e85, e86, e89, e98, g5, g7, w3, b7, c89, c86] at h) <;> first | exact absurd rfl h | exact absurd h (by decide) | (exfalso; omega) | (conv => whnf))
        | (refine And.intro (by first | omega | ((try simp (disch := decide) only [cmp3_lt, cmp3_ge, cmp3_gt, cmp3_le, cmp3_eq, ms_q, ms_f, mf_q, mf_f, mc_q, mc_f, and_self, and_true, true_and, and_false, false_and, or_true, true_or, or_false, false_or, if_true, if_false, not_true_eq_false, not_false_eq_true, eq_self, reduceIte, Int.reduceEq, Int.reduceLT, Int.reduceLE, Int.reduceNeg, Int.reduceAdd, Int.reduceSub, Int.reduceMul, Int.add_sub_cancel]); (try simp (disch := omega) only [w32_e, w64_e, td_pos, tm_pos, Int.add_sub_cancel, e13, e83, e85, e86, e89, e98, g5, g7, w3, b7, c89, c86]); first | assumption | omega) | exact ⟨rfl, hA, ho, hl⟩ | ((try simp (disch := decide) only [cmp3_lt, cmp3_ge, cmp3_gt, cmp3_le, cmp3_eq, ms_q, ms_f, mf_q, mf_f, mc_q, mc_f, and_self, and_true, true_and, and_false, false_and, or_true, true_or, or_false, false_or, if_true, if_false, not_true_eq_false, not_false_eq_true, eq_self, reduceIte, Int.reduceEq, Int.reduceLT, Int.reduceLE, Int.reduceNeg, Int.reduceAdd, Int.reduceSub, Int.reduceMul, Int.add_sub_cancel]); (try simp (disch := omega) only [w32_e, w64_e, td_pos, tm_pos, Int.add_sub_cancel, e13, e83, e85, e86, e89, e98, g5, g7, w3, b7, c89, c86]); ((repeat' (first | assumption | omega | with_reducible rfl | apply And.intro)); done))) ?_; conv => whnf)
        | (intro v; intro hv; conv => whnf)
      all_goals first
        | (have ex := tnA_to (M := M0) (nd := nd) (a := a) i0.1 i0.2 (by omega)
           refine Eq.mp (congrArg (fun z => Q (some (vI z)) M9) ?_) (hQ M9 ⟨fr, by rw [ex]; exact rw_⟩)
           rw [ex]
           first | (rw [if_pos (by omega)]; omega) | (rw [if_neg (by omega)]; done))
        | (have z1 : i < M0 5 0 0 := by omega
           by_cases hc : (tnA M0 a nd i).1 < a ∧ bitI (M0 5 0 3) (M0 34 0 i) = 0 ∧ M0 5 0 2 ≤ M0 32 0 (M0 34 0 i) ∧ nd ≤ M0 30 0 (M0 34 0 i)
           · first
               | (exfalso; omega)
               | (unfold tnS at ts
                  rw [if_pos hc] at ts
                  refine ⟨_, ?_, _, _, rfl, rfl, ?_, ?_, ?_, ?_⟩
                  · ((try simp (disch := decide) only [cmp3_lt, cmp3_ge, cmp3_gt, cmp3_le, cmp3_eq, ms_q, ms_f, mf_q, mf_f, mc_q, mc_f, and_self, and_true, true_and, and_false, false_and, or_true, true_or, or_false, false_or, if_true, if_false, not_true_eq_false, not_false_eq_true, eq_self, reduceIte, Int.reduceEq, Int.reduceLT, Int.reduceLE, Int.reduceNeg, Int.reduceAdd, Int.reduceSub, Int.reduceMul, Int.add_sub_cancel]); (try simp (disch := omega) only [w32_e, w64_e, td_pos, tm_pos, Int.add_sub_cancel, e13, e83, e85, e86, e89, e98, g5, g7, w3, b7, c89, c86])) <;> omega
                  · ((try simp (disch := decide) only [cmp3_lt, cmp3_ge, cmp3_gt, cmp3_le, cmp3_eq, ms_q, ms_f, mf_q, mf_f, mc_q, mc_f, and_self, and_true, true_and, and_false, false_and, or_true, true_or, or_false, false_or, if_true, if_false, not_true_eq_false, not_false_eq_true, eq_self, reduceIte, Int.reduceEq, Int.reduceLT, Int.reduceLE, Int.reduceNeg, Int.reduceAdd, Int.reduceSub, Int.reduceMul, Int.add_sub_cancel]); (try simp (disch := omega) only [w32_e, w64_e, td_pos, tm_pos, Int.add_sub_cancel, e13, e83, e85, e86, e89, e98, g5, g7, w3, b7, c89, c86])) <;> omega
                  · intro p z0 z1; rw [ms_q z1]; exact fr p z0 z1
                  · ((try simp (disch := decide) only [cmp3_lt, cmp3_ge, cmp3_gt, cmp3_le, cmp3_eq, ms_q, ms_f, mf_q, mf_f, mc_q, mc_f, and_self, and_true, true_and, and_false, false_and, or_true, true_or, or_false, false_or, if_true, if_false, not_true_eq_false, not_false_eq_true, eq_self, reduceIte, Int.reduceEq, Int.reduceLT, Int.reduceLE, Int.reduceNeg, Int.reduceAdd, Int.reduceSub, Int.reduceMul, Int.add_sub_cancel]); (try simp (disch := omega) only [w32_e, w64_e, td_pos, tm_pos, Int.add_sub_cancel, e13, e83, e85, e86, e89, e98, g5, g7, w3, b7, c89, c86]))
                    rw [ts, hm]
                  · intro j j0 j1
                    (try simp (disch := omega) only [w32_e] at j1)
                    rw [ts] at j1
                    simp only [] at j1
                    ((try simp (disch := decide) only [cmp3_lt, cmp3_ge, cmp3_gt, cmp3_le, cmp3_eq, ms_q, ms_f, mf_q, mf_f, mc_q, mc_f, and_self, and_true, true_and, and_false, false_and, or_true, true_or, or_false, false_or, if_true, if_false, not_true_eq_false, not_false_eq_true, eq_self, reduceIte, Int.reduceEq, Int.reduceLT, Int.reduceLE, Int.reduceNeg, Int.reduceAdd, Int.reduceSub, Int.reduceMul, Int.add_sub_cancel]); (try simp (disch := omega) only [w32_e, w64_e, td_pos, tm_pos, Int.add_sub_cancel, e13, e83, e85, e86, e89, e98, g5, g7, w3, b7, c89, c86]))
                    rw [ts]
                    unfold updI
                    by_cases e : j = (tnA M0 a nd i).1
                    · simp only [if_pos e, e, hm, and_self, and_true, true_and, and_false, false_and, or_true, true_or, or_false, false_or, if_true, if_false, not_true_eq_false, not_false_eq_true, eq_self, reduceIte, Int.reduceEq, Int.reduceLT, Int.reduceLE, Int.reduceNeg, Int.reduceAdd, Int.reduceSub, Int.reduceMul, Int.add_sub_cancel]
                    · simp only [if_neg e, hm]
                      exact rw_ j j0 (by omega))
           · first
               | (exfalso; omega)
               | (unfold tnS at ts
                  rw [if_neg hc] at ts
                  refine ⟨_, ?_, _, _, rfl, rfl, ?_, ?_, ?_, ?_⟩
                  · ((try simp (disch := decide) only [cmp3_lt, cmp3_ge, cmp3_gt, cmp3_le, cmp3_eq, ms_q, ms_f, mf_q, mf_f, mc_q, mc_f, and_self, and_true, true_and, and_false, false_and, or_true, true_or, or_false, false_or, if_true, if_false, not_true_eq_false, not_false_eq_true, eq_self, reduceIte, Int.reduceEq, Int.reduceLT, Int.reduceLE, Int.reduceNeg, Int.reduceAdd, Int.reduceSub, Int.reduceMul, Int.add_sub_cancel]); (try simp (disch := omega) only [w32_e, w64_e, td_pos, tm_pos, Int.add_sub_cancel, e13, e83, e85, e86, e89, e98, g5, g7, w3, b7, c89, c86])) <;> omega
                  · ((try simp (disch := decide) only [cmp3_lt, cmp3_ge, cmp3_gt, cmp3_le, cmp3_eq, ms_q, ms_f, mf_q, mf_f, mc_q, mc_f, and_self, and_true, true_and, and_false, false_and, or_true, true_or, or_false, false_or, if_true, if_false, not_true_eq_false, not_false_eq_true, eq_self, reduceIte, Int.reduceEq, Int.reduceLT, Int.reduceLE, Int.reduceNeg, Int.reduceAdd, Int.reduceSub, Int.reduceMul, Int.add_sub_cancel]); (try simp (disch := omega) only [w32_e, w64_e, td_pos, tm_pos, Int.add_sub_cancel, e13, e83, e85, e86, e89, e98, g5, g7, w3, b7, c89, c86])) <;> omega
                  · exact fr
                  · ((try simp (disch := decide) only [cmp3_lt, cmp3_ge, cmp3_gt, cmp3_le, cmp3_eq, ms_q, ms_f, mf_q, mf_f, mc_q, mc_f, and_self, and_true, true_and, and_false, false_and, or_true, true_or, or_false, false_or, if_true, if_false, not_true_eq_false, not_false_eq_true, eq_self, reduceIte, Int.reduceEq, Int.reduceLT, Int.reduceLE, Int.reduceNeg, Int.reduceAdd, Int.reduceSub, Int.reduceMul, Int.add_sub_cancel]); (try simp (disch := omega) only [w32_e, w64_e, td_pos, tm_pos, Int.add_sub_cancel, e13, e83, e85, e86, e89, e98, g5, g7, w3, b7, c89, c86]))
                    rw [ts]
                    exact hm
                  · intro j j0 j1
                    (try simp (disch := omega) only [w32_e] at j1)
                    rw [ts] at j1
                    ((try simp (disch := decide) only [cmp3_lt, cmp3_ge, cmp3_gt, cmp3_le, cmp3_eq, ms_q, ms_f, mf_q, mf_f, mc_q, mc_f, and_self, and_true, true_and, and_false, false_and, or_true, true_or, or_false, false_or, if_true, if_false, not_true_eq_false, not_false_eq_true, eq_self, reduceIte, Int.reduceEq, Int.reduceLT, Int.reduceLE, Int.reduceNeg, Int.reduceAdd, Int.reduceSub, Int.reduceMul, Int.add_sub_cancel]); (try simp (disch := omega) only [w32_e, w64_e, td_pos, tm_pos, Int.add_sub_cancel, e13, e83, e85, e86, e89, e98, g5, g7, w3, b7, c89, c86]))
                    rw [ts]
                    exact rw_ j j0 j1))
  refine Vd_run (GGn_ok (l := l) (ω := ω)) 300 (hC := key 100) (by decide) ?_
  conv => whnf
  repeat' first
    | (refine And.intro (fun h => ?_) (fun h => ?_) <;> (try simp (disch := decide) only [cmp3_lt, cmp3_ge, cmp3_gt, cmp3_le, cmp3_eq, ms_q, ms_f, mf_q, mf_f, mc_q, mc_f, and_self, and_true, true_and, and_false, false_and, or_true, true_or, or_false, false_or, if_true, if_false, not_true_eq_false, not_false_eq_true, eq_self, reduceIte, Int.reduceEq, Int.reduceLT, Int.reduceLE, Int.reduceNeg, Int.reduceAdd, Int.reduceSub, Int.reduceMul, Int.add_sub_cancel] at h) <;> (try simp (disch := omega) only [w32_e, w64_e, td_pos, tm_pos, Int.add_sub_cancel, e13, e83, e85, e86, e89, e98, g5, g7, w3, b7, c89, c86] at h) <;> first | exact absurd rfl h | exact absurd h (by decide) | (exfalso; omega) | (conv => whnf))
    | (refine And.intro (by first | omega | ((try simp (disch := decide) only [cmp3_lt, cmp3_ge, cmp3_gt, cmp3_le, cmp3_eq, ms_q, ms_f, mf_q, mf_f, mc_q, mc_f, and_self, and_true, true_and, and_false, false_and, or_true, true_or, or_false, false_or, if_true, if_false, not_true_eq_false, not_false_eq_true, eq_self, reduceIte, Int.reduceEq, Int.reduceLT, Int.reduceLE, Int.reduceNeg, Int.reduceAdd, Int.reduceSub, Int.reduceMul, Int.add_sub_cancel]); (try simp (disch := omega) only [w32_e, w64_e, td_pos, tm_pos, Int.add_sub_cancel, e13, e83, e85, e86, e89, e98, g5, g7, w3, b7, c89, c86]); first | assumption | omega) | exact ⟨rfl, hA, ho, hl⟩ | ((try simp (disch := decide) only [cmp3_lt, cmp3_ge, cmp3_gt, cmp3_le, cmp3_eq, ms_q, ms_f, mf_q, mf_f, mc_q, mc_f, and_self, and_true, true_and, and_false, false_and, or_true, true_or, or_false, false_or, if_true, if_false, not_true_eq_false, not_false_eq_true, eq_self, reduceIte, Int.reduceEq, Int.reduceLT, Int.reduceLE, Int.reduceNeg, Int.reduceAdd, Int.reduceSub, Int.reduceMul, Int.add_sub_cancel]); (try simp (disch := omega) only [w32_e, w64_e, td_pos, tm_pos, Int.add_sub_cancel, e13, e83, e85, e86, e89, e98, g5, g7, w3, b7, c89, c86]); ((repeat' (first | assumption | omega | with_reducible rfl | apply And.intro)); done))) ?_; conv => whnf)
    | (intro v; intro hv; conv => whnf)
  all_goals
    (refine ⟨_, ?_, _, _, by rw [ha], rfl, ?_, ?_, ?_, ?_⟩
     · omega
     · omega
     · intro p z0 z1; exact hv p z0
     · rfl
     · intro j j0 j1; exact absurd j1 (by show ¬ j < 0; omega))

def GLr : List (Nat × Nat × Spec1) := (192, 3, sp_plN) :: (226, 7, sp_ftN) :: GLq
abbrev GGr : Env1 := fun n => getG n GLr
theorem GGr_all {l : Launch} {ω : WP} : ∀ e ∈ GLr, ∀ as M Q, e.2.2 as M Q → Vd l ω e.2.1 e.1 as M Q := List.forall_mem_cons.mpr ⟨ok_plN, List.forall_mem_cons.mpr ⟨ok_ftN, GGq_all⟩⟩
theorem GGr_ok {l : Launch} {ω : WP} : GOK l ω GGr := getG_ok GLr GGr_all
