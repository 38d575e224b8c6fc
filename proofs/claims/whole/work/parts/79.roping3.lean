/-! ===== roping, side one: the best, its ropes (wip/gen/p40.py) ===== -/
def GLH : List (Nat × Nat × Spec1) := (89, 3, sp_trC) :: GLF
abbrev GGH : Env1 := fun n => getG n GLH
theorem GGH_all {l : Launch} {ω : WP} : ∀ e ∈ GLH, ∀ as M Q, e.2.2 as M Q → Vd l ω e.2.1 e.1 as M Q := List.forall_mem_cons.mpr ⟨ok_trC, GGF_all⟩
theorem GGH_ok {l : Launch} {ω : WP} : GOK l ω GGH := getG_ok GLH GGH_all
theorem vl_in {M : Mem} (hP : IPpl M) {m r : Nat} (hm : (m : Int) < ((2 : Int) ^ (M 9 0 0).toNat)) (h1 : 1 ≤ m) (hr : r ∈ hiL (loN m) m 9) : -60 ≤ wiR (M 52) (M 9 0 0) r (M 9 0 0) ∧ wiR (M 52) (M 9 0 0) r (M 9 0 0) ≤ 60 := by
  have p9 := hP.2.1
  obtain ⟨x, x1, x2, x3, x4⟩ := hiL_mem 9 hr
  have xp : x < (M 9 0 0).toNat := bt_lt (l0 := (m : Int)) (by omega) hm x3
  have wq := fun a b (a0 : 0 ≤ a) (a1 : a < 9) (b0 : 0 ≤ b) (b1 : b < 9) => (hP.2.2.2.2 a b a0 a1 b0 b1).2.1
  rcases x4 with z | ⟨y, y1, y2, y3, z⟩
  · rw [z, wi2 x1 (by omega) p9.2]
    have a := wq (loN m : Int) (x : Int) (by omega) (by omega) (by omega) (by omega)
    have b := wq (x : Int) (loN m : Int) (by omega) (by omega) (by omega) (by omega)
    omega
  · rw [z, wi3 y1 y2 (by omega) p9.2]
    have a := wq (loN m : Int) (x : Int) (by omega) (by omega) (by omega) (by omega)
    have b := wq (x : Int) (loN m : Int) (by omega) (by omega) (by omega) (by omega)
    have c := wq (loN m : Int) (y : Int) (by omega) (by omega) (by omega) (by omega)
    have d := wq (y : Int) (loN m : Int) (by omega) (by omega) (by omega) (by omega)
    have e := wq (y : Int) (x : Int) (by omega) (by omega) (by omega) (by omega)
    have f := wq (x : Int) (y : Int) (by omega) (by omega) (by omega) (by omega)
    omega
theorem rp_all {M : Mem} (hP : IPpl M) {le : Int} {g1 g2 W1 W2 F1 F2 : Int → Int} {k m : Nat} (hk : (k : Int) < ((2 : Int) ^ (M 9 0 0).toNat)) (hm : m ≤ k) : GR (rpA (-1000000) le (sgR (M 50 0) (M 9 0 0)) (fun r => wiR (M 52) (M 9 0 0) r (M 9 0 0)) g1 W1 F1 (k : Int)) (rpA (-100000) le (sgR (M 50 0) (M 9 0 0)) (fun r => wiR (M 52) (M 9 0 0) r (M 9 0 0)) g2 W2 F2 (k : Int)) m := by
  have p9 := hP.2.1
  have pw := pw_in p9.1 p9.2
  exact rp_rel k (fun m hm h1 r hr => vl_in hP (by omega) h1 hr) (by omega) k (Nat.le_refl _) m hm

def sp_frC : Spec1 := fun as M Q => match as with
  | [.inr (.inr (.inl (q0, i0))), .inl le] => match Nat.beq q0 9 with
    | true => (i0 = 0 ∧ IPpl M) ∧ ∀ M9, ((∀ p, p ≠ 53 → p ≠ 54 → M9 p = M p) ∧ M9 53 0 = (rpA (-1000000) le (sgR (M 50 0) (M 9 0 0)) (fun r => wiR (M 52) (M 9 0 0) r (M 9 0 0)) (fun _ => 0) (M 53 0) (M 54 0) (((2 : Int) ^ (M 9 0 0).toNat) - 1)).1 ∧ M9 54 0 = (rpA (-1000000) le (sgR (M 50 0) (M 9 0 0)) (fun r => wiR (M 52) (M 9 0 0) r (M 9 0 0)) (fun _ => 0) (M 53 0) (M 54 0) (((2 : Int) ^ (M 9 0 0).toNat) - 1)).2) → Q (some (vI (if (rpA (-1000000) le (sgR (M 50 0) (M 9 0 0)) (fun r => wiR (M 52) (M 9 0 0) r (M 9 0 0)) (fun _ => 0) (M 53 0) (M 54 0) (((2 : Int) ^ (M 9 0 0).toNat) - 1)).1 (((2 : Int) ^ (M 9 0 0).toNat) - 1) = -1000000 then 0 else 1))) M9
    | false => False
  | _ => False
theorem ok_frC {l : Launch} {ω : WP} : ∀ as M Q, sp_frC as M Q → Vd l ω 4 88 as M Q := by
  intro as M Q h
  unfold sp_frC at h
  split at h
  case h_2 => exact h.elim
  rename_i q0 i0 le
  cases hb : Nat.beq q0 9 with
  | false => rw [hb] at h; exact h.elim
  | true =>
  rw [hb] at h
  obtain ⟨⟨hi, hP⟩, hQ⟩ := h
  have hb := beq_eq hb
  subst hb
  subst hi
  refine Vd.ok fun hok hal => ?_
  have p9 := hP.2.1
  have pw := pw_in p9.1 p9.2
  have e9 := p9
  have tc := p9
  have key : ∀ n9, CutOK l ω 4 88 (cutL [(9, [0, 1, 2], fun kk vs M9 => ∃ k : Int, vs = [vR 9 0, vI le, vI k] ∧ kk = (1000 - k).toNat ∧ (1 ≤ k ∧ k ≤ ((2 : Int) ^ (M 9 0 0).toNat)) ∧ (∀ p, p ≠ 53 → p ≠ 54 → M9 p = M p) ∧ M9 53 0 = (rpA (-1000000) le (sgR (M 50 0) (M 9 0 0)) (fun r => wiR (M 52) (M 9 0 0) r (M 9 0 0)) (fun _ => 0) (M 53 0) (M 54 0) (k - 1)).1 ∧ M9 54 0 = (rpA (-1000000) le (sgR (M 50 0) (M 9 0 0)) (fun r => wiR (M 52) (M 9 0 0) r (M 9 0 0)) (fun _ => 0) (M 53 0) (M 54 0) (k - 1)).2)] n9) Q := by
    refine loops (GGH_ok (l := l) (ω := ω)) 500 _ ?_
    refine List.forall_mem_cons.mpr ⟨?_, fun _ h => absurd h List.not_mem_nil⟩
    · rintro n9 vs M9 ⟨k, rfl, rfl, k0, fr, h53, h54⟩
      have e9 : M9 9 = M 9 := fr 9 (by decide) (by decide)
      have hP9 : IPpl M9 := by simp (disch := decide) only [IPpl, fr]; exact hP
      have ek : w32 (k + 1) = k + 1 := w32_e (by omega) (by omega)
      have fm : ∀ p, p ≠ 53 → p ≠ 54 → mset (mset M9 53 0 k (-1000000)) 54 0 k 0 p = M p := fun p a b => by rw [ms_q b, ms_q a]; exact fr p a b
      have w53 : mset (mset M9 53 0 k (-1000000)) 54 0 k 0 53 0 = updI (rpA (-1000000) le (sgR (M 50 0) (M 9 0 0)) (fun r => wiR (M 52) (M 9 0 0) r (M 9 0 0)) (fun _ => 0) (M 53 0) (M 54 0) (k - 1)).1 k (-1000000) := by rw [ms_q (by decide), ms_n, h53]
      have w54 : mset (mset M9 53 0 k (-1000000)) 54 0 k 0 54 0 = updI (rpA (-1000000) le (sgR (M 50 0) (M 9 0 0)) (fun r => wiR (M 52) (M 9 0 0) r (M 9 0 0)) (fun _ => 0) (M 53 0) (M 54 0) (k - 1)).2 k 0 := by rw [ms_n, ms_q (by decide), h54]
      have wb : ∀ j, 0 ≤ j → j < k → -1000000 ≤ mset (mset M9 53 0 k (-1000000)) 54 0 k 0 53 0 j ∧ mset (mset M9 53 0 k (-1000000)) 54 0 k 0 53 0 j ≤ 40000 := fun j j0 j1 => by
        rw [w53]
        unfold updI
        rw [if_neg (by omega)]
        have g := rp_all (le := le) (g1 := fun _ => 0) (g2 := fun _ => 0) (W1 := M 53 0) (W2 := M 53 0) (F1 := M 54 0) (F2 := M 54 0) (k := (k - 1).toNat) (m := j.toNat) hP (by omega) (by omega)
        have c1 : (((k - 1).toNat : Nat) : Int) = k - 1 := Int.toNat_of_nonneg (by omega)
        have c2 : ((j.toNat : Nat) : Int) = j := Int.toNat_of_nonneg j0
        unfold GR at g
        rw [c1, c2] at g
        rcases g with ⟨g1, -⟩ | ⟨-, g2, -⟩
        · omega
        · omega
      have tc : k < ((2 : Int) ^ (M 9 0 0).toNat) → (0 : Int) = 0 ∧ (1 ≤ k ∧ k < 512) ∧ k < 2 ^ (mset (mset M9 53 0 k (-1000000)) 54 0 k 0 9 0 0).toNat ∧ IPpl (mset (mset M9 53 0 k (-1000000)) 54 0 k 0) ∧ (∀ j, 0 ≤ j → j < k → -1000000 ≤ mset (mset M9 53 0 k (-1000000)) 54 0 k 0 53 0 j ∧ mset (mset M9 53 0 k (-1000000)) 54 0 k 0 53 0 j ≤ 40000) := fun z => ⟨rfl, by omega, by rw [ms_q (by decide), ms_q (by decide), e9]; exact z, by simp (disch := decide) only [IPpl, fm]; exact hP, wb⟩
      show wpH _ 500 _ 88 _ true 9 [vR 9 0, vI le, vI k] [] _ Q
      conv => whnf
      repeat' first
        | (refine And.intro (fun h => ?_) (fun h => ?_) <;> (try simp (disch := decide) only [cmp3_lt, cmp3_ge, cmp3_gt, cmp3_le, cmp3_eq, ms_q, ms_f, mf_q, mf_f, mc_q, mc_f, and_self, and_true, true_and, and_false, false_and, or_true, true_or, or_false, false_or, if_true, if_false, not_true_eq_false, not_false_eq_true, eq_self, reduceIte, Int.reduceEq, Int.reduceLT, Int.reduceLE, Int.reduceNeg, Int.reduceAdd, Int.reduceSub, Int.reduceMul, Int.add_sub_cancel] at h) <;> (try simp (disch := omega) only [w32_e, w64_e, td_pos, tm_pos, Int.add_sub_cancel, e9, sh_e] at h) <;> first | exact absurd rfl h | exact absurd h (by decide) | (exfalso; omega) | (conv => whnf))
        | (refine And.intro (by first | omega | ((try simp (disch := decide) only [cmp3_lt, cmp3_ge, cmp3_gt, cmp3_le, cmp3_eq, ms_q, ms_f, mf_q, mf_f, mc_q, mc_f, and_self, and_true, true_and, and_false, false_and, or_true, true_or, or_false, false_or, if_true, if_false, not_true_eq_false, not_false_eq_true, eq_self, reduceIte, Int.reduceEq, Int.reduceLT, Int.reduceLE, Int.reduceNeg, Int.reduceAdd, Int.reduceSub, Int.reduceMul, Int.add_sub_cancel]); (try simp (disch := omega) only [w32_e, w64_e, td_pos, tm_pos, Int.add_sub_cancel, e9, sh_e]); first | assumption | omega) | exact tc (by omega) | ((try simp (disch := decide) only [cmp3_lt, cmp3_ge, cmp3_gt, cmp3_le, cmp3_eq, ms_q, ms_f, mf_q, mf_f, mc_q, mc_f, and_self, and_true, true_and, and_false, false_and, or_true, true_or, or_false, false_or, if_true, if_false, not_true_eq_false, not_false_eq_true, eq_self, reduceIte, Int.reduceEq, Int.reduceLT, Int.reduceLE, Int.reduceNeg, Int.reduceAdd, Int.reduceSub, Int.reduceMul, Int.add_sub_cancel]); (try simp (disch := omega) only [w32_e, w64_e, td_pos, tm_pos, Int.add_sub_cancel, e9, sh_e]); ((repeat' (first | assumption | omega | with_reducible rfl | apply And.intro)); done))) ?_; conv => whnf)
        | (intro v; intro hv; conv => whnf)
      all_goals first
        | (have e8 : k = ((2 : Int) ^ (M 9 0 0).toNat) := by omega
           rw [e8] at h53 h54
           refine Eq.mp (congrArg (fun z => Q (some (vI z)) M9) ?_) (hQ M9 ⟨fr, h53, h54⟩)
           rw [← h53]
           first | (rw [if_pos (by assumption)]; done) | (rw [if_neg (by assumption)]; done))
        | (obtain ⟨v0, v1, v2⟩ := hv
           rw [fm 50 (by decide) (by decide), fm 9 (by decide) (by decide), fm 52 (by decide) (by decide)] at v1 v2
           have tp := th_post (x := (-1000000, 0)) (Int.toNat_of_nonneg (show 0 ≤ k by omega)).symm w53 w54 (fun r hr => by
             have q := rp_in (m := k.toNat) (by omega) (by omega) hr
             exact ⟨by omega, q.1⟩) v1 v2
           have ea : k + 1 - 1 = (k - 1) + 1 := by omega
           have eb : (k - 1) + 1 = k := by omega
           have ec : (k - 1).toNat + 1 = k.toNat := by omega
           refine ⟨_, ?_, k + 1, by rw [ek], rfl, ⟨by omega, by omega⟩, fun p a b => (v0 p a b).trans (fm p a b), ?_, ?_⟩
           · omega
           · rw [ea, rpA_s (by omega)]
             unfold rpT rwF
             simp only []
             rw [eb, ec]
             exact tp.1
           · rw [ea, rpA_s (by omega)]
             unfold rpT rwF
             simp only []
             rw [eb, ec]
             exact tp.2)
  refine Vd_run (GGH_ok (l := l) (ω := ω)) 500 (hC := key 5000) (by decide) ?_
  conv => whnf
  repeat' first
    | (refine And.intro (fun h => ?_) (fun h => ?_) <;> (try simp (disch := decide) only [cmp3_lt, cmp3_ge, cmp3_gt, cmp3_le, cmp3_eq, ms_q, ms_f, mf_q, mf_f, mc_q, mc_f, and_self, and_true, true_and, and_false, false_and, or_true, true_or, or_false, false_or, if_true, if_false, not_true_eq_false, not_false_eq_true, eq_self, reduceIte, Int.reduceEq, Int.reduceLT, Int.reduceLE, Int.reduceNeg, Int.reduceAdd, Int.reduceSub, Int.reduceMul, Int.add_sub_cancel] at h) <;> (try simp (disch := omega) only [w32_e, w64_e, td_pos, tm_pos, Int.add_sub_cancel, e9, sh_e] at h) <;> first | exact absurd rfl h | exact absurd h (by decide) | (exfalso; omega) | (conv => whnf))
    | (refine And.intro (by first | omega | ((try simp (disch := decide) only [cmp3_lt, cmp3_ge, cmp3_gt, cmp3_le, cmp3_eq, ms_q, ms_f, mf_q, mf_f, mc_q, mc_f, and_self, and_true, true_and, and_false, false_and, or_true, true_or, or_false, false_or, if_true, if_false, not_true_eq_false, not_false_eq_true, eq_self, reduceIte, Int.reduceEq, Int.reduceLT, Int.reduceLE, Int.reduceNeg, Int.reduceAdd, Int.reduceSub, Int.reduceMul, Int.add_sub_cancel]); (try simp (disch := omega) only [w32_e, w64_e, td_pos, tm_pos, Int.add_sub_cancel, e9, sh_e]); first | assumption | omega) | exact tc (by omega) | ((try simp (disch := decide) only [cmp3_lt, cmp3_ge, cmp3_gt, cmp3_le, cmp3_eq, ms_q, ms_f, mf_q, mf_f, mc_q, mc_f, and_self, and_true, true_and, and_false, false_and, or_true, true_or, or_false, false_or, if_true, if_false, not_true_eq_false, not_false_eq_true, eq_self, reduceIte, Int.reduceEq, Int.reduceLT, Int.reduceLE, Int.reduceNeg, Int.reduceAdd, Int.reduceSub, Int.reduceMul, Int.add_sub_cancel]); (try simp (disch := omega) only [w32_e, w64_e, td_pos, tm_pos, Int.add_sub_cancel, e9, sh_e]); ((repeat' (first | assumption | omega | with_reducible rfl | apply And.intro)); done))) ?_; conv => whnf)
    | (intro v; intro hv; conv => whnf)
  all_goals
    (refine ⟨_, ?_, 1, rfl, rfl, ⟨Int.le_refl _, by omega⟩, fun p a b => by rw [ms_q a], ?_, ?_⟩
     · omega
     · rw [ms_n]
       rfl
     · rw [ms_q (by decide)]
       rfl)

def GLI : List (Nat × Nat × Spec1) := (88, 4, sp_frC) :: GLH
abbrev GGI : Env1 := fun n => getG n GLI
theorem GGI_all {l : Launch} {ω : WP} : ∀ e ∈ GLI, ∀ as M Q, e.2.2 as M Q → Vd l ω e.2.1 e.1 as M Q := List.forall_mem_cons.mpr ⟨ok_frC, GGH_all⟩
theorem GGI_ok {l : Launch} {ω : WP} : GOK l ω GGI := getG_ok GLI GGI_all
theorem al_t : ∀ f : Nat, f < 10 → ∀ g : Nat, g < f → btN (2 ^ f - 1) g = true := by decide +kernel

def sp_cnC : Spec1 := fun as M Q => match as with
  | [.inr (.inr (.inl (q0, i0)))] => match Nat.beq q0 9 with
    | true => (i0 = 0 ∧ IPpl M ∧ (∃ G : Nat → Prop, (∀ m : Nat, (m : Int) < 2 ^ (M 9 0 0).toNat → G m → m = 0 ∨ ∃ r, r ∈ hiL (loN m) m 9 ∧ M 54 0 (m : Int) = (r : Int) ∧ G (m - r)) ∧ G (2 ^ (M 9 0 0).toNat - 1))) ∧ Q (some (vI (cntR (M 54 0) 512 (2 ^ (M 9 0 0).toNat - 1 : Nat)))) M
    | false => False
  | _ => False
theorem ok_cnC {l : Launch} {ω : WP} : ∀ as M Q, sp_cnC as M Q → Vd l ω 2 94 as M Q := by
  intro as M Q h
  unfold sp_cnC at h
  split at h
  case h_2 => exact h.elim
  rename_i q0 i0 
  cases hb : Nat.beq q0 9 with
  | false => rw [hb] at h; exact h.elim
  | true =>
  rw [hb] at h
  obtain ⟨⟨hi, hP, ⟨G, hG, hGa⟩⟩, hQ⟩ := h
  have hb := beq_eq hb
  subst hb
  subst hi
  refine Vd.ok fun hok hal => ?_
  have p9 := hP.2.1
  have pw := pw_in p9.1 p9.2
  have pN : 1 ≤ 2 ^ (M 9 0 0).toNat ∧ 2 ^ (M 9 0 0).toNat ≤ 512 := (by decide : ∀ f : Nat, f < 10 → 1 ≤ 2 ^ f ∧ 2 ^ f ≤ 512) (M 9 0 0).toNat (by omega)
  have pc : (((2 ^ (M 9 0 0).toNat : Nat)) : Int) = (2 : Int) ^ (M 9 0 0).toNat := by norm_cast
  have key : ∀ n9, CutOK l ω 2 94 (cutL [(7, [0, 1, 2], fun kk vs M9 => ∃ c k : Int, vs = [vR 9 0, vI c, vI k] ∧ M = M9 ∧ kk = (1000 - c).toNat ∧ (0 ≤ c ∧ c ≤ 4) ∧ (∃ (m j : Nat), k = (m : Int) ∧ m ≤ (2 ^ (M 9 0 0).toNat - 1 : Nat) ∧ G m ∧ c + cntR (M 54 0) j m = cntR (M 54 0) 512 (2 ^ (M 9 0 0).toNat - 1 : Nat) ∧ c + (j : Int) = 512 ∧ 2 * c + (pcN m : Int) ≤ 9))] n9) Q := by
    refine loops (GGI_ok (l := l) (ω := ω)) 500 _ ?_
    refine List.forall_mem_cons.mpr ⟨?_, fun _ h => absurd h List.not_mem_nil⟩
    · rintro n9 vs M9 ⟨c, k, rfl, rfl, rfl, c0, ⟨m, j, hk, hm, hg, hc, hj, hp⟩⟩
      have gm := hG m (by omega) hg
      have an : ∀ r : Nat, r ∈ hiL (loN m) m 9 → 1 ≤ m → M 54 0 (m : Int) = (r : Int) → (Int32.ofInt k &&& Int32.ofInt ((Int32.ofInt (M 54 0 k) ^^^ Int32.ofInt (-1)).toInt)).toInt = ((m - r : Nat) : Int) := fun r hr h1 e => by
        have q := rp_in (m := m) (by omega) h1 hr
        rw [hk, e, andn_e (by omega) (by omega) (by omega) (by omega), Int.toNat_natCast, Int.toNat_natCast, q.2.2.1]
      have ec : w32 (c + 1) = c + 1 := w32_e (by omega) (by omega)
      show wpH _ 500 _ 94 _ true 7 [vR 9 0, vI c, vI k] [] _ Q
      conv => whnf
      repeat' first
        | (refine And.intro (fun h => ?_) (fun h => ?_) <;> (try simp (disch := decide) only [cmp3_lt, cmp3_ge, cmp3_gt, cmp3_le, cmp3_eq, ms_q, ms_f, mf_q, mf_f, mc_q, mc_f, and_self, and_true, true_and, and_false, false_and, or_true, true_or, or_false, false_or, if_true, if_false, not_true_eq_false, not_false_eq_true, eq_self, reduceIte, Int.reduceEq, Int.reduceLT, Int.reduceLE, Int.reduceNeg, Int.reduceAdd, Int.reduceSub, Int.reduceMul, Int.add_sub_cancel] at h) <;> (try simp (disch := omega) only [w32_e, w64_e, td_pos, tm_pos, Int.add_sub_cancel, sh_e] at h) <;> first | exact absurd rfl h | exact absurd h (by decide) | (exfalso; omega) | (conv => whnf))
        | (refine And.intro (by first | omega | ((try simp (disch := decide) only [cmp3_lt, cmp3_ge, cmp3_gt, cmp3_le, cmp3_eq, ms_q, ms_f, mf_q, mf_f, mc_q, mc_f, and_self, and_true, true_and, and_false, false_and, or_true, true_or, or_false, false_or, if_true, if_false, not_true_eq_false, not_false_eq_true, eq_self, reduceIte, Int.reduceEq, Int.reduceLT, Int.reduceLE, Int.reduceNeg, Int.reduceAdd, Int.reduceSub, Int.reduceMul, Int.add_sub_cancel]); (try simp (disch := omega) only [w32_e, w64_e, td_pos, tm_pos, Int.add_sub_cancel, sh_e]); first | assumption | omega) | ((try simp (disch := decide) only [cmp3_lt, cmp3_ge, cmp3_gt, cmp3_le, cmp3_eq, ms_q, ms_f, mf_q, mf_f, mc_q, mc_f, and_self, and_true, true_and, and_false, false_and, or_true, true_or, or_false, false_or, if_true, if_false, not_true_eq_false, not_false_eq_true, eq_self, reduceIte, Int.reduceEq, Int.reduceLT, Int.reduceLE, Int.reduceNeg, Int.reduceAdd, Int.reduceSub, Int.reduceMul, Int.add_sub_cancel]); (try simp (disch := omega) only [w32_e, w64_e, td_pos, tm_pos, Int.add_sub_cancel, sh_e]); ((repeat' (first | assumption | omega | with_reducible rfl | apply And.intro)); done))) ?_; conv => whnf)
        | (intro v; intro hv; conv => whnf)
      all_goals first
        | (have m0 : m = 0 := by omega
           rw [m0, cntR_0] at hc
           refine Eq.mp (congrArg (fun z => Q (some (vI z)) M) ?_) hQ
           omega)
        | (have m1 : 1 ≤ m := by omega
           rcases gm with z | ⟨r, g1, g2, g3⟩
           · omega
           have q := rp_in (m := m) (by omega) m1 g1
           rw [an r g1 m1 g2]
           obtain ⟨j', ej⟩ : ∃ j', j = j' + 1 := ⟨j - 1, by omega⟩
           rw [ej, cntR_s, if_neg (by omega), g2, Int.toNat_natCast] at hc
           refine ⟨_, ?_, c + 1, _, by rw [ec], rfl, rfl, ⟨by omega, by omega⟩, m - r, j', rfl, by omega, g3, by omega, by omega, by omega⟩
           omega)
  refine Vd_run (GGI_ok (l := l) (ω := ω)) 500 (hC := key 5000) (by decide) ?_
  conv => whnf
  repeat' first
    | (refine And.intro (fun h => ?_) (fun h => ?_) <;> (try simp (disch := decide) only [cmp3_lt, cmp3_ge, cmp3_gt, cmp3_le, cmp3_eq, ms_q, ms_f, mf_q, mf_f, mc_q, mc_f, and_self, and_true, true_and, and_false, false_and, or_true, true_or, or_false, false_or, if_true, if_false, not_true_eq_false, not_false_eq_true, eq_self, reduceIte, Int.reduceEq, Int.reduceLT, Int.reduceLE, Int.reduceNeg, Int.reduceAdd, Int.reduceSub, Int.reduceMul, Int.add_sub_cancel] at h) <;> (try simp (disch := omega) only [w32_e, w64_e, td_pos, tm_pos, Int.add_sub_cancel, sh_e] at h) <;> first | exact absurd rfl h | exact absurd h (by decide) | (exfalso; omega) | (conv => whnf))
    | (refine And.intro (by first | omega | ((try simp (disch := decide) only [cmp3_lt, cmp3_ge, cmp3_gt, cmp3_le, cmp3_eq, ms_q, ms_f, mf_q, mf_f, mc_q, mc_f, and_self, and_true, true_and, and_false, false_and, or_true, true_or, or_false, false_or, if_true, if_false, not_true_eq_false, not_false_eq_true, eq_self, reduceIte, Int.reduceEq, Int.reduceLT, Int.reduceLE, Int.reduceNeg, Int.reduceAdd, Int.reduceSub, Int.reduceMul, Int.add_sub_cancel]); (try simp (disch := omega) only [w32_e, w64_e, td_pos, tm_pos, Int.add_sub_cancel, sh_e]); first | assumption | omega) | ((try simp (disch := decide) only [cmp3_lt, cmp3_ge, cmp3_gt, cmp3_le, cmp3_eq, ms_q, ms_f, mf_q, mf_f, mc_q, mc_f, and_self, and_true, true_and, and_false, false_and, or_true, true_or, or_false, false_or, if_true, if_false, not_true_eq_false, not_false_eq_true, eq_self, reduceIte, Int.reduceEq, Int.reduceLT, Int.reduceLE, Int.reduceNeg, Int.reduceAdd, Int.reduceSub, Int.reduceMul, Int.add_sub_cancel]); (try simp (disch := omega) only [w32_e, w64_e, td_pos, tm_pos, Int.add_sub_cancel, sh_e]); ((repeat' (first | assumption | omega | with_reducible rfl | apply And.intro)); done))) ?_; conv => whnf)
    | (intro v; intro hv; conv => whnf)
  all_goals
    (have ea : w32 ((Int32.ofInt 1 <<< (Int32.ofInt (M 9 0 0) &&& 31)).toInt - 1) = ((2 ^ (M 9 0 0).toNat - 1 : Nat) : Int) := by
       rw [sh_e p9.1 (by omega), w32_e (by omega) (by omega)]
       omega
     refine ⟨_, ?_, 0, _, by rw [ea], rfl, rfl, ⟨Int.le_refl _, by decide⟩, 2 ^ (M 9 0 0).toNat - 1, 512, rfl, Nat.le_refl _, hGa, by omega, rfl, ?_⟩
     · omega
     · have := pc_t (2 ^ (M 9 0 0).toNat - 1) (by omega)
       omega)

def sp_rwC : Spec1 := fun as M Q => match as with
  | [.inr (.inr (.inl (q0, i0))), .inl p0] => match Nat.beq q0 9 with
    | true => (i0 = 0 ∧ IPpl M ∧ (0 ≤ p0 ∧ p0 < M 9 0 0) ∧ (∃ G : Nat → Prop, (∀ m : Nat, (m : Int) < 2 ^ (M 9 0 0).toNat → G m → m = 0 ∨ ∃ r, r ∈ hiL (loN m) m 9 ∧ M 54 0 (m : Int) = (r : Int) ∧ G (m - r)) ∧ G (2 ^ (M 9 0 0).toNat - 1))) ∧ Q (some (vI (rwR (M 54 0) p0.toNat 512 (2 ^ (M 9 0 0).toNat - 1 : Nat)))) M
    | false => False
  | _ => False
theorem ok_rwC {l : Launch} {ω : WP} : ∀ as M Q, sp_rwC as M Q → Vd l ω 2 95 as M Q := by
  intro as M Q h
  unfold sp_rwC at h
  split at h
  case h_2 => exact h.elim
  rename_i q0 i0 p0
  cases hb : Nat.beq q0 9 with
  | false => rw [hb] at h; exact h.elim
  | true =>
  rw [hb] at h
  obtain ⟨⟨hi, hP, h1, ⟨G, hG, hGa⟩⟩, hQ⟩ := h
  have hb := beq_eq hb
  subst hb
  subst hi
  refine Vd.ok fun hok hal => ?_
  have p9 := hP.2.1
  have pw := pw_in p9.1 p9.2
  have pN : 1 ≤ 2 ^ (M 9 0 0).toNat ∧ 2 ^ (M 9 0 0).toNat ≤ 512 := (by decide : ∀ f : Nat, f < 10 → 1 ≤ 2 ^ f ∧ 2 ^ f ≤ 512) (M 9 0 0).toNat (by omega)
  have pc : (((2 ^ (M 9 0 0).toNat : Nat)) : Int) = (2 : Int) ^ (M 9 0 0).toNat := by norm_cast
  have fb := p9
  have key : ∀ n9, CutOK l ω 2 95 (cutL [(7, [0, 1, 2, 3], fun kk vs M9 => ∃ k c : Int, vs = [vR 9 0, vI p0, vI k, vI c] ∧ M = M9 ∧ kk = (1000 - c).toNat ∧ (0 ≤ c ∧ c ≤ 4) ∧ (∃ (m j : Nat), k = (m : Int) ∧ m ≤ (2 ^ (M 9 0 0).toNat - 1 : Nat) ∧ G m ∧ btN m p0.toNat = true ∧ rwR (M 54 0) p0.toNat j m = rwR (M 54 0) p0.toNat 512 (2 ^ (M 9 0 0).toNat - 1 : Nat) ∧ c + (j : Int) = 512 ∧ 2 * c + (pcN m : Int) ≤ 9))] n9) Q := by
    refine loops (GGI_ok (l := l) (ω := ω)) 500 _ ?_
    refine List.forall_mem_cons.mpr ⟨?_, fun _ h => absurd h List.not_mem_nil⟩
    · rintro n9 vs M9 ⟨k, c, rfl, rfl, rfl, c0, ⟨m, j, hk, hm, hg, hb2, hc, hj, hp⟩⟩
      have gm := hG m (by omega) hg
      have an : ∀ r : Nat, r ∈ hiL (loN m) m 9 → 1 ≤ m → M 54 0 (m : Int) = (r : Int) → (Int32.ofInt k &&& Int32.ofInt ((Int32.ofInt (M 54 0 k) ^^^ Int32.ofInt (-1)).toInt)).toInt = ((m - r : Nat) : Int) := fun r hr h1 e => by
        have q := rp_in (m := m) (by omega) h1 hr
        rw [hk, e, andn_e (by omega) (by omega) (by omega) (by omega), Int.toNat_natCast, Int.toNat_natCast, q.2.2.1]
      have ec : w32 (c + 1) = c + 1 := w32_e (by omega) (by omega)
      have m1 : 1 ≤ m := by
        rcases Nat.eq_zero_or_pos m with z | z
        · rw [z] at hb2
          have := bt_1.mp hb2
          have z0 := bit_z ((p0.toNat : Nat) : Int)
          have e0 : ((0 : Nat) : Int) = 0 := rfl
          rw [e0] at this
          omega
        · exact z
      have gm2 : ∃ r, r ∈ hiL (loN m) m 9 ∧ M 54 0 (m : Int) = (r : Int) ∧ G (m - r) := gm.elim (fun z => by omega) (fun z => z)
      obtain ⟨r, g1, g2, g3⟩ := gm2
      clear gm
      have q := rp_in (m := m) (by omega) m1 g1
      have fb : M 54 0 k = (r : Int) := by rw [hk]; exact g2
      have cp : ((p0.toNat : Nat) : Int) = p0 := Int.toNat_of_nonneg h1.1
      have br : bitI (r : Int) p0 = 1 ↔ btN r p0.toNat = true := by rw [bt_1, cp]
      have b01 := bit_01 (r : Int) p0
      obtain ⟨j', ej⟩ : ∃ j', j = j' + 1 := ⟨j - 1, by omega⟩
      have anr := an r g1 m1 g2
      have qp := q.2.2.2.2 p0.toNat (by omega)
      have kb : 0 ≤ k ∧ k < 512 := by omega
      have rb : 0 ≤ (r : Int) ∧ (r : Int) < 512 := by omega
      show wpH _ 500 _ 95 _ true 7 [vR 9 0, vI p0, vI k, vI c] [] _ Q
      conv => whnf
      repeat' first
        | (refine And.intro (fun h => ?_) (fun h => ?_) <;> (try simp (disch := decide) only [cmp3_lt, cmp3_ge, cmp3_gt, cmp3_le, cmp3_eq, ms_q, ms_f, mf_q, mf_f, mc_q, mc_f, and_self, and_true, true_and, and_false, false_and, or_true, true_or, or_false, false_or, if_true, if_false, not_true_eq_false, not_false_eq_true, eq_self, reduceIte, Int.reduceEq, Int.reduceLT, Int.reduceLE, Int.reduceNeg, Int.reduceAdd, Int.reduceSub, Int.reduceMul, Int.add_sub_cancel] at h) <;> (try simp (disch := omega) only [w32_e, w64_e, td_pos, tm_pos, Int.add_sub_cancel, sh_e, bit_e, fb] at h) <;> first | exact absurd rfl h | exact absurd h (by decide) | (exfalso; omega) | (conv => whnf))
        | (refine And.intro (by first | omega | ((try simp (disch := decide) only [cmp3_lt, cmp3_ge, cmp3_gt, cmp3_le, cmp3_eq, ms_q, ms_f, mf_q, mf_f, mc_q, mc_f, and_self, and_true, true_and, and_false, false_and, or_true, true_or, or_false, false_or, if_true, if_false, not_true_eq_false, not_false_eq_true, eq_self, reduceIte, Int.reduceEq, Int.reduceLT, Int.reduceLE, Int.reduceNeg, Int.reduceAdd, Int.reduceSub, Int.reduceMul, Int.add_sub_cancel]); (try simp (disch := omega) only [w32_e, w64_e, td_pos, tm_pos, Int.add_sub_cancel, sh_e, bit_e, fb]); first | assumption | omega) | ((try simp (disch := decide) only [cmp3_lt, cmp3_ge, cmp3_gt, cmp3_le, cmp3_eq, ms_q, ms_f, mf_q, mf_f, mc_q, mc_f, and_self, and_true, true_and, and_false, false_and, or_true, true_or, or_false, false_or, if_true, if_false, not_true_eq_false, not_false_eq_true, eq_self, reduceIte, Int.reduceEq, Int.reduceLT, Int.reduceLE, Int.reduceNeg, Int.reduceAdd, Int.reduceSub, Int.reduceMul, Int.add_sub_cancel]); (try simp (disch := omega) only [w32_e, w64_e, td_pos, tm_pos, Int.add_sub_cancel, sh_e, bit_e, fb]); ((repeat' (first | assumption | omega | with_reducible rfl | apply And.intro)); done))) ?_; conv => whnf)
        | (intro v; intro hv; conv => whnf)
      all_goals first
        | (have b1 : btN r p0.toNat = true := br.mp (by omega)
           rw [ej, rwR_s, g2, Int.toNat_natCast, if_pos b1] at hc
           rw [fb, hc]
           exact hQ)
        | (have b1 : btN r p0.toNat = false := by
             cases hx : btN r p0.toNat with
             | true =>
               have := br.mpr hx
               omega
             | false => rfl
           rw [ej, rwR_s, g2, Int.toNat_natCast, if_neg (by rw [b1]; decide)] at hc
           refine ⟨_, ?_, _, c + 1, by rw [anr, ec], rfl, rfl, ⟨by omega, by omega⟩, m - r, j', rfl, by omega, g3, by rw [qp.2 b1]; exact hb2, hc, by omega, by omega⟩
           omega)
  refine Vd_run (GGI_ok (l := l) (ω := ω)) 500 (hC := key 5000) (by decide) ?_
  conv => whnf
  repeat' first
    | (refine And.intro (fun h => ?_) (fun h => ?_) <;> (try simp (disch := decide) only [cmp3_lt, cmp3_ge, cmp3_gt, cmp3_le, cmp3_eq, ms_q, ms_f, mf_q, mf_f, mc_q, mc_f, and_self, and_true, true_and, and_false, false_and, or_true, true_or, or_false, false_or, if_true, if_false, not_true_eq_false, not_false_eq_true, eq_self, reduceIte, Int.reduceEq, Int.reduceLT, Int.reduceLE, Int.reduceNeg, Int.reduceAdd, Int.reduceSub, Int.reduceMul, Int.add_sub_cancel] at h) <;> (try simp (disch := omega) only [w32_e, w64_e, td_pos, tm_pos, Int.add_sub_cancel, sh_e, bit_e, fb] at h) <;> first | exact absurd rfl h | exact absurd h (by decide) | (exfalso; omega) | (conv => whnf))
    | (refine And.intro (by first | omega | ((try simp (disch := decide) only [cmp3_lt, cmp3_ge, cmp3_gt, cmp3_le, cmp3_eq, ms_q, ms_f, mf_q, mf_f, mc_q, mc_f, and_self, and_true, true_and, and_false, false_and, or_true, true_or, or_false, false_or, if_true, if_false, not_true_eq_false, not_false_eq_true, eq_self, reduceIte, Int.reduceEq, Int.reduceLT, Int.reduceLE, Int.reduceNeg, Int.reduceAdd, Int.reduceSub, Int.reduceMul, Int.add_sub_cancel]); (try simp (disch := omega) only [w32_e, w64_e, td_pos, tm_pos, Int.add_sub_cancel, sh_e, bit_e, fb]); first | assumption | omega) | ((try simp (disch := decide) only [cmp3_lt, cmp3_ge, cmp3_gt, cmp3_le, cmp3_eq, ms_q, ms_f, mf_q, mf_f, mc_q, mc_f, and_self, and_true, true_and, and_false, false_and, or_true, true_or, or_false, false_or, if_true, if_false, not_true_eq_false, not_false_eq_true, eq_self, reduceIte, Int.reduceEq, Int.reduceLT, Int.reduceLE, Int.reduceNeg, Int.reduceAdd, Int.reduceSub, Int.reduceMul, Int.add_sub_cancel]); (try simp (disch := omega) only [w32_e, w64_e, td_pos, tm_pos, Int.add_sub_cancel, sh_e, bit_e, fb]); ((repeat' (first | assumption | omega | with_reducible rfl | apply And.intro)); done))) ?_; conv => whnf)
    | (intro v; intro hv; conv => whnf)
  all_goals
    (have ea : w32 ((Int32.ofInt 1 <<< (Int32.ofInt (M 9 0 0) &&& 31)).toInt - 1) = ((2 ^ (M 9 0 0).toNat - 1 : Nat) : Int) := by
       rw [sh_e p9.1 (by omega), w32_e (by omega) (by omega)]
       omega
     refine ⟨_, ?_, _, 0, by rw [ea], rfl, rfl, ⟨Int.le_refl _, by decide⟩, 2 ^ (M 9 0 0).toNat - 1, 512, rfl, Nat.le_refl _, hGa, ?_, rfl, rfl, ?_⟩
     · omega
     · exact al_t (M 9 0 0).toNat (by omega) p0.toNat (by omega)
     · have := pc_t (2 ^ (M 9 0 0).toNat - 1) (by omega)
       omega)
