/-! ===== go: both sides ===== -/
theorem itI_congr {α : Type} {s1 s2 : Int → α → α} {a : α} : ∀ k : Nat, (∀ j x, 0 ≤ j → j < (k : Int) → s1 j x = s2 j x) → itI s1 a (k : Int) = itI s2 a (k : Int)
  | 0, _ => rfl
  | k + 1, h => by
    have e : ((k + 1 : Nat) : Int) = (k : Int) + 1 := by omega
    rw [e, itI_succ (by omega), itI_succ (by omega), h (k : Int) _ (by omega) (by omega), itI_congr k (fun j x j0 j1 => h j x j0 (by omega))]
theorem oF_congr {T V : Int → Int} {o t : Int} (ht : 0 ≤ t) (h : ∀ j, 0 ≤ j → j < t → V j = T j) : oF V o t = oF T o t := by
  have := itI_congr (s1 := fun j x => orB x (V j)) (s2 := fun j x => orB x (T j)) (a := o) t.toNat (fun j x j0 j1 => by rw [h j j0 (by omega)])
  rw [Int.toNat_of_nonneg ht] at this
  exact this
theorem pF_congr {T V A B : Int → Int} {d n t : Int} (h : ∀ j, 0 ≤ j → j < t → V j = T j) (hT : ∀ j, 0 ≤ j → j < t → 0 ≤ T j ∧ T j < n) (hAB : ∀ g, 0 ≤ g → g < n → A g = B g) : ∀ k : Nat, (k : Int) ≤ t → ∀ g, 0 ≤ g → g < n → pF T d A (k : Int) g = pF V d B (k : Int) g
  | 0, _, g, g0, g1 => hAB g g0 g1
  | k + 1, hk, g, g0, g1 => by
    have e : ((k + 1 : Nat) : Int) = (k : Int) + 1 := by omega
    have q := hT (k : Int) (by omega) (by omega)
    have ih := pF_congr (d := d) h hT hAB k (by omega)
    rw [e, pF_s (by omega), pF_s (by omega), h (k : Int) (by omega) (by omega), ih _ q.1 q.2]
    unfold updI
    split
    · rfl
    · exact ih g g0 g1
theorem LL_nd {T : Int → Int} {L0 : List Int} {n t : Int} (hd : L0.Nodup) (hm : ∀ x, 0 ≤ x → x < n → x ∈ L0) (hm2 : ∀ x, x ∈ L0 → 0 ≤ x ∧ x < n) (hT : ∀ j, 0 ≤ j → j < t → 0 ≤ T j ∧ T j < n) : ∀ k : Nat, (k : Int) ≤ t → (LL T L0 (k : Int)).Nodup ∧ ∀ x, x ∈ LL T L0 (k : Int) → 0 ≤ x ∧ x < n
  | 0, _ => ⟨hd, hm2⟩
  | k + 1, hk => by
    obtain ⟨h1, h2⟩ := LL_nd hd hm hm2 hT k (by omega)
    have e : ((k + 1 : Nat) : Int) = (k : Int) + 1 := by omega
    have q := hT (k : Int) (by omega) (by omega)
    rw [e, LL_s (by omega)]
    refine ⟨?_, fun x hx => ?_⟩
    · refine List.nodup_append.mpr ⟨h1.erase _, List.nodup_cons.mpr ⟨List.not_mem_nil, List.nodup_nil⟩, fun a ha b hb => ?_⟩
      have : b = T (k : Int) := List.mem_singleton.mp hb
      rw [this]
      exact fun z => by
        rw [z] at ha
        exact (h1.not_mem_erase) ha
    · rcases List.mem_append.mp hx with z | z
      · exact h2 x (List.mem_of_mem_erase z)
      · have : x = T (k : Int) := List.mem_singleton.mp z
        rw [this]
        exact q
theorem perm_of {L : List Int} {f : Int → Int} {n : Int} (hn : 0 ≤ n) (hl : L.length = n.toNat) (hd : L.Nodup) (hm : ∀ x, 0 ≤ x → x < n → x ∈ L) (hm2 : ∀ x, x ∈ L → 0 ≤ x ∧ x < n) (hf : ∀ j : Nat, (j : Int) < n → L[j]? = some (f (j : Int))) : IPerm n f := by
  refine ⟨fun i i0 i1 => ?_, fun i j i0 i1 j0 j1 e => ?_, fun g g0 g1 => ?_⟩
  · have := hf i.toNat (by omega)
    rw [Int.toNat_of_nonneg i0] at this
    exact hm2 _ (List.mem_of_getElem? this)
  · have a := hf i.toNat (by omega)
    have b := hf j.toNat (by omega)
    rw [Int.toNat_of_nonneg i0] at a
    rw [Int.toNat_of_nonneg j0] at b
    have := (List.getElem?_inj (i := i.toNat) (j := j.toNat) (by omega) hd).mp (by rw [a, b, e])
    omega
  · obtain ⟨j, j0, j1⟩ := List.mem_iff_getElem.mp (hm g g0 g1)
    refine ⟨(j : Int), by omega, by omega, ?_⟩
    have a := hf j (by omega)
    rw [List.getElem?_eq_getElem j0, j1] at a
    exact (Option.some.inj a).symm

theorem inv_go {c : Int} {M M1 M2 : Mem} {r q p v w : Int} (hc : c < 512) (hI : Inv c M) (h1 : goC M r q p v M1) (h2 : goR M M1 r q p w M2) (hr : 0 ≤ r ∧ r < M 1 0 9) (fr : (∀ p, p ≠ 48 → p ≠ 49 → p ≠ 33 → p ≠ 4 → p ≠ 5 → p ≠ 34 → p ≠ 35 → M1 p = M p)) (f5 : ∀ x f, f ≠ 3 → f ≠ 6 → M1 5 x f = M 5 x f) (f4 : ∀ x f, f ≠ 7 → M1 4 x f = M 4 x f) : w = v ∧ Inv (c + 1) M2 := by
  have hI0 := hI
  obtain ⟨h0, hN, hS, hR, hK, hG, hW, hJ, hT, hA, hP, hO, hH⟩ := hI
  obtain ⟨w1, w2, w3, w4, w5, w6, w7, w8, w9⟩ := id hW
  have n0 : 0 ≤ M 5 0 0 ∧ M 5 0 0 ≤ 8 := hG.2.2.1
  have ai := askA_in (M := M) (r := r) (q := q) (p := p) hA.2.1.1
  have pi := payA_in M r q p
  rcases h1 with ⟨a1, a2, a3⟩ | ⟨a1, a2, a3, a4, a5⟩ | ⟨a1, a2, a3, a4, a5, a6, V, a7, a8, a9, a10, a11⟩
  · rcases h2 with ⟨b1, b2, b3⟩ | ⟨b1, b2⟩ | ⟨b1, b2⟩
    · refine ⟨by omega, inv_turn (fun p a b c d _ _ _ => (b3 p c d).trans (a3 p a b)) (fun x f _ => by rw [b3 4 (by decide) (by decide), a3 4 (by decide) (by decide)]) hc hI0⟩
    · exact absurd b1 a1
    · exact absurd b1 a1
  · rcases h2 with ⟨b1, b2⟩ | ⟨b1, b2, b3, b4⟩ | ⟨b1, b2, b3⟩
    · exact absurd a1 b1
    · refine ⟨by omega, inv_turn (fun p a b c d e f g => (b4 p c d g).trans (a4 p a b e f)) (fun x f z => by rw [b4 4 (by decide) (by decide) (by decide)]; exact a5 x f z) hc hI0⟩
    · exact absurd b2 a2
  · rcases h2 with ⟨b1, b2⟩ | ⟨b1, b2, b3⟩ | ⟨b1, b2, b3, b4, b5, ⟨b6, b7, b8⟩, b9⟩
    · exact absurd a1 b1
    · exact absurd a2 b2
    refine ⟨by omega, ?_⟩
    have tel := tnA_el (a := askA M r q p) (nd := ghd M r (M 21 0 r)) w2 (M 5 0 0).toNat (by omega)
    rw [Int.toNat_of_nonneg n0.1, a2] at tel
    have gr := go_row (M := M) (a := askA M r q p) (nd := ghd M r (M 21 0 r)) (n := M 5 0 0) (V := V 33 0) (f := M1 34 0) (by omega) n0.1 w2 (by rw [a2]; exact a7) (by rw [a2]; exact a11)
    rw [a2] at gr
    generalize hA1 : askA M r q p = A at *
    generalize hP1 : payA M r q p = P at *
    generalize hT1 : (tnA M A (ghd M r (M 21 0 r)) (M 5 0 0)).2 = T at *
    generalize hN1 : M 5 0 0 = N at *
    have eA : ((A.toNat : Nat) : Int) = A := Int.toNat_of_nonneg (by omega)
    have e33 : rowL (V 33 0) A.toNat = rowL T A.toNat := rowL_congr (fun k hk => a7 (k : Int) (by omega) (by omega))
    have e89 : rowL (M1 89 0) N.toNat = rowL (M 34 0) N.toNat := rowL_congr (fun k hk => by rw [fr 89 (by decide) (by decide) (by decide) (by decide) (by decide) (by decide) (by decide)]; exact w1 (k : Int) (by omega) (by omega))
    have lf := LL_fold (T := T) (L0 := rowL (M 34 0) N.toNat) A.toNat
    rw [eA] at lf
    rw [e33, ← lf] at gr
    rw [e89, ← gr] at b9
    have nd0 : (rowL (M 34 0) N.toNat).Nodup := rowL_nodup (fun i j hi hj z => by
      have := w2.2.1 (i : Int) (j : Int) (by omega) (by omega) (by omega) (by omega) z
      omega)
    have m0 : ∀ x, 0 ≤ x → x < N → x ∈ rowL (M 34 0) N.toNat := fun x x0 x1 => by
      obtain ⟨y, y0, y1, y2⟩ := w2.2.2 x x0 x1
      exact rowL_mem.mpr ⟨y.toNat, by omega, by rw [Int.toNat_of_nonneg y0]; exact y2⟩
    have m1 : ∀ x, x ∈ rowL (M 34 0) N.toNat → 0 ≤ x ∧ x < N := fun x hx => by
      obtain ⟨k, k1, k2⟩ := rowL_mem.mp hx
      rw [← k2]
      exact w2.1 (k : Int) (by omega) (by omega)
    have ln := LL_nd nd0 m0 m1 tel A.toNat (by omega)
    have li := LL_in (T := T) (L0 := rowL (M 34 0) N.toNat) (c := N.toNat) rowL_len m0 tel A.toNat (by omega)
    rw [eA, ← gr] at ln li
    have e34 : M2 34 = M1 34 := b4 34 (by decide) (by decide) (by decide) (by decide) (by decide) (by decide) (by decide)
    have e5 : M2 5 = M1 5 := b4 5 (by decide) (by decide) (by decide) (by decide) (by decide) (by decide) (by decide)
    have ob := out_bits (A := M 86 0) n0 (o := M 5 0 3) w5 w6 tel A.toNat (by omega)
    rw [eA] at ob
    have oc := oF_congr (o := M 5 0 3) (t := A) (T := T) (V := V 33 0) (by omega) a7
    have pc := pF_congr (T := T) (V := V 33 0) (A := M1 87 0) (B := M 35 0) (d := P / A - P / A / 10) (n := N) a7 tel (fun g g0 g1 => by rw [fr 87 (by decide) (by decide) (by decide) (by decide) (by decide) (by decide) (by decide)]; exact (w7 g g0 g1).1) A.toNat (by omega)
    rw [eA] at pc
    have x1 : 0 ≤ P / A := Int.ediv_nonneg pi.1 (by omega)
    have x2 : A * (P / A) ≤ P := Int.mul_ediv_self_le (by omega)
    have x3 : 10 * (A * (P / A / 10)) ≤ A * (P / A) := by
      have y : 10 * (P / A / 10) ≤ P / A := by omega
      have z := Int.mul_le_mul_of_nonneg_left y (show 0 ≤ A by omega)
      rw [show 10 * (A * (P / A / 10)) = A * (10 * (P / A / 10)) from Int.mul_left_comm 10 A (P / A / 10)]
      exact z
    have x4 : 0 ≤ A * (P / A / 10) := Int.mul_nonneg (by omega) (by omega)
    have nw : INow (c + 1) M2 := by
      unfold INow
      rw [e34, e5, f5 0 0 (by decide) (by decide), hN1, f5 0 2 (by decide) (by decide), a8, oc, b5 0 25 (by decide), fr 13 (by decide) (by decide) (by decide) (by decide) (by decide) (by decide) (by decide), b6, fr 13 (by decide) (by decide) (by decide) (by decide) (by decide) (by decide) (by decide), a9, b4 35 (by decide) (by decide) (by decide) (by decide) (by decide) (by decide) (by decide), b4 88 (by decide) (by decide) (by decide) (by decide) (by decide) (by decide) (by decide), b4 36 (by decide) (by decide) (by decide) (by decide) (by decide) (by decide) (by decide), fr 88 (by decide) (by decide) (by decide) (by decide) (by decide) (by decide) (by decide), fr 36 (by decide) (by decide) (by decide) (by decide) (by decide) (by decide) (by decide), ← w8]
      refine ⟨fun i i0 i1 => ?_, ?_, w3, w4, ob.1, fun g g0 g1 => ?_, fun g g0 g1 => ⟨?_, (w7 g g0 g1).2⟩, rfl, by omega⟩
      · have := b9 i.toNat (by omega)
        rw [rowL_get (by omega), Int.toNat_of_nonneg i0] at this
        exact (Option.some.inj this).symm
      · exact perm_of n0.1 li.1 ln.1 li.2 ln.2 (fun j hj => rowL_get (by omega))
      · rw [b8]
        have := ob.2 g g0 g1
        rw [fr 86 (by decide) (by decide) (by decide) (by decide) (by decide) (by decide) (by decide)]
        exact this
      · rw [b7, a10]
        exact pc g g0 g1
    have f13 : ∀ x f, f ≠ 26 → M2 13 x f = M 13 x f := fun x f z => by rw [b5 x f z, fr 13 (by decide) (by decide) (by decide) (by decide) (by decide) (by decide) (by decide)]
    have g5 : ∀ x f, f ≠ 3 → f ≠ 6 → M2 5 x f = M 5 x f := fun x f y z => by rw [e5]; exact f5 x f y z
    have g4 : ∀ x f, f ≠ 7 → M2 4 x f = M 4 x f := fun x f z => by rw [b4 4 (by decide) (by decide) (by decide) (by decide) (by decide) (by decide) (by decide)]; exact f4 x f z
    have g : ∀ p, p ≠ 4 → p ≠ 5 → p ≠ 13 → p ≠ 33 → p ≠ 34 → p ≠ 35 → p ≠ 48 → p ≠ 49 → p ≠ 86 → p ≠ 87 → p ≠ 89 → p ≠ 98 → p ≠ 99 → p ≠ 100 → M2 p = M p := fun p a b c d e f g h i j k l m n => (b4 p c i j k l m n).trans (fr p g h d a b e f)
    subst hN1
    refine ⟨by omega, ?_, ?_, ?_, ?_, ?_, nw, ?_, ?_, ?_, ?_, ?_, ?_⟩
    · simp (disch := decide) only [INet, g, f13]; exact hN
    · simp (disch := decide) only [IStp, g, f13]; exact hS
    · simp (disch := decide) only [IRou, g, f13]; exact hR
    · simp (disch := decide) only [ISky, g, f13]; exact hK
    · simp (disch := decide) only [IGui, g, f13, g5]; exact hG
    · have q := hJ.next
      simp (disch := decide) only [IImg, g, f13, g5, g4] at q ⊢
      exact q
    · simp (disch := decide) only [ITap, g, f13]; exact hT
    · simp (disch := decide) only [ISta, g, f13]; exact hA
    · simp (disch := decide) only [IPpl, g, f13]; exact hP
    · simp (disch := decide) only [IRop, g, f13]; exact hO
    · simp (disch := decide) only [IHrs, g, f13, g5]; exact hH

theorem pair_go {l : Launch} {ω : WP} {c : Int} {M : Mem} {r : Int} {q : Int} {p : Int} (hr : in32 r) (hq : in32 q) (hp : in32 p)  (hc : c < 512) (hI : Inv c M) : Vd l ω 9 136 [vR 0 0, vI r, vI q, vI p] M (PQ1 l ω c 228 [vI r, vI q, vI p]) := by
  have hI0 := hI
  obtain ⟨h0, hN, hS, hR, hK, hG, hW, hJ, hT, hA, hP, hO, hH⟩ := hI
  have b1 := hN.1
  have b2 := hN.2.2.1
  have b3 := hS.1
  have b4 := hS.2.2.1
  have b5 := hR.1
  have b6 := hR.2.2.2.1
  have b7 := hG.1
  have b8 := hG.2.2.1
  have b9 := hA.1
  obtain ⟨w1, w2, w3, w4, w5, w6, w7, w8, w9⟩ := id hW
  have o3 : 0 ≤ M 5 0 3 ∧ M 5 0 3 < 512 := by
    have := pw_in b8.1 (show M 5 0 0 ≤ 9 by omega)
    omega
  by_cases hg : (0 ≤ r ∧ r < M 1 0 9) ∧ (0 ≤ q ∧ q ≤ 95) ∧ (1 ≤ p ∧ p ≤ 9)
  · refine ok_goCs _ _ _ ⟨⟨rfl, hg.1, hg.2.1, hg.2.2, hR, hS, hK, hA, w4, w3, hG, w2, o3, w1, w6, by omega⟩, fun v M1 hgo => ⟨0, _, rfl, ?_⟩⟩
    have fr : (∀ p, p ≠ 48 → p ≠ 49 → p ≠ 33 → p ≠ 4 → p ≠ 5 → p ≠ 34 → p ≠ 35 → M1 p = M p) := by
      intro p a b c d e f g
      rcases hgo with ⟨_, _, z⟩ | ⟨_, _, _, z, _⟩ | ⟨_, _, _, z, _⟩
      · exact z p a b
      · exact z p a b c d
      · exact z p a b c d e f g
    have f5 : ∀ x f, f ≠ 3 → f ≠ 6 → M1 5 x f = M 5 x f := by
      intro x f a b
      rcases hgo with ⟨_, _, z⟩ | ⟨_, _, _, z, _⟩ | ⟨_, _, _, _, _, z, _⟩
      · rw [z 5 (by decide) (by decide)]
      · rw [z 5 (by decide) (by decide) (by decide) (by decide)]
      · exact z x f a b
    have f4 : ∀ x f, f ≠ 7 → M1 4 x f = M 4 x f := by
      intro x f a
      rcases hgo with ⟨_, _, z⟩ | ⟨_, _, _, _, z⟩ | ⟨_, _, _, _, z, _⟩
      · rw [z 4 (by decide) (by decide)]
      · exact z x f a
      · exact z x f a
    have r9 : IRou M1 := by simp (disch := decide) only [IRou, fr]; exact hR
    have s9 : IStp M1 := by simp (disch := decide) only [IStp, fr]; exact hS
    have k9 : ISky M1 := by simp (disch := decide) only [ISky, fr]; exact hK
    have a9 : ISta M1 := by simp (disch := decide) only [ISta, fr]; exact hA
    have e2 : M1 5 0 2 = M 5 0 2 := f5 0 2 (by decide) (by decide)
    have ev : vrs M1 = vrs M := by
      funext r q p j
      unfold vrs wv ghd shd sln
      simp (disch := decide) only [fr, f5]
    refine ok_goR (M0 := M) (by rw [fr 1 (by decide) (by decide) (by decide) (by decide) (by decide) (by decide) (by decide)]; exact hg.1) hg.2.1 hg.2.2 r9 s9 k9 a9 (by rw [e2]; exact w4) (by rw [fr 13 (by decide) (by decide) (by decide) (by decide) (by decide) (by decide) (by decide)]; exact w3) e2 ⟨by rw [fr 13 (by decide) (by decide) (by decide) (by decide) (by decide) (by decide) (by decide)]; exact hG.1, by rw [fr 83 (by decide) (by decide) (by decide) (by decide) (by decide) (by decide) (by decide)]; exact hG.2.1.1, by rw [fr 85 (by decide) (by decide) (by decide) (by decide) (by decide) (by decide) (by decide)]; exact hG.2.1.2.2, hG.2.2.1⟩ w2 (by rw [fr 89 (by decide) (by decide) (by decide) (by decide) (by decide) (by decide) (by decide)]; exact w1) (by rw [fr 86 (by decide) (by decide) (by decide) (by decide) (by decide) (by decide) (by decide)]; exact w6) (by rw [ev]) (wkL_mem (fr 45 (by decide) (by decide) (by decide) (by decide) (by decide) (by decide) (by decide)) (fr 47 (by decide) (by decide) (by decide) (by decide) (by decide) (by decide) (by decide))) ⟨fr 46 (by decide) (by decide) (by decide) (by decide) (by decide) (by decide) (by decide), fr 8 (by decide) (by decide) (by decide) (by decide) (by decide) (by decide) (by decide)⟩ (by rw [fr 13 (by decide) (by decide) (by decide) (by decide) (by decide) (by decide) (by decide), w8]; omega) (fun w M2 hR2 => ?_)
    have fin := inv_go hc hI0 hgo hR2 hg.1 fr f5 f4
    exact ⟨0, by rw [fin.1], fin.2⟩
  refine Vd_run (GGr_ok (l := l) (ω := ω)) 400 (cut := fun _ => none) (by decide) CutOK_none ?_
  conv => whnf
  repeat' first
    | (refine And.intro (fun h => ?_) (fun h => ?_) <;> (try simp (disch := decide) only [cmp3_lt, cmp3_ge, cmp3_gt, cmp3_le, cmp3_eq, ms_q, ms_f, mf_q, mf_f, mc_q, mc_f, and_self, and_true, true_and, and_false, false_and, or_true, true_or, or_false, false_or, if_true, if_false, not_true_eq_false, not_false_eq_true, eq_self, reduceIte, Int.reduceEq, Int.reduceLT, Int.reduceLE, Int.reduceNeg, Int.reduceAdd, Int.reduceSub, Int.reduceMul, Int.add_sub_cancel] at h) <;> (try simp (disch := omega) only [w32_e, w64_e, td_pos, tm_pos, Int.add_sub_cancel] at h) <;> first | exact absurd rfl h | exact absurd h (by decide) | (exfalso; omega) | (conv => whnf))
    | (refine And.intro (by first | omega | ((try simp (disch := decide) only [cmp3_lt, cmp3_ge, cmp3_gt, cmp3_le, cmp3_eq, ms_q, ms_f, mf_q, mf_f, mc_q, mc_f, and_self, and_true, true_and, and_false, false_and, or_true, true_or, or_false, false_or, if_true, if_false, not_true_eq_false, not_false_eq_true, eq_self, reduceIte, Int.reduceEq, Int.reduceLT, Int.reduceLE, Int.reduceNeg, Int.reduceAdd, Int.reduceSub, Int.reduceMul, Int.add_sub_cancel]); (try simp (disch := omega) only [w32_e, w64_e, td_pos, tm_pos, Int.add_sub_cancel]); first | assumption | omega) | ((try simp (disch := decide) only [cmp3_lt, cmp3_ge, cmp3_gt, cmp3_le, cmp3_eq, ms_q, ms_f, mf_q, mf_f, mc_q, mc_f, and_self, and_true, true_and, and_false, false_and, or_true, true_or, or_false, false_or, if_true, if_false, not_true_eq_false, not_false_eq_true, eq_self, reduceIte, Int.reduceEq, Int.reduceLT, Int.reduceLE, Int.reduceNeg, Int.reduceAdd, Int.reduceSub, Int.reduceMul, Int.add_sub_cancel]); (try simp (disch := omega) only [w32_e, w64_e, td_pos, tm_pos, Int.add_sub_cancel]); ((repeat' (first | assumption | omega | with_reducible rfl | apply And.intro)); done))) ?_; conv => whnf)
    | (intro v; intro hv; conv => whnf)
  all_goals refine ⟨0, _, rfl, ?_⟩
  all_goals refine Vd_run (GGr_ok (l := l) (ω := ω)) 400 (cut := fun _ => none) (by decide) CutOK_none ?_
  all_goals conv => whnf
  all_goals repeat' first
    | (refine And.intro (fun h => ?_) (fun h => ?_) <;> (try simp (disch := decide) only [cmp3_lt, cmp3_ge, cmp3_gt, cmp3_le, cmp3_eq, ms_q, ms_f, mf_q, mf_f, mc_q, mc_f, and_self, and_true, true_and, and_false, false_and, or_true, true_or, or_false, false_or, if_true, if_false, not_true_eq_false, not_false_eq_true, eq_self, reduceIte, Int.reduceEq, Int.reduceLT, Int.reduceLE, Int.reduceNeg, Int.reduceAdd, Int.reduceSub, Int.reduceMul, Int.add_sub_cancel] at h) <;> (try simp (disch := omega) only [w32_e, w64_e, td_pos, tm_pos, Int.add_sub_cancel] at h) <;> first | exact absurd rfl h | exact absurd h (by decide) | (exfalso; omega) | (conv => whnf))
    | (refine And.intro (by first | omega | ((try simp (disch := decide) only [cmp3_lt, cmp3_ge, cmp3_gt, cmp3_le, cmp3_eq, ms_q, ms_f, mf_q, mf_f, mc_q, mc_f, and_self, and_true, true_and, and_false, false_and, or_true, true_or, or_false, false_or, if_true, if_false, not_true_eq_false, not_false_eq_true, eq_self, reduceIte, Int.reduceEq, Int.reduceLT, Int.reduceLE, Int.reduceNeg, Int.reduceAdd, Int.reduceSub, Int.reduceMul, Int.add_sub_cancel]); (try simp (disch := omega) only [w32_e, w64_e, td_pos, tm_pos, Int.add_sub_cancel]); first | assumption | omega) | ((try simp (disch := decide) only [cmp3_lt, cmp3_ge, cmp3_gt, cmp3_le, cmp3_eq, ms_q, ms_f, mf_q, mf_f, mc_q, mc_f, and_self, and_true, true_and, and_false, false_and, or_true, true_or, or_false, false_or, if_true, if_false, not_true_eq_false, not_false_eq_true, eq_self, reduceIte, Int.reduceEq, Int.reduceLT, Int.reduceLE, Int.reduceNeg, Int.reduceAdd, Int.reduceSub, Int.reduceMul, Int.add_sub_cancel]); (try simp (disch := omega) only [w32_e, w64_e, td_pos, tm_pos, Int.add_sub_cancel]); ((repeat' (first | assumption | omega | with_reducible rfl | apply And.intro)); done))) ?_; conv => whnf)
    | (intro v; intro hv; conv => whnf)
  all_goals refine ⟨0, ?_, ?_⟩
  all_goals ((try simp (disch := decide) only [cmp3_lt, cmp3_ge, cmp3_gt, cmp3_le, cmp3_eq, ms_q, ms_f, mf_q, mf_f, mc_q, mc_f, and_self, and_true, true_and, and_false, false_and, or_true, true_or, or_false, false_or, if_true, if_false, not_true_eq_false, not_false_eq_true, eq_self, reduceIte, Int.reduceEq, Int.reduceLT, Int.reduceLE, Int.reduceNeg, Int.reduceAdd, Int.reduceSub, Int.reduceMul, Int.add_sub_cancel] at *); (try simp (disch := omega) only [w32_e, w64_e, td_pos, tm_pos, Int.add_sub_cancel] at *))
  all_goals first
    | exact Inv.next hc hI0
    | exact congrArg (fun z => some (vI z)) (by omega)
    | exact congrArg (fun z => some (vL z)) (by omega)
    | (exfalso; omega)
    | skip
