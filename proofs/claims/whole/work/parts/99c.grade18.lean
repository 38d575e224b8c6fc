/-! ===== the pairs grade and over (wip/gen/p55.py) ===== -/
def GLR : List (Nat × Nat × Spec1) := (254, 4, sp_fgM) :: GLQ
abbrev GGR : Env1 := fun n => getG n GLR
theorem GGR_all {l : Launch} {ω : WP} : ∀ e ∈ GLR, ∀ as M Q, e.2.2 as M Q → Vd l ω e.2.1 e.1 as M Q := List.forall_mem_cons.mpr ⟨ok_fgM, GGQ_all⟩
theorem GGR_ok {l : Launch} {ω : WP} : GOK l ω GGR := getG_ok GLR GGR_all

abbrev PS (M v : Mem) : Prop := (∀ p, p ≠ 12 → p ≠ 64 → p ≠ 65 → p ≠ 67 → p ≠ 68 → v p = M p) ∧ (∀ j, j ≠ 6 → j ≠ 9 → v 12 0 j = M 12 0 j) ∧ v 64 0 = (lbC (M 61 0) (M 62 0) (M 12 0 0) (zF (M 64 0) 14)) ∧ SolC (M 61 0) (M 62 0) (M 63 0) (lbC (M 61 0) (M 62 0) (M 12 0 0) (zF (M 64 0) 14)) (v 68 0) (M 12 0 0) (v 12 0 9)
abbrev PF (v w : Mem) : Prop := (∀ p, p ≠ 126 → w p = v p) ∧ w 126 0 = lbM (v 61 0) (v 62 0) (v 12 0 0) (zF (v 126 0) 14)
abbrev PG (v w : Mem) (k : Int) : Prop := (∀ p, p ≠ 13 → p ≠ 126 → p ≠ 127 → p ≠ 128 → p ≠ 129 → w p = v p) ∧ (∀ j, j ≠ 81 → j ≠ 82 → w 13 0 j = v 13 0 j) ∧ w 13 0 81 = (v 68 0 k).tdiv ((Int.gcd (v 68 0 k) (v 12 0 9) : Nat) : Int) ∧ w 13 0 82 = (v 12 0 9).tdiv ((Int.gcd (v 68 0 k) (v 12 0 9) : Nat) : Int)
theorem hrs_f {M v : Mem} (hH : IHrs M) (f : ∀ p, p = 61 ∨ p = 62 ∨ p = 63 ∨ p = 123 ∨ p = 124 ∨ p = 125 ∨ p = 1 ∨ p = 5 → v p = M p) (h1 : v 13 0 73 = M 13 0 73) (h2 : v 12 0 0 = M 12 0 0) : IHrs v := by
  unfold IHrs at *
  rw [h1, h2, f 61 (by decide), f 62 (by decide), f 63 (by decide), f 123 (by decide), f 124 (by decide), f 125 (by decide), f 1 (by decide), f 5 (by decide)]
  exact hH
theorem gr_1 {M v : Mem} (h : PS M v) (hH : IHrs M) (hab : AB (M 61 0) (M 62 0) (M 12 0 0)) : IHrs v ∧ AB (v 61 0) (v 62 0) (v 12 0 0) ∧ (0 ≤ v 12 0 0 ∧ v 12 0 0 ≤ 14) := by
  obtain ⟨f, fj, -, -⟩ := h
  have e0 : v 12 0 0 = M 12 0 0 := fj 0 (by decide) (by decide)
  refine ⟨hrs_f hH (fun p hp => f p (by omega) (by omega) (by omega) (by omega) (by omega)) (by rw [f 13 (by decide) (by decide) (by decide) (by decide) (by decide)]) e0, ?_, ?_⟩
  · rw [e0, f 61 (by decide) (by decide) (by decide) (by decide) (by decide), f 62 (by decide) (by decide) (by decide) (by decide) (by decide)]
    exact hab
  · rw [e0]
    exact hab.1
theorem grd_0 {M v w : Mem} {k : Int} (h : PS M v) (hf : PF v w) (hab : AB (M 61 0) (M 62 0) (M 12 0 0)) (k0 : 0 ≤ k) (k1 : k < 14) : (v 64 0 k = -4 ∧ w 126 0 k = -4) ∨ (¬ v 64 0 k = -4 ∧ ¬ w 126 0 k = -4 ∧ En (M 61 0) (M 62 0) (M 12 0 0) k) := by
  obtain ⟨f, fj, h64, -⟩ := h
  obtain ⟨-, g⟩ := hf
  rw [h64, g, fj 0 (by decide) (by decide), f 61 (by decide) (by decide) (by decide) (by decide) (by decide), f 62 (by decide) (by decide) (by decide) (by decide) (by decide)]
  rcases lb_all hab (zF_14 (L := M 64 0)) (zF_14 (L := v 126 0)) k k0 k1 with l | ⟨en, l, l1, -⟩
  · exact Or.inl ⟨l.1, l.2.1⟩
  · exact Or.inr ⟨by omega, by omega, en⟩
theorem gr_3 {M v : Mem} {k : Int} (h : PS M v) (hH : IHrs M) (hab : AB (M 61 0) (M 62 0) (M 12 0 0)) (k0 : 0 ≤ k) (k1 : k < 14) (en : En (M 61 0) (M 62 0) (M 12 0 0) k) : ((0 ≤ k ∧ k < 14) ∧ IHrs v ∧ AB (v 61 0) (v 62 0) (v 12 0 0) ∧ En (v 61 0) (v 62 0) (v 12 0 0) k ∧ ∃ Z : Int → Int, (∀ k, 0 ≤ k → k < 14 → Z k = -4) ∧ SolC (v 61 0) (v 62 0) (v 63 0) (lbC (v 61 0) (v 62 0) (v 12 0 0) Z) (v 68 0) (v 12 0 0) (v 12 0 9)) := by
  have g := gr_1 h hH hab
  obtain ⟨f, fj, -, S⟩ := h
  have e0 : v 12 0 0 = M 12 0 0 := fj 0 (by decide) (by decide)
  have e1 : v 61 = M 61 := f 61 (by decide) (by decide) (by decide) (by decide) (by decide)
  have e2 : v 62 = M 62 := f 62 (by decide) (by decide) (by decide) (by decide) (by decide)
  have e3 : v 63 = M 63 := f 63 (by decide) (by decide) (by decide) (by decide) (by decide)
  refine ⟨⟨k0, k1⟩, g.1, g.2.1, ?_, zF (M 64 0) 14, zF_14, ?_⟩
  · rw [e0, e1, e2]; exact en
  · rw [e0, e1, e2, e3]; exact S
theorem gr_4 {v w : Mem} {k : Int} (h : ((0 ≤ k ∧ k < 14) ∧ IHrs v ∧ AB (v 61 0) (v 62 0) (v 12 0 0) ∧ En (v 61 0) (v 62 0) (v 12 0 0) k ∧ ∃ Z : Int → Int, (∀ k, 0 ≤ k → k < 14 → Z k = -4) ∧ SolC (v 61 0) (v 62 0) (v 63 0) (lbC (v 61 0) (v 62 0) (v 12 0 0) Z) (v 68 0) (v 12 0 0) (v 12 0 9))) (f : ∀ p, p ≠ 13 → p ≠ 126 → p ≠ 127 → p ≠ 128 → p ≠ 129 → w p = v p) (fj : w 13 0 73 = v 13 0 73) : ((0 ≤ k ∧ k < 14) ∧ IHrs w ∧ AB (w 61 0) (w 62 0) (w 12 0 0) ∧ En (w 61 0) (w 62 0) (w 12 0 0) k ∧ ∃ Z : Int → Int, (∀ k, 0 ≤ k → k < 14 → Z k = -4) ∧ SolC (w 61 0) (w 62 0) (w 63 0) (lbC (w 61 0) (w 62 0) (w 12 0 0) Z) (w 68 0) (w 12 0 0) (w 12 0 9)) := by
  obtain ⟨kk, hH, hab, en, Z, hZ, S⟩ := h
  have e0 : w 12 = v 12 := f 12 (by decide) (by decide) (by decide) (by decide) (by decide)
  have e1 : w 61 = v 61 := f 61 (by decide) (by decide) (by decide) (by decide) (by decide)
  have e2 : w 62 = v 62 := f 62 (by decide) (by decide) (by decide) (by decide) (by decide)
  have e3 : w 63 = v 63 := f 63 (by decide) (by decide) (by decide) (by decide) (by decide)
  have e8 : w 68 = v 68 := f 68 (by decide) (by decide) (by decide) (by decide) (by decide)
  refine ⟨kk, hrs_f hH (fun p hp => f p (by omega) (by omega) (by omega) (by omega) (by omega)) fj (by rw [e0]), ?_, ?_, Z, hZ, ?_⟩
  · rw [e0, e1, e2]; exact hab
  · rw [e0, e1, e2]; exact en
  · rw [e0, e1, e2, e3, e8]; exact S
theorem gr_2 {M v w : Mem} {k : Int} (h : PS M v) (hf : PF v w) (hH : IHrs M) (hab : AB (M 61 0) (M 62 0) (M 12 0 0)) (k0 : 0 ≤ k) (k1 : k < 14) (ne : ¬ w 126 0 k = -4) : ((0 ≤ k ∧ k < 14) ∧ IHrs w ∧ AB (w 61 0) (w 62 0) (w 12 0 0) ∧ En (w 61 0) (w 62 0) (w 12 0 0) k ∧ ∃ Z : Int → Int, (∀ k, 0 ≤ k → k < 14 → Z k = -4) ∧ SolC (w 61 0) (w 62 0) (w 63 0) (lbC (w 61 0) (w 62 0) (w 12 0 0) Z) (w 68 0) (w 12 0 0) (w 12 0 9)) := by
  have en := ((grd_0 h hf hab k0 k1).resolve_left (fun z => ne z.2)).2.2
  exact gr_4 (gr_3 h hH hab k0 k1 en) (fun p a b c d e => hf.1 p b) (by rw [hf.1 13 (by decide)])
theorem bd_18 {x : Int} (h : -2234400000 ≤ x ∧ x ≤ 2234400000) : -1000000000000000000 ≤ x ∧ x ≤ 1000000000000000000 := by omega
theorem ov_eq {F1 F2 B q a b s u : Int} (hB : 1 ≤ B ∧ B ≤ 30000) (hF1 : -2234400000 ≤ F1 ∧ F1 ≤ 2234400000) (hF2 : -2234400000 ≤ F2 ∧ F2 ≤ 2234400000) (hq : 1 ≤ q ∧ q ≤ 95) (ha : a = F1.tdiv ((Int.gcd F1 B : Nat) : Int)) (hb : b = B.tdiv ((Int.gcd F1 B : Nat) : Int)) (hs : s = F2.tdiv ((Int.gcd F2 B : Nat) : Int)) (hu : u = B.tdiv ((Int.gcd F2 B : Nat) : Int)) :
    (w64 (w64 (w64 (w64 (q * b) * u) - w64 (a * u)) - w64 (s * b)) = q * b * u - a * u - s * b ∧ w64 (b * u) = b * u) ∧ ((-1000000000000000000 ≤ q * b * u - a * u - s * b ∧ q * b * u - a * u - s * b ≤ 1000000000000000000) ∧ (1 ≤ b * u ∧ b * u ≤ 1000000000000000000)) ∧ (q * b * u - a * u - s * b).tdiv ((Int.gcd (q * b * u - a * u - s * b) (b * u) : Nat) : Int) = (q * B - F1 - F2).tdiv ((Int.gcd (q * B - F1 - F2) B : Nat) : Int) ∧ (b * u).tdiv ((Int.gcd (q * b * u - a * u - s * b) (b * u) : Nat) : Int) = B.tdiv ((Int.gcd (q * B - F1 - F2) B : Nat) : Int) := by
  have g1 : 0 < Int.gcd F1 B := Int.gcd_pos_of_ne_zero_right _ (by omega)
  have g2 : 0 < Int.gcd F2 B := Int.gcd_pos_of_ne_zero_right _ (by omega)
  have x1 : ((Int.gcd F1 B : Nat) : Int) * a = F1 := by rw [ha]; exact Int.mul_tdiv_cancel' (Int.gcd_dvd_left ..)
  have x2 : ((Int.gcd F1 B : Nat) : Int) * b = B := by rw [hb]; exact Int.mul_tdiv_cancel' (Int.gcd_dvd_right ..)
  have x3 : ((Int.gcd F2 B : Nat) : Int) * s = F2 := by rw [hs]; exact Int.mul_tdiv_cancel' (Int.gcd_dvd_left ..)
  have x4 : ((Int.gcd F2 B : Nat) : Int) * u = B := by rw [hu]; exact Int.mul_tdiv_cancel' (Int.gcd_dvd_right ..)
  have p1 := td_bd (x := F1) (b := ((Int.gcd F1 B : Nat) : Int)) (B := 2234400000) (by omega) hF1
  have p2 := td_bd (x := B) (b := ((Int.gcd F1 B : Nat) : Int)) (B := 30000) (by omega) (by omega)
  have p3 := td_bd (x := F2) (b := ((Int.gcd F2 B : Nat) : Int)) (B := 2234400000) (by omega) hF2
  have p4 := td_bd (x := B) (b := ((Int.gcd F2 B : Nat) : Int)) (B := 30000) (by omega) (by omega)
  rw [← ha] at p1
  rw [← hb] at p2
  rw [← hs] at p3
  rw [← hu] at p4
  have g3 : (0 : Int) < ((Int.gcd F1 B : Nat) : Int) := by omega
  have g4 : (0 : Int) < ((Int.gcd F2 B : Nat) : Int) := by omega
  clear g1 g2
  generalize ((Int.gcd F1 B : Nat) : Int) = c1 at *
  generalize ((Int.gcd F2 B : Nat) : Int) = c2 at *
  have b0 : 1 ≤ b := by
    refine Decidable.byContradiction fun z => ?_
    have := Int.mul_nonneg (by omega : 0 ≤ c1) (by omega : 0 ≤ -b)
    rw [Int.mul_neg] at this
    omega
  have u0 : 1 ≤ u := by
    refine Decidable.byContradiction fun z => ?_
    have := Int.mul_nonneg (by omega : 0 ≤ c2) (by omega : 0 ≤ -u)
    rw [Int.mul_neg] at this
    omega
  have m1 : (q * b).natAbs ≤ 95 * 30000 := by rw [Int.natAbs_mul]; exact Nat.mul_le_mul (by omega) (by omega)
  have m2 : (q * b * u).natAbs ≤ 2850000 * 30000 := by rw [Int.natAbs_mul]; exact Nat.mul_le_mul (by omega) (by omega)
  have m3 : (a * u).natAbs ≤ 2234400000 * 30000 := by rw [Int.natAbs_mul]; exact Nat.mul_le_mul (by omega) (by omega)
  have m4 : (s * b).natAbs ≤ 2234400000 * 30000 := by rw [Int.natAbs_mul]; exact Nat.mul_le_mul (by omega) (by omega)
  have m5 : (b * u).natAbs ≤ 30000 * 30000 := by rw [Int.natAbs_mul]; exact Nat.mul_le_mul (by omega) (by omega)
  have m6 : 1 ≤ b * u := Int.mul_pos (by omega) (by omega)
  refine ⟨⟨?_, ?_⟩, ⟨by omega, by omega⟩, ?_⟩
  · rw [w64_e (x := q * b) (by omega) (by omega), w64_e (x := q * b * u) (by omega) (by omega), w64_e (x := a * u) (by omega) (by omega), w64_e (x := s * b) (by omega) (by omega), w64_e (x := q * b * u - a * u) (by omega) (by omega)]
    exact w64_e (by omega) (by omega)
  · exact w64_e (by omega) (by omega)
  · have f1 : F1 * b = a * B := by rw [← x1, ← x2]; grind
    have f2 : F2 * u = s * B := by rw [← x3, ← x4]; grind
    exact low_eq (by omega) (by omega) (by clear x1 x2 x3 x4 m1 m2 m3 m4 m5 p1 p2 p3 p4; grind)

theorem gr_fin {v w x : Mem} {k : Int} (hf : PF v w) (hg : PG w x k) : x 13 0 81 = (v 68 0 k).tdiv ((Int.gcd (v 68 0 k) (v 12 0 9) : Nat) : Int) ∧ x 13 0 82 = (v 12 0 9).tdiv ((Int.gcd (v 68 0 k) (v 12 0 9) : Nat) : Int) := by
  have a := hg.2.2
  rw [hf.1 68 (by decide), hf.1 12 (by decide)] at a
  exact a

theorem inv_gr {c : Int} {M : Mem} {M9 : Mem} (fr : ∀ p, p ≠ 12 → p ≠ 13 → p ≠ 64 → p ≠ 65 → p ≠ 67 → p ≠ 68 → p ≠ 126 → p ≠ 127 → p ≠ 128 → p ≠ 129 → M9 p = M p) (fj : ∀ j, j ≠ 6 → j ≠ 9 → M9 12 0 j = M 12 0 j) (fk : ∀ j, j ≠ 81 → j ≠ 82 → M9 13 0 j = M 13 0 j) (hc : c < 512) (hI : Inv c M) : Inv (c + 1) (M9) := by
  obtain ⟨h0, hN, hS, hR, hK, hG, hW, hJ, hT, hA, hP, hO, hH⟩ := hI
  refine ⟨by omega, ?_, ?_, ?_, ?_, ?_, ?_, ?_, ?_, ?_, ?_, ?_, ?_⟩
  all_goals first
    | (have q := hN; simp (disch := decide) only [INet, ms_q, ms_f, mf_q, mf_f, mc_q, mc_f, fr, fj, fk] at q ⊢; exact q)
    | (have q := hS; simp (disch := decide) only [IStp, ms_q, ms_f, mf_q, mf_f, mc_q, mc_f, fr, fj, fk] at q ⊢; exact q)
    | (have q := hR; simp (disch := decide) only [IRou, ms_q, ms_f, mf_q, mf_f, mc_q, mc_f, fr, fj, fk] at q ⊢; exact q)
    | (have q := hK; simp (disch := decide) only [ISky, ms_q, ms_f, mf_q, mf_f, mc_q, mc_f, fr, fj, fk] at q ⊢; exact q)
    | (have q := hG; simp (disch := decide) only [IGui, ms_q, ms_f, mf_q, mf_f, mc_q, mc_f, fr, fj, fk] at q ⊢; exact q)
    | (have q := hW.next; simp (disch := decide) only [INow, ms_q, ms_f, mf_q, mf_f, mc_q, mc_f, fr, fj, fk] at q ⊢; exact q)
    | (have q := hJ.next; simp (disch := decide) only [IImg, ms_q, ms_f, mf_q, mf_f, mc_q, mc_f, fr, fj, fk] at q ⊢; exact q)
    | (have q := hT; simp (disch := decide) only [ITap, ms_q, ms_f, mf_q, mf_f, mc_q, mc_f, fr, fj, fk] at q ⊢; exact q)
    | (have q := hA; simp (disch := decide) only [ISta, ms_q, ms_f, mf_q, mf_f, mc_q, mc_f, fr, fj, fk] at q ⊢; exact q)
    | (have q := hP; simp (disch := decide) only [IPpl, ms_q, ms_f, mf_q, mf_f, mc_q, mc_f, fr, fj, fk] at q ⊢; exact q)
    | (have q := hO; simp (disch := decide) only [IRop, ms_q, ms_f, mf_q, mf_f, mc_q, mc_f, fr, fj, fk] at q ⊢; exact q)
    | (have q := hH; simp (disch := decide) only [IHrs, ms_q, ms_f, mf_q, mf_f, mc_q, mc_f, fr, fj, fk] at q ⊢; exact q)
    | skip

theorem inv_gr1 {c : Int} {M v w : Mem} (h : PS M v) (hf : PF v w) (hc : c < 512) (hI : Inv c M) : Inv (c + 1) w := by
  refine inv_gr (fun p a b c1 d e f g h1 i j => (hf.1 p g).trans (h.1 p a c1 d e f)) (fun j a b => ?_) (fun j a b => ?_) hc hI
  · rw [hf.1 12 (by decide)]; exact h.2.1 j a b
  · rw [hf.1 13 (by decide), h.1 13 (by decide) (by decide) (by decide) (by decide) (by decide)]
theorem inv_gr2 {c k : Int} {M v w x : Mem} (h : PS M v) (hf : PF v w) (hg : PG w x k) (hc : c < 512) (hI : Inv c M) : Inv (c + 1) x := by
  refine inv_gr (fun p a b c1 d e f g h1 i j => (hg.1 p b g h1 i j).trans ((hf.1 p g).trans (h.1 p a c1 d e f))) (fun j a b => ?_) (fun j a b => ?_) hc hI
  · rw [hg.1 12 (by decide) (by decide) (by decide) (by decide) (by decide), hf.1 12 (by decide)]; exact h.2.1 j a b
  · rw [hg.2.1 j a b, hf.1 13 (by decide), h.1 13 (by decide) (by decide) (by decide) (by decide) (by decide)]
theorem inv_gr3 {c k k2 s t : Int} {M v x y : Mem} (h : PS M v) (hg : PG v x k) (hg2 : PG x y k2) (hc : c < 512) (hI : Inv c M) : Inv (c + 1) (mset (mset y 13 0 81 s) 13 0 82 t) := by
  refine inv_gr (fun p a b c1 d e f g h1 i j => ?_) (fun j a b => ?_) (fun j a b => ?_) hc hI
  · rw [ms_q b, ms_q b]
    exact (hg2.1 p b g h1 i j).trans ((hg.1 p b g h1 i j).trans (h.1 p a c1 d e f))
  · rw [ms_q (by decide), ms_q (by decide), hg2.1 12 (by decide) (by decide) (by decide) (by decide) (by decide), hg.1 12 (by decide) (by decide) (by decide) (by decide) (by decide)]
    exact h.2.1 j a b
  · rw [ms_f, if_neg (fun z => b z.2), ms_f, if_neg (fun z => a z.2), hg2.2.1 j a b, hg.2.1 j a b, h.1 13 (by decide) (by decide) (by decide) (by decide) (by decide)]

theorem pair_grade {l : Launch} {ω : WP} {c : Int} {M : Mem} {s : Int} {x : Int} {w : Int} (hs : in32 s) (hx : in32 x) (hw : in32 w)  (hc : c < 512) (hI : Inv c M) : Vd l ω 9 150 [vR 0 0, vI s, vI x, vI w] M (PQ1 l ω c 255 [vI s, vI x, vI w]) := by
  have hI0 := hI
  obtain ⟨h0, hN, hS, hR, hK, hG, hW, hJ, hT, hA, hP, hO, hH⟩ := hI
  have b1 := hN.1
  have b2 := hN.2.2.1
  have b3 := hS.1
  have b4 := hS.2.2.1
  have b5 := hR.1
  have b6 := hR.2.2.2.1
  have b7 := hG.1
  have b8 := hG.2.2.1
  have hab := hrs_ab hH b6 b8
  have e13 := b1
  refine Vd_run (GGR_ok (l := l) (ω := ω)) 400 (cut := fun _ => none) (by decide) CutOK_none ?_
  conv => whnf
  repeat' first
    | (refine And.intro (fun h => ?_) (fun h => ?_) <;> (try simp (disch := decide) only [cmp3_lt, cmp3_ge, cmp3_gt, cmp3_le, cmp3_eq, ms_q, ms_f, mf_q, mf_f, mc_q, mc_f, and_self, and_true, true_and, and_false, false_and, or_true, true_or, or_false, false_or, if_true, if_false, not_true_eq_false, not_false_eq_true, eq_self, reduceIte, Int.reduceEq, Int.reduceLT, Int.reduceLE, Int.reduceNeg, Int.reduceAdd, Int.reduceSub, Int.reduceMul, Int.add_sub_cancel] at h) <;> (try simp (disch := omega) only [w32_e, w64_e, td_pos, tm_pos, Int.add_sub_cancel, e13] at h) <;> first | exact absurd rfl h | exact absurd h (by decide) | (exfalso; omega) | (conv => whnf))
    | (refine And.intro (by first | omega | ((try simp (disch := decide) only [cmp3_lt, cmp3_ge, cmp3_gt, cmp3_le, cmp3_eq, ms_q, ms_f, mf_q, mf_f, mc_q, mc_f, and_self, and_true, true_and, and_false, false_and, or_true, true_or, or_false, false_or, if_true, if_false, not_true_eq_false, not_false_eq_true, eq_self, reduceIte, Int.reduceEq, Int.reduceLT, Int.reduceLE, Int.reduceNeg, Int.reduceAdd, Int.reduceSub, Int.reduceMul, Int.add_sub_cancel]); (try simp (disch := omega) only [w32_e, w64_e, td_pos, tm_pos, Int.add_sub_cancel, e13]); first | assumption | omega) | exact ⟨rfl, hH, hab⟩ | (have S := hv.2.2.2; have S1 := S.1; refine ⟨rfl, bd_18 (S.2.1 _ (by first | omega | (rw [w32_e (by omega) (by omega)]; omega)) (by first | omega | (rw [w32_e (by omega) (by omega)]; omega))), S1, ?_⟩; omega) | exact ⟨rfl, gr_1 hS9 hH hab⟩ | exact ⟨rfl, gr_2 hS9 hv hH hab (by first | omega | (rw [w32_e (by omega) (by omega)]; omega)) (by first | omega | (rw [w32_e (by omega) (by omega)]; omega)) (by first | assumption | (rw [w32_e (by omega) (by omega)]; assumption))⟩ | ((try simp (disch := decide) only [cmp3_lt, cmp3_ge, cmp3_gt, cmp3_le, cmp3_eq, ms_q, ms_f, mf_q, mf_f, mc_q, mc_f, and_self, and_true, true_and, and_false, false_and, or_true, true_or, or_false, false_or, if_true, if_false, not_true_eq_false, not_false_eq_true, eq_self, reduceIte, Int.reduceEq, Int.reduceLT, Int.reduceLE, Int.reduceNeg, Int.reduceAdd, Int.reduceSub, Int.reduceMul, Int.add_sub_cancel]); (try simp (disch := omega) only [w32_e, w64_e, td_pos, tm_pos, Int.add_sub_cancel, e13]); ((repeat' (first | assumption | omega | with_reducible rfl | apply And.intro)); done))) ?_; conv => whnf)
    | (intro v; intro hv; conv => whnf)
  all_goals try (have hS9 := hv; have e13 : v 13 = M 13 := hS9.1 13 (by decide) (by decide) (by decide) (by decide) (by decide))
  all_goals refine ⟨0, _, rfl, ?_⟩
  all_goals refine Vd_run (GGR_ok (l := l) (ω := ω)) 400 (cut := fun _ => none) (by decide) CutOK_none ?_
  all_goals conv => whnf
  all_goals repeat' first
    | (refine And.intro (fun h => ?_) (fun h => ?_) <;> (try simp (disch := decide) only [cmp3_lt, cmp3_ge, cmp3_gt, cmp3_le, cmp3_eq, ms_q, ms_f, mf_q, mf_f, mc_q, mc_f, and_self, and_true, true_and, and_false, false_and, or_true, true_or, or_false, false_or, if_true, if_false, not_true_eq_false, not_false_eq_true, eq_self, reduceIte, Int.reduceEq, Int.reduceLT, Int.reduceLE, Int.reduceNeg, Int.reduceAdd, Int.reduceSub, Int.reduceMul, Int.add_sub_cancel] at h) <;> (try simp (disch := omega) only [w32_e, w64_e, td_pos, tm_pos, Int.add_sub_cancel, e13] at h) <;> first | exact absurd rfl h | exact absurd h (by decide) | (exfalso; omega) | (conv => whnf))
    | (refine And.intro (by first | omega | ((try simp (disch := decide) only [cmp3_lt, cmp3_ge, cmp3_gt, cmp3_le, cmp3_eq, ms_q, ms_f, mf_q, mf_f, mc_q, mc_f, and_self, and_true, true_and, and_false, false_and, or_true, true_or, or_false, false_or, if_true, if_false, not_true_eq_false, not_false_eq_true, eq_self, reduceIte, Int.reduceEq, Int.reduceLT, Int.reduceLE, Int.reduceNeg, Int.reduceAdd, Int.reduceSub, Int.reduceMul, Int.add_sub_cancel]); (try simp (disch := omega) only [w32_e, w64_e, td_pos, tm_pos, Int.add_sub_cancel, e13]); first | assumption | omega) | exact ⟨rfl, hH, hab⟩ | (have S := hv.2.2.2; have S1 := S.1; refine ⟨rfl, bd_18 (S.2.1 _ (by first | omega | (rw [w32_e (by omega) (by omega)]; omega)) (by first | omega | (rw [w32_e (by omega) (by omega)]; omega))), S1, ?_⟩; omega) | exact ⟨rfl, gr_1 hS9 hH hab⟩ | exact ⟨rfl, gr_2 hS9 hv hH hab (by first | omega | (rw [w32_e (by omega) (by omega)]; omega)) (by first | omega | (rw [w32_e (by omega) (by omega)]; omega)) (by first | assumption | (rw [w32_e (by omega) (by omega)]; assumption))⟩ | ((try simp (disch := decide) only [cmp3_lt, cmp3_ge, cmp3_gt, cmp3_le, cmp3_eq, ms_q, ms_f, mf_q, mf_f, mc_q, mc_f, and_self, and_true, true_and, and_false, false_and, or_true, true_or, or_false, false_or, if_true, if_false, not_true_eq_false, not_false_eq_true, eq_self, reduceIte, Int.reduceEq, Int.reduceLT, Int.reduceLE, Int.reduceNeg, Int.reduceAdd, Int.reduceSub, Int.reduceMul, Int.add_sub_cancel]); (try simp (disch := omega) only [w32_e, w64_e, td_pos, tm_pos, Int.add_sub_cancel, e13]); ((repeat' (first | assumption | omega | with_reducible rfl | apply And.intro)); done))) ?_; conv => whnf)
    | (intro v; intro hv; conv => whnf)
  all_goals first
    | exact ⟨0, by with_reducible rfl, Inv.next hc hI0⟩
    | (refine ⟨0, congrArg (fun z => some (vL z)) ?_, inv_gr2 hS9 (by assumption) hv hc hI0⟩
       have g := gr_fin (by assumption) hv
       first
         | (rw [if_pos (by assumption)]; exact g.1)
         | (rw [if_neg (by assumption)]; exact g.2))
    | (exfalso
       have e6 : w32 (6 + x) = 6 + x := w32_e (by omega) (by omega)
       first
         | (have g := grd_0 hS9 (by assumption) hab (k := x) (by omega) (by omega)
            rcases g with ⟨g1, g2⟩ | ⟨g1, g2, g3⟩ <;> contradiction)
         | (have g := grd_0 hS9 (by assumption) hab (k := 6 + x) (by omega) (by omega)
            rcases g with ⟨g1, g2⟩ | ⟨g1, g2, g3⟩ <;> contradiction)
         | (rw [e6] at *
            have g := grd_0 hS9 (by assumption) hab (k := 6 + x) (by omega) (by omega)
            rcases g with ⟨g1, g2⟩ | ⟨g1, g2, g3⟩ <;> contradiction))
    | exact ⟨0, by with_reducible rfl, inv_gr1 hS9 hv hc hI0⟩
