/-! ===== grades: both eliminations give the same fractions ===== -/
def eqS (a b t F : Int → Int) (m : Nat) (B k : Int) : Int := sm (fun e => if a e = k ∨ b e = k then B * t e - F (a e) - F (b e) else 0) m
theorem gs_sol {a b Z col t : Int → Int} {m n : Nat} (h : GS a b Z col m n) {M : Nat → Nat → Int} (el : El (qE (aiE a b col) (ppE a b t col n) m) n n M) {k : Int} (k0 : 0 ≤ k) (k1 : k < 14) (ck : 0 ≤ col k) : eqS a b t (fN col (fun c => M c n)) m (dA (qE (aiE a b col) (ppE a b t col n) m) n) k = 0 := by
  obtain ⟨Y, hY, o, -⟩ := el_bd (gs_p (t := t)) (gs_H h) (Nat.le_refl _) el n
  have ck2 := (h.2.2.1 k k0 k1).resolve_left (by omega)
  have os := o (col k).toNat (by omega)
  rw [if_neg (by omega)] at os
  rw [← os]
  unfold eqS
  refine sm_cg _ (fun e he => ?_)
  have y := h.1.2 (e : Int) (by omega) (by omega)
  have w := gs_w h (x := fun c => M c n) he
  have tt : ppE a b t col n n e = t e := if_neg (by omega)
  show (if a e = k ∨ b e = k then _ else _) = aiE a b col e (col k).toNat * Y e
  rw [hY e, w, tt]
  unfold aiE
  rw [Int.toNat_of_nonneg ck]
  by_cases c : a e = k ∨ b e = k
  · have c2 : col (a e) = col k ∨ col (b e) = col k := c.elim (fun z => Or.inl (by rw [z])) (fun z => Or.inr (by rw [z]))
    rw [if_pos c, if_pos c2]
    omega
  · have c2 : ¬ (col (a e) = col k ∨ col (b e) = col k) := fun z => z.elim (fun z => c (Or.inl (h.2.2.2.1 _ _ (by omega) (by omega) k0 k1 (by omega) z))) (fun z => c (Or.inr (h.2.2.2.1 _ _ (by omega) (by omega) k0 k1 (by omega) z)))
    rw [if_neg c, if_neg c2, Int.zero_mul]
theorem id_w {x : Nat → Int} {u v : Int} (hu : 0 ≤ u ∧ u < 14) (hv : 0 ≤ v ∧ v < 14) (ne : u ≠ v) : sm (fun c => x c * (if u = (c : Int) ∨ v = (c : Int) then 1 else 0)) 14 = x u.toNat + x v.toNat := by
  have e1 := sm_pt (x := x) (v := u) 14 (by omega)
  have e2 := sm_pt (x := x) (v := v) 14 (by omega)
  rw [if_pos hu.1] at e1
  rw [if_pos hv.1] at e2
  have := sm_lin (f := fun c => x c * (if u = (c : Int) then 1 else 0)) (g := fun c => x c * (if v = (c : Int) then 1 else 0)) (a := 1) (b := 1) 14
  rw [Int.one_mul, Int.one_mul, e1, e2] at this
  rw [← this]
  refine sm_cg _ (fun k hk => ?_)
  show x k * (if u = (k : Int) ∨ v = (k : Int) then 1 else 0) = 1 * (x k * (if u = (k : Int) then 1 else 0)) + 1 * (x k * (if v = (k : Int) then 1 else 0))
  by_cases c1 : u = (k : Int)
  · have c2 : ¬ v = (k : Int) := fun z => ne (by omega)
    rw [if_pos (Or.inl c1), if_pos c1, if_neg c2]
    omega
  · by_cases c2 : v = (k : Int)
    · rw [if_pos (Or.inr c2), if_neg c1, if_pos c2]
      omega
    · rw [if_neg (fun z => z.elim c1 c2), if_neg c1, if_neg c2]
      omega
theorem gs_un {a b Z t F1 F2 : Int → Int} {m : Nat} {B1 B2 p : Int} (hab : AB a b (m : Int)) (hZ : ∀ k, 0 ≤ k → k < 14 → Z k = -4) (p0 : 0 ≤ p) (h1 : ∀ k, 0 ≤ k → k < 14 → lbC a b m Z k = p → k ≠ p → eqS a b t F1 m B1 k = 0 ∧ eqS a b t F2 m B2 k = 0) (r1 : F1 p = 0) (r2 : F2 p = 0) (ep : lbC a b m Z p = p) : ∀ k, 0 ≤ k → k < 14 → lbC a b m Z k = p → B2 * F1 k = B1 * F2 k := by
  obtain ⟨z, hz⟩ : ∃ z : Int → Int, z = fun k => if lbC a b m Z k = p then B2 * F1 k - B1 * F2 k else 0 := ⟨_, rfl⟩
  have zp : z p = 0 := by
    rw [hz]
    show (if lbC a b m Z p = p then B2 * F1 p - B1 * F2 p else 0) = 0
    rw [if_pos ep, r1, r2]
    simp
  have sC : ∀ e, 0 ≤ e → e < (m : Int) → lbC a b m Z (a e) = lbC a b m Z (b e) := fun e e0 e1 => rd_same hab.1.1 (fun e e0 e1 => by have := hab.2 e e0 e1; omega) e0 e1
  have q : ∀ k : Nat, k < 14 → z (k : Int) * sm (fun e => (if a (e : Int) = (k : Int) ∨ b (e : Int) = (k : Int) then 1 else 0) * (z (a e) + z (b e))) m = 0 := fun k hk => by
    by_cases c : lbC a b m Z (k : Int) = p
    · by_cases kp : (k : Int) = p
      · rw [kp, zp, Int.zero_mul]
      · obtain ⟨x1, x2⟩ := h1 (k : Int) (by omega) (by omega) c kp
        have := sm_lin (f := fun e => if a (e : Int) = (k : Int) ∨ b (e : Int) = (k : Int) then B2 * t e - F2 (a e) - F2 (b e) else 0) (g := fun e => if a (e : Int) = (k : Int) ∨ b (e : Int) = (k : Int) then B1 * t e - F1 (a e) - F1 (b e) else 0) (a := B1) (b := -B2) m
        unfold eqS at x1 x2
        rw [x1, x2] at this
        have e1 : sm (fun e => (if a (e : Int) = (k : Int) ∨ b (e : Int) = (k : Int) then 1 else 0) * (z (a e) + z (b e))) m = 0 := by
          refine Eq.trans (Eq.trans (sm_cg _ (fun e he => ?_)) this) (by simp)
          show (if a (e : Int) = (k : Int) ∨ b (e : Int) = (k : Int) then 1 else 0) * (z (a e) + z (b e)) = B1 * (if a (e : Int) = (k : Int) ∨ b (e : Int) = (k : Int) then B2 * t e - F2 (a e) - F2 (b e) else 0) + -B2 * (if a (e : Int) = (k : Int) ∨ b (e : Int) = (k : Int) then B1 * t e - F1 (a e) - F1 (b e) else 0)
          by_cases ce : a (e : Int) = (k : Int) ∨ b (e : Int) = (k : Int)
          · rw [if_pos ce, if_pos ce, if_pos ce]
            have la : lbC a b m Z (a e) = p := by
              rcases ce with ce | ce
              · rw [ce]; exact c
              · rw [sC e (by omega) (by omega), ce]; exact c
            have lb : lbC a b m Z (b e) = p := by rw [← sC e (by omega) (by omega)]; exact la
            have za : z (a e) = B2 * F1 (a e) - B1 * F2 (a e) := by rw [hz]; exact if_pos la
            have zb : z (b e) = B2 * F1 (b e) - B1 * F2 (b e) := by rw [hz]; exact if_pos lb
            rw [za, zb]
            grind
          · rw [if_neg ce, if_neg ce, if_neg ce]
            simp
        rw [e1, Int.mul_zero]
    · have : z (k : Int) = 0 := by rw [hz]; exact if_neg c
      rw [this, Int.zero_mul]
  have ssum : sm (fun e => (z (a e) + z (b e)) * (z (a e) + z (b e))) m = 0 := by
    have bl := bil (a := fun e i => if a (e : Int) = (i : Int) ∨ b (e : Int) = (i : Int) then 1 else 0) (m := m) (s := 14) (y := fun i => z (i : Int)) (g := fun e => z (a e) + z (b e))
    rw [sm_z (f := fun (i : Nat) => z (i : Int) * sm (fun e => (if a (e : Int) = (i : Int) ∨ b (e : Int) = (i : Int) then 1 else 0) * (z (a e) + z (b e))) m) 14 q] at bl
    rw [bl]
    refine sm_cg _ (fun e he => ?_)
    have y := hab.2 (e : Int) (by omega) (by omega)
    have w := id_w (x := fun i => z (i : Int)) (u := a e) (v := b e) (by omega) (by omega) (by omega)
    rw [Int.toNat_of_nonneg (by omega), Int.toNat_of_nonneg (by omega)] at w
    show (z (a e) + z (b e)) * (z (a e) + z (b e)) = wE _ 14 _ e * (z (a e) + z (b e))
    unfold wE
    rw [w]
  have y0 : ∀ e, 0 ≤ e → e < (m : Int) → -0 ≤ z (a e) + z (b e) ∧ z (a e) + z (b e) ≤ 0 := fun e e0 e1 => by
    have s1 : (z (a e.toNat) + z (b e.toNat)) * (z (a e.toNat) + z (b e.toNat)) ≤ sm (fun e => (z (a e) + z (b e)) * (z (a e) + z (b e))) m := sm_el m (fun k _ => sq_nn (z (a k) + z (b k))) e.toNat (by omega)
    rw [ssum, Int.toNat_of_nonneg e0] at s1
    exact sq_le (Int.le_refl _) s1
  intro k k0 k1 kp
  have en : En a b (m : Int) k := by
    rcases lb_all hab hZ hZ k k0 k1 with x | x
    · omega
    · exact x.1
  have := lb_B (f := z) hab hZ (Int.le_refl 0) y0 k k0 k1 en (by rw [kp]; exact zp)
  have zk : z k = B2 * F1 k - B1 * F2 k := by rw [hz]; exact if_pos kp
  omega
