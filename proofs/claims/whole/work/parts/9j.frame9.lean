/-! ===== the frame: the fresh world is the memory M0's (wip/gen/lw4.body) ===== -/
section FRESH
variable {G : va_G} {tyc : Nat → ClassId} {ad : Nat → Nat} {sp : Nat → Int → Nat}
def wpO (G : va_G) (tyc : Nat → ClassId) (ad : Nat → Nat) (sp : Nat → Int → Nat) : WP := (G, fun p i => if p < 134 then ad (ixf p i) else sp p i, tyc)
theorem arrV_cg {cI : ClassId} {N : Nat} {f g : Nat → Value} (h : ∀ j, j < N → f j = g j) : arrV cI N f = arrV cI N g := by
  unfold arrV
  congr 2
  funext j
  exact h j.val j.isLt
theorem wde_ge {ω : WP} {M : Mem} {p : Nat} {i : Int} {k : Nat} (h0 : (SHt p).1 = k) (h4 : 4 ≤ k) : wde ω M p i = .inl (ω.2.2 k, (SHt p).2.1, .inr (.inr (.inr (.inr (fun j => some (ω.2.1 (rft p 0) j)))))) := by
  unfold wde
  rw [h0]
  match k, h4 with
  | k + 4, _ => rfl
theorem M0_at {p : Nat} {i j : Int} {e : CE} (h : (p, i) ∈ WL) (he : csB[ixf p i]? = some e) : M0 p i j = cM e j := by
  unfold M0
  rw [if_pos (mem_WL.mp h), he]
theorem fresh_at {H : Heap} (hP : va_P G clx (cwd tyc ad csB) H) {p : Nat} {i : Int} (h : (p, i) ∈ WL) : va_at G clx ((wpO G tyc ad sp).2.1 p i, wde (wpO G tyc ad sp) M0 p i) H := by
  have hc := ix_ok (p, i) h
  unfold chkX at hc
  dsimp only at hc
  have hp := (mem_WL.mp h).1
  have ep : (wpO G tyc ad sp).2.1 p i = ad (ixf p i) := if_pos hp
  split at hc
  · rename_i c vs he
    have m0 : ∀ j, M0 p i j = cM (.inr (c, vs)) j := fun j => M0_at h he
    simp only [Bool.and_eq_true] at hc
    obtain ⟨h0, h1, h2, h3⟩ := hc
    have h0 := Nat.eq_of_beq_eq_true h0
    have h1 := Nat.eq_of_beq_eq_true h1
    have h2 := Nat.eq_of_beq_eq_true h2
    have g := hP (ixf p i) (ad (ixf p i), cen tyc ad (.inr (c, vs))) (by rw [cwd_get, he]; rfl)
    have e2 : wde (wpO G tyc ad sp) M0 p i = cen tyc ad (.inr (c, vs)) := by
      rw [wde_obj h0, h1]
      show Sum.inr (c, _) = Sum.inr (c, vs.map (cvF ad))
      congr 2
      apply List.ext_getElem?
      intro k
      rw [List.getElem?_map, List.getElem?_map]
      by_cases hk : k < nft c
      · rw [List.getElem?_range hk]
        have w := List.all_eq_true.mp h3 k (List.mem_range.mpr hk)
        have mk : ∀ x, M0 p i (k : Int) = x → cM (.inr (c, vs)) (k : Int) = x := fun x z => by rw [← m0]; exact z
        split at w
        · rename_i x hx
          rw [hx]
          have e0 : M0 p i (k : Int) = x := by
            rw [m0]
            show (match vs[(k : Int).toNat]? with
              | some (.inl x) => x
              | some (.inr (.inl x)) => x
              | _ => 0) = x
            rw [Int.toNat_natCast, hx]
          show some (fvl _ M0 p i k) = some (Value.int (Int32.ofInt x))
          unfold fvl
          rw [h1]
          simp only [Bool.or_eq_true] at w
          rcases w with w | w
          · rw [Nat.eq_of_beq_eq_true w]
            show some (Value.int (Int32.ofInt (M0 p i k))) = _
            rw [e0]
          · rw [Nat.eq_of_beq_eq_true w]
            show some (Value.int (Int32.ofInt (M0 p i k))) = _
            rw [e0]
        · rename_i x hx
          rw [hx]
          have e0 : M0 p i (k : Int) = x := by
            rw [m0]
            show (match vs[(k : Int).toNat]? with
              | some (.inl x) => x
              | some (.inr (.inl x)) => x
              | _ => 0) = x
            rw [Int.toNat_natCast, hx]
          show some (fvl _ M0 p i k) = some (Value.long (Int64.ofInt x))
          unfold fvl
          rw [h1, Nat.eq_of_beq_eq_true w]
          show some (Value.long (Int64.ofInt (M0 p i k))) = _
          rw [e0]
        · rename_i n z hx
          rw [hx]
          simp only [Bool.and_eq_true] at w
          show some (fvl _ M0 p i k) = some (Value.ref (ad n))
          unfold fvl
          rw [h1, Nat.eq_of_beq_eq_true w.1.1]
          show some (Value.ref ((wpO G tyc ad sp).2.1 (rft p k) i)) = _
          have e3 : (wpO G tyc ad sp).2.1 (rft p k) i = ad (ixf (rft p k) i) := if_pos (Nat.le_of_ble_eq_true w.2)
          rw [e3, ← Nat.eq_of_beq_eq_true w.1.2]
        · cases w
      · rw [List.getElem?_eq_none (by simp; omega), List.getElem?_eq_none (by omega)]
        rfl
    rw [ep, e2]
    exact g
  · rename_i k n ov he
    have m0 : ∀ j, M0 p i j = cM (.inl (k, n, ov)) j := fun j => M0_at h he
    simp only [Bool.and_eq_true, Bool.or_eq_true] at hc
    obtain ⟨h0, h1, h2, h3, h4⟩ := hc
    have h0 := Nat.eq_of_beq_eq_true h0
    have h1 := Nat.le_of_ble_eq_true h1
    have h2 := Nat.le_of_ble_eq_true h2
    have h3 := Nat.eq_of_beq_eq_true h3
    have g := hP (ixf p i) (ad (ixf p i), cen tyc ad (.inl (k, n, ov))) (by rw [cwd_get, he]; rfl)
    have mj : k < 4 → ∀ j : Nat, M0 p i (j : Int) = (lkC ov j).getD 0 := fun hk j => by
      rw [m0]
      show (if k < 4 then (lkC ov (j : Int).toNat).getD 0 else 0) = _
      rw [if_pos hk, Int.toNat_natCast]
    rw [ep]
    by_cases hk : k < 4
    · have e2 : wde (wpO G tyc ad sp) M0 p i = cen tyc ad (.inl (k, n, ov)) := by
        match k, h1, hk, h0, mj with
        | 1, _, hk, h0, mj =>
          rw [wde_1 h0, h3]
          show Sum.inl (tyc 1, n, Sum.inl _) = Sum.inl (tyc 1, n, Sum.inl _)
          congr 4
          funext j
          rw [mj hk]
        | 2, _, hk, h0, mj =>
          rw [wde_2 h0, h3]
          show Sum.inl (tyc 2, n, Sum.inr (Sum.inl _)) = Sum.inl (tyc 2, n, Sum.inr (Sum.inl _))
          congr 5
          funext j
          rw [mj hk]
        | 3, _, hk, h0, mj =>
          rw [wde_3 h0, h3]
          show Sum.inl (tyc 3, n, Sum.inl _) = Sum.inl (tyc 3, n, Sum.inl _)
          congr 4
          funext j
          rw [mj hk]
      rw [e2]
      exact g
    · have h4 := h4.resolve_left (fun z => hk (Nat.le_of_ble_eq_true z))
      rw [wde_ge h0 (by omega), h3]
      have g2 : H[ad (ixf p i)]? = some (vp_cell (tyc k) (n, .inr (.inr (.inr (.inr (fun j => (lkC ov j).map (fun z => ad z.toNat))))))) := by
        match k, hk, g with
        | k + 4, _, g => exact g
      show H[ad (ixf p i)]? = some (vp_cell (tyc k) (n, .inr (.inr (.inr (.inr (fun j => some ((wpO G tyc ad sp).2.1 (rft p 0) j)))))))
      rw [g2]
      congr 1
      show arrV (tyc k) n (fun j => va_rf ((lkC ov j).map (fun z => ad z.toNat))) = arrV (tyc k) n (fun j => va_rf (some ((wpO G tyc ad sp).2.1 (rft p 0) (j : Int))))
      refine arrV_cg fun j hj => ?_
      have w := List.all_eq_true.mp h4.2 j (List.mem_range.mpr hj)
      split at w
      · rename_i z hz
        show va_rf ((lkC ov j).map (fun z => ad z.toNat)) = va_rf (some ((wpO G tyc ad sp).2.1 (rft p 0) (j : Int)))
        have e3 : (wpO G tyc ad sp).2.1 (rft p 0) (j : Int) = ad (ixf (rft p 0) (j : Int)) := if_pos (Nat.le_of_ble_eq_true h4.1)
        rw [hz, e3, ← Nat.eq_of_beq_eq_true w]
        rfl
      · cases w
  · cases hc
theorem wd_get {ω : WP} {M : Mem} {k : Nat} {q : Nat × va_E} (h : (wd ω M)[k]? = some q) : ∃ p i, WL[k]? = some (p, i) ∧ (p, i) ∈ WL ∧ q = (ω.2.1 p i, wde ω M p i) := by
  unfold wd at h
  rw [List.getElem?_map] at h
  cases e : WL[k]? with
  | none => rw [e] at h; cases h
  | some z =>
    rw [e] at h
    cases h
    exact ⟨z.1, z.2, rfl, List.mem_of_getElem? e, rfl⟩
theorem fresh_P {H : Heap} (hP : va_P G clx (cwd tyc ad csB) H) : va_P (wpO G tyc ad sp).1 clx (wd (wpO G tyc ad sp) M0) H := by
  intro k q hk
  obtain ⟨p, i, -, hm, rfl⟩ := wd_get hk
  exact fresh_at hP hm
theorem fresh_D {A : Nat → Prop} (hD : va_D A (cwd tyc ad csB)) : va_D A (wd (wpO G tyc ad sp) M0) := by
  have key : ∀ p i, (p, i) ∈ WL → ∃ e, (cwd tyc ad csB)[ixf p i]? = some (ad (ixf p i), e) := fun p i h => by
    have hl := ix_lt (p, i) h
    rw [cwd_get, List.getElem?_eq_getElem hl]
    exact ⟨_, rfl⟩
  have ea : ∀ p i, (p, i) ∈ WL → (wpO G tyc ad sp).2.1 p i = ad (ixf p i) := fun p i h => if_pos (mem_WL.mp h).1
  refine ⟨fun a b x z hx hz hxz => ?_, fun k q hk => ?_⟩
  · obtain ⟨p, i, w1, m1, rfl⟩ := wd_get hx
    obtain ⟨p', i', w2, m2, rfl⟩ := wd_get hz
    obtain ⟨e1, k1⟩ := key p i m1
    obtain ⟨e2, k2⟩ := key p' i' m2
    have e : ad (ixf p i) = ad (ixf p' i') := by
      rw [← ea p i m1, ← ea p' i' m2]
      exact hxz
    have ix := hD.1 _ _ _ _ k1 k2 e
    have n1 : (WL.map (fun q => ixf q.1 q.2))[a]? = some (ixf p i) := by rw [List.getElem?_map, w1]; rfl
    have n2 : (WL.map (fun q => ixf q.1 q.2))[b]? = some (ixf p i) := by rw [List.getElem?_map, w2, ix]; rfl
    have la := (List.getElem?_eq_some_iff.mp n1).1
    exact (List.getElem?_inj la ix_nd).mp (n1.trans n2.symm)
  · obtain ⟨p, i, -, m1, rfl⟩ := wd_get hk
    obtain ⟨e1, k1⟩ := key p i m1
    have := hD.2 _ _ k1
    show A ((wpO G tyc ad sp).2.1 p i)
    rw [ea p i m1]
    exact this
theorem M0_24 : ∀ j : Int, 0 ≤ j → j < 4 → M0 24 0 j = -1 := fun j h0 h1 => by
  rcases (by omega : j = 0 ∨ j = 1 ∨ j = 2 ∨ j = 3) with rfl | rfl | rfl | rfl <;> decide +kernel
theorem M0_78 : ∀ j : Int, 0 ≤ j → j < 4 → M0 78 0 j = -4 := fun j h0 h1 => by
  rcases (by omega : j = 0 ∨ j = 1 ∨ j = 2 ∨ j = 3) with rfl | rfl | rfl | rfl <;> decide +kernel
theorem M0_83 : M0 13 0 83 = -4 := by decide +kernel
end FRESH
