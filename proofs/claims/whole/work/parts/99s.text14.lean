/-! ===== text: how one token leads on (wip/gen/tx5.body) ===== -/
abbrev RSS := Int × Int × CS
def RN (T : Int → Int) (u : Int) (E : RSS) (s : CS) (p : Int) : Prop := (∃ n : Nat, u + 1 ≤ (n : Int) + p ∧ rnC T u n s p = E) ∧ (0 ≤ p ∧ p ≤ u) ∧ CI s ∧ ((cO s).length : Int) + ((cW s).length : Int) ≤ p
theorem rn_go {T : Int → Int} {u p : Int} {E : RSS} {s : CS} (h : RN T u E s p) (f0 : (stp1 (tkT T u p) (tkV T u p) s).1 = 0) (t26 : ¬ tkT T u p = 26) : RN T u E (stp1 (tkT T u p) (tkV T u p) s).2 (tkX T u p) := by
  obtain ⟨⟨n, hn, hr⟩, hp, hC, hl⟩ := h
  have ti := tkn_in (T := T) (u := u) (p := p) hp.2
  have c := stp1_CI (n := tkV T u p) hC (tkT_in (T := T) (u := u) (p := p)) f0
  have c2 := c.2
  match n, hn, hr with
  | 0, hn, _ => exfalso; omega
  | n + 1, hn, hr =>
    rw [rnC, if_neg (fun z => z f0), if_neg t26] at hr
    exact ⟨⟨n, by omega, hr⟩, by omega, c.1, by omega⟩
theorem rn_bad {T : Int → Int} {u p : Int} {E : RSS} {s : CS} (h : RN T u E s p) (f0 : ¬ (stp1 (tkT T u p) (tkV T u p) s).1 = 0) : E.1 = (stp1 (tkT T u p) (tkV T u p) s).1 ∧ E.2.1 = tkS T u p := by
  obtain ⟨⟨n, hn, hr⟩, hp, hC, hl⟩ := h
  match n, hn, hr with
  | 0, hn, _ => exfalso; omega
  | n + 1, hn, hr =>
    rw [rnC, if_pos f0] at hr
    rw [← hr]
    exact ⟨rfl, rfl⟩
theorem rn_end2 {T : Int → Int} {u p : Int} {E : RSS} {s : CS} (h : RN T u E s p) (h0 : cS s = 0) (t26 : tkT T u p = 26) : E = (0, tkS T u p, s) := by
  obtain ⟨⟨n, hn, hr⟩, hp, hC, hl⟩ := h
  have st : stp1 (tkT T u p) (tkV T u p) s = (0, s) := by
    rw [t26]
    unfold stp1
    rw [if_neg (by decide), if_pos h0, if_pos rfl]
  match n, hn, hr with
  | 0, hn, _ => exfalso; omega
  | n + 1, hn, hr =>
    rw [rnC, st, if_neg (fun z => z rfl), if_pos t26] at hr
    exact hr.symm
theorem st_27 {n : Int} {s : CS} : stp1 27 n s = (1, s) := by
  unfold stp1
  rw [if_pos rfl]
/-- the model stands before the token at p, read already -/
def LAo (M : Mem) (p : Int) : Prop := M 13 0 33 = 0 ∧ ¬ tkT (M 90 0) (M 13 0 28) p = 27 ∧ M 13 0 29 = tkX (M 90 0) (M 13 0 28) p ∧ M 13 0 30 = tkS (M 90 0) (M 13 0 28) p ∧ SV (tkT (M 90 0) (M 13 0 28) p) (tkV (M 90 0) (M 13 0 28) p) (M 13 0 31) (M 13 0 32)
def FB (M : Mem) (E : RSS) : Prop := 0 < M 13 0 33 ∧ M 13 0 33 = E.1 ∧ M 13 0 34 = E.2.1
/-- the tape, as the model has it -/
def TPE (M : Mem) : Prop := (0 ≤ M 13 0 29 ∧ M 13 0 29 ≤ M 13 0 28 ∧ M 13 0 28 ≤ 240) ∧ (∀ j, 0 ≤ j → j < M 13 0 28 → 0 ≤ M 90 0 j ∧ M 90 0 j ≤ 255) ∧ 0 ≤ M 13 0 33
abbrev NXP (M M9 : Mem) : Prop := (∀ p, p ≠ 13 → M9 p = M p) ∧ (∀ j, j ≠ 29 → j ≠ 30 → j ≠ 31 → j ≠ 32 → j ≠ 33 → j ≠ 34 → M9 13 0 j = M 13 0 j) ∧ (M9 13 0 29 = tkX (M 90 0) (M 13 0 28) (M 13 0 29) ∧ M9 13 0 30 = tkS (M 90 0) (M 13 0 28) (M 13 0 29)) ∧ (tkT (M 90 0) (M 13 0 28) (M 13 0 29) = 27 → M9 13 0 33 = 1 ∧ M9 13 0 34 = tkS (M 90 0) (M 13 0 28) (M 13 0 29)) ∧ (¬ tkT (M 90 0) (M 13 0 28) (M 13 0 29) = 27 → M9 13 0 33 = 0 ∧ SV (tkT (M 90 0) (M 13 0 28) (M 13 0 29)) (tkV (M 90 0) (M 13 0 28) (M 13 0 29)) (M9 13 0 31) (M9 13 0 32))
theorem nx_tpe {M M9 : Mem} (h : TPE M) (n : NXP M M9) : TPE M9 := by
  obtain ⟨h1, h2, h3⟩ := h
  obtain ⟨n1, n2, n3, n4, n5⟩ := n
  have ti := tkn_in (T := M 90 0) (u := M 13 0 28) (p := M 13 0 29) h1.2.1
  have e28 := n2 28 (by decide) (by decide) (by decide) (by decide) (by decide) (by decide)
  refine ⟨by omega, ?_, ?_⟩
  · rw [n1 90 (by decide), e28]
    exact h2
  · by_cases c : tkT (M 90 0) (M 13 0 28) (M 13 0 29) = 27
    · have := (n4 c).1
      omega
    · have := (n5 c).1
      omega
/-- behind next: either its token is none, which is the fault, or the model stands before it -/
theorem nx_go {M M9 : Mem} {E : RSS} {s : CS} (n : NXP M M9) (h : RN (M 90 0) (M 13 0 28) E s (M 13 0 29)) : FB M9 E ∨ (RN (M9 90 0) (M9 13 0 28) E s (M 13 0 29) ∧ LAo M9 (M 13 0 29)) := by
  obtain ⟨n1, n2, n3, n4, n5⟩ := n
  have e90 := n1 90 (by decide)
  have e28 := n2 28 (by decide) (by decide) (by decide) (by decide) (by decide) (by decide)
  by_cases c : tkT (M 90 0) (M 13 0 28) (M 13 0 29) = 27
  · have q := n4 c
    have b := rn_bad h (by rw [c, st_27]; show ¬ (1 : Int) = 0; decide)
    rw [c, st_27] at b
    refine Or.inl ⟨by omega, ?_, ?_⟩
    · rw [q.1, b.1]
    · rw [q.2, b.2]
  · have q := n5 c
    refine Or.inr ⟨by rw [e90, e28]; exact h, q.1, ?_, ?_, ?_, ?_⟩
    · rw [e90, e28]; exact c
    · rw [e90, e28]; exact n3.1
    · rw [e90, e28]; exact n3.2
    · rw [e90, e28]; exact q.2
