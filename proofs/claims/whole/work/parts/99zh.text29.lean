/-! ===== text: the same tape, the same reading (wip/gen/txE.body) ===== -/
section TAPE
variable {T T' : Int → Int} {u : Int}
theorem rnN_cg {lo hi : Int} (H : ∀ j, 0 ≤ j → j < u → T' j = T j) : ∀ (n : Nat) (p : Int), 0 ≤ p → rnN lo hi T' u n p = rnN lo hi T u n p
  | 0, _, _ => rfl
  | n + 1, p, hp => by
    rw [rnN, rnN, rnN_cg H n (p + 1) (by omega)]
    by_cases c : p < u
    · rw [H p hp c]
    · rw [if_neg (fun z => c z.1), if_neg (fun z => c z.1)]
theorem nvC_cg (H : ∀ j, 0 ≤ j → j < u → T' j = T j) : ∀ (n : Nat) (p v : Int), 0 ≤ p → nvC T' u n p v = nvC T u n p v
  | 0, _, _, _ => rfl
  | n + 1, p, v, hp => by
    rw [nvC, nvC, nvC_cg H n (p + 1) _ (by omega)]
    by_cases c : p < u
    · rw [H p hp c]
    · rw [if_neg (fun z => c z.1), if_neg (fun z => c z.1)]
theorem isW_cg (H : ∀ j, 0 ≤ j → j < u → T' j = T j) : ∀ (w : List Int) (s : Int), 0 ≤ s → s + (w.length : Int) ≤ u → isW T' s w = isW T s w
  | [], _, _, _ => rfl
  | c :: l, s, hs, h => by
    have e : ((c :: l).length : Int) = (l.length : Int) + 1 := by simp
    rw [isW, isW, isW_cg H l (s + 1) (by omega) (by omega), H s hs (by omega)]
theorem nmF_cg {s e : Int} (H : ∀ j, 0 ≤ j → j < u → T' j = T j) (hs : 0 ≤ s) (he : e ≤ u) : ∀ L : List (Int × List Int), nmF T' s e L = nmF T s e L
  | [] => rfl
  | w :: r => by
    rw [nmF, nmF, nmF_cg H hs he r]
    by_cases c : e - s = (w.2.length : Int)
    · rw [isW_cg H w.2 s hs (by omega)]
    · rw [if_neg (fun z => c z.1), if_neg (fun z => c z.1)]
theorem rn_cg {lo hi p : Int} (H : ∀ j, 0 ≤ j → j < u → T' j = T j) (hp : 0 ≤ p) : rn lo hi T' u p = rn lo hi T u p := rnN_cg H _ p hp
theorem tkS_cg {p : Int} (H : ∀ j, 0 ≤ j → j < u → T' j = T j) (hp : 0 ≤ p) : tkS T' u p = tkS T u p := rn_cg H hp
theorem tk_cg {p : Int} (H : ∀ j, 0 ≤ j → j < u → T' j = T j) (hp : 0 ≤ p) (hu : p ≤ u) : tkT T' u p = tkT T u p ∧ tkV T' u p = tkV T u p ∧ tkX T' u p = tkX T u p := by
  have eS := tkS_cg H hp
  have s1 : p ≤ tkS T u p ∧ tkS T u p ≤ u := by
    have := rn_in (lo := 32) (hi := 32) (T := T) (u := u) (p := p)
    exact ⟨this.1, this.2 hu⟩
  unfold tkT tkV tkX
  rw [eS]
  generalize tkS T u p = s at *
  refine ⟨?_, nvC_cg H _ _ _ (by omega), ?_⟩
  · by_cases c : u ≤ s
    · rw [if_pos c, if_pos c]
    · have hw := rn_in (lo := 97) (hi := 122) (T := T) (u := u) (p := s)
      rw [if_neg c, if_neg c, H s (by omega) (by omega), rn_cg H (by omega), rn_cg H (by omega), nmF_cg H (by omega) (hw.2 (by omega))]
  · by_cases c : u ≤ s
    · rw [if_pos c, if_pos c]
    · rw [if_neg c, if_neg c, H s (by omega) (by omega), rn_cg H (by omega), rn_cg H (by omega)]
theorem rnC_cg (H : ∀ j, 0 ≤ j → j < u → T' j = T j) : ∀ (n : Nat) (s : CS) (p : Int), 0 ≤ p → p ≤ u → rnC T' u n s p = rnC T u n s p
  | 0, _, _, _, _ => rfl
  | n + 1, s, p, hp, hu => by
    have q := tk_cg H hp hu
    have ti := tkn_in (T := T) (u := u) (p := p) hu
    rw [rnC, rnC, q.1, q.2.1, q.2.2, tkS_cg H hp, rnC_cg H n _ (tkX T u p) (by omega) (by omega)]
end TAPE
