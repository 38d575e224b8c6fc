/-! ===== text: what a token leaves of the state (wip/gen/tx3.body) ===== -/
theorem pp_mem {b : Int} {P : Int → Prop} : ∀ (ws o : List Int), (∀ w ∈ ws, P w) → ∀ w ∈ (pp b o ws).2, P w
  | [], _, _, w, hw => by simp [pp] at hw
  | x :: ws, o, h, w, hw => by
    rw [pp] at hw
    by_cases c : b ≤ bndT x
    · rw [if_pos c] at hw
      exact pp_mem ws (x :: o) (fun y hy => h y (List.mem_cons_of_mem _ hy)) w hw
    · rw [if_neg c] at hw
      exact h w hw
theorem pp_16 {b : Int} (hb : 1 ≤ b) : ∀ (ws o : List Int), op16 (pp b o ws).2 = op16 ws
  | [], _ => rfl
  | x :: ws, o => by
    rw [pp]
    by_cases c : b ≤ bndT x
    · rw [if_pos c, pp_16 hb ws (x :: o), op16]
      have w16 : ¬ x = 16 := fun z => by
        rw [z] at c
        have : bndT 16 = 0 := by decide
        omega
      rw [if_neg w16]
      omega
    · rw [if_neg c]
theorem pp_top {ws o : List Int} (h : ∀ w ∈ ws, okW w) (h16 : 0 < op16 ws) : ∃ r, (pp 1 o ws).2 = 16 :: r := by
  have a := pp_ne (b := 1) (by decide) (ws := ws) (o := o) h16
  have m := pp_mem (b := 1) ws o h
  have s : ∀ (ws o : List Int), (pp 1 o ws).2 = [] ∨ ∃ w r, (pp 1 o ws).2 = w :: r ∧ ¬ 1 ≤ bndT w := by
    intro ws
    induction ws with
    | nil => exact fun o => Or.inl rfl
    | cons x l ih =>
      intro o
      rw [pp]
      by_cases c : 1 ≤ bndT x
      · rw [if_pos c]
        exact ih _
      · rw [if_neg c]
        exact Or.inr ⟨x, l, rfl, c⟩
  rcases s ws o with e | ⟨w, r, e, c⟩
  · rw [e] at a
    simp at a
  · refine ⟨r, ?_⟩
    have q := m w (by rw [e]; exact List.mem_cons_self ..)
    have : w = 16 := by
      unfold okW at q
      unfold bndT at c
      rcases q with q | q | q
      · exact q
      · exfalso
        rcases (by omega : w = 4 ∨ w = 5 ∨ w = 6) with z | z | z <;> rw [z] at c <;> exact c (by decide)
      · exfalso
        rcases (by omega : w = 18 ∨ w = 19 ∨ w = 20 ∨ w = 21 ∨ w = 22 ∨ w = 23) with z | z | z | z | z | z <;> rw [z] at c <;> exact c (by decide)
    rw [e, this]
def CX (s r : CS) : Prop := CI r ∧ (cO r).length + (cW r).length ≤ (cO s).length + (cW s).length + 1
theorem jnS_CI {t sd nm : Int} {s : CS} (h : CI s) (hs : cS s = 2) (ht : okW t) (h16 : ¬ t = 16) (hb : 1 ≤ bndT t) (hn : nm = 0 ∨ nm = 1) : CX s (jnS t s sd nm) := by
  obtain ⟨a, b, c, d, e, f, g⟩ := h
  have l := pp_len (b := bndT t) (cW s) (cO s)
  refine ⟨⟨?_, b, ?_, d, ?_, ?_, ?_⟩, ?_⟩
  · show op16 (t :: (pp (bndT t) (cO s) (cW s)).2) = cP s
    rw [op16, if_neg h16, pp_16 hb]
    omega
  · intro w hw
    rcases List.mem_cons.mp hw with z | z
    · rw [z]; exact ht
    · exact pp_mem _ _ c w z
  · show (0 : Int) ≤ 1 ∧ (1 : Int) ≤ 2
    omega
  · exact Or.inr hn
  · exact Or.inr (g.resolve_left (by omega))
  · show (pp (bndT t) (cO s) (cW s)).1.length + (t :: (pp (bndT t) (cO s) (cW s)).2).length ≤ _
    rw [List.length_cons]
    omega
theorem stp1_CI {t n : Int} {s : CS} (h : CI s) (ht : 0 ≤ t ∧ t ≤ 27) (f0 : (stp1 t n s).1 = 0) : CX s (stp1 t n s).2 := by
  have h0 := h
  obtain ⟨a, b, c, d, e, f, g⟩ := h
  unfold stp1 at f0 ⊢
  by_cases c1 : t = 27
  · rw [if_pos c1] at f0
    exact absurd f0 (by simp)
  rw [if_neg c1] at f0 ⊢
  by_cases c2 : cS s = 0
  · rw [if_pos c2] at f0 ⊢
    by_cases c3 : t = 26
    · rw [if_pos c3]
      exact ⟨h0, Nat.le_succ _⟩
    rw [if_neg c3] at f0 ⊢
    by_cases c4 : 3 < t
    · rw [if_pos c4] at f0
      exact absurd f0 (by simp)
    rw [if_neg c4] at f0 ⊢
    by_cases c5 : 12 ≤ cL s
    · rw [if_pos c5] at f0
      exact absurd f0 (by simp)
    rw [if_neg c5]
    refine ⟨⟨a, b, c, d, ?_, ?_, ?_⟩, Nat.le_succ _⟩
    · show (0 : Int) ≤ 1 ∧ (1 : Int) ≤ 2
      omega
    · refine Or.inr ?_
      show (if t = 0 ∨ t = 3 then (1 : Int) else 0) = 0 ∨ (if t = 0 ∨ t = 3 then (1 : Int) else 0) = 1
      split <;> omega
    · exact Or.inr (by show cL s < 12; omega)
  rw [if_neg c2] at f0 ⊢
  by_cases c3 : cS s = 1
  · rw [if_pos c3] at f0 ⊢
    by_cases c4 : t = 6 ∧ cN s = 1
    · rw [if_pos c4]
      refine ⟨⟨?_, b, ?_, d, e, f, g⟩, ?_⟩
      · show op16 (6 :: cW s) = cP s
        rw [op16, if_neg (by decide)]
        omega
      · intro w hw
        rcases List.mem_cons.mp hw with z | z
        · rw [z]; exact Or.inr (Or.inl (by omega))
        · exact c w z
      · show (cO s).length + (6 :: cW s).length ≤ _
        rw [List.length_cons]
        omega
    rw [if_neg c4] at f0 ⊢
    by_cases c5 : t = 16
    · rw [if_pos c5] at f0 ⊢
      by_cases c6 : 6 ≤ cP s
      · rw [if_pos c6] at f0
        exact absurd f0 (by simp)
      rw [if_neg c6]
      refine ⟨⟨?_, ?_, ?_, d, e, ?_, g⟩, ?_⟩
      · show op16 (16 :: cW s) = cP s + 1
        rw [op16, if_pos rfl]
        omega
      · show 0 ≤ cP s + 1 ∧ cP s + 1 ≤ 6
        omega
      · intro w hw
        rcases List.mem_cons.mp hw with z | z
        · rw [z]; exact Or.inl rfl
        · exact c w z
      · exact Or.inr (Or.inl rfl)
      · show (cO s).length + (16 :: cW s).length ≤ _
        rw [List.length_cons]
        omega
    rw [if_neg c5] at f0 ⊢
    by_cases c6 : ¬ t = 25 ∧ ¬ (7 ≤ t ∧ t ≤ 15)
    · rw [if_pos c6] at f0
      exact absurd f0 (by simp)
    rw [if_neg c6]
    refine ⟨⟨a, b, c, d, ?_, ?_, ?_⟩, ?_⟩
    · show (0 : Int) ≤ 2 ∧ (2 : Int) ≤ 2
      omega
    · exact Or.inr (Or.inl rfl)
    · exact Or.inr (g.resolve_left c2)
    · show ((if t = 25 then 100 + n else t) :: cO s).length + (cW s).length ≤ _
      rw [List.length_cons]
      omega
  rw [if_neg c3] at f0 ⊢
  have s2 : cS s = 2 := by omega
  have hn := f.resolve_left c2
  by_cases c4 : 18 ≤ t ∧ t ≤ 20
  · rw [if_pos c4]
    exact jnS_CI h0 s2 (Or.inr (Or.inr (by omega))) (by omega) (by unfold bndT; repeat' split; all_goals omega) hn
  rw [if_neg c4] at f0 ⊢
  by_cases c5 : 0 < cP s
  · rw [if_pos c5] at f0 ⊢
    by_cases c6 : ¬ t = 17
    · rw [if_pos c6] at f0
      exact absurd f0 (by simp)
    rw [if_neg c6]
    have l := pp_len (b := 1) (cW s) (cO s)
    obtain ⟨r, hr⟩ := pp_top (o := cO s) c (by omega)
    have o16 := pp_16 (b := 1) (by decide) (cW s) (cO s)
    have mm := pp_mem (b := 1) (cW s) (cO s) c
    rw [hr] at o16 l mm
    rw [op16, if_pos rfl] at o16
    rw [List.length_cons] at l
    refine ⟨⟨?_, ?_, ?_, d, e, f, g⟩, ?_⟩
    · show op16 (pp 1 (cO s) (cW s)).2.tail = cP s - 1
      rw [hr, List.tail_cons]
      omega
    · show 0 ≤ cP s - 1 ∧ cP s - 1 ≤ 6
      omega
    · show ∀ w ∈ (pp 1 (cO s) (cW s)).2.tail, okW w
      rw [hr, List.tail_cons]
      exact fun w hw => mm w (List.mem_cons_of_mem _ hw)
    · show (pp 1 (cO s) (cW s)).1.length + (pp 1 (cO s) (cW s)).2.tail.length ≤ _
      rw [hr, List.tail_cons]
      omega
  rw [if_neg c5] at f0 ⊢
  by_cases c6 : (21 ≤ t ∧ t ≤ 23) ∧ cD s = 1
  · rw [if_pos c6]
    exact jnS_CI h0 s2 (Or.inr (Or.inr (by omega))) (by omega) (by unfold bndT; repeat' split; all_goals omega) hn
  rw [if_neg c6] at f0 ⊢
  by_cases c7 : (t = 4 ∨ t = 5) ∧ cD s = 2
  · rw [if_pos c7]
    exact jnS_CI h0 s2 (Or.inr (Or.inl (by omega))) (by omega) (by unfold bndT; repeat' split; all_goals omega) (Or.inr rfl)
  rw [if_neg c7] at f0 ⊢
  by_cases c8 : t = 24 ∧ ¬ cD s = 1
  · rw [if_pos c8]
    have l := pp_len (b := 1) (cW s) (cO s)
    have o16 := pp_16 (b := 1) (by decide) (cW s) (cO s)
    refine ⟨⟨?_, b, pp_mem _ _ c, ?_, ?_, Or.inl rfl, Or.inl rfl⟩, ?_⟩
    · show op16 (pp 1 (cO s) (cW s)).2 = cP s
      omega
    · show 0 ≤ cL s + 1 ∧ cL s + 1 ≤ 12
      have := g.resolve_left c2
      omega
    · show (0 : Int) ≤ 0 ∧ (0 : Int) ≤ 2
      omega
    · show (pp 1 (cO s) (cW s)).1.length + (pp 1 (cO s) (cW s)).2.length ≤ _
      omega
  · rw [if_neg c8] at f0
    exact absurd f0 (by simp)
theorem stp1_26 {n : Int} {s : CS} (f0 : (stp1 26 n s).1 = 0) : (stp1 26 n s).2 = s := by
  unfold stp1 at f0 ⊢
  rw [if_neg (by decide)] at f0 ⊢
  by_cases c2 : cS s = 0
  · rw [if_pos c2, if_pos rfl]
  rw [if_neg c2] at f0 ⊢
  by_cases c3 : cS s = 1
  · rw [if_pos c3, if_neg (by omega), if_neg (by decide), if_pos (by decide)] at f0
    exact absurd f0 (by simp)
  rw [if_neg c3, if_neg (by decide)] at f0
  by_cases c5 : 0 < cP s
  · rw [if_pos c5, if_pos (by decide)] at f0
    exact absurd f0 (by simp)
  rw [if_neg c5, if_neg (by omega), if_neg (by omega), if_neg (by omega)] at f0
  exact absurd f0 (by simp)
