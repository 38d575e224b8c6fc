/-! ===== the model's order, step by step ===== -/
def LLs (T : Int → Int) : Int → List Int → List Int := fun j L => L.erase (T j) ++ [T j]
def LL (T : Int → Int) (L0 : List Int) (i : Int) : List Int := itI (LLs T) L0 i
theorem LL_s {T : Int → Int} {L0 : List Int} {n : Int} (h : 0 ≤ n) : LL T L0 (n + 1) = (LL T L0 n).erase (T n) ++ [T n] := itI_succ h
theorem LL_fold {T : Int → Int} {L0 : List Int} : ∀ k : Nat, LL T L0 (k : Int) = (rowL T k).foldl (fun L t => L.erase t ++ [t]) L0
  | 0 => rfl
  | k + 1 => by
    have e : ((k + 1 : Nat) : Int) = (k : Int) + 1 := by omega
    rw [e, LL_s (by omega), rowL_s, List.foldl_append, LL_fold k]
    rfl
theorem LL_in {T : Int → Int} {L0 : List Int} {n t : Int} {c : Nat} (hl : L0.length = c) (hm : ∀ x, 0 ≤ x → x < n → x ∈ L0) (hT : ∀ j, 0 ≤ j → j < t → 0 ≤ T j ∧ T j < n) : ∀ k : Nat, (k : Int) ≤ t → (LL T L0 (k : Int)).length = c ∧ ∀ x, 0 ≤ x → x < n → x ∈ LL T L0 (k : Int)
  | 0, _ => ⟨hl, hm⟩
  | k + 1, hk => by
    obtain ⟨h1, h2⟩ := LL_in hl hm hT k (by omega)
    have e : ((k + 1 : Nat) : Int) = (k : Int) + 1 := by omega
    have q := hT (k : Int) (by omega) (by omega)
    rw [e, LL_s (by omega)]
    exact ⟨by rw [behind_len (h2 _ q.1 q.2), h1], fun x x0 x1 => behind_mem (h2 x x0 x1)⟩
theorem rowL_len {f : Int → Int} {c : Nat} : (rowL f c).length = c := by
  unfold rowL
  rw [List.length_map, List.length_range]
theorem rowL_get {f : Int → Int} {c k : Nat} (h : k < c) : (rowL f c)[k]? = some (f (k : Int)) := by
  unfold rowL
  rw [List.getElem?_map, List.getElem?_range h]
  rfl
def uF (T : Int → Int) (A : Int → Int) : Int → (Int → Int) := itI (fun j A => updI A (T j) 1) A
theorem uF_s {T : Int → Int} {A : Int → Int} {n : Int} (h : 0 ≤ n) : uF T A (n + 1) = updI (uF T A n) (T n) 1 := itI_succ h
/-- who is out, by bits and by a row -/
theorem out_bits {T A : Int → Int} {o n t : Int} (hn : 0 ≤ n ∧ n ≤ 8) (ho : 0 ≤ o ∧ o < 2 ^ n.toNat) (hA : ∀ g, 0 ≤ g → g < 8 → A g = bitI o g) (hT : ∀ j, 0 ≤ j → j < t → 0 ≤ T j ∧ T j < n) : ∀ k : Nat, (k : Int) ≤ t → (0 ≤ oF T o (k : Int) ∧ oF T o (k : Int) < 2 ^ n.toNat) ∧ ∀ g, 0 ≤ g → g < 8 → uF T A (k : Int) g = bitI (oF T o (k : Int)) g
  | 0, _ => ⟨ho, hA⟩
  | k + 1, hk => by
    obtain ⟨h1, h2⟩ := out_bits hn ho hA hT k (by omega)
    have e : ((k + 1 : Nat) : Int) = (k : Int) + 1 := by omega
    have q := hT (k : Int) (by omega) (by omega)
    have p := pw_le (a := n) (b := 8) hn.1 hn.2
    have e8 : (2 : Int) ^ (8 : Int).toNat = 256 := by decide
    rw [e8] at p
    rw [e, oF_s (by omega), uF_s (by omega)]
    refine ⟨orB_in h1.1 h1.2 q.1 q.2 hn.2, fun g g0 g1 => ?_⟩
    rw [orB_bit h1.1 (by omega) q.1 (by omega) g0 g1]
    unfold updI
    split
    · rfl
    · exact h2 g g0 g1
