/-! ===== text: what a token is, on both sides (wip/gen/tx0.body) ===== -/
def rnN (lo hi : Int) (T : Int → Int) (u : Int) : Nat → Int → Int
  | 0, p => p
  | n + 1, p => if p < u ∧ (lo ≤ T p ∧ T p ≤ hi) then rnN lo hi T u n (p + 1) else p
def rn (lo hi : Int) (T : Int → Int) (u p : Int) : Int := rnN lo hi T u (u - p).toNat p
theorem rn_s {lo hi : Int} {T : Int → Int} {u p : Int} (h : p < u ∧ (lo ≤ T p ∧ T p ≤ hi)) : rn lo hi T u p = rn lo hi T u (p + 1) := by
  unfold rn
  have e : (u - p).toNat = (u - (p + 1)).toNat + 1 := by omega
  rw [e, rnN, if_pos h]
theorem rn_e {lo hi : Int} {T : Int → Int} {u p : Int} (h : ¬ (p < u ∧ (lo ≤ T p ∧ T p ≤ hi))) : rn lo hi T u p = p := by
  unfold rn
  cases e : (u - p).toNat with
  | zero => rfl
  | succ n => rw [rnN, if_neg h]
theorem rnN_in {lo hi : Int} {T : Int → Int} {u : Int} : ∀ (n : Nat) (p : Int), p ≤ rnN lo hi T u n p ∧ (p ≤ u → rnN lo hi T u n p ≤ u)
  | 0, p => ⟨Int.le_refl _, fun h => h⟩
  | n + 1, p => by
    rw [rnN]
    by_cases c : p < u ∧ (lo ≤ T p ∧ T p ≤ hi)
    · rw [if_pos c]
      have := rnN_in (lo := lo) (hi := hi) (T := T) (u := u) n (p + 1)
      exact ⟨by omega, fun _ => this.2 (by omega)⟩
    · rw [if_neg c]
      exact ⟨Int.le_refl _, fun h => h⟩
theorem rn_in {lo hi : Int} {T : Int → Int} {u p : Int} : p ≤ rn lo hi T u p ∧ (p ≤ u → rn lo hi T u p ≤ u) := rnN_in _ _
/-- the first place behind that fits no more -/
theorem rnN_end {lo hi : Int} {T : Int → Int} {u : Int} : ∀ (n : Nat) (p : Int), u ≤ p + n → ¬ (rnN lo hi T u n p < u ∧ (lo ≤ T (rnN lo hi T u n p) ∧ T (rnN lo hi T u n p) ≤ hi))
  | 0, p, h => fun z => by
    have : rnN lo hi T u 0 p = p := rfl
    omega
  | n + 1, p, h => by
    rw [rnN]
    by_cases c : p < u ∧ (lo ≤ T p ∧ T p ≤ hi)
    · rw [if_pos c]
      exact rnN_end n (p + 1) (by omega)
    · rw [if_neg c]
      exact c
theorem rn_end {lo hi : Int} {T : Int → Int} {u p : Int} : ¬ (rn lo hi T u p < u ∧ (lo ≤ T (rn lo hi T u p) ∧ T (rn lo hi T u p) ≤ hi)) := rnN_end _ _ (by omega)
/-- a word that stands on the tape -/
def isW (T : Int → Int) (s : Int) : List Int → Bool
  | [] => true
  | c :: l => decide (T s = c) && isW T (s + 1) l
def nmF (T : Int → Int) (s e : Int) : List (Int × List Int) → Int
  | [] => 27
  | w :: r => if e - s = (w.2.length : Int) ∧ isW T s w.2 = true then w.1 else nmF T s e r
def nmG (T : Int → Int) (s e : Int) (d : Int) : List (Int × List Int) → Int
  | [] => d
  | w :: r => nmG T s e (if e - s = (w.2.length : Int) ∧ isW T s w.2 = true then w.1 else d) r
def wdL : List (Int × List Int) := [(0, [98, 97, 114]), (1, [112, 97, 121]), (2, [97, 115, 107]), (3, [98, 97, 99, 107]), (4, [111, 114]), (5, [97, 110, 100]), (6, [110, 111, 116]), (7, [119, 105, 110, 100]), (8, [114, 97, 105, 110]), (9, [115, 110, 111, 119]), (10, [113, 117, 97, 114, 116, 101, 114]), (11, [103, 114, 97, 100, 101]), (12, [112, 101, 111, 112, 108, 101]), (13, [104, 97, 114, 100]), (14, [108, 101, 110, 103, 116, 104]), (15, [100, 97, 121])]
theorem isW_eq {T : Int → Int} : ∀ {v w : List Int} {s : Int}, v.length = w.length → isW T s v = true → isW T s w = true → v = w
  | [], [], _, _, _, _ => rfl
  | [], _ :: _, _, h, _, _ => by simp at h
  | _ :: _, [], _, h, _, _ => by simp at h
  | a :: v, b :: w, s, h, h1, h2 => by
    simp only [isW, Bool.and_eq_true, decide_eq_true_eq] at h1 h2
    have e := isW_eq (by simpa using h) h1.2 h2.2
    rw [e, ← h1.1, ← h2.1]
theorem nmG_no {T : Int → Int} {s e d : Int} : ∀ {L : List (Int × List Int)}, (∀ w ∈ L, ¬ (e - s = (w.2.length : Int) ∧ isW T s w.2 = true)) → nmG T s e d L = d
  | [], _ => rfl
  | w :: r, h => by
    rw [nmG, if_neg (h w (List.mem_cons_self ..))]
    exact nmG_no (fun x hx => h x (List.mem_cons_of_mem _ hx))
theorem nmG_eq {T : Int → Int} {s e : Int} : ∀ {L : List (Int × List Int)}, L.Pairwise (fun x y => x.2 ≠ y.2) → nmG T s e 27 L = nmF T s e L
  | [], _ => rfl
  | w :: r, h => by
    rw [nmG, nmF]
    have h1 := List.pairwise_cons.mp h
    by_cases c : e - s = (w.2.length : Int) ∧ isW T s w.2 = true
    · rw [if_pos c, if_pos c]
      refine nmG_no (fun x hx z => h1.1 x hx (isW_eq (by omega) c.2 z.2))
    · rw [if_neg c, if_neg c]
      exact nmG_eq h1.2
theorem wdL_pw : wdL.Pairwise (fun x y => x.2 ≠ y.2) := by decide
theorem nmF_in {T : Int → Int} {s e : Int} : ∀ {L : List (Int × List Int)}, (∀ w ∈ L, 0 ≤ w.1 ∧ w.1 ≤ 15) → (0 ≤ nmF T s e L ∧ nmF T s e L ≤ 15) ∨ nmF T s e L = 27
  | [], _ => Or.inr rfl
  | w :: r, h => by
    rw [nmF]
    by_cases c : e - s = (w.2.length : Int) ∧ isW T s w.2 = true
    · rw [if_pos c]
      exact Or.inl (h w (List.mem_cons_self ..))
    · rw [if_neg c]
      exact nmF_in (fun x hx => h x (List.mem_cons_of_mem _ hx))
/-- what figures make: the class holds it, the model takes four of them -/
def nvC (T : Int → Int) (u : Int) : Nat → Int → Int → Int
  | 0, _, v => v
  | n + 1, p, v => if p < u ∧ (48 ≤ T p ∧ T p ≤ 57) then nvC T u n (p + 1) (min (v * 10 + T p - 48) 1000000) else v
def nvM (T : Int → Int) (u s : Int) : Nat → Int → Int → Int
  | 0, _, v => v
  | n + 1, p, v => if p < u ∧ (48 ≤ T p ∧ T p ≤ 57) then nvM T u s n (p + 1) (if p - s < 4 then 10 * v + T p - 48 else v) else v
theorem nv_eq {T : Int → Int} {u s : Int} : ∀ (n : Nat) (p v : Int), u ≤ p + n → s ≤ p → 0 ≤ v → (p - s = 0 → v = 0) → (p - s = 1 → v ≤ 9) → (p - s = 2 → v ≤ 99) → (p - s = 3 → v ≤ 999) → v ≤ 9999 → rnN 48 57 T u n p - s ≤ 4 → nvC T u n p v = nvM T u s n p v ∧ 0 ≤ nvC T u n p v ∧ nvC T u n p v ≤ 9999
  | 0, p, v, _, _, v0, _, _, _, _, v1, _ => ⟨rfl, v0, v1⟩
  | n + 1, p, v, hn, hs, v0, a0, a1, a2, a3, v1, hr => by
    rw [rnN] at hr
    rw [nvC, nvM]
    by_cases c : p < u ∧ (48 ≤ T p ∧ T p ≤ 57)
    · rw [if_pos c] at hr
      rw [if_pos c, if_pos c]
      have l := (rnN_in (lo := 48) (hi := 57) (T := T) (u := u) n (p + 1)).1
      have p4 : p - s < 4 := by omega
      rw [if_pos p4]
      have e : min (v * 10 + T p - 48) 1000000 = 10 * v + T p - 48 := by omega
      rw [e]
      exact nv_eq n (p + 1) _ (by omega) (by omega) (by omega) (by omega) (by omega) (by omega) (by omega) (by omega) hr
    · rw [if_neg c, if_neg c]
      exact ⟨rfl, v0, v1⟩
theorem nvC_s {T : Int → Int} {u p v : Int} (h : p < u ∧ (48 ≤ T p ∧ T p ≤ 57)) : nvC T u (u - p).toNat p v = nvC T u (u - (p + 1)).toNat (p + 1) (min (v * 10 + T p - 48) 1000000) := by
  have e : (u - p).toNat = (u - (p + 1)).toNat + 1 := by omega
  rw [e, nvC, if_pos h]
theorem nvC_e {T : Int → Int} {u p v : Int} (h : ¬ (p < u ∧ (48 ≤ T p ∧ T p ≤ 57))) : nvC T u (u - p).toNat p v = v := by
  cases e : (u - p).toNat with
  | zero => rfl
  | succ n => rw [nvC, if_neg h]
theorem nvM_s {T : Int → Int} {u s p v : Int} (h : p < u ∧ (48 ≤ T p ∧ T p ≤ 57)) : nvM T u s (u - p).toNat p v = nvM T u s (u - (p + 1)).toNat (p + 1) (if p - s < 4 then 10 * v + T p - 48 else v) := by
  have e : (u - p).toNat = (u - (p + 1)).toNat + 1 := by omega
  rw [e, nvM, if_pos h]
theorem nvM_e {T : Int → Int} {u s p v : Int} (h : ¬ (p < u ∧ (48 ≤ T p ∧ T p ≤ 57))) : nvM T u s (u - p).toNat p v = v := by
  cases e : (u - p).toNat with
  | zero => rfl
  | succ n => rw [nvM, if_neg h]
def sgC (c : Int) : Int := if c = 40 then 16 else if c = 41 then 17 else if c = 43 then 18 else if c = 45 then 19 else if c = 42 then 20 else if c = 60 then 21 else if c = 62 then 22 else if c = 61 then 23 else if c = 59 then 24 else 27
/-- the token at p: where it begins, its sort, its number, where it ends -/
def tkS (T : Int → Int) (u p : Int) : Int := rn 32 32 T u p
def tkT (T : Int → Int) (u p : Int) : Int :=
  if u ≤ tkS T u p then 26
  else if 97 ≤ T (tkS T u p) ∧ T (tkS T u p) ≤ 122 then nmF T (tkS T u p) (rn 97 122 T u (tkS T u p)) wdL
  else if 48 ≤ T (tkS T u p) ∧ T (tkS T u p) ≤ 57 then (if 4 < rn 48 57 T u (tkS T u p) - tkS T u p then 27 else 25)
  else sgC (T (tkS T u p))
def tkV (T : Int → Int) (u p : Int) : Int := nvC T u (u - tkS T u p).toNat (tkS T u p) 0
def tkX (T : Int → Int) (u p : Int) : Int :=
  if u ≤ tkS T u p then tkS T u p
  else if 97 ≤ T (tkS T u p) ∧ T (tkS T u p) ≤ 122 then rn 97 122 T u (tkS T u p)
  else if 48 ≤ T (tkS T u p) ∧ T (tkS T u p) ≤ 57 then rn 48 57 T u (tkS T u p)
  else tkS T u p + 1
theorem tkn_in {T : Int → Int} {u p : Int} (hp : p ≤ u) : p ≤ tkS T u p ∧ tkS T u p ≤ tkX T u p ∧ tkX T u p ≤ u ∧ (¬ tkT T u p = 26 → tkS T u p < tkX T u p) ∧ (tkT T u p = 26 → tkX T u p = u ∧ tkS T u p = u) := by
  have a := rn_in (lo := 32) (hi := 32) (T := T) (u := u) (p := p)
  unfold tkT tkX
  unfold tkS
  generalize rn 32 32 T u p = s at *
  have a2 := a.2 hp
  by_cases c : u ≤ s
  · rw [if_pos c, if_pos c]
    exact ⟨a.1, Int.le_refl _, a2, fun z => absurd rfl z, fun _ => ⟨by omega, by omega⟩⟩
  rw [if_neg c, if_neg c]
  by_cases c1 : 97 ≤ T s ∧ T s ≤ 122
  · rw [if_pos c1, if_pos c1, rn_s ⟨by omega, c1⟩]
    have b := rn_in (lo := 97) (hi := 122) (T := T) (u := u) (p := s + 1)
    have b2 := b.2 (by omega)
    refine ⟨a.1, by omega, b2, fun _ => by omega, fun z => ?_⟩
    have := nmF_in (T := T) (s := s) (e := rn 97 122 T u (s + 1)) (L := wdL) (by decide)
    omega
  rw [if_neg c1, if_neg c1]
  by_cases c2 : 48 ≤ T s ∧ T s ≤ 57
  · rw [if_pos c2, if_pos c2, rn_s ⟨by omega, c2⟩]
    have b := rn_in (lo := 48) (hi := 57) (T := T) (u := u) (p := s + 1)
    have b2 := b.2 (by omega)
    refine ⟨a.1, by omega, b2, fun _ => by omega, fun z => ?_⟩
    split at z <;> omega
  rw [if_neg c2, if_neg c2]
  refine ⟨a.1, by omega, by omega, fun _ => by omega, fun z => ?_⟩
  unfold sgC at z
  (repeat' split at z) <;> omega
theorem tkT_in {T : Int → Int} {u p : Int} : 0 ≤ tkT T u p ∧ tkT T u p ≤ 27 := by
  unfold tkT
  have h := nmF_in (T := T) (s := tkS T u p) (e := rn 97 122 T u (tkS T u p)) (L := wdL) (by decide)
  unfold sgC
  repeat' split
  all_goals omega
