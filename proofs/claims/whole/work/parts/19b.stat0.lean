/-! ===== the statute's words: what both sides work out of them ===== -/
/-- sorts of what lies on the stack: true a test's 0 or 1, false a number -/
def tyS (w : Int) (τ : List Bool) : Option (List Bool) :=
  if 100 ≤ w ∧ w ≤ 10099 then some (false :: τ) else
  if 7 ≤ w ∧ w ≤ 15 then some (false :: τ) else
  if w = 6 then (match τ with | true :: r => some (true :: r) | _ => none) else
  if w = 4 ∨ w = 5 then (match τ with | true :: true :: r => some (true :: r) | _ => none) else
  if 18 ≤ w ∧ w ≤ 20 then (match τ with | _ :: _ :: r => some (false :: r) | _ => none) else
  if 21 ≤ w ∧ w ≤ 23 then (match τ with | _ :: _ :: r => some (true :: r) | _ => none) else none
def clM (x : Int) : Int := max (-1000000) (min 1000000 x)
def opW (w a b : Int) : Int :=
  if w = 18 then clM (a + b) else if w = 19 then clM (a - b) else if w = 20 then clM (a * b) else
  if w = 21 then (if a < b then 1 else 0) else if w = 22 then (if b < a then 1 else 0) else if w = 23 then (if a = b then 1 else 0) else
  if w = 5 then (if a + b = 2 then 1 else 0) else (if 0 < a + b then 1 else 0)
def stW (vars : Int → Int) (w : Int) (st : List Int) : List Int :=
  if 100 ≤ w then (w - 100) :: st else if 7 ≤ w ∧ w ≤ 15 then vars (w - 7) :: st else
  if w = 6 then (match st with | x :: r => (1 - x) :: r | [] => []) else (match st with | b :: a :: r => opW w a b :: r | st => st)
def TS : List Bool → List Int → Prop
  | [], [] => True
  | t :: τ, x :: st => ((-1000000 ≤ x ∧ x ≤ 1000000) ∧ (t = true → x = 0 ∨ x = 1)) ∧ TS τ st
  | _, _ => False
theorem TS_len : ∀ {τ : List Bool} {st : List Int}, TS τ st → st.length = τ.length
  | [], [], _ => rfl
  | [], _ :: _, h => h.elim
  | _ :: _, [], h => h.elim
  | _ :: τ, _ :: st, h => by simp [TS_len h.2]
def okV (vars : Int → Int) : Prop := ∀ j, 0 ≤ j → j < 9 → -1000000 ≤ vars j ∧ vars j ≤ 1000000
/-- what a step does, case by case -/
theorem tyS_cases {w : Int} {τ τ1 : List Bool} {st : List Int} {vars : Int → Int} (h : tyS w τ = some τ1) (hs : TS τ st) :
    ((100 ≤ w ∧ w ≤ 10099) ∧ τ1 = false :: τ ∧ stW vars w st = (w - 100) :: st) ∨
    ((7 ≤ w ∧ w ≤ 15) ∧ τ1 = false :: τ ∧ stW vars w st = vars (w - 7) :: st) ∨
    (w = 6 ∧ τ1 = τ ∧ ∃ x r, st = x :: r ∧ (x = 0 ∨ x = 1) ∧ stW vars w st = (1 - x) :: r ∧ ∃ r1, τ = true :: r1 ∧ TS r1 r) ∨
    (((w = 4 ∨ w = 5) ∨ (18 ≤ w ∧ w ≤ 23)) ∧ ∃ a b r t r1, st = b :: a :: r ∧ stW vars w st = opW w a b :: r ∧ τ1 = t :: r1 ∧ TS r1 r ∧ ((-1000000 ≤ a ∧ a ≤ 1000000) ∧ (-1000000 ≤ b ∧ b ≤ 1000000)) ∧ ((w = 4 ∨ w = 5) → (a = 0 ∨ a = 1) ∧ (b = 0 ∨ b = 1)) ∧ (t = true → ¬ (18 ≤ w ∧ w ≤ 20))) := by
  unfold tyS at h
  by_cases c1 : 100 ≤ w ∧ w ≤ 10099
  · rw [if_pos c1] at h
    cases h
    exact Or.inl ⟨c1, rfl, by unfold stW; rw [if_pos c1.1]⟩
  rw [if_neg c1] at h
  by_cases c2 : 7 ≤ w ∧ w ≤ 15
  · rw [if_pos c2] at h
    cases h
    exact Or.inr (Or.inl ⟨c2, rfl, by unfold stW; rw [if_neg (by omega), if_pos c2]⟩)
  rw [if_neg c2] at h
  by_cases c3 : w = 6
  · rw [if_pos c3] at h
    match τ, st, h, hs with
    | true :: r1, x :: r, h, hs =>
      cases h
      refine Or.inr (Or.inr (Or.inl ⟨c3, rfl, x, r, rfl, hs.1.2 rfl, by unfold stW; rw [if_neg (by omega), if_neg (by omega), if_pos c3], r1, rfl, hs.2⟩))
  rw [if_neg c3] at h
  by_cases c4 : w = 4 ∨ w = 5
  · rw [if_pos c4] at h
    match τ, st, h, hs with
    | true :: true :: r1, b :: a :: r, h, hs =>
      cases h
      refine Or.inr (Or.inr (Or.inr ⟨Or.inl c4, a, b, r, true, r1, rfl, by unfold stW; rw [if_neg (by omega), if_neg (by omega), if_neg c3], rfl, hs.2.2, ⟨hs.2.1.1, hs.1.1⟩, fun _ => ⟨hs.2.1.2 rfl, hs.1.2 rfl⟩, fun _ => by omega⟩))
  rw [if_neg c4] at h
  by_cases c5 : 18 ≤ w ∧ w ≤ 20
  · rw [if_pos c5] at h
    match τ, st, h, hs with
    | _ :: _ :: r1, b :: a :: r, h, hs =>
      cases h
      refine Or.inr (Or.inr (Or.inr ⟨Or.inr (by omega), a, b, r, false, r1, rfl, by unfold stW; rw [if_neg (by omega), if_neg (by omega), if_neg c3], rfl, hs.2.2, ⟨hs.2.1.1, hs.1.1⟩, fun _ => by omega, fun z => by cases z⟩))
  rw [if_neg c5] at h
  by_cases c6 : 21 ≤ w ∧ w ≤ 23
  · rw [if_pos c6] at h
    match τ, st, h, hs with
    | _ :: _ :: r1, b :: a :: r, h, hs =>
      cases h
      refine Or.inr (Or.inr (Or.inr ⟨Or.inr (by omega), a, b, r, true, r1, rfl, by unfold stW; rw [if_neg (by omega), if_neg (by omega), if_neg c3], rfl, hs.2.2, ⟨hs.2.1.1, hs.1.1⟩, fun _ => by omega, fun _ => c5⟩))
  rw [if_neg c6] at h
  cases h
theorem clM_in (x : Int) : -1000000 ≤ clM x ∧ clM x ≤ 1000000 := by unfold clM; omega
theorem opW_in {w a b : Int} : (-1000000 ≤ opW w a b ∧ opW w a b ≤ 1000000) ∧ (¬ (18 ≤ w ∧ w ≤ 20) → opW w a b = 0 ∨ opW w a b = 1) := by
  have c1 := clM_in (a + b)
  have c2 := clM_in (a - b)
  have c3 := clM_in (a * b)
  unfold opW
  repeat' split
  all_goals omega
theorem TS_step {w : Int} {τ τ1 : List Bool} {st : List Int} {vars : Int → Int} (hv : okV vars) (h : tyS w τ = some τ1) (hs : TS τ st) : TS τ1 (stW vars w st) := by
  rcases tyS_cases (vars := vars) h hs with ⟨c, rfl, e⟩ | ⟨c, rfl, e⟩ | ⟨c, rfl, x, r, rfl, hx, e, r1, rfl, q⟩ | ⟨c, a, b, r, t, r1, rfl, e, rfl, q, hab, ht, hn⟩
  · rw [e]
    exact ⟨⟨by omega, fun z => by cases z⟩, hs⟩
  · rw [e]
    exact ⟨⟨hv _ (by omega) (by omega), fun z => by cases z⟩, hs⟩
  · rw [e]
    exact ⟨⟨by omega, fun _ => by omega⟩, q⟩
  · rw [e]
    exact ⟨⟨opW_in.1, fun z => opW_in.2 (hn z)⟩, q⟩
def evW (C : Int → Int) (vars : Int → Int) : Nat → Int → List Int → List Int
  | 0, _, st => st
  | n + 1, i, st => evW C vars n (i + 1) (stW vars (C i) st)
/-- a word of the class and a word of the model -/
def cmap (w : Int) : Int := if 100 ≤ w then w - 100 else if 7 ≤ w then (if w ≤ 15 then 6 - w else if w = 18 then -143 else if w = 19 then -145 else if w = 20 then -142 else if w = 21 then -160 else if w = 22 then -162 else -161) else if w = 6 then -133 else if w = 5 then -138 else -224
/-- the class's n words from i on are the model's from k to f; two NOTs one behind the other may be left out there -/
def Seg (C R : Int → Int) (f : Int) : Nat → Int → Int → Bool → List Bool → Prop
  | 0, _, k, par, τ => k = f ∧ par = false ∧ τ.length = 1
  | n + 1, i, k, false, τ => (∃ τ1, tyS (C i) τ = some τ1 ∧ k < f ∧ R k = cmap (C i) ∧ Seg C R f n (i + 1) (k + 1) false τ1) ∨ (C i = 6 ∧ (∃ r, τ = true :: r) ∧ Seg C R f n (i + 1) k true τ)
  | n + 1, i, k, true, τ => C i = 6 ∧ (∃ r, τ = true :: r) ∧ Seg C R f n (i + 1) k false τ
theorem tyS_not {r : List Bool} : tyS 6 (true :: r) = some (true :: r) := by
  unfold tyS
  rw [if_neg (by omega), if_neg (by omega), if_pos rfl]
theorem Seg_ty {C R : Int → Int} {f : Int} {n : Nat} {i k : Int} {p : Bool} {τ : List Bool} (h : Seg C R f (n + 1) i k p τ) : ∃ k1 p1 τ1, tyS (C i) τ = some τ1 ∧ Seg C R f n (i + 1) k1 p1 τ1 := by
  cases p with
  | false =>
    rcases h with ⟨τ1, a, b, c, d⟩ | ⟨a, ⟨r, rfl⟩, c⟩
    · exact ⟨_, _, _, a, d⟩
    · exact ⟨_, _, _, by rw [a]; exact tyS_not, c⟩
  | true =>
    obtain ⟨a, ⟨r, rfl⟩, c⟩ := h
    exact ⟨_, _, _, by rw [a]; exact tyS_not, c⟩
theorem Seg_le {C R : Int → Int} {f : Int} : ∀ {n : Nat} {i k : Int} {p : Bool} {τ : List Bool}, Seg C R f n i k p τ → k ≤ f
  | 0, _, _, _, _, h => by have := h.1; omega
  | n + 1, i, k, false, τ, h => by
    rcases h with ⟨τ1, a, b, c, d⟩ | ⟨a, b, c⟩
    · omega
    · exact Seg_le c
  | n + 1, i, k, true, τ, h => Seg_le h.2.2
theorem evW_len {C R : Int → Int} {vars : Int → Int} {f : Int} (hv : okV vars) : ∀ {n : Nat} {i k : Int} {p : Bool} {τ : List Bool} {st : List Int}, Seg C R f n i k p τ → TS τ st → ∃ x, evW C vars n i st = [x]
  | 0, i, k, p, τ, st, h, hs => by
    have e := TS_len hs
    rw [h.2.2] at e
    match st, e with
    | [x], _ => exact ⟨x, rfl⟩
  | n + 1, i, k, p, τ, st, h, hs => by
    obtain ⟨k1, p1, τ1, a, b⟩ := Seg_ty h
    show ∃ x, evW C vars n (i + 1) (stW vars (C i) st) = [x]
    exact evW_len hv b (TS_step hv a hs)
/-- the model's next word: the class's words up to it come to nothing -/
theorem Seg_next {C R : Int → Int} {f : Int} {vars : Int → Int} (hv : okV vars) : ∀ {n : Nat} {i k : Int} {τ : List Bool} {st : List Int}, Seg C R f n i k false τ → TS τ st →
    (k = f ∧ evW C vars n i st = st) ∨ (k < f ∧ ∃ (m : Nat) (j : Int) (τ1 : List Bool), tyS (C j) τ = some τ1 ∧ R k = cmap (C j) ∧ Seg C R f m (j + 1) (k + 1) false τ1 ∧ evW C vars n i st = evW C vars m (j + 1) (stW vars (C j) st))
  | 0, i, k, τ, st, h, hs => Or.inl ⟨h.1, rfl⟩
  | n + 1, i, k, τ, st, h, hs => by
    rcases h with ⟨τ1, a, b, c, d⟩ | ⟨a, ⟨r, rfl⟩, c⟩
    · exact Or.inr ⟨b, n, i, τ1, a, c, d, rfl⟩
    · match n, c with
      | 0, c => cases c.2.1
      | m + 1, c =>
        obtain ⟨d, -, e⟩ := c
        match st, hs with
        | x :: s, hs =>
          have hx := hs.1.2 rfl
          have q : evW C vars (m + 2) i (x :: s) = evW C vars m (i + 1 + 1) (x :: s) := by
            show evW C vars m (i + 1 + 1) (stW vars (C (i + 1)) (stW vars (C i) (x :: s))) = _
            rw [a, d]
            have e1 : stW vars 6 (x :: s) = (1 - x) :: s := by unfold stW; rw [if_neg (by omega), if_neg (by omega), if_pos rfl]
            have e2 : stW vars 6 ((1 - x) :: s) = (1 - (1 - x)) :: s := by unfold stW; rw [if_neg (by omega), if_neg (by omega), if_pos rfl]
            have e3 : 1 - (1 - x) = x := by omega
            rw [e1, e2, e3]
          rw [q]
          exact Seg_next hv e hs
/-- a stack in memory: its top last -/
def SM (M : Mem) (p : Nat) : List Int → Prop
  | [] => True
  | x :: r => M p 0 (r.length : Int) = x ∧ SM M p r
theorem SM_set {M : Mem} {p : Nat} {j v : Int} : ∀ {st : List Int}, (st.length : Int) ≤ j → SM M p st → SM (mset M p 0 j v) p st
  | [], _, _ => trivial
  | x :: r, h, q => by
    have e : ((x :: r).length : Int) = (r.length : Int) + 1 := by simp
    refine ⟨?_, SM_set (by omega) q.2⟩
    rw [ms_f, if_neg (by omega)]
    exact q.1
def hd0 : List Int → Int
  | x :: _ => x
  | [] => 0
def bgC (M : Mem) (z : Int) : Int := if z = 0 then 0 else M 47 0 (z - 1)
def SegL (M : Mem) (z : Int) : Prop := Seg (M 45 0) (M 93 0) (M 92 0 (z + 1)) (M 47 0 z - bgC M z).toNat (bgC M z) (M 92 0 z) false []
def wkL (M : Mem) (vars : Int → Int) (z : Int) : Int := hd0 (evW (M 45 0) vars (M 47 0 z - bgC M z).toNat (bgC M z) [])
theorem and01 {a b : Int} (ha : a = 0 ∨ a = 1) (hb : b = 0 ∨ b = 1) : (Int64.ofInt a &&& Int64.ofInt b).toInt = if a + b = 2 then 1 else 0 := by
  rcases ha with rfl | rfl <;> rcases hb with rfl | rfl <;> decide
theorem or01 {a b : Int} (ha : a = 0 ∨ a = 1) (hb : b = 0 ∨ b = 1) : (Int64.ofInt a ||| Int64.ofInt b).toInt = if 0 < a + b then 1 else 0 := by
  rcases ha with rfl | rfl <;> rcases hb with rfl | rfl <;> decide
theorem mul_in {a b : Int} (ha : -1000000 ≤ a ∧ a ≤ 1000000) (hb : -1000000 ≤ b ∧ b ≤ 1000000) : -1000000000000 ≤ a * b ∧ a * b ≤ 1000000000000 := by
  have h1 : a.natAbs ≤ 1000000 := by omega
  have h2 : b.natAbs ≤ 1000000 := by omega
  have h3 := Nat.mul_le_mul h1 h2
  have e : (a * b).natAbs = a.natAbs * b.natAbs := Int.natAbs_mul a b
  omega
