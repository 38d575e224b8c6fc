/-! ===== text: the class's reading as one function (wip/gen/tx1.body) ===== -/
def stk (F : Int → Int) : Nat → List Int
  | 0 => []
  | n + 1 => F (n : Int) :: stk F n
theorem stk_cg {F G : Int → Int} : ∀ n : Nat, (∀ j, 0 ≤ j → j < (n : Int) → F j = G j) → stk F n = stk G n
  | 0, _ => rfl
  | n + 1, h => by
    rw [stk, stk, h n (by omega) (by omega), stk_cg n (fun j a b => h j a (by omega))]
theorem stk_len {F : Int → Int} : ∀ n : Nat, (stk F n).length = n
  | 0 => rfl
  | n + 1 => by rw [stk, List.length_cons, stk_len n]
theorem stk_up {F : Int → Int} {j v : Int} {n : Nat} (h : (n : Int) ≤ j) : stk (updI F j v) n = stk F n := stk_cg n (fun k a b => by
  rw [updI_f, if_neg (by omega)])
theorem stk_push {F : Int → Int} {j v : Int} (h : 0 ≤ j) : stk (updI F j v) (j + 1).toNat = v :: stk F j.toNat := by
  have e : (j + 1).toNat = j.toNat + 1 := by omega
  rw [e, stk, stk_up (by omega), updI_f, Int.toNat_of_nonneg h, if_pos rfl]
theorem stk_pop {F : Int → Int} {j : Int} (h : 1 ≤ j) : stk F j.toNat = F (j - 1) :: stk F (j - 1).toNat := by
  have e : j.toNat = (j - 1).toNat + 1 := by omega
  rw [e, stk, Int.toNat_of_nonneg (by omega)]
def bndT (t : Int) : Int := if t = 4 then 1 else if t = 5 then 2 else if t = 6 then 3 else if t = 18 ∨ t = 19 then 5 else if t = 20 then 6 else if 21 ≤ t ∧ t ≤ 23 then 4 else 0
def pp (b : Int) : List Int → List Int → List Int × List Int
  | o, [] => (o, [])
  | o, w :: ws => if b ≤ bndT w then pp b (w :: o) ws else (o, w :: ws)
theorem pp_len {b : Int} : ∀ (ws o : List Int), (pp b o ws).1.length + (pp b o ws).2.length = o.length + ws.length ∧ (pp b o ws).2.length ≤ ws.length
  | [], o => ⟨rfl, Nat.le_refl _⟩
  | w :: ws, o => by
    rw [pp]
    split
    · have := pp_len (b := b) ws (w :: o)
      simp only [List.length_cons] at *
      omega
    · simp
/-- the state: what is written, what waits (the last first), state, side, open, whether NOT may stand, lines, kinds, ends -/
abbrev CS := List Int × List Int × Int × Int × Int × Int × Int × (Int → Int) × (Int → Int)
def cO (s : CS) : List Int := s.1
def cW (s : CS) : List Int := s.2.1
def cS (s : CS) : Int := s.2.2.1
def cD (s : CS) : Int := s.2.2.2.1
def cP (s : CS) : Int := s.2.2.2.2.1
def cN (s : CS) : Int := s.2.2.2.2.2.1
def cL (s : CS) : Int := s.2.2.2.2.2.2.1
def cK (s : CS) : Int → Int := s.2.2.2.2.2.2.2.1
def cE (s : CS) : Int → Int := s.2.2.2.2.2.2.2.2
def jnS (t : Int) (s : CS) (sd nm : Int) : CS := ((pp (bndT t) (cO s) (cW s)).1, t :: (pp (bndT t) (cO s) (cW s)).2, 1, sd, cP s, nm, cL s, cK s, cE s)
/-- one token taken: its fault (0 none), the state behind it -/
def stp1 (t n : Int) (s : CS) : Int × CS :=
  if t = 27 then (1, s) else
  if cS s = 0 then
    (if t = 26 then (0, s) else if 3 < t then (2, s) else if 12 ≤ cL s then (4, s) else
      (0, (cO s, cW s, 1, (if t = 0 ∨ t = 3 then 1 else 0), cP s, (if t = 0 ∨ t = 3 then 1 else 0), cL s, updI (cK s) (cL s) t, cE s)))
  else if cS s = 1 then
    (if t = 6 ∧ cN s = 1 then (0, (cO s, 6 :: cW s, cS s, cD s, cP s, cN s, cL s, cK s, cE s)) else
     if t = 16 then (if 6 ≤ cP s then (3, s) else (0, (cO s, 16 :: cW s, cS s, cD s, cP s + 1, 0, cL s, cK s, cE s))) else
     if ¬ t = 25 ∧ ¬ (7 ≤ t ∧ t ≤ 15) then (2, s) else
      (0, ((if t = 25 then 100 + n else t) :: cO s, cW s, 2, cD s, cP s, 0, cL s, cK s, cE s)))
  else
    (if 18 ≤ t ∧ t ≤ 20 then (0, jnS t s (cD s) (cN s)) else
     if 0 < cP s then (if ¬ t = 17 then (2, s) else (0, ((pp 1 (cO s) (cW s)).1, (pp 1 (cO s) (cW s)).2.tail, cS s, cD s, cP s - 1, cN s, cL s, cK s, cE s))) else
     if (21 ≤ t ∧ t ≤ 23) ∧ cD s = 1 then (0, jnS t s 2 (cN s)) else
     if (t = 4 ∨ t = 5) ∧ cD s = 2 then (0, jnS t s 1 1) else
     if t = 24 ∧ ¬ cD s = 1 then (0, ((pp 1 (cO s) (cW s)).1, (pp 1 (cO s) (cW s)).2, 0, cD s, cP s, cN s, cL s + 1, cK s, updI (cE s) (cL s) (((pp 1 (cO s) (cW s)).1.length : Nat) : Int))) else
     (2, s))
/-- the whole reading from place p on: fault, where its token begins, the state -/
def rnC (T : Int → Int) (u : Int) : Nat → CS → Int → Int × Int × CS
  | 0, s, p => (0, p, s)
  | n + 1, s, p => if ¬ (stp1 (tkT T u p) (tkV T u p) s).1 = 0 then ((stp1 (tkT T u p) (tkV T u p) s).1, tkS T u p, s)
      else if tkT T u p = 26 then (0, tkS T u p, (stp1 (tkT T u p) (tkV T u p) s).2)
      else rnC T u n (stp1 (tkT T u p) (tkV T u p) s).2 (tkX T u p)
