/-! ===== text: the words of both sides, list by list (wip/gen/tx4.body) ===== -/
def Pre : List Int → List Int → Bool → List Bool → Prop
  | [], m, p, τ => m = [] ∧ p = false ∧ τ = []
  | w :: c, m, false, τ => (∃ τ0 m0, Pre c m0 false τ0 ∧ tyS w τ0 = some τ ∧ m = cmap w :: m0) ∨ (w = 6 ∧ (∃ r, τ = true :: r) ∧ Pre c m true τ)
  | w :: c, m, true, τ => w = 6 ∧ (∃ r, τ = true :: r) ∧ Pre c m false τ
def Hd (C : Int → Int) : Int → List Int → Prop
  | _, [] => True
  | i, w :: c => C (i - 1) = w ∧ Hd C (i - 1) c
theorem Hd_stk {C : Int → Int} : ∀ n : Nat, Hd C (n : Int) (stk C n)
  | 0 => trivial
  | n + 1 => by
    have e : ((n + 1 : Nat) : Int) - 1 = (n : Int) := by omega
    rw [stk]
    refine ⟨by rw [e], ?_⟩
    rw [e]
    exact Hd_stk n
theorem Hd_app {C : Int → Int} : ∀ (a b : List Int) (i : Int), Hd C i (a ++ b) → Hd C i a ∧ Hd C (i - (a.length : Int)) b
  | [], b, i, h => ⟨trivial, by show Hd C (i - 0) b; rw [Int.sub_zero]; exact h⟩
  | w :: a, b, i, h => by
    have q := Hd_app a b (i - 1) h.2
    refine ⟨⟨h.1, q.1⟩, ?_⟩
    have e : i - ((w :: a).length : Int) = i - 1 - (a.length : Int) := by simp; omega
    rw [e]
    exact q.2
theorem Pre_Seg {C R : Int → Int} {f : Int} : ∀ (c m : List Int) (p : Bool) (τ : List Bool) (n : Nat) (i k : Int), Pre c m p τ → Hd C i c → Hd R k m → Seg C R f n i k p τ → Seg C R f (n + c.length) (i - (c.length : Int)) (k - (m.length : Int)) false []
  | [], m, p, τ, n, i, k, h, _, _, s => by
    obtain ⟨rfl, rfl, rfl⟩ := h
    show Seg C R f n (i - 0) (k - 0) false []
    rw [Int.sub_zero, Int.sub_zero]
    exact s
  | w :: c, m, false, τ, n, i, k, h, hc, hm, s => by
    have e1 : n + (w :: c).length = (n + 1) + c.length := by simp; omega
    have e2 : i - ((w :: c).length : Int) = i - 1 - (c.length : Int) := by simp; omega
    have ei : i - 1 + 1 = i := by omega
    rw [e1, e2]
    rcases h with ⟨τ0, m0, h1, h2, rfl⟩ | ⟨h1, h2, h3⟩
    · have e3 : k - ((cmap w :: m0).length : Int) = k - 1 - (m0.length : Int) := by simp; omega
      have ek : k - 1 + 1 = k := by omega
      rw [e3]
      refine Pre_Seg c m0 false τ0 (n + 1) (i - 1) (k - 1) h1 hc.2 hm.2 ?_
      have l := Seg_le s
      refine Or.inl ⟨τ, ?_, by omega, ?_, ?_⟩
      · rw [hc.1]
        exact h2
      · rw [hc.1]
        exact hm.1
      · rw [ei, ek]
        exact s
    · refine Pre_Seg c m true τ (n + 1) (i - 1) k h3 hc.2 hm ?_
      refine ⟨by rw [hc.1]; exact h1, h2, ?_⟩
      rw [ei]
      exact s
  | w :: c, m, true, τ, n, i, k, h, hc, hm, s => by
    have e1 : n + (w :: c).length = (n + 1) + c.length := by simp; omega
    have e2 : i - ((w :: c).length : Int) = i - 1 - (c.length : Int) := by simp; omega
    have ei : i - 1 + 1 = i := by omega
    rw [e1, e2]
    refine Pre_Seg c m false τ (n + 1) (i - 1) k h.2.2 hc.2 hm ?_
    refine Or.inr ⟨by rw [hc.1]; exact h.1, h.2.1, ?_⟩
    rw [ei]
    exact s
theorem PreW {w : Int} {c m : List Int} {τ τ1 : List Bool} (h : Pre c m false τ) (t : tyS w τ = some τ1) : Pre (w :: c) (cmap w :: m) false τ1 := Or.inl ⟨τ, m, h, t, rfl⟩
theorem ty_val {w : Int} {τ : List Bool} (h : (100 ≤ w ∧ w ≤ 10099) ∨ (7 ≤ w ∧ w ≤ 15)) : tyS w τ = some (false :: τ) := by
  unfold tyS
  by_cases c : 100 ≤ w ∧ w ≤ 10099
  · rw [if_pos c]
  · rw [if_neg c, if_pos (by omega)]
theorem ty_op {w : Int} {x y : Bool} {r : List Bool} (h : 18 ≤ w ∧ w ≤ 20) : tyS w (x :: y :: r) = some (false :: r) := by
  unfold tyS
  rw [if_neg (by omega), if_neg (by omega), if_neg (by omega), if_neg (by omega), if_pos h]
theorem ty_cmp {w : Int} {x y : Bool} {r : List Bool} (h : 21 ≤ w ∧ w ≤ 23) : tyS w (x :: y :: r) = some (true :: r) := by
  unfold tyS
  rw [if_neg (by omega), if_neg (by omega), if_neg (by omega), if_neg (by omega), if_neg (by omega), if_pos h]
theorem ty_ao {w : Int} {r : List Bool} (h : w = 4 ∨ w = 5) : tyS w (true :: true :: r) = some (true :: r) := by
  unfold tyS
  rw [if_neg (by omega), if_neg (by omega), if_neg (by omega), if_pos h]
theorem Pre_nots {c m : List Int} {r : List Bool} (h : Pre c m false (true :: r)) : ∀ n : Nat, (n % 2 = 0 → Pre (List.replicate n 6 ++ c) m false (true :: r)) ∧ (n % 2 = 1 → Pre (List.replicate n 6 ++ c) (-133 :: m) false (true :: r))
  | 0 => ⟨fun _ => h, fun z => absurd z (by decide)⟩
  | 1 => ⟨fun z => absurd z (by decide), fun _ => PreW (w := 6) h tyS_not⟩
  | n + 2 => by
    have ih := Pre_nots h n
    refine ⟨fun z => ?_, fun z => ?_⟩
    · have q := ih.1 (by omega)
      exact Or.inr ⟨rfl, ⟨r, rfl⟩, rfl, ⟨r, rfl⟩, q⟩
    · have q := ih.2 (by omega)
      exact Or.inr ⟨rfl, ⟨r, rfl⟩, rfl, ⟨r, rfl⟩, q⟩
def chW (w : Int) : Int := if w = 16 then 40 else if w = 18 then 43 else if w = 19 then 45 else 42
def rkM (c : Int) : Int := if c = 42 then 2 else if c = 43 ∨ c = 45 then 1 else 0
def pq (b : Int) : List Int → List Int → List Int × List Int
  | o, [] => (o, [])
  | o, w :: ws => if b ≤ rkM w then pq b ((-100 - w) :: o) ws else (o, w :: ws)
theorem pq_app {b : Int} {r : List Int} : ∀ (ws o : List Int), pq b (o ++ r) ws = ((pq b o ws).1 ++ r, (pq b o ws).2)
  | [], o => rfl
  | w :: ws, o => by
    rw [pq, pq]
    split
    · exact pq_app ws ((-100 - w) :: o)
    · rfl
theorem pp_out {b : Int} {r : List Int} : ∀ (ws o : List Int), pp b (o ++ r) ws = ((pp b o ws).1 ++ r, (pp b o ws).2)
  | [], o => rfl
  | w :: ws, o => by
    rw [pp, pp]
    split
    · exact pp_out ws (w :: o)
    · rfl
def opW1 (w : Int) : Prop := w = 16 ∨ (18 ≤ w ∧ w ≤ 20)
def topb : List Int → Int
  | [] => 0
  | w :: _ => bndT w
theorem pp_app {b : Int} {base : List Int} : ∀ (ws o : List Int), (topb base < b ∨ (pp b o ws).2 ≠ []) → pp b o (ws ++ base) = ((pp b o ws).1, (pp b o ws).2 ++ base)
  | [], o, h => by
    cases base with
    | nil => rfl
    | cons w l =>
      show pp b o (w :: l) = (o, w :: l)
      rw [pp, if_neg]
      rcases h with h | h
      · exact fun z => by
          have : topb (w :: l) = bndT w := rfl
          omega
      · exact absurd rfl h
  | w :: ws, o, h => by
    show pp b o (w :: (ws ++ base)) = _
    rw [pp] at h ⊢
    rw [pp]
    by_cases c : b ≤ bndT w
    · rw [if_pos c] at h ⊢
      rw [if_pos c]
      exact pp_app ws (w :: o) h
    · rw [if_neg c, if_neg c]
      rfl
theorem bnd_rk {w b : Int} (h : opW1 w) (hb : b = 1 ∨ b = 2) : 4 + b ≤ bndT w ↔ b ≤ rkM (chW w) := by
  rcases h with h | h
  · rw [h]
    rcases hb with h | h <;> rw [h] <;> decide
  · rcases (by omega : w = 18 ∨ w = 19 ∨ w = 20) with h | h | h <;> rw [h] <;> rcases hb with h | h <;> rw [h] <;> decide
theorem cmap_op {w : Int} (h : 18 ≤ w ∧ w ≤ 20) : cmap w = -100 - chW w := by
  rcases (by omega : w = 18 ∨ w = 19 ∨ w = 20) with h | h | h <;> rw [h] <;> decide
def nop : List Int → Nat
  | [] => 0
  | w :: l => (if w = 16 then 0 else 1) + nop l
def fls (n : Nat) (τ : List Bool) : List Bool := List.replicate n false ++ τ
theorem fls_s {n : Nat} {τ : List Bool} : fls (n + 1) τ = false :: fls n τ := rfl
theorem pops_rel {b : Int} (hb : b = 1 ∨ b = 2) {τ : List Bool} : ∀ (ws c m : List Int), (∀ w ∈ ws, opW1 w) → Pre c m false (fls (nop ws + 1) τ) → Pre (pp (4 + b) c ws).1 (pq b m (ws.map chW)).1 false (fls (nop (pp (4 + b) c ws).2 + 1) τ) ∧ (pq b m (ws.map chW)).2 = (pp (4 + b) c ws).2.map chW
  | [], c, m, _, h => ⟨h, rfl⟩
  | w :: ws, c, m, ho, h => by
    rw [pp, List.map_cons, pq]
    have hw := ho w (List.mem_cons_self ..)
    by_cases z : 4 + b ≤ bndT w
    · rw [if_pos z, if_pos ((bnd_rk hw hb).mp z)]
      have w16 : ¬ w = 16 := fun y => by
        rw [y] at z
        have : bndT 16 = 0 := by decide
        omega
      have w18 := hw.resolve_left w16
      refine pops_rel hb ws (w :: c) _ (fun x hx => ho x (List.mem_cons_of_mem _ hx)) ?_
      rw [← cmap_op w18]
      refine PreW h ?_
      rw [nop, if_neg w16]
      have e : 1 + nop ws + 1 = (nop ws + 1) + 1 := by omega
      rw [e, fls_s, fls_s]
      exact ty_op w18
    · rw [if_neg z, if_neg (fun y => z ((bnd_rk hw hb).mpr y))]
      exact ⟨h, rfl⟩
theorem pp_15 : ∀ (ws : List Int) (c : List Int), (∀ w ∈ ws, opW1 w) → pp 1 c ws = pp 5 c ws
  | [], c, _ => rfl
  | w :: ws, c, h => by
    rw [pp, pp]
    have e : (1 ≤ bndT w) ↔ (5 ≤ bndT w) := by
      rcases h w (List.mem_cons_self ..) with q | q
      · rw [q]; decide
      · rcases (by omega : w = 18 ∨ w = 19 ∨ w = 20) with q | q | q <;> rw [q] <;> decide
    by_cases z : 5 ≤ bndT w
    · rw [if_pos z, if_pos (e.mpr z)]
      exact pp_15 ws (w :: c) (fun x hx => h x (List.mem_cons_of_mem _ hx))
    · rw [if_neg z, if_neg (fun y => z (e.mp y))]
/-- how parentheses and signs lie in what waits -/
def WB : List Int → Int → Prop
  | [], o => o = 0
  | w :: l, o => (w = 16 ∧ 1 ≤ o ∧ WB l (o - 1)) ∨ ((18 ≤ w ∧ w ≤ 20) ∧ topb l < bndT w ∧ WB l o)
theorem WB_op : ∀ {l : List Int} {o : Int}, WB l o → ∀ w ∈ l, opW1 w
  | [], _, _, w, hw => absurd hw List.not_mem_nil
  | x :: l, o, h, w, hw => by
    rcases List.mem_cons.mp hw with z | z
    · rw [z]
      exact h.elim (fun y => Or.inl y.1) (fun y => Or.inr y.1)
    · rcases h with h | h
      · exact WB_op h.2.2 w z
      · exact WB_op h.2.2 w z
theorem WB_o : ∀ {l : List Int} {o : Int}, WB l o → 0 ≤ o ∧ op16 l = o
  | [], o, h => by
    have h : o = 0 := h
    rw [h]
    exact ⟨Int.le_refl _, rfl⟩
  | x :: l, o, h => by
    rcases h with h | h
    · have q := WB_o h.2.2
      rw [op16, if_pos h.1]
      omega
    · have q := WB_o h.2.2
      rw [op16, if_neg (by omega)]
      omega
theorem bnd_op {w : Int} (h : opW1 w) : bndT w = 0 ∨ bndT w = 5 ∨ bndT w = 6 := by
  rcases h with h | h
  · rw [h]; decide
  · rcases (by omega : w = 18 ∨ w = 19 ∨ w = 20) with h | h | h <;> rw [h] <;> decide
theorem WB_len : ∀ {l : List Int} {o : Int}, WB l o → (l.length : Int) ≤ 3 * o + (if topb l = 6 then 2 else if topb l = 5 then 1 else 0)
  | [], o, h => by
    have h : o = 0 := h
    rw [h]
    decide
  | x :: l, o, h => by
    have e : ((x :: l).length : Int) = (l.length : Int) + 1 := by simp
    have tx : topb (x :: l) = bndT x := rfl
    rw [e, tx]
    rcases h with ⟨rfl, h1, h2⟩ | ⟨h1, h2, h3⟩
    · have q := WB_len h2
      have b : bndT 16 = 0 := by decide
      rw [b, if_neg (by decide), if_neg (by decide)]
      split at q
      · omega
      · split at q <;> omega
    · have q := WB_len h3
      have bx : bndT x = 5 ∨ bndT x = 6 := by
        rcases (by omega : x = 18 ∨ x = 19 ∨ x = 20) with h | h | h <;> rw [h] <;> decide
      split at q
      · omega
      · split at q
        · rw [if_pos (by omega)]
          omega
        · rcases bx with b | b
          · rw [if_neg (by omega), if_pos b]
            omega
          · rw [if_pos b]
            omega
theorem WB_pp {b : Int} (hb : 5 ≤ b) : ∀ {l c : List Int} {o : Int}, WB l o → WB (pp b c l).2 o ∧ topb (pp b c l).2 < b
  | [], c, o, h => ⟨h, by show (0 : Int) < b; omega⟩
  | x :: l, c, o, h => by
    rw [pp]
    by_cases z : b ≤ bndT x
    · rw [if_pos z]
      rcases h with h | h
      · have : bndT 16 = 0 := by decide
        rw [h.1] at z
        omega
      · exact WB_pp hb h.2.2
    · rw [if_neg z]
      exact ⟨h, by show bndT x < b; omega⟩
theorem WB_0 {l c : List Int} (h : WB l 0) : (pp 5 c l).2 = [] := by
  have q := WB_pp (b := 5) (by decide) (c := c) h
  cases e : (pp 5 c l).2 with
  | nil => rfl
  | cons w r =>
    rw [e] at q
    exfalso
    rcases q.1 with y | y
    · omega
    · have q2 : bndT w < 5 := q.2
      rcases (by omega : w = 18 ∨ w = 19 ∨ w = 20) with h | h | h <;> rw [h] at q2 <;> exact absurd q2 (by decide)
theorem WB_close {l c : List Int} {o : Int} (h : WB l o) (h0 : 0 < o) : ∃ r, (pp 5 c l).2 = 16 :: r ∧ WB r (o - 1) := by
  have q := WB_pp (b := 5) (by decide) (c := c) h
  cases e : (pp 5 c l).2 with
  | nil =>
    rw [e] at q
    have : o = 0 := q.1
    omega
  | cons w r =>
    rw [e] at q
    rcases q.1 with y | y
    · exact ⟨r, by rw [y.1], y.2.2⟩
    · exfalso
      have q2 : bndT w < 5 := q.2
      rcases (by omega : w = 18 ∨ w = 19 ∨ w = 20) with h | h | h <;> rw [h] at q2 <;> exact absurd q2 (by decide)
/-- the lines told so far -/
def LN (kd en mk mb : Int → Int) : Nat → List Int → List Int → Prop
  | 0, c, m => c = [] ∧ m = []
  | z + 1, c, m => ∃ cur mcur prev mprev τ, c = cur ++ prev ∧ m = mcur ++ mprev ∧ LN kd en mk mb z prev mprev ∧ Pre cur mcur false τ ∧ τ.length = 1 ∧ en (z : Int) = (c.length : Int) ∧ mb (z : Int) = (mprev.length : Int) ∧ mb ((z : Int) + 1) = (m.length : Int) ∧ mk (z : Int) = kd (z : Int) ∧ (0 ≤ kd (z : Int) ∧ kd (z : Int) ≤ 3)
