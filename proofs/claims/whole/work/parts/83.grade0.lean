/-! ===== grades: determinants without fractions ===== -/
def sm (g : Nat → Int) : Nat → Int
  | 0 => 0
  | n + 1 => sm g n + g n
theorem sm_cg {f g : Nat → Int} : ∀ n : Nat, (∀ k, k < n → f k = g k) → sm f n = sm g n
  | 0, _ => rfl
  | n + 1, h => by rw [sm, sm, sm_cg n (fun k hk => h k (by omega)), h n (by omega)]
theorem sm_z {f : Nat → Int} : ∀ n : Nat, (∀ k, k < n → f k = 0) → sm f n = 0
  | 0, _ => rfl
  | n + 1, h => by rw [sm, sm_z n (fun k hk => h k (by omega)), h n (by omega)]; rfl
theorem sm_lin {f g : Nat → Int} {a b : Int} : ∀ n : Nat, sm (fun k => a * f k + b * g k) n = a * sm f n + b * sm g n
  | 0 => by simp [sm]
  | n + 1 => by
    rw [sm, sm, sm, sm_lin n]
    grind
theorem sm_mul {f : Nat → Int} {a : Int} : ∀ n : Nat, sm (fun k => a * f k) n = a * sm f n
  | 0 => by simp [sm]
  | n + 1 => by
    rw [sm, sm, sm_mul n]
    grind
theorem sm_swap {f : Nat → Nat → Int} : ∀ n m : Nat, sm (fun i => sm (fun j => f i j) m) n = sm (fun j => sm (fun i => f i j) n) m
  | 0, m => by
    rw [sm, sm_z m]
    intro k _
    rfl
  | n + 1, m => by
    rw [sm, sm_swap n m]
    have := sm_lin (f := fun j => sm (fun i => f i j) n) (g := fun j => f n j) (a := 1) (b := 1) m
    simp only [Int.one_mul] at this
    rw [← this]
    rfl
def io (r : Nat → Int) : List Nat → (List Nat → Int) → Int
  | [], _ => 0
  | c :: cs, F => r c * F cs - io r cs (fun l => F (c :: l))
theorem io_lin {r : Nat → Int} : ∀ (l : List Nat) (F G : List Nat → Int) (a b : Int), io r l (fun x => a * F x - b * G x) = a * io r l F - b * io r l G
  | [], F, G, a, b => by simp [io]
  | c :: cs, F, G, a, b => by
    rw [io, io, io, io_lin cs (fun l => F (c :: l)) (fun l => G (c :: l)) a b]
    grind
theorem io_an {r t : Nat → Int} : ∀ (l : List Nat) (F : List Nat → Int), io r l (fun x => io t x F) + io t l (fun x => io r x F) = 0
  | [], F => rfl
  | c :: cs, F => by
    have e1 : io r (c :: cs) (fun x => io t x F) = r c * io t cs F - (t c * io r cs F - 1 * io r cs (fun x => io t x (fun y => F (c :: y)))) := by
      rw [← io_lin]
      rw [io]
      simp only [io, Int.one_mul]
    have e2 : io t (c :: cs) (fun x => io r x F) = t c * io r cs F - (r c * io t cs F - 1 * io t cs (fun x => io r x (fun y => F (c :: y)))) := by
      rw [← io_lin]
      rw [io]
      simp only [io, Int.one_mul]
    have i := io_an (r := r) (t := t) cs (fun y => F (c :: y))
    rw [e1, e2]
    grind
theorem io_0 {r : Nat → Int} : ∀ (l : List Nat), io r l (fun _ => 0) = 0
  | [] => rfl
  | c :: cs => by
    rw [io, io_0 cs]
    simp
def Dr (q : Nat → Nat → Int) : Nat → List Nat → Int
  | 0, l => if l = [] then 1 else 0
  | s + 1, l => io (q s) l (Dr q s)
theorem Dr_e {q : Nat → Nat → Int} {i : Nat} : ∀ (s : Nat) (l : List Nat), i < s → io (q i) l (Dr q s) = 0
  | 0, _, h => absurd h (Nat.not_lt_zero _)
  | s + 1, l, h => by
    have e : Dr q (s + 1) = fun x => io (q s) x (Dr q s) := by
      funext x
      rfl
    rw [e]
    by_cases c : i = s
    · rw [c]
      have := io_an (r := q s) (t := q s) l (Dr q s)
      omega
    · have a := io_an (r := q i) (t := q s) l (Dr q s)
      have z : (fun x => io (q i) x (Dr q s)) = fun _ => 0 := by
        funext x
        exact Dr_e s x (by omega)
      rw [z, io_0] at a
      omega
def dn : Nat → List Nat
  | 0 => []
  | s + 1 => s :: dn s
theorem io_dn : ∀ (s : Nat) (G : List Nat → Int), ∃ x : Nat → Int, ∀ r : Nat → Int, io r (dn s) G = sm (fun c => x c * r c) s
  | 0, _ => ⟨fun _ => 0, fun _ => rfl⟩
  | s + 1, G => by
    obtain ⟨x, hx⟩ := io_dn s (fun l => G (s :: l))
    refine ⟨fun c => if c = s then G (dn s) else -1 * x c, fun r => ?_⟩
    rw [dn, io, hx, sm]
    show _ = sm (fun c => (if c = s then G (dn s) else -1 * x c) * r c) s + (if s = s then G (dn s) else -1 * x s) * r s
    rw [if_pos rfl]
    have e : sm (fun c => (if c = s then G (dn s) else -1 * x c) * r c) s = -1 * sm (fun c => x c * r c) s := by
      rw [← sm_mul]
      apply sm_cg
      intro k hk
      show (if k = s then G (dn s) else -1 * x k) * r k = -1 * (x k * r k)
      rw [if_neg (by omega)]
      grind
    rw [e]
    grind
def dA (q : Nat → Nat → Int) (s : Nat) : Int := Dr q s (dn s)
theorem dA_0 {q : Nat → Nat → Int} : dA q 0 = 1 := rfl
theorem cram {q : Nat → Nat → Int} {s j : Nat} : ∃ x : Nat → Int, (∀ i, i < s → q i j * dA q s = sm (fun c => x c * q i c) s) ∧ (j = s → dA q (s + 1) = q s s * dA q s - sm (fun c => x c * q s c) s) := by
  obtain ⟨x, hx⟩ := io_dn s (fun l => Dr q s (j :: l))
  refine ⟨x, fun i hi => ?_, fun hj => ?_⟩
  · have := Dr_e (q := q) (i := i) s (j :: dn s) hi
    rw [io, hx] at this
    unfold dA
    omega
  · subst hj
    unfold dA
    show io (q j) (j :: dn j) (Dr q j) = _
    rw [io, hx]
/-! ===== grades: one round of elimination is exact ===== -/
def PDf (q : Nat → Nat → Int) (s : Nat) : Prop := ∀ x : Nat → Int, (∀ i, i < s → sm (fun c => x c * q i c) s = 0) → ∀ c, c < s → x c = 0
def El (q : Nat → Nat → Int) (n s : Nat) (M : Nat → Nat → Int) : Prop := ∀ j i, i < n → dA q s * q i j = sm (fun c => M c j * q i c) s + (if s ≤ i then M i j else 0)
theorem el_0 {q : Nat → Nat → Int} {n : Nat} : El q n 0 q := fun j i _ => by
  rw [if_pos (Nat.zero_le _), dA_0]
  simp [sm]
theorem el_pv {q : Nat → Nat → Int} {n s : Nat} (hs : s < n) (p1 : PDf q s) {M : Nat → Nat → Int} (h : El q n s M) : M s s = dA q (s + 1) := by
  obtain ⟨x, h1, h2⟩ := cram (q := q) (s := s) (j := s)
  have u : ∀ c, c < s → 1 * x c + -1 * M c s = 0 := p1 (fun c => 1 * x c + -1 * M c s) (fun i hi => by
    have a := h1 i hi
    have b := h s i (by omega)
    rw [if_neg (by omega)] at b
    have e : sm (fun c => (1 * x c + -1 * M c s) * q i c) s = 1 * sm (fun c => x c * q i c) s + -1 * sm (fun c => M c s * q i c) s := by
      rw [← sm_lin]
      exact sm_cg _ (fun k _ => by grind)
    rw [e, ← a]
    grind)
  have e : sm (fun c => x c * q s c) s = sm (fun c => M c s * q s c) s := sm_cg _ (fun k hk => by
    have := u k hk
    have e : x k = M k s := by omega
    rw [e])
  have b := h s s hs
  rw [if_pos (Nat.le_refl _)] at b
  have a := h2 rfl
  rw [e] at a
  grind
theorem el_step {q : Nat → Nat → Int} {n s : Nat} (hs : s < n) (A0 : dA q s ≠ 0) (p1 : PDf q s) (p2 : PDf q (s + 1)) {M : Nat → Nat → Int} (h : El q n s M) :
    ∃ M' : Nat → Nat → Int, (∀ j, M' s j = M s j) ∧ (∀ i j, i < n → i ≠ s → M s s * M i j - M i s * M s j = dA q s * M' i j) ∧ El q n (s + 1) M' := by
  have pv := el_pv hs p1 h
  have ⟨X, hX⟩ : ∃ X : Nat → Nat → Int, ∀ j i, i < s + 1 → q i j * dA q (s + 1) = sm (fun c => X j c * q i c) (s + 1) := by
    refine ⟨fun j => (cram (q := q) (s := s + 1) (j := j)).choose, fun j => ?_⟩
    exact (cram (q := q) (s := s + 1) (j := j)).choose_spec.1
  obtain ⟨M', hM⟩ : ∃ M' : Nat → Nat → Int, M' = fun i j => if i < s + 1 then X j i else dA q (s + 1) * q i j - sm (fun c => X j c * q i c) (s + 1) := ⟨_, rfl⟩
  have el : El q n (s + 1) M' := fun j i hi => by
    have e : sm (fun c => M' c j * q i c) (s + 1) = sm (fun c => X j c * q i c) (s + 1) := sm_cg _ (fun k hk => by
      show M' k j * q i k = X j k * q i k
      rw [hM]
      show (if k < s + 1 then X j k else _) * q i k = _
      rw [if_pos hk])
    rw [e]
    by_cases c : i < s + 1
    · rw [if_neg (by omega), ← hX j i c]
      grind
    · rw [if_pos (by omega), hM]
      show _ = _ + (if i < s + 1 then X j i else _)
      rw [if_neg c]
      omega
  have key : ∀ j i, i < n → sm (fun c => (if c = s then dA q s * (M s j - M' s j) else M s s * M c j - M s j * M c s - dA q s * M' c j) * q i c) (s + 1) + (if s ≤ i then M s s * M i j - M s j * M i s else 0) - (if s + 1 ≤ i then dA q s * M' i j else 0) = 0 := fun j i hi => by
    have e1 := h j i hi
    have e2 := h s i hi
    have e3 := el j i hi
    rw [sm] at e3 ⊢
    have e : sm (fun c => (if c = s then dA q s * (M s j - M' s j) else M s s * M c j - M s j * M c s - dA q s * M' c j) * q i c) s = 1 * (M s s * sm (fun c => M c j * q i c) s + -M s j * sm (fun c => M c s * q i c) s) + -dA q s * sm (fun c => M' c j * q i c) s := by
      rw [← sm_lin, ← sm_lin]
      exact sm_cg _ (fun k hk => by
        show (if k = s then _ else _) * _ = _
        rw [if_neg (by omega)]
        grind)
    rw [e]
    show _ + (if s = s then dA q s * (M s j - M' s j) else M s s * M s j - M s j * M s s - dA q s * M' s j) * q i s + _ - _ = 0
    rw [if_pos rfl]
    rw [← pv] at e3
    clear e h el hX hM
    generalize sm (fun c => M c j * q i c) s = S1 at *
    generalize sm (fun c => M c s * q i c) s = S2 at *
    generalize sm (fun c => M' c j * q i c) s = S3 at *
    by_cases c1 : s ≤ i
    · by_cases c2 : s + 1 ≤ i
      · simp only [if_pos c1, if_pos c2] at *
        grind
      · simp only [if_pos c1, if_neg c2] at *
        grind
    · have c2 : ¬ s + 1 ≤ i := by omega
      simp only [if_neg c1, if_neg c2] at *
      grind
  have zz : ∀ j c, c < s + 1 → (if c = s then dA q s * (M s j - M' s j) else M s s * M c j - M s j * M c s - dA q s * M' c j) = 0 := fun j => p2 _ (fun i hi => by
    have a := key j i (by omega)
    rw [if_neg (by omega : ¬ s + 1 ≤ i)] at a
    by_cases c : s ≤ i
    · have : i = s := by omega
      subst this
      rw [if_pos c] at a
      grind
    · rw [if_neg c] at a
      omega)
  refine ⟨M', fun j => ?_, fun i j hi hne => ?_, el⟩
  · have := zz j s (by omega)
    rw [if_pos rfl] at this
    rcases Int.mul_eq_zero.mp this with z | z
    · exact absurd z A0
    · omega
  · by_cases c : i < s + 1
    · have := zz j i c
      rw [if_neg hne] at this
      grind
    · have a := key j i hi
      rw [if_pos (by omega), if_pos (by omega), sm_z _ (fun k hk => by rw [zz j k hk]; simp)] at a
      grind
/-! ===== grades: sums over the entries; pivots above 0, small numbers ===== -/
theorem sm_cut {f : Nat → Int} {s : Nat} : ∀ n : Nat, s ≤ n → (∀ k, s ≤ k → k < n → f k = 0) → sm f n = sm f s
  | 0, h, _ => by
    have : s = 0 := by omega
    rw [this]
  | n + 1, h, z => by
    by_cases c : s = n + 1
    · rw [c]
    · rw [sm, sm_cut n (by omega) (fun k a b => z k a (by omega)), z n (by omega) (by omega)]
      omega
theorem sq_nn (x : Int) : 0 ≤ x * x := by
  by_cases h : 0 ≤ x
  · exact Int.mul_nonneg h h
  · exact Int.mul_nonneg_of_nonpos_of_nonpos (by omega) (by omega)
theorem sm_nn {f : Nat → Int} : ∀ n : Nat, (∀ k, k < n → 0 ≤ f k) → 0 ≤ sm f n
  | 0, _ => Int.le_refl _
  | n + 1, h => by
    have a := sm_nn n (fun k hk => h k (by omega))
    have b := h n (by omega)
    rw [sm]
    omega
theorem sm_el {f : Nat → Int} : ∀ n : Nat, (∀ k, k < n → 0 ≤ f k) → ∀ k, k < n → f k ≤ sm f n
  | 0, _, k, hk => absurd hk (Nat.not_lt_zero _)
  | n + 1, h, k, hk => by
    rw [sm]
    have b := h n (by omega)
    have a := sm_nn n (fun k hk => h k (by omega))
    by_cases c : k = n
    · rw [c]
      omega
    · have := sm_el n (fun k hk => h k (by omega)) k (by omega)
      omega
theorem sm_bd {f : Nat → Int} {B : Int} : ∀ n : Nat, (∀ k, k < n → -B ≤ f k ∧ f k ≤ B) → -((n : Int) * B) ≤ sm f n ∧ sm f n ≤ (n : Int) * B
  | 0, _ => by simp [sm]
  | n + 1, h => by
    have a := sm_bd n (fun k hk => h k (by omega))
    have b := h n (by omega)
    rw [sm]
    have e : ((n + 1 : Nat) : Int) * B = (n : Int) * B + B := by
      rw [Int.natCast_succ]
      grind
    rw [e]
    omega
theorem sq_le {x B : Int} (hB : 0 ≤ B) (h : x * x ≤ B * B) : -B ≤ x ∧ x ≤ B := by
  constructor
  · refine Decidable.byContradiction fun c => ?_
    have : (B + 1) * (B + 1) ≤ (-x) * (-x) := Int.mul_le_mul (by omega) (by omega) (by omega) (by omega)
    grind
  · refine Decidable.byContradiction fun c => ?_
    have : (B + 1) * (B + 1) ≤ x * x := Int.mul_le_mul (by omega) (by omega) (by omega) (by omega)
    grind
def wE (a : Nat → Nat → Int) (s : Nat) (x : Nat → Int) (e : Nat) : Int := sm (fun c => x c * a e c) s
def qE (a p : Nat → Nat → Int) (m i j : Nat) : Int := sm (fun e => a e i * p j e) m
theorem bil {a : Nat → Nat → Int} {m s : Nat} {y g : Nat → Int} : sm (fun i => y i * sm (fun e => a e i * g e) m) s = sm (fun e => wE a s y e * g e) m := by
  have e1 : sm (fun i => y i * sm (fun e => a e i * g e) m) s = sm (fun i => sm (fun e => y i * (a e i * g e)) m) s := sm_cg _ (fun k _ => (sm_mul m).symm)
  rw [e1, sm_swap]
  apply sm_cg
  intro e _
  show sm (fun i => y i * (a e i * g e)) s = wE a s y e * g e
  unfold wE
  rw [Int.mul_comm, ← sm_mul]
  exact sm_cg _ (fun k _ => by grind)
theorem q_w {a p : Nat → Nat → Int} {m n s i : Nat} {x : Nat → Int} (hp : ∀ j, j < n → p j = fun e => a e j) (hs : s ≤ n) : sm (fun c => x c * qE a p m i c) s = sm (fun e => a e i * wE a s x e) m := by
  have := bil (a := a) (m := m) (s := s) (y := x) (g := fun e => a e i)
  have e : sm (fun c => x c * qE a p m i c) s = sm (fun c => x c * sm (fun e => a e c * a e i) m) s := sm_cg _ (fun k hk => by
    unfold qE
    rw [hp k (by omega)]
    have : (fun e => a e i * (fun e => a e k) e) = fun e => a e k * a e i := by
      funext e
      exact Int.mul_comm _ _
    rw [this])
  rw [e, this]
  exact sm_cg _ (fun k _ => Int.mul_comm _ _)
def Hg (a : Nat → Nat → Int) (m n : Nat) (L : Int) : Prop := ∀ (x : Nat → Int) (K : Int), (∀ e, e < m → -K ≤ wE a n x e ∧ wE a n x e ≤ K) → ∀ c, c < n → -(L * K) ≤ x c ∧ x c ≤ L * K
theorem Hg_s {a : Nat → Nat → Int} {m n s : Nat} {L : Int} (hs : s ≤ n) (H : Hg a m n L) : Hg a m s L := fun x K h c hc => by
  have := H (fun k => if k < s then x k else 0) K (fun e he => by
    have e1 : wE a n (fun k => if k < s then x k else 0) e = wE a s x e := by
      unfold wE
      rw [sm_cut n hs (fun k h1 h2 => by
        show (if k < s then x k else 0) * a e k = 0
        rw [if_neg (by omega), Int.zero_mul])]
      exact sm_cg _ (fun k hk => by
        show (if k < s then x k else 0) * a e k = _
        rw [if_pos hk])
    rw [e1]
    exact h e he) c (by omega)
  rw [if_pos hc] at this
  exact this
theorem PD_g {a p : Nat → Nat → Int} {m n s : Nat} {L : Int} (hp : ∀ j, j < n → p j = fun e => a e j) (H : Hg a m n L) (hs : s ≤ n) : PDf (qE a p m) s := fun x hx => by
  have z : sm (fun e => wE a s x e * wE a s x e) m = 0 := by
    rw [← bil (g := wE a s x)]
    refine sm_z _ (fun k hk => ?_)
    rw [← q_w hp hs, hx k hk, Int.mul_zero]
  have w0 : ∀ e, e < m → -0 ≤ wE a s x e ∧ wE a s x e ≤ 0 := fun e he => by
    have := sm_el m (fun k _ => sq_nn (wE a s x k)) e he
    rw [z] at this
    exact sq_le (Int.le_refl _) this
  intro c hc
  have := Hg_s hs H x 0 w0 c hc
  omega
theorem el_bd {a p : Nat → Nat → Int} {m n s : Nat} {L : Int} (hp : ∀ j, j < n → p j = fun e => a e j) (H : Hg a m n L) (hs : s ≤ n) {M : Nat → Nat → Int} (h : El (qE a p m) n s M) (j : Nat) :
    ∃ Y : Nat → Int, (∀ e, Y e = dA (qE a p m) s * p j e - wE a s (fun c => M c j) e) ∧ (∀ i, i < n → sm (fun e => a e i * Y e) m = if s ≤ i then M i j else 0) ∧ sm (fun e => wE a s (fun c => M c j) e * Y e) m = 0 := by
  refine ⟨fun e => dA (qE a p m) s * p j e - wE a s (fun c => M c j) e, fun _ => rfl, ?_⟩
  have o : ∀ i, i < n → sm (fun e => a e i * (dA (qE a p m) s * p j e - wE a s (fun c => M c j) e)) m = if s ≤ i then M i j else 0 := fun i hi => by
    have b := h j i hi
    rw [q_w hp hs] at b
    have e1 : sm (fun e => a e i * (dA (qE a p m) s * p j e - wE a s (fun c => M c j) e)) m = dA (qE a p m) s * qE a p m i j + -1 * sm (fun e => a e i * wE a s (fun c => M c j) e) m := by
      unfold qE
      rw [← sm_lin]
      exact sm_cg _ (fun k _ => by grind)
    omega
  refine ⟨o, ?_⟩
  rw [← bil (g := fun e => dA (qE a p m) s * p j e - wE a s (fun c => M c j) e)]
  refine sm_z _ (fun k hk => ?_)
  rw [o k (by omega), if_neg (by omega), Int.mul_zero]
theorem el_sq {a p : Nat → Nat → Int} {m n s : Nat} {L : Int} (hp : ∀ j, j < n → p j = fun e => a e j) (H : Hg a m n L) (hs : s ≤ n) {M : Nat → Nat → Int} (h : El (qE a p m) n s M) (j : Nat) {P : Int} (hP : sm (fun e => p j e * p j e) m ≤ P * P) (P0 : 0 ≤ P) (A0 : 0 < dA (qE a p m) s) (L0 : 0 ≤ L) (hL : (m : Int) ≤ L) (ha : ∀ e i, a e i = 0 ∨ a e i = 1) :
    ∀ i, i < n → -(L * (dA (qE a p m) s * P)) ≤ M i j ∧ M i j ≤ L * (dA (qE a p m) s * P) := by
  obtain ⟨Y, hY, o, z⟩ := el_bd hp H hs h j
  generalize hA : dA (qE a p m) s = A at *
  have t : sm (fun e => wE a s (fun c => M c j) e * wE a s (fun c => M c j) e) m + sm (fun e => Y e * Y e) m = A * A * sm (fun e => p j e * p j e) m := by
    have e1 := sm_lin (f := fun e => wE a s (fun c => M c j) e * wE a s (fun c => M c j) e) (g := fun e => Y e * Y e) (a := 1) (b := 1) m
    have e2 := sm_lin (f := fun e => p j e * p j e) (g := fun e => wE a s (fun c => M c j) e * Y e) (a := A * A) (b := -2) m
    rw [z] at e2
    have e3 : sm (fun e => 1 * (wE a s (fun c => M c j) e * wE a s (fun c => M c j) e) + 1 * (Y e * Y e)) m = sm (fun e => A * A * (p j e * p j e) + -2 * (wE a s (fun c => M c j) e * Y e)) m := sm_cg _ (fun k _ => by
      show 1 * (wE a s (fun c => M c j) k * wE a s (fun c => M c j) k) + 1 * (Y k * Y k) = A * A * (p j k * p j k) + -2 * (wE a s (fun c => M c j) k * Y k)
      rw [hY k]
      grind)
    omega
  have AP : A * A * sm (fun e => p j e * p j e) m ≤ (A * P) * (A * P) := by
    have := Int.mul_le_mul_of_nonneg_left hP (Int.le_of_lt (Int.mul_pos A0 A0))
    grind
  have ap0 : 0 ≤ A * P := Int.mul_nonneg (by omega) P0
  have n1 : 0 ≤ sm (fun e => Y e * Y e) m := sm_nn m (fun k _ => sq_nn (Y k))
  have n2 : 0 ≤ sm (fun e => wE a s (fun c => M c j) e * wE a s (fun c => M c j) e) m := sm_nn m (fun k _ => sq_nn (wE a s (fun c => M c j) k))
  have bW : ∀ e, e < m → -(A * P) ≤ wE a s (fun c => M c j) e ∧ wE a s (fun c => M c j) e ≤ A * P := fun e he => by
    have : wE a s (fun c => M c j) e * wE a s (fun c => M c j) e ≤ sm (fun e => wE a s (fun c => M c j) e * wE a s (fun c => M c j) e) m := sm_el m (fun k _ => sq_nn (wE a s (fun c => M c j) k)) e he
    exact sq_le ap0 (by omega)
  have bY : ∀ e, e < m → -(A * P) ≤ Y e ∧ Y e ≤ A * P := fun e he => by
    have : Y e * Y e ≤ sm (fun e => Y e * Y e) m := sm_el m (fun k _ => sq_nn (Y k)) e he
    exact sq_le ap0 (by omega)
  intro i hi
  by_cases c : i < s
  · exact Hg_s hs H (fun c => M c j) (A * P) bW i c
  · have b := o i hi
    rw [if_pos (by omega)] at b
    have d := sm_bd (f := fun e => a e i * Y e) (B := A * P) m (fun k hk => by
      have := bY k hk
      show -(A * P) ≤ a k i * Y k ∧ a k i * Y k ≤ A * P
      rcases ha k i with r | r
      · rw [r, Int.zero_mul]
        omega
      · rw [r, Int.one_mul]
        exact this)
    have q := Int.mul_le_mul_of_nonneg_right hL ap0
    omega
theorem el_pos {a p : Nat → Nat → Int} {m n s : Nat} {L : Int} (hp : ∀ j, j < n → p j = fun e => a e j) (H : Hg a m n L) (hs : s < n) {M : Nat → Nat → Int} (h : El (qE a p m) n s M) (A0 : 0 < dA (qE a p m) s) :
    0 < M s s ∧ M s s ≤ dA (qE a p m) s * qE a p m s s := by
  obtain ⟨Y, hY, o, z⟩ := el_bd hp H (by omega) h s
  have os := o s hs
  rw [if_pos (Nat.le_refl _)] at os
  have ep := hp s hs
  generalize hA : dA (qE a p m) s = A at *
  have y2 : sm (fun e => Y e * Y e) m = A * M s s := by
    have e2 := sm_lin (f := fun e => a e s * Y e) (g := fun e => wE a s (fun c => M c s) e * Y e) (a := A) (b := -1) m
    rw [z, os] at e2
    have e3 : sm (fun e => Y e * Y e) m = sm (fun e => A * (a e s * Y e) + -1 * (wE a s (fun c => M c s) e * Y e)) m := sm_cg _ (fun k _ => by
      show Y k * Y k = A * (a k s * Y k) + -1 * (wE a s (fun c => M c s) k * Y k)
      have := hY k
      rw [ep] at this
      have t : Y k * Y k = (A * a k s - wE a s (fun c => M c s) k) * Y k := by rw [← this]
      grind)
    omega
  have w2 : sm (fun e => wE a s (fun c => M c s) e * wE a s (fun c => M c s) e) m = A * (A * qE a p m s s - M s s) := by
    have e2 := sm_lin (f := fun e => a e s * p s e) (g := fun e => a e s * Y e) (a := A * A) (b := -A) m
    have e4 := sm_lin (f := fun e => A * A * (a e s * p s e) + -A * (a e s * Y e)) (g := fun e => wE a s (fun c => M c s) e * Y e) (a := 1) (b := -1) m
    rw [z] at e4
    rw [os] at e2
    have e3 : sm (fun e => wE a s (fun c => M c s) e * wE a s (fun c => M c s) e) m = sm (fun e => 1 * (A * A * (a e s * p s e) + -A * (a e s * Y e)) + -1 * (wE a s (fun c => M c s) e * Y e)) m := sm_cg _ (fun k _ => by
      show wE a s (fun c => M c s) k * wE a s (fun c => M c s) k = 1 * (A * A * (a k s * p s k) + -A * (a k s * Y k)) + -1 * (wE a s (fun c => M c s) k * Y k)
      have e9 : p s k = a k s := by rw [ep]
      have := hY k
      rw [e9] at this ⊢
      have t1 : wE a s (fun c => M c s) k = A * a k s - Y k := by omega
      rw [t1]
      grind)
    unfold qE
    grind
  have A1 : 0 < A := A0
  have n1 : 0 ≤ sm (fun e => Y e * Y e) m := sm_nn m (fun k _ => sq_nn (Y k))
  have n2 : 0 ≤ sm (fun e => wE a s (fun c => M c s) e * wE a s (fun c => M c s) e) m := sm_nn m (fun k _ => sq_nn (wE a s (fun c => M c s) k))
  rw [y2] at n1
  rw [w2] at n2
  have u : 0 ≤ A * qE a p m s s - M s s := Decidable.byContradiction fun c => by
    have := Int.mul_neg_of_pos_of_neg A1 (by omega : A * qE a p m s s - M s s < 0)
    omega
  have v : 0 ≤ M s s := Decidable.byContradiction fun c => by
    have := Int.mul_neg_of_pos_of_neg A1 (by omega : M s s < 0)
    omega
  refine ⟨?_, by omega⟩
  rcases (by omega : M s s = 0 ∨ 0 < M s s) with c | c
  · exfalso
    rw [c, Int.mul_zero] at y2
    have w0 : ∀ e, e < m → Y e = 0 := fun e he => by
      have : Y e * Y e ≤ sm (fun e => Y e * Y e) m := sm_el m (fun k _ => sq_nn (Y k)) e he
      rw [y2] at this
      have := sq_le (Int.le_refl 0) this
      omega
    have := Hg_s (s := s + 1) (by omega) H (fun k => if k = s then A else -M k s) 0 (fun e he => by
      have e1 : wE a (s + 1) (fun k => if k = s then A else -M k s) e = Y e := by
        unfold wE
        rw [sm]
        show sm (fun c => (if c = s then A else -M c s) * a e c) s + (if s = s then A else -M s s) * a e s = Y e
        have e9 : p s e = a e s := by rw [ep]
        rw [if_pos rfl, hY e, e9]
        have e2 : sm (fun c => (if c = s then A else -M c s) * a e c) s = -1 * wE a s (fun c => M c s) e := by
          unfold wE
          rw [← sm_mul]
          exact sm_cg _ (fun k hk => by
            show (if k = s then A else -M k s) * a e k = -1 * (M k s * a e k)
            rw [if_neg (by omega)]
            grind)
        rw [e2]
        omega
      rw [e1, w0 e he]
      omega) s (by omega)
    rw [if_pos rfl] at this
    omega
  · exact c
/-! ===== grades: the whole elimination ===== -/
theorem cube3 {q : Nat} (h : q < 29) : q * q * q ≤ 3 ^ q := (by decide : ∀ q : Nat, q < 29 → q * q * q ≤ 3 ^ q) q h
theorem cube_le {A : Int} {g : Nat} (A0 : 0 ≤ A) (h : A * A * A ≤ ((3 ^ g : Nat) : Int)) (hg : g ≤ 28) : A ≤ 30000 := by
  have : (3 : Nat) ^ g ≤ 3 ^ 28 := Nat.pow_le_pow_right (by decide) hg
  have e : (3 : Nat) ^ 28 = 22876792454961 := by decide
  refine Decidable.byContradiction fun c => ?_
  have h2 : 30001 * 30001 ≤ A * A := Int.mul_le_mul (by omega) (by omega) (by omega) (by omega)
  have h3 : 30001 * 30001 * 30001 ≤ A * A * A := Int.mul_le_mul h2 (by omega) (by omega) (by omega)
  omega
theorem el_all {a p : Nat → Nat → Int} {m n : Nat} (hp : ∀ j, j < n → p j = fun e => a e j) (H : Hg a m n 196) (hm : m ≤ 14) (ha : ∀ e i, a e i = 0 ∨ a e i = 1) (h2 : sm (fun c => qE a p m c c) n ≤ 28) : ∀ s : Nat, s ≤ n → ∃ R : Nat → Nat → Nat → Int, R 0 = qE a p m ∧ (∀ k, k < s → R k k k = dA (qE a p m) (k + 1) ∧ (∀ j, R (k + 1) k j = R k k j) ∧ (∀ i j, i < n → i ≠ k → R k k k * R k i j - R k i k * R k k j = dA (qE a p m) k * R (k + 1) i j)) ∧ (∀ k, k ≤ s → 0 < dA (qE a p m) k ∧ dA (qE a p m) k ≤ 30000 ∧ dA (qE a p m) k * dA (qE a p m) k * dA (qE a p m) k ≤ ((3 ^ (sm (fun c => qE a p m c c) k).toNat : Nat) : Int) ∧ El (qE a p m) n k (R k))
  | 0, _ => ⟨fun _ => qE a p m, rfl, fun k hk => absurd hk (Nat.not_lt_zero _), fun k hk => by
      have : k = 0 := by omega
      subst this
      rw [dA_0]
      exact ⟨by decide, by decide, (by decide : (1 : Int) * 1 * 1 ≤ ((3 ^ (0 : Int).toNat : Nat) : Int)), el_0⟩⟩
  | s + 1, hs => by
    obtain ⟨R, r0, r1, r2⟩ := el_all hp H hm ha h2 s (by omega)
    obtain ⟨A0, Al, A3, el⟩ := r2 s (Nat.le_refl _)
    have pv := el_pv (by omega) (PD_g hp H (by omega)) el
    have ps := el_pos hp H (by omega) el A0
    obtain ⟨M', m1, m2, m3⟩ := el_step (by omega) (by omega) (PD_g hp H (by omega)) (PD_g hp H hs) el
    have qn : ∀ c, 0 ≤ qE a p m c c ∨ n ≤ c := fun c => by
      by_cases h : c < n
      · left
        unfold qE
        refine sm_nn m (fun k _ => ?_)
        rw [hp c h]
        exact sq_nn (a k c)
      · omega
    have su : ∀ k, k ≤ n → 0 ≤ sm (fun c => qE a p m c c) k := fun k hk => sm_nn k (fun c hc => (qn c).resolve_right (by omega))
    have sl : ∀ d k, k + d = n → sm (fun c => qE a p m c c) k ≤ 28 := by
      intro d
      induction d with
      | zero => intro k hk; rw [show k = n by omega]; exact h2
      | succ d ih =>
        intro k hk
        have := ih (k + 1) (by omega)
        rw [sm] at this
        have := (qn k).resolve_right (by omega)
        omega
    have s1 := sl (n - (s + 1)) (s + 1) (by omega)
    have s0 := su s (by omega)
    have q0 := (qn s).resolve_right (by omega)
    have es : sm (fun c => qE a p m c c) (s + 1) = sm (fun c => qE a p m c c) s + qE a p m s s := rfl
    have g3 : dA (qE a p m) (s + 1) * dA (qE a p m) (s + 1) * dA (qE a p m) (s + 1) ≤ ((3 ^ (sm (fun c => qE a p m c c) (s + 1)).toNat : Nat) : Int) := by
      rw [es] at s1 ⊢
      rw [pv] at ps
      generalize qE a p m s s = q at *
      generalize sm (fun c => qE a p m c c) s = g at *
      generalize dA (qE a p m) (s + 1) = B at *
      generalize dA (qE a p m) s = A at *
      obtain ⟨q', rfl⟩ := Int.eq_ofNat_of_zero_le q0
      obtain ⟨g', rfl⟩ := Int.eq_ofNat_of_zero_le s0
      have et : ((g' : Int) + (q' : Int)).toNat = g' + q' := by omega
      rw [et, Nat.pow_add, Int.natCast_mul]
      rw [Int.toNat_natCast] at A3
      have c3 := cube3 (q := q') (by omega)
      have c4 : (q' : Int) * q' * q' ≤ ((3 ^ q' : Nat) : Int) := by
        have := Int.ofNat_le.mpr c3
        rw [Int.natCast_mul, Int.natCast_mul] at this
        exact this
      have b0 : 0 ≤ A * (q' : Int) := Int.mul_nonneg (by omega) q0
      have t1 : B * B ≤ A * q' * (A * q') := Int.mul_le_mul ps.2 ps.2 (by omega) b0
      have t2 : B * B * B ≤ A * q' * (A * q') * (A * q') := Int.mul_le_mul t1 ps.2 (by omega) (Int.mul_nonneg b0 b0)
      have t3 : A * A * A * ((q' : Int) * q' * q') ≤ ((3 ^ g' : Nat) : Int) * ((3 ^ q' : Nat) : Int) := Int.mul_le_mul A3 c4 (Int.mul_nonneg (Int.mul_nonneg q0 q0) q0) (Int.natCast_nonneg _)
      have t4 : A * q' * (A * q') * (A * q') = A * A * A * ((q' : Int) * q' * q') := by grind
      omega
    rw [pv] at ps
    obtain ⟨R', n1, n2⟩ : ∃ R' : Nat → Nat → Nat → Int, R' (s + 1) = M' ∧ ∀ k, k ≠ s + 1 → R' k = R k := ⟨fun k => if k = s + 1 then M' else R k, if_pos rfl, fun k hk => if_neg hk⟩
    refine ⟨R', by rw [n2 0 (by omega)]; exact r0, fun k hk => ?_, fun k hk => ?_⟩
    · rw [n2 k (by omega)]
      by_cases c : k = s
      · rw [c, n1]
        exact ⟨pv, m1, m2⟩
      · rw [n2 (k + 1) (by omega)]
        exact r1 k (by omega)
    · by_cases c : k = s + 1
      · rw [c, n1]
        exact ⟨ps.1, cube_le (by omega) g3 (by omega), g3, m3⟩
      · rw [n2 k c]
        exact r2 k (by omega)
