/-! ===== pieces: labels carried along entries ===== -/
def rxS (a b : Int → Int) : Int → (Int → Int) → (Int → Int) := fun e L => updI (updI L (a e) (min (L (a e)) (L (b e)))) (b e) (min (L (a e)) (L (b e)))
def rxN (a b : Int → Int) (L : Int → Int) : Int → (Int → Int) := itI (rxS a b) L
def rdN (a b : Int → Int) (n : Int) (L : Int → Int) : Int → (Int → Int) := itI (fun _ L => rxN a b L n) L
theorem rxN_s {a b L : Int → Int} {n : Int} (h : 0 ≤ n) : rxN a b L (n + 1) = rxS a b n (rxN a b L n) := itI_succ h
theorem rdN_s {a b L : Int → Int} {n t : Int} (h : 0 ≤ t) : rdN a b n L (t + 1) = rxN a b (rdN a b n L t) n := itI_succ h
theorem rx_a {a b L : Int → Int} {e : Int} : rxS a b e L (a e) = min (L (a e)) (L (b e)) ∧ rxS a b e L (b e) = min (L (a e)) (L (b e)) := by
  unfold rxS updI
  refine ⟨?_, if_pos rfl⟩
  split
  · rfl
  · exact if_pos rfl
theorem rx_n {a b L : Int → Int} {e k : Int} (h1 : k ≠ a e) (h2 : k ≠ b e) : rxS a b e L k = L k := by
  unfold rxS updI
  rw [if_neg h2, if_neg h1]
theorem rx_le {a b L : Int → Int} {e k : Int} : rxS a b e L k ≤ L k := by
  by_cases h1 : k = a e
  · rw [h1, rx_a.1]
    omega
  · by_cases h2 : k = b e
    · rw [h2, rx_a.2]
      omega
    · rw [rx_n h1 h2]
      exact Int.le_refl _
theorem rxN_le {a b L : Int → Int} {k : Int} : ∀ m : Nat, rxN a b L (m : Int) k ≤ L k
  | 0 => Int.le_refl _
  | m + 1 => by
    have e : ((m + 1 : Nat) : Int) = (m : Int) + 1 := by omega
    rw [e, rxN_s (by omega)]
    exact Int.le_trans rx_le (rxN_le m)
theorem rxN_mono {a b L : Int → Int} {k : Int} (m : Nat) : ∀ d : Nat, rxN a b L ((m + d : Nat) : Int) k ≤ rxN a b L (m : Int) k
  | 0 => Int.le_refl _
  | d + 1 => by
    have e : ((m + (d + 1) : Nat) : Int) = ((m + d : Nat) : Int) + 1 := by omega
    rw [e, rxN_s (by omega)]
    exact Int.le_trans rx_le (rxN_mono m d)
theorem rx_inv {a b : Int → Int} {n : Int} {P : Int → Int → Prop} (h : ∀ e, 0 ≤ e → e < n → ∀ v w, P (a e) v → P (b e) w → P (a e) (min v w) ∧ P (b e) (min v w)) {L : Int → Int} (hL : ∀ k, P k (L k)) : ∀ m : Nat, (m : Int) ≤ n → ∀ k, P k (rxN a b L (m : Int) k)
  | 0, _, k => hL k
  | m + 1, hm, k => by
    have e : ((m + 1 : Nat) : Int) = (m : Int) + 1 := by omega
    have ih := rx_inv h hL m (by omega)
    rw [e, rxN_s (by omega)]
    have q := h (m : Int) (by omega) (by omega) _ _ (ih (a (m : Int))) (ih (b (m : Int)))
    by_cases h1 : k = a (m : Int)
    · rw [h1, rx_a.1]
      exact q.1
    · by_cases h2 : k = b (m : Int)
      · rw [h2, rx_a.2]
        exact q.2
      · rw [rx_n h1 h2]
        exact ih k
theorem rd_inv {a b : Int → Int} {n : Int} (hn : 0 ≤ n) {P : Int → Int → Prop} (h : ∀ e, 0 ≤ e → e < n → ∀ v w, P (a e) v → P (b e) w → P (a e) (min v w) ∧ P (b e) (min v w)) {L : Int → Int} (hL : ∀ k, P k (L k)) : ∀ t : Nat, ∀ k, P k (rdN a b n L (t : Int) k)
  | 0, k => hL k
  | t + 1, k => by
    have e : ((t + 1 : Nat) : Int) = (t : Int) + 1 := by omega
    have en : ((n.toNat : Nat) : Int) = n := Int.toNat_of_nonneg hn
    rw [e, rdN_s (by omega), ← en]
    refine rx_inv (n := n) h (rd_inv hn h hL t) n.toNat (by omega) k
/-- all numbers of a row that are at most v -/
def acF (L : Int → Int) (v : Int) : Int → Int := fun k => if L k ≤ v then 1 else 0
def clo (a b : Int → Int) (n : Int) (L : Int → Int) (v : Int) : Prop := ∀ e, 0 ≤ e → e < n → (L (a e) ≤ v ↔ L (b e) ≤ v)
theorem clo_rx {a b L : Int → Int} {n v : Int} (h : clo a b n L v) : ∀ m : Nat, (m : Int) ≤ n → ∀ k, (rxN a b L (m : Int) k ≤ v ↔ L k ≤ v)
  | 0, _, k => Iff.rfl
  | m + 1, hm, k => by
    have e : ((m + 1 : Nat) : Int) = (m : Int) + 1 := by omega
    have ih := clo_rx h m (by omega)
    have q := h (m : Int) (by omega) (by omega)
    have qa := ih (a (m : Int))
    have qb := ih (b (m : Int))
    rw [e, rxN_s (by omega)]
    by_cases h1 : k = a (m : Int)
    · rw [h1, rx_a.1]
      omega
    · by_cases h2 : k = b (m : Int)
      · rw [h2, rx_a.2]
        omega
      · rw [rx_n h1 h2]
        exact ih k
theorem tc_le {f g : Int → Int} : ∀ m : Nat, (∀ k, 0 ≤ k → k < (m : Int) → f k ≠ 0 → g k ≠ 0) → tcN f (m : Int) ≤ tcN g (m : Int)
  | 0, _ => Int.le_refl _
  | m + 1, h => by
    have e : ((m + 1 : Nat) : Int) = (m : Int) + 1 := by omega
    have ih := tc_le m (fun k k0 k1 => h k k0 (by omega))
    have q := h (m : Int) (by omega) (by omega)
    rw [e, tcN_s (by omega), tcN_s (by omega)]
    by_cases c : f (m : Int) = 0
    · rw [if_pos c]
      split <;> omega
    · rw [if_neg c, if_neg (q c)]
      omega
theorem tc_lt {f g : Int → Int} : ∀ m : Nat, (∀ k, 0 ≤ k → k < (m : Int) → f k ≠ 0 → g k ≠ 0) → (∃ k, 0 ≤ k ∧ k < (m : Int) ∧ f k = 0 ∧ g k ≠ 0) → tcN f (m : Int) + 1 ≤ tcN g (m : Int)
  | 0, _, ⟨k, k0, k1, _⟩ => absurd k1 (by omega)
  | m + 1, h, ⟨k, k0, k1, k2, k3⟩ => by
    have e : ((m + 1 : Nat) : Int) = (m : Int) + 1 := by omega
    have q := h (m : Int) (by omega) (by omega)
    rw [e, tcN_s (by omega), tcN_s (by omega)]
    by_cases c : k = (m : Int)
    · rw [c] at k2 k3
      rw [if_pos k2, if_neg k3]
      have := tc_le m (fun k k0 k1 => h k k0 (by omega))
      omega
    · have ih := tc_lt m (fun k k0 k1 => h k k0 (by omega)) ⟨k, k0, by omega, k2, k3⟩
      by_cases c2 : f (m : Int) = 0
      · rw [if_pos c2]
        split <;> omega
      · rw [if_neg c2, if_neg (q c2)]
        omega
theorem clo_or {a b L : Int → Int} {n v : Int} (hn : 0 ≤ n) (hab : ∀ e, 0 ≤ e → e < n → (0 ≤ a e ∧ a e < 14) ∧ (0 ≤ b e ∧ b e < 14)) : ∀ t : Nat, clo a b n (rdN a b n L (t : Int)) v ∨ tcN (acF L v) 14 + (t : Int) ≤ tcN (acF (rdN a b n L (t : Int)) v) 14
  | 0 => Or.inr (by show tcN (acF L v) 14 + 0 ≤ tcN (acF L v) 14; omega)
  | t + 1 => by
    have e : ((t + 1 : Nat) : Int) = (t : Int) + 1 := by omega
    have en : ((n.toNat : Nat) : Int) = n := Int.toNat_of_nonneg hn
    have ih := clo_or (L := L) (v := v) hn hab t
    rw [e, rdN_s (by omega)]
    generalize rdN a b n L (t : Int) = K at ih
    by_cases c : clo a b n K v
    · refine Or.inl (fun x x0 x1 => ?_)
      have q1 := clo_rx c n.toNat (by omega) (a x)
      have q2 := clo_rx c n.toNat (by omega) (b x)
      rw [en] at q1 q2
      rw [q1, q2]
      exact c x x0 x1
    · refine Or.inr ?_
      have i2 : tcN (acF L v) 14 + (t : Int) ≤ tcN (acF K v) 14 := ih.elim (fun z => absurd z c) (fun z => z)
      have mono : ∀ k, rxN a b K n k ≤ K k := fun k => by
        have := rxN_le (a := a) (b := b) (L := K) (k := k) n.toNat
        rw [en] at this
        exact this
      have ex : ∃ x, 0 ≤ x ∧ x < n ∧ ¬ (K (a x) ≤ v ↔ K (b x) ≤ v) := by
        rcases Classical.em (∃ x, 0 ≤ x ∧ x < n ∧ ¬ (K (a x) ≤ v ↔ K (b x) ≤ v)) with z | z
        · exact z
        · exact absurd (fun x x0 x1 => Classical.byContradiction (fun y => z ⟨x, x0, x1, y⟩)) c
      obtain ⟨x, x0, x1, x2⟩ := ex
      have both : rxN a b K n (a x) ≤ v ∧ rxN a b K n (b x) ≤ v := by
        have s := rxN_s (a := a) (b := b) (L := K) (n := x) x0
        have ex1 : ((x.toNat + 1 : Nat) : Int) = x + 1 := by omega
        have ex0 : ((x.toNat : Nat) : Int) = x := Int.toNat_of_nonneg x0
        have m1 := rxN_le (a := a) (b := b) (L := K) (k := a x) x.toNat
        have m2 := rxN_le (a := a) (b := b) (L := K) (k := b x) x.toNat
        rw [ex0] at m1 m2
        have r := rx_a (a := a) (b := b) (L := rxN a b K x) (e := x)
        have d1 := rxN_mono (a := a) (b := b) (L := K) (k := a x) (x.toNat + 1) (n.toNat - (x.toNat + 1))
        have d2 := rxN_mono (a := a) (b := b) (L := K) (k := b x) (x.toNat + 1) (n.toNat - (x.toNat + 1))
        have ed : ((x.toNat + 1 + (n.toNat - (x.toNat + 1)) : Nat) : Int) = n := by omega
        rw [ed, ex1, s] at d1 d2
        rw [r.1] at d1
        rw [r.2] at d2
        have : K (a x) ≤ v ∨ K (b x) ≤ v := by
          rcases Classical.em (K (a x) ≤ v) with z | z
          · exact Or.inl z
          · exact Or.inr (Classical.byContradiction (fun y => x2 ⟨fun w => absurd w z, fun w => absurd w y⟩))
        omega
      have nx : ∃ k, (0 ≤ k ∧ k < 14) ∧ ¬ K k ≤ v ∧ rxN a b K n k ≤ v := by
        have hx := hab x x0 x1
        rcases Classical.em (K (a x) ≤ v) with z | z
        · exact ⟨b x, hx.2, fun y => x2 ⟨fun _ => y, fun _ => z⟩, both.2⟩
        · exact ⟨a x, hx.1, z, both.1⟩
      obtain ⟨k, k0, k1, k2⟩ := nx
      have lt := tc_lt (f := acF K v) (g := acF (rxN a b K n) v) 14 (fun j j0 j1 hj => by
        unfold acF at hj ⊢
        have := mono j
        split at hj
        · rw [if_pos (by omega)]
          decide
        · exact absurd rfl hj) ⟨k, k0.1, k0.2, by unfold acF; rw [if_neg k1], by unfold acF; rw [if_pos k2]; decide⟩
      have : tcN (acF K v) 14 + 1 ≤ tcN (acF (rxN a b K n) v) 14 := lt
      omega
theorem tc_0 {f : Int → Int} : ∀ m : Nat, tcN f (m : Int) = 0 → ∀ k, 0 ≤ k → k < (m : Int) → f k = 0
  | 0, _, k, k0, k1 => absurd k1 (by omega)
  | m + 1, h, k, k0, k1 => by
    have e : ((m + 1 : Nat) : Int) = (m : Int) + 1 := by omega
    have i := tcN_in (f := f) m
    rw [e, tcN_s (by omega)] at h
    split at h
    · by_cases c : k = (m : Int)
      · rw [c]
        assumption
      · exact tc_0 m h k k0 (by omega)
    · omega
/-- behind fourteen rounds the ends of each entry are labelled alike -/
theorem rd_same {a b L : Int → Int} {n : Int} (hn : 0 ≤ n) (hab : ∀ e, 0 ≤ e → e < n → (0 ≤ a e ∧ a e < 14) ∧ (0 ≤ b e ∧ b e < 14)) {e : Int} (e0 : 0 ≤ e) (e1 : e < n) : rdN a b n L 14 (a e) = rdN a b n L 14 (b e) := by
  have key : ∀ v, clo a b n (rdN a b n L 14) v := fun v => by
    have i := tcN_in (f := acF L v) 14
    have j := tcN_in (f := acF (rdN a b n L 14) v) 14
    rcases clo_or (L := L) (v := v) hn hab 14 with z | z
    · exact z
    · have z0 : tcN (acF L v) ((14 : Nat) : Int) = 0 := by
        have z' : tcN (acF L v) ((14 : Nat) : Int) + 14 ≤ tcN (acF (rdN a b n L 14) v) ((14 : Nat) : Int) := z
        omega
      have no := tc_0 14 z0
      have cl0 : clo a b n L v := fun x x0 x1 => by
        have hx := hab x x0 x1
        have h1 := no (a x) hx.1.1 (by omega)
        have h2 := no (b x) hx.2.1 (by omega)
        unfold acF at h1 h2
        refine ⟨fun y => ?_, fun y => ?_⟩
        · rw [if_pos y] at h1
          omega
        · rw [if_pos y] at h2
          omega
      have step : ∀ t : Nat, ∀ k, (rdN a b n L (t : Int) k ≤ v ↔ L k ≤ v) := fun t => by
        induction t with
        | zero => exact fun k => Iff.rfl
        | succ t ih =>
          intro k
          have e : ((t + 1 : Nat) : Int) = (t : Int) + 1 := by omega
          have en : ((n.toNat : Nat) : Int) = n := Int.toNat_of_nonneg hn
          have c2 : clo a b n (rdN a b n L (t : Int)) v := fun x x0 x1 => by
            rw [ih, ih]
            exact cl0 x x0 x1
          have := clo_rx c2 n.toNat (by omega) k
          rw [en] at this
          rw [e, rdN_s (by omega), this]
          exact ih k
      intro x x0 x1
      have s1 := step 14 (a x)
      have s2 := step 14 (b x)
      have s1' : rdN a b n L 14 (a x) ≤ v ↔ L (a x) ≤ v := s1
      have s2' : rdN a b n L 14 (b x) ≤ v ↔ L (b x) ≤ v := s2
      rw [s1', s2']
      exact cl0 x x0 x1
  have k1 := key (rdN a b n L 14 (a e)) e e0 e1
  have k2 := key (rdN a b n L 14 (b e)) e e0 e1
  have := k1.mp (Int.le_refl _)
  have := k2.mpr (Int.le_refl _)
  omega
theorem tc_one {g : Int → Int} {x : Int} : ∀ m : Nat, (0 ≤ x ∧ x < (m : Int)) → g x ≠ 0 → tcN g (m : Int) = tcN (fun j => if j = x then 0 else g j) (m : Int) + 1
  | 0, hx, _ => absurd hx.2 (by omega)
  | m + 1, hx, h => by
    have e : ((m + 1 : Nat) : Int) = (m : Int) + 1 := by omega
    rw [e, tcN_s (by omega), tcN_s (by omega)]
    by_cases c : x = (m : Int)
    · rw [← c, if_neg h, if_pos (if_pos rfl), c]
      have := tcN_cg (f := g) (g := fun j => if j = (m : Int) then 0 else g j) m (fun r r0 r1 => by
        show g r = if r = (m : Int) then 0 else g r
        rw [if_neg (by omega)])
      rw [this]
    · have ih := tc_one (g := g) (x := x) m ⟨hx.1, by omega⟩ h
      have e2 : (if (m : Int) = x then 0 else g (m : Int)) = g (m : Int) := if_neg (fun z => c z.symm)
      show (if g (m : Int) = 0 then tcN g (m : Int) else tcN g (m : Int) + 1) = (if (if (m : Int) = x then 0 else g (m : Int)) = 0 then tcN (fun j => if j = x then 0 else g j) (m : Int) else tcN (fun j => if j = x then 0 else g j) (m : Int) + 1) + 1
      rw [e2, ih]
      split <;> rfl
theorem tc_inj {f : Int → Int} {F : Int → Int} {m' : Nat} : ∀ (m : Nat) (g : Int → Int), (∀ k, 0 ≤ k → k < (m : Int) → f k ≠ 0 → (0 ≤ F k ∧ F k < (m' : Int)) ∧ g (F k) ≠ 0) → (∀ j k, 0 ≤ j → j < k → k < (m : Int) → f j ≠ 0 → f k ≠ 0 → F j ≠ F k) → tcN f (m : Int) ≤ tcN g (m' : Int)
  | 0, g, _, _ => (tcN_in (f := g) m').1
  | m + 1, g, h1, h2 => by
    have e : ((m + 1 : Nat) : Int) = (m : Int) + 1 := by omega
    rw [e, tcN_s (by omega)]
    by_cases c : f (m : Int) = 0
    · rw [if_pos c]
      exact tc_inj m g (fun k k0 k1 => h1 k k0 (by omega)) (fun j k j0 jk k1 => h2 j k j0 jk (by omega))
    · rw [if_neg c]
      have q := h1 (m : Int) (by omega) (by omega) c
      rw [tc_one m' q.1 q.2]
      have := tc_inj m (fun j => if j = F (m : Int) then 0 else g j) (fun k k0 k1 hk => by
        have z := h1 k k0 (by omega) hk
        have ne := h2 k (m : Int) k0 k1 (by omega) hk c
        exact ⟨z.1, by rw [if_neg ne]; exact z.2⟩) (fun j k j0 jk k1 => h2 j k j0 jk (by omega))
      omega
def En (a b : Int → Int) (n k : Int) : Prop := ∃ e, 0 ≤ e ∧ e < n ∧ (a e = k ∨ b e = k)
def ciS (a b : Int → Int) : Int → (Int → Int) → (Int → Int) := fun e L => updI (updI L (b e) (b e)) (a e) 14
def miS (a b : Int → Int) : Int → (Int → Int) → (Int → Int) := fun e L => updI (updI L (a e) (a e)) (b e) (b e)
def AB (a b : Int → Int) (n : Int) : Prop := (0 ≤ n ∧ n ≤ 14) ∧ ∀ e, 0 ≤ e → e < n → (0 ≤ a e ∧ a e < 6) ∧ (6 ≤ b e ∧ b e < 14)
theorem En.up {a b : Int → Int} {n m k : Int} (h : En a b n k) (hm : n ≤ m) : En a b m k := by
  obtain ⟨e, e0, e1, e2⟩ := h
  exact ⟨e, e0, by omega, e2⟩
theorem ci_in {a b Z : Int → Int} {n : Int} (hab : AB a b n) (hZ : ∀ k, 0 ≤ k → k < 14 → Z k = -4) : ∀ m : Nat, (m : Int) ≤ n → ∀ k, 0 ≤ k → k < 14 → (itI (ciS a b) Z (m : Int) k = -4 ∧ ¬ En a b (m : Int) k) ∨ (En a b (m : Int) k ∧ ((k < 6 ∧ itI (ciS a b) Z (m : Int) k = 14) ∨ (6 ≤ k ∧ itI (ciS a b) Z (m : Int) k = k)))
  | 0, _, k, k0, k1 => Or.inl ⟨hZ k k0 k1, fun ⟨e, e0, e1, _⟩ => by omega⟩
  | m + 1, hm, k, k0, k1 => by
    have e : ((m + 1 : Nat) : Int) = (m : Int) + 1 := by omega
    have ih := ci_in hab hZ m (by omega) k k0 k1
    have x := hab.2 (m : Int) (by omega) (by omega)
    rw [e, itI_succ (by omega)]
    show (updI (updI (itI (ciS a b) Z (m : Int)) (b (m : Int)) (b (m : Int))) (a (m : Int)) 14 k = -4 ∧ _) ∨ (_ ∧ ((_ ∧ updI (updI (itI (ciS a b) Z (m : Int)) (b (m : Int)) (b (m : Int))) (a (m : Int)) 14 k = 14) ∨ (_ ∧ updI (updI (itI (ciS a b) Z (m : Int)) (b (m : Int)) (b (m : Int))) (a (m : Int)) 14 k = k)))
    unfold updI
    by_cases h1 : k = a (m : Int)
    · rw [if_pos h1]
      exact Or.inr ⟨⟨(m : Int), by omega, by omega, Or.inl h1.symm⟩, Or.inl ⟨by omega, rfl⟩⟩
    · rw [if_neg h1]
      by_cases h2 : k = b (m : Int)
      · rw [if_pos h2]
        exact Or.inr ⟨⟨(m : Int), by omega, by omega, Or.inr h2.symm⟩, Or.inr ⟨by omega, h2.symm⟩⟩
      · rw [if_neg h2]
        rcases ih with ⟨p, q⟩ | ⟨p, q⟩
        · refine Or.inl ⟨p, fun ⟨z, z0, z1, z2⟩ => ?_⟩
          by_cases c : z = (m : Int)
          · rw [c] at z2
            exact z2.elim (fun y => h1 y.symm) (fun y => h2 y.symm)
          · exact q ⟨z, z0, by omega, z2⟩
        · exact Or.inr ⟨p.up (by omega), q⟩
theorem mi_in {a b Z : Int → Int} {n : Int} (hab : AB a b n) (hZ : ∀ k, 0 ≤ k → k < 14 → Z k = -4) : ∀ m : Nat, (m : Int) ≤ n → ∀ k, 0 ≤ k → k < 14 → (itI (miS a b) Z (m : Int) k = -4 ∧ ¬ En a b (m : Int) k) ∨ (En a b (m : Int) k ∧ itI (miS a b) Z (m : Int) k = k)
  | 0, _, k, k0, k1 => Or.inl ⟨hZ k k0 k1, fun ⟨e, e0, e1, _⟩ => by omega⟩
  | m + 1, hm, k, k0, k1 => by
    have e : ((m + 1 : Nat) : Int) = (m : Int) + 1 := by omega
    have ih := mi_in hab hZ m (by omega) k k0 k1
    rw [e, itI_succ (by omega)]
    show (updI (updI (itI (miS a b) Z (m : Int)) (a (m : Int)) (a (m : Int))) (b (m : Int)) (b (m : Int)) k = -4 ∧ _) ∨ (_ ∧ updI (updI (itI (miS a b) Z (m : Int)) (a (m : Int)) (a (m : Int))) (b (m : Int)) (b (m : Int)) k = k)
    unfold updI
    by_cases h2 : k = b (m : Int)
    · rw [if_pos h2]
      exact Or.inr ⟨⟨(m : Int), by omega, by omega, Or.inr h2.symm⟩, h2.symm⟩
    · rw [if_neg h2]
      by_cases h1 : k = a (m : Int)
      · rw [if_pos h1]
        exact Or.inr ⟨⟨(m : Int), by omega, by omega, Or.inl h1.symm⟩, h1.symm⟩
      · rw [if_neg h1]
        rcases ih with ⟨p, q⟩ | ⟨p, q⟩
        · refine Or.inl ⟨p, fun ⟨z, z0, z1, z2⟩ => ?_⟩
          by_cases c : z = (m : Int)
          · rw [c] at z2
            exact z2.elim (fun y => h1 y.symm) (fun y => h2 y.symm)
          · exact q ⟨z, z0, by omega, z2⟩
        · exact Or.inr ⟨p.up (by omega), q⟩
/-- the labels of each side, behind all rounds -/
def lbC (a b : Int → Int) (n : Int) (Z : Int → Int) : Int → Int := rdN a b n (itI (ciS a b) Z n) 14
def lbM (a b : Int → Int) (n : Int) (Z : Int → Int) : Int → Int := rdN a b n (itI (miS a b) Z n) 14
theorem lbC_f {a b Z f : Int → Int} {n : Int} (hab : AB a b n) (hZ : ∀ k, 0 ≤ k → k < 14 → Z k = -4) (hf : ∀ e, 0 ≤ e → e < n → f (a e) = f (b e)) : ∀ k, 0 ≤ k → k < 14 → (lbC a b n Z k = -4 ∧ ¬ En a b n k) ∨ (En a b n k ∧ 6 ≤ lbC a b n Z k ∧ lbC a b n Z k ≤ 14 ∧ (6 ≤ k → lbC a b n Z k ≤ k) ∧ (lbC a b n Z k = 14 ∨ f (lbC a b n Z k) = f k)) := by
  have c0 := ci_in hab hZ n.toNat (by have := hab.1; omega)
  rw [Int.toNat_of_nonneg hab.1.1] at c0
  have key := rd_inv (a := a) (b := b) (n := n) hab.1.1 (L := itI (ciS a b) Z n) (P := fun k v => 0 ≤ k → k < 14 → (v = -4 ∧ ¬ En a b n k) ∨ (En a b n k ∧ 6 ≤ v ∧ v ≤ 14 ∧ (6 ≤ k → v ≤ k) ∧ (v = 14 ∨ f v = f k)))
    (fun e e0 e1 v w hv hw => by
      have x := hab.2 e e0 e1
      have hv := hv (by omega) (by omega)
      have hw := hw (by omega) (by omega)
      have ea : En a b n (a e) := ⟨e, e0, e1, Or.inl rfl⟩
      have eb : En a b n (b e) := ⟨e, e0, e1, Or.inr rfl⟩
      have ff := hf e e0 e1
      rcases hv with z | ⟨-, v1, v2, v3, v4⟩
      · exact absurd ea z.2
      rcases hw with z | ⟨-, u1, u2, u3, u4⟩
      · exact absurd eb z.2
      have mm : min v w = v ∨ min v w = w := by omega
      have m4 : min v w = 14 ∨ f (min v w) = f (a e) := by
        rcases mm with z | z <;> rw [z]
        · exact v4
        · rw [ff]; exact u4
      exact ⟨fun _ _ => Or.inr ⟨ea, by omega, by omega, fun z => by omega, m4⟩, fun _ _ => Or.inr ⟨eb, by omega, by omega, fun z => by have := u3 z; omega, by rw [← ff]; exact m4⟩⟩)
    (fun k k0 k1 => by
      rcases c0 k k0 k1 with z | ⟨z, y⟩
      · exact Or.inl z
      · rcases y with ⟨y1, y2⟩ | ⟨y1, y2⟩
        · exact Or.inr ⟨z, by omega, by omega, fun w => by omega, Or.inl y2⟩
        · exact Or.inr ⟨z, by omega, by omega, fun w => by omega, Or.inr (by rw [y2])⟩) 14
  exact key
theorem lbM_f {a b Z f : Int → Int} {n : Int} (hab : AB a b n) (hZ : ∀ k, 0 ≤ k → k < 14 → Z k = -4) (hf : ∀ e, 0 ≤ e → e < n → f (a e) = f (b e)) : ∀ k, 0 ≤ k → k < 14 → (lbM a b n Z k = -4 ∧ ¬ En a b n k) ∨ (En a b n k ∧ 0 ≤ lbM a b n Z k ∧ lbM a b n Z k ≤ k ∧ f (lbM a b n Z k) = f k) := by
  have c0 := mi_in hab hZ n.toNat (by have := hab.1; omega)
  rw [Int.toNat_of_nonneg hab.1.1] at c0
  have key := rd_inv (a := a) (b := b) (n := n) hab.1.1 (L := itI (miS a b) Z n) (P := fun k v => 0 ≤ k → k < 14 → (v = -4 ∧ ¬ En a b n k) ∨ (En a b n k ∧ 0 ≤ v ∧ v ≤ k ∧ f v = f k))
    (fun e e0 e1 v w hv hw => by
      have x := hab.2 e e0 e1
      have hv := hv (by omega) (by omega)
      have hw := hw (by omega) (by omega)
      have ea : En a b n (a e) := ⟨e, e0, e1, Or.inl rfl⟩
      have eb : En a b n (b e) := ⟨e, e0, e1, Or.inr rfl⟩
      have ff := hf e e0 e1
      rcases hv with z | ⟨-, v1, v2, v4⟩
      · exact absurd ea z.2
      rcases hw with z | ⟨-, u1, u2, u4⟩
      · exact absurd eb z.2
      have mm : min v w = v ∨ min v w = w := by omega
      have m4 : f (min v w) = f (a e) := by
        rcases mm with z | z <;> rw [z]
        · exact v4
        · rw [ff]; exact u4
      exact ⟨fun _ _ => Or.inr ⟨ea, by omega, by omega, m4⟩, fun _ _ => Or.inr ⟨eb, by omega, by omega, by rw [← ff]; exact m4⟩⟩)
    (fun k k0 k1 => by
      rcases c0 k k0 k1 with z | ⟨z, y⟩
      · exact Or.inl z
      · exact Or.inr ⟨z, by omega, by omega, by rw [y]⟩) 14
  exact key
theorem lb_all {a b Z Y : Int → Int} {n : Int} (hab : AB a b n) (hZ : ∀ k, 0 ≤ k → k < 14 → Z k = -4) (hY : ∀ k, 0 ≤ k → k < 14 → Y k = -4) : ∀ k, 0 ≤ k → k < 14 → (lbC a b n Z k = -4 ∧ lbM a b n Y k = -4 ∧ ¬ En a b n k) ∨ (En a b n k ∧ (6 ≤ lbC a b n Z k ∧ lbC a b n Z k < 14) ∧ (0 ≤ lbM a b n Y k ∧ lbM a b n Y k < 6) ∧ (lbC a b n Z (lbC a b n Z k) = lbC a b n Z k ∧ lbM a b n Y (lbM a b n Y k) = lbM a b n Y k ∧ lbC a b n Z (lbM a b n Y k) = lbC a b n Z k ∧ lbM a b n Y (lbC a b n Z k) = lbM a b n Y k) ∧ (6 ≤ k → lbC a b n Z k ≤ k) ∧ lbM a b n Y k ≤ k) := by
  intro k k0 k1
  have h14 : ∀ e, 0 ≤ e → e < n → (0 ≤ a e ∧ a e < 14) ∧ (0 ≤ b e ∧ b e < 14) := fun e e0 e1 => by have := hab.2 e e0 e1; omega
  have sC : ∀ e, 0 ≤ e → e < n → lbC a b n Z (a e) = lbC a b n Z (b e) := fun e e0 e1 => rd_same hab.1.1 h14 e0 e1
  have sM : ∀ e, 0 ≤ e → e < n → lbM a b n Y (a e) = lbM a b n Y (b e) := fun e e0 e1 => rd_same hab.1.1 h14 e0 e1
  have c1 := lbC_f hab hZ sC k k0 k1
  have c2 := lbC_f hab hZ sM k k0 k1
  have m1 := lbM_f hab hY sC k k0 k1
  have m2 := lbM_f hab hY sM k k0 k1
  by_cases en : En a b n k
  · refine Or.inr ⟨en, ?_⟩
    rcases c1 with z | ⟨-, p1, p2, p3, p4⟩
    · exact absurd en z.2
    rcases c2 with z | ⟨-, -, -, -, p5⟩
    · exact absurd en z.2
    rcases m1 with z | ⟨-, q1, q2, q3⟩
    · exact absurd en z.2
    rcases m2 with z | ⟨-, -, -, q4⟩
    · exact absurd en z.2
    obtain ⟨e, e0, e1, e2⟩ := en
    have x := hab.2 e e0 e1
    have lC : lbC a b n Z k ≤ 13 := by
      have ek : lbC a b n Z k = lbC a b n Z (b e) := by
        rcases e2 with z | z
        · rw [← z]; exact sC e e0 e1
        · rw [← z]
      have y := lbC_f hab hZ sC (b e) (by omega) (by omega)
      rcases y with z | ⟨-, -, -, y3, -⟩
      · exact absurd ⟨e, e0, e1, Or.inr rfl⟩ z.2
      · have := y3 x.2.1
        omega
    have lM : lbM a b n Y k ≤ 5 := by
      have ek : lbM a b n Y k = lbM a b n Y (a e) := by
        rcases e2 with z | z
        · rw [← z]
        · rw [← z]; exact (sM e e0 e1).symm
      have y := lbM_f hab hY sM (a e) (by omega) (by omega)
      rcases y with z | ⟨-, -, y3, -⟩
      · exact absurd ⟨e, e0, e1, Or.inl rfl⟩ z.2
      · omega
    have n14 : ¬ lbC a b n Z k = 14 := by omega
    exact ⟨⟨p1, by omega⟩, ⟨q1, by omega⟩, ⟨p4.elim (fun z => absurd z n14) (fun z => z), q4, q3, p5.elim (fun z => absurd z n14) (fun z => z)⟩, p3, q2⟩
  · refine Or.inl ⟨?_, ?_, en⟩
    · rcases c1 with z | z
      · exact z.1
      · exact absurd z.1 en
    · rcases m1 with z | z
      · exact z.1
      · exact absurd z.1 en
def pcC (C : Int → Int) : Int → Int := fun j => if C (6 + j) = 6 + j then 1 else 0
def pcM (D : Int → Int) : Int → Int := fun k => if D k = k then 1 else 0
/-- both sides count the same pieces -/
theorem pc_same {a b Z Y : Int → Int} {n : Int} (hab : AB a b n) (hZ : ∀ k, 0 ≤ k → k < 14 → Z k = -4) (hY : ∀ k, 0 ≤ k → k < 14 → Y k = -4) : tcN (pcC (lbC a b n Z)) 8 = tcN (pcM (lbM a b n Y)) 14 := by
  have all := lb_all hab hZ hY
  generalize lbC a b n Z = C at all
  generalize lbM a b n Y = D at all
  have A := tc_inj (f := pcC C) (F := fun j => D (6 + j)) (m' := 14) 8 (pcM D) (fun j j0 j1 hj => by
    unfold pcC at hj
    split at hj
    · rename_i hc
      rcases all (6 + j) (by omega) (by omega) with z | ⟨-, p, q, r, s, t⟩
      · omega
      · refine ⟨by show 0 ≤ D (6 + j) ∧ D (6 + j) < 14; omega, ?_⟩
        unfold pcM
        rw [if_pos r.2.1]
        decide
    · exact absurd rfl hj) (fun i j i0 ij j1 hi hj => by
    unfold pcC at hi hj
    split at hi
    · rename_i ci
      split at hj
      · rename_i cj
        rcases all (6 + i) (by omega) (by omega) with z | ⟨-, p, q, r, s, t⟩
        · omega
        rcases all (6 + j) (by omega) (by omega) with z | ⟨-, p', q', r', s', t'⟩
        · omega
        intro e
        have e' : D (6 + i) = D (6 + j) := e
        have x1 := r.2.2.1
        have x2 := r'.2.2.1
        rw [e'] at x1
        omega
      · exact absurd rfl hj
    · exact absurd rfl hi)
  have B := tc_inj (f := pcM D) (F := fun k => C k - 6) (m' := 8) 14 (pcC C) (fun k k0 k1 hk => by
    unfold pcM at hk
    split at hk
    · rename_i hc
      rcases all k k0 (by omega) with z | ⟨-, p, q, r, s, t⟩
      · omega
      · refine ⟨by show 0 ≤ C k - 6 ∧ C k - 6 < 8; omega, ?_⟩
        unfold pcC
        have e : 6 + (C k - 6) = C k := by omega
        rw [e, if_pos r.1]
        decide
    · exact absurd rfl hk) (fun i j i0 ij j1 hi hj => by
    unfold pcM at hi hj
    split at hi
    · rename_i ci
      split at hj
      · rename_i cj
        rcases all i (by omega) (by omega) with z | ⟨-, p, q, r, s, t⟩
        · omega
        rcases all j (by omega) (by omega) with z | ⟨-, p', q', r', s', t'⟩
        · omega
        intro e
        have e' : C i = C j := by
          have : C i - 6 = C j - 6 := e
          omega
        have x1 := r.2.2.2
        have x2 := r'.2.2.2
        rw [e'] at x1
        omega
      · exact absurd rfl hj
    · exact absurd rfl hi)
  have A' : tcN (pcC C) 8 ≤ tcN (pcM D) 14 := A
  have B' : tcN (pcM D) 14 ≤ tcN (pcC C) 8 := B
  omega
