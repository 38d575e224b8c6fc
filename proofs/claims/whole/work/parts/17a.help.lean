/-! ===== helpers of the runs ===== -/
theorem w32_e {x : Int} (h1 : -2147483648 ≤ x) (h2 : x < 2147483648) : w32 x = x := w32_id ⟨h1, h2⟩
theorem w64_e {x : Int} (h1 : -9223372036854775808 ≤ x) (h2 : x < 9223372036854775808) : w64 x = x := by unfold w64; omega
theorem td_le {x k : Int} (h : 0 ≤ x) (hk : 0 < k) : 0 ≤ x.tdiv k ∧ x.tdiv k ≤ x := by
  rw [Int.tdiv_eq_ediv_of_nonneg h]
  exact ⟨Int.ediv_nonneg h (Int.le_of_lt hk), Int.ediv_le_self k h⟩
theorem td_in {x k a b : Int} (h1 : a ≤ x) (h2 : x ≤ b) (ha : a ≤ 0) (hb : 0 ≤ b) (hk : 0 < k) : a ≤ x.tdiv k ∧ x.tdiv k ≤ b := by
  rcases Int.le_total 0 x with h | h
  · have := td_le h hk; omega
  · have e : x.tdiv k = - ((-x).tdiv k) := by rw [Int.neg_tdiv, Int.neg_neg]
    have := td_le (x := -x) (by omega) hk
    omega
theorem w32_td {x k : Int} (hx : in32 x) (hk : 0 < k) : w32 (x.tdiv k) = x.tdiv k := by
  have := td_in (a := -2147483648) (b := 2147483647) hx.1 (by have := hx.2; omega) (by omega) (by omega) hk
  exact w32_e this.1 (by omega)
theorem td_pos {x k : Int} (h : 0 ≤ x) : x.tdiv k = x / k := Int.tdiv_eq_ediv_of_nonneg h
theorem lt_td {x : Int} (h : 20000 ≤ x) : 200 ≤ x.tdiv 100 := by rw [td_pos (by omega)]; omega
theorem td_pos' {x : Int} (h : 0 < x.tdiv 100) : 100 ≤ x := by
  rcases Int.le_total 0 x with h1 | h1
  · rw [td_pos h1] at h; omega
  · have e : x.tdiv 100 = - ((-x).tdiv 100) := by rw [Int.neg_tdiv, Int.neg_neg]
    have := td_le (x := -x) (k := 100) (by omega) (by omega)
    omega
