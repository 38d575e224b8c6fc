/-! ===== rules of the memory ===== -/
def tyt (n : Nat) : Nat → FieldType := match n with
  | 0 => tyX0
  | 1 => tyX1
  | 2 => tyX2
  | 3 => tyX3
  | 4 => tyX4
  | 5 => tyX5
  | 6 => tyX6
  | 7 => tyX7
  | 8 => tyX8
  | 9 => tyX9
  | 10 => tyX10
  | 11 => tyX11
  | 12 => tyX12
  | _ => fun _ => .int
theorem clx_at : ∀ c, c < 13 → clx[c]? = some (RXt c, TXt c, nft c)
  | 0, _ => rfl
  | 1, _ => rfl
  | 2, _ => rfl
  | 3, _ => rfl
  | 4, _ => rfl
  | 5, _ => rfl
  | 6, _ => rfl
  | 7, _ => rfl
  | 8, _ => rfl
  | 9, _ => rfl
  | 10, _ => rfl
  | 11, _ => rfl
  | 12, _ => rfl
  | n + 13, h => absurd h (by omega)
theorem tyt_ok : ∀ c, c < 13 → ∀ k, k < nft c → parseFieldDescriptor (TXt c k).2.2.1 = some (tyt c k)
  | 0, _ => tyX0_ok
  | 1, _ => tyX1_ok
  | 2, _ => tyX2_ok
  | 3, _ => tyX3_ok
  | 4, _ => tyX4_ok
  | 5, _ => tyX5_ok
  | 6, _ => tyX6_ok
  | 7, _ => tyX7_ok
  | 8, _ => tyX8_ok
  | 9, _ => tyX9_ok
  | 10, _ => tyX10_ok
  | 11, _ => tyX11_ok
  | 12, _ => tyX12_ok
  | n + 13, h => absurd h (by omega)
theorem nmt_ok : ∀ c, c < 13 → ∀ a, a < nft c → ∀ b, b < nft c → a ≠ b → (TXt c a).2.1 ≠ (TXt c b).2.1
  | 0, _ => nmX0
  | 1, _ => nmX1
  | 2, _ => nmX2
  | 3, _ => nmX3
  | 4, _ => nmX4
  | 5, _ => nmX5
  | 6, _ => nmX6
  | 7, _ => nmX7
  | 8, _ => nmX8
  | 9, _ => nmX9
  | 10, _ => nmX10
  | 11, _ => nmX11
  | 12, _ => nmX12
  | n + 13, h => absurd h (by omega)
theorem uws_0 : (u_ws RX0 TX0 (nft 0)).all (fun w => decide (w ∈ lw_tbl) && goodWord w) = true := by decide +kernel
theorem uws_1 : (u_ws RX1 TX1 (nft 1)).all (fun w => decide (w ∈ lw_tbl) && goodWord w) = true := by decide +kernel
theorem uws_2 : (u_ws RX2 TX2 (nft 2)).all (fun w => decide (w ∈ lw_tbl) && goodWord w) = true := by decide +kernel
theorem uws_3 : (u_ws RX3 TX3 (nft 3)).all (fun w => decide (w ∈ lw_tbl) && goodWord w) = true := by decide +kernel
theorem uws_4 : (u_ws RX4 TX4 (nft 4)).all (fun w => decide (w ∈ lw_tbl) && goodWord w) = true := by decide +kernel
theorem uws_5 : (u_ws RX5 TX5 (nft 5)).all (fun w => decide (w ∈ lw_tbl) && goodWord w) = true := by decide +kernel
theorem uws_6 : (u_ws RX6 TX6 (nft 6)).all (fun w => decide (w ∈ lw_tbl) && goodWord w) = true := by decide +kernel
theorem uws_7 : (u_ws RX7 TX7 (nft 7)).all (fun w => decide (w ∈ lw_tbl) && goodWord w) = true := by decide +kernel
theorem uws_8 : (u_ws RX8 TX8 (nft 8)).all (fun w => decide (w ∈ lw_tbl) && goodWord w) = true := by decide +kernel
theorem uws_9 : (u_ws RX9 TX9 (nft 9)).all (fun w => decide (w ∈ lw_tbl) && goodWord w) = true := by decide +kernel
theorem uws_10 : (u_ws RX10 TX10 (nft 10)).all (fun w => decide (w ∈ lw_tbl) && goodWord w) = true := by decide +kernel
theorem uws_11 : (u_ws RX11 TX11 (nft 11)).all (fun w => decide (w ∈ lw_tbl) && goodWord w) = true := by decide +kernel
theorem uws_12 : (u_ws RX12 TX12 (nft 12)).all (fun w => decide (w ∈ lw_tbl) && goodWord w) = true := by decide +kernel
theorem uws_all : ∀ c, c < 13 → (u_ws (RXt c) (TXt c) (nft c)).all (fun w => decide (w ∈ lw_tbl) && goodWord w) = true
  | 0, _ => uws_0
  | 1, _ => uws_1
  | 2, _ => uws_2
  | 3, _ => uws_3
  | 4, _ => uws_4
  | 5, _ => uws_5
  | 6, _ => uws_6
  | 7, _ => uws_7
  | 8, _ => uws_8
  | 9, _ => uws_9
  | 10, _ => uws_10
  | 11, _ => uws_11
  | 12, _ => uws_12
  | n + 13, h => absurd h (by omega)
theorem uws_in {c : Nat} (h : c < 13) : ∀ w ∈ u_ws (RXt c) (TXt c) (nft c), w ∈ wsA := fun w hw => by
  have h1 := List.all_eq_true.mp (uws_all c h) w hw
  simp only [Bool.and_eq_true, decide_eq_true_eq] at h1
  exact List.mem_filter.mpr h1
theorem fk_ty : ∀ c, c < 13 → ∀ k, k < nft c → (fkt c k = 0 → tyt c k = .int) ∧ (fkt c k = 1 → tyt c k = .long) ∧ (fkt c k = 3 → tyt c k = .boolean) := by decide +kernel
