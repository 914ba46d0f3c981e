/-! ===== the text of the start: what it says ===== -/
def tx_0 : Nat → Int32 := fun j => (ev_bt.getD 0 []).getD j 0
theorem tx_fact : ∀ i, i < 154 → j_i2c ((ev_bt.getD 0 []).getD i 0 &&& 255) = (ev_bt.getD 0 []).getD i 0 ∧ narrow .char (.int (j_i2c ((ev_bt.getD 0 []).getD i 0 &&& 255))) = .int (j_i2c ((ev_bt.getD 0 []).getD i 0 &&& 255)) ∧ ¬ (ev_bt.getD 0 []).getD i 0 = -1 := by decide +kernel
theorem tx_byte {k i : Nat} (hk : ev_bt.getD k [] = ev_bt.getD 0 []) (hi : i < 154) : j_i2c ((j_byte k (Int32.ofNat i)) &&& 255) = tx_0 i ∧ narrow .char (.int (j_i2c ((j_byte k (Int32.ofNat i)) &&& 255))) = .int (j_i2c ((j_byte k (Int32.ofNat i)) &&& 255)) := by
  unfold j_byte
  rw [hk, n_c (by omega)]
  exact ⟨(tx_fact i hi).1, (tx_fact i hi).2.1⟩
theorem tx_no {j : Nat} (hj : j < 154) : ¬ tx_0 j = -1 := (tx_fact j hj).2.2
theorem tx_set0 : ((p_set (ct_r []) tx_0 154).isRight) = true := by decide +kernel
theorem tx_set : ∃ r, p_set (ct_r []) tx_0 154 = .inr r := by
  have h := tx_set0
  cases e : p_set (ct_r []) tx_0 154 with
  | inl x => rw [e] at h; cases h
  | inr r => exact ⟨r, rfl⟩
