/-! ===== the law's cases: days, promises, undo ===== -/
theorem dok {x : Int32} {D : Nat} (h0 : x = Int32.ofNat D) (h1 : 1 ≤ D) (h2 : D ≤ 60) : 1 ≤ x ∧ x ≤ 60 := by
  have i1 : (1 : Int32) = Int32.ofNat 1 := rfl
  have i60 : (60 : Int32) = Int32.ofNat 60 := rfl
  rw [h0, i1, i60, n_le (by omega) (by omega), n_le (by omega) (by omega)]
  omega
theorem k_prm_1 {n np : Nat} {x0 x1 x2 x3 x4 x5 : Int32} {p q f t rf rt p' q' f' t' rf' rt' : Nat} (h8 : n ≤ 8) (hnp : np ≤ 4) (h : k_prm n np x0 x1 x2 x3 x4 x5 p q f t rf rt) (h' : k_prm n np x0 x1 x2 x3 x4 x5 p' q' f' t' rf' rt') : p' = p ∧ q' = q ∧ f' = f ∧ t' = t ∧ rf' = rf ∧ rt' = rt := by
  have hn9 := sq_le h8
  obtain ⟨⟨a0, b0⟩, ⟨a1, b1⟩, ⟨a2, b2⟩, ⟨a3, b3⟩, ⟨a4, b4⟩, ⟨a5, b5⟩⟩ := h
  obtain ⟨⟨c0, d0⟩, ⟨c1, d1⟩, ⟨c2, d2⟩, ⟨c3, d3⟩, ⟨c4, d4⟩, ⟨c5, d5⟩⟩ := h'
  exact ⟨ofi (c0.symm.trans a0) (by omega) (by omega), ofi (c1.symm.trans a1) (by omega) (by omega), ofi (c2.symm.trans a2) (by omega) (by omega), ofi (c3.symm.trans a3) (by omega) (by omega), ofi (c4.symm.trans a4) (by omega) (by omega), ofi (c5.symm.trans a5) (by omega) (by omega)⟩