/-! ===== the law: what holds between its rounds ===== -/
theorem q_sh_fr {M M' : Nat → Nat → Int32} {e : Nat} (h : q_sh M e) (f1 : M' (e + 1) = M (e + 1)) (f2 : M' (e + 10) = M (e + 10)) : q_sh M' e := by
  unfold q_sh at h ⊢
  rw [f1, f2]
  exact h
theorem lg_self (x : Int64) : lg_cmp x x = 0 := by
  unfold lg_cmp
  simp