/-! ===== the law's cases: means ===== -/
theorem f2d_0 : vf_n64 (FP.f2d 0) := by
  have h := f2d_ok (d := .fin false 0 (-149)) ⟨by decide, by decide⟩
  have e : UInt32.ofNat (FP.Core.encode FP.Core.b32 (.fin false 0 (-149))) = 0 := by decide
  rw [e] at h
  exact h