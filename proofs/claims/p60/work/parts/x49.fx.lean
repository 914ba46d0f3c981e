/-! ===== the law's cases: means ===== -/
abbrev RD (g : ev_G) (B k0 a m o1 o2 : Nat) (u5 : Int32) (Q : ev_O → ev_S → Prop) (v : Int32) : ev_O → ev_S → Prop := fun o S2 => ∃ v2_ : UInt64, o = .inl (some (ev_d v2_)) ∧ ((S2.1 m 7 = v → (v = 0 → (j_dcmpl S2.2.2 v2_ = 0 → K3 g (B + 1) k0 a m o1 o2 u5 S2 Q) ∧ (¬ j_dcmpl S2.2.2 v2_ = 0 → (j_dcmpl S2.2.2 S2.2.2 = 0 → Q (.inl (some (ev_i 0))) S2) ∧ (¬ j_dcmpl S2.2.2 S2.2.2 = 0 → (j_dcmpl v2_ v2_ = 0 → Q (.inl (some (ev_i 0))) S2) ∧ (¬ j_dcmpl v2_ v2_ = 0 → K3 g (B + 1) k0 a m o1 o2 u5 S2 Q)))) ∧ (¬ v = 0 → K3 g (B + 1) k0 a m o1 o2 u5 S2 Q)) ∧ (¬ S2.1 m 7 = v → Q (.inl (some (ev_i 0))) S2))
theorem CS.okd {g : ev_G} {B k0 a m o1 o2 : Nat} {u5 : Int32} {S : ev_S} {Q : ev_O → ev_S → Prop} (c : CS g B k0 a m o1 o2 u5 S Q) {z : ev_S} {v : UInt64} (e : z.1 = S.1) (hx : z.2.2 = v) : RD g B k0 a m o1 o2 u5 Q 0 (.inl (some (ev_d v))) (ev_up z m 7 0) := by
  have hK := c.k1 _ (INV_u7 (v := 0) c.hm c.hi e)
  have hx' : (ev_up z m 7 0).2.2 = v := hx
  refine ⟨v, rfl, fun _ => ⟨fun _ => ⟨fun _ => hK, fun h => ?_⟩, fun _ => hK⟩, fun h => absurd (m_s _ _ _ _) h⟩
  rw [hx'] at h ⊢
  exact ⟨fun hh => absurd hh h, fun _ => ⟨fun hh => absurd hh h, fun _ => hK⟩⟩
theorem CS.erd {g : ev_G} {B k0 a m o1 o2 : Nat} {u5 : Int32} {S : ev_S} {Q : ev_O → ev_S → Prop} (c : CS g B k0 a m o1 o2 u5 S Q) {v : Int32} {x : UInt64} (hv : ¬ v = 0) : RD g B k0 a m o1 o2 u5 Q v (.inl (some (ev_d x))) (ev_up S m 7 v) :=
  ⟨x, rfl, fun _ => ⟨fun h => absurd h hv, fun _ => c.k1 _ (INV_u7 c.hm c.hi rfl)⟩, fun h => absurd (m_s _ _ _ _) h⟩
theorem f2d_0 : vf_n64 (FP.f2d 0) := by
  have h := f2d_ok (d := .fin false 0 (-149)) ⟨by decide, by decide⟩
  have e : UInt32.ofNat (FP.Core.encode FP.Core.b32 (.fin false 0 (-149))) = 0 := by decide
  rw [e] at h
  exact h