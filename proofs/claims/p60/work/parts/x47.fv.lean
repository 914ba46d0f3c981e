/-! ===== a mean is a number ===== -/
def fo (f : FP.Core.Fmt) (T E : Nat) (qm qx : Int) : Prop := f.tails = T ∧ f.exps = E ∧ 2 ^ f.p = 2 * T ∧ f.qmin = qm ∧ f.qmax = qx ∧ 0 < T ∧ 3 ≤ E ∧ (qx - qm).toNat + 1 = E - 2 ∧ qm ≤ 0 ∧ 40 ≤ qx
def gd (T E : Nat) (qm : Int) : FP.Core.Datum → Prop
  | .nan => False
  | .inf _ => True
  | .fin _ c q => c < 2 * T ∧ (q - qm).toNat + 1 ≤ E - 2
theorem gd_bound {f : FP.Core.Fmt} {T E : Nat} {qm qx : Int} (h : fo f T E qm qx) {s : Bool} {c : Nat} {q : Int} (hc : c < 2 * T) : gd T E qm (FP.Core.bound f s c q) := by
  obtain ⟨h1, h2, h3, h4, h5, h6, h7, h8, h9, h10⟩ := h
  unfold FP.Core.bound
  rw [h5]
  by_cases hq : q ≤ qx
  · rw [if_pos hq]
    exact ⟨hc, by omega⟩
  · rw [if_neg hq]
    exact trivial
theorem gd_settle {f : FP.Core.Fmt} {T E : Nat} {qm qx : Int} (h : fo f T E qm qx) {s : Bool} {c : Nat} {q : Int} : gd T E qm (FP.Core.settle f s c q) := by
  unfold FP.Core.settle
  by_cases hc : c < 2 ^ f.p
  · rw [if_pos hc]
    rw [h.2.2.1] at hc
    exact gd_bound h hc
  · rw [if_neg hc]
    refine gd_bound h ?_
    rw [h.1]
    have := h.2.2.2.2.2.1
    omega
theorem gd_ratio {f : FP.Core.Fmt} {T E : Nat} {qm qx : Int} (h : fo f T E qm qx) {s : Bool} {a b : Nat} {e : Int} : gd T E qm (FP.Core.roundRatio f s a b e) := by
  unfold FP.Core.roundRatio
  by_cases ha : a = 0
  · rw [if_pos ha, h.2.2.2.1]
    have h6 := h.2.2.2.2.2.1
    have h8 := h.2.2.2.2.2.2.2.1
    exact ⟨by omega, by omega⟩
  · rw [if_neg ha]
    exact gd_settle h
/-- what is encoded -/
theorem gd_enc {f : FP.Core.Fmt} {T E : Nat} {qm qx : Int} (h : fo f T E qm qx) {d : FP.Core.Datum} (hd : gd T E qm d) : ∃ s e t, s < 2 ∧ FP.Core.encode f d = (s * E + e) * T + t ∧ ((e ≤ E - 2 ∧ t < T) ∨ (e = E - 1 ∧ t = 0)) := by
  obtain ⟨h1, h2, h3, h4, h5, h6, h7, h8, h9, h10⟩ := h
  have hb : ∀ s : Bool, s.toNat < 2 := fun s => by cases s <;> decide
  cases d with
  | nan => exact hd.elim
  | inf s => exact ⟨s.toNat, E - 1, 0, hb s, by unfold FP.Core.encode FP.Core.assemble; rw [h1, h2], Or.inr ⟨rfl, rfl⟩⟩
  | fin s c q =>
    obtain ⟨d1, d2⟩ := hd
    unfold FP.Core.encode FP.Core.assemble
    rw [h1, h2, h4]
    by_cases hc : c < T
    · exact ⟨s.toNat, 0, c, hb s, by simp only [if_pos hc], Or.inl ⟨by omega, hc⟩⟩
    · exact ⟨s.toNat, (q - qm).toNat + 1, c - T, hb s, by simp only [if_neg hc], Or.inl ⟨d2, by omega⟩⟩
theorem gd_mod {T E s e t : Nat} (hT : 0 < T) (hE : 3 ≤ E) (h : (e ≤ E - 2 ∧ t < T) ∨ (e = E - 1 ∧ t = 0)) : ((s * E + e) * T + t) % (E * T) ≤ (E - 1) * T := by
  have e1 : (s * E + e) * T + t = e * T + t + E * T * s := by
    rw [Nat.add_mul, Nat.mul_comm s E, Nat.mul_right_comm E s T]
    omega
  rw [e1, Nat.add_mul_mod_self_left]
  refine Nat.le_trans (Nat.mod_le _ _) ?_
  rcases h with ⟨h1, h2⟩ | ⟨h1, h2⟩
  · have h3 : (e + 1) * T ≤ (E - 1) * T := Nat.mul_le_mul_right T (by omega)
    rw [Nat.succ_mul] at h3
    omega
  · rw [h1, h2]
    exact Nat.le_refl _
theorem fo64 : fo FP.Core.b64 4503599627370496 2048 (-1074) 971 := by
  refine ⟨by decide, by decide, by decide, by decide, by decide, by decide, by decide, by decide, by decide, by decide⟩
theorem fo32 : fo FP.Core.b32 8388608 256 (-149) 104 := by
  refine ⟨by decide, by decide, by decide, by decide, by decide, by decide, by decide, by decide, by decide, by decide⟩
theorem ok64 {d : FP.Core.Datum} (hd : gd 4503599627370496 2048 (-1074) d) : vf_n64 (UInt64.ofNat (FP.Core.encode FP.Core.b64 d)) := by
  obtain ⟨s, e, t, hs, he, ht⟩ := gd_enc fo64 hd
  have hm := gd_mod (T := 4503599627370496) (E := 2048) (s := s) (by decide) (by decide) ht
  rw [← he] at hm
  unfold vf_n64
  rw [UInt64.le_iff_toNat_le, UInt64.toNat_and]
  have e1 : (0x7fffffffffffffff : UInt64).toNat = 2 ^ 63 - 1 := by decide
  have e2 : (0x7ff0000000000000 : UInt64).toNat = 9218868437227405312 := by decide
  rw [e1, e2, Nat.and_two_pow_sub_one_eq_mod, UInt64.toNat_ofNat']
  have e3 : FP.Core.encode FP.Core.b64 d % 2 ^ 64 % 2 ^ 63 = FP.Core.encode FP.Core.b64 d % (2048 * 4503599627370496) := by
    have : (2 : Nat) ^ 64 = 2 * 2 ^ 63 := by decide
    rw [this, Nat.mod_mul_left_mod]
  rw [e3]
  exact hm
