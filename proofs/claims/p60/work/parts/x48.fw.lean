/-! ===== a mean is a number, on ===== -/
theorem ok32 {d : FP.Core.Datum} (hd : gd 8388608 256 (-149) d) : vf_n32 (UInt32.ofNat (FP.Core.encode FP.Core.b32 d)) := by
  obtain ⟨s, e, t, hs, he, ht⟩ := gd_enc fo32 hd
  have hm := gd_mod (T := 8388608) (E := 256) (s := s) (by decide) (by decide) ht
  rw [← he] at hm
  unfold vf_n32
  rw [UInt32.le_iff_toNat_le, UInt32.toNat_and]
  have e1 : (0x7fffffff : UInt32).toNat = 2 ^ 31 - 1 := by decide
  have e2 : (0x7f800000 : UInt32).toNat = 2139095040 := by decide
  rw [e1, e2, Nat.and_two_pow_sub_one_eq_mod, UInt32.toNat_ofNat']
  have e3 : FP.Core.encode FP.Core.b32 d % 2 ^ 32 % 2 ^ 31 = FP.Core.encode FP.Core.b32 d % (256 * 8388608) := by
    have : (2 : Nat) ^ 32 = 2 * 2 ^ 31 := by decide
    rw [this, Nat.mod_mul_left_mod]
  rw [e3]
  exact hm
theorem enc_lt {f : FP.Core.Fmt} {T E : Nat} {qm qx : Int} (h : fo f T E qm qx) {d : FP.Core.Datum} (hd : gd T E qm d) : FP.Core.encode f d < 2 * E * T := by
  obtain ⟨s, e, t, hs, he, ht⟩ := gd_enc h hd
  obtain ⟨h1, h2, h3, h4, h5, h6, h7, h8, h9, h10⟩ := h
  rw [he]
  have hse : s * E + e + 1 ≤ 2 * E := by
    have : s * E ≤ 1 * E := Nat.mul_le_mul_right E (by omega)
    rcases ht with ht | ht
    · omega
    · omega
  have := Nat.mul_le_mul_right T hse
  rw [Nat.succ_mul] at this
  rcases ht with ⟨_, ht⟩ | ⟨_, ht⟩
  · omega
  · omega
/-- what comes back -/
theorem dec_at {f : FP.Core.Fmt} {T E : Nat} {qm qx : Int} (h : fo f T E qm qx) {s e t : Nat} (he : e < E) (ht : t < T) : FP.Core.fieldE f ((s * E + e) * T + t) = e ∧ FP.Core.fieldT f ((s * E + e) * T + t) = t := by
  obtain ⟨h1, h2, h3, h4, h5, h6, h7, h8, h9, h10⟩ := h
  unfold FP.Core.fieldE FP.Core.fieldT
  rw [h1, h2]
  have e1 : ((s * E + e) * T + t) / T = s * E + e := by
    rw [Nat.mul_comm, Nat.mul_add_div h6, Nat.div_eq_of_lt ht, Nat.add_zero]
  have e2 : ((s * E + e) * T + t) % T = t := by
    rw [Nat.mul_comm, Nat.mul_add_mod, Nat.mod_eq_of_lt ht]
  rw [e1, e2, Nat.mul_comm, Nat.mul_add_mod, Nat.mod_eq_of_lt he]
  exact ⟨rfl, rfl⟩
theorem dec_nn {f : FP.Core.Fmt} {T E : Nat} {qm qx : Int} (h : fo f T E qm qx) {d : FP.Core.Datum} (hd : gd T E qm d) : ¬ FP.Core.decode f (FP.Core.encode f d) = .nan := by
  obtain ⟨s, e, t, hs, he, ht⟩ := gd_enc h hd
  have h2 := h.2.1
  have h6 := h.2.2.2.2.2.1
  have h7 := h.2.2.2.2.2.2.1
  obtain ⟨k1, k2⟩ := dec_at h (s := s) (e := e) (t := t) (by omega) (by omega)
  rw [he]
  unfold FP.Core.decode
  rw [k1, k2, h2]
  rcases ht with ⟨a1, a2⟩ | ⟨a1, a2⟩
  · rw [if_neg (by omega)]
    by_cases h0 : e = 0
    · rw [if_pos h0]; exact fun hh => by cases hh
    · rw [if_neg h0]; exact fun hh => by cases hh
  · rw [if_pos a1, if_pos a2]
    exact fun hh => by cases hh
theorem dec_fin {f : FP.Core.Fmt} {T E : Nat} {qm qx : Int} (h : fo f T E qm qx) {s : Bool} {c : Nat} {q : Int} (hc : c < 2 * T) (hq : (q - qm).toNat + 1 ≤ E - 2) : ∃ s' c' q', FP.Core.decode f (FP.Core.encode f (.fin s c q)) = .fin s' c' q' ∧ (c ≠ 0 → c' ≠ 0) := by
  obtain ⟨h1, h2, h3, h4, h5, h6, h7, h8, h9, h10⟩ := id h
  have en : FP.Core.encode f (.fin s c q) = if c < T then (s.toNat * E + 0) * T + c else (s.toNat * E + ((q - qm).toNat + 1)) * T + (c - T) := by
    unfold FP.Core.encode FP.Core.assemble
    rw [h1, h2, h4]
  rw [en]
  by_cases hcT : c < T
  · rw [if_pos hcT]
    obtain ⟨k1, k2⟩ := dec_at h (s := s.toNat) (e := 0) (t := c) (by omega) hcT
    unfold FP.Core.decode
    rw [k1, k2, h2, if_neg (by omega), if_pos rfl]
    exact ⟨_, _, _, rfl, fun hh => hh⟩
  · rw [if_neg hcT]
    obtain ⟨k1, k2⟩ := dec_at h (s := s.toNat) (e := (q - qm).toNat + 1) (t := c - T) (by omega) (by omega)
    unfold FP.Core.decode
    rw [k1, k2, h2, if_neg (by omega), if_neg (by omega)]
    refine ⟨_, _, _, rfl, fun _ => ?_⟩
    rw [h1]
    omega
/-- a whole number, rounded -/
theorem near_pos {a b : Nat} (hb : 0 < b) (h : b ≤ a) : 1 ≤ FP.Core.nearest a b := by
  have hd : 1 ≤ a / b := Nat.div_pos h hb
  unfold FP.Core.nearest
  by_cases h1 : 2 * (a % b) < b
  · rw [if_pos h1]; exact hd
  · rw [if_neg h1]
    by_cases h2 : b < 2 * (a % b)
    · rw [if_pos h2]; omega
    · rw [if_neg h2]; omega
theorem lead_le (a : Nat) : FP.Core.leading a 1 ≤ (a.log2 : Int) := by
  unfold FP.Core.leading
  have h1 : (1 : Nat).log2 = 0 := by decide
  simp only [h1]
  by_cases h : 1 * 2 ^ ((a.log2 : Int) - ((0 : Nat) : Int)).toNat ≤ a * 2 ^ (-((a.log2 : Int) - ((0 : Nat) : Int))).toNat
  · rw [if_pos h]; omega
  · rw [if_neg h]; omega
theorem ri_fin {f : FP.Core.Fmt} {T E : Nat} {qm qx : Int} (h : fo f T E qm qx) {s : Bool} {a : Nat} (h0 : a ≠ 0) (hb : a < 2 ^ 32) : ∃ c q, FP.Core.roundRatio f s a 1 0 = .fin s c q ∧ c ≠ 0 := by
  obtain ⟨h1, h2, h3, h4, h5, h6, h7, h8, h9, h10⟩ := id h
  have hl := lead_le a
  have hlog : a.log2 < 32 := (Nat.log2_lt h0).mpr hb
  have hle : 2 ^ a.log2 ≤ a := Nat.log2_self_le h0
  have hp : 1 ≤ f.p := by
    rcases Nat.eq_zero_or_pos f.p with hp | hp
    · rw [hp] at h3
      omega
    · exact hp
  have hq : FP.Core.quantum f a 1 0 ≤ max qm (a.log2 : Int) := by
    unfold FP.Core.quantum
    rw [h4]
    omega
  have hqn : (FP.Core.quantum f a 1 0).toNat ≤ a.log2 := by omega
  unfold FP.Core.roundRatio
  rw [if_neg h0]
  generalize FP.Core.quantum f a 1 0 = q at *
  unfold FP.Core.roundAt FP.Core.settle
  have hden : FP.Core.unitsDen 1 0 q ≤ FP.Core.unitsNum a 0 q := by
    unfold FP.Core.unitsDen FP.Core.unitsNum
    have e1 : (q - 0).toNat ≤ a.log2 := by omega
    have e2 : 2 ^ (q - 0).toNat ≤ 2 ^ a.log2 := Nat.pow_le_pow_right (by omega) e1
    have e3 : 1 ≤ 2 ^ (0 - q).toNat := Nat.pos_of_ne_zero (by
      have := Nat.pow_pos (n := (0 - q).toNat) (show 0 < 2 by omega)
      omega)
    have e4 : a * 1 ≤ a * 2 ^ (0 - q).toNat := Nat.mul_le_mul_left a e3
    omega
  have hdp : 0 < FP.Core.unitsDen 1 0 q := by
    unfold FP.Core.unitsDen
    have := Nat.pow_pos (n := (q - 0).toNat) (show 0 < 2 by omega)
    omega
  have hc := near_pos hdp hden
  generalize FP.Core.nearest (FP.Core.unitsNum a 0 q) (FP.Core.unitsDen 1 0 q) = c at *
  by_cases hcp : c < 2 ^ f.p
  · rw [if_pos hcp]
    unfold FP.Core.bound
    rw [if_pos (by rw [h5]; omega)]
    exact ⟨c, q, rfl, by omega⟩
  · rw [if_neg hcp]
    unfold FP.Core.bound
    rw [if_pos (by rw [h5]; omega), h1]
    exact ⟨T, q + 1, rfl, by omega⟩
theorem int_fin {f : FP.Core.Fmt} {T E : Nat} {qm qx : Int} (h : fo f T E qm qx) {x : Int} (hx : x.natAbs < 2 ^ 32) : (∃ s c q, FP.Core.decode f (FP.Core.fromInt f x) = .fin s c q ∧ (x ≠ 0 → c ≠ 0)) ∧ FP.Core.fromInt f x < 2 * E * T := by
  have hg : gd T E qm (FP.Core.roundRatio f (decide (x < 0)) x.natAbs 1 0) := gd_ratio h
  have e : FP.Core.fromInt f x = FP.Core.encode f (FP.Core.roundRatio f (decide (x < 0)) x.natAbs 1 0) := rfl
  rw [e]
  refine ⟨?_, enc_lt h hg⟩
  by_cases h0 : x.natAbs = 0
  · have hr : FP.Core.roundRatio f (decide (x < 0)) x.natAbs 1 0 = .fin (decide (x < 0)) 0 f.qmin := by unfold FP.Core.roundRatio; rw [if_pos h0]
    rw [hr] at hg ⊢
    obtain ⟨s', c', q', k1, k2⟩ := dec_fin h hg.1 hg.2
    exact ⟨s', c', q', k1, fun hn => absurd (Int.natAbs_eq_zero.mp h0) hn⟩
  · obtain ⟨c, q, hr, hc⟩ := ri_fin h (s := decide (x < 0)) h0 hx
    rw [hr] at hg ⊢
    obtain ⟨s', c', q', k1, k2⟩ := dec_fin h hg.1 hg.2
    exact ⟨s', c', q', k1, fun _ => k2 hc⟩
theorem abs32 (x : Int32) : x.toInt.natAbs < 2 ^ 32 := by
  have h1 := Int32.toInt_lt x
  have h2 := Int32.le_toInt x
  omega
theorem mean64 {x y : Int32} (hy : ¬ y = 0) : vf_n64 (FP.ddiv (FP.i2d x) (FP.i2d y)) := by
  obtain ⟨⟨s, c, q, k1, -⟩, l1⟩ := int_fin fo64 (abs32 x)
  obtain ⟨⟨s', c', q', k2, k3⟩, l2⟩ := int_fin fo64 (abs32 y)
  have t1 : (FP.i2d x).toNat = FP.Core.fromInt FP.Core.b64 x.toInt := by
    show (UInt64.ofNat _).toNat = _
    rw [UInt64.toNat_ofNat']
    exact Nat.mod_eq_of_lt (by omega)
  have t2 : (FP.i2d y).toNat = FP.Core.fromInt FP.Core.b64 y.toInt := by
    show (UInt64.ofNat _).toNat = _
    rw [UInt64.toNat_ofNat']
    exact Nat.mod_eq_of_lt (by omega)
  have hc : c' ≠ 0 := k3 (fun h => hy (Int32.toInt_inj.mp h))
  have e : FP.ddiv (FP.i2d x) (FP.i2d y) = UInt64.ofNat (FP.Core.encode FP.Core.b64 (FP.Core.quotient FP.Core.b64 (FP.Core.decode FP.Core.b64 (FP.i2d x).toNat) (FP.Core.decode FP.Core.b64 (FP.i2d y).toNat))) := rfl
  rw [e, t1, t2, k1, k2]
  refine ok64 ?_
  unfold FP.Core.quotient
  simp only [if_neg hc]
  exact gd_ratio fo64
theorem mean32 {x y : Int32} (hy : ¬ y = 0) : ∃ d, gd 8388608 256 (-149) d ∧ FP.fdiv (FP.i2f x) (FP.i2f y) = UInt32.ofNat (FP.Core.encode FP.Core.b32 d) := by
  obtain ⟨⟨s, c, q, k1, -⟩, l1⟩ := int_fin fo32 (abs32 x)
  obtain ⟨⟨s', c', q', k2, k3⟩, l2⟩ := int_fin fo32 (abs32 y)
  have t1 : (FP.i2f x).toNat = FP.Core.fromInt FP.Core.b32 x.toInt := by
    show (UInt32.ofNat _).toNat = _
    rw [UInt32.toNat_ofNat']
    exact Nat.mod_eq_of_lt (by omega)
  have t2 : (FP.i2f y).toNat = FP.Core.fromInt FP.Core.b32 y.toInt := by
    show (UInt32.ofNat _).toNat = _
    rw [UInt32.toNat_ofNat']
    exact Nat.mod_eq_of_lt (by omega)
  have hc : c' ≠ 0 := k3 (fun h => hy (Int32.toInt_inj.mp h))
  refine ⟨FP.Core.roundRatio FP.Core.b32 (s != s') c c' (q - q'), gd_ratio fo32, ?_⟩
  have e : FP.fdiv (FP.i2f x) (FP.i2f y) = UInt32.ofNat (FP.Core.encode FP.Core.b32 (FP.Core.quotient FP.Core.b32 (FP.Core.decode FP.Core.b32 (FP.i2f x).toNat) (FP.Core.decode FP.Core.b32 (FP.i2f y).toNat))) := rfl
  rw [e, t1, t2, k1, k2]
  unfold FP.Core.quotient
  simp only [if_neg hc]
theorem f2d_ok {d : FP.Core.Datum} (hd : gd 8388608 256 (-149) d) : vf_n64 (FP.f2d (UInt32.ofNat (FP.Core.encode FP.Core.b32 d))) := by
  have l := enc_lt fo32 hd
  have t : (UInt32.ofNat (FP.Core.encode FP.Core.b32 d)).toNat = FP.Core.encode FP.Core.b32 d := by
    rw [UInt32.toNat_ofNat']
    exact Nat.mod_eq_of_lt (by omega)
  have hn := dec_nn fo32 hd
  unfold FP.f2d
  rw [if_neg (by
    unfold FP.Core.fIsNaN FP.Core.isNaN
    rw [t, decide_eq_true_eq]
    exact hn)]
  unfold FP.Core.f2d FP.Core.convert
  rw [t]
  refine ok64 ?_
  cases hh : FP.Core.decode FP.Core.b32 (FP.Core.encode FP.Core.b32 d) with
  | nan => exact absurd hh hn
  | inf s => exact trivial
  | fin s c q => exact gd_ratio fo64
