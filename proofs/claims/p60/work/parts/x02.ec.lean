/-! ===== a setup: the row while it is read ===== -/
def i_su (r : Nat → Int32) (N lim np : Nat) : Prop :=
  (4 ≤ N ∧ N ≤ 8 ∧ lim ≤ 60 ∧ np ≤ 4) ∧ (r 0 = Int32.ofNat N ∧ r 1 = Int32.ofNat lim ∧ r 3 = Int32.ofNat np) ∧ (∀ j, j = 2 ∨ j = 4 ∨ j = 6 ∨ j = 7 ∨ j = 8 ∨ j = 12 ∨ j = 19 ∨ (762 ≤ j ∧ j < 1140) → r j = 0) ∧ (∀ j, 514 ≤ j → j < 762 → r j = -1) ∧
  (∀ q, q < np → (1 ≤ (r (1140 + 15 * q)).toInt ∧ (r (1140 + 15 * q)).toInt ≤ 9) ∧ ∀ t, t < 12 → 0 ≤ (r (1140 + 15 * q + (3 + t))).toInt ∧ (r (1140 + 15 * q + (3 + t))).toInt ≤ 9) ∧
  (∀ q, np ≤ q → q < 4 → ∀ w, w < 15 → r (1140 + 15 * q + w) = 0) ∧ ∀ s, s < 64 → r (90 + s) = r (26 + s) ∧ (r (26 + s) = -1 ∨ s < N * N ∧ (r (26 + s) = 0 ∨ r (26 + s) = 1))
theorem i_su_IG {r : Nat → Int32} {N lim np : Nat} (h : i_su r N lim np) : IG r N lim np 0 0 [] ∧ i_ok r N np 0 := by
  obtain ⟨⟨h4, h8, h60, hnp⟩, ⟨r0, r1, r3⟩, hz, hm, hp, ho, hb⟩ := h
  have z : (0 : Int32) = Int32.ofNat 0 := rfl
  have hmd : ∀ p, p < 2 → r (12 + 7 * p) = Int32.ofNat 0 := fun p hp => by rw [hz _ (by omega)]; rfl
  have hmd' : ∀ p, p < 2 → o_mad r p = 0 := fun p hp => by unfold o_mad; rw [hmd p hp]; rfl
  have dk : ∀ p, p < 2 → i_dk r p N lim := fun p hp => ⟨r0, h8, r1, h60, ⟨0, hmd p hp, by omega⟩, fun k hk => Or.inl (hm _ (by omega) (by omega)), fun k hk => Or.inl ⟨hz _ (by omega), hz _ (by omega)⟩⟩
  have h2 : r 2 = Int32.ofNat 0 := by rw [hz _ (by omega)]; rfl
  have h4' : r 4 = Int32.ofNat 0 := by rw [hz _ (by omega)]; rfl
  have h6 : r 6 = Int32.ofNat 0 := by rw [hz _ (by omega)]; rfl
  refine ⟨⟨⟨dk 0 (by omega), dk 1 (by omega), r3, hnp, h4', by omega, h2, by omega, fun l hl => absurd hl (by omega)⟩, ⟨⟨r3, hnp, h4', by omega, h2, by omega, hp, fun l hl => absurd hl (by omega)⟩, ⟨0, h6, by show 0 + 0 ≤ 0; omega, fun l hl => absurd hl (by omega)⟩, ⟨fun l hl => absurd hl (by simp), List.Pairwise.nil, fun l hl => absurd hl (by omega)⟩⟩, fun p hp => ⟨fun s hs => ?_, fun k hk => absurd hk (by rw [hmd' p hp]; omega)⟩⟩, h4, hz _ (by omega), fun q q1 q2 s hs => ho q q1 q2 _ (by omega), by rw [hz _ (by omega)]; rfl⟩
  obtain ⟨e1, e2⟩ := hb s hs
  have : p = 0 ∨ p = 1 := by omega
  rcases this with rfl | rfl
  · rw [show 26 + 64 * 0 + s = 26 + s by omega]; exact e2
  · rw [show 26 + 64 * 1 + s = 90 + s by omega, e1]; exact e2
theorem i_su_gm0 {A : Nat → Int32} {N lim : Nat} (h4 : 4 ≤ N) (h8 : N ≤ 8) (h60 : lim ≤ 60) : i_su (o_gm0 A N lim) N lim 0 :=
  ⟨⟨h4, h8, h60, by omega⟩, ⟨g0_N.1, g0_N.2, g0_0 (by omega) (by omega) (by omega)⟩, fun j hj => g0_0 (by omega) (by omega) (by omega), fun j h1 h2 => g0_m (by omega), fun q hq => absurd hq (by omega), fun q _ _ w hw => g0_0 (by omega) (by omega) (by omega), fun s hs => ⟨by rw [g0_m (by omega), g0_m (by omega)], Or.inl (g0_m (by omega))⟩⟩
/-- a bishop of player p is laid on square q of both boards -/
def o_lay (r : Nat → Int32) (p q : Nat) : Nat → Int32 := upd (upd (upd r (26 + q) (Int32.ofNat p)) (90 + q) (Int32.ofNat p)) (9 + p) (r (9 + p) + 1)
theorem o_lay_at {r : Nat → Int32} {p q j : Nat} (h1 : j ≠ 26 + q) (h2 : j ≠ 90 + q) (h3 : j ≠ 9 + p) : o_lay r p q j = r j := by
  unfold o_lay
  rw [u_k h3, u_k h2, u_k h1]
theorem o_lay_sq {r : Nat → Int32} {p q t : Nat} (hp : p < 2) (hq : q < 64) (ht : t < 2) : o_lay r p q (26 + 64 * t + q) = Int32.ofNat p := by
  unfold o_lay
  have : t = 0 ∨ t = 1 := by omega
  rcases this with rfl | rfl
  · rw [u_k (by omega), u_k (by omega), show 26 + 64 * 0 + q = 26 + q by omega, u_s]
  · rw [u_k (by omega), show 26 + 64 * 1 + q = 90 + q by omega, u_s]
theorem i_su_lay {r : Nat → Int32} {N lim np p q : Nat} (hp : p < 2) (hq : q < N * N) (h : i_su r N lim np) : i_su (o_lay r p q) N lim np := by
  obtain ⟨⟨h4, h8, h60, hnp⟩, ⟨r0, r1, r3⟩, hz, hm, hp', ho, hb⟩ := h
  have hn9 := sq_le h8
  have e : ∀ j, j < 9 ∨ (11 ≤ j ∧ j < 26) ∨ 154 ≤ j → o_lay r p q j = r j := fun j hj => o_lay_at (by omega) (by omega) (by omega)
  refine ⟨⟨h4, h8, h60, hnp⟩, ⟨by rw [e _ (by omega)]; exact r0, by rw [e _ (by omega)]; exact r1, by rw [e _ (by omega)]; exact r3⟩, fun j hj => by rw [e j (by omega)]; exact hz j hj, fun j h1 h2 => by rw [e j (by omega)]; exact hm j h1 h2, fun x hx => ?_, fun x h1 h2 w hw => by rw [e _ (by omega)]; exact ho x h1 h2 w hw, fun s hs => ?_⟩
  · rw [e _ (by omega)]
    refine ⟨(hp' x hx).1, fun t ht => ?_⟩
    rw [e _ (by omega)]
    exact (hp' x hx).2 t ht
  · obtain ⟨b1, b2⟩ := hb s hs
    by_cases hsq : s = q
    · subst hsq
      have k0 := o_lay_sq (r := r) (t := 0) hp hs (by omega)
      have k1 := o_lay_sq (r := r) (t := 1) hp hs (by omega)
      rw [show 26 + 64 * 0 + s = 26 + s by omega] at k0
      rw [show 26 + 64 * 1 + s = 90 + s by omega] at k1
      rw [k0, k1]
      refine ⟨rfl, Or.inr ⟨hq, ?_⟩⟩
      have : p = 0 ∨ p = 1 := by omega
      rcases this with rfl | rfl
      · exact Or.inl rfl
      · exact Or.inr rfl
    · rw [o_lay_at (by omega) (by omega) (by omega), o_lay_at (by omega) (by omega) (by omega)]
      exact ⟨b1, b2⟩
theorem o_bish_lay {r : Nat → Int32} {N p q t : Nat} (x : Int32) (hp : p < 2) (ht : t < 2) (h8 : N ≤ 8) (hq : q < N * N) (he : r (26 + 64 * t + q) = -1) (hx : ¬ (-1 : Int32) = x) : o_bish (o_lay r p q) t N x = o_bish r t N x + (if Int32.ofNat p = x then 1 else 0) := by
  have hn9 := sq_le h8
  have e := o_lay_sq (r := r) (t := t) hp (by omega : q < 64) ht
  unfold o_bish
  have e2 := cnt_congr (f := fun s => decide (o_lay r p q (26 + 64 * t + s) = x)) (h := fun s => if s = q then decide (Int32.ofNat p = x) else decide (r (26 + 64 * t + s) = x)) (N * N) (fun i hi => by
    by_cases hiq : i = q
    · rw [if_pos hiq, hiq, e]
    · rw [if_neg hiq, o_lay_at (by omega) (by omega) (by omega)])
  have c := cnt_one (f := fun s => decide (r (26 + 64 * t + s) = x)) (h := fun s => if s = q then decide (Int32.ofNat p = x) else decide (r (26 + 64 * t + s) = x)) (l := q) (fun j hj => by simp only [hj, if_false]) (N * N) hq
  simp only [he, decide_eq_true_eq, hx, if_false, if_true] at c
  rw [e2]
  exact c
def o_open (r : Nat → Int32) (np : Nat) (v0 v1 v2 : Int32) : Nat → Int32 := upd (upd (upd (upd (upd r (1140 + 15 * np) v0) (1140 + 15 * np + 1) v1) (1140 + 15 * np + 2) v2) 11 (r 11 + (v1 + v2))) 3 (Int32.ofNat (np + 1))
theorem o_open_at {r : Nat → Int32} {np j : Nat} {v0 v1 v2 : Int32} (h : j < 1140 + 15 * np ∨ 1140 + 15 * np + 2 < j) (h1 : j ≠ 11) (h3 : j ≠ 3) : o_open r np v0 v1 v2 j = r j := by
  unfold o_open
  rw [u_k h3, u_k h1, u_k (by omega), u_k (by omega), u_k (by omega)]
theorem o_open_f {r : Nat → Int32} {np : Nat} {v0 v1 v2 : Int32} : o_open r np v0 v1 v2 (1140 + 15 * np) = v0 ∧ o_open r np v0 v1 v2 (1140 + 15 * np + 1) = v1 ∧ o_open r np v0 v1 v2 (1140 + 15 * np + 2) = v2 ∧ o_open r np v0 v1 v2 11 = r 11 + (v1 + v2) ∧ o_open r np v0 v1 v2 3 = Int32.ofNat (np + 1) := by
  unfold o_open
  refine ⟨?_, ?_, ?_, ?_, u_s _ _ _⟩
  · rw [u_k (by omega), u_k (by omega), u_k (by omega), u_k (by omega), u_s]
  · rw [u_k (by omega), u_k (by omega), u_k (by omega), u_s]
  · rw [u_k (by omega), u_k (by omega), u_s]
  · rw [u_k (by omega), u_s]
theorem i_su_open {r : Nat → Int32} {N lim np : Nat} {v0 v1 v2 : Int32} (hnp : np < 4) (h1 : 1 ≤ v0) (h9 : v0 ≤ 9) (h : i_su r N lim np) : i_su (o_open r np v0 v1 v2) N lim (np + 1) := by
  obtain ⟨⟨h4, h8, h60, hnp'⟩, ⟨r0, r1, r3⟩, hz, hm, hp', ho, hb⟩ := h
  obtain ⟨f0, f1, f2, f11, f3⟩ := o_open_f (r := r) (np := np) (v0 := v0) (v1 := v1) (v2 := v2)
  have e : ∀ j, (j < 1140 + 15 * np ∨ 1140 + 15 * np + 2 < j) → j ≠ 11 → j ≠ 3 → o_open r np v0 v1 v2 j = r j := fun j h h1 h3 => o_open_at h h1 h3
  have e1 : (1 : Int32).toInt = 1 := rfl
  have e9 : (9 : Int32).toInt = 9 := rfl
  rw [z_le, e1] at h1
  rw [z_le, e9] at h9
  refine ⟨⟨h4, h8, h60, by omega⟩, ⟨by rw [e _ (by omega) (by omega) (by omega)]; exact r0, by rw [e _ (by omega) (by omega) (by omega)]; exact r1, f3⟩, fun j hj => by rw [e j (by omega) (by omega) (by omega)]; exact hz j hj, fun j h1 h2 => by rw [e j (by omega) (by omega) (by omega)]; exact hm j h1 h2, fun x hx => ?_, fun x h1 h2 w hw => by rw [e _ (by omega) (by omega) (by omega)]; exact ho x (by omega) h2 w hw, fun s hs => by rw [e _ (by omega) (by omega) (by omega), e _ (by omega) (by omega) (by omega)]; exact hb s hs⟩
  by_cases hxn : x = np
  · subst hxn
    rw [f0]
    refine ⟨⟨h1, h9⟩, fun t ht => ?_⟩
    rw [e _ (by omega) (by omega) (by omega), ho x (Nat.le_refl _) hnp _ (by omega)]
    decide
  · rw [e _ (by omega) (by omega) (by omega)]
    refine ⟨(hp' x (by omega)).1, fun t ht => ?_⟩
    rw [e _ (by omega) (by omega) (by omega)]
    exact (hp' x (by omega)).2 t ht
theorem i_su_snow {r : Nat → Int32} {N lim np q t : Nat} {v : Int32} (hq : q < np) (ht : t < 12) (hv : 0 ≤ v ∧ v ≤ 9) (h : i_su r N lim np) : i_su (o_snow r q t v) N lim np := by
  obtain ⟨⟨h4, h8, h60, hnp⟩, ⟨r0, r1, r3⟩, hz, hm, hp', ho, hb⟩ := h
  have e : ∀ j, j ≠ 1140 + 15 * q + (3 + t) → o_snow r q t v j = r j := fun j hj => u_k hj
  have es : o_snow r q t v (1140 + 15 * q + (3 + t)) = v := u_s _ _ _
  obtain ⟨v0, v9⟩ := hv
  rw [z_le] at v0 v9
  refine ⟨⟨h4, h8, h60, hnp⟩, ⟨by rw [e _ (by omega)]; exact r0, by rw [e _ (by omega)]; exact r1, by rw [e _ (by omega)]; exact r3⟩, fun j hj => by rw [e j (by omega)]; exact hz j hj, fun j h1 h2 => by rw [e j (by omega)]; exact hm j h1 h2, fun x hx => ?_, fun x h1 h2 w hw => by rw [e _ (by omega)]; exact ho x h1 h2 w hw, fun s hs => by rw [e _ (by omega), e _ (by omega)]; exact hb s hs⟩
  rw [e _ (by omega)]
  refine ⟨(hp' x hx).1, fun t' ht' => ?_⟩
  by_cases hc : 1140 + 15 * x + (3 + t') = 1140 + 15 * q + (3 + t)
  · rw [hc, es]
    exact ⟨v0, v9⟩
  · rw [e _ hc]
    exact (hp' x hx).2 t' ht'
