/-! ===== what is written ===== -/
def oC (S z : ev_S) (e : Nat) (W : List Int32) : Prop := z.2 = S.2 ∧ (∀ q, q ≠ e → q ≠ e + 1 → z.1 q = S.1 q) ∧ z.1 e 1 = Int32.ofNat W.length ∧ z.1 (e + 1) = app (S.1 (e + 1)) 0 W
def oR (S z : ev_S) (m : Nat) (W : List Int32) : Prop := z.2 = S.2 ∧ (∀ q, q ≠ m → q ≠ m + 10 → z.1 q = S.1 q) ∧ z.1 m 27 = Int32.ofNat W.length ∧ (∀ j, j ≠ 7 → j ≠ 27 → z.1 m j = S.1 m j) ∧ z.1 m 7 = 0 ∧ z.1 (m + 10) = app (S.1 (m + 10)) 0 W
theorem app_snoc {W : List Int32} {R : Nat → Int32} {v : Int32} : upd (app R 0 W) W.length v = app R 0 (W ++ [v]) := by
  have := app_app W [v] R 0
  rw [Nat.zero_add] at this
  exact this
theorem oC_1 {S z y : ev_S} {e : Nat} {W : List Int32} {v : Int32} (h : oC S z e W) (hl : W.length < 400) (ey : y = ev_up (j_put z (e + 1) 400 (z.1 e 1) v) e 1 (((j_put z (e + 1) 400 (z.1 e 1) v).1 e 1) + 1)) : oC S y e (W ++ [v]) := by
  obtain ⟨a1, a2, a3, a4⟩ := h
  rw [a3, a_put (by omega) (by omega), m_r (by omega), a3, n_inc] at ey
  refine ⟨by rw [ey]; exact a1, fun q q0 q1 => by rw [ey, m_r q0, m_r q1]; exact a2 q q0 q1, by rw [ey, m_s, List.length_append]; rfl, ?_⟩
  rw [ey, m_r (by omega), m_u, r_s, a4]
  exact app_snoc
theorem oR_1 {S z : ev_S} {m : Nat} {W : List Int32} {v : Int32} (h : oR S z m W) (hl : W.length < 400) : vp_in (z.1 m 27) 500 ∧ ∀ y, y = ev_up (ev_up z (m + 10) (z.1 m 27).toNatClampNeg v) m 27 ((z.1 m 27) + 1) → oR S y m (W ++ [v]) := by
  obtain ⟨a1, a2, a3, a4, a7, a5⟩ := h
  rw [a3, n_c (by omega), n_inc]
  refine ⟨(n_vp (by omega) (by omega)).mpr trivial, fun y ey => ⟨by rw [ey]; exact a1, fun q q0 q1 => by rw [ey, m_r q0, m_r q1]; exact a2 q q0 q1, by rw [ey, m_s, List.length_append]; rfl, fun j j7 j27 => by rw [ey, m_k j27, m_r (by omega)]; exact a4 j j7 j27, by rw [ey, m_k (by omega), m_r (by omega)]; exact a7, ?_⟩⟩
  rw [ey, m_r (by omega), m_u, r_s, a5]
  exact app_snoc
/-! a board -/
def cb (r : Nat → Int32) (p n u k : Nat) : Int32 := if r (26 + 64 * p + (n * u + k)) = -1 then 46 else if r (26 + 64 * p + (n * u + k)) = 0 then 119 else 98
def wrow (r : Nat → Int32) (p n u : Nat) : Nat → Nat → List Int32
  | 0, _ => []
  | w + 1, k => cb r p n u k :: wrow r p n u w (k + 1)
def wall (r : Nat → Int32) (p n : Nat) : Nat → List Int32
  | 0 => []
  | u + 1 => wrow r p n u n 0 ++ ((if u = 0 then [] else [47]) ++ wall r p n u)
theorem wrow_len (r : Nat → Int32) (p n u : Nat) : ∀ w k, (wrow r p n u w k).length = w := by
  intro w
  induction w with
  | zero => intro k; rfl
  | succ w ih => intro k; rw [wrow, List.length_cons, ih]
theorem wall_len (r : Nat → Int32) (p n : Nat) : ∀ u, (wall r p n u).length ≤ u * (n + 1) := by
  intro u
  induction u with
  | zero => exact Nat.zero_le _
  | succ u ih =>
    rw [wall, List.length_append, List.length_append, wrow_len, Nat.succ_mul]
    by_cases h : u = 0
    · rw [if_pos h]
      show n + (0 + _) ≤ _
      omega
    · rw [if_neg h]
      show n + (1 + _) ≤ _
      omega
theorem sqx {n u k : Nat} (h8 : n ≤ 8) (hu : u < n) (hk : k < n) : n * u + k < 64 := by
  have h1 : n * u ≤ 8 * u := Nat.mul_le_mul_right u h8
  omega
theorem t_row {g : ev_G} {S : ev_S} {e b0 p n u : Nat} {r : Nat → Int32} {Q : ev_O → ev_S → Prop} (h8 : n ≤ 8) (hu : u < n) (hb : e + 1 < b0) (hw : ∀ s, s < 64 → S.1 (b0 + 1) s = r (26 + 64 * p + s)) : ∀ (w k : Nat) (z : ev_S) (W : List Int32), k + w = n → oC S z e W → W.length + w < 400 →
    (∀ z', oC S z' e (W ++ wrow r p n u w k) → ev_E g m_X4_showBoard 3 0 21 [some (ev_o 4 e), some (ev_o 0 b0), some (ev_i (Int32.ofNat n)), some (ev_i (Int32.ofNat u)), some (ev_i (Int32.ofNat n)), none] [] z' Q) →
    ev_E g m_X4_showBoard 3 0 21 [some (ev_o 4 e), some (ev_o 0 b0), some (ev_i (Int32.ofNat n)), some (ev_i (Int32.ofNat u)), some (ev_i (Int32.ofNat k)), none] [] z Q := by
  intro w
  induction w with
  | zero =>
    intro k z W hk hz hl hQ
    have hkn : k = n := by omega
    subst hkn
    have := hQ z (by rw [wrow, List.append_nil]; exact hz)
    exact this
  | succ w ih =>
    intro k z W hk hz hl hQ
    have hx := sqx h8 hu (show k < n by omega)
    have e1 : Int32.ofNat u * Int32.ofNat n + Int32.ofNat k = Int32.ofNat (n * u + k) := by rw [n_mul, n_add, Nat.mul_comm]
    have z1 : z.1 (b0 + 1) (n * u + k) = r (26 + 64 * p + (n * u + k)) := by rw [hz.2.1 _ (by omega) (by omega)]; exact hw _ hx
    refine sg_X4_showBoard_21 e b0 _ _ _ (j_neg (by rw [n_le (by omega) (by omega)]; omega) ?_)
    rw [e1, a_in (by omega) (by omega), z1, n_inc]
    have go : ∀ y, oC S y e (W ++ [cb r p n u k]) → ev_E g m_X4_showBoard 3 0 21 [some (ev_o 4 e), some (ev_o 0 b0), some (ev_i (Int32.ofNat n)), some (ev_i (Int32.ofNat u)), some (ev_i (Int32.ofNat (k + 1))), none] [] y Q := fun y hy => ih (k + 1) y _ (by omega) hy (by rw [List.length_append]; show W.length + 1 + w < 400; omega) (fun z' hz' => hQ z' (by rw [List.append_assoc] at hz'; exact hz'))
    unfold cb at go
    refine ⟨fun h1 S4 e4 => ?_, fun h1 => ⟨fun h2 S3 e3 => ?_, fun h2 S2 e2 => ?_⟩⟩
    · rw [if_pos h1] at go
      exact go S4 (oC_1 hz (by omega) e4)
    · rw [if_neg h1, if_pos h2] at go
      exact go S3 (oC_1 hz (by omega) e3)
    · rw [if_neg h1, if_neg h2] at go
      exact go S2 (oC_1 hz (by omega) e2)
theorem t_all {g : ev_G} {S : ev_S} {e b0 p n : Nat} {r : Nat → Int32} {Q : ev_O → ev_S → Prop} (h8 : n ≤ 8) (hb : e + 1 < b0) (hw : ∀ s, s < 64 → S.1 (b0 + 1) s = r (26 + 64 * p + s)) : ∀ (u : Nat) (z : ev_S) (W : List Int32), u ≤ n → oC S z e W → W.length + u * 9 < 400 →
    (∀ z', oC S z' e (W ++ wall r p n u) → Q (.inl none) z') →
    ev_E g m_X4_showBoard 3 0 14 [some (ev_o 4 e), some (ev_o 0 b0), some (ev_i (Int32.ofNat n)), some (ev_i (Int32.ofNat u + (-1))), none, none] [] z Q := by
  intro u
  induction u with
  | zero =>
    intro z W hu hz hl hQ
    have := hQ z (by rw [wall, List.append_nil]; exact hz)
    exact sg_X4_showBoard_14 e b0 _ _ (j_pos (by decide) this)
  | succ u ih =>
    intro z W hu hz hl hQ
    have e1 : Int32.ofNat (u + 1) + (-1) = Int32.ofNat u := by rw [← Int32.sub_eq_add_neg, n_dec _ (by omega), Nat.add_sub_cancel]
    have i0 : (0 : Int32) = Int32.ofNat 0 := rfl
    rw [e1]
    refine sg_X4_showBoard_14 e b0 _ _ (j_neg (by rw [i0, n_lt (by omega) (by omega)]; omega) ?_)
    refine t_row h8 (by omega) hb hw n 0 z W (by omega) hz (by omega) (fun z' hz' => ?_)
    have hlr := wrow_len r p n u n 0
    rw [wall] at hQ
    refine sg_X4_showBoard_21 e b0 _ _ _ (j_pos (Int32.le_refl _) ?_)
    rw [i0, n_le (by omega) (by omega)]
    refine ⟨fun h0 => ?_, fun h0 S1 e1 => ?_⟩
    · rw [if_pos (by omega : u = 0)] at hQ
      exact ih z' _ (by omega) hz' (by rw [List.length_append, hlr]; omega) (fun y hy => hQ y (by rw [List.nil_append, ← List.append_assoc]; exact hy))
    · rw [if_neg (by omega : ¬ u = 0)] at hQ
      have hy1 := oC_1 hz' (by rw [List.length_append, hlr]; omega) e1
      refine ih S1 _ (by omega) hy1 (by rw [List.length_append, List.length_append, hlr]; show W.length + n + 1 + u * 9 < 400; omega) (fun y hy => hQ y ?_)
      rw [← List.append_assoc, ← List.append_assoc]
      exact hy
theorem c_row {g : ev_G} {S : ev_S} {m p n u : Nat} {Q : ev_O → ev_S → Prop} (h8 : n ≤ 8) (hp : p < 2) (hu : u < n) (hn : S.1 (m + 1) 0 = Int32.ofNat n) : ∀ (w k : Nat) (z : ev_S) (W : List Int32), k + w = n → oR S z m W → W.length + w < 400 →
    (∀ z', oR S z' m (W ++ wrow (S.1 (m + 1)) p n u w k) → ev_E g m_X10_writeBoard 3 0 39 [some (ev_o 10 m), some (ev_i (Int32.ofNat p)), some (ev_i (Int32.ofNat u)), some (ev_i (Int32.ofNat n)), none] [] z' Q) →
    ev_E g m_X10_writeBoard 3 0 39 [some (ev_o 10 m), some (ev_i (Int32.ofNat p)), some (ev_i (Int32.ofNat u)), some (ev_i (Int32.ofNat k)), none] [] z Q := by
  intro w
  induction w with
  | zero =>
    intro k z W hk hz hl hQ
    have hkn : k = n := by omega
    subst hkn
    exact hQ z (by rw [wrow, List.append_nil]; exact hz)
  | succ w ih =>
    intro k z W hk hz hl hQ
    have hx := sqx h8 hu (show k < n by omega)
    have e0 : z.1 (m + 1) = S.1 (m + 1) := hz.2.1 _ (by omega) (by omega)
    have e1 : (26 : Int32) + 64 * Int32.ofNat p + (Int32.ofNat n * Int32.ofNat u + Int32.ofNat k) = Int32.ofNat (26 + 64 * p + (n * u + k)) := by
      rw [n_mul, n_add, lm_64]
      have i26 : (26 : Int32) = Int32.ofNat 26 := rfl
      rw [i26, n_add, n_add]
    refine sg_X10_writeBoard_39 m _ _ _ ?_
    rw [e0, hn, e1, n_c (by omega), n_inc]
    refine j_neg (by rw [n_le (by omega) (by omega)]; omega) ⟨(n_vp (by omega) (by omega)).mpr trivial, ?_⟩
    have go : ∀ y, oR S y m (W ++ [cb (S.1 (m + 1)) p n u k]) → ev_E g m_X10_writeBoard 3 0 39 [some (ev_o 10 m), some (ev_i (Int32.ofNat p)), some (ev_i (Int32.ofNat u)), some (ev_i (Int32.ofNat (k + 1))), none] [] y Q := fun y hy => ih (k + 1) y _ (by omega) hy (by rw [List.length_append]; show W.length + 1 + w < 400; omega) (fun z' hz' => hQ z' (by rw [List.append_assoc] at hz'; exact hz'))
    unfold cb at go
    refine ⟨fun h1 => ⟨(oR_1 (v := 46) hz (by omega)).1, fun S4 e4 => ?_⟩, fun h1 => ⟨fun h2 => ⟨(oR_1 (v := 46) hz (by omega)).1, fun S3 e3 => ?_⟩, fun h2 => ⟨(oR_1 (v := 46) hz (by omega)).1, fun S2 e2 => ?_⟩⟩⟩
    · rw [if_pos h1] at go
      exact go S4 ((oR_1 hz (by omega)).2 S4 e4)
    · rw [if_neg h1, if_pos h2] at go
      exact go S3 ((oR_1 hz (by omega)).2 S3 e3)
    · rw [if_neg h1, if_neg h2] at go
      exact go S2 ((oR_1 hz (by omega)).2 S2 e2)
theorem c_brd {g : ev_G} {S : ev_S} {m p n : Nat} {Q : ev_O → ev_S → Prop} (h8 : n ≤ 8) (hp : p < 2) (hn : S.1 (m + 1) 0 = Int32.ofNat n) : ∀ (u : Nat) (z : ev_S) (W : List Int32), u ≤ n → oR S z m W → W.length + u * 9 < 400 →
    (∀ z', oR S z' m (W ++ wall (S.1 (m + 1)) p n u) → Q (.inl (some (ev_i (Int32.ofNat (W ++ wall (S.1 (m + 1)) p n u).length)))) z') →
    ev_E g m_X10_writeBoard 3 0 33 [some (ev_o 10 m), some (ev_i (Int32.ofNat p)), some (ev_i (Int32.ofNat u + (-1))), none, none] [] z Q := by
  intro u
  induction u with
  | zero =>
    intro z W hu hz hl hQ
    have := hQ z (by rw [wall, List.append_nil]; exact hz)
    rw [wall, List.append_nil] at this
    refine sg_X10_writeBoard_33 m _ _ (j_pos (by decide) ?_)
    rw [hz.2.2.1]
    exact this
  | succ u ih =>
    intro z W hu hz hl hQ
    have e1 : Int32.ofNat (u + 1) + (-1) = Int32.ofNat u := by rw [← Int32.sub_eq_add_neg, n_dec _ (by omega), Nat.add_sub_cancel]
    have i0 : (0 : Int32) = Int32.ofNat 0 := rfl
    rw [e1]
    refine sg_X10_writeBoard_33 m _ _ (j_neg (by rw [i0, n_lt (by omega) (by omega)]; omega) ?_)
    refine c_row h8 hp (by omega) hn n 0 z W (by omega) hz (by omega) (fun z' hz' => ?_)
    have hlr := wrow_len (S.1 (m + 1)) p n u n 0
    have e0 : z'.1 (m + 1) = S.1 (m + 1) := hz'.2.1 _ (by omega) (by omega)
    rw [wall] at hQ
    refine sg_X10_writeBoard_39 m _ _ _ ?_
    rw [e0, hn]
    refine j_pos (Int32.le_refl _) ?_
    rw [i0, n_le (by omega) (by omega)]
    refine ⟨fun h0 => ?_, fun h0 => ⟨(oR_1 (v := 46) hz' (by rw [List.length_append, hlr]; omega)).1, fun S1 e1 => ?_⟩⟩
    · rw [if_pos (by omega : u = 0), List.nil_append, ← List.append_assoc] at hQ
      exact ih z' _ (by omega) hz' (by rw [List.length_append, hlr]; omega) hQ
    · rw [if_neg (by omega : ¬ u = 0), ← List.append_assoc, ← List.append_assoc] at hQ
      have hy1 := (oR_1 hz' (by rw [List.length_append, hlr]; omega)).2 S1 e1
      exact ih S1 _ (by omega) hy1 (by rw [List.length_append, List.length_append, hlr]; show W.length + n + 1 + u * 9 < 400; omega) hQ
