/-! ===== what is written ===== -/
def oC (S z : ev_S) (e : Nat) (W : List Int32) : Prop := z.2 = S.2 ∧ (∀ q, q ≠ e → q ≠ e + 1 → z.1 q = S.1 q) ∧ z.1 e 1 = Int32.ofNat W.length ∧ z.1 (e + 1) = app (S.1 (e + 1)) 0 W
def oR (S z : ev_S) (m : Nat) (W : List Int32) : Prop := z.2 = S.2 ∧ (∀ q, q ≠ m → q ≠ m + 10 → z.1 q = S.1 q) ∧ z.1 m 27 = Int32.ofNat W.length ∧ (∀ j, j ≠ 7 → j ≠ 27 → z.1 m j = S.1 m j) ∧ z.1 m 7 = 0 ∧ z.1 (m + 10) = app (S.1 (m + 10)) 0 W
theorem app_snoc {W : List Int32} {R : Nat → Int32} {v : Int32} : upd (app R 0 W) W.length v = app R 0 (W ++ [v]) := by
  have := app_app W [v] R 0
  rw [Nat.zero_add] at this
  exact this
theorem oC_1 {S z y : ev_S} {e : Nat} {W : List Int32} {v : Int32} (h : oC S z e W) (hl : W.length < 400) (ey : y = ev_up (j_put z (e + 1) 400 (z.1 e 1) v) e 1 (((j_put z (e + 1) 400 (z.1 e 1) v).1 e 1) + 1)) : oC S y e (W ++ [v]) := by
  obtain ⟨a1, a2, a3, a4⟩ := h
  rw [a3, a_put (by omega) (by omega), m_r (by omega), a3, n_inc] at ey
  refine ⟨by rw [ey]; exact a1, fun q q0 q1 => by rw [ey, m_r q0, m_r q1]; exact a2 q q0 q1, by rw [ey, m_s, List.length_append]; rfl, ?_⟩
  rw [ey, m_r (by omega), m_u, r_s, a4]
  exact app_snoc
theorem oR_1 {S z : ev_S} {m : Nat} {W : List Int32} {v : Int32} (h : oR S z m W) (hl : W.length < 400) : vp_in (z.1 m 27) 500 ∧ ∀ y, y = ev_up (ev_up z (m + 10) (z.1 m 27).toNatClampNeg v) m 27 ((z.1 m 27) + 1) → oR S y m (W ++ [v]) := by
  obtain ⟨a1, a2, a3, a4, a7, a5⟩ := h
  rw [a3, n_c (by omega), n_inc]
  refine ⟨(n_vp (by omega) (by omega)).mpr trivial, fun y ey => ⟨by rw [ey]; exact a1, fun q q0 q1 => by rw [ey, m_r q0, m_r q1]; exact a2 q q0 q1, by rw [ey, m_s, List.length_append]; rfl, fun j j7 j27 => by rw [ey, m_k j27, m_r (by omega)]; exact a4 j j7 j27, by rw [ey, m_k (by omega), m_r (by omega)]; exact a7, ?_⟩⟩
  rw [ey, m_r (by omega), m_u, r_s, a5]
  exact app_snoc
/-! a board -/
def cb (r : Nat → Int32) (p n u k : Nat) : Int32 := if r (26 + 64 * p + (n * u + k)) = -1 then 46 else if r (26 + 64 * p + (n * u + k)) = 0 then 119 else 98
def wrow (r : Nat → Int32) (p n u : Nat) : Nat → Nat → List Int32
  | 0, _ => []
  | w + 1, k => cb r p n u k :: wrow r p n u w (k + 1)
def wall (r : Nat → Int32) (p n : Nat) : Nat → List Int32
  | 0 => []
  | u + 1 => wrow r p n u n 0 ++ ((if u = 0 then [] else [47]) ++ wall r p n u)
theorem wrow_len (r : Nat → Int32) (p n u : Nat) : ∀ w k, (wrow r p n u w k).length = w := by
  intro w
  induction w with
  | zero => intro k; rfl
  | succ w ih => intro k; rw [wrow, List.length_cons, ih]
theorem wall_len (r : Nat → Int32) (p n : Nat) : ∀ u, (wall r p n u).length ≤ u * (n + 1) := by
  intro u
  induction u with
  | zero => exact Nat.zero_le _
  | succ u ih =>
    rw [wall, List.length_append, List.length_append, wrow_len, Nat.succ_mul]
    by_cases h : u = 0
    · rw [if_pos h]
      show n + (0 + _) ≤ _
      omega
    · rw [if_neg h]
      show n + (1 + _) ≤ _
      omega
theorem sqx {n u k : Nat} (h8 : n ≤ 8) (hu : u < n) (hk : k < n) : n * u + k < 64 := by
  have h1 : n * u ≤ 8 * u := Nat.mul_le_mul_right u h8
  omega