/-! ===== the law: what holds between its rounds ===== -/
def IO (M : Nat → Nat → Int32) (a m : Nat) : Prop := ∃ w, w ≤ 400 ∧ M (a + 9) 1 = Int32.ofNat w ∧ M m 27 = Int32.ofNat w ∧ ∀ j, j < w → M (a + 10) j = M (m + 10) j
def IT (M : Nat → Nat → Int32) (a m : Nat) : Prop := ∃ n, n ≤ 800 ∧ M (a + 1) 1 = Int32.ofNat n ∧ M m 10 = Int32.ofNat n ∧ ∀ j, j < n → M (m + 7) j = M (a + 2) j ∧ ¬ M (a + 2) j = -1
def IS (M : Nat → Nat → Int32) (a m : Nat) : Prop := ∀ s, s < 2 → q_sh M (a + 423 + 41 * s) ∧ (M (m + 6) s = 0 ↔ M a (8 + s) = 0) ∧ (¬ M a (8 + s) = 0 → ∃ r, (∀ j, j < 2091 → M (m + 5) (2091 * s + j) = r j) ∧ q_any M (a + 423 + 41 * s) r)
def IH (M : Nat → Nat → Int32) (a m : Nat) : Prop := ∃ u, q_his M (a + 93) (M (m + 4)) u ∧ u ≤ 8 ∧ M m 6 = Int32.ofNat u
def IE (M : Nat → Nat → Int32) (a m : Nat) : Prop := M m 8 = -1 ∧ M m 23 = 0 ∧ M m 11 = M a 10 ∧ M m 12 = M a 11
def INV (M : Nat → Nat → Int32) (a m : Nat) : Prop := q_any M (a + 11) (M (m + 1)) ∧ q_sh M (a + 52) ∧ IH M a m ∧ IE M a m ∧ IS M a m ∧ IT M a m ∧ IO M a m
theorem q_sh_fr {M M' : Nat → Nat → Int32} {e : Nat} (h : q_sh M e) (f1 : M' (e + 1) = M (e + 1)) (f2 : M' (e + 10) = M (e + 10)) : q_sh M' e := by
  unfold q_sh at h ⊢
  rw [f1, f2]
  exact h
theorem IS_fr {M M' : Nat → Nat → Int32} {a m : Nat} (h : IS M a m) (f1 : ∀ q, a + 423 ≤ q → q < a + 505 → M' q = M q) (f2 : M' (m + 5) = M (m + 5)) (f3 : M' (m + 6) = M (m + 6)) (f4 : ∀ s, s < 2 → M' a (8 + s) = M a (8 + s)) : IS M' a m := by
  intro s hs
  obtain ⟨h1, h2, h3⟩ := h s hs
  refine ⟨q_sh_fr h1 (f1 _ (by omega) (by omega)) (f1 _ (by omega) (by omega)), by rw [f3, f4 s hs]; exact h2, fun hn => ?_⟩
  rw [f4 s hs] at hn
  obtain ⟨r, r1, r2⟩ := h3 hn
  exact ⟨r, by rw [f2]; exact r1, q_any_frame (M := M) (fun q q1 q2 => f1 q (by omega) (by omega)) r2⟩
theorem IT_fr {M M' : Nat → Nat → Int32} {a m : Nat} (h : IT M a m) (f1 : M' (a + 1) = M (a + 1)) (f2 : M' (a + 2) = M (a + 2)) (f3 : M' (m + 7) = M (m + 7)) (f4 : M' m 10 = M m 10) : IT M' a m := by
  unfold IT at h ⊢
  rw [f1, f2, f3, f4]
  exact h
theorem IO_fr {M M' : Nat → Nat → Int32} {a m : Nat} (h : IO M a m) (f1 : M' (a + 9) = M (a + 9)) (f2 : M' (a + 10) = M (a + 10)) (f3 : M' (m + 10) = M (m + 10)) (f4 : M' m 27 = M m 27) : IO M' a m := by
  unfold IO at h ⊢
  rw [f1, f2, f3, f4]
  exact h
theorem IH_fr {M M' : Nat → Nat → Int32} {a m : Nat} (h : IH M a m) (f1 : ∀ q, a + 93 ≤ q → q < a + 423 → M' q = M q) (f2 : M' (m + 4) = M (m + 4)) (f3 : M' m 6 = M m 6) : IH M' a m := by
  obtain ⟨u, h1, h2, h3⟩ := h
  exact ⟨u, by rw [f2]; exact q_his_fr (M := M) (fun q q1 q2 => f1 q q1 (by omega)) h1, h2, by rw [f3]; exact h3⟩
/-- nothing changes that matters -/
theorem INV_fr {M M' : Nat → Nat → Int32} {a m : Nat} (hm : m = a + 505) (h : INV M a m) (f1 : ∀ q, a ≤ q → q < a + 505 → (q < a + 47 ∨ a + 93 ≤ q) → M' q = M q) (f2 : q_sh M' (a + 52)) (f3 : ∀ q, m + 4 ≤ q → q < m + 11 → q ≠ m + 8 → q ≠ m + 9 → M' q = M q) (f4 : ∀ j, j < 2091 → M' (m + 1) j = M (m + 1) j) (f5 : ∀ j, j ≠ 7 → M' m j = M m j) : INV M' a m := by
  obtain ⟨h1, h2, h3, h4, h5, h6, h7⟩ := h
  refine ⟨q_any_lt f4 (q_any_frame (M := M) (fun q q1 q2 => f1 q (by omega) (by omega) (by omega)) h1), f2, IH_fr h3 (fun q q1 q2 => f1 q (by omega) (by omega) (by omega)) (f3 _ (by omega) (by omega) (by omega) (by omega)) (f5 _ (by omega)), ?_, IS_fr h5 (fun q q1 q2 => f1 q (by omega) (by omega) (by omega)) (f3 _ (by omega) (by omega) (by omega) (by omega)) (f3 _ (by omega) (by omega) (by omega) (by omega)) (fun s _ => by rw [f1 a (by omega) (by omega) (by omega)]), IT_fr h6 (f1 _ (by omega) (by omega) (by omega)) (f1 _ (by omega) (by omega) (by omega)) (f3 _ (by omega) (by omega) (by omega) (by omega)) (f5 _ (by omega)), IO_fr h7 (f1 _ (by omega) (by omega) (by omega)) (f1 _ (by omega) (by omega) (by omega)) (f3 _ (by omega) (by omega) (by omega) (by omega)) (f5 _ (by omega))⟩
  unfold IE at h4 ⊢
  rw [f5 _ (by omega), f5 _ (by omega), f5 _ (by omega), f5 _ (by omega), f1 a (by omega) (by omega) (by omega)]
  exact h4
theorem INV_7 {M M' : Nat → Nat → Int32} {a m : Nat} (hm : m = a + 505) (h : INV M a m) (f1 : ∀ q, q ≠ m → M' q = M q) (f5 : ∀ j, j ≠ 7 → M' m j = M m j) : INV M' a m :=
  INV_fr hm h (fun q _ _ _ => f1 q (by omega)) (q_sh_fr h.2.1 (f1 _ (by omega)) (f1 _ (by omega))) (fun q _ _ _ _ => f1 q (by omega)) (fun j _ => by rw [f1 _ (by omega)]) f5
theorem INV_u7 {S z : ev_S} {a m : Nat} {v : Int32} (hm : m = a + 505) (h : INV S.1 a m) (e : z.1 = S.1) : INV (ev_up z m 7 v).1 a m :=
  INV_7 hm h (fun q hq => by rw [m_r hq, e]) (fun j hj => by rw [m_k hj, e])
theorem lg_self (x : Int64) : lg_cmp x x = 0 := by
  unfold lg_cmp
  simp
/-- the end of a case: the answers are the same -/
abbrev TL (S : ev_S) (m : Nat) (v : Int32) (x : Int64) (A F : Prop) : Prop := (S.1 m 7 = v → (v = 0 → (lg_cmp S.2.1 x = 0 → A) ∧ (¬ lg_cmp S.2.1 x = 0 → F)) ∧ (¬ v = 0 → A)) ∧ (¬ S.1 m 7 = v → F)
theorem tl_ok {S : ev_S} {m : Nat} {x : Int64} {A F : Prop} (h7 : S.1 m 7 = 0) (hx : S.2.1 = x) (hA : A) : TL S m 0 x A F :=
  ⟨fun _ => ⟨fun _ => ⟨fun _ => hA, fun hn => absurd (by rw [hx]; exact lg_self x) hn⟩, fun _ => hA⟩, fun hn => absurd h7 hn⟩
theorem tl_er {S : ev_S} {m : Nat} {v : Int32} {x : Int64} {A F : Prop} (h7 : S.1 m 7 = v) (hv : ¬ v = 0) (hA : A) : TL S m v x A F :=
  ⟨fun _ => ⟨fun h0 => absurd h0 hv, fun _ => hA⟩, fun hn => absurd h7 hn⟩
abbrev K3 (g : ev_G) (B k0 a m o1 o2 : Nat) (u5 : Int32) (z : ev_S) (Q : ev_O → ev_S → Prop) : Prop := ev_E g m_L_law 52 B 3142 [some (ev_x 0 k0), some (ev_o 9 a), some (ev_o 10 m), some (ev_o 21 o1), some (ev_o 22 o2), some (ev_i u5), none, none, none, none] [] z Q
abbrev KA (g : ev_G) (B pc k0 a m o1 o2 : Nat) (u5 : Int32) (z : ev_S) (Q : ev_O → ev_S → Prop) : Prop := ev_E g m_L_law 52 (B + 2) pc [some (ev_x 0 k0), some (ev_o 9 a), some (ev_o 10 m), some (ev_o 21 o1), some (ev_o 22 o2), some (ev_i u5), none, none, none, none] [] z Q
/-- what every case may use -/
def CS (g : ev_G) (B k0 a m o1 o2 : Nat) (u5 : Int32) (S : ev_S) (Q : ev_O → ev_S → Prop) : Prop := m = a + 505 ∧ INV S.1 a m ∧ (vp_in (u5 + 1) (ev_sl g) ∧ vp_in (u5 + 2) (ev_sl g) ∧ vp_in (u5 + 3) (ev_sl g) ∧ vp_in (u5 + 4) (ev_sl g) ∧ vp_in (u5 + 5) (ev_sl g) ∧ vp_in (u5 + 6) (ev_sl g)) ∧ ∀ z, INV z.1 a m → K3 g B k0 a m o1 o2 u5 z Q
theorem CS.hm {g : ev_G} {B k0 a m o1 o2 : Nat} {u5 : Int32} {S : ev_S} {Q : ev_O → ev_S → Prop} (c : CS g B k0 a m o1 o2 u5 S Q) : m = a + 505 := c.1
theorem CS.hi {g : ev_G} {B k0 a m o1 o2 : Nat} {u5 : Int32} {S : ev_S} {Q : ev_O → ev_S → Prop} (c : CS g B k0 a m o1 o2 u5 S Q) : INV S.1 a m := c.2.1
theorem CS.v1 {g : ev_G} {B k0 a m o1 o2 : Nat} {u5 : Int32} {S : ev_S} {Q : ev_O → ev_S → Prop} (c : CS g B k0 a m o1 o2 u5 S Q) : vp_in (u5 + 1) (ev_sl g) := c.2.2.1.1
theorem CS.v2 {g : ev_G} {B k0 a m o1 o2 : Nat} {u5 : Int32} {S : ev_S} {Q : ev_O → ev_S → Prop} (c : CS g B k0 a m o1 o2 u5 S Q) : vp_in (u5 + 2) (ev_sl g) := c.2.2.1.2.1
theorem CS.v3 {g : ev_G} {B k0 a m o1 o2 : Nat} {u5 : Int32} {S : ev_S} {Q : ev_O → ev_S → Prop} (c : CS g B k0 a m o1 o2 u5 S Q) : vp_in (u5 + 3) (ev_sl g) := c.2.2.1.2.2.1
theorem CS.v4 {g : ev_G} {B k0 a m o1 o2 : Nat} {u5 : Int32} {S : ev_S} {Q : ev_O → ev_S → Prop} (c : CS g B k0 a m o1 o2 u5 S Q) : vp_in (u5 + 4) (ev_sl g) := c.2.2.1.2.2.2.1
theorem CS.v5 {g : ev_G} {B k0 a m o1 o2 : Nat} {u5 : Int32} {S : ev_S} {Q : ev_O → ev_S → Prop} (c : CS g B k0 a m o1 o2 u5 S Q) : vp_in (u5 + 5) (ev_sl g) := c.2.2.1.2.2.2.2.1
theorem CS.v6 {g : ev_G} {B k0 a m o1 o2 : Nat} {u5 : Int32} {S : ev_S} {Q : ev_O → ev_S → Prop} (c : CS g B k0 a m o1 o2 u5 S Q) : vp_in (u5 + 6) (ev_sl g) := c.2.2.1.2.2.2.2.2
theorem CS.k {g : ev_G} {B k0 a m o1 o2 : Nat} {u5 : Int32} {S : ev_S} {Q : ev_O → ev_S → Prop} (c : CS g B k0 a m o1 o2 u5 S Q) : ∀ z, INV z.1 a m → K3 g B k0 a m o1 o2 u5 z Q := c.2.2.2
theorem CS.k1 {g : ev_G} {B k0 a m o1 o2 : Nat} {u5 : Int32} {S : ev_S} {Q : ev_O → ev_S → Prop} (c : CS g B k0 a m o1 o2 u5 S Q) (z : ev_S) (h : INV z.1 a m) : K3 g (B + 1) k0 a m o1 o2 u5 z Q := ev_E.more (by omega) (c.k z h)
theorem CS.k2 {g : ev_G} {B k0 a m o1 o2 : Nat} {u5 : Int32} {S : ev_S} {Q : ev_O → ev_S → Prop} (c : CS g B k0 a m o1 o2 u5 S Q) (z : ev_S) (h : INV z.1 a m) : K3 g (B + 2) k0 a m o1 o2 u5 z Q := ev_E.more (by omega) (c.k z h)
theorem CS.ok {g : ev_G} {B k0 a m o1 o2 : Nat} {u5 : Int32} {S : ev_S} {Q : ev_O → ev_S → Prop} (c : CS g B k0 a m o1 o2 u5 S Q) {z : ev_S} {v : Int32} {F : Prop} (e : z.1 = S.1) (ex : z.2.1 = v.toInt64) : TL (ev_up z m 7 0) m 0 v.toInt64 (K3 g (B + 1) k0 a m o1 o2 u5 (ev_up z m 7 0) Q) F :=
  tl_ok (m_s _ _ _ _) ex (c.k1 _ (INV_u7 c.hm c.hi e))
theorem CS.er {g : ev_G} {B k0 a m o1 o2 : Nat} {u5 : Int32} {S : ev_S} {Q : ev_O → ev_S → Prop} (c : CS g B k0 a m o1 o2 u5 S Q) {v : Int32} {x : Int64} {F : Prop} (hv : ¬ v = 0) : TL (ev_up S m 7 v) m v x (K3 g (B + 1) k0 a m o1 o2 u5 (ev_up S m 7 v) Q) F :=
  tl_er (m_s _ _ _ _) hv (c.k1 _ (INV_u7 c.hm c.hi rfl))
