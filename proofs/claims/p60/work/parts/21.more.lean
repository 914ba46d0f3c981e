/-! ===== words that the printed walks use ===== -/
def j_i2c (x : Int32) : Int32 := (x.toUInt32 % 65536).toInt32
def a_past (a : Nat) (i : Int32) : Nat := a + 1 + 41 * i.toNatClampNeg
theorem j_vin {k n : Nat} (h : k < n ∧ k < 2147483648) : vp_in (Int32.ofNat k) n := by
  unfold vp_in
  rintro (h1 | h1)
  · exact j_nonneg h.2 h1
  · rw [j_clamp h.2] at h1; omega
theorem j_rs {S1 S : ev_S} {a k : Nat} {v : Int32} (h : S1 = ev_up S a k v) : S1.1 a k = v := by
  subst h
  show va_up S.1 a (upd (S.1 a) k v) a k = v
  rw [va_up_self]
  simp [upd]
theorem j_rk {S1 S : ev_S} {a k b j : Nat} {v : Int32} (h : S1 = ev_up S a k v) (hne : b ≠ a ∨ j ≠ k) : S1.1 b j = S.1 b j := by
  subst h
  show va_up S.1 a (upd (S.1 a) k v) b j = S.1 b j
  by_cases hb : b = a
  · subst hb
    rw [va_up_self]
    simp only [upd]
    rw [if_neg]
    rcases hne with h | h
    · exact absurd rfl h
    · exact h
  · rw [va_up_ne _ _ hb]
theorem j_out0 {x : Int32} {lo hi : Int} (H : ∀ k : Int, lo ≤ k → k ≤ hi → x = Int32.ofInt k → False) : x.toInt < lo ∨ hi < x.toInt := by
  by_cases h1 : x.toInt < lo
  · exact Or.inl h1
  · by_cases h2 : hi < x.toInt
    · exact Or.inr h2
    · exact (H x.toInt (by omega) (by omega) (Int32.ofInt_toInt x).symm).elim
theorem j_pos {c A B : Prop} (h : c) (k : A) : (c → A) ∧ (¬ c → B) := ⟨fun _ => k, fun n => absurd h n⟩
theorem j_neg {c A B : Prop} (h : ¬ c) (k : B) : (c → A) ∧ (¬ c → B) := ⟨fun n => absurd n h, fun _ => k⟩
theorem ev_sub {P : ev_S → Prop} {e : ev_S} {G : Prop} (h : ∀ z, z = e → P z) (k : ∀ z, z = e → P z → G) : G := k e rfl (h e rfl)
theorem ev_sub1 {P : ev_S → Prop} {e z : ev_S} {G : Prop} (h : ∀ z, z = e → P z) (hz : z = e) (k : P z → G) : G := k (h z hz)
section EvMore
variable {g : ev_G} {μ : ev_M} {d B pc : Nat} {L : List (Option ev_V)} {K : List ev_V} {S : ev_S} {Q : ev_O → ev_S → Prop}
theorem ev_ke {v v' : Int32} (e : v = v') (kk : ev_E g μ d B pc L (ev_i v' :: K) S Q) : ev_E g μ d B pc L (ev_i v :: K) S Q := by
  subst e; exact kk
theorem ev_i2c {x : Int32} (h : decode (ev_by μ) pc = .ok (.i2c, 1)) (kk : ev_E g μ d B (pc + 1) L (ev_i (j_i2c x) :: K) S Q) : ev_E g μ d B pc L (ev_i x :: K) S Q := by
  intro l p e R s m args below meth c H locs cells slots mc ms Λ ls X hL hz hK
  exact lv_i2c X.1.1 X.1.2.1 h rfl (kk l p e R s m args below meth c H locs cells slots mc ms Λ ls X hL hz (List.forall_mem_cons.mpr ⟨trivial, fun v hv => hK v (List.mem_cons_of_mem _ hv)⟩))
theorem ev_aal {a : Nat} {i : Int32} (h : decode (ev_by μ) pc = .ok (.aaload, 1)) (hi : vp_in i 8) (kk : ev_E g μ d B (pc + 1) L (ev_o 2 (a_past a i) :: K) S Q) : ev_E g μ d B pc L (ev_i i :: ev_o 24 a :: K) S Q := by
  intro l p e R s m args below meth c H locs cells slots mc ms Λ ls X hL hz hK
  have h0 : ev_at g S.2.1 (24, 8) a := hK _ (List.mem_cons_of_mem _ List.mem_cons_self)
  have hi2 : i.toNatClampNeg < 8 := by
    unfold vp_in at hi
    omega
  have hok : ev_ok g S.2.1 (ev_o 2 (a + 1 + 41 * i.toNatClampNeg)) := by
    show ev_at g S.2.1 (2, 0) (a + 1 + 41 * i.toNatClampNeg)
    have h1 := ev_child h0 (1 + 41 * i.toNatClampNeg, (2, 0)) (by
      generalize i.toNatClampNeg = z at hi2
      have : z = 0 ∨ z = 1 ∨ z = 2 ∨ z = 3 ∨ z = 4 ∨ z = 5 ∨ z = 6 ∨ z = 7 := by omega
      rcases this with rfl | rfl | rfl | rfl | rfl | rfl | rfl | rfl <;> decide)
    rw [show a + 1 + 41 * i.toNatClampNeg = a + (1 + 41 * i.toNatClampNeg) by omega]
    exact h1
  exact ev_aaload h hi hok kk l p e R s m args below meth c H locs cells slots mc ms Λ ls X hL hz hK
/-- more exceptions may be made than are needed -/
theorem ev_E.more {B' : Nat} (hB : B ≤ B') (h : ev_E g μ d B pc L K S Q) : ev_E g μ d B' pc L K S Q := by
  intro l p e R s m args below meth c H locs cells slots mc ms Λ ls X
  exact h l p e R s m args below meth c H locs cells slots mc ms Λ ls ⟨X.1, X.2.1, ⟨by have := X.rm; omega, by have := X.rm; omega, by have := X.rm; omega, by have := X.rm; omega, by have := X.rm; omega, by have := X.rm; omega, X.sx, X.lw, X.nm⟩, X.2.2.2⟩
/-- more calls may stand above than do -/
theorem ev_E.deep {d' : Nat} (hd : d ≤ d') (h : ev_E g μ d B pc L K S Q) : ev_E g μ d' B pc L K S Q := by
  intro l p e R s m args below meth c H locs cells slots mc ms Λ ls X
  exact h l p e R s m args below meth c H locs cells slots mc ms Λ ls ⟨X.1, X.2.1, ⟨by have := X.rm; omega, by have := X.rm; omega, by have := X.rm; omega, by have := X.rm; omega, by have := X.rm; omega, by have := X.rm; omega, X.sx, X.lw, X.nm⟩, X.2.2.2⟩
end EvMore
