/-! ===== a script: the reference does a command ===== -/
def o_any (r : Nat → Int32) : Prop := ∃ n lim np L d ρ, IG r n lim np L d ρ ∧ L ≤ 80 ∧ d < 10000 ∧ i_ok r n np L
theorem q_any_o {M : Nat → Nat → Int32} {e : Nat} {r : Nat → Int32} (h : q_any M e r) : o_any r := by
  obtain ⟨n, lim, np, L, d, ρ, h1, h2, h3, h4, h5⟩ := h
  exact ⟨n, lim, np, L, d, ρ, h1, h2, h3, h5⟩
def m_dz (S z : ev_S) (a : Nat) : Prop := z.2 = S.2 ∧ (∀ q, q ≠ a → q ≠ a + 1 → z.1 q = S.1 q) ∧ ∀ j, j ≠ 7 → j ≠ 22 → j ≠ 24 → j ≠ 25 → z.1 a j = S.1 a j
theorem m_dz_refl (S : ev_S) (a : Nat) : m_dz S S a := ⟨rfl, fun _ _ _ => rfl, fun _ _ _ _ _ => rfl⟩
theorem m_dz_tr {S z y : ev_S} {a : Nat} (h : m_dz S z a) (h2 : m_dz z y a) : m_dz S y a := ⟨h2.1.trans h.1, fun q h0 h1 => (h2.2.1 q h0 h1).trans (h.2.1 q h0 h1), fun j a1 a2 a3 a4 => (h2.2.2 j a1 a2 a3 a4).trans (h.2.2 j a1 a2 a3 a4)⟩
theorem m_dz_7 {S z : ev_S} {a : Nat} {v : Int32} (h : m_dz S z a) : m_dz S (ev_up z a 7 v) a := ⟨h.1, fun q h0 h1 => by rw [m_r h0]; exact h.2.1 q h0 h1, fun j a1 a2 a3 a4 => by rw [m_k a1]; exact h.2.2 j a1 a2 a3 a4⟩
theorem m_dz_22 {S z : ev_S} {a : Nat} {v : Int32} (h : m_dz S z a) : m_dz S (ev_up z a 22 v) a := ⟨h.1, fun q h0 h1 => by rw [m_r h0]; exact h.2.1 q h0 h1, fun j a1 a2 a3 a4 => by rw [m_k a2]; exact h.2.2 j a1 a2 a3 a4⟩
theorem m_dz_alk {S z y : ev_S} {a : Nat} (h : m_dz S z a) (h2 : m_alk z y a) : m_dz S y a := ⟨h2.1.trans h.1, fun q h0 h1 => (h2.2.1 q h0).trans (h.2.1 q h0 h1), fun j a1 a2 a3 a4 => (h2.2.2 j a3 a4).trans (h.2.2 j a1 a2 a3 a4)⟩
theorem m_dz_ur {S z : ev_S} {a : Nat} {r : Nat → Int32} (h : m_dz S z a) : m_dz S (ev_ur z (a + 1) r) a := ⟨h.1, fun q h0 h1 => by rw [r_r h1]; exact h.2.1 q h0 h1, fun j a1 a2 a3 a4 => by rw [r_r (by omega)]; exact h.2.2 j a1 a2 a3 a4⟩
theorem IG_days {n lim np L : Nat} : ∀ (k d : Nat) (r : Nat → Int32) (ρ : List Nat), d + k < 1000000 → IG r n lim np L d ρ → ∃ ρ', IG (o_days n np L k d r) n lim np L (d + k) ρ' := by
  intro k
  induction k with
  | zero => intro d r ρ _ h; rw [o_days]; exact ⟨ρ, h⟩
  | succ k ih =>
    intro d r ρ hd hi
    obtain ⟨⟨ρ', h1⟩, -⟩ := IG_day (by omega) hi
    rw [o_days, show d + (k + 1) = d + 1 + k by omega]
    exact ih (d + 1) _ ρ' (by omega) h1
theorem c_does {g : ev_G} {S : ev_S} {a i u : Nat} {c : A0} (hi : o_any (S.1 (a + 1))) (hu : u ≤ 8) (h6 : S.1 a 6 = Int32.ofNat u) (h8 : S.1 a 8 = -1) (h23 : ¬ S.1 a 23 = 0) (hc : r_cmd (S.1 (a + 8)) (S.1 (a + 9)) i c) (hi30 : i < 30) (hok : a0_ok c) {Q : ev_O → ev_S → Prop}
    (q1 : ∀ r', o_do c (S.1 (a + 1)) = some r' → o_any r' → ∀ z v, m_dz S z a → z.1 a 22 = S.1 a 22 → z.1 (a + 1) = r' → z.1 a 7 = 0 → Q (.inl (some (ev_i v))) z)
    (q2 : o_do c (S.1 (a + 1)) = none → ∀ z, m_dz S z a → z.1 a 22 = S.1 a 22 → z.1 (a + 1) = S.1 (a + 1) → ¬ z.1 a 7 = 0 → Q (.inl (some (ev_i 0))) z) :
    ev_Cv g m_X10_does 10 0 [ev_o 10 a, ev_i (Int32.ofNat i)] S Q := by
  obtain ⟨n, lim, np, L, d, ρ, hI, hL, hd, hk⟩ := hi
  obtain ⟨on, onp, oL, od⟩ := IG_o hI
  obtain ⟨k, args⟩ := c
  obtain ⟨hC, hk5, hl6, hA⟩ := hc
  have hC' : S.1 (a + 8) i = Int32.ofNat k := hC
  have hlen := hok.2.1
  have hnp := hI.1.2.2.2.1
  have hn9 := sq_le hI.1.1.2.1
  have ar : ∀ w, w < args.length → vp_in ((6 : Int32) * Int32.ofNat i + Int32.ofNat w) 180 ∧ S.1 (a + 9) ((6 : Int32) * Int32.ofNat i + Int32.ofNat w).toNatClampNeg = a_x (k, args) w := by
    intro w hw
    have hl6' : args.length ≤ 6 := hl6
    rw [kn_ix, n_c (by omega)]
    refine ⟨(n_vp (by omega) (by omega)).mpr trivial, hA w _ ?_⟩
    unfold a_x
    rw [List.getD_eq_getElem?_getD, List.getElem?_eq_getElem hw]
    rfl
  have inj : ∀ u v : Nat, u < 1000 → v < 1000 → Int32.ofNat u = Int32.ofNat v → u = v := fun u v h1 h2 h => by rw [n_eq (by omega) (by omega)] at h; exact h
  refine sg_X10_does_0 a _ (fun S1 e1 => ?_)
  rw [n_c (by omega), hC']
  refine ⟨(n_vp (by omega) (by omega)).mpr trivial, ?_⟩
  have f0 : m_dz S S1 a := by rw [e1]; exact m_dz_7 (m_dz_refl S a)
  have f1 : S1.1 (a + 1) = S.1 (a + 1) := by rw [e1, m_r (by omega)]
  have f7 : S1.1 a 7 = 0 := by rw [e1, m_s]
  have f6 : S1.1 a 6 = Int32.ofNat u := by rw [e1, m_k (by omega)]; exact h6
  have f8 : S1.1 a 8 = -1 := by rw [e1, m_k (by omega)]; exact h8
  have f22 : S1.1 a 22 = S.1 a 22 := by rw [e1, m_k (by omega)]
  have f23 : ¬ S1.1 a 23 = 0 := by rw [e1, m_k (by omega)]; exact h23
  have hI1 : IG (S1.1 (a + 1)) n lim np L d ρ := by rw [f1]; exact hI
  have qn : o_do (k, args) (S.1 (a + 1)) = none → ∀ z, m_dz S z a → z.1 a 22 = S.1 a 22 → z.1 (a + 1) = S.1 (a + 1) → ∀ v : Int32, ¬ v = 0 → Q (.inl (some (ev_i 0))) (ev_up z a 7 v) :=
    fun h z hz hz2 hz1 v hv => q2 h _ (m_dz_7 hz) (by rw [m_k (by omega)]; exact hz2) (by rw [m_r (by omega)]; exact hz1) (by rw [m_s]; exact hv)
  have qs : ∀ r', o_do (k, args) (S.1 (a + 1)) = some r' → o_any r' → ∀ z, m_dz S z a → z.1 a 22 = S.1 a 22 → z.1 a 7 = 0 → ¬ z.1 a 23 = 0 → ∀ v, Q (.inl (some (ev_i v))) (ev_ur (o_chg z a u) (a + 1) r') := by
    intro r' h h' z hz hz2 hz7 hz23 v
    have e : o_chg z a u = z := by unfold o_chg; rw [if_neg hz23]
    rw [e]
    exact q1 r' h h' _ v (m_dz_ur hz) (by rw [r_r (by omega)]; exact hz2) (r_s _ _ _) (by rw [r_r (by omega)]; exact hz7)
  have hk' : k = 0 ∨ k = 1 ∨ k = 2 ∨ k = 3 ∨ k = 4 ∨ k = 5 := by have : k ≤ 5 := hk5; omega
  unfold o_do at qs qn
  rw [on, onp, oL] at qs qn
  clear q1 q2
  generalize hr : S.1 (a + 1) = r at *
  rcases hk' with rfl | rfl | rfl | rfl | rfl | rfl
  · have hlen4 : args.length = 4 := hlen
    obtain ⟨x0, -, y0⟩ := a0_at (w := 0) (lo := 0) (hi := 1) hok rfl (by omega) (by omega)
    obtain ⟨x1, -, y1⟩ := a0_at (w := 1) (lo := 0) (hi := 63) hok rfl (by omega) (by omega)
    obtain ⟨x2, -, y2⟩ := a0_at (w := 2) (lo := 0) (hi := 63) hok rfl (by omega) (by omega)
    obtain ⟨x3, -, y3⟩ := a0_at (w := 3) (lo := 0) (hi := 3) hok rfl (by omega) (by omega)
    have a0 := ar 0 (by omega)
    have a1 := ar 1 (by omega)
    have a2 := ar 2 (by omega)
    have a3 := ar 3 (by omega)
    rw [x0] at a0
    rw [x1] at a1
    rw [x2] at a2
    rw [x3] at a3
    refine j_pos rfl ⟨a0.1, a1.1, a2.1, a3.1, ?_⟩
    rw [show S.1 (a + 9) ((6 : Int32) * Int32.ofNat i + 0).toNatClampNeg = _ from a0.2, show S.1 (a + 9) ((6 : Int32) * Int32.ofNat i + 1).toNatClampNeg = _ from a1.2, show S.1 (a + 9) ((6 : Int32) * Int32.ofNat i + 2).toNatClampNeg = _ from a2.2, show S.1 (a + 9) ((6 : Int32) * Int32.ofNat i + 3).toNatClampNeg = _ from a3.2]
    generalize a_y (0, args) 0 = p at *
    generalize a_y (0, args) 1 = f at *
    generalize a_y (0, args) 2 = t at *
    generalize a_y (0, args) 3 = q at *
    dsimp only at qs qn
    refine c_moving a n lim np L d u _ _ _ _ f7 hu f6 hI1 hL hk.1 (fun h => ⟨_, rfl, qn (o_if_f ?_) S1 f0 f22 f1 _ (by decide)⟩) (fun p' f' t' q' h0 h0' h1 h1' h2 h2' h3 h3' h => ⟨_, rfl, qn (o_if_f ?_) S1 f0 f22 f1 _ (by decide)⟩) (fun p' f' t' q' h0 h0' h1 h1' h2 h2' h3 h3' h h' => ⟨_, rfl, qn (o_if_f ?_) S1 f0 f22 f1 _ (by decide)⟩) (fun p' f' t' q' h0 h0' h1 h1' h2 h2' h3 h3' h h' => ⟨_, rfl, ?_⟩)
    · intro hh
      exact h ⟨⟨p, rfl, by omega⟩, ⟨f, rfl, hh.1⟩, ⟨t, rfl, hh.2.1⟩, ⟨q, rfl, hh.2.2.1⟩⟩
    · rw [f1] at h
      have e0 := inj _ _ (by omega) (by omega) h0
      subst e0
      exact fun hh => h hh.2.2.2.1
    · rw [f1] at h'
      have e0 := inj _ _ (by omega) (by omega) h0
      have e1 := inj _ _ (by omega) (by omega) h1
      have e2 := inj _ _ (by omega) (by omega) h2
      subst e0 e1 e2
      exact fun hh => h' hh.2.2.2.2
    · rw [f1] at h h' ⊢
      have e0 := inj _ _ (by omega) (by omega) h0
      have e1 := inj _ _ (by omega) (by omega) h1
      have e2 := inj _ _ (by omega) (by omega) h2
      have e3 := inj _ _ (by omega) (by omega) h3
      subst e0 e1 e2 e3
      obtain ⟨hm, hml, h60⟩ := n_mad (i_dk_of hI.1 h0')
      obtain ⟨ho, hmk⟩ := o_turn_t h.1
      have hlt := o_turn_lt h0' (i_dk_of hI.1 h0') hm hml ho
      have hft := (o_moves_f h').2
      exact qs _ (o_if_t ⟨h1', h2', h3', h, h'⟩) ⟨n, lim, np, L + 1, d, ρ, IG_move h0' hm hlt h1' h2' hft h3' h.2 hI, by omega, hd, i_ok_move h0' hm hlt h1' h2' hft h3' h.2 hI hk⟩ S1 f0 f22 f7 f23 _
  · have hlen4 : args.length = 6 := hlen
    obtain ⟨x0, -, y0⟩ := a0_at (w := 0) (lo := 0) (hi := 1) hok rfl (by omega) (by omega)
    obtain ⟨x1, -, y1⟩ := a0_at (w := 1) (lo := 0) (hi := 3) hok rfl (by omega) (by omega)
    obtain ⟨x2, -, y2⟩ := a0_at (w := 2) (lo := 0) (hi := 63) hok rfl (by omega) (by omega)
    obtain ⟨x3, -, y3⟩ := a0_at (w := 3) (lo := 0) (hi := 63) hok rfl (by omega) (by omega)
    obtain ⟨x4, -, y4⟩ := a0_at (w := 4) (lo := 0) (hi := 63) hok rfl (by omega) (by omega)
    obtain ⟨x5, -, y5⟩ := a0_at (w := 5) (lo := 0) (hi := 63) hok rfl (by omega) (by omega)
    have a0 := ar 0 (by omega)
    have a1 := ar 1 (by omega)
    have a2 := ar 2 (by omega)
    have a3 := ar 3 (by omega)
    have a4 := ar 4 (by omega)
    have a5 := ar 5 (by omega)
    rw [x0] at a0
    rw [x1] at a1
    rw [x2] at a2
    rw [x3] at a3
    rw [x4] at a4
    rw [x5] at a5
    refine j_neg (by decide) (j_pos rfl ⟨a0.1, a1.1, a2.1, a3.1, a4.1, a5.1, ?_⟩)
    rw [show S.1 (a + 9) ((6 : Int32) * Int32.ofNat i + 0).toNatClampNeg = _ from a0.2, show S.1 (a + 9) ((6 : Int32) * Int32.ofNat i + 1).toNatClampNeg = _ from a1.2, show S.1 (a + 9) ((6 : Int32) * Int32.ofNat i + 2).toNatClampNeg = _ from a2.2, show S.1 (a + 9) ((6 : Int32) * Int32.ofNat i + 3).toNatClampNeg = _ from a3.2, show S.1 (a + 9) ((6 : Int32) * Int32.ofNat i + 4).toNatClampNeg = _ from a4.2, show S.1 (a + 9) ((6 : Int32) * Int32.ofNat i + 5).toNatClampNeg = _ from a5.2]
    generalize a_y (1, args) 0 = p at *
    generalize a_y (1, args) 1 = q at *
    generalize a_y (1, args) 2 = f at *
    generalize a_y (1, args) 3 = t at *
    generalize a_y (1, args) 4 = rf at *
    generalize a_y (1, args) 5 = rt at *
    dsimp only at qs qn
    refine c_promising a n lim np L d u _ _ _ _ _ _ f7 hu f6 hI1 hL hk.1 (fun h => ⟨_, rfl, qn (o_if_f ?_) S1 f0 f22 f1 _ (by decide)⟩) (fun p' q' f' t' rf' rt' h0 h => ⟨_, rfl, qn (o_if_f ?_) S1 f0 f22 f1 _ (by decide)⟩) (fun p' q' f' t' rf' rt' h0 h h' z zz => ⟨_, rfl, qn (o_if_f ?_) z (m_dz_alk f0 zz) (by rw [zz.2.2 _ (by omega) (by omega)]; exact f22) (by rw [zz.2.1 _ (by omega)]; exact f1) _ (by decide)⟩) (fun p' q' f' t' rf' rt' h0 h h' z zz => ⟨_, rfl, ?_⟩)
    · intro hh
      exact h ⟨p, q, f, t, rf, rt, ⟨rfl, by omega⟩, ⟨rfl, hh.1⟩, ⟨rfl, hh.2.1⟩, ⟨rfl, hh.2.2.1⟩, ⟨rfl, hh.2.2.2.1⟩, ⟨rfl, hh.2.2.2.2.1⟩⟩
    · rw [f1] at h
      obtain ⟨⟨k0, l0⟩, ⟨k1, l1⟩, ⟨k2, l2⟩, ⟨k3, l3⟩, ⟨k4, l4⟩, ⟨k5, l5⟩⟩ := h0
      have e0 := inj _ _ (by omega) (by omega) k0
      subst e0
      exact fun hh => h hh.2.2.2.2.2.1
    · rw [f1] at h'
      obtain ⟨⟨k0, l0⟩, ⟨k1, l1⟩, ⟨k2, l2⟩, ⟨k3, l3⟩, ⟨k4, l4⟩, ⟨k5, l5⟩⟩ := h0
      have e0 := inj _ _ (by omega) (by omega) k0
      have e2 := inj _ _ (by omega) (by omega) k2
      have e3 := inj _ _ (by omega) (by omega) k3
      have e4 := inj _ _ (by omega) (by omega) k4
      have e5 := inj _ _ (by omega) (by omega) k5
      subst e0 e2 e3 e4 e5
      exact fun hh => h' hh.2.2.2.2.2.2
    · rw [f1] at h h' ⊢
      obtain ⟨⟨k0, l0⟩, ⟨k1, l1⟩, ⟨k2, l2⟩, ⟨k3, l3⟩, ⟨k4, l4⟩, ⟨k5, l5⟩⟩ := h0
      have e0 := inj _ _ (by omega) (by omega) k0
      have e1 := inj _ _ (by omega) (by omega) k1
      have e2 := inj _ _ (by omega) (by omega) k2
      have e3 := inj _ _ (by omega) (by omega) k3
      have e4 := inj _ _ (by omega) (by omega) k4
      have e5 := inj _ _ (by omega) (by omega) k5
      subst e0 e1 e2 e3 e4 e5
      obtain ⟨hm, hml, h60⟩ := n_mad (i_dk_of hI.1 l0)
      obtain ⟨hlt, hk1, hk2⟩ := o_mayp_k l0 hI hm hml h
      obtain ⟨m1, m2, m3⟩ := o_ams_k (i_dk_of hI.1 l0) hlt h'
      exact qs _ (o_if_t ⟨l1, l2, l3, l4, l5, h, h'⟩) ⟨n, lim, np, L + 1, d, ρ, IG_prom l0 l1 l2 l3 l4 l5 hI hm hml h h', by have := h.2.2.2; omega, hd, i_ok_prom (by omega) hk⟩ z (m_dz_alk f0 zz) (by rw [zz.2.2 _ (by omega) (by omega)]; exact f22) (by rw [zz.2.2 _ (by omega) (by omega)]; exact f7) (by rw [zz.2.2 _ (by omega) (by omega)]; exact f23) _
  · have hlen4 : args.length = 2 := hlen
    obtain ⟨x0, -, y0⟩ := a0_at (w := 0) (lo := 0) (hi := 79) hok rfl (by omega) (by omega)
    obtain ⟨x1, -, y1⟩ := a0_at (w := 1) (lo := 0) (hi := 3) hok rfl (by omega) (by omega)
    have a0 := ar 0 (by omega)
    have a1 := ar 1 (by omega)
    rw [x0] at a0
    rw [x1] at a1
    refine j_neg (by decide) (j_neg (by decide) (j_pos rfl ⟨a0.1, a1.1, ?_⟩))
    rw [show S.1 (a + 9) ((6 : Int32) * Int32.ofNat i + 0).toNatClampNeg = _ from a0.2, show S.1 (a + 9) ((6 : Int32) * Int32.ofNat i + 1).toNatClampNeg = _ from a1.2]
    generalize a_y (2, args) 0 = l at *
    generalize a_y (2, args) 1 = q at *
    dsimp only at qs qn
    refine c_resending a n lim np L d u _ _ f7 hu f6 hI1 hL (fun h => ⟨_, rfl, qn (o_if_f ?_) S1 f0 f22 f1 _ (by decide)⟩) (fun l' q' h0 h0' h1 h1' h => ⟨_, rfl, qn (o_if_f ?_) S1 f0 f22 f1 _ (by decide)⟩) (fun l' q' h0 h0' h1 h1' h => ⟨_, rfl, ?_⟩)
    · exact fun hh => h ⟨⟨l, rfl, hh.1⟩, ⟨q, rfl, hh.2.1⟩⟩
    · exact fun hh => h hh.2.2
    · rw [f1]
      have e0 := inj _ _ (by omega) (by omega) h0
      have e1 := inj _ _ (by omega) (by omega) h1
      subst e0 e1
      exact qs _ (o_if_t ⟨h0', h1', h⟩) ⟨n, lim, np, L + 1, d, ρ, IG_res hI h h0' h1', by omega, hd, i_ok_post hk⟩ S1 f0 f22 f7 f23 _
  · have hlen4 : args.length = 1 := hlen
    obtain ⟨x0, y0', y0⟩ := a0_at (w := 0) (lo := 1) (hi := 60) hok rfl (by omega) (by omega)
    have a0 := ar 0 (by omega)
    rw [x0] at a0
    refine j_neg (by decide) (j_neg (by decide) (j_neg (by decide) (j_pos rfl ⟨a0.1, ?_⟩)))
    rw [show S.1 (a + 9) ((6 : Int32) * Int32.ofNat i + 0).toNatClampNeg = _ from a0.2]
    generalize a_y (3, args) 0 = D at *
    rw [od] at qs qn
    dsimp only at qs qn
    have e1' : (1 : Int32) = Int32.ofNat 1 := rfl
    have e60 : (60 : Int32) = Int32.ofNat 60 := rfl
    refine c_advancing a n lim np L d u _ f7 f8 hu f6 hI1 hd (fun h => ⟨_, rfl, ?_⟩) (fun D' h0 h1 h2 h => ⟨_, rfl, qn (o_if_f ?_) S1 f0 f22 f1 _ (by decide)⟩) (fun D' h0 h1 h2 h => ⟨_, rfl, ?_⟩)
    · exact absurd ⟨by rw [e1', n_le (by omega) (by omega)]; omega, by rw [e60, n_le (by omega) (by omega)]; omega⟩ h
    · have e0 := inj _ _ (by omega) (by omega) h0
      omega
    · rw [f1]
      have e0 := inj _ _ (by omega) (by omega) h0
      subst e0
      obtain ⟨ρ', hI'⟩ := IG_days D d r ρ (by omega) hI
      exact qs _ (o_if_t h) ⟨n, lim, np, L, d + D, ρ', hI', hL, by omega, i_ok_days D d r ρ (by omega) hI hk⟩ S1 f0 f22 f7 f23 _
  · have hlen4 : args.length = 2 := hlen
    obtain ⟨x0, -, y0⟩ := a0_at (w := 0) (lo := 0) (hi := 3) hok rfl (by omega) (by omega)
    obtain ⟨x1, -, y1⟩ := a0_at (w := 1) (lo := 0) (hi := 1) hok rfl (by omega) (by omega)
    have a0 := ar 0 (by omega)
    have a1 := ar 1 (by omega)
    rw [x0] at a0
    rw [x1] at a1
    refine j_neg (by decide) (j_neg (by decide) (j_neg (by decide) (j_neg (by decide) (j_pos rfl ⟨a0.1, a1.1, ?_⟩))))
    rw [show S.1 (a + 9) ((6 : Int32) * Int32.ofNat i + 0).toNatClampNeg = _ from a0.2, show S.1 (a + 9) ((6 : Int32) * Int32.ofNat i + 1).toNatClampNeg = _ from a1.2]
    generalize a_y (4, args) 0 = q at *
    generalize a_y (4, args) 1 = s at *
    dsimp only at qs qn
    refine c_muling a n lim np L d u _ _ f7 hu f6 hI1 (fun h => ⟨_, rfl, qn (o_if_f ?_) S1 f0 f22 f1 _ (by decide)⟩) (fun q' s' h0 h0' h1 h1' h => ⟨_, rfl, qn (o_if_f ?_) S1 f0 f22 f1 _ (by decide)⟩) (fun q' s' h0 h0' h1 h1' h => ⟨_, rfl, ?_⟩)
    · exact fun hh => h ⟨⟨q, rfl, hh.1⟩, ⟨s, rfl, by omega⟩⟩
    · rw [f1] at h
      have e0 := inj _ _ (by omega) (by omega) h0
      have e1 := inj _ _ (by omega) (by omega) h1
      subst e0 e1
      exact fun hh => hh.2 h
    · rw [f1] at h
      rw [f1]
      have e0 := inj _ _ (by omega) (by omega) h0
      have e1 := inj _ _ (by omega) (by omega) h1
      subst e0 e1
      exact qs _ (o_if_t ⟨h0', h⟩) ⟨n, lim, np, L, d, ρ, IG_mule h0' h1' hI, hL, hd, i_ok_mule hnp h0' h1' hk⟩ S1 f0 f22 f7 f23 _
  · have hlen4 : args.length = 3 := hlen
    obtain ⟨x0, -, y0⟩ := a0_at (w := 0) (lo := 0) (hi := 3) hok rfl (by omega) (by omega)
    obtain ⟨x1, -, y1⟩ := a0_at (w := 1) (lo := 0) (hi := 11) hok rfl (by omega) (by omega)
    have hv : 0 ≤ a_x (5, args) 2 ∧ a_x (5, args) 2 ≤ 9 := hok.2.2 2 _ rfl
    have a0 := ar 0 (by omega)
    have a1 := ar 1 (by omega)
    have a2 := ar 2 (by omega)
    rw [x0] at a0
    rw [x1] at a1
    refine j_neg (by decide) (j_neg (by decide) (j_neg (by decide) (j_neg (by decide) (j_neg (by decide) ⟨a0.1, a1.1, a2.1, ?_⟩))))
    rw [show S.1 (a + 9) ((6 : Int32) * Int32.ofNat i + 0).toNatClampNeg = _ from a0.2, show S.1 (a + 9) ((6 : Int32) * Int32.ofNat i + 1).toNatClampNeg = _ from a1.2, show S.1 (a + 9) ((6 : Int32) * Int32.ofNat i + 2).toNatClampNeg = _ from a2.2]
    generalize a_y (5, args) 0 = q at *
    generalize a_y (5, args) 1 = t at *
    generalize a_x (5, args) 2 = v at *
    dsimp only at qs qn
    refine c_snowing a n lim np L d u _ _ v f7 hu f6 hI1 (fun h => ⟨_, rfl, qn (o_if_f ?_) S1 f0 f22 f1 _ (by decide)⟩) (fun q' t' h0 h0' h1 h1' h => absurd hv h) (fun q' t' h0 h0' h1 h1' h => ⟨_, rfl, ?_⟩)
    · exact fun hh => h ⟨⟨q, rfl, hh⟩, ⟨t, rfl, by omega⟩⟩
    · rw [f1]
      have e0 := inj _ _ (by omega) (by omega) h0
      have e1 := inj _ _ (by omega) (by omega) h1
      subst e0 e1
      exact qs _ (o_if_t h0') ⟨n, lim, np, L, d, ρ, IG_snow h0' h1' hv hI, hL, hd, i_ok_snow hnp h0' h1' hk⟩ S1 f0 f22 f7 f23 _
