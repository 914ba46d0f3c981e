/-! ===== a script: what a command does ===== -/
noncomputable def o_if {α : Type} (P : Prop) (v : α) : Option α := @ite _ P (Classical.propDecidable P) (some v) none
theorem o_if_t {α : Type} {P : Prop} {v : α} (h : P) : o_if P v = some v := by
  unfold o_if
  rw [if_pos h]
theorem o_if_f {α : Type} {P : Prop} {v : α} (h : ¬ P) : o_if P v = none := by
  unfold o_if
  rw [if_neg h]
def o_n (r : Nat → Int32) : Nat := (r 0).toNatClampNeg
def o_L (r : Nat → Int32) : Nat := (r 4).toNatClampNeg
def o_d (r : Nat → Int32) : Nat := (r 2).toNatClampNeg
def a_x (c : A0) (w : Nat) : Int32 := c.2.getD w 0
def a_y (c : A0) (w : Nat) : Nat := (a_x c w).toNatClampNeg
noncomputable def o_do (c : A0) (r : Nat → Int32) : Option (Nat → Int32) := match c.1 with
  | 0 => o_if (a_y c 1 < o_n r * o_n r ∧ a_y c 2 < o_n r * o_n r ∧ a_y c 3 < o_np r ∧ (o_turn r (a_y c 0) (o_n r) (o_mad r (a_y c 0)) = true ∧ o_L r < 80) ∧ o_moves r (a_y c 0) (o_n r) (Int32.ofNat (a_y c 0)) (a_y c 1) (a_y c 2) = true) (o_move r (o_n r) (a_y c 0) (o_mad r (a_y c 0)) (a_y c 1) (a_y c 2) (a_y c 3) (o_L r))
  | 1 => o_if (a_y c 1 < o_np r ∧ a_y c 2 < o_n r * o_n r ∧ a_y c 3 < o_n r * o_n r ∧ a_y c 4 < o_n r * o_n r ∧ a_y c 5 < o_n r * o_n r ∧ o_mayp r (a_y c 0) (o_n r) (o_mad r (a_y c 0)) (o_L r) ∧ o_ams r (a_y c 0) (o_n r) (o_mad r (a_y c 0)) (a_y c 2) (a_y c 3) (a_y c 4) (a_y c 5) = true) (o_prom r (a_y c 0) (a_y c 1) (o_mad r (a_y c 0) + 2) (a_y c 2) (a_y c 3) (a_y c 4) (a_y c 5) (o_L r))
  | 2 => o_if (a_y c 0 < o_L r ∧ a_y c 1 < o_np r ∧ o_L r < 80) (o_res r (a_y c 0) (a_y c 1) (o_L r))
  | 3 => o_if (o_d r + a_y c 0 ≤ 9999) (o_days (o_n r) (o_np r) (o_L r) (a_y c 0) (o_d r) r)
  | 4 => o_if (a_y c 0 < o_np r ∧ ¬ 9 ≤ r (1140 + 15 * a_y c 0 + (1 + a_y c 1))) (o_mule r (a_y c 0) (a_y c 1))
  | _ => o_if (a_y c 0 < o_np r) (o_snow r (a_y c 0) (a_y c 1) (a_x c 2))
theorem IG_o {r : Nat → Int32} {n lim np L d : Nat} {ρ : List Nat} (h : IG r n lim np L d ρ) : o_n r = n ∧ o_np r = np ∧ o_L r = L ∧ o_d r = d := by
  have h8 := h.1.1.2.1
  have h4 := h.1.2.2.2.1
  have h81 := h.1.2.2.2.2.2.1
  have hd := h.1.2.2.2.2.2.2.2.1
  unfold o_n o_np o_L o_d
  rw [h.1.1.1, h.1.2.2.1, h.1.2.2.2.2.1, h.1.2.2.2.2.2.2.1, n_c (by omega), n_c (by omega), n_c (by omega), n_c (by omega)]
  exact ⟨rfl, rfl, rfl, rfl⟩
def a0_ok (c : A0) : Prop := c.1 ≤ 5 ∧ c.2.length = (p_rg c.1).length ∧ ∀ w q, (p_rg c.1)[w]? = some q → q.1 ≤ a_x c w ∧ a_x c w ≤ q.2
theorem a0_at {c : A0} {w : Nat} {lo hi : Nat} (h : a0_ok c) (hq : (p_rg c.1)[w]? = some (Int32.ofNat lo, Int32.ofNat hi)) (hh : hi < 1000) (hl : lo < 1000) : a_x c w = Int32.ofNat (a_y c w) ∧ lo ≤ a_y c w ∧ a_y c w ≤ hi := by
  obtain ⟨h1, h2⟩ := h.2.2 w _ hq
  rw [z_le, n_i (by omega)] at h1 h2
  obtain ⟨n, e1, e2, e3⟩ := n_ofi (x := a_x c w) (k := hi) (by omega) h2
  have : a_y c w = n := by unfold a_y; rw [e1, n_c e3]
  rw [this]
  rw [e1, n_i e3] at h1
  exact ⟨e1, by omega, by omega⟩
/-! the class: what is at fault -/
theorem ft_copy {S : ev_S} {e n lim np L d : Nat} {x y : Int32} {r : Nat → Int32} {ρ : List Nat} (hi : IG r n lim np L d ρ) (hg : q_gm S.1 e r n L ρ) : f_X2_copyFault S e x y = 0 ↔ ((∃ l, x = Int32.ofNat l ∧ l < L) ∧ ∃ q, y = Int32.ofNat q ∧ q < np) ∧ L < 80 := by
  have hnp := hi.1.2.2.2.1
  have hL := hi.1.2.2.2.2.2.1
  have e80 : (80 : Int32) = Int32.ofNat 80 := rfl
  obtain ⟨-, e3, e13⟩ := q_gm_sz hi hg
  have hlt : S.1 (e + 19) 13 < 80 ↔ L < 80 := by rw [e13, e80, n_lt (by omega) (by omega)]
  unfold f_X2_copyFault
  by_cases hx : t_X6_exists S (e + 19) x = true
  · rw [if_pos hx]
    by_cases hy : t_X5_exists S (e + 20) y = true
    · rw [if_pos hy]
      by_cases h9 : S.1 (e + 19) 13 < 80
      · rw [if_pos h9]
        exact ⟨fun _ => ⟨⟨(t_le e13 (by omega)).mp hx, (t_ex e3 (by omega)).mp hy⟩, hlt.mp h9⟩, fun _ => rfl⟩
      · rw [if_neg h9]
        exact ⟨fun h => absurd h (by decide), fun h => absurd (hlt.mpr h.2) h9⟩
    · rw [if_neg hy]
      exact ⟨fun h => absurd h (by decide), fun h => absurd ((t_ex e3 (by omega)).mpr h.1.2) hy⟩
  · rw [if_neg hx]
    exact ⟨fun h => absurd h (by decide), fun h => absurd ((t_le e13 (by omega)).mpr h.1.1) hx⟩
theorem ft_days {S : ev_S} {e n lim np L d D : Nat} {r : Nat → Int32} {ρ : List Nat} (hi : IG r n lim np L d ρ) (hg : q_gm S.1 e r n L ρ) (hd : d < 10000) (h1 : 1 ≤ D) (h2 : D ≤ 60) : f_X2_daysFault S e (Int32.ofNat D) = 0 ↔ d + D ≤ 9999 := by
  have e4 : S.1 e 4 = Int32.ofNat d := by rw [hg.2.2.2.1, hi.1.2.2.2.2.2.2.1]
  have e99 : (9999 : Int32) = Int32.ofNat 9999 := rfl
  have e1 : (1 : Int32) = Int32.ofNat 1 := rfl
  have e60 : (60 : Int32) = Int32.ofNat 60 := rfl
  unfold f_X2_daysFault
  rw [if_neg (by rw [e1, n_lt (by omega) (by omega)]; omega), if_pos (by rw [e60, n_le (by omega) (by omega)]; omega), e4, n_add, e99]
  have hle : Int32.ofNat (d + D) ≤ Int32.ofNat 9999 ↔ d + D ≤ 9999 := by rw [n_le (by omega) (by omega)]
  by_cases h3 : d + D ≤ 9999
  · rw [if_pos (hle.mpr h3)]
    exact ⟨fun _ => h3, fun _ => rfl⟩
  · rw [if_neg (fun h => h3 (hle.mp h))]
    exact ⟨fun h => absurd h (by decide), fun h => absurd h h3⟩
theorem ft_mule {S : ev_S} {e n lim np L d q s : Nat} {r : Nat → Int32} {ρ : List Nat} (hi : IG r n lim np L d ρ) (hg : q_gm S.1 e r n L ρ) (hq : q < 4) (hs : s < 2) : f_X2_muleFault S e (Int32.ofNat q) (Int32.ofNat s) = 0 ↔ q < np ∧ ¬ 9 ≤ r (1140 + 15 * q + (1 + s)) := by
  have hnp := hi.1.2.2.2.1
  obtain ⟨-, e3, e13⟩ := q_gm_sz hi hg
  have est : S.1 (e + 23) (q * 2 + s) = r (1140 + 15 * q + (1 + s)) := (hg.2.1.1.2.1 q (by omega)).2.1 s hs
  unfold f_X2_muleFault
  by_cases hx : t_X5_exists S (e + 20) (Int32.ofNat q) = true
  · rw [if_pos hx, if_pos (t_pl.mpr ⟨s, rfl, hs⟩), n_ln2 hq hs, a_in (by omega) (by omega), est]
    have hx' : q < np := by
      obtain ⟨q', h1, h2⟩ := (t_ex e3 (by omega)).mp hx
      rw [n_eq (by omega) (by omega)] at h1
      omega
    by_cases h9 : r (1140 + 15 * q + (1 + s)) < 9
    · rw [if_pos h9]
      exact ⟨fun _ => ⟨hx', Int32.not_le.mpr h9⟩, fun _ => rfl⟩
    · rw [if_neg h9]
      exact ⟨fun h => absurd h (by decide), fun h => absurd (Int32.not_le.mp h.2) h9⟩
  · rw [if_neg hx]
    exact ⟨fun h => absurd h (by decide), fun h => absurd ((t_ex e3 (by omega)).mpr ⟨q, rfl, h.1⟩) hx⟩
theorem ft_snow {S : ev_S} {e n lim np L d q t : Nat} {v : Int32} {r : Nat → Int32} {ρ : List Nat} (hi : IG r n lim np L d ρ) (hg : q_gm S.1 e r n L ρ) (hq : q < 4) (ht : t < 12) (hv : 0 ≤ v ∧ v ≤ 9) : f_X2_snowFault S e (Int32.ofNat q) (Int32.ofNat t) v = 0 ↔ q < np := by
  have hnp := hi.1.2.2.2.1
  obtain ⟨-, e3, e13⟩ := q_gm_sz hi hg
  unfold f_X2_snowFault
  by_cases hx : t_X5_exists S (e + 20) (Int32.ofNat q) = true
  · rw [if_pos hx, if_pos (t_mo.mpr ⟨t, rfl, ht⟩), if_neg (Int32.not_lt.mpr hv.1), if_pos hv.2]
    have hx' : q < np := by
      obtain ⟨q', h1, h2⟩ := (t_ex e3 (by omega)).mp hx
      rw [n_eq (by omega) (by omega)] at h1
      omega
    exact ⟨fun _ => hx', fun _ => rfl⟩
  · rw [if_neg hx]
    exact ⟨fun h => absurd h (by decide), fun h => absurd ((t_ex e3 (by omega)).mpr ⟨q, rfl, h⟩) hx⟩
/-! the class does a command -/
def q_pf (S z : ev_S) (b : Nat) : Prop := z.2 = S.2 ∧ ∀ q, (q < b + 11 ∨ b + 52 ≤ q) → z.1 q = S.1 q
theorem x_perform {g : ev_G} {S : ev_S} {b i : Nat} {c : A0} {r : Nat → Int32} (hg : q_any S.1 (b + 11) r) (hc : q_cmd (S.1 (b + 4)) (S.1 (b + 5)) i c) (hi60 : i < 60) (hok : a0_ok c) {Q : ev_O → ev_S → Prop}
    (q1 : ∀ r', o_do c r = some r' → ∀ z, q_pf S z b → q_any z.1 (b + 11) r' → Q (.inl (some (ev_i 1))) z)
    (q2 : o_do c r = none → ∀ z, q_pf S z b → q_any z.1 (b + 11) r → Q (.inl (some (ev_i 0))) z) :
    ev_Cv g m_X9_perform 7 0 [ev_o 9 b, ev_i (Int32.ofNat i)] S Q := by
  obtain ⟨n, lim, np, L, d, ρ, hI, hL, hd, hgm, hk⟩ := id hg
  obtain ⟨on, onp, oL, od⟩ := IG_o hI
  obtain ⟨k, args⟩ := c
  obtain ⟨hC, hk5, hl6, hA⟩ := hc
  have hlen := hok.2.1
  have hself : q_pf S S b := ⟨rfl, fun _ _ => rfl⟩
  have ar : ∀ w, w < args.length → w < 6 → j_at (S.1 (b + 5)) 360 (Int32.ofNat i * 6 + Int32.ofNat w) = a_x (k, args) w := by
    intro w hw h6
    have e : Int32.ofNat i * 6 = Int32.ofNat (i * 6) := rm_6 i
    rw [e, n_add, a_in (by omega) (by omega)]
    refine hA w _ ?_
    unfold a_x
    rw [List.getD_eq_getElem?_getD, List.getElem?_eq_getElem hw]
    rfl
  have hn9 := sq_le hI.1.1.2.1
  refine sg_X9_perform_0 b _ ?_
  have hC' : S.1 (b + 4) i = Int32.ofNat (k + 1) := hC
  have hnp := hI.1.2.2.2.1
  rw [a_in (by omega) (by omega), hC']
  have hk' : k = 0 ∨ k = 1 ∨ k = 2 ∨ k = 3 ∨ k = 4 ∨ k = 5 := by have : k ≤ 5 := hk5; omega
  unfold o_do at q1 q2
  rw [on, onp, oL] at q1 q2
  rcases hk' with rfl | rfl | rfl | rfl | rfl | rfl
  · have hlen4 : args.length = 4 := hlen
    obtain ⟨x0, -, y0⟩ := a0_at (w := 0) (lo := 0) (hi := 1) hok rfl (by omega) (by omega)
    obtain ⟨x1, -, y1⟩ := a0_at (w := 1) (lo := 0) (hi := 63) hok rfl (by omega) (by omega)
    obtain ⟨x2, -, y2⟩ := a0_at (w := 2) (lo := 0) (hi := 63) hok rfl (by omega) (by omega)
    obtain ⟨x3, -, y3⟩ := a0_at (w := 3) (lo := 0) (hi := 3) hok rfl (by omega) (by omega)
    have a0 := ar 0 (by omega) (by omega)
    have a1 := ar 1 (by omega) (by omega)
    have a2 := ar 2 (by omega) (by omega)
    have a3 := ar 3 (by omega) (by omega)
    rw [x0] at a0
    rw [x1] at a1
    rw [x2] at a2
    rw [x3] at a3
    refine j_pos rfl ?_
    rw [show j_at (S.1 (b + 5)) 360 (Int32.ofNat i * 6 + 0) = _ from a0, show j_at (S.1 (b + 5)) 360 (Int32.ofNat i * 6 + 1) = _ from a1, show j_at (S.1 (b + 5)) 360 (Int32.ofNat i * 6 + 2) = _ from a2, show j_at (S.1 (b + 5)) 360 (Int32.ofNat i * 6 + 3) = _ from a3]
    generalize a_y (0, args) 0 = p at *
    generalize a_y (0, args) 1 = f at *
    generalize a_y (0, args) 2 = t at *
    generalize a_y (0, args) 3 = q at *
    dsimp only at q1 q2
    have inj : ∀ u v : Nat, u < 1000 → v < 1000 → Int32.ofNat u = Int32.ofNat v → u = v := fun u v h1 h2 h => by rw [n_eq (by omega) (by omega)] at h; exact h
    refine b_moveFault (e := b + 11) hI hL hk.1 hgm (fun h => ⟨_, rfl, j_neg (by decide) (q2 (o_if_f ?_) S hself hg)⟩) (fun p' f' t' q' h0 h0' h1 h1' h2 h2' h3 h3' h => ⟨_, rfl, j_neg (by decide) (q2 (o_if_f ?_) S hself hg)⟩) (fun p' f' t' q' h0 h0' h1 h1' h2 h2' h3 h3' h h' => ⟨_, rfl, j_neg (by decide) (q2 (o_if_f ?_) S hself hg)⟩) (fun p' f' t' q' h0 h0' h1 h1' h2 h2' h3 h3' h h' => ⟨_, rfl, j_pos rfl ?_⟩)
    · intro hh
      exact h ⟨⟨p, rfl, by omega⟩, ⟨f, rfl, hh.1⟩, ⟨t, rfl, hh.2.1⟩, ⟨q, rfl, hh.2.2.1⟩⟩
    · have e0 := inj _ _ (by omega) (by omega) h0
      subst e0
      exact fun hh => h hh.2.2.2.1
    · have e0 := inj _ _ (by omega) (by omega) h0
      have e1 := inj _ _ (by omega) (by omega) h1
      have e2 := inj _ _ (by omega) (by omega) h2
      subst e0 e1 e2
      exact fun hh => h' hh.2.2.2.2
    · have e0 := inj _ _ (by omega) (by omega) h0
      have e1 := inj _ _ (by omega) (by omega) h1
      have e2 := inj _ _ (by omega) (by omega) h2
      have e3 := inj _ _ (by omega) (by omega) h3
      subst e0 e1 e2 e3
      obtain ⟨hm, hml, h60⟩ := n_mad (i_dk_of hI.1 h0')
      obtain ⟨ho, hmk⟩ := o_turn_t h.1
      have hlt := o_turn_lt h0' (i_dk_of hI.1 h0') hm hml ho
      have hft := (o_moves_f h').2
      refine g_move (e := b + 11) h0' hm hlt h1' h2' hft h3' h.2 hmk hI hgm (fun w w1 w2 => ⟨_, rfl, ?_⟩)
      exact q1 _ (o_if_t ⟨h1', h2', h3', h, h'⟩) w ⟨w1.1, fun q hq => w1.2 q (by omega)⟩ ⟨n, lim, np, L + 1, d, ρ, IG_move h0' hm hlt h1' h2' hft h3' h.2 hI, by omega, hd, w2, i_ok_move h0' hm hlt h1' h2' hft h3' h.2 hI hk⟩
  · have hlen4 : args.length = 6 := hlen
    obtain ⟨x0, -, y0⟩ := a0_at (w := 0) (lo := 0) (hi := 1) hok rfl (by omega) (by omega)
    obtain ⟨x1, -, y1⟩ := a0_at (w := 1) (lo := 0) (hi := 3) hok rfl (by omega) (by omega)
    obtain ⟨x2, -, y2⟩ := a0_at (w := 2) (lo := 0) (hi := 63) hok rfl (by omega) (by omega)
    obtain ⟨x3, -, y3⟩ := a0_at (w := 3) (lo := 0) (hi := 63) hok rfl (by omega) (by omega)
    obtain ⟨x4, -, y4⟩ := a0_at (w := 4) (lo := 0) (hi := 63) hok rfl (by omega) (by omega)
    obtain ⟨x5, -, y5⟩ := a0_at (w := 5) (lo := 0) (hi := 63) hok rfl (by omega) (by omega)
    have a0 := ar 0 (by omega) (by omega)
    have a1 := ar 1 (by omega) (by omega)
    have a2 := ar 2 (by omega) (by omega)
    have a3 := ar 3 (by omega) (by omega)
    have a4 := ar 4 (by omega) (by omega)
    have a5 := ar 5 (by omega) (by omega)
    rw [x0] at a0
    rw [x1] at a1
    rw [x2] at a2
    rw [x3] at a3
    rw [x4] at a4
    rw [x5] at a5
    refine j_neg (by decide) (j_pos rfl ?_)
    refine sg_X9_performPromise_0 b _ ?_
    rw [show j_at (S.1 (b + 5)) 360 (Int32.ofNat i * 6 + 0) = _ from a0, show j_at (S.1 (b + 5)) 360 (Int32.ofNat i * 6 + 1) = _ from a1, show j_at (S.1 (b + 5)) 360 (Int32.ofNat i * 6 + 2) = _ from a2, show j_at (S.1 (b + 5)) 360 (Int32.ofNat i * 6 + 3) = _ from a3, show j_at (S.1 (b + 5)) 360 (Int32.ofNat i * 6 + 4) = _ from a4, show j_at (S.1 (b + 5)) 360 (Int32.ofNat i * 6 + 5) = _ from a5]
    generalize a_y (1, args) 0 = p at *
    generalize a_y (1, args) 1 = q at *
    generalize a_y (1, args) 2 = f at *
    generalize a_y (1, args) 3 = t at *
    generalize a_y (1, args) 4 = rf at *
    generalize a_y (1, args) 5 = rt at *
    dsimp only at q1 q2
    have inj : ∀ u v : Nat, u < 1000 → v < 1000 → Int32.ofNat u = Int32.ofNat v → u = v := fun u v h1 h2 h => by rw [n_eq (by omega) (by omega)] at h; exact h
    have no : ∀ P : Prop, False → P := fun _ h => h.elim
    refine b_promiseFault (e := b + 11) hI hL hk hgm (fun h => ⟨_, rfl, j_neg (by decide) ⟨false, rfl, fun hf => absurd hf (by decide), fun _ => q2 (o_if_f ?_) S hself hg⟩⟩) (fun p' q' f' t' rf' rt' h0 h => ⟨_, rfl, j_neg (by decide) ⟨false, rfl, fun hf => absurd hf (by decide), fun _ => q2 (o_if_f ?_) S hself hg⟩⟩) (fun p' q' f' t' rf' rt' h0 h h' z zz => ⟨_, rfl, j_neg (by decide) ⟨false, rfl, fun hf => absurd hf (by decide), fun _ => q2 (o_if_f ?_) z ⟨zz.1, fun q hq => zz.2 q (by omega)⟩ (q_any_frame (M := S.1) (fun q h1 h2 => zz.2 q (by omega)) hg)⟩⟩) (fun p' q' f' t' rf' rt' h0 h h' z zz => ⟨_, rfl, j_pos rfl ?_⟩)
    · intro hh
      exact h ⟨p, q, f, t, rf, rt, ⟨rfl, by omega⟩, ⟨rfl, hh.1⟩, ⟨rfl, hh.2.1⟩, ⟨rfl, hh.2.2.1⟩, ⟨rfl, hh.2.2.2.1⟩, ⟨rfl, hh.2.2.2.2.1⟩⟩
    · obtain ⟨⟨k0, l0⟩, ⟨k1, l1⟩, ⟨k2, l2⟩, ⟨k3, l3⟩, ⟨k4, l4⟩, ⟨k5, l5⟩⟩ := h0
      have e0 := inj _ _ (by omega) (by omega) k0
      subst e0
      exact fun hh => h hh.2.2.2.2.2.1
    · obtain ⟨⟨k0, l0⟩, ⟨k1, l1⟩, ⟨k2, l2⟩, ⟨k3, l3⟩, ⟨k4, l4⟩, ⟨k5, l5⟩⟩ := h0
      have e0 := inj _ _ (by omega) (by omega) k0
      have e2 := inj _ _ (by omega) (by omega) k2
      have e3 := inj _ _ (by omega) (by omega) k3
      have e4 := inj _ _ (by omega) (by omega) k4
      have e5 := inj _ _ (by omega) (by omega) k5
      subst e0 e2 e3 e4 e5
      exact fun hh => h' hh.2.2.2.2.2.2
    · obtain ⟨⟨k0, l0⟩, ⟨k1, l1⟩, ⟨k2, l2⟩, ⟨k3, l3⟩, ⟨k4, l4⟩, ⟨k5, l5⟩⟩ := h0
      have e0 := inj _ _ (by omega) (by omega) k0
      have e1 := inj _ _ (by omega) (by omega) k1
      have e2 := inj _ _ (by omega) (by omega) k2
      have e3 := inj _ _ (by omega) (by omega) k3
      have e4 := inj _ _ (by omega) (by omega) k4
      have e5 := inj _ _ (by omega) (by omega) k5
      subst e0 e1 e2 e3 e4 e5
      obtain ⟨hm, hml, h60⟩ := n_mad (i_dk_of hI.1 l0)
      obtain ⟨hlt, hk1, hk2⟩ := o_mayp_k l0 hI hm hml h
      obtain ⟨m1, m2, m3⟩ := o_ams_k (i_dk_of hI.1 l0) hlt h'
      have hgz := q_gm_frame (M := S.1) (M' := z.1) (fun q h1 h2 => zz.2 q (by omega)) hgm
      rw [n_mvn, n_mvn]
      refine g_promise (e := b + 11) l0 l1 l2 l3 l4 l5 hI hm hml h h' hgz (fun w w1 w2 => ⟨_, rfl, true, rfl, fun _ => ?_, fun hf => absurd rfl hf⟩)
      exact q1 _ (o_if_t ⟨l1, l2, l3, l4, l5, h, h'⟩) w ⟨w1.1.trans zz.1, fun q hq => by rw [w1.2 q (by omega), zz.2 q (by omega)]⟩ ⟨n, lim, np, L + 1, d, ρ, IG_prom l0 l1 l2 l3 l4 l5 hI hm hml h h', by have := h.2.2.2; omega, hd, w2, i_ok_prom (by omega) hk⟩
  · have hlen4 : args.length = 2 := hlen
    obtain ⟨x0, -, y0⟩ := a0_at (w := 0) (lo := 0) (hi := 79) hok rfl (by omega) (by omega)
    obtain ⟨x1, -, y1⟩ := a0_at (w := 1) (lo := 0) (hi := 3) hok rfl (by omega) (by omega)
    have a0 := ar 0 (by omega) (by omega)
    have a1 := ar 1 (by omega) (by omega)
    rw [x0] at a0
    rw [x1] at a1
    refine j_neg (by decide) (j_neg (by decide) (j_pos rfl ?_))
    rw [show j_at (S.1 (b + 5)) 360 (Int32.ofNat i * 6 + 0) = _ from a0, show j_at (S.1 (b + 5)) 360 (Int32.ofNat i * 6 + 1) = _ from a1, ft_copy hI hgm]
    generalize a_y (2, args) 0 = l at *
    generalize a_y (2, args) 1 = q at *
    dsimp only at q1 q2
    have inj : ∀ u v : Nat, u < 1000 → v < 1000 → Int32.ofNat u = Int32.ofNat v → u = v := fun u v h1 h2 h => by rw [n_eq (by omega) (by omega)] at h; exact h
    refine ⟨fun h => ?_, fun h => q2 (o_if_f (fun hh => h ⟨⟨⟨l, rfl, hh.1⟩, ⟨q, rfl, hh.2.1⟩⟩, hh.2.2⟩)) S hself hg⟩
    obtain ⟨⟨⟨l', k0, l0⟩, ⟨q', k1, l1⟩⟩, h80⟩ := h
    have e0 := inj _ _ (by omega) (by omega) k0
    have e1 := inj _ _ (by omega) (by omega) k1
    subst e0 e1
    refine g_resend (e := b + 11) hI h80 l0 l1 hgm (fun w w1 w2 => ⟨_, rfl, ?_⟩)
    exact q1 _ (o_if_t ⟨l0, l1, h80⟩) w ⟨w1.1, fun q hq => w1.2 q (by omega)⟩ ⟨n, lim, np, L + 1, d, ρ, IG_res hI h80 l0 l1, by omega, hd, w2, i_ok_post hk⟩
  · have hlen4 : args.length = 1 := hlen
    obtain ⟨x0, y0', y0⟩ := a0_at (w := 0) (lo := 1) (hi := 60) hok rfl (by omega) (by omega)
    have a0 := ar 0 (by omega) (by omega)
    rw [x0] at a0
    refine j_neg (by decide) (j_neg (by decide) (j_neg (by decide) (j_pos rfl ?_)))
    rw [show j_at (S.1 (b + 5)) 360 (Int32.ofNat i * 6 + 0) = _ from a0, ft_days hI hgm hd y0' y0]
    generalize a_y (3, args) 0 = D at *
    rw [od] at q1 q2
    dsimp only at q1 q2
    refine ⟨fun h => ?_, fun h => q2 (o_if_f h) S hself hg⟩
    refine sg_X2_letDaysPass_0 (b + 11) _ ?_
    have := g_days (g := g) (e := b + 11) (D := D) D S r ρ d 0 (by omega) (Nat.le_refl _) (by omega) hI hgm (fun o S2 => ∃ v2_ : Int32, o = .inl (some (ev_i v2_)) ∧ Q (.inl (some (ev_i 1))) S2) (fun y ρ' y1 y2 y3 => ⟨_, rfl, ?_⟩)
    · rw [Nat.sub_self] at this
      exact this
    · exact q1 _ (o_if_t h) y ⟨y1.1, fun q hq => y1.2 q (by omega)⟩ ⟨n, lim, np, L, d + D, ρ', y2, hL, by omega, y3, i_ok_days D d r ρ (by omega) hI hk⟩
  · have hlen4 : args.length = 2 := hlen
    obtain ⟨x0, -, y0⟩ := a0_at (w := 0) (lo := 0) (hi := 3) hok rfl (by omega) (by omega)
    obtain ⟨x1, -, y1⟩ := a0_at (w := 1) (lo := 0) (hi := 1) hok rfl (by omega) (by omega)
    have a0 := ar 0 (by omega) (by omega)
    have a1 := ar 1 (by omega) (by omega)
    rw [x0] at a0
    rw [x1] at a1
    refine j_neg (by decide) (j_neg (by decide) (j_neg (by decide) (j_neg (by decide) (j_pos rfl ?_))))
    rw [show j_at (S.1 (b + 5)) 360 (Int32.ofNat i * 6 + 0) = _ from a0, show j_at (S.1 (b + 5)) 360 (Int32.ofNat i * 6 + 1) = _ from a1, ft_mule hI hgm (by omega) (by omega)]
    generalize a_y (4, args) 0 = q at *
    generalize a_y (4, args) 1 = s at *
    dsimp only at q1 q2
    refine ⟨fun h => ?_, fun h => q2 (o_if_f h) S hself hg⟩
    intro S2 e2
    have hnp := hI.1.2.2.2.1
    rw [n_ln2 (by omega) (by omega), a_put (by omega) (by omega), a_in (by omega) (by omega), m_r (by omega)] at e2
    exact q1 _ (o_if_t h) S2 ⟨by rw [e2]; rfl, fun y hy => by rw [e2, m_r (by omega), m_r (by omega)]⟩ ⟨n, lim, np, L, d, ρ, IG_mule h.1 (by omega) hI, hL, hd, q_gm_mule (S := S) hI h.1 (by omega) hgm e2, i_ok_mule hnp h.1 (by omega) hk⟩
  · have hlen4 : args.length = 3 := hlen
    obtain ⟨x0, -, y0⟩ := a0_at (w := 0) (lo := 0) (hi := 3) hok rfl (by omega) (by omega)
    obtain ⟨x1, -, y1⟩ := a0_at (w := 1) (lo := 0) (hi := 11) hok rfl (by omega) (by omega)
    have hv : 0 ≤ a_x (5, args) 2 ∧ a_x (5, args) 2 ≤ 9 := hok.2.2 2 _ rfl
    have a0 := ar 0 (by omega) (by omega)
    have a1 := ar 1 (by omega) (by omega)
    have a2 := ar 2 (by omega) (by omega)
    rw [x0] at a0
    rw [x1] at a1
    refine j_neg (by decide) (j_neg (by decide) (j_neg (by decide) (j_neg (by decide) (j_neg (by decide) (j_pos rfl ?_)))))
    rw [show j_at (S.1 (b + 5)) 360 (Int32.ofNat i * 6 + 0) = _ from a0, show j_at (S.1 (b + 5)) 360 (Int32.ofNat i * 6 + 1) = _ from a1, show j_at (S.1 (b + 5)) 360 (Int32.ofNat i * 6 + 2) = _ from a2, ft_snow hI hgm (by omega) (by omega) hv]
    generalize a_y (5, args) 0 = q at *
    generalize a_y (5, args) 1 = t at *
    generalize a_x (5, args) 2 = v at *
    dsimp only at q1 q2
    refine ⟨fun h => ?_, fun h => q2 (o_if_f h) S hself hg⟩
    intro S2 e2
    have hnp := hI.1.2.2.2.1
    rw [n_ln12 (by omega) (by omega), a_put (by omega) (by omega)] at e2
    exact q1 _ (o_if_t h) S2 ⟨by rw [e2]; rfl, fun y hy => by rw [e2, m_r (by omega)]⟩ ⟨n, lim, np, L, d, ρ, IG_snow h (by omega) hv hI, hL, hd, q_gm_snow (S := S) hI h (by omega) hgm e2, i_ok_snow hnp h (by omega) hk⟩
