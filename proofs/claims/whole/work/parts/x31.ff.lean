/-! ===== the law's cases: what needs no call; yes or no ===== -/
theorem w_474 {g : ev_G} {B k0 a m o1 o2 : Nat} {u5 : Int32} {S : ev_S} {Q : ev_O → ev_S → Prop} (c : CS g B k0 a m o1 o2 u5 S Q) : KA g B 474 k0 a m o1 o2 u5 S Q := by
  obtain ⟨n, lim, np, L, d, ρ, hI, hL, hd, hg, hk⟩ := c.hi.1
  refine sg_L_law_474 k0 a m o1 o2 u5 (fun S1 e1 => ?_)
  refine j_pos c.hi.2.2.2.1.2.2.1.symm ?_
  rw [e1]
  exact c.k2 _ (INV_u7 c.hm c.hi rfl)
theorem w_487 {g : ev_G} {B k0 a m o1 o2 : Nat} {u5 : Int32} {S : ev_S} {Q : ev_O → ev_S → Prop} (c : CS g B k0 a m o1 o2 u5 S Q) : KA g B 487 k0 a m o1 o2 u5 S Q := by
  obtain ⟨n, lim, np, L, d, ρ, hI, hL, hd, hg, hk⟩ := c.hi.1
  refine sg_L_law_487 k0 a m o1 o2 u5 (fun S1 e1 => ?_)
  refine j_pos c.hi.2.2.2.1.2.2.2.symm ?_
  rw [e1]
  exact c.k2 _ (INV_u7 c.hm c.hi rfl)
theorem w_500 {g : ev_G} {B k0 a m o1 o2 : Nat} {u5 : Int32} {S : ev_S} {Q : ev_O → ev_S → Prop} (c : CS g B k0 a m o1 o2 u5 S Q) : KA g B 500 k0 a m o1 o2 u5 S Q := by
  obtain ⟨n, lim, np, L, d, ρ, hI, hL, hd, hg, hk⟩ := c.hi.1
  refine sg_L_law_500 k0 a m o1 o2 u5 (fun S1 e1 => ?_)
  rw [a_desk0]
  have h0 : S.1 (a + 11 + 1 + 1) 4 = S.1 (m + 1) 0 := (hg.1 0 (by omega)).2.1.2.2.2.1
  refine j_pos h0 ?_
  rw [e1]
  exact c.k2 _ (INV_u7 c.hm c.hi rfl)
theorem w_513 {g : ev_G} {B k0 a m o1 o2 : Nat} {u5 : Int32} {S : ev_S} {Q : ev_O → ev_S → Prop} (c : CS g B k0 a m o1 o2 u5 S Q) : KA g B 513 k0 a m o1 o2 u5 S Q := by
  obtain ⟨n, lim, np, L, d, ρ, hI, hL, hd, hg, hk⟩ := c.hi.1
  refine sg_L_law_513 k0 a m o1 o2 u5 (fun S1 e1 => ?_)
  rw [a_desk0]
  have h0 : S.1 (a + 11 + 1 + 1) 5 = S.1 (m + 1) 1 := (hg.1 0 (by omega)).2.1.2.2.2.2.1
  refine j_pos h0 ?_
  rw [e1]
  exact c.k2 _ (INV_u7 c.hm c.hi rfl)
theorem w_526 {g : ev_G} {B k0 a m o1 o2 : Nat} {u5 : Int32} {S : ev_S} {Q : ev_O → ev_S → Prop} (c : CS g B k0 a m o1 o2 u5 S Q) : KA g B 526 k0 a m o1 o2 u5 S Q := by
  obtain ⟨n, lim, np, L, d, ρ, hI, hL, hd, hg, hk⟩ := c.hi.1
  refine sg_L_law_526 k0 a m o1 o2 u5 (fun S1 e1 => ?_)
  refine j_pos hg.2.2.2.1 ?_
  rw [e1]
  exact c.k2 _ (INV_u7 c.hm c.hi rfl)
theorem w_539 {g : ev_G} {B k0 a m o1 o2 : Nat} {u5 : Int32} {S : ev_S} {Q : ev_O → ev_S → Prop} (c : CS g B k0 a m o1 o2 u5 S Q) : KA g B 539 k0 a m o1 o2 u5 S Q := by
  obtain ⟨n, lim, np, L, d, ρ, hI, hL, hd, hg, hk⟩ := c.hi.1
  refine sg_L_law_539 k0 a m o1 o2 u5 (fun S1 e1 => ?_)
  refine j_pos (by rw [m_r (by omega), hg.2.2.2.1]) ?_
  rw [e1]
  exact c.k2 _ (INV_u7 c.hm c.hi rfl)
theorem w_1286 {g : ev_G} {B k0 a m o1 o2 : Nat} {u5 : Int32} {S : ev_S} {Q : ev_O → ev_S → Prop} (c : CS g B k0 a m o1 o2 u5 S Q) : KA g B 1286 k0 a m o1 o2 u5 S Q := by
  obtain ⟨n, lim, np, L, d, ρ, hI, hL, hd, hg, hk⟩ := c.hi.1
  refine sg_L_law_1286 k0 a m o1 o2 u5 (fun S1 e1 => ?_)
  have h0 : S.1 (a + 31) 3 = S.1 (m + 1) 3 := hg.2.1.1.1.1
  refine j_pos h0 ?_
  rw [e1]
  exact c.k2 _ (INV_u7 c.hm c.hi rfl)
theorem w_1559 {g : ev_G} {B k0 a m o1 o2 : Nat} {u5 : Int32} {S : ev_S} {Q : ev_O → ev_S → Prop} (c : CS g B k0 a m o1 o2 u5 S Q) : KA g B 1559 k0 a m o1 o2 u5 S Q := by
  obtain ⟨n, lim, np, L, d, ρ, hI, hL, hd, hg, hk⟩ := c.hi.1
  refine sg_L_law_1559 k0 a m o1 o2 u5 (fun S1 e1 => ?_)
  have h0 : S.1 (a + 30) 13 = S.1 (m + 1) 4 := hg.2.1.1.1.2.2.1
  refine j_pos h0 ?_
  rw [e1]
  exact c.k2 _ (INV_u7 c.hm c.hi rfl)
theorem w_1915 {g : ev_G} {B k0 a m o1 o2 : Nat} {u5 : Int32} {S : ev_S} {Q : ev_O → ev_S → Prop} (c : CS g B k0 a m o1 o2 u5 S Q) : KA g B 1915 k0 a m o1 o2 u5 S Q := by
  obtain ⟨n, lim, np, L, d, ρ, hI, hL, hd, hg, hk⟩ := c.hi.1
  refine sg_L_law_1915 k0 a m o1 o2 u5 (fun S1 e1 => ?_)
  refine j_pos hg.2.2.2.2 ?_
  rw [e1]
  exact c.k2 _ (INV_u7 c.hm c.hi rfl)
theorem w_2973 {g : ev_G} {B k0 a m o1 o2 : Nat} {u5 : Int32} {S : ev_S} {Q : ev_O → ev_S → Prop} (c : CS g B k0 a m o1 o2 u5 S Q) : KA g B 2973 k0 a m o1 o2 u5 S Q := by
  obtain ⟨n, lim, np, L, d, ρ, hI, hL, hd, hg, hk⟩ := c.hi.1
  refine sg_L_law_2973 k0 a m o1 o2 u5 (fun S1 e1 => ?_)
  obtain ⟨u, h1, h2, h3⟩ := c.hi.2.2.1
  have h0 : S.1 (a + 93) 1 = S.1 m 6 := h1.1.trans h3.symm
  refine j_pos h0 ?_
  rw [e1]
  exact c.k2 _ (INV_u7 c.hm c.hi rfl)
theorem w_744 {g : ev_G} {B k0 a m o1 o2 : Nat} {u5 : Int32} {S : ev_S} {Q : ev_O → ev_S → Prop} (c : CS g B k0 a m o1 o2 u5 S Q) : KA g B 744 k0 a m o1 o2 u5 S Q := by
  obtain ⟨n, lim, np, L, d, ρ, hI, hL, hd, hg, hk⟩ := c.hi.1
  refine sg_L_law_744 k0 a m o1 o2 u5 ⟨c.v1, ?_⟩
  generalize ev_sx g (u5 + 1).toNatClampNeg = x1
  have bad : ¬ t_X9_isPlayer x1 = true → ev_Cv g m_X10_isTurn 5 0 [ev_o 10 m, ev_i x1] S (RB g B k0 a m o1 o2 u5 Q 1) := by
    intro h
    refine sg_X10_isTurn_0 m _ (fun S1 e1 => j_neg (rpn h) (fun S3 e3 => ?_))
    rw [e3, e1, up_up7]
    exact c.erb (by decide)
  have good : ∀ p, p < 2 → ∀ z : ev_S, z.1 = S.1 → z.2.1 = (if o_turn (S.1 (m + 1)) p n (o_mad (S.1 (m + 1)) p) = true then 1 else 0) → ev_Cv g m_X10_isTurn 5 0 [ev_o 10 m, ev_i (Int32.ofNat p)] z (RB g B k0 a m o1 o2 u5 Q 0) := by
    intro p hp z hz hx
    have e0 : (ev_up z m 7 0).1 (m + 1) = S.1 (m + 1) := by rw [m_r (by omega), hz]
    refine sg_X10_isTurn_0 m _ (fun S1 e1 => j_pos (rp.mpr ⟨p, rfl, hp⟩) ?_)
    rw [e1]
    obtain ⟨hm, hml, h60⟩ := n_mad (i_dk_of hI.1 hp)
    refine c_turnOf m p n (o_mad (S.1 (m + 1)) p) hp (by rw [e0]; exact hI.1.1.1) hI.1.1.2.1 (by rw [e0]; exact hm) (by omega) _ ⟨_, rfl, ?_⟩
    rw [e0]
    have := c.okb (z := z) (o_turn (S.1 (m + 1)) p n (o_mad (S.1 (m + 1)) p)) hz hx
    exact ⟨fun hb => by rw [if_pos hb] at this; exact this, fun hb => by rw [if_neg hb] at this; exact this⟩
  refine sg_L_isTurn_0 a _ _ (sg_X9_isTurn_0 a _ ⟨fun h => ?_, fun h => Or.inr ⟨rfl, _, rfl, bad h⟩⟩)
  obtain ⟨p, rfl, hp⟩ := t_pl.mp h
  obtain ⟨hm, hml, h60⟩ := n_mad (i_dk_of hI.1 hp)
  rw [a_desk hp, t_may hp hI.1.1.2.1 hm (by omega) (hg.1 p hp)]
  exact ⟨fun hb => Or.inl ⟨true, rfl, fun _ S2 e2 => ⟨_, rfl, good p hp S2 (by rw [e2]) (by rw [e2, if_pos hb])⟩, fun hf => absurd rfl hf⟩, fun hb => Or.inl ⟨false, rfl, fun hf => absurd hf (by decide), fun _ S2 e2 => ⟨_, rfl, good p hp S2 (by rw [e2]) (by rw [e2, if_neg hb])⟩⟩⟩
theorem w_807 {g : ev_G} {B k0 a m o1 o2 : Nat} {u5 : Int32} {S : ev_S} {Q : ev_O → ev_S → Prop} (c : CS g B k0 a m o1 o2 u5 S Q) : KA g B 807 k0 a m o1 o2 u5 S Q := by
  obtain ⟨n, lim, np, L, d, ρ, hI, hL, hd, hg, hk⟩ := c.hi.1
  refine sg_L_law_807 k0 a m o1 o2 u5 ⟨c.v1, ?_⟩
  generalize ev_sx g (u5 + 1).toNatClampNeg = x1
  have bad : ¬ t_X9_isPlayer x1 = true → ev_Cv g m_X10_isOver 4 0 [ev_o 10 m, ev_i x1] S (RB g B k0 a m o1 o2 u5 Q 1) := by
    intro h
    refine sg_X10_isOver_0 m _ (fun S1 e1 => j_neg (rpn h) (fun S3 e3 => ?_))
    rw [e3, e1, up_up7]
    exact c.erb (by decide)
  have good : ∀ p, p < 2 → ∀ z : ev_S, z.1 = S.1 → z.2.1 = (if o_over (S.1 (m + 1)) p n = true then 1 else 0) → ev_Cv g m_X10_isOver 4 0 [ev_o 10 m, ev_i (Int32.ofNat p)] z (RB g B k0 a m o1 o2 u5 Q 0) := by
    intro p hp z hz hx
    have e0 : (ev_up z m 7 0).1 (m + 1) = S.1 (m + 1) := by rw [m_r (by omega), hz]
    refine sg_X10_isOver_0 m _ (fun S1 e1 => j_pos (rp.mpr ⟨p, rfl, hp⟩) ?_)
    rw [e1]
    obtain ⟨hm, hml, h60⟩ := n_mad (i_dk_of hI.1 hp)
    refine c_overOn m p n hp (by rw [e0]; exact hI.1.1.1) hI.1.1.2.1 _ ⟨_, rfl, ?_⟩
    rw [e0]
    have := c.okb (z := z) (o_over (S.1 (m + 1)) p n) hz hx
    exact ⟨fun hb => by rw [if_pos hb] at this; exact this, fun hb => by rw [if_neg hb] at this; exact this⟩
  refine sg_L_isOver_0 a _ _ (sg_X9_isOver_0 a _ ⟨fun h => ?_, fun h => Or.inr ⟨rfl, _, rfl, bad h⟩⟩)
  obtain ⟨p, rfl, hp⟩ := t_pl.mp h
  obtain ⟨hm, hml, h60⟩ := n_mad (i_dk_of hI.1 hp)
  rw [a_desk hp, b_fin hI.1.1.2.1 (hg.1 p hp).2.1]
  exact ⟨fun hb => Or.inl ⟨true, rfl, fun _ S2 e2 => ⟨_, rfl, good p hp S2 (by rw [e2]) (by rw [e2, if_pos hb])⟩, fun hf => absurd rfl hf⟩, fun hb => Or.inl ⟨false, rfl, fun hf => absurd hf (by decide), fun _ S2 e2 => ⟨_, rfl, good p hp S2 (by rw [e2]) (by rw [e2, if_neg hb])⟩⟩⟩
