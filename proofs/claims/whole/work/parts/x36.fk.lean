/-! ===== the law's cases: what the players do ===== -/
theorem INV_set {M M' : Nat → Nat → Int32} {a m : Nat} (hm : m = a + 505) (h : INV M a m) (f1 : ∀ q, a ≤ q → q < a + 505 → (q < a + 11 ∨ a + 423 ≤ q) → M' q = M q) (fs : q_sh M' (a + 52)) (hg : q_any M' (a + 11) (M' (m + 1))) (hh : IH M' a m) (f3 : ∀ q, m + 5 ≤ q → q < m + 11 → q ≠ m + 8 → q ≠ m + 9 → M' q = M q) (f5 : ∀ j, j = 8 ∨ j = 10 ∨ j = 11 ∨ j = 12 ∨ j = 23 ∨ j = 27 → M' m j = M m j) : INV M' a m := by
  obtain ⟨h1, h2, h3, h4, h5, h6, h7⟩ := h
  refine ⟨hg, fs, hh, ?_, IS_fr h5 (fun q q1 q2 => f1 q (by omega) (by omega) (by omega)) (f3 _ (by omega) (by omega) (by omega) (by omega)) (f3 _ (by omega) (by omega) (by omega) (by omega)) (fun s _ => by rw [f1 a (by omega) (by omega) (by omega)]), IT_fr h6 (f1 _ (by omega) (by omega) (by omega)) (f1 _ (by omega) (by omega) (by omega)) (f3 _ (by omega) (by omega) (by omega) (by omega)) (f5 _ (by omega)), IO_fr h7 (f1 _ (by omega) (by omega) (by omega)) (f1 _ (by omega) (by omega) (by omega)) (f3 _ (by omega) (by omega) (by omega) (by omega)) (f5 _ (by omega))⟩
  unfold IE at h4 ⊢
  rw [f5 _ (by omega), f5 _ (by omega), f5 _ (by omega), f5 _ (by omega), f1 a (by omega) (by omega) (by omega)]
  exact h4
theorem m_alk_refl (S : ev_S) (a : Nat) : m_alk S S a := ⟨rfl, fun _ _ => rfl, fun _ _ _ => rfl⟩
theorem act {S z S2 w : ev_S} {a m u : Nat} {r' : Nat → Int32} (hm : m = a + 505) (h : INV S.1 a m) (zf : q_fr S z (a + 11) 412) (zd : q_sh z.1 (a + 52)) (za : q_any z.1 (a + 11) r') (zh : q_his z.1 (a + 93) (o_kp (S.1 (m + 4)) (S.1 (m + 1)) u) (o_ku u)) (e2 : S2.1 = z.1) (hw : m_alk (ev_up S2 m 7 0) w m) :
    INV (ev_ur (o_chg w m u) (m + 1) r').1 a m ∧ (ev_ur (o_chg w m u) (m + 1) r').1 m 7 = 0 ∧ (ev_ur (o_chg w m u) (m + 1) r').2 = S2.2 := by
  have h4 := h.2.2.2.1
  have zm : ∀ q, m ≤ q → z.1 q = S.1 q := fun q hq => zf.2 q (by omega)
  have wq : ∀ q, q ≠ m → w.1 q = z.1 q := fun q hq => by rw [hw.2.1 q hq, m_r hq, e2]
  have wk : ∀ j, j ≠ 7 → j ≠ 24 → j ≠ 25 → w.1 m j = S.1 m j := fun j j7 j24 j25 => by rw [hw.2.2 j j24 j25, m_k j7, e2, zm _ (by omega)]
  have w7 : w.1 m 7 = 0 := by rw [hw.2.2 7 (by omega) (by omega), m_s]
  have w23 : w.1 m 23 = 0 := by rw [wk _ (by omega) (by omega) (by omega)]; exact h4.2.1
  have ec : o_chg w m u = ev_up (ev_ur w (m + 4) (o_kp (S.1 (m + 4)) (S.1 (m + 1)) u)) m 6 (Int32.ofNat (o_ku u)) := by
    unfold o_chg
    rw [if_pos w23, wq _ (by omega), wq _ (by omega), zm _ (by omega), zm _ (by omega)]
  rw [ec]
  have ku8 : o_ku u ≤ 8 := zh.2.1
  generalize hy : ev_ur (ev_up (ev_ur w (m + 4) (o_kp (S.1 (m + 4)) (S.1 (m + 1)) u)) m 6 (Int32.ofNat (o_ku u))) (m + 1) r' = y
  have yq : ∀ q, q ≠ m → q ≠ m + 1 → q ≠ m + 4 → y.1 q = z.1 q := fun q q0 q1 q4 => by rw [← hy, r_r q1, m_r q0, r_r q4, wq q q0]
  have y1 : y.1 (m + 1) = r' := by rw [← hy, r_s]
  have y4 : y.1 (m + 4) = o_kp (S.1 (m + 4)) (S.1 (m + 1)) u := by rw [← hy, r_r (by omega), m_r (by omega), r_s]
  have y6 : y.1 m 6 = Int32.ofNat (o_ku u) := by rw [← hy, r_r (by omega), m_s]
  have yk : ∀ j, j ≠ 6 → y.1 m j = w.1 m j := fun j j6 => by rw [← hy, r_r (by omega), m_k j6, r_r (by omega)]
  refine ⟨INV_set hm h (fun q q1 q2 q3 => by rw [yq q (by omega) (by omega) (by omega)]; exact zf.2 q (by omega)) (q_sh_fr zd (yq _ (by omega) (by omega) (by omega)) (yq _ (by omega) (by omega) (by omega))) ?_ ⟨o_ku u, ?_, ku8, y6⟩ (fun q q1 q2 q3 q4 => by rw [yq q (by omega) (by omega) (by omega)]; exact zm q (by omega)) (fun j hj => by rw [yk j (by omega)]; exact wk j (by omega) (by omega) (by omega)), by rw [yk _ (by omega)]; exact w7, ?_⟩
  · rw [y1]
    exact q_any_frame (M := z.1) (fun q q1 q2 => yq q (by omega) (by omega) (by omega)) za
  · rw [y4]
    exact q_his_fr (M := z.1) (fun q q1 q2 => yq q (by omega) (by omega) (by omega)) zh
  · rw [← hy]
    exact hw.1
theorem w_2564 {g : ev_G} {B k0 a m o1 o2 : Nat} {u5 : Int32} {S : ev_S} {Q : ev_O → ev_S → Prop} (c : CS g B k0 a m o1 o2 u5 S Q) : KA g B 2564 k0 a m o1 o2 u5 S Q := by
  obtain ⟨n, lim, np, L, d, ρ, hI, hL, hd, hg, hk⟩ := c.hi.1
  refine sg_L_law_2564 k0 a m o1 o2 u5 ⟨c.v1, c.v2, ?_⟩
  generalize ev_sx g (u5 + 1).toNatClampNeg = x1
  generalize ev_sx g (u5 + 2).toNatClampNeg = x2
  have hm := c.hm
  have hnp := hI.1.2.2.2.1
  have hn9 := sq_le hI.1.1.2.1
  obtain ⟨u, hh, hu, h6⟩ := c.hi.2.2.1
  have zd : ∀ z : ev_S, (∀ q, a + 52 ≤ q → q < a + 93 → z.1 q = S.1 q) → q_sh z.1 (a + 52) := fun z hz => q_sh_fr c.hi.2.1 (hz _ (by omega) (by omega)) (hz _ (by omega) (by omega))
  refine sg_L_resend_0 a _ _ _ (x_resend hI hL hd hg hk hh (fun h => Or.inr (Or.inl ⟨rfl, _, rfl, ?_⟩))
    (fun l q h0 h0x h1 h1x c0 => Or.inr (Or.inr ⟨rfl, _, rfl, ?_⟩))
    (fun l q h0 h0x h1 h1x c0 z z1 z2 z3 z4 => Or.inl ⟨_, rfl, fun S2 e2 => ⟨_, rfl, ?_⟩⟩))
  · refine sg_X10_resend_0 m _ _ (fun S1 e1 => c_resending (ρ := ρ) m n lim np L d u _ _ (by rw [e1, m_s]) hu (by rw [e1, m_k (by omega)]; exact h6) (by rw [e1, m_r (by omega)]; exact hI) hL (fun h' => ⟨_, rfl, by rw [e1, up_up7]; exact c.eri (by decide)⟩) (fun l' q' kh0 kh0x kh1 kh1x d0 => absurd ⟨⟨l', kh0, kh0x⟩, ⟨q', kh1, kh1x⟩⟩ h) (fun l' q' kh0 kh0x kh1 kh1x d0 => absurd ⟨⟨l', kh0, kh0x⟩, ⟨q', kh1, kh1x⟩⟩ h))
  · refine sg_X10_resend_0 m _ _ (fun S1 e1 => c_resending (ρ := ρ) m n lim np L d u _ _ (by rw [e1, m_s]) hu (by rw [e1, m_k (by omega)]; exact h6) (by rw [e1, m_r (by omega)]; exact hI) hL (fun h' => absurd ⟨⟨l, h0, h0x⟩, ⟨q, h1, h1x⟩⟩ h') (fun l' q' kh0 kh0x kh1 kh1x d0 => ⟨_, rfl, by rw [e1, up_up7]; exact c.eri (by decide)⟩) (fun l' q' kh0 kh0x kh1 kh1x d0 => ?_))
    · have e_l := ofi (kh0.symm.trans h0) (by omega) (by omega)
      have e_q := ofi (kh1.symm.trans h1) (by omega) (by omega)
      subst e_l e_q
      have hS1 : S1.1 (m + 1) = S.1 (m + 1) := by rw [e1, m_r (by omega)]
      try rw [hS1] at d0
      first
        | exact absurd d0 c0
        | exact absurd c0 d0
  · have e2' : S2.1 m = S.1 m := by rw [e2]; exact z1.2 _ (by omega)
    have e2'' : S2.1 (m + 1) = S.1 (m + 1) := by rw [e2]; exact z1.2 _ (by omega)
    refine sg_X10_resend_0 m _ _ (fun S1 e1 => c_resending (ρ := ρ) m n lim np L d u _ _ (by rw [e1, m_s]) hu (by rw [e1, m_k (by omega), e2']; exact h6) (by rw [e1, m_r (by omega), e2'']; exact hI) hL (fun h' => absurd ⟨⟨l, h0, h0x⟩, ⟨q, h1, h1x⟩⟩ h') (fun l' q' kh0 kh0x kh1 kh1x d0 => ?_) (fun l' q' kh0 kh0x kh1 kh1x d0 => ?_))
    · have e_l := ofi (kh0.symm.trans h0) (by omega) (by omega)
      have e_q := ofi (kh1.symm.trans h1) (by omega) (by omega)
      subst e_l e_q
      have hS1 : S1.1 (m + 1) = S.1 (m + 1) := by rw [e1, m_r (by omega)]; exact e2''
      try rw [hS1] at d0
      first
        | exact absurd d0 c0
        | exact absurd c0 d0
    · have e_l := ofi (kh0.symm.trans h0) (by omega) (by omega)
      have e_q := ofi (kh1.symm.trans h1) (by omega) (by omega)
      subst e_l e_q
      rw [show S1.1 (m + 1) = S.1 (m + 1) by rw [e1, m_r (by omega)]; exact e2'']
      obtain ⟨a1, a2, a3⟩ := act (S2 := S2) hm c.hi z1 (zd z (fun q q1 q2 => z2 q (by omega) q2)) z3 z4 (by rw [e2]) (w := S1) (by rw [e1]; exact m_alk_refl _ _)
      exact ⟨_, rfl, c.fni a1 a2 (by rw [a3, e2])⟩
theorem w_2688 {g : ev_G} {B k0 a m o1 o2 : Nat} {u5 : Int32} {S : ev_S} {Q : ev_O → ev_S → Prop} (c : CS g B k0 a m o1 o2 u5 S Q) : KA g B 2688 k0 a m o1 o2 u5 S Q := by
  obtain ⟨n, lim, np, L, d, ρ, hI, hL, hd, hg, hk⟩ := c.hi.1
  refine sg_L_law_2688 k0 a m o1 o2 u5 ⟨c.v1, c.v2, ?_⟩
  generalize ev_sx g (u5 + 1).toNatClampNeg = x1
  generalize ev_sx g (u5 + 2).toNatClampNeg = x2
  have hm := c.hm
  have hnp := hI.1.2.2.2.1
  have hn9 := sq_le hI.1.1.2.1
  obtain ⟨u, hh, hu, h6⟩ := c.hi.2.2.1
  have zd : ∀ z : ev_S, (∀ q, a + 52 ≤ q → q < a + 93 → z.1 q = S.1 q) → q_sh z.1 (a + 52) := fun z hz => q_sh_fr c.hi.2.1 (hz _ (by omega) (by omega)) (hz _ (by omega) (by omega))
  refine sg_L_addMule_0 a _ _ _ (x_addMule hI hL hd hg hk hh (fun h => Or.inr (Or.inl ⟨rfl, _, rfl, ?_⟩))
    (fun q s h0 h0x h1 h1x c0 => Or.inr (Or.inr ⟨rfl, _, rfl, ?_⟩))
    (fun q s h0 h0x h1 h1x c0 z z1 z2 z3 z4 => Or.inl ⟨_, rfl, fun S2 e2 => ⟨_, rfl, ?_⟩⟩))
  · refine sg_X10_addMule_0 m _ _ (fun S1 e1 => c_muling (ρ := ρ) m n lim np L d u _ _ (by rw [e1, m_s]) hu (by rw [e1, m_k (by omega)]; exact h6) (by rw [e1, m_r (by omega)]; exact hI) (fun h' => ⟨_, rfl, by rw [e1, up_up7]; exact c.eri (by decide)⟩) (fun q' s' kh0 kh0x kh1 kh1x d0 => absurd ⟨⟨q', kh0, kh0x⟩, ⟨s', kh1, kh1x⟩⟩ h) (fun q' s' kh0 kh0x kh1 kh1x d0 => absurd ⟨⟨q', kh0, kh0x⟩, ⟨s', kh1, kh1x⟩⟩ h))
  · refine sg_X10_addMule_0 m _ _ (fun S1 e1 => c_muling (ρ := ρ) m n lim np L d u _ _ (by rw [e1, m_s]) hu (by rw [e1, m_k (by omega)]; exact h6) (by rw [e1, m_r (by omega)]; exact hI) (fun h' => absurd ⟨⟨q, h0, h0x⟩, ⟨s, h1, h1x⟩⟩ h') (fun q' s' kh0 kh0x kh1 kh1x d0 => ⟨_, rfl, by rw [e1, up_up7]; exact c.eri (by decide)⟩) (fun q' s' kh0 kh0x kh1 kh1x d0 => ?_))
    · have e_q := ofi (kh0.symm.trans h0) (by omega) (by omega)
      have e_s := ofi (kh1.symm.trans h1) (by omega) (by omega)
      subst e_q e_s
      have hS1 : S1.1 (m + 1) = S.1 (m + 1) := by rw [e1, m_r (by omega)]
      try rw [hS1] at d0
      first
        | exact absurd d0 c0
        | exact absurd c0 d0
  · have e2' : S2.1 m = S.1 m := by rw [e2]; exact z1.2 _ (by omega)
    have e2'' : S2.1 (m + 1) = S.1 (m + 1) := by rw [e2]; exact z1.2 _ (by omega)
    refine sg_X10_addMule_0 m _ _ (fun S1 e1 => c_muling (ρ := ρ) m n lim np L d u _ _ (by rw [e1, m_s]) hu (by rw [e1, m_k (by omega), e2']; exact h6) (by rw [e1, m_r (by omega), e2'']; exact hI) (fun h' => absurd ⟨⟨q, h0, h0x⟩, ⟨s, h1, h1x⟩⟩ h') (fun q' s' kh0 kh0x kh1 kh1x d0 => ?_) (fun q' s' kh0 kh0x kh1 kh1x d0 => ?_))
    · have e_q := ofi (kh0.symm.trans h0) (by omega) (by omega)
      have e_s := ofi (kh1.symm.trans h1) (by omega) (by omega)
      subst e_q e_s
      have hS1 : S1.1 (m + 1) = S.1 (m + 1) := by rw [e1, m_r (by omega)]; exact e2''
      try rw [hS1] at d0
      first
        | exact absurd d0 c0
        | exact absurd c0 d0
    · have e_q := ofi (kh0.symm.trans h0) (by omega) (by omega)
      have e_s := ofi (kh1.symm.trans h1) (by omega) (by omega)
      subst e_q e_s
      rw [show S1.1 (m + 1) = S.1 (m + 1) by rw [e1, m_r (by omega)]; exact e2'']
      obtain ⟨a1, a2, a3⟩ := act (S2 := S2) hm c.hi z1 (zd z (fun q q1 q2 => z2 q (by omega) q2)) z3 z4 (by rw [e2]) (w := S1) (by rw [e1]; exact m_alk_refl _ _)
      exact ⟨_, rfl, c.fni a1 a2 (by rw [a3, e2])⟩
theorem w_2756 {g : ev_G} {B k0 a m o1 o2 : Nat} {u5 : Int32} {S : ev_S} {Q : ev_O → ev_S → Prop} (c : CS g B k0 a m o1 o2 u5 S Q) : KA g B 2756 k0 a m o1 o2 u5 S Q := by
  obtain ⟨n, lim, np, L, d, ρ, hI, hL, hd, hg, hk⟩ := c.hi.1
  refine sg_L_law_2756 k0 a m o1 o2 u5 ⟨c.v1, c.v2, c.v3, ?_⟩
  generalize ev_sx g (u5 + 1).toNatClampNeg = x1
  generalize ev_sx g (u5 + 2).toNatClampNeg = x2
  generalize ev_sx g (u5 + 3).toNatClampNeg = x3
  have hm := c.hm
  have hnp := hI.1.2.2.2.1
  have hn9 := sq_le hI.1.1.2.1
  obtain ⟨u, hh, hu, h6⟩ := c.hi.2.2.1
  have zd : ∀ z : ev_S, (∀ q, a + 52 ≤ q → q < a + 93 → z.1 q = S.1 q) → q_sh z.1 (a + 52) := fun z hz => q_sh_fr c.hi.2.1 (hz _ (by omega) (by omega)) (hz _ (by omega) (by omega))
  refine sg_L_setSnow_0 a _ _ _ _ (x_setSnow hI hL hd hg hk hh (fun h => Or.inr (Or.inl ⟨rfl, _, rfl, ?_⟩))
    (fun q t h0 h0x h1 h1x c0 => Or.inr (Or.inr ⟨rfl, _, rfl, ?_⟩))
    (fun q t h0 h0x h1 h1x c0 z z1 z2 z3 z4 => Or.inl ⟨_, rfl, fun S2 e2 => ⟨_, rfl, ?_⟩⟩))
  · refine sg_X10_setSnow_0 m _ _ _ (fun S1 e1 => c_snowing (ρ := ρ) m n lim np L d u _ _ _ (by rw [e1, m_s]) hu (by rw [e1, m_k (by omega)]; exact h6) (by rw [e1, m_r (by omega)]; exact hI) (fun h' => ⟨_, rfl, by rw [e1, up_up7]; exact c.eri (by decide)⟩) (fun q' t' kh0 kh0x kh1 kh1x d0 => absurd ⟨⟨q', kh0, kh0x⟩, ⟨t', kh1, kh1x⟩⟩ h) (fun q' t' kh0 kh0x kh1 kh1x d0 => absurd ⟨⟨q', kh0, kh0x⟩, ⟨t', kh1, kh1x⟩⟩ h))
  · refine sg_X10_setSnow_0 m _ _ _ (fun S1 e1 => c_snowing (ρ := ρ) m n lim np L d u _ _ _ (by rw [e1, m_s]) hu (by rw [e1, m_k (by omega)]; exact h6) (by rw [e1, m_r (by omega)]; exact hI) (fun h' => absurd ⟨⟨q, h0, h0x⟩, ⟨t, h1, h1x⟩⟩ h') (fun q' t' kh0 kh0x kh1 kh1x d0 => ⟨_, rfl, by rw [e1, up_up7]; exact c.eri (by decide)⟩) (fun q' t' kh0 kh0x kh1 kh1x d0 => ?_))
    · have e_q := ofi (kh0.symm.trans h0) (by omega) (by omega)
      have e_t := ofi (kh1.symm.trans h1) (by omega) (by omega)
      subst e_q e_t
      have hS1 : S1.1 (m + 1) = S.1 (m + 1) := by rw [e1, m_r (by omega)]
      try rw [hS1] at d0
      first
        | exact absurd d0 c0
        | exact absurd c0 d0
  · have e2' : S2.1 m = S.1 m := by rw [e2]; exact z1.2 _ (by omega)
    have e2'' : S2.1 (m + 1) = S.1 (m + 1) := by rw [e2]; exact z1.2 _ (by omega)
    refine sg_X10_setSnow_0 m _ _ _ (fun S1 e1 => c_snowing (ρ := ρ) m n lim np L d u _ _ _ (by rw [e1, m_s]) hu (by rw [e1, m_k (by omega), e2']; exact h6) (by rw [e1, m_r (by omega), e2'']; exact hI) (fun h' => absurd ⟨⟨q, h0, h0x⟩, ⟨t, h1, h1x⟩⟩ h') (fun q' t' kh0 kh0x kh1 kh1x d0 => ?_) (fun q' t' kh0 kh0x kh1 kh1x d0 => ?_))
    · have e_q := ofi (kh0.symm.trans h0) (by omega) (by omega)
      have e_t := ofi (kh1.symm.trans h1) (by omega) (by omega)
      subst e_q e_t
      have hS1 : S1.1 (m + 1) = S.1 (m + 1) := by rw [e1, m_r (by omega)]; exact e2''
      try rw [hS1] at d0
      first
        | exact absurd d0 c0
        | exact absurd c0 d0
    · have e_q := ofi (kh0.symm.trans h0) (by omega) (by omega)
      have e_t := ofi (kh1.symm.trans h1) (by omega) (by omega)
      subst e_q e_t
      rw [show S1.1 (m + 1) = S.1 (m + 1) by rw [e1, m_r (by omega)]; exact e2'']
      obtain ⟨a1, a2, a3⟩ := act (S2 := S2) hm c.hi z1 (zd z (fun q q1 q2 => z2 q (by omega) q2)) z3 z4 (by rw [e2]) (w := S1) (by rw [e1]; exact m_alk_refl _ _)
      exact ⟨_, rfl, c.fni a1 a2 (by rw [a3, e2])⟩
theorem w_2354 {g : ev_G} {B k0 a m o1 o2 : Nat} {u5 : Int32} {S : ev_S} {Q : ev_O → ev_S → Prop} (c : CS g B k0 a m o1 o2 u5 S Q) : KA g B 2354 k0 a m o1 o2 u5 S Q := by
  obtain ⟨n, lim, np, L, d, ρ, hI, hL, hd, hg, hk⟩ := c.hi.1
  refine sg_L_law_2354 k0 a m o1 o2 u5 ⟨c.v1, c.v2, c.v3, c.v4, ?_⟩
  generalize ev_sx g (u5 + 1).toNatClampNeg = x1
  generalize ev_sx g (u5 + 2).toNatClampNeg = x2
  generalize ev_sx g (u5 + 3).toNatClampNeg = x3
  generalize ev_sx g (u5 + 4).toNatClampNeg = x4
  have hm := c.hm
  have hnp := hI.1.2.2.2.1
  have hn9 := sq_le hI.1.1.2.1
  obtain ⟨u, hh, hu, h6⟩ := c.hi.2.2.1
  have zd : ∀ z : ev_S, (∀ q, a + 52 ≤ q → q < a + 93 → z.1 q = S.1 q) → q_sh z.1 (a + 52) := fun z hz => q_sh_fr c.hi.2.1 (hz _ (by omega) (by omega)) (hz _ (by omega) (by omega))
  refine sg_L_move_0 a _ _ _ _ _ (x_move hI hL hd hg hk hh (fun h => Or.inr (Or.inl ⟨rfl, _, rfl, ?_⟩))
    (fun p f t q h0 h0x h1 h1x h2 h2x h3 h3x c0 => Or.inr (Or.inr (Or.inl ⟨rfl, _, rfl, ?_⟩)))
    (fun p f t q h0 h0x h1 h1x h2 h2x h3 h3x c0 c1 => Or.inr (Or.inr (Or.inr ⟨rfl, _, rfl, ?_⟩)))
    (fun p f t q h0 h0x h1 h1x h2 h2x h3 h3x c0 c1 z z1 z2 z3 z4 => Or.inl ⟨_, rfl, fun S2 e2 => ⟨_, rfl, ?_⟩⟩))
  · refine sg_X10_move_0 m _ _ _ _ (fun S1 e1 => c_moving (ρ := ρ) m n lim np L d u _ _ _ _ (by rw [e1, m_s]) hu (by rw [e1, m_k (by omega)]; exact h6) (by rw [e1, m_r (by omega)]; exact hI) hL hk.1 (fun h' => ⟨_, rfl, by rw [e1, up_up7]; exact c.eri (by decide)⟩) (fun p' f' t' q' kh0 kh0x kh1 kh1x kh2 kh2x kh3 kh3x d0 => absurd ⟨⟨p', kh0, kh0x⟩, ⟨f', kh1, kh1x⟩, ⟨t', kh2, kh2x⟩, ⟨q', kh3, kh3x⟩⟩ h) (fun p' f' t' q' kh0 kh0x kh1 kh1x kh2 kh2x kh3 kh3x d0 d1 => absurd ⟨⟨p', kh0, kh0x⟩, ⟨f', kh1, kh1x⟩, ⟨t', kh2, kh2x⟩, ⟨q', kh3, kh3x⟩⟩ h) (fun p' f' t' q' kh0 kh0x kh1 kh1x kh2 kh2x kh3 kh3x d0 d1 => absurd ⟨⟨p', kh0, kh0x⟩, ⟨f', kh1, kh1x⟩, ⟨t', kh2, kh2x⟩, ⟨q', kh3, kh3x⟩⟩ h))
  · refine sg_X10_move_0 m _ _ _ _ (fun S1 e1 => c_moving (ρ := ρ) m n lim np L d u _ _ _ _ (by rw [e1, m_s]) hu (by rw [e1, m_k (by omega)]; exact h6) (by rw [e1, m_r (by omega)]; exact hI) hL hk.1 (fun h' => absurd ⟨⟨p, h0, h0x⟩, ⟨f, h1, h1x⟩, ⟨t, h2, h2x⟩, ⟨q, h3, h3x⟩⟩ h') (fun p' f' t' q' kh0 kh0x kh1 kh1x kh2 kh2x kh3 kh3x d0 => ⟨_, rfl, by rw [e1, up_up7]; exact c.eri (by decide)⟩) (fun p' f' t' q' kh0 kh0x kh1 kh1x kh2 kh2x kh3 kh3x d0 d1 => ?_) (fun p' f' t' q' kh0 kh0x kh1 kh1x kh2 kh2x kh3 kh3x d0 d1 => ?_))
    · have e_p := ofi (kh0.symm.trans h0) (by omega) (by omega)
      have e_f := ofi (kh1.symm.trans h1) (by omega) (by omega)
      have e_t := ofi (kh2.symm.trans h2) (by omega) (by omega)
      have e_q := ofi (kh3.symm.trans h3) (by omega) (by omega)
      subst e_p e_f e_t e_q
      have hS1 : S1.1 (m + 1) = S.1 (m + 1) := by rw [e1, m_r (by omega)]
      try rw [hS1] at d0
      first
        | exact absurd d0 c0
        | exact absurd c0 d0
    · have e_p := ofi (kh0.symm.trans h0) (by omega) (by omega)
      have e_f := ofi (kh1.symm.trans h1) (by omega) (by omega)
      have e_t := ofi (kh2.symm.trans h2) (by omega) (by omega)
      have e_q := ofi (kh3.symm.trans h3) (by omega) (by omega)
      subst e_p e_f e_t e_q
      have hS1 : S1.1 (m + 1) = S.1 (m + 1) := by rw [e1, m_r (by omega)]
      try rw [hS1] at d0
      first
        | exact absurd d0 c0
        | exact absurd c0 d0
  · refine sg_X10_move_0 m _ _ _ _ (fun S1 e1 => c_moving (ρ := ρ) m n lim np L d u _ _ _ _ (by rw [e1, m_s]) hu (by rw [e1, m_k (by omega)]; exact h6) (by rw [e1, m_r (by omega)]; exact hI) hL hk.1 (fun h' => absurd ⟨⟨p, h0, h0x⟩, ⟨f, h1, h1x⟩, ⟨t, h2, h2x⟩, ⟨q, h3, h3x⟩⟩ h') (fun p' f' t' q' kh0 kh0x kh1 kh1x kh2 kh2x kh3 kh3x d0 => ?_) (fun p' f' t' q' kh0 kh0x kh1 kh1x kh2 kh2x kh3 kh3x d0 d1 => ⟨_, rfl, by rw [e1, up_up7]; exact c.eri (by decide)⟩) (fun p' f' t' q' kh0 kh0x kh1 kh1x kh2 kh2x kh3 kh3x d0 d1 => ?_))
    · have e_p := ofi (kh0.symm.trans h0) (by omega) (by omega)
      have e_f := ofi (kh1.symm.trans h1) (by omega) (by omega)
      have e_t := ofi (kh2.symm.trans h2) (by omega) (by omega)
      have e_q := ofi (kh3.symm.trans h3) (by omega) (by omega)
      subst e_p e_f e_t e_q
      have hS1 : S1.1 (m + 1) = S.1 (m + 1) := by rw [e1, m_r (by omega)]
      try rw [hS1] at d0
      first
        | exact absurd d0 c0
        | exact absurd c0 d0
    · have e_p := ofi (kh0.symm.trans h0) (by omega) (by omega)
      have e_f := ofi (kh1.symm.trans h1) (by omega) (by omega)
      have e_t := ofi (kh2.symm.trans h2) (by omega) (by omega)
      have e_q := ofi (kh3.symm.trans h3) (by omega) (by omega)
      subst e_p e_f e_t e_q
      have hS1 : S1.1 (m + 1) = S.1 (m + 1) := by rw [e1, m_r (by omega)]
      try rw [hS1] at d1
      first
        | exact absurd d1 c1
        | exact absurd c1 d1
  · have e2' : S2.1 m = S.1 m := by rw [e2]; exact z1.2 _ (by omega)
    have e2'' : S2.1 (m + 1) = S.1 (m + 1) := by rw [e2]; exact z1.2 _ (by omega)
    refine sg_X10_move_0 m _ _ _ _ (fun S1 e1 => c_moving (ρ := ρ) m n lim np L d u _ _ _ _ (by rw [e1, m_s]) hu (by rw [e1, m_k (by omega), e2']; exact h6) (by rw [e1, m_r (by omega), e2'']; exact hI) hL hk.1 (fun h' => absurd ⟨⟨p, h0, h0x⟩, ⟨f, h1, h1x⟩, ⟨t, h2, h2x⟩, ⟨q, h3, h3x⟩⟩ h') (fun p' f' t' q' kh0 kh0x kh1 kh1x kh2 kh2x kh3 kh3x d0 => ?_) (fun p' f' t' q' kh0 kh0x kh1 kh1x kh2 kh2x kh3 kh3x d0 d1 => ?_) (fun p' f' t' q' kh0 kh0x kh1 kh1x kh2 kh2x kh3 kh3x d0 d1 => ?_))
    · have e_p := ofi (kh0.symm.trans h0) (by omega) (by omega)
      have e_f := ofi (kh1.symm.trans h1) (by omega) (by omega)
      have e_t := ofi (kh2.symm.trans h2) (by omega) (by omega)
      have e_q := ofi (kh3.symm.trans h3) (by omega) (by omega)
      subst e_p e_f e_t e_q
      have hS1 : S1.1 (m + 1) = S.1 (m + 1) := by rw [e1, m_r (by omega)]; exact e2''
      try rw [hS1] at d0
      first
        | exact absurd d0 c0
        | exact absurd c0 d0
    · have e_p := ofi (kh0.symm.trans h0) (by omega) (by omega)
      have e_f := ofi (kh1.symm.trans h1) (by omega) (by omega)
      have e_t := ofi (kh2.symm.trans h2) (by omega) (by omega)
      have e_q := ofi (kh3.symm.trans h3) (by omega) (by omega)
      subst e_p e_f e_t e_q
      have hS1 : S1.1 (m + 1) = S.1 (m + 1) := by rw [e1, m_r (by omega)]; exact e2''
      try rw [hS1] at d1
      first
        | exact absurd d1 c1
        | exact absurd c1 d1
    · have e_p := ofi (kh0.symm.trans h0) (by omega) (by omega)
      have e_f := ofi (kh1.symm.trans h1) (by omega) (by omega)
      have e_t := ofi (kh2.symm.trans h2) (by omega) (by omega)
      have e_q := ofi (kh3.symm.trans h3) (by omega) (by omega)
      subst e_p e_f e_t e_q
      rw [show S1.1 (m + 1) = S.1 (m + 1) by rw [e1, m_r (by omega)]; exact e2'']
      obtain ⟨a1, a2, a3⟩ := act (S2 := S2) hm c.hi z1 (zd z (fun q q1 q2 => z2 q (by omega) q2)) z3 z4 (by rw [e2]) (w := S1) (by rw [e1]; exact m_alk_refl _ _)
      exact ⟨_, rfl, c.fni a1 a2 (by rw [a3, e2])⟩
