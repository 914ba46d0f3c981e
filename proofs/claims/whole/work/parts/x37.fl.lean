/-! ===== the law's cases: days, promises, undo ===== -/
theorem dok {x : Int32} {D : Nat} (h0 : x = Int32.ofNat D) (h1 : 1 ≤ D) (h2 : D ≤ 60) : 1 ≤ x ∧ x ≤ 60 := by
  have i1 : (1 : Int32) = Int32.ofNat 1 := rfl
  have i60 : (60 : Int32) = Int32.ofNat 60 := rfl
  rw [h0, i1, i60, n_le (by omega) (by omega), n_le (by omega) (by omega)]
  omega
theorem INV_m {M M' : Nat → Nat → Int32} {a m : Nat} (hm : m = a + 505) (h : INV M a m) (f1 : ∀ q, q ≠ m → M' q = M q) (f5 : ∀ j, j = 6 ∨ j = 8 ∨ j = 10 ∨ j = 11 ∨ j = 12 ∨ j = 23 ∨ j = 27 → M' m j = M m j) : INV M' a m :=
  INV_set hm h (fun q _ _ _ => f1 q (by omega)) (q_sh_fr h.2.1 (f1 _ (by omega)) (f1 _ (by omega))) (by rw [f1 (m + 1) (by omega)]; exact q_any_frame (M := M) (fun q _ _ => f1 q (by omega)) h.1) (IH_fr h.2.2.1 (fun q _ _ => f1 q (by omega)) (f1 _ (by omega)) (f5 _ (by omega))) (fun q _ _ _ _ => f1 q (by omega)) (fun j hj => f5 j (by omega))
theorem k_prm_1 {n np : Nat} {x0 x1 x2 x3 x4 x5 : Int32} {p q f t rf rt p' q' f' t' rf' rt' : Nat} (h8 : n ≤ 8) (hnp : np ≤ 4) (h : k_prm n np x0 x1 x2 x3 x4 x5 p q f t rf rt) (h' : k_prm n np x0 x1 x2 x3 x4 x5 p' q' f' t' rf' rt') : p' = p ∧ q' = q ∧ f' = f ∧ t' = t ∧ rf' = rf ∧ rt' = rt := by
  have hn9 := sq_le h8
  obtain ⟨⟨a0, b0⟩, ⟨a1, b1⟩, ⟨a2, b2⟩, ⟨a3, b3⟩, ⟨a4, b4⟩, ⟨a5, b5⟩⟩ := h
  obtain ⟨⟨c0, d0⟩, ⟨c1, d1⟩, ⟨c2, d2⟩, ⟨c3, d3⟩, ⟨c4, d4⟩, ⟨c5, d5⟩⟩ := h'
  exact ⟨ofi (c0.symm.trans a0) (by omega) (by omega), ofi (c1.symm.trans a1) (by omega) (by omega), ofi (c2.symm.trans a2) (by omega) (by omega), ofi (c3.symm.trans a3) (by omega) (by omega), ofi (c4.symm.trans a4) (by omega) (by omega), ofi (c5.symm.trans a5) (by omega) (by omega)⟩
theorem w_2632 {g : ev_G} {B k0 a m o1 o2 : Nat} {u5 : Int32} {S : ev_S} {Q : ev_O → ev_S → Prop} (c : CS g B k0 a m o1 o2 u5 S Q) : KA g B 2632 k0 a m o1 o2 u5 S Q := by
  obtain ⟨n, lim, np, L, d, ρ, hI, hL, hd, hg, hk⟩ := c.hi.1
  refine sg_L_law_2632 k0 a m o1 o2 u5 ⟨c.v1, ?_⟩
  generalize ev_sx g (u5 + 1).toNatClampNeg = x1
  have hm := c.hm
  have hnp := hI.1.2.2.2.1
  have hn9 := sq_le hI.1.1.2.1
  obtain ⟨u, hh, hu, h6⟩ := c.hi.2.2.1
  have zd : ∀ z : ev_S, (∀ q, a + 52 ≤ q → q < a + 93 → z.1 q = S.1 q) → q_sh z.1 (a + 52) := fun z hz => q_sh_fr c.hi.2.1 (hz _ (by omega) (by omega)) (hz _ (by omega) (by omega))
  have h8 := c.hi.2.2.2.1.1
  refine sg_L_advance_0 a _ _ (x_advance hI hL hd hg hk hh
    (fun h => Or.inr (Or.inl ⟨rfl, _, rfl, ?_⟩))
    (fun D h0 h1 h2 c0 => Or.inr (Or.inr ⟨rfl, _, rfl, ?_⟩))
    (fun D h0 h1 h2 c0 z z1 z2 z3 z4 => Or.inl ⟨_, rfl, fun S2 e2 => ⟨_, rfl, ?_⟩⟩))
  · exact sg_X10_advance_0 m _ (fun S1 e1 => c_advancing (ρ := ρ) m n lim np L d u _ (by rw [e1, m_s]) (by rw [e1, m_k (by omega)]; exact h8) hu (by rw [e1, m_k (by omega)]; exact h6) (by rw [e1, m_r (by omega)]; exact hI) hd (fun _ => ⟨_, rfl, by rw [e1, up_up7]; exact c.eri (by decide)⟩) (fun D h0 h1 h2 _ => absurd (dok h0 h1 h2) h) (fun D h0 h1 h2 _ => absurd (dok h0 h1 h2) h))
  · refine sg_X10_advance_0 m _ (fun S1 e1 => c_advancing (ρ := ρ) m n lim np L d u _ (by rw [e1, m_s]) (by rw [e1, m_k (by omega)]; exact h8) hu (by rw [e1, m_k (by omega)]; exact h6) (by rw [e1, m_r (by omega)]; exact hI) hd (fun h' => absurd (dok h0 h1 h2) h') (fun _ _ _ _ _ => ⟨_, rfl, by rw [e1, up_up7]; exact c.eri (by decide)⟩) (fun D' k0 k1 k2 d0 => ?_))
    have := ofi (k0.symm.trans h0) (by omega) (by omega)
    omega
  · have e2' : S2.1 m = S.1 m := by rw [e2]; exact z1.2 _ (by omega)
    have e2'' : S2.1 (m + 1) = S.1 (m + 1) := by rw [e2]; exact z1.2 _ (by omega)
    refine sg_X10_advance_0 m _ (fun S1 e1 => c_advancing (ρ := ρ) m n lim np L d u _ (by rw [e1, m_s]) (by rw [e1, m_k (by omega), e2']; exact h8) hu (by rw [e1, m_k (by omega), e2']; exact h6) (by rw [e1, m_r (by omega), e2'']; exact hI) hd (fun h' => absurd (dok h0 h1 h2) h') (fun D' k0 k1 k2 d0 => ?_) (fun D' k0 k1 k2 d0 => ?_))
    · have := ofi (k0.symm.trans h0) (by omega) (by omega)
      omega
    · have e_D := ofi (k0.symm.trans h0) (by omega) (by omega)
      subst e_D
      rw [show S1.1 (m + 1) = S.1 (m + 1) by rw [e1, m_r (by omega)]; exact e2'']
      obtain ⟨a1, a2, a3⟩ := act (S2 := S2) hm c.hi z1 (zd z (fun q q1 q2 => z2 q (by omega) q2)) z3 z4 (by rw [e2]) (w := S1) (by rw [e1]; exact m_alk_refl _ _)
      exact ⟨_, rfl, c.fni a1 a2 (by rw [a3, e2])⟩
theorem w_2446 {g : ev_G} {B k0 a m o1 o2 : Nat} {u5 : Int32} {S : ev_S} {Q : ev_O → ev_S → Prop} (c : CS g B k0 a m o1 o2 u5 S Q) : KA g B 2446 k0 a m o1 o2 u5 S Q := by
  obtain ⟨n, lim, np, L, d, ρ, hI, hL, hd, hg, hk⟩ := c.hi.1
  refine sg_L_law_2446 k0 a m o1 o2 u5 ⟨c.v1, c.v2, c.v3, c.v4, c.v5, c.v6, ?_⟩
  generalize ev_sx g (u5 + 1).toNatClampNeg = x1
  generalize ev_sx g (u5 + 2).toNatClampNeg = x2
  generalize ev_sx g (u5 + 3).toNatClampNeg = x3
  generalize ev_sx g (u5 + 4).toNatClampNeg = x4
  generalize ev_sx g (u5 + 5).toNatClampNeg = x5
  generalize ev_sx g (u5 + 6).toNatClampNeg = x6
  have hm := c.hm
  have hnp := hI.1.2.2.2.1
  have hn9 := sq_le hI.1.1.2.1
  obtain ⟨u, hh, hu, h6⟩ := c.hi.2.2.1
  have zd : ∀ z : ev_S, (∀ q, a + 52 ≤ q → q < a + 93 → z.1 q = S.1 q) → q_sh z.1 (a + 52) := fun z hz => q_sh_fr c.hi.2.1 (hz _ (by omega) (by omega)) (hz _ (by omega) (by omega))
  refine sg_L_promise_0 a _ _ _ _ _ _ _ (x_promise hI hL hd hg hk hh
    (fun h => Or.inr (Or.inl ⟨rfl, _, rfl, ?_⟩))
    (fun p q f t rf rt h0 c0 => Or.inr (Or.inr (Or.inl ⟨rfl, _, rfl, ?_⟩)))
    (fun p q f t rf rt h0 c0 c1 z zf => Or.inr (Or.inr (Or.inr ⟨rfl, _, rfl, ?_⟩)))
    (fun p q f t rf rt h0 c0 c1 z z1 z2 z3 z4 => Or.inl ⟨_, rfl, fun S2 e2 => ⟨_, rfl, ?_⟩⟩))
  · exact sg_X10_promise_0 m _ _ _ _ _ _ (fun S1 e1 => c_promising (ρ := ρ) m n lim np L d u _ _ _ _ _ _ (by rw [e1, m_s]) hu (by rw [e1, m_k (by omega)]; exact h6) (by rw [e1, m_r (by omega)]; exact hI) hL hk.1 (fun _ => ⟨_, rfl, by rw [e1, up_up7]; exact c.eri (by decide)⟩) (fun p' q' f' t' rf' rt' k0 _ => absurd ⟨_, _, _, _, _, _, k0⟩ h) (fun p' q' f' t' rf' rt' k0 _ _ w ww => absurd ⟨_, _, _, _, _, _, k0⟩ h) (fun p' q' f' t' rf' rt' k0 _ _ w ww => absurd ⟨_, _, _, _, _, _, k0⟩ h))
  · refine sg_X10_promise_0 m _ _ _ _ _ _ (fun S1 e1 => c_promising (ρ := ρ) m n lim np L d u _ _ _ _ _ _ (by rw [e1, m_s]) hu (by rw [e1, m_k (by omega)]; exact h6) (by rw [e1, m_r (by omega)]; exact hI) hL hk.1 (fun h' => absurd ⟨_, _, _, _, _, _, h0⟩ h') (fun p' q' f' t' rf' rt' k0 _ => ⟨_, rfl, by rw [e1, up_up7]; exact c.eri (by decide)⟩) (fun p' q' f' t' rf' rt' k0 d0 _ w ww => ?_) (fun p' q' f' t' rf' rt' k0 d0 _ w ww => ?_))
    · obtain ⟨rfl, rfl, rfl, rfl, rfl, rfl⟩ := k_prm_1 hI.1.1.2.1 hnp h0 k0
      rw [show S1.1 (m + 1) = S.1 (m + 1) by rw [e1, m_r (by omega)]] at d0
      exact absurd d0 c0
    · obtain ⟨rfl, rfl, rfl, rfl, rfl, rfl⟩ := k_prm_1 hI.1.1.2.1 hnp h0 k0
      rw [show S1.1 (m + 1) = S.1 (m + 1) by rw [e1, m_r (by omega)]] at d0
      exact absurd d0 c0
  · have ez' : z.1 m = S.1 m := zf.2 _ (by omega)
    have ez'' : z.1 (m + 1) = S.1 (m + 1) := zf.2 _ (by omega)
    have hz : INV z.1 a m := INV_fr hm c.hi (fun q q1 q2 q3 => zf.2 q (by omega)) (q_sh_fr c.hi.2.1 (zf.2 _ (by omega)) (zf.2 _ (by omega))) (fun q q1 q2 _ _ => zf.2 q (by omega)) (fun j _ => by rw [ez'']) (fun j _ => by rw [ez'])
    refine sg_X10_promise_0 m _ _ _ _ _ _ (fun S1 e1 => c_promising (ρ := ρ) m n lim np L d u _ _ _ _ _ _ (by rw [e1, m_s]) hu (by rw [e1, m_k (by omega), ez']; exact h6) (by rw [e1, m_r (by omega), ez'']; exact hI) hL hk.1 (fun h' => absurd ⟨_, _, _, _, _, _, h0⟩ h') (fun p' q' f' t' rf' rt' k0 d0 => ?_) (fun p' q' f' t' rf' rt' k0 d0 d1 w ww => ⟨_, rfl, ?_⟩) (fun p' q' f' t' rf' rt' k0 d0 d1 w ww => ?_))
    · obtain ⟨rfl, rfl, rfl, rfl, rfl, rfl⟩ := k_prm_1 hI.1.1.2.1 hnp h0 k0
      rw [show S1.1 (m + 1) = S.1 (m + 1) by rw [e1, m_r (by omega)]; exact ez''] at d0
      exact absurd c0 d0
    · refine c.fei (INV_m hm hz (fun q hq => by rw [m_r hq, ww.2.1 q hq, e1, m_r hq]) (fun j hj => ?_)) (m_s _ _ _ _) (by decide)
      rw [m_k (by omega), ww.2.2 j (by omega) (by omega), e1, m_k (by omega)]
    · obtain ⟨rfl, rfl, rfl, rfl, rfl, rfl⟩ := k_prm_1 hI.1.1.2.1 hnp h0 k0
      rw [show S1.1 (m + 1) = S.1 (m + 1) by rw [e1, m_r (by omega)]; exact ez''] at d1
      exact absurd d1 c1
  · have e2' : S2.1 m = S.1 m := by rw [e2]; exact z1.2 _ (by omega)
    have e2'' : S2.1 (m + 1) = S.1 (m + 1) := by rw [e2]; exact z1.2 _ (by omega)
    refine sg_X10_promise_0 m _ _ _ _ _ _ (fun S1 e1 => c_promising (ρ := ρ) m n lim np L d u _ _ _ _ _ _ (by rw [e1, m_s]) hu (by rw [e1, m_k (by omega), e2']; exact h6) (by rw [e1, m_r (by omega), e2'']; exact hI) hL hk.1 (fun h' => absurd ⟨_, _, _, _, _, _, h0⟩ h') (fun p' q' f' t' rf' rt' k0 d0 => ?_) (fun p' q' f' t' rf' rt' k0 d0 d1 w ww => ?_) (fun p' q' f' t' rf' rt' k0 d0 d1 w ww => ?_))
    · obtain ⟨rfl, rfl, rfl, rfl, rfl, rfl⟩ := k_prm_1 hI.1.1.2.1 hnp h0 k0
      rw [show S1.1 (m + 1) = S.1 (m + 1) by rw [e1, m_r (by omega)]; exact e2''] at d0
      exact absurd c0 d0
    · obtain ⟨rfl, rfl, rfl, rfl, rfl, rfl⟩ := k_prm_1 hI.1.1.2.1 hnp h0 k0
      rw [show S1.1 (m + 1) = S.1 (m + 1) by rw [e1, m_r (by omega)]; exact e2''] at d1
      exact absurd c1 d1
    · obtain ⟨rfl, rfl, rfl, rfl, rfl, rfl⟩ := k_prm_1 hI.1.1.2.1 hnp h0 k0
      rw [show S1.1 (m + 1) = S.1 (m + 1) by rw [e1, m_r (by omega)]; exact e2'']
      obtain ⟨a1, a2, a3⟩ := act (S2 := S2) hm c.hi z1 (zd z (fun q q1 q2 => z2 q q1 q2)) z3 z4 (by rw [e2]) (w := w) (by rw [← e1]; exact ww)
      exact ⟨_, rfl, c.fni a1 a2 (by rw [a3, e2])⟩
theorem w_2986 {g : ev_G} {B k0 a m o1 o2 : Nat} {u5 : Int32} {S : ev_S} {Q : ev_O → ev_S → Prop} (c : CS g B k0 a m o1 o2 u5 S Q) : KA g B 2986 k0 a m o1 o2 u5 S Q := by
  obtain ⟨n, lim, np, L, d, ρ, hI, hL, hd, hg, hk⟩ := c.hi.1
  have hm := c.hm
  obtain ⟨u, hh, hu, h6⟩ := c.hi.2.2.1
  refine sg_L_law_2986 k0 a m o1 o2 u5 (sg_L_undo_0 a _ (x_undo (now := S.1 (m + 1)) hh (q_sh_gm hg) (fun h => Or.inr ⟨rfl, _, rfl, ?_⟩) (fun h z z1 z2 z3 z4 z5 => Or.inl ⟨_, rfl, fun S2 e2 => ⟨_, rfl, ?_⟩⟩)))
  · exact c_undo m u hu h6 (fun _ => c.eri (by decide)) (fun h1 => by omega)
  · have eq2 : S2.1 = z.1 := by rw [e2]
    have zm : ∀ q, m ≤ q → S2.1 q = S.1 q := fun q hq => by rw [eq2]; exact z1.2 q (by omega)
    refine c_undo m u hu (by rw [zm _ (by omega)]; exact h6) (fun h0 => by omega) (fun _ => ?_)
    rw [zm _ (by omega), zm _ (by omega)]
    generalize hy : ev_ur (ev_up (ev_up S2 m 7 0) m 6 (Int32.ofNat (u - 1))) (m + 1) (o_un (S.1 (m + 1)) (S.1 (m + 4)) (u - 1) 0) = y
    have yq : ∀ q, q ≠ m → q ≠ m + 1 → y.1 q = z.1 q := fun q q0 q1 => by rw [← hy, r_r q1, m_r q0, m_r q0, eq2]
    have y1 : y.1 (m + 1) = o_un (S.1 (m + 1)) (S.1 (m + 4)) (u - 1) 0 := by rw [← hy, r_s]
    have yk : ∀ j, j ≠ 6 → j ≠ 7 → y.1 m j = S.1 m j := fun j j6 j7 => by rw [← hy, r_r (by omega), m_k j6, m_k j7, zm _ (by omega)]
    refine c.fni (INV_set hm c.hi (fun q q1 q2 q3 => by rw [yq q (by omega) (by omega)]; exact z1.2 q (by omega)) (q_sh_fr c.hi.2.1 (by rw [yq _ (by omega) (by omega)]; exact z2 _ (by omega) (by omega)) (by rw [yq _ (by omega) (by omega)]; exact z2 _ (by omega) (by omega))) ?_ ⟨u - 1, ?_, by omega, ?_⟩ (fun q q1 q2 q3 q4 => by rw [yq q (by omega) (by omega)]; exact z1.2 q (by omega)) (fun j hj => yk j (by omega) (by omega))) ?_ ?_
    · rw [y1]
      exact q_any_frame (M := z.1) (fun q q1 q2 => yq q (by omega) (by omega)) z3
    · rw [yq _ (by omega) (by omega), z1.2 _ (by omega)]
      exact q_his_fr (M := z.1) (fun q q1 q2 => yq q (by omega) (by omega)) z4
    · rw [← hy, r_r (by omega), m_s]
    · rw [← hy, r_r (by omega), m_k (by omega), m_s]
    · rw [← hy, e2]
      rfl
