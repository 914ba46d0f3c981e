/-! ===== the law's cases: slots, setups, scripts ===== -/
theorem bit2 {s t : Nat} (hs : s < 2) (ht : t < 2) (h : t ≠ s) : t = 1 - s := by omega
theorem o_cpn_in {R now : Nat → Int32} {u j : Nat} (hj : j < 2091) : o_cpn R now u 0 (2091 * u + j) = now j := by
  unfold o_cpn
  rw [if_pos (by omega), show 2091 * u + j - 2091 * u = j by omega]
theorem o_cpn_out {R now : Nat → Int32} {u v j : Nat} (hj : j < 2091) (h : v ≠ u) : o_cpn R now u 0 (2091 * v + j) = R (2091 * v + j) := by
  unfold o_cpn
  rw [if_neg (by
    rcases Nat.lt_or_gt_of_ne h with h | h
    · omega
    · omega)]
theorem w_3030 {g : ev_G} {B k0 a m o1 o2 : Nat} {u5 : Int32} {S : ev_S} {Q : ev_O → ev_S → Prop} (c : CS g B k0 a m o1 o2 u5 S Q) : KA g B 3030 k0 a m o1 o2 u5 S Q := by
  obtain ⟨n, lim, np, L, d, ρ, hI, hL, hd, hg, hk⟩ := c.hi.1
  refine sg_L_law_3030 k0 a m o1 o2 u5 ⟨c.v1, ?_⟩
  generalize ev_sx g (u5 + 1).toNatClampNeg = x1
  have hm := c.hm
  have hIS := c.hi.2.2.2.2.1
  refine sg_L_save_0 a _ _ (x_save c.hi.1 (fun s hs => (hIS s hs).1) (fun h => Or.inr ⟨rfl, _, rfl, ?_⟩) (fun s hx hs z z1 z2 z3 z4 z5 => Or.inl ⟨_, rfl, fun S2 e2 => ⟨_, rfl, ?_⟩⟩))
  · exact c_save m _ (fun _ => c.eri (by decide)) (fun s hx hs => absurd ⟨s, hx, hs⟩ h)
  · have eq2 : S2.1 = z.1 := by rw [e2]
    have zm : ∀ q, m ≤ q → S2.1 q = S.1 q := fun q hq => by rw [eq2]; exact z2 q (by omega) (by omega)
    refine c_save m _ (fun h => absurd ⟨s, hx, hs⟩ h) (fun s' hx' hs' => ?_)
    have e_s := ofi (hx'.symm.trans hx) (by omega) (by omega)
    subst e_s
    rw [zm _ (by omega), zm _ (by omega)]
    generalize hy : ev_up (ev_ur (ev_up S2 m 7 0) (m + 5) (o_cpn (S.1 (m + 5)) (S.1 (m + 1)) s' 0)) (m + 6) s' 1 = y
    have yq : ∀ q, q ≠ m → q ≠ m + 5 → q ≠ m + 6 → y.1 q = z.1 q := fun q q0 q5 q6 => by rw [← hy, m_r q6, r_r q5, m_r q0, eq2]
    have y5 : y.1 (m + 5) = o_cpn (S.1 (m + 5)) (S.1 (m + 1)) s' 0 := by rw [← hy, m_r (by omega), r_s]
    have y6 : y.1 (m + 6) = upd (S.1 (m + 6)) s' 1 := by rw [← hy, m_u, r_s, r_r (by omega), m_r (by omega), zm _ (by omega)]
    have yk : ∀ j, j ≠ 7 → y.1 m j = S.1 m j := fun j j7 => by rw [← hy, m_r (by omega), r_r (by omega), m_k j7, zm _ (by omega)]
    have ya : ∀ j, j ≠ 8 + s' → y.1 a j = S.1 a j := fun j hj => by rw [yq _ (by omega) (by omega) (by omega), z3, u_k hj]
    have yS : ∀ q, q ≠ m → q ≠ m + 5 → q ≠ m + 6 → q ≠ a → (q < a + 423 + 41 * s' ∨ a + 423 + 41 * s' + 36 ≤ q) → y.1 q = S.1 q := fun q q0 q5 q6 qa hq => by rw [yq q q0 q5 q6]; exact z2 q qa hq
    have hv : S.1 (m + 1) 2 = S.1 (m + 1) 2 := rfl
    refine c.fni ⟨?_, q_sh_fr c.hi.2.1 (yS _ (by omega) (by omega) (by omega) (by omega) (by omega)) (yS _ (by omega) (by omega) (by omega) (by omega) (by omega)), IH_fr c.hi.2.2.1 (fun q q1 q2 => yS q (by omega) (by omega) (by omega) (by omega) (by omega)) (yS _ (by omega) (by omega) (by omega) (by omega) (by omega)) (yk _ (by omega)), ?_, ?_, IT_fr c.hi.2.2.2.2.2.1 (yS _ (by omega) (by omega) (by omega) (by omega) (by omega)) (yS _ (by omega) (by omega) (by omega) (by omega) (by omega)) (yS _ (by omega) (by omega) (by omega) (by omega) (by omega)) (yk _ (by omega)), IO_fr c.hi.2.2.2.2.2.2 (yS _ (by omega) (by omega) (by omega) (by omega) (by omega)) (yS _ (by omega) (by omega) (by omega) (by omega) (by omega)) (yS _ (by omega) (by omega) (by omega) (by omega) (by omega)) (yk _ (by omega))⟩ ?_ ?_
    · rw [yS (m + 1) (by omega) (by omega) (by omega) (by omega) (by omega)]
      exact q_any_frame (M := S.1) (fun q q1 q2 => yS q (by omega) (by omega) (by omega) (by omega) (by omega)) c.hi.1
    · have h4 := c.hi.2.2.2.1
      unfold IE at h4 ⊢
      rw [yk _ (by omega), yk _ (by omega), yk _ (by omega), yk _ (by omega), ya _ (by omega), ya _ (by omega)]
      exact h4
    · intro t ht
      by_cases hts : t = s'
      · subst hts
        refine ⟨q_sh_fr z4 (yq _ (by omega) (by omega) (by omega)) (yq _ (by omega) (by omega) (by omega)), ?_, fun _ => ⟨S.1 (m + 1), fun j hj => by rw [y5]; exact o_cpn_in hj, ?_⟩⟩
        · rw [y6, u_s, yq _ (by omega) (by omega) (by omega), z3, u_s]
        · exact q_any_frame (M := z.1) (fun q q1 q2 => yq q (by omega) (by omega) (by omega)) z5
      · obtain ⟨h1, h2, h3⟩ := hIS t ht
        refine ⟨q_sh_fr h1 (yS _ (by omega) (by omega) (by omega) (by omega) (by omega)) (yS _ (by omega) (by omega) (by omega) (by omega) (by omega)), ?_, fun hn => ?_⟩
        · rw [y6, u_k hts, ya _ (by omega)]; exact h2
        · rw [ya _ (by omega)] at hn
          obtain ⟨r, r1, r2⟩ := h3 hn
          exact ⟨r, fun j hj => by rw [y5, o_cpn_out hj hts]; exact r1 j hj, q_any_frame (M := S.1) (fun q q1 q2 => yS q (by omega) (by omega) (by omega) (by omega) (by omega)) r2⟩
    · rw [← hy, m_r (by omega), r_r (by omega), m_s]
    · rw [← hy, e2]
      rfl
theorem w_3086 {g : ev_G} {B k0 a m o1 o2 : Nat} {u5 : Int32} {S : ev_S} {Q : ev_O → ev_S → Prop} (c : CS g B k0 a m o1 o2 u5 S Q) : KA g B 3086 k0 a m o1 o2 u5 S Q := by
  obtain ⟨n, lim, np, L, d, ρ, hI, hL, hd, hg, hk⟩ := c.hi.1
  refine sg_L_law_3086 k0 a m o1 o2 u5 ⟨c.v1, ?_⟩
  generalize ev_sx g (u5 + 1).toNatClampNeg = x1
  have hm := c.hm
  have hIS := c.hi.2.2.2.2.1
  obtain ⟨u, hh, hu, h6⟩ := c.hi.2.2.1
  refine sg_L_restore_0 a _ _ (x_restore hh (q_sh_gm hg) (fun h => Or.inr (Or.inl ⟨rfl, _, rfl, ?_⟩)) (fun s hx hs h0 => Or.inr (Or.inr ⟨rfl, _, rfl, ?_⟩)) (fun s hx hs h0 => ?_))
  · exact c_restore m _ (fun _ => c.erm (by decide)) (fun s hx hs => absurd ⟨s, hx, hs⟩ h) (fun s hx hs => absurd ⟨s, hx, hs⟩ h)
  · refine c_restore m _ (fun h => absurd ⟨s, hx, hs⟩ h) (fun s' hx' hs' k0 => c.erm (by decide)) (fun s' hx' hs' k0 => ?_)
    have e_s := ofi (hx'.symm.trans hx) (by omega) (by omega)
    subst e_s
    exact absurd ((hIS s' hs').2.1.mpr h0) k0
  · obtain ⟨h1, h2, h3⟩ := hIS s hs
    obtain ⟨r, r1, r2⟩ := h3 h0
    refine ⟨r, r2, fun z z1 z2 z3 z4 z5 => Or.inl ⟨_, rfl, fun S2 e2 => ⟨_, rfl, ?_⟩⟩⟩
    have eq2 : S2.1 = z.1 := by rw [e2]
    have zm : ∀ q, m ≤ q → S2.1 q = S.1 q := fun q hq => by rw [eq2]; exact z2 q (by omega) (by omega)
    refine c_restore m _ (fun h => absurd ⟨s, hx, hs⟩ h) (fun s' hx' hs' k0 => ?_) (fun s' hx' hs' k0 => ?_)
    · have e_s := ofi (hx'.symm.trans hx) (by omega) (by omega)
      subst e_s
      rw [zm _ (by omega)] at k0
      exact absurd (h2.mp k0) h0
    · have e_s := ofi (hx'.symm.trans hx) (by omega) (by omega)
      subst e_s
      rw [zm _ (by omega), zm _ (by omega), r1 2 (by omega)]
      generalize hy : ev_up (ev_ur (ev_up S2 m 7 0) (m + 1) (o_un (S.1 (m + 1)) (S.1 (m + 5)) s' 0)) m 6 0 = y
      have yq : ∀ q, q ≠ m → q ≠ m + 1 → y.1 q = z.1 q := fun q q0 q1 => by rw [← hy, m_r q0, r_r q1, m_r q0, eq2]
      have y1 : y.1 (m + 1) = o_un (S.1 (m + 1)) (S.1 (m + 5)) s' 0 := by rw [← hy, m_r (by omega), r_s]
      have yk : ∀ j, j ≠ 6 → j ≠ 7 → y.1 m j = S.1 m j := fun j j6 j7 => by rw [← hy, m_k j6, r_r (by omega), m_k j7, zm _ (by omega)]
      refine ⟨_, rfl, tl_ok ?_ ?_ (c.k y (INV_set hm c.hi (fun q q1 q2 q3 => by rw [yq q (by omega) (by omega)]; exact z2 q (by omega) (by omega)) (q_sh_fr c.hi.2.1 (by rw [yq _ (by omega) (by omega)]; exact z2 _ (by omega) (by omega)) (by rw [yq _ (by omega) (by omega)]; exact z2 _ (by omega) (by omega))) ?_ ⟨0, ?_, by omega, ?_⟩ (fun q q1 q2 q3 q4 => by rw [yq q (by omega) (by omega)]; exact z2 q (by omega) (by omega)) (fun j hj => yk j (by omega) (by omega))))⟩
      · rw [← hy, m_k (by omega), r_r (by omega), m_s]
      · rw [← hy, e2]
        rfl
      · rw [y1]
        refine q_any_lt (r := r) (fun j hj => ?_) (q_any_frame (M := z.1) (fun q q1 q2 => yq q (by omega) (by omega)) z5)
        unfold o_un
        rw [if_pos ⟨by omega, hj⟩]
        exact r1 j hj
      · rw [yq _ (by omega) (by omega), z2 _ (by omega) (by omega)]
        exact q_his_fr (M := z.1) (fun q q1 q2 => yq q (by omega) (by omega)) z3
      · rw [← hy, m_s]
        rfl
theorem w_448 {g : ev_G} {B k0 a m o1 o2 : Nat} {u5 : Int32} {S : ev_S} {Q : ev_O → ev_S → Prop} (c : CS g B k0 a m o1 o2 u5 S Q) : KA g B 448 k0 a m o1 o2 u5 S Q := by
  obtain ⟨n', lim, np, L, d, ρ, hI, hL, hd, hg, hk⟩ := c.hi.1
  have hm := c.hm
  have hIS := c.hi.2.2.2.2.1
  have h4 := c.hi.2.2.2.1
  obtain ⟨u, hh, hu, h6⟩ := c.hi.2.2.1
  obtain ⟨n, hn, t1, t2, t3⟩ := c.hi.2.2.2.2.2.1
  have ho := c.hi.2.2.2.2.2.2
  refine sg_L_law_448 k0 a m o1 o2 u5 (x_load (n := n) (T := S.1 (a + 2)) (A := S.1 (m + 1)) hn t1 (fun j _ => rfl) c.hi.2.1 (q_sh_gm hg) hh (fun e p he hc z z1 z2 z3 z4 z5 z6 => ⟨_, rfl, ?_⟩) (fun r he z z1 z2 z3 z4 z5 z6 z7 z8 => ⟨_, rfl, ?_⟩))
  · obtain ⟨w1, w2, w3, w4⟩ := z1
    have zm : ∀ q, m ≤ q → z.1 q = S.1 q := fun q hq => w2 q (by omega) (by omega) (by omega) (by omega) (by omega)
    refine c_load (n := n) (T := S.1 (a + 2)) hn (fun j hj => (t3 j hj).2) (by rw [zm _ (by omega)]; exact t2) (fun j hj => by rw [zm _ (by omega)]; exact (t3 j hj).1) (fun e' p' he' hc' y y1 y2 y3 y4 y5 y6 => ⟨_, rfl, ?_⟩) (fun r' he' => ?_)
    · rw [zm _ (by omega), he] at he'
      cases he'
      obtain ⟨v1, v2, v3, v4, v5⟩ := y1
      have yS : ∀ q, q ≠ m → q ≠ m + 1 → q ≠ m + 3 → q ≠ m + 6 → q ≠ a → q ≠ a + 1 → (q < a + 52 ∨ a + 88 ≤ q) → y.1 q = S.1 q := fun q q0 q1 q3 q6 qa qa1 hq => by
        rw [v2 q q0 q1 q3 q6]
        by_cases hr : (a + 11 ≤ q ∧ q < a + 47) ∨ q = a + 93
        · exact z2 q hr
        · exact w2 q qa qa1 (by omega) (by omega) hq
      have ym1 : ∀ j, j < 2091 → y.1 (m + 1) j = S.1 (m + 1) j := fun j hj => by rw [y6 j hj, zm _ (by omega)]
      have ya : y.1 a = z.1 a := v2 _ (by omega) (by omega) (by omega) (by omega)
      have ym6 : y.1 (m + 6) = S.1 (m + 6) := by rw [y5, zm _ (by omega)]
      refine j_pos rfl (c.k2 y ⟨q_any_lt ym1 (q_any_frame (M := S.1) (fun q q1 q2 => yS q (by omega) (by omega) (by omega) (by omega) (by omega) (by omega) (by omega)) c.hi.1), q_sh_fr w4 (v2 _ (by omega) (by omega) (by omega) (by omega)) (v2 _ (by omega) (by omega) (by omega) (by omega)), IH_fr c.hi.2.2.1 (fun q q1 q2 => yS q (by omega) (by omega) (by omega) (by omega) (by omega) (by omega) (by omega)) (yS _ (by omega) (by omega) (by omega) (by omega) (by omega) (by omega) (by omega)) (by rw [y4, zm _ (by omega)]), ⟨?_, ?_, ?_, ?_⟩, ?_, ⟨0, by omega, ?_, ?_, fun j hj => by omega⟩, IO_fr ho (yS _ (by omega) (by omega) (by omega) (by omega) (by omega) (by omega) (by omega)) (yS _ (by omega) (by omega) (by omega) (by omega) (by omega) (by omega) (by omega)) (yS _ (by omega) (by omega) (by omega) (by omega) (by omega) (by omega) (by omega)) ?_⟩)
      · rw [v3 _ (by omega), zm _ (by omega)]; exact h4.1
      · rw [v3 _ (by omega), zm _ (by omega)]; exact h4.2.1
      · rw [y2, ya, z5]
      · rw [y3, ya, z6]
      · refine IS_fr (M := S.1) hIS (fun q q1 q2 => yS q (by omega) (by omega) (by omega) (by omega) (by omega) (by omega) (by omega)) (yS _ (by omega) (by omega) (by omega) (by omega) (by omega) (by omega) (by omega)) ym6 (fun s hs => ?_)
        rw [ya]
        have hs' : s = 0 ∨ s = 1 := by omega
        rcases hs' with rfl | rfl
        · exact z3
        · exact z4
      · rw [v2 _ (by omega) (by omega) (by omega) (by omega)]; exact w3
      · rw [v5]; rfl
      · rw [v3 _ (by omega), zm _ (by omega)]
    · rw [zm _ (by omega), he] at he'
      cases he'
  · obtain ⟨w1, w2, w3, w4⟩ := z1
    have zm : ∀ q, m ≤ q → z.1 q = S.1 q := fun q hq => w2 q (by omega) (by omega) (by omega) (by omega) (by omega)
    refine c_load (n := n) (T := S.1 (a + 2)) hn (fun j hj => (t3 j hj).2) (by rw [zm _ (by omega)]; exact t2) (fun j hj => by rw [zm _ (by omega)]; exact (t3 j hj).1) (fun e' p' he' => ?_) (fun r' he' N lim' np' hsu hnp' y y1 y2 y3 y4 y5 y6 y7 => ⟨_, rfl, ?_⟩)
    · rw [zm _ (by omega), he] at he'
      cases he'
    · rw [zm _ (by omega), he] at he'
      cases he'
      obtain ⟨v1, v2, v3, v4, v5⟩ := y1
      have yz : ∀ q, q ≠ m → q ≠ m + 1 → q ≠ m + 3 → q ≠ m + 6 → y.1 q = z.1 q := v2
      have yS : ∀ q, q ≠ m → q ≠ m + 1 → q ≠ m + 3 → q ≠ m + 6 → q ≠ a → q ≠ a + 1 → q ≠ a + 93 → (q < a + 11 ∨ a + 47 ≤ q) → (q < a + 52 ∨ a + 88 ≤ q) → y.1 q = S.1 q := fun q q0 q1 q3 q6 qa qa1 q93 hq hq2 => by rw [v2 q q0 q1 q3 q6]; exact w2 q qa qa1 q93 hq hq2
      have ya : y.1 a = z.1 a := v2 _ (by omega) (by omega) (by omega) (by omega)
      refine j_pos rfl (c.k2 y ⟨by rw [y7]; exact q_any_frame (M := z.1) (fun q q1 q2 => yz q (by omega) (by omega) (by omega) (by omega)) z2, q_sh_fr w4 (yz _ (by omega) (by omega) (by omega) (by omega)) (yz _ (by omega) (by omega) (by omega) (by omega)), ⟨0, ?_, by omega, y4⟩, ⟨?_, ?_, ?_, ?_⟩, ?_, ⟨0, by omega, ?_, ?_, fun j hj => by omega⟩, IO_fr ho (yS _ (by omega) (by omega) (by omega) (by omega) (by omega) (by omega) (by omega) (by omega) (by omega)) (yS _ (by omega) (by omega) (by omega) (by omega) (by omega) (by omega) (by omega) (by omega) (by omega)) (yS _ (by omega) (by omega) (by omega) (by omega) (by omega) (by omega) (by omega) (by omega) (by omega)) ?_⟩)
      · rw [yz (m + 4) (by omega) (by omega) (by omega) (by omega), zm _ (by omega)]
        exact q_his_fr (M := z.1) (fun q q1 q2 => yz q (by omega) (by omega) (by omega) (by omega)) z4
      · rw [v3 _ (by omega), zm _ (by omega)]; exact h4.1
      · rw [v3 _ (by omega), zm _ (by omega)]; exact h4.2.1
      · rw [y2, ya, z7]
      · rw [y3, ya, z8]
      · intro s hs
        have e8 : y.1 a (8 + s) = 0 := by
          rw [ya]
          have hs' : s = 0 ∨ s = 1 := by omega
          rcases hs' with rfl | rfl
          · exact z5
          · exact z6
        have e6 : y.1 (m + 6) s = 0 := by
          have hs' : s = 0 ∨ s = 1 := by omega
          rcases hs' with rfl | rfl
          · exact y5
          · exact y6
        exact ⟨q_sh_fr (hIS s hs).1 (yS _ (by omega) (by omega) (by omega) (by omega) (by omega) (by omega) (by omega) (by omega) (by omega)) (yS _ (by omega) (by omega) (by omega) (by omega) (by omega) (by omega) (by omega) (by omega) (by omega)), ⟨fun _ => e8, fun _ => e6⟩, fun hn => absurd e8 hn⟩
      · rw [yz _ (by omega) (by omega) (by omega) (by omega)]; exact w3
      · rw [v5]; rfl
      · rw [v3 _ (by omega), zm _ (by omega)]
theorem w_461 {g : ev_G} {B k0 a m o1 o2 : Nat} {u5 : Int32} {S : ev_S} {Q : ev_O → ev_S → Prop} (c : CS g B k0 a m o1 o2 u5 S Q) : KA g B 461 k0 a m o1 o2 u5 S Q := by
  have hm := c.hm
  have h4 := c.hi.2.2.2.1
  have ho := c.hi.2.2.2.2.2.2
  obtain ⟨u, hh, hu, h6⟩ := c.hi.2.2.1
  obtain ⟨n, hn, t1, t2, t3⟩ := c.hi.2.2.2.2.2.1
  refine sg_L_law_461 k0 a m o1 o2 u5 (x_script (n := n) (T := S.1 (a + 2)) hn t1 (fun j _ => rfl) c.hi.1 hh (fun e p he hc z z1 z2 z3 z4 z5 z6 => ⟨_, rfl, ?_⟩) (fun L k he z z1 z2 z3 z4 z5 z6 z7 z8 => ⟨_, rfl, ?_⟩))
  · have zm : ∀ q, m ≤ q → z.1 q = S.1 q := fun q hq => z2 q (by omega) (by omega) (by omega)
    refine c_script (n := n) (u := u) (T := S.1 (a + 2)) hn (fun j hj => (t3 j hj).2) (by rw [zm _ (by omega)]; exact t2) (fun j hj => by rw [zm _ (by omega)]; exact (t3 j hj).1) (by rw [zm _ (by omega)]; exact q_any_o c.hi.1) hu (by rw [zm _ (by omega)]; exact h6) (by rw [zm _ (by omega)]; exact h4.1) (fun e' p' he' hc' y y1 y2 y3 y4 y5 y6 => ⟨_, rfl, ?_⟩) (fun L' k' he' => ?_)
    · rw [he] at he'
      cases he'
      have yS : ∀ q, q ≠ m → q ≠ m + 8 → q ≠ m + 9 → q ≠ a → q ≠ a + 1 → (q < a + 3 ∨ a + 9 ≤ q) → y.1 q = S.1 q := fun q q0 q8 q9 qa qa1 hq => by rw [y2 q q0 q8 q9]; exact z2 q qa qa1 hq
      have ya : y.1 a = z.1 a := y2 _ (by omega) (by omega) (by omega)
      refine j_pos rfl (c.k2 y ⟨by rw [yS (m + 1) (by omega) (by omega) (by omega) (by omega) (by omega) (by omega)]; exact q_any_frame (M := S.1) (fun q q1 q2 => yS q (by omega) (by omega) (by omega) (by omega) (by omega) (by omega)) c.hi.1, q_sh_fr c.hi.2.1 (yS _ (by omega) (by omega) (by omega) (by omega) (by omega) (by omega)) (yS _ (by omega) (by omega) (by omega) (by omega) (by omega) (by omega)), IH_fr c.hi.2.2.1 (fun q q1 q2 => yS q (by omega) (by omega) (by omega) (by omega) (by omega) (by omega)) (yS _ (by omega) (by omega) (by omega) (by omega) (by omega) (by omega)) (by rw [y3 _ (by omega), zm _ (by omega)]), ⟨?_, ?_, ?_, ?_⟩, IS_fr c.hi.2.2.2.2.1 (fun q q1 q2 => yS q (by omega) (by omega) (by omega) (by omega) (by omega) (by omega)) (yS _ (by omega) (by omega) (by omega) (by omega) (by omega) (by omega)) (yS _ (by omega) (by omega) (by omega) (by omega) (by omega) (by omega)) (fun s hs => by rw [ya]; exact z4 _ (by omega) (by omega)), ⟨0, by omega, ?_, y4, fun j hj => by omega⟩, IO_fr ho (yS _ (by omega) (by omega) (by omega) (by omega) (by omega) (by omega)) (yS _ (by omega) (by omega) (by omega) (by omega) (by omega) (by omega)) (yS _ (by omega) (by omega) (by omega) (by omega) (by omega) (by omega)) ?_⟩)
      · rw [y3 _ (by omega), zm _ (by omega)]; exact h4.1
      · rw [y3 _ (by omega), zm _ (by omega)]; exact h4.2.1
      · rw [y5, ya, z5]
      · rw [y6, ya, z6]
      · rw [y2 _ (by omega) (by omega) (by omega)]; exact z3
      · rw [y3 _ (by omega), zm _ (by omega)]
    · rw [he] at he'
      cases he'
  · have zm : ∀ q, m ≤ q → z.1 q = S.1 q := fun q hq => z2 q (by omega) (by omega) (by omega) (by omega) (by omega)
    refine c_script (n := n) (u := u) (T := S.1 (a + 2)) hn (fun j hj => (t3 j hj).2) (by rw [zm _ (by omega)]; exact t2) (fun j hj => by rw [zm _ (by omega)]; exact (t3 j hj).1) (by rw [zm _ (by omega)]; exact q_any_o c.hi.1) hu (by rw [zm _ (by omega)]; exact h6) (by rw [zm _ (by omega)]; exact h4.1) (fun e' p' he' => ?_) (fun L' k' he' y y1 y2 y3 y4 y5 y6 y7 y8 y9 y10 y11 => ⟨_, rfl, ?_⟩)
    · rw [he] at he'
      cases he'
    · rw [he] at he'
      cases he'
      rw [zm (m + 1) (by omega)] at y8 y10
      rw [zm (m + 4) (by omega)] at y10
      rw [zm (m + 1) (by omega)]
      have yz : ∀ q, q ≠ m → q ≠ m + 1 → q ≠ m + 4 → q ≠ m + 8 → q ≠ m + 9 → y.1 q = z.1 q := y2
      have yS : ∀ q, q ≠ m → q ≠ m + 1 → q ≠ m + 4 → q ≠ m + 8 → q ≠ m + 9 → q ≠ a → q ≠ a + 1 → (q < a + 3 ∨ a + 9 ≤ q) → (q < a + 11 ∨ a + 52 ≤ q) → (q < a + 93 ∨ a + 423 ≤ q) → y.1 q = S.1 q := fun q q0 q1 q4 q8 q9 qa qa1 h1 h2 h3 => by rw [y2 q q0 q1 q4 q8 q9]; exact z2 q qa qa1 h1 h2 h3
      have ya : y.1 a = z.1 a := y2 _ (by omega) (by omega) (by omega) (by omega) (by omega)
      refine j_pos rfl (c.k2 y ⟨by rw [y8]; exact q_any_frame (M := z.1) (fun q q1 q2 => yz q (by omega) (by omega) (by omega) (by omega) (by omega)) z7, q_sh_fr c.hi.2.1 (yS _ (by omega) (by omega) (by omega) (by omega) (by omega) (by omega) (by omega) (by omega) (by omega) (by omega)) (yS _ (by omega) (by omega) (by omega) (by omega) (by omega) (by omega) (by omega) (by omega) (by omega) (by omega)), ⟨o_ku u, ?_, z8.2.1, y11⟩, ⟨?_, y7, ?_, ?_⟩, IS_fr c.hi.2.2.2.2.1 (fun q q1 q2 => yS q (by omega) (by omega) (by omega) (by omega) (by omega) (by omega) (by omega) (by omega) (by omega) (by omega)) (yS _ (by omega) (by omega) (by omega) (by omega) (by omega) (by omega) (by omega) (by omega) (by omega) (by omega)) (yS _ (by omega) (by omega) (by omega) (by omega) (by omega) (by omega) (by omega) (by omega) (by omega) (by omega)) (fun s hs => by rw [ya]; exact z4 _ (by omega) (by omega)), ⟨0, by omega, ?_, y4, fun j hj => by omega⟩, IO_fr ho (yS _ (by omega) (by omega) (by omega) (by omega) (by omega) (by omega) (by omega) (by omega) (by omega) (by omega)) (yS _ (by omega) (by omega) (by omega) (by omega) (by omega) (by omega) (by omega) (by omega) (by omega) (by omega)) (yS _ (by omega) (by omega) (by omega) (by omega) (by omega) (by omega) (by omega) (by omega) (by omega) (by omega)) ?_⟩)
      · rw [y10]
        exact q_his_fr (M := z.1) (fun q q1 q2 => yz q (by omega) (by omega) (by omega) (by omega) (by omega)) z8
      · rw [y3 _ (by omega), zm _ (by omega)]; exact h4.1
      · rw [y5, ya, z5]
      · rw [y6, ya, z6]
      · rw [yz _ (by omega) (by omega) (by omega) (by omega) (by omega)]; exact z3
      · rw [y3 _ (by omega), zm _ (by omega)]
