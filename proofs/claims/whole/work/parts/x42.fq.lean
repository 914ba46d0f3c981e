/-! ===== the law's cases: what is written ===== -/
theorem INV_out {S y : ev_S} {a m : Nat} {W : List Int32} {R R' : Nat → Int32} (hm : m = a + 505) (h : INV S.1 a m) (yS : ∀ q, q ≠ a + 9 → q ≠ a + 10 → q ≠ m → q ≠ m + 10 → y.1 q = S.1 q) (yk : ∀ j, j ≠ 7 → j ≠ 27 → y.1 m j = S.1 m j) (hW : W.length ≤ 400) (h1 : y.1 (a + 9) 1 = Int32.ofNat W.length) (h2 : y.1 m 27 = Int32.ofNat W.length) (h3 : y.1 (a + 10) = app R 0 W) (h4 : y.1 (m + 10) = app R' 0 W) : INV y.1 a m := by
  refine ⟨?_, q_sh_fr h.2.1 (yS _ (by omega) (by omega) (by omega) (by omega)) (yS _ (by omega) (by omega) (by omega) (by omega)), IH_fr h.2.2.1 (fun q q1 q2 => yS q (by omega) (by omega) (by omega) (by omega)) (yS _ (by omega) (by omega) (by omega) (by omega)) (yk _ (by omega) (by omega)), ?_, IS_fr h.2.2.2.2.1 (fun q q1 q2 => yS q (by omega) (by omega) (by omega) (by omega)) (yS _ (by omega) (by omega) (by omega) (by omega)) (yS _ (by omega) (by omega) (by omega) (by omega)) (fun s _ => by rw [yS a (by omega) (by omega) (by omega) (by omega)]), IT_fr h.2.2.2.2.2.1 (yS _ (by omega) (by omega) (by omega) (by omega)) (yS _ (by omega) (by omega) (by omega) (by omega)) (yS _ (by omega) (by omega) (by omega) (by omega)) (yk _ (by omega) (by omega)), ⟨W.length, hW, h1, h2, fun j hj => ?_⟩⟩
  · rw [yS (m + 1) (by omega) (by omega) (by omega) (by omega)]
    exact q_any_frame (M := S.1) (fun q q1 q2 => yS q (by omega) (by omega) (by omega) (by omega)) h.1
  · have h5 := h.2.2.2.1
    unfold IE at h5 ⊢
    rw [yk _ (by omega) (by omega), yk _ (by omega) (by omega), yk _ (by omega) (by omega), yk _ (by omega) (by omega), yS a (by omega) (by omega) (by omega) (by omega)]
    exact h5
  · rw [h3, h4]
    exact (app_in W R R' 0 j (by omega) (by omega)).1
theorem oC_0 {S z : ev_S} {e : Nat} (ez : z = ev_up S e 1 0) : oC S z e [] := ⟨by rw [ez]; rfl, fun q q0 _ => by rw [ez, m_r q0], by rw [ez, m_s]; rfl, by rw [ez, m_r (by omega)]; rfl⟩
theorem oR_0 {S z y : ev_S} {m : Nat} (ez : z = ev_up S m 7 0) (ey : y = ev_up z m 27 0) : oR S y m [] := ⟨by rw [ey, ez]; rfl, fun q q0 _ => by rw [ey, m_r q0, ez, m_r q0], by rw [ey, m_s]; rfl, fun j j7 j27 => by rw [ey, m_k j27, ez, m_k j7], by rw [ey, m_k (by omega), ez, m_s], by rw [ey, m_r (by omega), ez, m_r (by omega)]; rfl⟩
theorem w_2836 {g : ev_G} {B k0 a m o1 o2 : Nat} {u5 : Int32} {S : ev_S} {Q : ev_O → ev_S → Prop} (c : CS g B k0 a m o1 o2 u5 S Q) : KA g B 2836 k0 a m o1 o2 u5 S Q := by
  obtain ⟨n, lim, np, L, d, ρ, hI, hL, hd, hg, hk⟩ := c.hi.1
  refine sg_L_law_2836 k0 a m o1 o2 u5 ⟨c.v1, ?_⟩
  generalize ev_sx g (u5 + 1).toNatClampNeg = x1
  have hm := c.hm
  have h8 := hI.1.1.2.1
  have bad : ¬ t_X9_isPlayer x1 = true → ev_Cv g m_X10_writeBoard 3 0 [ev_o 10 m, ev_i x1] S (RI g B k0 a m o1 o2 u5 Q 1) := by
    intro h
    refine sg_X10_writeBoard_0 m _ (fun S1 e1 => j_neg (rpn h) (fun S3 e3 => ?_))
    rw [e3, e1, up_up7]
    exact c.eri (by decide)
  refine sg_L_writeBoard_0 a _ _ (sg_X9_writeBoard_0 a _ ⟨fun h => ?_, fun h => Or.inr ⟨rfl, _, rfl, bad h⟩⟩)
  obtain ⟨p, rfl, hp⟩ := t_pl.mp h
  obtain ⟨hmd, hml, h60⟩ := n_mad (i_dk_of hI.1 hp)
  rw [a_desk hp]
  have hlen : (wall (S.1 (m + 1)) p n n).length < 400 := by
    have h1 := wall_len (S.1 (m + 1)) p n n
    have h2 : n * (n + 1) ≤ 8 * 9 := Nat.mul_le_mul h8 (by omega)
    omega
  have fin : ∀ z : ev_S, oC S z (a + 9) (wall (S.1 (m + 1)) p n n) → (∃ v1_ : Int32, (.inl (some (ev_i (z.1 (a + 9) 1))) : ev_O) = .inl (some (ev_i v1_)) ∧ ∀ S2 : ev_S, S2 = (z.1, (v1_.toInt64, z.2.2)) → ∃ v1_ : Int32, (.inl (some (ev_i 0)) : ev_O) = .inl (some (ev_i v1_)) ∧ ev_Cv g m_X10_writeBoard 3 0 [ev_o 10 m, ev_i (Int32.ofNat p)] S2 (RI g B k0 a m o1 o2 u5 Q v1_)) := by
    intro z hz
    obtain ⟨z1, z2, z3, z4⟩ := hz
    refine ⟨_, rfl, fun S2 e2 => ⟨_, rfl, ?_⟩⟩
    have eq2 : S2.1 = z.1 := by rw [e2]
    have zm : ∀ q, m ≤ q → S2.1 q = S.1 q := fun q hq => by rw [eq2]; exact z2 q (by omega) (by omega)
    refine sg_X10_writeBoard_0 m _ (fun S1 e1 => j_pos (rp.mpr ⟨p, rfl, hp⟩) (fun S4 e4 => ?_))
    have h0 := oR_0 e1 e4
    have er : S2.1 (m + 1) = S.1 (m + 1) := zm _ (by omega)
    have last : ∀ y, oR S2 y m (wall (S.1 (m + 1)) p n n) → RI g B k0 a m o1 o2 u5 Q 0 (.inl (some (ev_i (Int32.ofNat (wall (S.1 (m + 1)) p n n).length)))) y := by
      intro y hy
      obtain ⟨y1, y2, y3, y4, y7, y5⟩ := hy
      refine c.fni (INV_out hm c.hi (fun q q9 q10 qm qm10 => by rw [y2 q qm qm10, eq2]; exact z2 q q9 q10) (fun j j7 j27 => by rw [y4 j j7 j27, zm _ (by omega)]) (Nat.le_of_lt hlen) (by rw [y2 _ (by omega) (by omega), eq2]; exact z3) y3 (by rw [y2 _ (by omega) (by omega), eq2]; exact z4) y5) y7 ?_
      rw [y1, e2, ← z3]
    have hn2 : S2.1 (m + 1) 0 = Int32.ofNat n := by rw [er]; exact hI.1.1.1
    rw [hn2, Int32.sub_eq_add_neg]
    refine c_brd (S := S2) h8 hp hn2 n S4 [] (Nat.le_refl _) h0 (by show 0 + n * 9 < 400; omega) (fun y hy => ?_)
    rw [List.nil_append, er] at hy ⊢
    exact last y hy
  have b4' : S.1 (a + 11 + 1 + 9 * p + 1) 4 = Int32.ofNat n := by rw [(hg.1 p hp).2.1.2.2.2.1]; exact hI.1.1.1
  have hw : ∀ s, s < 64 → S.1 (a + 11 + 1 + 9 * p + 1 + 1) s = S.1 (m + 1) (26 + 64 * p + s) := (hg.1 p hp).2.1.1
  refine sg_X4_showBoard_0 (a + 9) _ (fun S1 e1 => ?_)
  have e4 : S1.1 (a + 11 + 1 + 9 * p + 1) 4 = Int32.ofNat n := by rw [e1, m_r (by omega)]; exact b4'
  rw [e4, Int32.sub_eq_add_neg]
  exact t_all (S := S) (r := S.1 (m + 1)) (p := p) h8 (by omega) hw n S1 [] (Nat.le_refl _) (oC_0 e1) (by show 0 + n * 9 < 400; omega) (fun z hz => ⟨rfl, Or.inl (fin z hz)⟩)
