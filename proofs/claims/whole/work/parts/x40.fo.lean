/-! ===== the law's cases: text ===== -/
theorem w_288 {g : ev_G} {B k0 a m o1 o2 : Nat} {u5 : Int32} {S : ev_S} {Q : ev_O → ev_S → Prop} (c : CS g B k0 a m o1 o2 u5 S Q) : KA g B 288 k0 a m o1 o2 u5 S Q := by
  obtain ⟨n, lim, np, L, d, ρ, hI, hL, hd, hg, hk⟩ := c.hi.1
  refine sg_L_law_288 k0 a m o1 o2 u5 ⟨c.v1, c.v2, c.v3, c.v4, c.v5, ?_⟩
  generalize ev_sx g (u5 + 1).toNatClampNeg = x1
  generalize ev_sx g (u5 + 2).toNatClampNeg = x2
  generalize ev_sx g (u5 + 3).toNatClampNeg = x3
  generalize ev_sx g (u5 + 4).toNatClampNeg = x4
  generalize ev_sx g (u5 + 5).toNatClampNeg = x5
  have hm := c.hm
  obtain ⟨n', hn, t1, t2, t3⟩ := c.hi.2.2.2.2.2.1
  have l1 : (b4 x1).length ≤ 4 := bl_le x1 _
  have l2 : (b4 x2).length ≤ 4 := bl_le x2 _
  have l3 : (b4 x3).length ≤ 4 := bl_le x3 _
  have l4 : (b4 x4).length ≤ 4 := bl_le x4 _
  have l5 : (b4 x5).length ≤ 4 := bl_le x5 _
  have e800 : (800 : Int32) = Int32.ofNat 800 := rfl
  have hW : ((((b4 x1 ++ b4 x2) ++ b4 x3) ++ b4 x4) ++ b4 x5).length = (b4 x1).length + (b4 x2).length + (b4 x3).length + (b4 x4).length + (b4 x5).length := by simp only [List.length_append]
  have mem : ∀ v, v ∈ ((((b4 x1 ++ b4 x2) ++ b4 x3) ++ b4 x4) ++ b4 x5) → ¬ v = -1 := by
    intro v hv
    simp only [List.mem_append] at hv
    rcases hv with (((hv | hv) | hv) | hv) | hv
    · exact bl_n1 _ _ v hv
    · exact bl_n1 _ _ v hv
    · exact bl_n1 _ _ v hv
    · exact bl_n1 _ _ v hv
    · exact bl_n1 _ _ v hv
  -- the reference
  have ref : ∀ (z : ev_S) (X : ev_O → ev_S → Prop), z.1 m = S.1 m → (∀ y, txr (ev_up z m 7 0) y m n' ((((b4 x1 ++ b4 x2) ++ b4 x3) ++ b4 x4) ++ b4 x5) → (800 < Int32.ofNat (n' + ((((b4 x1 ++ b4 x2) ++ b4 x3) ++ b4 x4) ++ b4 x5).length) → X (.inl (some (ev_i 0))) (ev_up (ev_up y m 7 1) m 10 (Int32.ofNat n'))) ∧ (¬ 800 < Int32.ofNat (n' + ((((b4 x1 ++ b4 x2) ++ b4 x3) ++ b4 x4) ++ b4 x5).length) → X (.inl (some (ev_i (Int32.ofNat (n' + ((((b4 x1 ++ b4 x2) ++ b4 x3) ++ b4 x4) ++ b4 x5).length))))) y)) → ev_Cv g m_X10_append 2 0 [ev_o 10 m, ev_i x1, ev_i x2, ev_i x3, ev_i x4, ev_i x5] z X := by
    intro z X hz hX
    refine sg_X10_append_0 m _ _ _ _ _ (fun S3 e3 => ?_)
    have s10 : S3.1 m 10 = Int32.ofNat n' := by rw [e3, m_k (by omega), hz]; exact t2
    have z10 : z.1 m 10 = Int32.ofNat n' := by rw [hz]; exact t2
    rw [← e3] at hX
    refine sg_X10_feeds_0 m _ (c_feeds3 (u := x1) [24, 16, 8, 0] 24 n' S3 _ chn4 s10 (show n' + (b4 x1).length ≤ 2000 by omega) (fun y1 h1 => ⟨rfl, ?_⟩))
    refine sg_X10_feeds_0 m _ (c_feeds3 (u := x2) [24, 16, 8, 0] 24 (n' + (b4 x1).length) y1 _ chn4 h1.2.2.1 (show n' + (b4 x1).length + (b4 x2).length ≤ 2000 by (try simp only [List.length_append]); omega) (fun y2 h2 => ⟨rfl, ?_⟩))
    have A2 := txr_tr h1 h2
    refine sg_X10_feeds_0 m _ (c_feeds3 (u := x3) [24, 16, 8, 0] 24 (n' + (b4 x1 ++ b4 x2).length) y2 _ chn4 A2.2.2.1 (show n' + (b4 x1 ++ b4 x2).length + (b4 x3).length ≤ 2000 by (try simp only [List.length_append]); omega) (fun y3 h3 => ⟨rfl, ?_⟩))
    have A3 := txr_tr A2 h3
    refine sg_X10_feeds_0 m _ (c_feeds3 (u := x4) [24, 16, 8, 0] 24 (n' + ((b4 x1 ++ b4 x2) ++ b4 x3).length) y3 _ chn4 A3.2.2.1 (show n' + ((b4 x1 ++ b4 x2) ++ b4 x3).length + (b4 x4).length ≤ 2000 by (try simp only [List.length_append]); omega) (fun y4 h4 => ⟨rfl, ?_⟩))
    have A4 := txr_tr A3 h4
    refine sg_X10_feeds_0 m _ (c_feeds3 (u := x5) [24, 16, 8, 0] 24 (n' + (((b4 x1 ++ b4 x2) ++ b4 x3) ++ b4 x4).length) y4 _ chn4 A4.2.2.1 (show n' + (((b4 x1 ++ b4 x2) ++ b4 x3) ++ b4 x4).length + (b4 x5).length ≤ 2000 by (try simp only [List.length_append]); omega) (fun y5 h5 => ⟨rfl, ?_⟩))
    have A5 := txr_tr A4 h5
    have y7 : y5.1 m 7 = 0 := by rw [A5.2.2.2.1 _ (by omega), e3, m_s]
    have y10 : y5.1 m 10 = Int32.ofNat (n' + ((((b4 x1 ++ b4 x2) ++ b4 x3) ++ b4 x4) ++ b4 x5).length) := A5.2.2.1
    rw [y10, y7, z10]
    obtain ⟨g1, g2⟩ := hX y5 A5
    refine ⟨fun h => ⟨fun _ S7 e7 S8 e8 => ?_, fun h0 => absurd rfl h0⟩, fun h => ⟨fun _ => g2 h, fun h0 => absurd rfl h0⟩⟩
    rw [e8, e7]
    exact g1 h
  refine sg_L_append_0 a _ _ _ _ _ _ (sg_X9_append_0 a _ _ _ _ _ (t_bytesIn x1 _ ⟨_, rfl, t_bytesIn x2 _ ⟨_, rfl, t_bytesIn x3 _ ⟨_, rfl, t_bytesIn x4 _ ⟨_, rfl, t_bytesIn x5 _ ⟨_, rfl, ?_⟩⟩⟩⟩⟩))
  rw [t1, n_add, n_add, n_add, n_add, n_add, ← hW, e800, n_le (by omega) (by omega)]
  rw [e800, n_lt (by omega) (by omega)] at ref
  refine ⟨fun h => ?_, fun h => Or.inr ⟨rfl, _, rfl, ?_⟩⟩
  · refine sg_X9_addBytes_0 a _ (t_addBytes (u := x1) [24, 16, 8, 0] 24 n' S _ chn4 t1 (show n' + (b4 x1).length ≤ 800 by omega) (fun z1 h1 => ⟨rfl, ?_⟩))
    refine sg_X9_addBytes_0 a _ (t_addBytes (u := x2) [24, 16, 8, 0] 24 (n' + (b4 x1).length) z1 _ chn4 h1.2.2.1 (show n' + (b4 x1).length + (b4 x2).length ≤ 800 by (try simp only [List.length_append]); omega) (fun z2 h2 => ⟨rfl, ?_⟩))
    have A2 := txa_tr h1 h2
    refine sg_X9_addBytes_0 a _ (t_addBytes (u := x3) [24, 16, 8, 0] 24 (n' + (b4 x1 ++ b4 x2).length) z2 _ chn4 A2.2.2.1 (show n' + (b4 x1 ++ b4 x2).length + (b4 x3).length ≤ 800 by (try simp only [List.length_append]); omega) (fun z3 h3 => ⟨rfl, ?_⟩))
    have A3 := txa_tr A2 h3
    refine sg_X9_addBytes_0 a _ (t_addBytes (u := x4) [24, 16, 8, 0] 24 (n' + ((b4 x1 ++ b4 x2) ++ b4 x3).length) z3 _ chn4 A3.2.2.1 (show n' + ((b4 x1 ++ b4 x2) ++ b4 x3).length + (b4 x4).length ≤ 800 by (try simp only [List.length_append]); omega) (fun z4 h4 => ⟨rfl, ?_⟩))
    have A4 := txa_tr A3 h4
    refine sg_X9_addBytes_0 a _ (t_addBytes (u := x5) [24, 16, 8, 0] 24 (n' + (((b4 x1 ++ b4 x2) ++ b4 x3) ++ b4 x4).length) z4 _ chn4 A4.2.2.1 (show n' + (((b4 x1 ++ b4 x2) ++ b4 x3) ++ b4 x4).length + (b4 x5).length ≤ 800 by (try simp only [List.length_append]); omega) (fun z5 h5 => ⟨rfl, ?_⟩))
    have A5 := txa_tr A4 h5
    refine Or.inl ⟨_, rfl, fun S2 e2 => ⟨_, rfl, ?_⟩⟩
    have eq2 : S2.1 = z5.1 := by rw [e2]
    have zl : z5.1 (a + 1) 1 = Int32.ofNat (n' + ((((b4 x1 ++ b4 x2) ++ b4 x3) ++ b4 x4) ++ b4 x5).length) := A5.2.2.1
    have zq := A5.2.1
    have zt := A5.2.2.2
    refine ref S2 _ (by rw [eq2, zq _ (by omega) (by omega)]) (fun y hy => ⟨fun h' => absurd h' (by omega), fun _ => ?_⟩)
    obtain ⟨y1, y2, y3, y4, y5⟩ := hy
    have yq : ∀ q, q ≠ m → q ≠ m + 7 → y.1 q = z5.1 q := fun q q0 q7 => by rw [y2 q q0 q7, m_r q0, eq2]
    have yS : ∀ q, q ≠ m → q ≠ m + 7 → q ≠ a + 1 → q ≠ a + 2 → y.1 q = S.1 q := fun q q0 q7 q1 q2 => by rw [yq q q0 q7, zq q q1 q2]
    have yk : ∀ j, j ≠ 7 → j ≠ 10 → y.1 m j = S.1 m j := fun j j7 j10 => by rw [y4 j j10, m_k j7, eq2, zq _ (by omega) (by omega)]
    refine c.fni ⟨?_, q_sh_fr c.hi.2.1 (yS _ (by omega) (by omega) (by omega) (by omega)) (yS _ (by omega) (by omega) (by omega) (by omega)), IH_fr c.hi.2.2.1 (fun q q1 q2 => yS q (by omega) (by omega) (by omega) (by omega)) (yS _ (by omega) (by omega) (by omega) (by omega)) (yk _ (by omega) (by omega)), ?_, IS_fr c.hi.2.2.2.2.1 (fun q q1 q2 => yS q (by omega) (by omega) (by omega) (by omega)) (yS _ (by omega) (by omega) (by omega) (by omega)) (yS _ (by omega) (by omega) (by omega) (by omega)) (fun s _ => by rw [yS a (by omega) (by omega) (by omega) (by omega)]), ⟨n' + ((((b4 x1 ++ b4 x2) ++ b4 x3) ++ b4 x4) ++ b4 x5).length, h, ?_, y3, fun j hj => ?_⟩, IO_fr c.hi.2.2.2.2.2.2 (yS _ (by omega) (by omega) (by omega) (by omega)) (yS _ (by omega) (by omega) (by omega) (by omega)) (yS _ (by omega) (by omega) (by omega) (by omega)) (yk _ (by omega) (by omega))⟩ ?_ ?_
    · rw [yS (m + 1) (by omega) (by omega) (by omega) (by omega)]
      exact q_any_frame (M := S.1) (fun q q1 q2 => yS q (by omega) (by omega) (by omega) (by omega)) c.hi.1
    · have h4 := c.hi.2.2.2.1
      unfold IE at h4 ⊢
      rw [yk _ (by omega) (by omega), yk _ (by omega) (by omega), yk _ (by omega) (by omega), yk _ (by omega) (by omega), yS a (by omega) (by omega) (by omega) (by omega)]
      exact h4
    · rw [yq _ (by omega) (by omega)]; exact zl
    · rw [yq (a + 2) (by omega) (by omega), zt, y5, m_r (by omega), eq2, zq _ (by omega) (by omega), apx_app _ _ _ h]
      by_cases hj' : j < n'
      · rw [app_lt _ _ _ _ hj', app_lt _ _ _ _ hj']
        exact t3 j hj'
      · obtain ⟨b1, b2⟩ := app_in ((((b4 x1 ++ b4 x2) ++ b4 x3) ++ b4 x4) ++ b4 x5) (S.1 (m + 7)) (S.1 (a + 2)) n' j (by omega) hj
        rw [b1] at b2
        exact ⟨b1, mem _ b2⟩
    · rw [y4 _ (by omega), m_s]
    · rw [y1, e2, ← zl]
      rfl
  · refine ref S _ rfl (fun y hy => ⟨fun _ => ?_, fun h' => absurd (by omega) h'⟩)
    obtain ⟨y1, y2, y3, y4, y5⟩ := hy
    generalize hw : ev_up (ev_up y m 7 1) m 10 (Int32.ofNat n') = w
    have wS : ∀ q, q ≠ m → q ≠ m + 7 → w.1 q = S.1 q := fun q q0 q7 => by rw [← hw, m_r q0, m_r q0, y2 q q0 q7, m_r q0]
    have wk : ∀ j, j ≠ 7 → j ≠ 10 → w.1 m j = S.1 m j := fun j j7 j10 => by rw [← hw, m_k j10, m_k j7, y4 j j10, m_k j7]
    refine c.fei ⟨?_, q_sh_fr c.hi.2.1 (wS _ (by omega) (by omega)) (wS _ (by omega) (by omega)), IH_fr c.hi.2.2.1 (fun q q1 q2 => wS q (by omega) (by omega)) (wS _ (by omega) (by omega)) (wk _ (by omega) (by omega)), ?_, IS_fr c.hi.2.2.2.2.1 (fun q q1 q2 => wS q (by omega) (by omega)) (wS _ (by omega) (by omega)) (wS _ (by omega) (by omega)) (fun s _ => by rw [wS a (by omega) (by omega)]), ⟨n', hn, by rw [wS _ (by omega) (by omega)]; exact t1, by rw [← hw, m_s], fun j hj => ?_⟩, IO_fr c.hi.2.2.2.2.2.2 (wS _ (by omega) (by omega)) (wS _ (by omega) (by omega)) (wS _ (by omega) (by omega)) (wk _ (by omega) (by omega))⟩ ?_ (by decide)
    · rw [wS (m + 1) (by omega) (by omega)]
      exact q_any_frame (M := S.1) (fun q q1 q2 => wS q (by omega) (by omega)) c.hi.1
    · have h4 := c.hi.2.2.2.1
      unfold IE at h4 ⊢
      rw [wk _ (by omega) (by omega), wk _ (by omega) (by omega), wk _ (by omega) (by omega), wk _ (by omega) (by omega), wS a (by omega) (by omega)]
      exact h4
    · rw [wS (a + 2) (by omega) (by omega), ← hw, m_r (by omega), m_r (by omega), y5, apx_lt _ _ _ _ hj, m_r (by omega)]
      exact t3 j hj
    · rw [← hw, m_k (by omega), m_s]
theorem w_392 {g : ev_G} {B k0 a m o1 o2 : Nat} {u5 : Int32} {S : ev_S} {Q : ev_O → ev_S → Prop} (c : CS g B k0 a m o1 o2 u5 S Q) : KA g B 392 k0 a m o1 o2 u5 S Q := by
  obtain ⟨n, lim, np, L, d, ρ, hI, hL, hd, hg, hk⟩ := c.hi.1
  refine sg_L_law_392 k0 a m o1 o2 u5 ⟨c.v1, ?_⟩
  generalize ev_sx g (u5 + 1).toNatClampNeg = x1
  have hm := c.hm
  obtain ⟨n', hn, t1, t2, t3⟩ := c.hi.2.2.2.2.2.1
  have rg : ∀ {x : Int32}, (0 ≤ x ∧ x ≤ Int32.ofNat n') → ∃ k, x = Int32.ofNat k ∧ k ≤ n' := by
    rintro x ⟨h0, h1⟩
    have i0 : (0 : Int32).toInt = 0 := rfl
    rw [z_le, n_i (by omega)] at h1
    rw [z_le, i0] at h0
    obtain ⟨q, e1, e2, e3⟩ := n_ofi (x := x) (k := n') h0 h1
    rw [e1, n_i e3] at h1
    exact ⟨q, e1, by omega⟩
  have bad : ¬ (0 ≤ x1 ∧ x1 ≤ Int32.ofNat n') → ev_Cv g m_X10_truncate 2 0 [ev_o 10 m, ev_i x1] S (RI g B k0 a m o1 o2 u5 Q 1) := by
    intro h
    refine sg_X10_truncate_0 m _ (fun S1 e1 => j_neg (by rw [n_in, t2]; exact h) (fun S3 e3 => ?_))
    rw [e3, e1, up_up7]
    exact c.eri (by decide)
  refine sg_L_truncate_0 a _ _ (sg_X9_truncate_0 a _ ⟨fun h => Or.inr ⟨rfl, _, rfl, bad (fun hh => absurd hh.1 (Int32.not_le.mpr h))⟩, fun h0 => ⟨fun h1 S1 e1 => Or.inl ⟨_, rfl, fun S2 e2 => ⟨_, rfl, ?_⟩⟩, fun h1 => Or.inr ⟨rfl, _, rfl, bad (fun hh => h1 (by rw [t1]; exact hh.2))⟩⟩⟩)
  rw [t1] at h1 e2
  obtain ⟨k, rfl, hk'⟩ := rg ⟨Int32.not_lt.mp h0, h1⟩
  have s2q : ∀ q, q ≠ a + 1 → S2.1 q = S.1 q := fun q hq => by rw [e2, e1]; exact m_r hq
  have s2k : S2.1 (a + 1) 1 = Int32.ofNat k := by rw [e2, e1]; exact m_s _ _ _ _
  have s210 : S2.1 m 10 = Int32.ofNat n' := by rw [s2q _ (by omega)]; exact t2
  refine sg_X10_truncate_0 m _ (fun S3 e3 => ?_)
  rw [s210]
  refine j_pos (by rw [n_in]; exact ⟨Int32.not_lt.mp h0, h1⟩) (fun S4 e4 => ?_)
  have yq : ∀ q, q ≠ m → S4.1 q = S2.1 q := fun q q0 => by rw [e4, m_r q0, e3, m_r q0]
  have yS : ∀ q, q ≠ m → q ≠ a + 1 → S4.1 q = S.1 q := fun q q0 q1 => by rw [yq q q0, s2q q q1]
  have yk : ∀ j, j ≠ 7 → j ≠ 10 → S4.1 m j = S.1 m j := fun j j7 j10 => by rw [e4, m_k j10, e3, m_k j7, s2q _ (by omega)]
  refine c.fni ⟨?_, q_sh_fr c.hi.2.1 (yS _ (by omega) (by omega)) (yS _ (by omega) (by omega)), IH_fr c.hi.2.2.1 (fun q q1 q2 => yS q (by omega) (by omega)) (yS _ (by omega) (by omega)) (yk _ (by omega) (by omega)), ?_, IS_fr c.hi.2.2.2.2.1 (fun q q1 q2 => yS q (by omega) (by omega)) (yS _ (by omega) (by omega)) (yS _ (by omega) (by omega)) (fun s _ => by rw [yS a (by omega) (by omega)]), ⟨k, by omega, by rw [yq _ (by omega)]; exact s2k, by rw [e4, m_s], fun j hj => ?_⟩, IO_fr c.hi.2.2.2.2.2.2 (yS _ (by omega) (by omega)) (yS _ (by omega) (by omega)) (yS _ (by omega) (by omega)) (yk _ (by omega) (by omega))⟩ ?_ ?_
  · rw [yS (m + 1) (by omega) (by omega)]
    exact q_any_frame (M := S.1) (fun q q1 q2 => yS q (by omega) (by omega)) c.hi.1
  · have h4 := c.hi.2.2.2.1
    unfold IE at h4 ⊢
    rw [yk _ (by omega) (by omega), yk _ (by omega) (by omega), yk _ (by omega) (by omega), yk _ (by omega) (by omega), yS a (by omega) (by omega)]
    exact h4
  · rw [yS (a + 2) (by omega) (by omega), yS (m + 7) (by omega) (by omega)]
    exact t3 j (by omega)
  · rw [e4, m_k (by omega), e3, m_s]
  · rw [e4, e3, e2]
    rfl
