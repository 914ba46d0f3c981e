/-! ===== the class: a player's own move is played ===== -/
theorem o_apply_mine {r : Nat → Int32} {p m f t : Nat} (hp : p < 2) (ho : o_maker (m + 1) = p) : o_apply r p m f t (12 + 7 * p + 2) = r 2 ∧ ∀ j, 12 + 7 * p + 3 ≤ j → j ≤ 12 + 7 * p + 5 → o_apply r p m f t j = r j := by
  unfold o_apply
  rw [if_pos ho]
  refine ⟨u_s _ _ _, fun j h1 h2 => ?_⟩
  rw [u_k (by omega)]
  split
  · rw [u_k (by omega), u_k (by omega), u_k (by omega), u_k (by omega), u_k (by omega), u_k (by omega), u_k (by omega)]
  · rw [u_k (by omega), u_k (by omega), u_k (by omega), u_k (by omega), u_k (by omega), u_k (by omega)]
theorem d_own {g : ev_G} {S : ev_S} {e p n lim m f t : Nat} {r : Nat → Int32} (hp : p < 2) (hd : i_dk r p n lim) (hb : i_bd r p n) (hm : r (12 + 7 * p) = Int32.ofNat m) (hml : m < lim) (hf : f < n * n) (ht : t < n * n) (hft : f ≠ t) (ho : o_maker (m + 1) = p) (h : q_dk S.1 e r p n) {Q : ev_O → ev_S → Prop}
    (hQ : ∀ z, q_fr S z e 9 → q_dk z.1 e (o_apply r p m f t) p n → Q (.inl none) z) : ev_Cv g m_X1_playOwn 4 0 [ev_o 1 e, ev_i (Int32.ofNat (f * 64 + t)), ev_i (r 2)] S Q := by
  have h8 := hd.2.1
  have h60 := hd.2.2.2.1
  have hn9 := sq_le h8
  have hmd : o_mad r p = m := by unfold o_mad; rw [hm, n_c (by omega)]
  have hmd2 : o_mad (o_apply r p m f t) p = m + 1 := by unfold o_mad; rw [o_apply_made, n_c (by omega)]
  obtain ⟨own2, own3⟩ := o_apply_mine (r := r) (f := f) (t := t) hp ho
  unfold q_dk at h hQ
  rw [hmd] at h
  rw [hmd2] at hQ
  obtain ⟨a0, a1, a2, a3, a4, a5, a6, a7, a8, a9⟩ := h
  have ap : ∀ j, 514 ≤ j → o_apply r p m f t j = r j := fun j hj => o_apply_at (by omega) (by omega) (by omega) (by omega)
  refine sg_X1_playOwn_0 e _ _ ?_
  refine b_play (by omega) hp h8 hf ht hft hb.1 hm a1 (fun z hz1 hz2 => ⟨rfl, fun y hy => ?_⟩)
  have ez : ∀ q, q < e + 1 ∨ e + 6 ≤ q → z.1 q = S.1 q := fun q hq => hz1.2 q (by omega)
  have ey : ∀ q, q ≠ e → y.1 q = z.1 q := fun q hq => by rw [hy, m_r hq]
  have e0 : ∀ j, j ≠ 7 → y.1 e j = S.1 e j := fun j hj => by rw [hy, m_k hj, ez e (by omega)]
  refine hQ y ⟨by rw [hy]; exact hz1.1, fun q hq => by rw [ey q (by omega), ez q (by omega)]⟩ ⟨by rw [e0 0 (by omega)]; exact a0, b_frame (M := z.1) (fun q h1 h2 => ey q (by omega)) hz2, fun k hk => ?_, fun k hk => ?_, ?_, ?_, ?_, ?_, ?_, ?_⟩
  · rw [ey _ (by omega), ez _ (by omega), ap _ (by omega), ap _ (by omega)]
    exact a2 k hk
  · rw [ey _ (by omega), ey _ (by omega), ez _ (by omega), ez _ (by omega), ap _ (by omega), ap _ (by omega), ap _ (by omega), ap _ (by omega), ap _ (by omega)]
    exact a3 k hk
  · rw [e0 5 (by omega), a4]
    refine congrArg Int32.ofNat ?_
    exact cnt_congr 60 (fun i hi => by rw [ap _ (by omega)])
  · rw [e0 6 (by omega), a5, o_apply_at (by omega) (by omega) (by omega) (by omega)]
  · rw [hy, m_s, own2]
  · rw [e0 8 (by omega), a7, own3 _ (by omega) (by omega)]
  · rw [e0 9 (by omega), a8, own3 _ (by omega) (by omega)]
  · rw [e0 10 (by omega), a9, own3 _ (by omega) (by omega)]
