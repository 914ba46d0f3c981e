/-! ===== a script: the reference reads commands ===== -/
theorem n_vp6 {c : Nat} (hc : c < 30) : vp_in (((6 : Int32) * Int32.ofNat c) + 1) 180 := by
  have e1 : (1 : Int32) = Int32.ofNat 1 := rfl
  rw [e1, kn_ix]
  exact (n_vp (by omega) (by omega)).mpr trivial
theorem n_c6 {c : Nat} (hc : c < 30) : (((6 : Int32) * Int32.ofNat c) + 1).toNatClampNeg = 6 * c + 1 := by
  have e1 : (1 : Int32) = Int32.ofNat 1 := rfl
  rw [e1, kn_ix, n_c (by omega)]
theorem rcs_e {g : ev_G} {D a : Nat} (hD : 20 ≤ D) {z : ev_S} (h : ¬ z.1 a 17 = 0) (x : Int32) {Q : ev_O → ev_S → Prop} (hQ : Q (.inl none) z) : ev_Cv g m_X10_readsCommands (D + 3) 0 [ev_o 10 a, ev_i x] z Q :=
  sg_X10_readsCommands_0 hD a x (sg_X10_readsCommands_h0 hD a x (j_neg h hQ))
theorem c_rep {g : ev_G} {S0 z : ev_S} {D a n c s d : Nat} {T : Nat → Int32} (hD : 20 ≤ D) (hn : n ≤ 800) (hm : ∀ j, j < n → ¬ T j = -1) (hs : s ≤ n) (hc : c < 30) (hd : d ≤ 2) (h : m_tk z.1 a n T s) (h21 : z.1 a 21 = Int32.ofNat (c + 1)) (hr : m_sr S0 z a) {Q : ev_O → ev_S → Prop}
    (qe : ∀ e p, p_num T n s 0 20 = .inl (e, p) → ∀ y, m_er S0 y a e p → Q (.inl none) y)
    (qs : ∀ v s2, p_num T n s 0 20 = .inr (v, s2) → ¬ p_sg T n s2 40 = true → ∀ y, m_er S0 y a 1 (x_B T n s2) → Q (.inl none) y)
    (q4 : ∀ v s2, p_num T n s 0 20 = .inr (v, s2) → p_sg T n s2 40 = true → 2 ≤ d → ∀ y, m_er S0 y a 4 (x_B T n s2) → Q (.inl none) y)
    (ok : ∀ v s2, p_num T n s 0 20 = .inr (v, s2) → p_sg T n s2 40 = true → d < 2 → 0 ≤ v → v ≤ 20 → s ≤ x_E T n s2 → x_E T n s2 ≤ n → ∀ y, m_tk y.1 a n T (x_E T n s2) → y.1 a 21 = Int32.ofNat (c + 1) → m_sr S0 y a → (∀ q, q ≠ a → q ≠ a + 9 → y.1 q = z.1 q) → (∀ j, j ≠ 6 * c → y.1 (a + 9) j = z.1 (a + 9) j) → y.1 (a + 9) (6 * c) = v →
      ev_Cv g m_X10_readsCommands (D + 3) 0 [ev_o 10 a, ev_i (Int32.ofNat (d + 1))] y (fun o S5 => o = .inl none ∧ (ev_Cv g m_X10_takesSign 4 0 [ev_o 10 a, ev_i 41] S5 (fun o S6 => o = .inl none ∧ (∀ S7 : ev_S, S7 = ev_up S6 (a + 9) (6 * c + 1) (S6.1 a 21) → Q (.inl none) S7))))) :
    ev_Cv g m_X10_readsRepeat (D + 3 + 1) 0 [ev_o 10 a, ev_i (Int32.ofNat c), ev_i (Int32.ofNat d)] z Q := by
  have e2 : (2 : Int32) = Int32.ofNat 2 := rfl
  -- behind an error nothing is read
  have tail : ∀ (e : Int32) (p : Nat) (y : ev_S), (∀ y, m_er S0 y a e p → Q (.inl none) y) → m_er S0 y a e p → ev_Cv g m_X10_passes 3 0 [ev_o 10 a] y (fun o S13 => o = .inl none ∧ (
              ev_Cv g m_X10_readsCommands (D + 3) 0 [ev_o 10 a, ev_i (Int32.ofNat d + 1)] S13 (fun o S14 => o = .inl none ∧ (
                ev_Cv g m_X10_takesSign 4 0 [ev_o 10 a, ev_i 41] S14 (fun o S15 => o = .inl none ∧ (
                  (vp_in ((6 * Int32.ofNat c) + 1) 180) ∧ (
                    ∀ S16 : ev_S, S16 = (ev_up S15 (a + 9) ((6 * Int32.ofNat c) + 1).toNatClampNeg (S15.1 a 21)) → (
                      Q (.inl none) S16)))))))) := by
    intro e p y hq hy
    have h7 := m_er_7 hy
    refine c_pass_e h7 ⟨rfl, rcs_e hD h7 _ ⟨rfl, c_sign_e h7 ⟨rfl, n_vp6 hc, fun S16 e16 => hq S16 ?_⟩⟩⟩
    rw [e16]
    refine ⟨m_sr_9 hy.1, ?_⟩
    unfold m_te
    rw [m_r (by omega)]
    exact hy.2
  have hk : KC g a c [(0, 20)] 0 z (fun S1 =>
    ((((S1.1 a 17) = 0) → ((S1.1 a 15) = 3) → ¬ ((S1.1 a 10) ≤ (S1.1 a 14)) → vp_in (S1.1 a 14) 800) ∧ (
      ((t_X10_isSign S1 a 40) = true → (
        ev_Cv g m_X10_must 1 0 [ev_o 10 a, ev_i 1, ev_i 1] S1 (fun o S2 => ∃ v2_ : Bool, o = .inl (some (ev_i (if v2_ = true then 1 else 0))) ∧ (
          (v2_ = true → (
            (2 ≤ Int32.ofNat d → (
              ev_Cv g m_X10_must 1 0 [ev_o 10 a, ev_i 0, ev_i 4] S2 (fun o S3 => ∃ v3_ : Bool, o = .inl (some (ev_i (if v3_ = true then 1 else 0))) ∧ (
                ev_Cv g m_X10_passes 3 0 [ev_o 10 a] S3 (fun o S4 => o = .inl none ∧ (
                  ev_Cv g m_X10_readsCommands (D + 3) 0 [ev_o 10 a, ev_i (Int32.ofNat d + 1)] S4 (fun o S5 => o = .inl none ∧ (
                    ev_Cv g m_X10_takesSign 4 0 [ev_o 10 a, ev_i 41] S5 (fun o S6 => o = .inl none ∧ (
                      (vp_in ((6 * Int32.ofNat c) + 1) 180) ∧ (
                        ∀ S7 : ev_S, S7 = (ev_up S6 (a + 9) ((6 * Int32.ofNat c) + 1).toNatClampNeg (S6.1 a 21)) → (
                          Q (.inl none) S7)))))))))))) ∧
            (¬ (2 ≤ Int32.ofNat d) → (
              ev_Cv g m_X10_must 1 0 [ev_o 10 a, ev_i 1, ev_i 4] S2 (fun o S8 => ∃ v7_ : Bool, o = .inl (some (ev_i (if v7_ = true then 1 else 0))) ∧ (
                ev_Cv g m_X10_passes 3 0 [ev_o 10 a] S8 (fun o S9 => o = .inl none ∧ (
                  ev_Cv g m_X10_readsCommands (D + 3) 0 [ev_o 10 a, ev_i (Int32.ofNat d + 1)] S9 (fun o S10 => o = .inl none ∧ (
                    ev_Cv g m_X10_takesSign 4 0 [ev_o 10 a, ev_i 41] S10 (fun o S11 => o = .inl none ∧ (
                      (vp_in ((6 * Int32.ofNat c) + 1) 180) ∧ (
                        ∀ S12 : ev_S, S12 = (ev_up S11 (a + 9) ((6 * Int32.ofNat c) + 1).toNatClampNeg (S11.1 a 21)) → (
                          Q (.inl none) S12)))))))))))))) ∧
          (¬ (v2_ = true) → (
            ev_Cv g m_X10_passes 3 0 [ev_o 10 a] S2 (fun o S13 => o = .inl none ∧ (
              ev_Cv g m_X10_readsCommands (D + 3) 0 [ev_o 10 a, ev_i (Int32.ofNat d + 1)] S13 (fun o S14 => o = .inl none ∧ (
                ev_Cv g m_X10_takesSign 4 0 [ev_o 10 a, ev_i 41] S14 (fun o S15 => o = .inl none ∧ (
                  (vp_in ((6 * Int32.ofNat c) + 1) 180) ∧ (
                    ∀ S16 : ev_S, S16 = (ev_up S15 (a + 9) ((6 * Int32.ofNat c) + 1).toNatClampNeg (S15.1 a 21)) → (
                      Q (.inl none) S16)))))))))))))) ∧
      (¬ ((t_X10_isSign S1 a 40) = true) → (
        ev_Cv g m_X10_must 1 0 [ev_o 10 a, ev_i 0, ev_i 1] S1 (fun o S17 => ∃ v14_ : Bool, o = .inl (some (ev_i (if v14_ = true then 1 else 0))) ∧ (
          (v14_ = true → (
            (2 ≤ Int32.ofNat d → (
              ev_Cv g m_X10_must 1 0 [ev_o 10 a, ev_i 0, ev_i 4] S17 (fun o S18 => ∃ v15_ : Bool, o = .inl (some (ev_i (if v15_ = true then 1 else 0))) ∧ (
                ev_Cv g m_X10_passes 3 0 [ev_o 10 a] S18 (fun o S19 => o = .inl none ∧ (
                  ev_Cv g m_X10_readsCommands (D + 3) 0 [ev_o 10 a, ev_i (Int32.ofNat d + 1)] S19 (fun o S20 => o = .inl none ∧ (
                    ev_Cv g m_X10_takesSign 4 0 [ev_o 10 a, ev_i 41] S20 (fun o S21 => o = .inl none ∧ (
                      (vp_in ((6 * Int32.ofNat c) + 1) 180) ∧ (
                        ∀ S22 : ev_S, S22 = (ev_up S21 (a + 9) ((6 * Int32.ofNat c) + 1).toNatClampNeg (S21.1 a 21)) → (
                          Q (.inl none) S22)))))))))))) ∧
            (¬ (2 ≤ Int32.ofNat d) → (
              ev_Cv g m_X10_must 1 0 [ev_o 10 a, ev_i 1, ev_i 4] S17 (fun o S23 => ∃ v19_ : Bool, o = .inl (some (ev_i (if v19_ = true then 1 else 0))) ∧ (
                ev_Cv g m_X10_passes 3 0 [ev_o 10 a] S23 (fun o S24 => o = .inl none ∧ (
                  ev_Cv g m_X10_readsCommands (D + 3) 0 [ev_o 10 a, ev_i (Int32.ofNat d + 1)] S24 (fun o S25 => o = .inl none ∧ (
                    ev_Cv g m_X10_takesSign 4 0 [ev_o 10 a, ev_i 41] S25 (fun o S26 => o = .inl none ∧ (
                      (vp_in ((6 * Int32.ofNat c) + 1) 180) ∧ (
                        ∀ S27 : ev_S, S27 = (ev_up S26 (a + 9) ((6 * Int32.ofNat c) + 1).toNatClampNeg (S26.1 a 21)) → (
                          Q (.inl none) S27)))))))))))))) ∧
          (¬ (v14_ = true) → (
            ev_Cv g m_X10_passes 3 0 [ev_o 10 a] S17 (fun o S28 => o = .inl none ∧ (
              ev_Cv g m_X10_readsCommands (D + 3) 0 [ev_o 10 a, ev_i (Int32.ofNat d + 1)] S28 (fun o S29 => o = .inl none ∧ (
                ev_Cv g m_X10_takesSign 4 0 [ev_o 10 a, ev_i 41] S29 (fun o S30 => o = .inl none ∧ (
                  (vp_in ((6 * Int32.ofNat c) + 1) 180) ∧ (
                    ∀ S31 : ev_S, S31 = (ev_up S30 (a + 9) ((6 * Int32.ofNat c) + 1).toNatClampNeg (S30.1 a 21)) → (
                      Q (.inl none) S31))))))))))))))))) := by
    refine KC_ok (S0 := S0) hn hm hc [(0, 20)] 0 s z (by simp) hs h hr (fun e p hp y hy => ?_) (fun L s2 hp k1 k2 y y1 y2 y3 y4 y5 y6 => ?_)
    · have h7 := m_er_7 hy
      have hq : ∀ y, m_er S0 y a e p → Q (.inl none) y := by
        refine qe e p ?_
        rw [p_args_1] at hp
        cases hp2 : p_num T n s 0 20 with
        | inl e' => rw [hp2] at hp; have := Sum.inl.inj hp; rw [this]
        | inr u => rw [hp2] at hp; cases hp
      rw [c_isS_e h7]
      exact ⟨fun hh => absurd hh h7, fun hf => absurd hf (by decide), fun _ => c_must_e h7 ⟨false, rfl, fun hf => absurd hf (by decide), fun _ => tail e p y hq hy⟩⟩
    · have hb2 := x_B_le (T := T) k2
      have he2 := x_E_le (T := T) k2
      cases hp2 : p_num T n s 0 20 with
      | inl e' => rw [p_args_1, hp2] at hp; cases hp
      | inr u =>
        rw [p_args_1, hp2] at hp
        simp only [p_bd] at hp
        have hp' := Sum.inr.inj hp
        have hL : [u.1] = L := congrArg Prod.fst hp'
        have hs2 : u.2 = s2 := congrArg Prod.snd hp'
        have hp2' : p_num T n s 0 20 = .inr (u.1, s2) := by rw [hp2, ← hs2]
        have hv : 0 ≤ u.1 ∧ u.1 ≤ 20 := by
          unfold p_num at hp2
          split at hp2
          · split at hp2
            · cases hp2
            · next c1 c2 =>
              cases hp2
              exact ⟨Int32.not_lt.mp (fun hh => c2 (Or.inl hh)), Int32.not_lt.mp (fun hh => c2 (Or.inr hh))⟩
          · cases hp2
        have hv6 : y.1 (a + 9) (6 * c) = u.1 := by
          have := y6 0 u.1 (by rw [← hL]; rfl)
          exact this
        rw [c_isS hn k2 y1, y1.1, y1.2.2.2.2.1]
        refine ⟨fun _ _ => c_vsn hn hb2.2, fun c10 => ?_, fun c10 => ?_⟩
        · refine c_must_t y1.2.2.1 ⟨true, rfl, fun _ => ?_, fun hf => absurd rfl hf⟩
          rw [e2, n_le (by omega) (by omega)]
          refine ⟨fun dd => ?_, fun dd => ?_⟩
          · refine c_must_f (by decide) y1 (fun x x1 x2 _ => ⟨false, rfl, tail _ _ x (q4 u.1 s2 hp2' c10 dd) ⟨m_sr_1 y2 x1, x2⟩⟩)
          · refine c_must_t y1.2.2.1 ⟨true, rfl, c_pass hn hm k2 y1 (fun x x1 x2 => ⟨rfl, ?_⟩)⟩
            rw [n_inc, n_c6 hc]
            have := ok u.1 s2 hp2' c10 (by omega) hv.1 hv.2 (by omega) he2.2 x x2 (by rw [x1.2.2 _ (by omega), y4]; exact h21) (m_sr_1 y2 x1) (fun q h0 h9 => by rw [x1.2.1 q h0, y3 q h0 h9]) (fun j hj => by rw [x1.2.1 _ (by omega)]; exact y5 j (by simp; omega)) (by rw [x1.2.1 _ (by omega)]; exact hv6)
            exact ev_Cv.mono (fun o S5 h5 => ⟨h5.1, ev_Cv.mono (fun o S6 h6 => ⟨h6.1, n_vp6 hc, h6.2⟩) h5.2⟩) this
        · refine c_must_f (by decide) y1 (fun x x1 x2 _ => ⟨false, rfl, fun hf => absurd hf (by decide), fun _ => tail _ _ x (qs u.1 s2 hp2' c10) ⟨m_sr_1 y2 x1, x2⟩⟩)
  exact sg_X10_readsRepeat_0 (by omega) a _ _ hk
