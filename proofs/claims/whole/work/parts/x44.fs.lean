/-! ===== the law's cases: mobility ===== -/
def mob (r : Nat → Int32) (p n s : Nat) : Nat → Nat → Nat
  | 0, _ => 0
  | w + 1, f => (if r (26 + 64 * p + f) = Int32.ofNat s then cnt (fun t => o_moves r p n (Int32.ofNat s) f t) (n * n) else 0) + mob r p n s w (f + 1)
theorem mob_le (r : Nat → Int32) (p n s : Nat) : ∀ w f, mob r p n s w f ≤ w * (n * n) := by
  intro w
  induction w with
  | zero => intro f; exact Nat.zero_le _
  | succ w ih =>
    intro f
    have h1 := ih (f + 1)
    have h2 := cnt_le (fun t => o_moves r p n (Int32.ofNat s) f t) (n * n)
    rw [mob, Nat.succ_mul w (n * n)]
    by_cases h : r (26 + 64 * p + f) = Int32.ofNat s
    · rw [if_pos h]; omega
    · rw [if_neg h]; omega
theorem b_ways {g : ev_G} {S : ev_S} {b p n mm s : Nat} {r : Nat → Int32} (h4 : 4 ≤ n) (h8 : n ≤ 8) (hn : r 0 = Int32.ofNat n) (hb : q_board S.1 b r p n mm) : ev_Fn g m_X0_waysOf 4 [ev_o 0 b, ev_i (Int32.ofNat s)] S (some (ev_i (Int32.ofNat (mob r p n s (n * n) 0)))) S := by
  intro Q hQ
  have hn9 := sq_le h8
  have e4 : S.1 b 4 = Int32.ofNat n := by rw [hb.2.2.2.1]; exact hn
  refine sg_X0_waysOf_0 b _ ?_
  rw [e4, n_mul]
  have inner : ∀ (f A : Nat), f < n * n → r (26 + 64 * p + f) = Int32.ofNat s → A < 100000 → (ev_E g m_X0_waysOf 4 0 15 [some (ev_o 0 b), some (ev_i (Int32.ofNat s)), some (ev_i (Int32.ofNat (A + cnt (fun t => o_moves r p n (Int32.ofNat s) f t) (n * n)))), some (ev_i (Int32.ofNat (n * n))), some (ev_i (Int32.ofNat (f + 1))), none] [] S Q) →
      ∀ (w t : Nat), t + w = n * n → ev_E g m_X0_waysOf 4 0 34 [some (ev_o 0 b), some (ev_i (Int32.ofNat s)), some (ev_i (Int32.ofNat (A + cnt (fun t => o_moves r p n (Int32.ofNat s) f t) t))), some (ev_i (Int32.ofNat (n * n))), some (ev_i (Int32.ofNat f)), some (ev_i (Int32.ofNat t))] [] S Q := by
    intro f A hf hr hA hnext w
    induction w with
    | zero =>
      intro t ht
      have e : t = n * n := by omega
      subst e
      refine sg_X0_waysOf_34 b _ _ _ _ _ (j_pos (Int32.le_refl _) ?_)
      rw [n_inc]
      exact hnext
    | succ w ih =>
      intro t ht
      have hc := cnt_le (fun t => o_moves r p n (Int32.ofNat s) f t) t
      refine sg_X0_waysOf_34 b _ _ _ _ _ (j_neg (by rw [n_le (by omega) (by omega)]; omega) ?_)
      refine b_reach h4 h8 (by omega) (by omega) hn hb _ ⟨_, rfl, ?_⟩
      rw [hr, n_inc, n_inc]
      have hi := ih (t + 1) (by omega)
      refine ⟨fun h => ?_, fun h => ?_⟩
      · rw [cnt_t h] at hi
        exact hi
      · rw [cnt_f h] at hi
        exact hi
  have outer : ∀ (w f A : Nat), f + w = n * n → A + w * (n * n) < 100000 → A + mob r p n s w f = mob r p n s (n * n) 0 → ev_E g m_X0_waysOf 4 0 15 [some (ev_o 0 b), some (ev_i (Int32.ofNat s)), some (ev_i (Int32.ofNat A)), some (ev_i (Int32.ofNat (n * n))), some (ev_i (Int32.ofNat f)), none] [] S Q := by
    intro w
    induction w with
    | zero =>
      intro f A hf hA hm
      have hm' : A = mob r p n s (n * n) 0 := hm
      rw [← hm'] at hQ
      exact sg_X0_waysOf_15 b _ _ _ _ (j_pos (by rw [n_le (by omega) (by omega)]; omega) hQ)
    | succ w ih =>
      intro f A hf hA hm
      rw [Nat.succ_mul w (n * n)] at hA
      rw [mob] at hm
      have hc := cnt_le (fun t => o_moves r p n (Int32.ofNat s) f t) (n * n)
      refine sg_X0_waysOf_15 b _ _ _ _ (j_neg (by rw [n_le (by omega) (by omega)]; omega) ?_)
      rw [a_in (by omega) (by omega), hb.1 f (by omega), n_inc]
      refine ⟨fun h => ?_, fun h => ?_⟩
      · rw [if_pos h] at hm
        exact inner f A (by omega) h (by omega) (ih (f + 1) _ (by omega) (by omega) (by omega)) (n * n) 0 (by omega)
      · rw [if_neg h] at hm
        exact ih (f + 1) A (by omega) (by omega) (by omega)
  have h64 : n * n * (n * n) ≤ 64 * 64 := Nat.mul_le_mul hn9 hn9
  exact outer (n * n) 0 0 (by omega) (by omega) (by omega)
theorem c_ways {g : ev_G} {S : ev_S} {m p n s : Nat} {Q : ev_O → ev_S → Prop} (h4 : 4 ≤ n) (h8 : n ≤ 8) (hp : p < 2) (hn : S.1 (m + 1) 0 = Int32.ofNat n) (hQ : Q (.inl (some (ev_i (Int32.ofNat (mob (S.1 (m + 1)) p n s (n * n) 0))))) S) : ev_E g m_X10_mobility 4 0 39 [some (ev_o 10 m), some (ev_i (Int32.ofNat p)), some (ev_i (Int32.ofNat s)), some (ev_i 0), some (ev_i 0), none] [] S Q := by
  have hn9 := sq_le h8
  have h16 : 4 * 4 ≤ n * n := Nat.mul_le_mul h4 h4
  have inner : ∀ (f A : Nat), f < n * n → S.1 (m + 1) (26 + 64 * p + f) = Int32.ofNat s → A < 100000 → (ev_E g m_X10_mobility 4 0 39 [some (ev_o 10 m), some (ev_i (Int32.ofNat p)), some (ev_i (Int32.ofNat s)), some (ev_i (Int32.ofNat (A + cnt (fun t => o_moves (S.1 (m + 1)) p n (Int32.ofNat s) f t) (n * n)))), some (ev_i (Int32.ofNat (f + 1))), none] [] S Q) →
      ∀ (w t : Nat), t + w = n * n → ev_E g m_X10_mobility 4 0 51 [some (ev_o 10 m), some (ev_i (Int32.ofNat p)), some (ev_i (Int32.ofNat s)), some (ev_i (Int32.ofNat (A + cnt (fun t => o_moves (S.1 (m + 1)) p n (Int32.ofNat s) f t) t))), some (ev_i (Int32.ofNat f)), some (ev_i (Int32.ofNat t))] [] S Q := by
    intro f A hf hr hA hnext w
    have ix : (26 : Int32) + 64 * Int32.ofNat p + Int32.ofNat f = Int32.ofNat (26 + 64 * p + f) := by simp (disch := omega) only [lm_2, lm_3, lm_6, lm_7, lm_11, lm_12, lm_15, lm_64, lm_124, lm_180, la_1, la_2, la_3, la_12, la_26, la_154, la_514, la_762, la_1140, la_1200, ra_0, ra_1, ra_2, ra_3, ra_4, ra_5, ra_6, ra_7, ra_8, ra_9, ra_10, ra_48, rm_12, rm_2, rm_64, rm_6, n_add, n_mul, n_d1, n_vp, n_c, true_and]
    induction w with
    | zero =>
      intro t ht
      have e : t = n * n := by omega
      subst e
      refine sg_X10_mobility_51 m _ _ _ _ _ ?_
      rw [hn, n_mul]
      refine j_pos (Int32.le_refl _) ?_
      rw [n_inc]
      exact hnext
    | succ w ih =>
      intro t ht
      have hc := cnt_le (fun t => o_moves (S.1 (m + 1)) p n (Int32.ofNat s) f t) t
      refine sg_X10_mobility_51 m _ _ _ _ _ ?_
      rw [hn, n_mul, ix, n_c (by omega), hr]
      refine j_neg (by rw [n_le (by omega) (by omega)]; omega) ⟨(n_vp (by omega) (by omega)).mpr trivial, j_pos rfl ?_⟩
      refine c_moves m p n f t _ hp hn h4 h8 (by omega) (by omega) _ ⟨_, rfl, ?_⟩
      rw [n_inc, n_inc]
      have hi := ih (t + 1) (by omega)
      refine ⟨fun h => ?_, fun h => ?_⟩
      · rw [cnt_t h] at hi
        exact hi
      · rw [cnt_f h] at hi
        exact hi
  have outer : ∀ (w f A : Nat), f + w = n * n → A + w * (n * n) < 100000 → A + mob (S.1 (m + 1)) p n s w f = mob (S.1 (m + 1)) p n s (n * n) 0 → ev_E g m_X10_mobility 4 0 39 [some (ev_o 10 m), some (ev_i (Int32.ofNat p)), some (ev_i (Int32.ofNat s)), some (ev_i (Int32.ofNat A)), some (ev_i (Int32.ofNat f)), none] [] S Q := by
    intro w
    induction w with
    | zero =>
      intro f A hf hA hm
      have hm' : A = mob (S.1 (m + 1)) p n s (n * n) 0 := hm
      rw [← hm'] at hQ
      refine sg_X10_mobility_39 m _ _ _ _ ?_
      rw [hn, n_mul]
      exact j_pos (by rw [n_le (by omega) (by omega)]; omega) hQ
    | succ w ih =>
      intro f A hf hA hm
      rw [Nat.succ_mul w (n * n)] at hA
      rw [mob] at hm
      have hc := cnt_le (fun t => o_moves (S.1 (m + 1)) p n (Int32.ofNat s) f t) (n * n)
      refine sg_X10_mobility_39 m _ _ _ _ ?_
      rw [hn, n_mul]
      refine j_neg (by rw [n_le (by omega) (by omega)]; omega) ?_
      by_cases h : S.1 (m + 1) (26 + 64 * p + f) = Int32.ofNat s
      · rw [if_pos h] at hm
        exact inner f A (by omega) h (by omega) (ih (f + 1) _ (by omega) (by omega) (by omega)) (n * n) 0 (by omega)
      · rw [if_neg h] at hm
        have ix : (26 : Int32) + 64 * Int32.ofNat p + Int32.ofNat f = Int32.ofNat (26 + 64 * p + f) := by simp (disch := omega) only [lm_2, lm_3, lm_6, lm_7, lm_11, lm_12, lm_15, lm_64, lm_124, lm_180, la_1, la_2, la_3, la_12, la_26, la_154, la_514, la_762, la_1140, la_1200, ra_0, ra_1, ra_2, ra_3, ra_4, ra_5, ra_6, ra_7, ra_8, ra_9, ra_10, ra_48, rm_12, rm_2, rm_64, rm_6, n_add, n_mul, n_d1, n_vp, n_c, true_and]
        have i0 : (0 : Int32) = Int32.ofNat 0 := rfl
        refine sg_X10_mobility_51 m _ _ _ _ _ ?_
        rw [hn, n_mul, ix, n_c (by omega), n_inc]
        exact j_neg (by rw [i0, n_le (by omega) (by omega)]; omega) ⟨(n_vp (by omega) (by omega)).mpr trivial, j_neg h (ih (f + 1) A (by omega) (by omega) (by omega))⟩
  have h64 : n * n * (n * n) ≤ 64 * 64 := Nat.mul_le_mul hn9 hn9
  exact outer (n * n) 0 0 (by omega) (by omega) (by omega)
theorem w_1013 {g : ev_G} {B k0 a m o1 o2 : Nat} {u5 : Int32} {S : ev_S} {Q : ev_O → ev_S → Prop} (c : CS g B k0 a m o1 o2 u5 S Q) : KA g B 1013 k0 a m o1 o2 u5 S Q := by
  obtain ⟨n, lim, np, L, d, ρ, hI, hL, hd, hg, hk⟩ := c.hi.1
  refine sg_L_law_1013 k0 a m o1 o2 u5 ⟨c.v1, c.v2, ?_⟩
  generalize ev_sx g (u5 + 1).toNatClampNeg = x1
  generalize ev_sx g (u5 + 2).toNatClampNeg = x2
  have bad : ¬ (t_X9_isPlayer x1 = true ∧ t_X9_isPlayer x2 = true) → ev_Cv g m_X10_mobility 4 0 [ev_o 10 m, ev_i x1, ev_i x2] S (RI g B k0 a m o1 o2 u5 Q 1) := by
    intro h
    refine sg_X10_mobility_0 m _ _ (fun S1 e1 => ?_)
    rw [rp, rp, ← t_pl, ← t_pl]
    refine ⟨fun h1 => ⟨fun h2 => absurd ⟨h1, h2⟩ h, fun h2 S3 e3 => ?_⟩, fun h1 S3 e3 => ?_⟩
    · rw [e3, e1, up_up7]
      exact c.eri (by decide)
    · rw [e3, e1, up_up7]
      exact c.eri (by decide)
  refine sg_L_mobility_0 a _ _ _ (sg_X9_mobility_0 a _ _ ⟨fun h => ⟨fun h2 => ?_, fun h2 => Or.inr ⟨rfl, _, rfl, bad (fun hh => h2 hh.2)⟩⟩, fun h => Or.inr ⟨rfl, _, rfl, bad (fun hh => h hh.1)⟩⟩)
  obtain ⟨p, rfl, hp⟩ := t_pl.mp h
  obtain ⟨s, rfl, hs⟩ := t_pl.mp h2
  rw [a_desk hp]
  refine b_ways hk.1 hI.1.1.2.1 hI.1.1.1 (hg.1 p hp).2.1 _ ⟨_, rfl, Or.inl ⟨_, rfl, fun S2 e2 => ⟨_, rfl, ?_⟩⟩⟩
  have e0 : (ev_up S2 m 7 0).1 (m + 1) = S.1 (m + 1) := by rw [m_r (by omega), e2]
  refine sg_X10_mobility_0 m _ _ (fun S1 e1 => j_pos (rp.mpr ⟨p, rfl, hp⟩) (j_pos (rp.mpr ⟨s, rfl, hs⟩) ?_))
  rw [e1]
  refine c_ways hk.1 hI.1.1.2.1 hp (by rw [e0]; exact hI.1.1.1) ?_
  rw [e0]
  exact c.oki (z := S2) (v := Int32.ofNat (mob (S.1 (m + 1)) p n s (n * n) 0)) (by rw [e2]) (by rw [e2])
