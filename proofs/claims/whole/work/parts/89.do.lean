/-! ===== the reference: a promise, as asked ===== -/
theorem w_fr_congr {o o' : Nat → Int32} {f s : Int} : ∀ k : Nat, (∀ i : Nat, 1 ≤ i → i ≤ k → o' (f + (i : Int) * s).toNat = o (f + (i : Int) * s).toNat) → w_fr o' f s k = w_fr o f s k := by
  intro k
  induction k with
  | zero => intro _; rfl
  | succ k ih =>
    intro h
    simp only [w_fr]
    rw [ih (fun i h1 h2 => h i h1 (by omega))]
    have := h (k + 1) (by omega) (by omega)
    rw [show (((k + 1 : Nat) : Int)) = (k : Int) + 1 by omega] at this
    rw [this]
theorem o_moves_congr {r r' : Nat → Int32} {p n f t : Nat} {its : Int32} (h4 : 4 ≤ n) (h8 : n ≤ 8) (hf : f < 64) (ht : t < 64) (e : ∀ s, s < 64 → r' (26 + 64 * p + s) = r (26 + 64 * p + s)) : o_moves r' p n its f t = o_moves r p n its f t := by
  unfold o_moves
  rw [e f hf, e t ht]
  refine congrArg _ ?_
  unfold w_reach
  by_cases hc : w_dr n f t ≠ 0 ∧ (w_dr n f t).natAbs = (w_dc n f t).natAbs
  · refine congrArg _ (w_fr_congr _ (fun i h1 h2 => ?_))
    obtain ⟨d1, d2⟩ := w_at_lt (i := i) h4 h8 hf ht hc.1 hc.2 (by omega)
    exact e _ d2
  · simp [hc]
/-- a move laid on the board, and no more -/
def o_laid (r : Nat → Int32) (p f t : Nat) : Nat → Int32 := upd (upd r (26 + 64 * p + t) (r (26 + 64 * p + f))) (26 + 64 * p + f) (-1)
def o_ams (r : Nat → Int32) (p n m f t rf rt : Nat) : Bool :=
  o_moves r p n (Int32.ofNat (1 - p)) f t && (decide (¬ Int32.ofNat (m + 1) = r 1) && (decide (1 ≤ o_bish (o_laid r p f t) p n (Int32.ofNat p)) && o_moves (o_laid r p f t) p n (Int32.ofNat p) rf rt))
/-- alike but for what the reference notes while it looks at a promise -/
def m_alk (S z : ev_S) (a : Nat) : Prop := z.2 = S.2 ∧ (∀ q, q ≠ a → z.1 q = S.1 q) ∧ ∀ j, j ≠ 24 → j ≠ 25 → z.1 a j = S.1 a j
theorem c_areMoves {g : ev_G} {S : ev_S} (a p n m f t rf rt : Nat) (hp : p < 2) (hn : S.1 (a + 1) 0 = Int32.ofNat n) (h4 : 4 ≤ n) (h8 : n ≤ 8) (hm : S.1 (a + 1) (12 + 7 * p) = Int32.ofNat m) (hm60 : m ≤ 60) (hf : f < 64) (ht : t < 64) (hrf : rf < 64) (hrt : rt < 64) {Q : ev_O → ev_S → Prop}
    (hQ : ∀ z, m_alk S z a → Q (.inl (some (ev_i (if o_ams (S.1 (a + 1)) p n m f t rf rt = true then 1 else 0)))) z) :
    ev_Cv g m_X10_areMoves 4 0 [ev_o 10 a, ev_i (Int32.ofNat p), ev_i (Int32.ofNat f), ev_i (Int32.ofNat t), ev_i (Int32.ofNat rf), ev_i (Int32.ofNat rt)] S Q := by
  have h1 : ∀ z, m_alk S z a → o_ams (S.1 (a + 1)) p n m f t rf rt = true → Q (.inl (some (ev_i 1))) z := fun z hz h => by have := hQ z hz; rw [if_pos h] at this; exact this
  have h0 : ∀ z, m_alk S z a → ¬ o_ams (S.1 (a + 1)) p n m f t rf rt = true → Q (.inl (some (ev_i 0))) z := fun z hz h => by have := hQ z hz; rw [if_neg h] at this; exact this
  clear hQ
  have hS : m_alk S S a := ⟨rfl, fun _ _ => rfl, fun _ _ _ => rfl⟩
  refine sg_X10_areMoves_0 a _ _ _ _ _ ?_
  rw [n_1s hp]
  refine c_moves a p n f t (Int32.ofNat (1 - p)) hp hn h4 h8 hf ht _ ⟨o_moves (S.1 (a + 1)) p n (Int32.ofNat (1 - p)) f t, rfl, fun c1 => ?_, fun c1 => h0 S hS (by simp [o_ams, c1])⟩
  simp (disch := omega) only [lm_2, lm_3, lm_6, lm_7, lm_11, lm_12, lm_15, lm_64, lm_124, lm_180, la_1, la_2, la_3, la_12, la_26, la_154, la_514, la_762, la_1140, la_1200, ra_0, ra_1, ra_2, ra_3, ra_4, ra_5, ra_6, ra_7, ra_8, ra_9, ra_10, ra_48, rm_12, rm_2, rm_64, rm_6, n_add, n_mul, n_d1, n_vp, n_c, true_and]
  rw [hm, n_inc]
  refine ⟨fun c2 => h0 S hS (by simp [o_ams, c2]), fun c2 S2 e2 S3 e3 S4 e4 S5 e5 => ?_⟩
  have x5 : S5.1 (a + 1) = o_laid (S.1 (a + 1)) p f t := by
    rw [e5, m_u, r_s, e4, m_u, r_s, e3, m_r (by omega), e2, m_r (by omega)]
    rfl
  have x24 : S5.1 a 24 = S.1 (a + 1) (26 + 64 * p + f) := by rw [e5, m_r (by omega), e4, m_r (by omega), e3, m_k (by omega), e2, m_s]
  have x25 : S5.1 a 25 = S.1 (a + 1) (26 + 64 * p + t) := by rw [e5, m_r (by omega), e4, m_r (by omega), e3, m_s]
  have bk : ∀ Y Z : ev_S, Y = ev_up S5 (a + 1) (26 + 64 * p + f) (S5.1 a 24) → Z = ev_up Y (a + 1) (26 + 64 * p + t) (S5.1 a 25) → m_alk S Z a := by
    intro Y Z eY eZ
    refine ⟨by rw [eZ, eY, e5, e4, e3, e2]; rfl, fun q hq => ?_, fun j j1 j2 => ?_⟩
    · by_cases hqa : q = a + 1
      · rw [hqa, eZ, m_u, r_s, eY, m_u, r_s, x5, x24, x25]
        funext j
        by_cases c3 : j = 26 + 64 * p + t
        · rw [c3, u_s]
        · rw [u_k c3]
          by_cases c4 : j = 26 + 64 * p + f
          · rw [c4, u_s]
          · rw [u_k c4]
            unfold o_laid
            rw [u_k c4, u_k c3]
      · rw [eZ, m_r hqa, eY, m_r hqa, e5, m_r hqa, e4, m_r hqa, e3, m_r hq, e2, m_r hq]
    · rw [eZ, m_r (by omega), eY, m_r (by omega), e5, m_r (by omega), e4, m_r (by omega), e3, m_k j2, e2, m_k j1]
  have hn5 : S5.1 (a + 1) 0 = Int32.ofNat n := by rw [x5]; unfold o_laid; rw [u_k (by omega), u_k (by omega)]; exact hn
  refine c_bishopsOf a p n (Int32.ofNat p) hp hn5 h8 _ ⟨_, rfl, ?_⟩
  have ez : (0 : Int32) = Int32.ofNat 0 := rfl
  have hb := o_bish_le (S5.1 (a + 1)) p n (Int32.ofNat p) h8
  rw [ez, n_le (by omega) (by omega)]
  refine ⟨fun c3 S7 e7 S8 e8 => h0 S8 (bk S7 S8 e7 e8) ?_, fun c3 => ?_⟩
  · rw [x5] at c3
    have c3' : ¬ 1 ≤ o_bish (o_laid (S.1 (a + 1)) p f t) p n (Int32.ofNat p) := by omega
    simp [o_ams, c3']
  · refine c_moves a p n rf rt (Int32.ofNat p) hp hn5 h4 h8 hrf hrt _ ⟨o_moves (S5.1 (a + 1)) p n (Int32.ofNat p) rf rt, rfl, fun c4 S7 e7 S8 e8 => h1 S8 (bk S7 S8 e7 e8) ?_, fun c4 S7 e7 S8 e8 => h0 S8 (bk S7 S8 e7 e8) ?_⟩
    · rw [x5] at c3 c4
      have c3' : 1 ≤ o_bish (o_laid (S.1 (a + 1)) p f t) p n (Int32.ofNat p) := by omega
      unfold o_ams
      rw [c1, c4, decide_eq_true c2, decide_eq_true c3']
      rfl
    · rw [x5] at c4
      simp [o_ams, c4]
def o_prm (r : Nat → Int32) (k : Nat) (v0 v1 v2 v3 : Int32) : Nat → Int32 := upd (upd (upd (upd (upd r (762 + 6 * k) v0) (762 + 6 * k + 1) v1) (762 + 6 * k + 2) v2) (762 + 6 * k + 3) v3) (762 + 6 * k + 4) 1
/-- the row behind a promise k of player p -/
def o_prom (r : Nat → Int32) (p q k f t rf rt L : Nat) : Nat → Int32 := o_post (o_prm r k (Int32.ofNat f) (Int32.ofNat t) (Int32.ofNat rf) (Int32.ofNat rt)) L (Int32.ofNat p) (Int32.ofNat q) 1 (Int32.ofNat k) (Int32.ofNat rf) (Int32.ofNat rt)
def k_prm (n np : Nat) (x0 x1 x2 x3 x4 x5 : Int32) (p q f t rf rt : Nat) : Prop := (x0 = Int32.ofNat p ∧ p < 2) ∧ (x1 = Int32.ofNat q ∧ q < np) ∧ (x2 = Int32.ofNat f ∧ f < n * n) ∧ (x3 = Int32.ofNat t ∧ t < n * n) ∧ (x4 = Int32.ofNat rf ∧ rf < n * n) ∧ (x5 = Int32.ofNat rt ∧ rt < n * n)
def o_mayp (r : Nat → Int32) (p n m L : Nat) : Prop := ¬ o_over r p n = true ∧ ¬ o_turn r p n m = true ∧ r (762 + 6 * (m + 2) + 4) = 0 ∧ L < 80
theorem c_promising {g : ev_G} {S : ev_S} (a n lim np L d u : Nat) (x0 x1 x2 x3 x4 x5 : Int32) {ρ : List Nat} (h7 : S.1 a 7 = 0) (hu : u ≤ 8) (h6 : S.1 a 6 = Int32.ofNat u) (hi : IG (S.1 (a + 1)) n lim np L d ρ) (hL : L ≤ 80) (hn4 : 4 ≤ n) {Q : ev_O → ev_S → Prop}
    (q1 : (¬ ∃ p q f t rf rt, k_prm n np x0 x1 x2 x3 x4 x5 p q f t rf rt) → Q (.inl (some (ev_i 0))) (ev_up S a 7 1))
    (q2 : ∀ p q f t rf rt, k_prm n np x0 x1 x2 x3 x4 x5 p q f t rf rt → ¬ o_mayp (S.1 (a + 1)) p n (o_mad (S.1 (a + 1)) p) L → Q (.inl (some (ev_i 0))) (ev_up S a 7 2))
    (q3 : ∀ p q f t rf rt, k_prm n np x0 x1 x2 x3 x4 x5 p q f t rf rt → o_mayp (S.1 (a + 1)) p n (o_mad (S.1 (a + 1)) p) L → ¬ o_ams (S.1 (a + 1)) p n (o_mad (S.1 (a + 1)) p) f t rf rt = true → ∀ z, m_alk S z a → Q (.inl (some (ev_i 0))) (ev_up z a 7 3))
    (q4 : ∀ p q f t rf rt, k_prm n np x0 x1 x2 x3 x4 x5 p q f t rf rt → o_mayp (S.1 (a + 1)) p n (o_mad (S.1 (a + 1)) p) L → o_ams (S.1 (a + 1)) p n (o_mad (S.1 (a + 1)) p) f t rf rt = true → ∀ z, m_alk S z a → Q (.inl (some (ev_i (Int32.ofNat (o_mad (S.1 (a + 1)) p + 2))))) (ev_ur (o_chg z a u) (a + 1) (o_prom (S.1 (a + 1)) p q (o_mad (S.1 (a + 1)) p + 2) f t rf rt L))) :
    ev_Cv g m_X10_promising 5 0 [ev_o 10 a, ev_i x0, ev_i x1, ev_i x2, ev_i x3, ev_i x4, ev_i x5] S Q := by
  have hnp := hi.1.2.2.2.1
  have e3 := hi.1.2.2.1
  have e4 := hi.1.2.2.2.2.1
  have h8 := hi.1.1.2.1
  have hn9 := sq_le h8
  have hn0 : S.1 (a + 1) 0 = Int32.ofNat n := hi.1.1.1
  have e80 : (80 : Int32) = Int32.ofNat 80 := rfl
  have hi0 : (t_X10_in x0 0 1 = true) = ∃ p, x0 = Int32.ofNat p ∧ p < 2 := by rw [n_in01]; exact propext n_bit
  have hi1 : (t_X10_in x1 0 (S.1 (a + 1) 3 - 1) = true) = ∃ q, x1 = Int32.ofNat q ∧ q < np := by rw [n_in, e3]; exact propext (n_rng (by omega))
  have hi2 : ∀ x, (t_X10_in x 0 (S.1 (a + 1) 0 * S.1 (a + 1) 0 - 1) = true) = ∃ f, x = Int32.ofNat f ∧ f < n * n := fun x => by rw [n_in, hn0, n_mul]; exact propext (n_rng (by omega))
  have bad : ∀ P : Prop, (¬ ∃ p q f t rf rt, k_prm n np x0 x1 x2 x3 x4 x5 p q f t rf rt) → ((S.1 a 7 = 0 → ∀ T : ev_S, T = ev_up S a 7 1 → Q (.inl (some (ev_i 0))) T) ∧ (¬ S.1 a 7 = 0 → P)) := fun P hn => j_pos h7 (fun T eT => by rw [eT]; exact q1 hn)
  refine sg_X10_promising_0 a x0 x1 x2 x3 x4 x5 ?_
  rw [hi0, hi1, hi2, hi2, hi2, hi2]
  refine ⟨fun y0 => ⟨fun y1 => ⟨fun y2 => ⟨fun y3 => ⟨fun y4 => ⟨fun y5 => j_pos h7 ?_, fun y => bad _ (fun ⟨p, q, f, t, rf, rt, z⟩ => y ⟨_, z.2.2.2.2.2⟩)⟩, fun y => bad _ (fun ⟨p, q, f, t, rf, rt, z⟩ => y ⟨_, z.2.2.2.2.1⟩)⟩, fun y => bad _ (fun ⟨p, q, f, t, rf, rt, z⟩ => y ⟨_, z.2.2.2.1⟩)⟩, fun y => bad _ (fun ⟨p, q, f, t, rf, rt, z⟩ => y ⟨_, z.2.2.1⟩)⟩, fun y => bad _ (fun ⟨p, q, f, t, rf, rt, z⟩ => y ⟨_, z.2.1⟩)⟩, fun y => bad _ (fun ⟨p, q, f, t, rf, rt, z⟩ => y ⟨_, z.1⟩)⟩
  obtain ⟨p, hp, hp2⟩ := y0
  obtain ⟨q, hq, hq2⟩ := y1
  obtain ⟨f, hf, hf2⟩ := y2
  obtain ⟨t, ht, ht2⟩ := y3
  obtain ⟨rf, hrf, hrf2⟩ := y4
  obtain ⟨rt, hrt, hrt2⟩ := y5
  have kk : k_prm n np x0 x1 x2 x3 x4 x5 p q f t rf rt := ⟨⟨hp, hp2⟩, ⟨hq, hq2⟩, ⟨hf, hf2⟩, ⟨ht, ht2⟩, ⟨hrf, hrf2⟩, ⟨hrt, hrt2⟩⟩
  have q2 := q2 p q f t rf rt kk
  have q3 := q3 p q f t rf rt kk
  have q4 := q4 p q f t rf rt kk
  clear q1 bad kk
  obtain ⟨hm, hml, h60⟩ := n_mad (i_dk_of hi.1 hp2)
  generalize o_mad (S.1 (a + 1)) p = m at *
  rw [hp, hq, hf, ht, hrf, hrt]
  have no2 : ∀ P : Prop, ¬ o_mayp (S.1 (a + 1)) p n m L → ((S.1 a 7 = 0 → ∀ T : ev_S, T = ev_up S a 7 2 → Q (.inl (some (ev_i 0))) T) ∧ (¬ S.1 a 7 = 0 → P)) := fun P hn => j_pos h7 (fun T eT => by rw [eT]; exact q2 hn)
  simp (disch := omega) only [lm_2, lm_3, lm_6, lm_7, lm_11, lm_12, lm_15, lm_64, lm_124, lm_180, la_1, la_2, la_3, la_12, la_26, la_154, la_514, la_762, la_1140, la_1200, ra_0, ra_1, ra_2, ra_3, ra_4, ra_5, ra_6, ra_7, ra_8, ra_9, ra_10, ra_48, rm_12, rm_2, rm_64, rm_6, n_add, n_mul, n_d1, n_vp, n_c, true_and]
  refine c_overOn a p n hp2 hn0 h8 _ ⟨o_over (S.1 (a + 1)) p n, rfl, fun hO => no2 _ (fun q => q.1 hO), fun hO => ?_⟩
  refine c_turnOf a p n m hp2 hn0 h8 hm (by omega) _ ⟨o_turn (S.1 (a + 1)) p n m, rfl, fun hT => no2 _ (fun q => q.2.1 hT), fun hT => ?_⟩
  simp (disch := omega) only [hm, lm_2, lm_3, lm_6, lm_7, lm_11, lm_12, lm_15, lm_64, lm_124, lm_180, la_1, la_2, la_3, la_12, la_26, la_154, la_514, la_762, la_1140, la_1200, ra_0, ra_1, ra_2, ra_3, ra_4, ra_5, ra_6, ra_7, ra_8, ra_9, ra_10, ra_48, rm_12, rm_2, rm_64, rm_6, n_add, n_mul, n_d1, n_vp, n_c, true_and]
  refine ⟨fun h5 => ?_, fun h5 => no2 _ (fun q => h5 q.2.2.1)⟩
  rw [e4, e80, n_le (by omega) (by omega)]
  refine ⟨fun h9 => no2 _ (fun q => by have := q.2.2.2; omega), fun h9 => j_pos h7 ?_⟩
  have may : o_mayp (S.1 (a + 1)) p n m L := ⟨hO, hT, h5, by omega⟩
  refine c_areMoves a p n m f t rf rt hp2 hn0 hn4 h8 hm (by omega) (by omega) (by omega) (by omega) (by omega) (fun z zz => ⟨o_ams (S.1 (a + 1)) p n m f t rf rt, rfl, fun hM => ?_, fun hM => ?_⟩)
  · have z7 : z.1 a 7 = 0 := by rw [zz.2.2 7 (by omega) (by omega)]; exact h7
    refine j_pos z7 ?_
    refine c_changes a u hu (by rw [zz.2.2 6 (by omega) (by omega)]; exact h6) _ ⟨rfl, ?_⟩
    have hr : (o_chg z a u).1 (a + 1) = S.1 (a + 1) := by rw [o_chg_r (by omega) (by omega)]; exact zz.2.1 _ (by omega)
    intro S9 e9 S10 e10 S11 e11 S12 e12 S13 e13
    have e : S13 = ev_ur (o_chg z a u) (a + 1) (o_prm (S.1 (a + 1)) (m + 2) (Int32.ofNat f) (Int32.ofNat t) (Int32.ofNat rf) (Int32.ofNat rt)) := by
      rw [e13, e12, e11, e10, e9]
      simp only [m_u, r_s, r_rr, hr]
      rfl
    have e4' : S13.1 (a + 1) 4 = Int32.ofNat L := by
      rw [e, r_s]
      unfold o_prm
      rw [u_k (by omega), u_k (by omega), u_k (by omega), u_k (by omega), u_k (by omega)]
      exact e4
    refine c_posts a L _ _ 1 _ _ _ (Or.inr rfl) e4' hL _ ⟨_, rfl, ?_⟩
    rw [e, r_s, r_rr]
    exact q4 may hM z zz
  · have z7 : z.1 a 7 = 0 := by rw [zz.2.2 7 (by omega) (by omega)]; exact h7
    exact j_pos z7 (fun T eT => by rw [eT]; exact q3 may hM z zz)
