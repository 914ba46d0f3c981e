/-! ===== the law: forecasts ===== -/
/-- trees were made, and the class has used its scratch -/
def w_sc (g : ev_G) (S z : ev_S) : Prop := (∃ N : List (Nat × Nat), z.2.1 = N ++ S.2.1 ∧ (∀ x, (x < ev_b g + 52 ∨ ev_b g + 88 ≤ x) → (∀ t, t ∈ N → x < t.2 ∨ t.2 + (ev_tk t.1).length ≤ x) → z.1 x = S.1 x) ∧ ∀ x, (∀ t, t ∈ N → x < t.2 ∨ t.2 + (ev_tk t.1).length ≤ x) → z.2.2 x = S.2.2 x) ∧ ev_lw g z.2.1 ∧ (q_sh S.1 (ev_b g + 52) → q_sh z.1 (ev_b g + 52))
theorem w_sc_up {g : ev_G} {S z : ev_S} (h : w_up g S z) : w_sc g S z := by
  have hc : ∀ x, x < ev_b g + 505 → z.1 x = S.1 x := fun x hx => (w_up_cls h hx).1
  obtain ⟨⟨N, e, f⟩, hw⟩ := h
  exact ⟨⟨N, e, fun x _ hx => (f x hx).1, fun x hx => (f x hx).2⟩, hw, fun hs => q_sh_fr hs (hc _ (by omega)) (hc _ (by omega))⟩
theorem w_sc_cls {g : ev_G} {S z : ev_S} (hw : ev_lw g S.2.1) (h : q_fr S z (ev_b g + 52) 36) (hs : q_sh S.1 (ev_b g + 52) → q_sh z.1 (ev_b g + 52)) : w_sc g S z :=
  ⟨⟨[], by rw [h.1]; rfl, fun x hx _ => h.2 x (by omega), fun x _ => by rw [h.1]⟩, by rw [h.1]; exact hw, hs⟩
theorem w_sc_tr {g : ev_G} {S T z : ev_S} (h1 : w_sc g S T) (h2 : w_sc g T z) : w_sc g S z := by
  obtain ⟨⟨N1, e1, f1, k1⟩, -, s1⟩ := h1
  obtain ⟨⟨N2, e2, f2, k2⟩, hw, s2⟩ := h2
  refine ⟨⟨N2 ++ N1, by rw [e2, e1, List.append_assoc], fun x x1 hx => ?_, fun x hx => ?_⟩, hw, fun h => s2 (s1 h)⟩
  · rw [f2 x x1 (fun t ht => hx t (List.mem_append_left _ ht)), f1 x x1 (fun t ht => hx t (List.mem_append_right _ ht))]
  · rw [k2 x (fun t ht => hx t (List.mem_append_left _ ht)), k1 x (fun t ht => hx t (List.mem_append_right _ ht))]
theorem w_sc_old {g : ev_G} {S z : ev_S} {t c x : Nat} (h : w_sc g S z) (hlw : ev_lw g S.2.1) (hm : (t, c) ∈ S.2.1) (h1 : c ≤ x) (h2 : x < c + (ev_tk t).length) : z.1 x = S.1 x ∧ z.2.2 x = S.2.2 x := by
  obtain ⟨⟨N, e, f, k⟩, hw, -⟩ := h
  have hx : ∀ u, u ∈ N → x < u.2 ∨ u.2 + (ev_tk u.1).length ≤ x := fun u hu => by
    have hp := hw.2
    rw [e] at hp
    have := (List.pairwise_append.mp hp).2.2 u hu (t, c) hm
    simp only at this
    omega
  have := hlw.1 (t, c) hm
  simp only at this
  exact ⟨f x (by omega) hx, k x hx⟩
theorem w_sc_mem {g : ev_G} {S z : ev_S} {t : Nat × Nat} (h : w_sc g S z) (hm : t ∈ S.2.1) : t ∈ z.2.1 := by
  obtain ⟨⟨N, e, -⟩, -⟩ := h
  rw [e]
  exact List.mem_append_right _ hm
theorem w_sc_in {g : ev_G} {S z : ev_S} {x : Nat} (h : w_sc g S z) (hx : x < ev_b g + 52 ∨ (ev_b g + 88 ≤ x ∧ x < ev_b g + 505)) : z.1 x = S.1 x := by
  obtain ⟨⟨N, e, f, k⟩, hw, -⟩ := h
  refine f x (by omega) (fun u hu => ?_)
  have := hw.1 u (by rw [e]; exact List.mem_append_left _ hu)
  omega
theorem CF_sc {g : ev_G} {S z : ev_S} {n lim np L d : Nat} {r : Nat → Int32} {ρ : List Nat} (h : w_sc g S z) (c : CF S.1 (ev_b g) r n lim np L d ρ) : CF z.1 (ev_b g) r n lim np L d ρ := by
  obtain ⟨⟨hI, hL, hd, hg, hk⟩, hx⟩ := c
  exact ⟨⟨hI, hL, hd, q_gm_frame (fun q q1 q2 => w_sc_in h (by omega)) hg, hk⟩, hx⟩
theorem w_gm_sc {g : ev_G} {S z : ev_S} {a L : Nat} {r : Nat → Int32} (h : w_sc g S z) (hlw : ev_lw g S.2.1) (hm : (0, a) ∈ S.2.1) (hg : w_gm S.1 a r L) : w_gm z.1 a r L := w_gm_fr (fun q q1 q2 => (w_sc_old h hlw hm q1 q2).1) hg
theorem w_bo_sc {g : ev_G} {S z : ev_S} {a : Nat} (h : w_sc g S z) (hlw : ev_lw g S.2.1) (hm : (0, a) ∈ S.2.1) (hg : w_bo S.1 a) : w_bo z.1 a := w_bo_fr (fun q q1 q2 => (w_sc_old h hlw hm (Nat.le_of_lt q1) q2).1) hg
theorem LV_sc {g : ev_G} {S z : ev_S} {a u : Nat} {r R : Nat → Int32} (h : LV g S a r R u) (k : w_sc g S z) : LV g z a r R u := by
  obtain ⟨⟨ha, hlw⟩, ⟨hbo, h32, h33⟩, ⟨n, lim, np, L, d, ρ, ⟨hi, hL, hd, hg, hok⟩, hw, hcx⟩, hs2, hh, hsh⟩ := h
  have ea : z.1 a = S.1 a := (w_sc_old k hlw ha (Nat.le_refl _) (Nat.lt_add_of_pos_right (by decide))).1
  exact ⟨⟨w_sc_mem k ha, k.2.1⟩, ⟨w_bo_sc k hlw ha hbo, by rw [ea]; exact h32, by rw [ea]; exact h33⟩, ⟨n, lim, np, L, d, ρ, ⟨hi, hL, hd, q_gm_frame (fun q q1 q2 => w_sc_in k (by omega)) hg, hok⟩, w_gm_sc k hlw ha hw, hcx⟩, hs2, w_his_fr (fun q q1 q2 => w_sc_in k (by omega)) hh, k.2.2 hsh⟩
/-- what a forecast holds while the days pass: not yet come, or come -/
def o_fi (F V : Int32) (rest : Int32) : Prop := (V = -1 ∧ F = rest) ∨ (V = F ∧ 0 ≤ V.toInt)
theorem o_fi_step {T : (Nat → Int32) → Bool} {n np L k i d : Nat} {r : Nat → Int32} {F V : Int32} (hi : i < 100000) (h : o_fi F V (o_fw T n np L (k + 1) i d r)) :
    (0 ≤ V → o_fi F V (o_fw T n np L k (i + 1) (d + 1) (o_dayf r n np L d))) ∧ (¬ 0 ≤ V → (T r = true → o_fi F (Int32.ofNat i) (o_fw T n np L k (i + 1) (d + 1) (o_dayf r n np L d))) ∧ (¬ T r = true → o_fi F V (o_fw T n np L k (i + 1) (d + 1) (o_dayf r n np L d)))) := by
  have e0 : (0 : Int32).toInt = 0 := rfl
  rw [o_fw] at h
  rcases h with ⟨h1, h2⟩ | ⟨h1, h2⟩
  · refine ⟨fun h9 => absurd h9 (by rw [h1]; decide), fun _ => ⟨fun ht => ?_, fun ht => ?_⟩⟩
    · rw [if_pos ht] at h2
      exact Or.inr ⟨h2.symm, by rw [n_i (by omega)]; omega⟩
    · rw [if_neg ht] at h2
      exact Or.inl ⟨h1, h2⟩
  · exact ⟨fun _ => Or.inr ⟨h1, h2⟩, fun h9 => absurd (by rw [z_le, e0]; exact h2) h9⟩
theorem o_fi_end {T : (Nat → Int32) → Bool} {n np L i d : Nat} {r : Nat → Int32} {F V : Int32} (h : o_fi F V (o_fw T n np L 0 i d r)) : F = V := by
  rcases h with ⟨h1, h2⟩ | ⟨h1, h2⟩
  · rw [h2, h1]; rfl
  · exact h1.symm
/-- what holds where only scratch and new trees have changed -/
theorem w_sc_st {g : ev_G} {S z : ev_S} {a n lim np L d : Nat} {r : Nat → Int32} {ρ : List Nat} (h : w_sc g S z) (c : CF S.1 (ev_b g) r n lim np L d ρ) (hw : w_gm S.1 a r L) (hb : w_bo S.1 a) (h32 : S.1 a 32 = -1) (ha : (0, a) ∈ S.2.1) (hlw : ev_lw g S.2.1) (hsh : q_sh S.1 (ev_b g + 52)) :
    CF z.1 (ev_b g) r n lim np L d ρ ∧ w_gm z.1 a r L ∧ w_bo z.1 a ∧ z.1 a 32 = -1 ∧ (0, a) ∈ z.2.1 ∧ ev_lw g z.2.1 ∧ q_sh z.1 (ev_b g + 52) :=
  ⟨CF_sc h c, w_gm_sc h hlw ha hw, w_bo_sc h hlw ha hb, by rw [(w_sc_old h hlw ha (Nat.le_refl _) (Nat.lt_add_of_pos_right (by decide))).1]; exact h32, w_sc_mem h ha, h.2.1, h.2.2 hsh⟩
theorem w_fast2 {g : ev_G} {S : ev_S} {a n lim np L d p : Nat} {r : Nat → Int32} {ρ : List Nat} {A B : ev_S → Prop} (c : CF S.1 (ev_b g) r n lim np L d ρ) (hs2 : w_s2 r) (hw : w_gm S.1 a r L) (hb : w_bo S.1 a) (ha : (0, a) ∈ S.2.1) (hlw : ev_lw g S.2.1) (hp : p < 2) (hA : ∀ z, w_sc g S z → A z) :
    ev_Cv g m_X9_fastestPass 5 1 [ev_o 9 (ev_b g), ev_i (Int32.ofNat p)] S (fun o S4 => ∃ v4_ : Int32, o = .inl (some (ev_i v4_)) ∧ (ev_Cv g m_X11_fastest 7 2880 [ev_o 11 a, ev_i (Int32.ofNat p)] S4 (fun o S5 => ∃ v5_ : Int32, o = .inl (some (ev_i v5_)) ∧ ((v4_ = v5_ → A S5) ∧ (¬ (v4_ = v5_) → B S5))))) := by
  obtain ⟨⟨hI, hL, hd, hg, hk⟩, hx⟩ := c
  refine x_fast hI hL hd hg (fun hn => absurd ⟨p, rfl, hp⟩ hn) (fun p' e' hp' v z z1 hv => ⟨v, rfl, ?_⟩)
  have hpp := ofi e' (by omega) (by omega)
  subst hpp
  have hsc : w_sc g S z := w_sc_cls hlw ⟨z1.1, fun x hx => z1.2 x (by omega)⟩ (fun h => q_sh_fr h (z1.2 _ (by omega)) (z1.2 _ (by omega)))
  refine w_fastest (B := 0) hd (LV_IW hI hk hs2) hk hL hp (w_sc_mem hsc ha) hsc.2.1 (w_gm_sc hsc hlw ha hw) (w_bo_sc hsc hlw ha hb) (fun v' y y1 hv' => ⟨v', rfl, j_pos (FP_one hv hv') (hA y (w_sc_tr hsc (w_sc_up y1)))⟩)
theorem w_dut2 {g : ev_G} {S : ev_S} {n lim np L d p q : Nat} {r : Nat → Int32} {ρ : List Nat} {A B : ev_S → Prop} (c : CF S.1 (ev_b g) r n lim np L d ρ) (hlw : ev_lw g S.2.1) (hsh : q_sh S.1 (ev_b g + 52)) (hp : p < 2) (hq : ev_b g + 505 ≤ q) (hv : o_fw (o_tT p n) n np L 401 0 d r = S.1 q p) (hA : ∀ z, w_sc g S z → z.1 q = S.1 q → A z) :
    ev_Cv g m_X9_daysUntilTurn 6 1 [ev_o 9 (ev_b g), ev_i (Int32.ofNat p)] S (fun o S1 => ∃ v1_ : Int32, o = .inl (some (ev_i v1_)) ∧ ((v1_ = (S1.1 q p) → A S1) ∧ (¬ (v1_ = (S1.1 q p)) → B S1))) := by
  obtain ⟨⟨hI, hL, hd, hg, hk⟩, hx⟩ := c
  refine x_dut hI hL hd hg hk hsh (fun hn => absurd ⟨p, rfl, hp⟩ hn) (fun p' e' hp' z z1 z2 => ⟨_, rfl, ?_⟩)
  have hpp := ofi e' (by omega) (by omega)
  subst hpp
  have eq : z.1 q = S.1 q := z1.2 q (by omega)
  rw [eq]
  exact j_pos hv (hA z (w_sc_cls hlw z1 (fun _ => z2)) eq)
theorem w_isForetold {g : ev_G} {S : ev_S} {a l n lim np L d : Nat} {r : Nat → Int32} {ρ : List Nat} (c : CF S.1 (ev_b g) r n lim np L d ρ) (hs2 : w_s2 r) (hw : w_gm S.1 a r L) (hb : w_bo S.1 a) (h32 : S.1 a 32 = -1) (ha : (0, a) ∈ S.2.1) (hlw : ev_lw g S.2.1) (hsh : q_sh S.1 (ev_b g + 52)) (hl : l ≤ L) {Q : ev_O → ev_S → Prop} (hQ : ∀ z, w_sc g S z → Q (.inl (some (ev_i 1))) z) : ev_Cv g m_L_isForetold 8 7000 [ev_o 9 (ev_b g), ev_o 11 a, ev_i (Int32.ofNat l)] S Q := by
  have hI := c.1.1
  have hk := c.1.2.2.2.2
  have hL := c.1.2.1
  have hd := c.1.2.2.1
  have h8 := hI.1.1.2.1
  have hmad := IR_mad hI.1
  have hIW := LV_IW hI hk hs2
  have z0 : (0 : Int32) = Int32.ofNat 0 := rfl
  have z1 : (1 : Int32) = Int32.ofNat 1 := rfl
  have z2 : (2 : Int32) = Int32.ofNat 2 := rfl
  have e400 : (400 : Int32) = Int32.ofNat 400 := rfl
  have l1 : (ev_tk 3).length = 1 := rfl
  have l36 : (ev_tk 0).length = 36 := rfl
  rw [show (7000 : Nat) = (514 + 6125) + 361 by omega]
  refine sg_L_isForetold_0 (ev_b g) a _ ?_
  refine w_copy (B := 0) (by omega) hI.1.2.2.2.2.1 hmad ha hw hb (fun p0 S1 hw1 f1 f2 f3 f4 f5 f6 f7 f8 => ⟨p0, rfl, ?_⟩)
  intro q hlc S2 x2 S3 x3 S4 x4
  have up1 : w_up g S S1 := w_up_new hw1 f1 f2 f3
  have hp0 : (0, p0) ∈ S1.2.1 := by rw [f1]; exact List.mem_cons_self
  have o4 : ∀ x, x ≠ q → S4.1 x = S1.1 x := fun x hx => by
    rw [x4, m_r hx, x3, m_r hx, x2]
    exact if_neg (by rw [l1]; omega)
  have k4 : ∀ x, x ≠ q → S4.2.2 x = S1.2.2 x := fun x hx => by
    rw [x4, x3, x2]
    exact if_neg (by rw [l1]; omega)
  have t4 : S4.2.1 = (3, q) :: S1.2.1 := by rw [x4, x3, x2]; rfl
  have up2 : w_up g S1 S4 := w_up_new hlc t4 (fun x hx => o4 x (by rw [l1] at hx; omega)) (fun x hx => k4 x (by rw [l1] at hx; omega))
  have hqp : p0 + 36 ≤ q ∨ q + 1 ≤ p0 := (List.pairwise_cons.mp hlc.2).1 (0, p0) hp0
  have hqa : a + 36 ≤ q ∨ q + 1 ≤ a := (List.pairwise_cons.mp hlc.2).1 (0, a) (w_up_mem up1 ha)
  have hqb := hlc.1 (3, q) List.mem_cons_self
  have hpb := hw1.1 (0, p0) List.mem_cons_self
  simp only at hqb hpb
  have v0 : S4.1 q 0 = -1 := by rw [x4, m_k (by omega), x3, m_s]
  have v1 : S4.1 q 1 = -1 := by rw [x4, m_s]
  generalize hF0 : o_fw (o_tT 0 n) n np L 401 0 d r = F0
  generalize hF1 : o_fw (o_tT 1 n) n np L 401 0 d r = F1
  generalize hFe : o_fw (o_eT n) n np L 401 0 d r = Fe
  -- the days
  have key := dn (n := 401) (P := fun i => ∀ (T : ev_S) (y : Nat → Int32) (ρ' : List Nat) (E : Int32), T.2 = S4.2 → (∀ x, x ≠ q → (x < p0 ∨ p0 + 36 ≤ x) → T.1 x = S4.1 x) → IW y n lim np L (d + i) (-1) ρ' → w_gm T.1 p0 y L → T.1 p0 32 = -1 →
      o_fi F0 (T.1 q 0) (o_fw (o_tT 0 n) n np L (401 - i) i (d + i) y) → o_fi F1 (T.1 q 1) (o_fw (o_tT 1 n) n np L (401 - i) i (d + i) y) → o_fi Fe E (o_fw (o_eT n) n np L (401 - i) i (d + i) y) →
      ev_E g m_L_isForetold 8 (514 + 6125) 24 [some (ev_o 9 (ev_b g)), some (ev_o 11 a), some (ev_i (Int32.ofNat l)), some (ev_o 11 p0), some (ev_y 2 q), some (ev_i E), some (ev_i (Int32.ofNat i)), none] [] T Q) ?_ ?_ 0 (Nat.zero_le _) S4 r ρ (-1) rfl (fun _ _ _ => rfl) hIW (w_gm_up up2 hp0 f4) (by rw [(w_up_old up2 hp0 (Nat.le_refl _) (by rw [l36]; omega)).1]; exact f6) (by rw [v0]; exact Or.inl ⟨rfl, hF0.symm⟩) (by rw [v1]; exact Or.inl ⟨rfl, hF1.symm⟩) (Or.inl ⟨rfl, hFe.symm⟩)
  · exact key
  · -- behind the last day
    intro T y ρ' E t1 t2 hIy hgy h3y w0 w1 we
    rw [Nat.sub_self] at w0 w1 we
    have w0 := o_fi_end w0
    have w1 := o_fi_end w1
    have we := o_fi_end we
    have upT : w_up g S T := by
      refine ⟨⟨[(3, q), (0, p0)], by rw [t1, t4, f1]; rfl, fun x hx => ?_⟩, by rw [t1]; exact up2.2⟩
      have a1 := hx (3, q) List.mem_cons_self
      have a2 := hx (0, p0) (List.mem_cons_of_mem _ List.mem_cons_self)
      rw [l1] at a1
      rw [l36] at a2
      simp only at a1 a2
      exact ⟨by rw [t2 x (by omega) (by omega), o4 x (by omega), f2 x (by omega)], by rw [t1, k4 x (by omega), f3 x (by omega)]⟩
    have sT := w_sc_up upT
    refine sg_L_isForetold_24 (B := 514) (ev_b g) a _ p0 q _ _ (j_pos (by rw [e400, n_lt (by omega) (by omega)]; omega) ?_)
    have st := fun z (hz : w_sc g S z) => w_sc_st hz c hw hb h32 ha hlw hsh
    obtain ⟨s1, s2, s3, s4, s5, s6, s7⟩ := st T sT
    refine w_dut2 (p := 0) s1 s6 s7 (by omega) hqb (hF0.trans w0) (fun A1 h1 e1 => ?_)
    have hA1 := w_sc_tr sT h1
    obtain ⟨s1, s2, s3, s4, s5, s6, s7⟩ := st A1 hA1
    refine w_dut2 (p := 1) s1 s6 s7 (by omega) hqb (by rw [e1]; exact hF1.trans w1) (fun A2 h2 e2 => ?_)
    have hA2 := w_sc_tr hA1 h2
    obtain ⟨s1, s2, s3, s4, s5, s6, s7⟩ := st A2 hA2
    refine x_due s1.1.1 s1.1.2.1 s1.1.2.2.1 s1.1.2.2.2.1 s1.1.2.2.2.2 s7 (fun A3 y1 y2 => ⟨_, rfl, j_pos (hFe.trans we) ?_⟩)
    have hA3 := w_sc_tr hA2 (w_sc_cls s6 y1 (fun _ => y2))
    obtain ⟨s1, s2, s3, s4, s5, s6, s7⟩ := st A3 hA3
    -- the fastest passes
    have fast : ∀ z, w_sc g S z → ev_Cv g m_X9_fastestPass 5 1 [ev_o 9 (ev_b g), ev_i 0] z (fun o S4 => ∃ v4_ : Int32, o = .inl (some (ev_i v4_)) ∧ (ev_Cv g m_X11_fastest 7 2880 [ev_o 11 a, ev_i 0] S4 (fun o S5 => ∃ v5_ : Int32, o = .inl (some (ev_i v5_)) ∧ ((v4_ = v5_ → (ev_Cv g m_X9_fastestPass 5 1 [ev_o 9 (ev_b g), ev_i 1] S5 (fun o S6 => ∃ v6_ : Int32, o = .inl (some (ev_i v6_)) ∧ (ev_Cv g m_X11_fastest 7 2880 [ev_o 11 a, ev_i 1] S6 (fun o S7 => ∃ v7_ : Int32, o = .inl (some (ev_i v7_)) ∧ ((v6_ = v7_ → Q (.inl (some (ev_i 1))) S7) ∧ (¬ (v6_ = v7_) → Q (.inl (some (ev_i 0))) S7))))))) ∧ (¬ (v4_ = v5_) → Q (.inl (some (ev_i 0))) S5))))) := fun z hz => by
      obtain ⟨s1, s2, s3, s4, s5, s6, s7⟩ := st z hz
      refine w_fast2 (p := 0) s1 hs2 s2 s3 s5 s6 (by omega) (fun B1 g1 => ?_)
      have hB1 := w_sc_tr hz g1
      obtain ⟨s1, s2, s3, s4, s5, s6, s7⟩ := st B1 hB1
      exact w_fast2 (p := 1) s1 hs2 s2 s3 s5 s6 (by omega) (fun B2 g2 => hQ B2 (w_sc_tr hB1 g2))
    rw [s2.1 4 (by omega), hI.1.2.2.2.2.1, n_le (by omega) (by omega)]
    refine ⟨fun _ => fast A3 hA3, fun hlt => ?_⟩
    refine x_arrDay s1.1.1 s1.1.2.1 s1.1.2.2.1 s1.1.2.2.2.1 (fun hn => absurd ⟨l, rfl, by omega⟩ hn) (fun l' e' hl' A4 y4 => ⟨_, rfl, ?_⟩)
    have hll := ofi e' (by omega) (by omega)
    subst hll
    have h4 : w_sc g A3 A4 := w_sc_cls s6 ⟨y4.1, fun x hx => y4.2 x (by omega)⟩ (fun h => q_sh_fr h (y4.2 _ (by omega)) (y4.2 _ (by omega)))
    have hA4 := w_sc_tr hA3 h4
    obtain ⟨s1, s2, s3, s4, s5, s6, s7⟩ := st A4 hA4
    exact w_arrival (B := 0) (by omega) hIW s5 hl' s2 s3 s4 (fun A5 g5 => ⟨_, rfl, j_pos rfl (fast A5 (w_sc_tr hA4 (w_sc_up g5)))⟩)
  · -- a day
    intro i hi ih T y ρ' E t1 t2 hIy hgy h3y w0 w1 we
    have hIGy : IG y n lim np L (d + i) ρ' := ⟨hIy.1, hIy.2.1, hIy.2.2.1⟩
    have eday : o_day y n np L (d + i) (-1) ρ' = o_dayf y n np L (d + i) := by unfold o_dayf; rw [IG_rl hIGy]
    rw [show 401 - i = (400 - i) + 1 by omega] at w0 w1 we
    refine sg_L_isForetold_24 (B := 514) (ev_b g) a _ p0 q _ _ (j_neg (by rw [e400, n_lt (by omega) (by omega)]; omega) ?_)
    -- whose turn it is
    have turn : ∀ (p : Nat) (U : ev_S) (F : Int32), p < 2 → U.2 = S4.2 → w_gm U.1 p0 y L → o_fi F (U.1 q p) (o_fw (o_tT p n) n np L ((400 - i) + 1) i (d + i) y) →
        (∀ U' : ev_S, U'.2 = U.2 → (∀ x, x ≠ q → U'.1 x = U.1 x) → (∀ j, j ≠ p → U'.1 q j = U.1 q j) → o_fi F (U'.1 q p) (o_fw (o_tT p n) n np L (400 - i) (i + 1) (d + i + 1) (o_dayf y n np L (d + i))) → ev_E g m_L_isForetold 8 (514 + 6125) 35 [some (ev_o 9 (ev_b g)), some (ev_o 11 a), some (ev_i (Int32.ofNat l)), some (ev_o 11 p0), some (ev_y 2 q), some (ev_i E), some (ev_i (Int32.ofNat i)), some (ev_i (Int32.ofNat (p + 1)))] [] U' Q) →
        ev_E g m_L_isForetold 8 (514 + 6125) 35 [some (ev_o 9 (ev_b g)), some (ev_o 11 a), some (ev_i (Int32.ofNat l)), some (ev_o 11 p0), some (ev_y 2 q), some (ev_i E), some (ev_i (Int32.ofNat i)), some (ev_i (Int32.ofNat p))] [] U Q := fun p U F hp u1 hgU hfi kk => by
      obtain ⟨f1, f2⟩ := o_fi_step (by omega) hfi
      have hdk := i_dk_p hIy.1 hp
      obtain ⟨m, hm, hml⟩ := hdk.2.2.2.2.1
      have hl60 := hdk.2.2.2.1
      have hmd : o_mad y p = m := by unfold o_mad; rw [hm, n_c (by omega)]
      have nxt : ∀ (U' : ev_S) (v : Int32), U' = ev_up U q p v → o_fi F v (o_fw (o_tT p n) n np L (400 - i) (i + 1) (d + i + 1) (o_dayf y n np L (d + i))) → ev_E g m_L_isForetold 8 (514 + 6125) 73 [some (ev_o 9 (ev_b g)), some (ev_o 11 a), some (ev_i (Int32.ofNat l)), some (ev_o 11 p0), some (ev_y 2 q), some (ev_i E), some (ev_i (Int32.ofNat i)), some (ev_i (Int32.ofNat p))] [] U' Q := fun U' v x hf => by
        refine sg_L_isForetold_73 (ev_b g) a _ p0 q _ _ _ ?_
        rw [n_inc]
        exact kk U' (by rw [x]; rfl) (fun y hy => by rw [x, m_r hy]) (fun j hj => by rw [x, m_k hj]) (by rw [x, m_s]; exact hf)
      refine sg_L_isForetold_35 (ev_b g) a _ p0 q _ _ _ (j_neg (by rw [z2, n_le (by omega) (by omega)]; omega) ⟨(n_vp (by omega) (by omega)).mpr trivial, ?_⟩)
      rw [n_c (by omega)]
      refine ⟨fun h9 U2 x => nxt U2 _ x (f1 h9), fun h9 => ?_⟩
      refine w_isTurn hp hdk.2.1 (hIy.2.2.1 p hp).1 hm (by omega) (hgU.2.1 p hp) (hgU.1 1 (by omega)) _ ⟨o_turn y p n m, rfl, fun ht U2 x => nxt U2 _ x ((f2 h9).1 (by unfold o_tT; rw [hmd]; exact ht)), fun ht U2 x => nxt U2 _ x ((f2 h9).2 (by unfold o_tT; rw [hmd]; exact ht))⟩
    rw [z0]
    refine turn 0 T F0 (by omega) t1 hgy w0 (fun U u1 u2 u3 u4 => ?_)
    have hgU : w_gm U.1 p0 y L := w_gm_fr (fun x x1 x2 => u2 x (by omega)) hgy
    refine turn 1 U F1 (by omega) (u1.trans t1) hgU (by rw [u3 1 (by omega)]; exact w1) (fun V v1 v2 v3 v4 => ?_)
    have hgV : w_gm V.1 p0 y L := w_gm_fr (fun x x1 x2 => v2 x (by omega)) hgU
    have vq0 : V.1 q 0 = U.1 q 0 := v3 0 (by omega)
    obtain ⟨g1, g2⟩ := o_fi_step (by omega) we
    -- the day itself
    have days : ∀ E' : Int32, o_fi Fe E' (o_fw (o_eT n) n np L (400 - i) (i + 1) (d + i + 1) (o_dayf y n np L (d + i))) → ev_E g m_L_isForetold 8 (514 + 6125) 100 [some (ev_o 9 (ev_b g)), some (ev_o 11 a), some (ev_i (Int32.ofNat l)), some (ev_o 11 p0), some (ev_y 2 q), some (ev_i E'), some (ev_i (Int32.ofNat i)), none] [] V Q := fun E' hE => by
      refine sg_L_isForetold_100 (ev_b g) a _ p0 q _ _ ?_
      refine w_passes (by omega) hIy hgV (by rw [v2 p0 (by omega), u2 p0 (by omega)]; exact h3y) (fun W ρ2 y1 y2 y3 => ⟨rfl, ?_⟩)
      rw [n_inc]
      rw [eday] at y2 y3
      have wq : W.1 q = V.1 q := y1.1.2 q (by omega)
      have e401 : 401 - (i + 1) = 400 - i := by omega
      refine ih W _ ρ2 E' (by rw [y1.1.1, v1, u1, t1]) (fun x x1 x2 => by rw [y1.1.2 x x2, v2 x x1, u2 x x1, t2 x x1 x2]) y2 y3 (by rw [y1.2.1 32 (by omega), v2 p0 (by omega), u2 p0 (by omega)]; exact h3y) ?_ ?_ ?_
      · rw [e401, wq, vq0]; exact u4
      · rw [e401, wq]; exact v4
      · rw [e401]; exact hE
    refine sg_L_isForetold_35 (ev_b g) a _ p0 q _ _ _ (j_pos (by rw [z2]; exact Int32.le_refl _) ⟨fun h9 => days _ (g1 h9), fun h9 => ?_⟩)
    have hoe := w_eq_o h8 (hIy.2.2.1 0 (by omega)).1 (hIy.2.2.1 1 (by omega)).1
    refine w_areEqual hgV _ ⟨w_eq y 64, rfl, fun ht => days _ ((g2 h9).1 ?_), fun ht => days _ ((g2 h9).2 ?_)⟩
    · unfold o_eT
      rw [hoe]
      exact ht
    · unfold o_eT
      rw [hoe]
      exact ht
