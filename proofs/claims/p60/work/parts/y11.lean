/-! ===== the law: a promise ===== -/
theorem i_sq_laid {r : Nat → Int32} {p n f t : Nat} (h8 : n ≤ 8) (hf : f < n * n) (ht : t < n * n) (hft : f ≠ t) (h : i_sq r p n) : i_sq (o_laid r p f t) p n := by
  have hn9 := sq_le h8
  intro s hs
  rw [o_laid_sq hft]
  split
  · exact Or.inl rfl
  · split
    · next _ hst =>
      rcases h f (by omega) with h9 | ⟨-, h9⟩
      · exact Or.inl h9
      · exact Or.inr ⟨by omega, h9⟩
    · exact h s hs
theorem w_gm_prm {M M' : Nat → Nat → Int32} {a L k0 : Nat} {r : Nat → Int32} {v0 v1 v2 v3 : Int32} (hmad : ∀ p, p < 2 → o_mad r p ≤ 60) (hk0 : k0 ≤ 62) (hk1 : k0 ≠ 1) (f : ∀ q, q ≠ a + 30 → q ≠ a + 32 → q ≠ a + 33 → q ≠ a + 34 → q ≠ a + 35 → M' q = M q)
    (f30 : M' (a + 30) = upd (M (a + 30)) k0 1) (f32 : M' (a + 32) = upd (M (a + 32)) k0 v0) (f33 : M' (a + 33) = upd (M (a + 33)) k0 v1) (f34 : M' (a + 34) = upd (M (a + 34)) k0 v2) (f35 : M' (a + 35) = upd (M (a + 35)) k0 v3) (h : w_gm M a r L) : w_gm M' a (o_prm r k0 v0 v1 v2 v3) L := by
  obtain ⟨h1, h2, h3, h4, h5, ⟨⟨hd0, h6⟩, ⟨h7, h7'⟩, h8⟩⟩ := h
  have er : ∀ j, (j < 762 + 6 * k0 ∨ 762 + 6 * k0 + 4 < j) → o_prm r k0 v0 v1 v2 v3 j = r j := fun j hj => by
    unfold o_prm
    rw [u_k (by omega), u_k (by omega), u_k (by omega), u_k (by omega), u_k (by omega)]
  refine ⟨fun k hk => by rw [f a (by omega) (by omega) (by omega) (by omega) (by omega), er k (by omega)]; exact h1 k hk, w_bds hmad (fun q q1 q2 => f q (by omega) (by omega) (by omega) (by omega) (by omega)) (fun j hj => er j (by omega)) h2, w_ps_row (fun j j1 j2 => er j (by omega)) (w_ps_fr (fun q q1 q2 => f q (by omega) (by omega) (by omega) (by omega) (by omega)) h3), fun l hl => w_lt_row (fun w hw => er _ (by omega)) (w_lt_fr (fun q q1 q2 => f q (by omega) (by omega) (by omega) (by omega) (by omega)) (h4 l hl)), fun k hk => ?_, ⟨⟨by rw [er 2 (by omega)]; exact hd0, fun p hp => by rw [er _ (by omega)]; exact h6 p hp⟩, ⟨by rw [er 772 (by omega)]; exact h7, by rw [er 773 (by omega)]; exact h7'⟩, fun l hl => by rw [er _ (by omega), er (1200 + 11 * l + 3) (by omega)]; exact h8 l hl⟩⟩
  have hw := h5 k hk
  by_cases hkk : k = k0
  · subst hkk
    have e0 : o_prm r k v0 v1 v2 v3 (762 + 6 * k) = v0 := by unfold o_prm; rw [u_k (by omega), u_k (by omega), u_k (by omega), u_k (by omega), u_s]
    have e1 : o_prm r k v0 v1 v2 v3 (762 + 6 * k + 1) = v1 := by unfold o_prm; rw [u_k (by omega), u_k (by omega), u_k (by omega), u_s]
    have e2 : o_prm r k v0 v1 v2 v3 (762 + 6 * k + 2) = v2 := by unfold o_prm; rw [u_k (by omega), u_k (by omega), u_s]
    have e3 : o_prm r k v0 v1 v2 v3 (762 + 6 * k + 3) = v3 := by unfold o_prm; rw [u_k (by omega), u_s]
    have e4 : o_prm r k v0 v1 v2 v3 (762 + 6 * k + 4) = 1 := by unfold o_prm; rw [u_s]
    unfold w_pr at hw ⊢
    rw [f30, f32, f33, f34, f35, u_s, u_s, u_s, u_s, u_s, f (a + 31) (by omega) (by omega) (by omega) (by omega) (by omega), e0, e1, e2, e3, e4, er (762 + 6 * k + 5) (by omega)]
    exact ⟨rfl, hw.2.1, fun _ => ⟨rfl, rfl, rfl, rfl⟩⟩
  · refine w_pr_row (fun w hw => er _ (by omega)) ?_
    unfold w_pr at hw ⊢
    rw [f30, f32, f33, f34, f35, u_k hkk, u_k hkk, u_k hkk, u_k hkk, u_k hkk, f (a + 31) (by omega) (by omega) (by omega) (by omega) (by omega)]
    exact hw
theorem w_promises {g : ev_G} {S : ev_S} {a k q u B : Nat} {r R : Nat → Int32} {v w : Int32} (h : LV g S a r R u) (hk : k < 2) (hq : ∀ np, r 3 = Int32.ofNat np → np ≤ 4 → q < np) {Q : ev_O → ev_S → Prop}
    (hQ1 : ∀ z, w_uc g S z a → (∀ x, x < ev_b g + 505 → z.1 x = S.1 x) → z.1 a 33 = 1 → Q (.inl (some (ev_i 1))) z) (hQ2 : ∀ z r', LV g z a r' (o_kp R r u) (o_ku u) → w_uc g S z a → r' 2 = r 2 ∧ r' 3 = r 3 → Q (.inl (some (ev_i 1))) z) :
    ev_Cv g m_L_promises 7 (B + 81) [ev_o 9 (ev_b g), ev_o 11 a, ev_i (Int32.ofNat k), ev_i v, ev_i w, ev_i (Int32.ofNat q)] S Q := by
  have hLV := h
  obtain ⟨⟨ha, hlw⟩, ⟨hbo, h32, h33⟩, ⟨n, lim, np, L, d, ρ, ⟨hi, hL, hd, hg, hok⟩, hw, hcx⟩, hs2, hh, hsh⟩ := h
  have hq := hq np hi.1.2.2.1 hi.1.2.2.2.1
  have hnp := hi.1.2.2.2.1
  have hab := hlw.1 (0, a) ha
  simp only at hab
  have hmad := IR_mad hi.1
  have hdk := i_dk_p hi.1 hk
  have h8 := hdk.2.1
  have hn9 := sq_le h8
  have h4n := hok.1
  obtain ⟨m, hm, hml⟩ := hdk.2.2.2.2.1
  have hl60 := hdk.2.2.2.1
  have hmd : o_mad r k = m := by unfold o_mad; rw [hm, n_c (by omega)]
  have hsq : i_sq r k n := (hi.2.2 k hk).1
  have hb := hw.2.1 k hk
  have e4 : S.1 a 4 = Int32.ofNat L := (hw.1 4 (by omega)).trans hi.1.2.2.2.2.1
  have e6 : S.1 (a + 2 + 7 * k) 6 = Int32.ofNat m := hb.2.2.2.1.trans hm
  have e11 : S.1 a 1 = r 1 := hw.1 1 (by omega)
  have e80 : (80 : Int32) = Int32.ofNat 80 := rfl
  have e1k : (1 : Int32) - Int32.ofNat k = Int32.ofNat (1 - k) := n_sub 1 k (by omega)
  have lv : ∀ (C : Nat) (T : ev_S), w_up g S T → ev_E g m_L_promises 7 C 66 [none, some (ev_o 11 a), none, none, none, none, none, none, none, none, none] [] T Q := fun C T t => by
    refine sg_L_promises_66 0 a ?_
    intro S1 x1
    refine hQ1 S1 (w_uc_tr (w_uc_up t) (w_uc_sm t.2 (by rw [x1]; rfl) (fun x x1' x2 => by rw [x1, m_r (by omega)]))) (fun x hx => by rw [x1, m_r (by omega)]; exact (w_up_cls t hx).1) (by rw [x1, m_s])
  have lv0 : ∀ C, ev_E g m_L_promises 7 C 66 [none, some (ev_o 11 a), none, none, none, none, none, none, none, none, none] [] S Q := fun C => lv C S (w_up_rf hlw)
  rw [show B + 81 = (B + 1) + 80 by omega]
  refine sg_L_promises_0 (ev_b g) a _ _ _ _ ⟨(n_vp (by omega) (by omega)).mpr trivial, ?_⟩
  rw [w_bdA hk, e6, ra_2, e1k]
  refine w_isOver hk h8 hsq hb e11 _ ⟨_, rfl, fun _ => lv0 _, fun hover => ?_⟩
  refine w_isTurn hk h8 hsq hm (by omega) hb e11 _ ⟨_, rfl, fun _ => lv0 _, fun hturn => ?_⟩
  rw [e4, e80, n_eq (by omega) (by omega), e6, n_inc, e11]
  refine ⟨fun _ => lv0 _, fun hL80 => ⟨(n_vp (by omega) (by omega)).mpr trivial, ?_⟩⟩
  obtain ⟨p30, p31, -⟩ := hw.2.2.2.2.1 (m + 2) (by omega)
  rw [n_c (by omega), p30]
  refine ⟨fun hwr => ⟨fun _ => lv0 _, fun hlast => ?_⟩, fun _ => lv0 _⟩
  refine w_some h4n h8 (o := fun s => r (26 + 64 * k + s)) ((hw.1 0 (by omega)).trans hdk.1) (fun s hs => hb.1 s (by omega)) (fun s hs => w_sqv hsq (by omega)) ⟨_, rfl, fun c => absurd c (by decide), fun _ S10 x10 => ?_⟩ (fun f t hf ht hf1 hcan => ⟨_, rfl, fun _ => ?_, fun c => absurd (by rw [n_nn (by omega)]; trivial) c⟩)
  · refine hQ1 S10 (w_uc_sm hlw (by rw [x10]; rfl) (fun x x1' x2 => by rw [x10, m_r (by omega)])) (fun x hx => by rw [x10, m_r (by omega)]) (by rw [x10, m_s])
  have hmv : o_moves r k n (Int32.ofNat (1 - k)) f t = true := w_can_moves hf1 hcan
  obtain ⟨hff, hft⟩ := o_moves_f hmv
  obtain ⟨qf, qt⟩ := n_q64 (f := f) (t := t) (by omega) (by omega)
  rw [qf, qt]
  intro c hlc S4 x4
  have hac : a + 36 ≤ c ∨ c + 7 ≤ a := by
    have := (List.pairwise_cons.mp hlc.2).1 (0, a) ha
    exact this
  have l7 : (ev_tk 1).length = 7 := rfl
  have hcb := hlc.1 (1, c) List.mem_cons_self
  simp only at hcb
  have o4 : ∀ x, (x < c ∨ c + 7 ≤ x) → S4.1 x = S.1 x := fun x hx => by rw [x4]; exact if_neg (by rw [l7]; omega)
  refine w_takes (by omega) (by
    rw [o4 _ (by omega)]
    have : k = 0 ∨ k = 1 := by omega
    rcases this with rfl | rfl
    · exact hbo.1
    · exact hbo.2.1) (fun S5 t1 t2 t3 t4 t5 => ⟨rfl, (n_vp (by omega) (by omega)).mpr trivial, ?_⟩)
  rw [n_c (by omega)]
  intro S6 x6
  refine ⟨(n_vp (by omega) (by omega)).mpr trivial, ?_⟩
  rw [n_c (by omega)]
  intro S7 x7
  have o7 : ∀ x, (x < c ∨ c + 7 ≤ x) → S7.1 x = S.1 x := fun x hx => by rw [x7, m_r (by omega), x6, m_r (by omega), t2 x hx, o4 x hx]
  have up7 : w_up g S S7 := by
    refine w_up_new hlc ?_ (fun x hx => o7 x hx) (fun x hx => ?_)
    · rw [x7]
      show S6.2.1 = _
      rw [x6]
      show S5.2.1 = _
      rw [t1, x4]
      rfl
    · rw [x7]
      show S6.2.2 x = _
      rw [x6]
      show S5.2.2 x = _
      rw [t1, x4]
      exact if_neg (by omega)
  have sq7 : ∀ s, s < 64 → S7.1 (c + 1) s = o_laid r k f t (26 + 64 * k + s) := fun s hs => by
    rw [o_laid_sq hft, x7, m_if]
    by_cases h1 : s = f
    · rw [if_pos h1, if_pos h1]
    · rw [if_neg h1, if_neg h1, x6, m_if]
      by_cases h2 : s = t
      · rw [if_pos h2, if_pos h2, hff]
      · rw [if_neg h2, if_neg h2, t3 s hs, o4 _ (by omega)]
        exact hb.1 s hs
  have hsl := i_sq_laid h8 hf ht hft hsq
  refine w_bishops (r := o_laid r k f t) (p := k) (n := n) (q := Int32.ofNat k) h8 hsl (by rw [n_m1 (by omega)]; exact id) sq7 _ ⟨_, rfl, ?_⟩
  have hb64 := o_bish_le (o_laid r k f t) k n (Int32.ofNat k) h8
  -- no reply: it is left out
  have none9 : ev_E g m_L_promises 7 (B + 1) 167 [some (ev_o 9 (ev_b g)), some (ev_o 11 a), some (ev_i (Int32.ofNat k)), none, none, some (ev_i (Int32.ofNat q)), some (ev_i (Int32.ofNat (m + 2))), some (ev_i (Int32.ofNat (64 * f + t))), none, some (ev_i (-1)), none] [] S7 Q := by
    refine sg_L_promises_167 (ev_b g) a _ _ _ _ _ (j_neg (by decide) ?_)
    intro S8 x8
    refine hQ1 S8 (w_uc_tr (w_uc_up up7) (w_uc_sm up7.2 (by rw [x8]; rfl) (fun x x1' x2 => by rw [x8, m_r (by omega)]))) (fun x hx => by rw [x8, m_r (by omega)]; exact (w_up_cls up7 hx).1) (by rw [x8, m_s])
  refine ⟨fun _ => none9, fun hbz => ?_⟩
  rw [n_z (by omega)] at hbz
  have s70 : S7.1 a 0 = Int32.ofNat n := by rw [o7 a (by omega)]; exact (hw.1 0 (by omega)).trans hdk.1
  refine w_some h4n h8 (o := fun s => o_laid r k f t (26 + 64 * k + s)) s70 (fun s hs => sq7 s (by omega)) (fun s hs => w_sqv hsl (by omega)) ⟨_, rfl, none9⟩ (fun rf rt hrf hrt hrf1 hrcan => ⟨_, rfl, ?_⟩)
  have hmv2 : o_moves (o_laid r k f t) k n (Int32.ofNat k) rf rt = true := w_can_moves hrf1 hrcan
  obtain ⟨hrff, hrft⟩ := o_moves_f hmv2
  obtain ⟨rqf, rqt⟩ := n_q64 (f := rf) (t := rt) (by omega) (by omega)
  refine sg_L_promises_167 (ev_b g) a _ _ _ _ _ (j_pos (by rw [n_nn (by omega)]; trivial) ⟨(n_vp (by omega) (by omega)).mpr trivial, ?_⟩)
  rw [n_c (by omega), qf, qt, rqf, rqt]
  intro T1 y1 T2 y2 T3 y3 T4 y4 T5 y5
  have hmay : o_mayp r k n (o_mad r k) L := by rw [hmd]; exact ⟨hover, hturn, hwr, by omega⟩
  have hams : o_ams r k n (o_mad r k) f t rf rt = true := by
    rw [hmd]
    unfold o_ams
    simp only [Bool.and_eq_true, decide_eq_true_eq]
    exact ⟨hmv, hlast, by omega, hmv2⟩
  have hlt : m + 1 < lim := by
    have h9 := o_over_not hover
    rw [hm, hdk.2.2.1, Ne, n_eq (by omega) (by omega)] at h9
    rw [hdk.2.2.1, n_eq (by omega) (by omega)] at hlast
    omega
  obtain ⟨hIq, hpr⟩ := IG_prm hi (show m + 2 ≤ 60 by omega) hwr hf ht hft hrf hrt hrft
  have hIp := IG_prom hk hq hf ht hrf hrt hi hm hml (by rw [← hmd]; exact hmay) (by rw [← hmd]; exact hams)
  have g7 : w_gm S7.1 a r L := w_gm_up up7 ha hw
  have k5 : ∀ x, x ≠ a + 30 → x ≠ a + 32 → x ≠ a + 33 → x ≠ a + 34 → x ≠ a + 35 → T5.1 x = S7.1 x := fun x q0 q2 q3 q4 q5 => by rw [y5, m_r q5, y4, m_r q4, y3, m_r q3, y2, m_r q2, y1, m_r q0]
  have g5 : w_gm T5.1 a (o_prm r (m + 2) (Int32.ofNat f) (Int32.ofNat t) (Int32.ofNat rf) (Int32.ofNat rt)) L := by
    refine w_gm_prm hmad (by omega) (by omega) k5 ?_ ?_ ?_ ?_ ?_ g7
    · rw [y5, m_r (by omega), y4, m_r (by omega), y3, m_r (by omega), y2, m_r (by omega), y1, m_u, r_s]
    · rw [y5, m_r (by omega), y4, m_r (by omega), y3, m_r (by omega), y2, m_u, r_s, y1, m_r (by omega)]
    · rw [y5, m_r (by omega), y4, m_r (by omega), y3, m_u, r_s, y2, m_r (by omega), y1, m_r (by omega)]
    · rw [y5, m_r (by omega), y4, m_u, r_s, y3, m_r (by omega), y2, m_r (by omega), y1, m_r (by omega)]
    · rw [y5, m_u, r_s, y4, m_r (by omega), y3, m_r (by omega), y2, m_r (by omega), y1, m_r (by omega)]
  have kp5 : w_kp S7 T5 a := ⟨⟨by rw [y5, y4, y3, y2, y1]; rfl, fun x hx => k5 x (by omega) (by omega) (by omega) (by omega) (by omega)⟩, fun k _ => by rw [k5 a (by omega) (by omega) (by omega) (by omega) (by omega)], fun ⟨c1, c2, c3, c4, c5⟩ => by
    unfold w_bo
    rw [k5 (a + 8) (by omega) (by omega) (by omega) (by omega) (by omega), k5 (a + 15) (by omega) (by omega) (by omega) (by omega) (by omega), k5 (a + 29) (by omega) (by omega) (by omega) (by omega) (by omega), k5 (a + 31) (by omega) (by omega) (by omega) (by omega) (by omega), y5, m_r (by omega), y4, m_r (by omega), y3, m_r (by omega), y2, m_r (by omega), y1, m_u, r_s]
    exact ⟨c1, c2, c3, w_bl_up (Or.inr rfl) c4, c5⟩⟩
  refine w_posts hL hIq.1.2.2.2.2.1 (IR_mad hIq.1) (Or.inr rfl) (fun _ => ?_) g5 (fun T6 t6 t7 => ⟨_, rfl, ?_⟩)
  · have e1 : (1 : Int32) = Int32.ofNat 1 := rfl
    rw [e1, n_eq (by omega) (by omega)]
    omega
  have kp : w_kp S7 T6 a := w_kp_tr kp5 t6
  have kc : ∀ x, x < ev_b g + 505 → T6.1 x = S.1 x := fun x hx => by rw [kp.1.2 x (by omega)]; exact (w_up_cls up7 hx).1
  have eqs : ∀ {p' q' f' t' rf' rt' : Nat}, k_prm n np (Int32.ofNat k) (Int32.ofNat q) (Int32.ofNat f) (Int32.ofNat t) (Int32.ofNat rf) (Int32.ofNat rt) p' q' f' t' rf' rt' → p' = k ∧ q' = q ∧ f' = f ∧ t' = t ∧ rf' = rf ∧ rt' = rt := fun {p' q' f' t' rf' rt'} hp => by
    obtain ⟨⟨b1, b2⟩, ⟨b3, b4⟩, ⟨b5, b6⟩, ⟨b7, b8⟩, ⟨b9, b10⟩, b11, b12⟩ := hp
    exact ⟨(ofi b1 (by omega) (by omega)).symm, (ofi b3 (by omega) (by omega)).symm, (ofi b5 (by omega) (by omega)).symm, (ofi b7 (by omega) (by omega)).symm, (ofi b9 (by omega) (by omega)).symm, (ofi b11 (by omega) (by omega)).symm⟩
  have hLV7 : LV g S7 a r R u := ⟨⟨w_up_mem up7 ha, up7.2⟩, ⟨w_bo_up up7 ha hbo, by rw [o7 a (by omega)]; exact h32, by rw [o7 a (by omega)]; exact h33⟩, ⟨n, lim, np, L, d, ρ, ⟨hi, hL, hd, q_gm_frame (fun x q1 q2 => (w_up_cls up7 (by omega)).1) hg, hok⟩, g7, hcx⟩, hs2, w_his_fr (fun x q1 q2 => (w_up_cls up7 (by omega)).1) hh, q_sh_fr hsh (w_up_cls up7 (by omega)).1 (w_up_cls up7 (by omega)).1⟩
  refine x_promise hi hL hd (q_gm_frame (fun q q1 q2 => kc q (by omega)) hg) hok (w_his_fr (fun q q1 q2 => kc q (by omega)) hh) ?_ ?_ ?_ ?_
  · intro hn
    exact absurd ⟨k, q, f, t, rf, rt, ⟨rfl, hk⟩, ⟨rfl, hq⟩, ⟨rfl, hf⟩, ⟨rfl, ht⟩, ⟨rfl, hrf⟩, rfl, hrt⟩ hn
  · intro p' q' f' t' rf' rt' hp hno
    obtain ⟨rfl, rfl, rfl, rfl, rfl, rfl⟩ := eqs hp
    exact absurd hmay hno
  · intro p' q' f' t' rf' rt' hp _ hno
    obtain ⟨rfl, rfl, rfl, rfl, rfl, rfl⟩ := eqs hp
    exact absurd hams hno
  · intro p' q' f' t' rf' rt' hp _ _ z z1 z2 z3 z4
    obtain ⟨rfl, rfl, rfl, rfl, rfl, rfl⟩ := eqs hp
    refine ⟨_, rfl, fun _ => ?_, fun c => absurd (by rw [hmd]) c⟩
    rw [hmd] at z3
    have er : ∀ j, (j < 2 ∨ j = 2 ∨ j = 3 ∨ j = 8 ∨ (1140 ≤ j ∧ j < 1200)) → o_prom r p' q' (m + 2) f' t' rf' rt' L j = r j := fun j hj => by
      unfold o_prom o_post
      rw [u_k (by omega), u_k (by omega), u_k (by omega), u_k (by omega), u_k (by omega), u_k (by omega), u_k (by omega), u_k (by omega), u_k (by omega)]
      unfold o_prm
      rw [u_k (by omega), u_k (by omega), u_k (by omega), u_k (by omega), u_k (by omega)]
    obtain ⟨f1, f2⟩ := LV_fin hLV7 kp z1 z2 z3 z4 (L' := L + 1) t7 hIp.1.2.2.2.2.1 (by omega) (w_s2_same hs2 (fun j hj => er j (by omega))) (CX_row hi (er 0 (by omega)) (er 3 (by omega)) (CX_prom hk hm hml (by omega) (by omega) hi hIq (by rw [← hmd]; exact hmay) hcx))
    exact hQ2 z _ f1 (w_uc_tr (w_uc_up up7) f2) ⟨er 2 (by omega), er 3 (by omega)⟩
