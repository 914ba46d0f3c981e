/-! ===== the law: what holds between class and own game; a move ===== -/
theorem w_his_fr {M M' : Nat → Nat → Int32} {a u : Nat} {R : Nat → Int32} (f : ∀ q, a ≤ q → q < a + 330 → M' q = M q) (h : q_his M a R u) : q_his M' a R u := by
  obtain ⟨h1, h2, w, hw, h3, h4, h5⟩ := h
  refine ⟨by rw [f a (by omega) (by omega)]; exact h1, h2, w, hw, by rw [f a (by omega) (by omega)]; exact h3, fun i hi => q_sh_fr (h4 i hi) (f _ (by omega) (by omega)) (f _ (by omega) (by omega)), fun i hi => ?_⟩
  obtain ⟨r, e, hq⟩ := h5 i hi
  refine ⟨r, e, ?_⟩
  have hm := Nat.mod_lt (w + 8 - i) (show 0 < 8 by omega)
  generalize (w + 8 - i) % 8 = j at *
  obtain ⟨n, lim, np, L, d, ρ, c1, c2, c3, c4, c5⟩ := hq
  exact ⟨n, lim, np, L, d, ρ, c1, c2, c3, q_gm_frame (fun q q1 q2 => f q (by omega) (by omega)) c4, c5⟩
/-- behind the class's object only the own game at a and new trees have changed -/
def w_uc (g : ev_G) (S z : ev_S) (a : Nat) : Prop := (∃ N : List (Nat × Nat), z.2.1 = N ++ S.2.1 ∧ (∀ x, ev_b g + 505 ≤ x → (x < a ∨ a + 36 ≤ x) → (∀ t, t ∈ N → x < t.2 ∨ t.2 + (ev_tk t.1).length ≤ x) → z.1 x = S.1 x) ∧ ∀ x, (∀ t, t ∈ N → x < t.2 ∨ t.2 + (ev_tk t.1).length ≤ x) → z.2.2 x = S.2.2 x) ∧ ev_lw g z.2.1
theorem w_uc_up {g : ev_G} {S z : ev_S} {a : Nat} (h : w_up g S z) : w_uc g S z a := by
  obtain ⟨⟨N, e, f⟩, hw⟩ := h
  exact ⟨⟨N, e, fun x _ _ hx => (f x hx).1, fun x hx => (f x hx).2⟩, hw⟩
theorem w_uc_sm {g : ev_G} {S z : ev_S} {a : Nat} (hw : ev_lw g S.2.1) (e : z.2 = S.2) (f : ∀ x, ev_b g + 505 ≤ x → (x < a ∨ a + 36 ≤ x) → z.1 x = S.1 x) : w_uc g S z a :=
  ⟨⟨[], by rw [e]; rfl, fun x h1 h2 _ => f x h1 h2, fun x _ => by rw [e]⟩, by rw [e]; exact hw⟩
theorem w_uc_tr {g : ev_G} {S T z : ev_S} {a : Nat} (h1 : w_uc g S T a) (h2 : w_uc g T z a) : w_uc g S z a := by
  obtain ⟨⟨N1, e1, f1, k1⟩, -⟩ := h1
  obtain ⟨⟨N2, e2, f2, k2⟩, hw⟩ := h2
  refine ⟨⟨N2 ++ N1, by rw [e2, e1, List.append_assoc], fun x x1 x2 hx => ?_, fun x hx => ?_⟩, hw⟩
  · rw [f2 x x1 x2 (fun t ht => hx t (List.mem_append_left _ ht)), f1 x x1 x2 (fun t ht => hx t (List.mem_append_right _ ht))]
  · rw [k2 x (fun t ht => hx t (List.mem_append_left _ ht)), k1 x (fun t ht => hx t (List.mem_append_right _ ht))]
theorem w_uc_old {g : ev_G} {S z : ev_S} {a t c x : Nat} (h : w_uc g S z a) (hlw : ev_lw g S.2.1) (hm : (t, c) ∈ S.2.1) (hca : c + (ev_tk t).length ≤ a ∨ a + 36 ≤ c) (h1 : c ≤ x) (h2 : x < c + (ev_tk t).length) : z.1 x = S.1 x ∧ z.2.2 x = S.2.2 x := by
  obtain ⟨⟨N, e, f, k⟩, hw⟩ := h
  have hx : ∀ u, u ∈ N → x < u.2 ∨ u.2 + (ev_tk u.1).length ≤ x := fun u hu => by
    have hp := hw.2
    rw [e] at hp
    have := (List.pairwise_append.mp hp).2.2 u hu (t, c) hm
    simp only at this
    omega
  have := hlw.1 (t, c) hm
  simp only at this
  exact ⟨f x (by omega) (by omega) hx, k x hx⟩
theorem w_uc_mem {g : ev_G} {S z : ev_S} {a : Nat} {t : Nat × Nat} (h : w_uc g S z a) (hm : t ∈ S.2.1) : t ∈ z.2.1 := by
  obtain ⟨⟨N, e, -⟩, -⟩ := h
  rw [e]
  exact List.mem_append_right _ hm
/-- class and own game at a hold the game r, the class's history R with u games -/
def LV (g : ev_G) (S : ev_S) (a : Nat) (r R : Nat → Int32) (u : Nat) : Prop :=
  ((0, a) ∈ S.2.1 ∧ ev_lw g S.2.1) ∧ (w_bo S.1 a ∧ S.1 a 32 = -1 ∧ S.1 a 33 = 0) ∧ (∃ n lim np L d ρ, (IG r n lim np L d ρ ∧ L ≤ 80 ∧ d < 10000 ∧ q_gm S.1 (ev_b g + 11) r n L ρ ∧ i_ok r n np L) ∧ w_gm S.1 a r L ∧ CX r n np L) ∧ w_s2 r ∧ q_his S.1 (ev_b g + 93) R u ∧ q_sh S.1 (ev_b g + 52)
theorem LV_IW {r : Nat → Int32} {n lim np L d : Nat} {ρ : List Nat} (h : IG r n lim np L d ρ) (hk : i_ok r n np L) (hs : w_s2 r) : IW r n lim np L d (-1) ρ := ⟨h.1, h.2.1, h.2.2, hk.2.2, hs⟩
theorem LV_fin {g : ev_G} {S T z : ev_S} {a u u' L' : Nat} {r r' R R' : Nat → Int32} (h : LV g S a r R u) (kp : w_kp S T a) (zf : q_fr T z (ev_b g + 11) 412) (zd : ∀ q, ev_b g + 52 ≤ q → q < ev_b g + 93 → z.1 q = T.1 q) (qa : q_any z.1 (ev_b g + 11) r') (qh : q_his z.1 (ev_b g + 93) R' u')
    (gw : w_gm T.1 a r' L') (h4 : r' 4 = Int32.ofNat L') (hL' : L' ≤ 81) (s2 : w_s2 r') (cx : ∀ n np, r' 0 = Int32.ofNat n → n ≤ 8 → r' 3 = Int32.ofNat np → np ≤ 4 → CX r' n np L') : LV g z a r' R' u' ∧ w_uc g S z a := by
  obtain ⟨⟨ha, hlw⟩, ⟨hbo, h32, h33⟩, -, -, -, hsh⟩ := h
  have hab := hlw.1 (0, a) ha
  simp only at hab
  obtain ⟨n, lim, np, L, d, ρ, c1, c2, c3, c4, c5⟩ := qa
  have hLL : L = L' := by
    have := c1.1.2.2.2.2.1
    rw [h4, n_eq (by omega) (by omega)] at this
    exact this.symm
  subst hLL
  have e2 : z.2 = S.2 := zf.1.trans kp.1.1
  have fz : ∀ x, ev_b g + 505 ≤ x → z.1 x = T.1 x := fun x hx => zf.2 x (by omega)
  refine ⟨⟨by rw [e2]; exact ⟨ha, hlw⟩, ⟨w_bo_fr (fun q q1 q2 => fz q (by omega)) (kp.2.2 hbo), by rw [fz a hab, kp.2.1 32 (by omega)]; exact h32, by rw [fz a hab, kp.2.1 33 (by omega)]; exact h33⟩, ⟨n, lim, np, L, d, ρ, ⟨c1, c2, c3, c4, c5⟩, w_gm_fr (fun q q1 q2 => fz q (by omega)) gw, cx n np c1.1.1.1 c1.1.1.2.1 c1.1.2.2.1 c1.1.2.2.2.1⟩, s2, qh, q_sh_fr hsh (by rw [zd _ (by omega) (by omega), kp.1.2 _ (by omega)]) (by rw [zd _ (by omega) (by omega), kp.1.2 _ (by omega)])⟩, w_uc_sm hlw e2 (fun x x1 x2 => by rw [fz x x1, kp.1.2 x x2])⟩
theorem CX_row {r r' : Nat → Int32} {n lim np L d L' : Nat} {ρ : List Nat} (hi : IG r n lim np L d ρ) (e0 : r' 0 = r 0) (e3 : r' 3 = r 3) (h : CX r' n np L') : ∀ n np, r' 0 = Int32.ofNat n → n ≤ 8 → r' 3 = Int32.ofNat np → np ≤ 4 → CX r' n np L' := by
  intro n2 np2 h0 h8 h3 h4
  have a8 := hi.1.1.2.1
  have a4 := hi.1.2.2.2.1
  rw [e0, hi.1.1.1, n_eq (by omega) (by omega)] at h0
  rw [e3, hi.1.2.2.1, n_eq (by omega) (by omega)] at h3
  rw [← h0, ← h3]
  exact h
theorem n_q64 {f t : Nat} (hf : f < 64) (ht : t < 64) : Int32.ofNat (64 * f + t) / 64 = Int32.ofNat f ∧ ev_rem (Int32.ofNat (64 * f + t)) 64 = Int32.ofNat t := by
  have h1 := n_divc (d := 64 * f + t) (c := 64) (by omega) (by decide) (by decide)
  have h2 := n_remc (d := 64 * f + t) (c := 64) (by omega) (by decide) (by decide)
  rw [show (64 * f + t) / 64 = f by omega] at h1
  rw [show (64 * f + t) % 64 = t by omega] at h2
  exact ⟨h1, h2⟩
theorem w_can_moves {r : Nat → Int32} {p n f t : Nat} {its : Int32} (h : r (26 + 64 * p + f) = its) (h1 : w_can (fun s => r (26 + 64 * p + s)) n f t = true) : o_moves r p n its f t = true := by
  unfold w_can at h1
  unfold o_moves
  simp only [Bool.and_eq_true, decide_eq_true_eq] at h1 ⊢
  rw [h] at h1
  exact ⟨⟨h, h1.1.1, h1.1.2⟩, h1.2⟩
theorem w_sqv {r : Nat → Int32} {p n s : Nat} (h : i_sq r p n) (hs : s < 64) : r (26 + 64 * p + s) = -1 ∨ 0 ≤ (r (26 + 64 * p + s)).toInt := by
  rcases h s hs with h | ⟨-, h | h⟩
  · exact Or.inl h
  · right; rw [h]; decide
  · right; rw [h]; decide
theorem w_moves {g : ev_G} {S : ev_S} {a k q u B : Nat} {r R : Nat → Int32} {v : Int32} (h : LV g S a r R u) (hk : k < 2) (hq : ∀ np, r 3 = Int32.ofNat np → np ≤ 4 → q < np) {Q : ev_O → ev_S → Prop}
    (hQ1 : ∀ z, z = ev_up S a 33 1 → Q (.inl (some (ev_i 1))) z) (hQ2 : ∀ z r', LV g z a r' (o_kp R r u) (o_ku u) → w_uc g S z a → r' 2 = r 2 ∧ r' 3 = r 3 → Q (.inl (some (ev_i 1))) z) :
    ev_Cv g m_L_moves 7 (B + 1) [ev_o 9 (ev_b g), ev_o 11 a, ev_i (Int32.ofNat k), ev_i v, ev_i (Int32.ofNat q)] S Q := by
  have hLV := h
  obtain ⟨⟨ha, hlw⟩, ⟨hbo, h32, h33⟩, ⟨n, lim, np, L, d, ρ, ⟨hi, hL, hd, hg, hok⟩, hw, hcx⟩, hs2, hh, hsh⟩ := h
  have hq := hq np hi.1.2.2.1 hi.1.2.2.2.1
  have hnp := hi.1.2.2.2.1
  have hab := hlw.1 (0, a) ha
  simp only at hab
  have hmad := IR_mad hi.1
  have hdk := i_dk_p hi.1 hk
  have h8 := hdk.2.1
  have hn9 := sq_le h8
  have h4n := hok.1
  obtain ⟨m, hm, hml⟩ := hdk.2.2.2.2.1
  have hl60 := hdk.2.2.2.1
  have hmd : o_mad r k = m := by unfold o_mad; rw [hm, n_c (by omega)]
  have hsq : i_sq r k n := (hi.2.2 k hk).1
  have hb := hw.2.1 k hk
  have e4 : S.1 a 4 = Int32.ofNat L := (hw.1 4 (by omega)).trans hi.1.2.2.2.2.1
  have e6 : S.1 (a + 2 + 7 * k) 6 = Int32.ofNat m := hb.2.2.2.1.trans hm
  have e80 : (80 : Int32) = Int32.ofNat 80 := rfl
  refine sg_L_moves_0 (ev_b g) a _ _ _ ?_
  refine w_isTurn hk h8 hsq hm (by omega) hb (hw.1 1 (by omega)) _ ⟨_, rfl, fun hturn => ?_, fun hturn S9 x9 => hQ1 S9 x9⟩
  rw [e4, e80, n_eq (by omega) (by omega), w_bdA hk]
  refine ⟨fun _ S8 x8 => hQ1 S8 x8, fun hL80 => ⟨(n_vp (by omega) (by omega)).mpr trivial, ?_⟩⟩
  refine w_some h4n h8 (o := fun s => r (26 + 64 * k + s)) ((hw.1 0 (by omega)).trans hdk.1) (fun s hs => hb.1 s (by omega)) (fun s hs => w_sqv hsq (by omega)) ⟨_, rfl, fun c => absurd c (by decide), fun _ S7 x7 => hQ1 S7 x7⟩ (fun f t hf ht hf1 hcan => ⟨_, rfl, fun _ => ?_, fun c => absurd (by rw [n_nn (by omega)]; trivial) c⟩)
  have hmv : o_moves r k n (Int32.ofNat k) f t = true := w_can_moves hf1 hcan
  obtain ⟨hff, hft⟩ := o_moves_f hmv
  obtain ⟨qf, qt⟩ := n_q64 (f := f) (t := t) (by omega) (by omega)
  rw [qf, qt, e6, n_inc]
  have hover : ¬ o_over r k n = true := fun h9 => by
    simp [o_turn, h9] at hturn
  have hlt : m < lim := by
    have h9 := o_over_not hover
    rw [hm, hdk.2.2.1, Ne, n_eq (by omega) (by omega)] at h9
    omega
  have hmk : o_maker (m + 1) = k := by
    simp only [o_turn, Bool.and_eq_true, decide_eq_true_eq] at hturn
    exact hturn.2
  have hIa := IG_apply (t := t) hk hm hlt hf ht hft hi
  have hIp := IG_post hIa (show L < 80 by omega) hk hq (show 1 ≤ m + 1 by omega) (show m + 1 ≤ 60 by omega) hf ht hft (isp := 0) (Or.inl rfl)
  refine w_apply hk hm (by omega) hmad (by omega) (by omega) hft hw (fun T1 t1 t2 => ⟨rfl, ?_⟩)
  refine w_posts hL hIa.1.2.2.2.2.1 (IR_mad hIa.1) (Or.inl rfl) (fun h9 => absurd h9 (by decide)) t2 (fun T2 t3 t4 => ⟨_, rfl, ?_⟩)
  refine w_goesOn hk (i_dk_p hIp.1 hk) (hIp.2.2 k hk) (IR_mad hIp.1) t4 (fun T3 t5 t6 => ⟨rfl, ?_⟩)
  have kp : w_kp S T3 a := w_kp_tr (w_kp_b hk t1) (w_kp_tr t3 (w_kp_b hk t5))
  have kc : ∀ x, x < ev_b g + 505 → T3.1 x = S.1 x := fun x hx => kp.1.2 x (by omega)
  have hmo : o_turn r k n (o_mad r k) = true ∧ L < 80 := ⟨by rw [hmd]; exact hturn, by omega⟩
  have eqs : ∀ {p f' t' q' : Nat}, Int32.ofNat k = Int32.ofNat p → p < 2 → Int32.ofNat f = Int32.ofNat f' → f' < n * n → Int32.ofNat t = Int32.ofNat t' → t' < n * n → Int32.ofNat q = Int32.ofNat q' → q' < np → p = k ∧ f' = f ∧ t' = t ∧ q' = q := fun {p f' t' q'} b1 b2 b3 b4 b5 b6 b7 b8 => ⟨(ofi b1 (by omega) (by omega)).symm, (ofi b3 (by omega) (by omega)).symm, (ofi b5 (by omega) (by omega)).symm, (ofi b7 (by omega) (by omega)).symm⟩
  refine x_move hi hL hd (q_gm_frame (fun q q1 q2 => kc q (by omega)) hg) hok (w_his_fr (fun q q1 q2 => kc q (by omega)) hh) ?_ ?_ ?_ ?_
  · intro hn
    exact absurd ⟨⟨k, rfl, hk⟩, ⟨f, rfl, hf⟩, ⟨t, rfl, ht⟩, ⟨q, rfl, hq⟩⟩ hn
  · intro p f' t' q' b1 b2 b3 b4 b5 b6 b7 b8 hno
    obtain ⟨rfl, rfl, rfl, rfl⟩ := eqs b1 b2 b3 b4 b5 b6 b7 b8
    exact absurd hmo hno
  · intro p f' t' q' b1 b2 b3 b4 b5 b6 b7 b8 _ hno
    obtain ⟨rfl, rfl, rfl, rfl⟩ := eqs b1 b2 b3 b4 b5 b6 b7 b8
    exact absurd hmv hno
  · intro p f' t' q' b1 b2 b3 b4 b5 b6 b7 b8 _ _ z z1 z2 z3 z4
    obtain ⟨rfl, rfl, rfl, rfl⟩ := eqs b1 b2 b3 b4 b5 b6 b7 b8
    refine ⟨_, rfl, fun _ => ?_, fun c => absurd (by rw [hmd]) c⟩
    have fin := fun g1 g2 g3 => LV_fin hLV kp z1 (fun q q1 q2 => z2 q (by omega) q2) z3 z4 (L' := L + 1) (by unfold o_move; rw [hmd]; exact t6) g1 (by omega) g2 g3
    have er : ∀ j, (j < 2 ∨ j = 2 ∨ j = 3 ∨ j = 8 ∨ (1140 ≤ j ∧ j < 1200)) → o_move r n p (o_mad r p) f' t' q' L j = r j := fun j hj => by
      unfold o_move
      rw [hmd, (o_all_own hk 61 _ (i_dk_p hIp.1 hk)).2 j (by unfold o_own; omega)]
      unfold o_post
      rw [u_k (by omega), u_k (by omega), u_k (by omega), u_k (by omega), u_k (by omega), u_k (by omega), u_k (by omega), u_k (by omega), u_k (by omega), o_apply_at (by omega) (by omega) (by omega) (by omega)]
    have h4' : o_move r n p (o_mad r p) f' t' q' L 4 = Int32.ofNat (L + 1) := by
      unfold o_move
      rw [hmd, (o_all_own hk 61 _ (i_dk_p hIp.1 hk)).2 4 (by unfold o_own; omega)]
      exact hIp.1.2.2.2.2.1
    obtain ⟨f1, f2⟩ := fin h4' (w_s2_same hs2 (fun j hj => er j (by omega))) (CX_row hi (er 0 (by omega)) (er 3 (by omega)) (by rw [hmd]; exact CX_move hk hm hlt hf ht hft hq (by omega) hi hturn hcx))
    exact hQ2 z _ f1 f2 ⟨er 2 (by omega), er 3 (by omega)⟩
