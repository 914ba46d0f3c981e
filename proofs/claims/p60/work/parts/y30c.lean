/-! ===== the law begins: class and own game hold the same new game ===== -/
theorem sb_ol_cls {g : ev_G} {S z : ev_S} {x : Nat} (f : sb_ol g S z) (hx : x < 505) : z.1 (ev_b g + x) = S.1 (ev_b g + x) := (f.2.2 (ev_b g + x) (ev_kd x) (ev_mem_al.mpr (Or.inl ⟨x, hx, rfl⟩))).1
theorem sb_ol_own {g : ev_G} {S z : ev_S} {a x : Nat} (f : sb_ol g S z) (ha : (0, a) ∈ S.2.1) (hx : x < 36) : z.1 (a + x) = S.1 (a + x) := (f.2.2 (a + x) _ (ev_tree (g := g) (t := 0) (o := x) ha (bg_k0 x hx).1)).1
set_option maxHeartbeats 4000000 in
set_option maxRecDepth 100000 in
theorem w_loads {g : ev_G} {S0 S : ev_S} {a k2 w N lim np u B : Nat} {r1 r R : Nat → Int32} {t1 t : List Nat} {bs : List (Nat × Nat)} {ps ss : List (Nat × (Nat × Nat))} {Q : ev_O → ev_S → Prop} (h4 : 4 ≤ N) (h8 : N ≤ 8) (l1 : 1 ≤ lim) (l60 : lim ≤ 60) (hnp0 : 0 < np) (hnp : np ≤ 4)
    (hc0 : S0.1 (ev_b g + 1) 1 = 0) (h52 : q_sh S0.1 (ev_b g + 52)) (h11 : q_sh S0.1 (ev_b g + 11)) (hh : q_his S0.1 (ev_b g + 93) R u)
    (bok : tx_bok N (o_gm0 (fun _ => 0) N lim) bs) (bl : bs.length ≤ 12) (pok : tx_pok ps) (pl : ps.length = np) (e1 : t1 = (tx_h N lim ++ tx_bs N bs) ++ tx_ps ps) (er : r1 = o_opens (o_lays (o_gm0 (fun _ => 0) N lim) bs) ps)
    (h : BE g S0 S a w N lim np 7 r1 r t1 t ss) (hQ : ∀ z, LV g z a r R 0 → r 2 = 0 → r 3 = Int32.ofNat np → Q (.inl (some (ev_i 1))) z) : ev_E g m_L_begins 9 (B + 707) 474 [some (ev_o 9 (ev_b g)), some (ev_o 11 a), some (ev_x 0 k2), some (ev_o 12 w), some (ev_i (Int32.ofNat 0)), none, none] [] S Q := by
  obtain ⟨⟨⟨hsx, hlw, ha⟩, hcl, -, m, v, hsb⟩, ⟨ht, hr⟩, ⟨hO, hi, hj⟩, sok, sl, hl, hc⟩ := h
  have hab := hlw.1 (0, a) ha
  simp only at hab
  refine sg_L_begins_474 (ev_b g) a k2 w _ (j_pos (by decide) ?_)
  refine ev_Cv.mono ?_ (c_toS hsb)
  rintro o z1 ⟨b', rfl, f1, hst⟩
  refine ⟨b', rfl, ?_⟩
  have hcl1 : ∀ x, x < 505 → z1.1 (ev_b g + x) = S0.1 (ev_b g + x) := fun x hx => (sb_ol_cls f1 hx).trans (hcl x hx)
  refine ev_Cv.mono ?_ (w_feeds f1.2.1 hst (by omega) hc (by rw [hcl1 1 (by omega)]; exact hc0))
  rintro o z2 ⟨rfl, hx1, hx2, hx3, hx4⟩
  refine ⟨true, rfl, j_pos rfl ?_⟩
  have f2 : ∀ x, x ≠ ev_b g + 1 → x ≠ ev_b g + 2 → z2.1 x = z1.1 x := hx2
  have hcl2 : ∀ x, x < 505 → x ≠ 1 → x ≠ 2 → z2.1 (ev_b g + x) = S0.1 (ev_b g + x) := fun x hx c1 c2 => (f2 _ (by omega) (by omega)).trans (hcl1 x hx)
  have hq2 : ∀ x, ev_b g + 3 ≤ x → x < ev_b g + 505 → z2.1 x = S0.1 x := fun x c1 c2 => by
    have := hcl2 (x - ev_b g) (by omega) (by omega) (by omega)
    rwa [show ev_b g + (x - ev_b g) = x by omega] at this
  rw [List.length_map, Nat.zero_add] at hx3
  have hT : ∀ j, j < t.length → z2.1 (ev_b g + 2) j = Int32.ofNat (t.getD j 0) := fun j hj => by
    rw [hx4]
    have := app_at (t.map Int32.ofNat) (z1.1 (ev_b g + 2)) 0 j (by rw [List.length_map]; exact hj)
    rw [Nat.zero_add] at this
    rw [this, List.getD_eq_getElem?_getD, List.getD_eq_getElem?_getD, List.getElem?_map, List.getElem?_eq_getElem hj]
    rfl
  obtain ⟨p0, ps', rfl⟩ : ∃ p0 ps', ps = p0 :: ps' := by
    cases ps with
    | nil => exact absurd pl (by show ¬ 0 = np; omega)
    | cons p0 ps' => exact ⟨p0, ps', rfl⟩
  have pl' : ps'.length + 1 = np := pl
  have et : t = tx_all N lim bs (p0 :: ps') ss := by
    rw [ht, e1]
    show _ = tx_h N lim ++ (tx_bs N bs ++ (tx_ps (p0 :: ps') ++ tx_ss ss))
    simp only [List.append_assoc]
  have hset : p_set (fun _ => 0) (fun j => Int32.ofNat (t.getD j 0)) t.length = .inr r := by
    have := p_set_ok (A := fun _ => 0) (T := fun j => Int32.ofNat (t.getD j 0)) (n := t.length) (N := N) (lim := lim) (bs := bs) (p0 := p0) (ps := ps') (ss := ss) h4 h8 l1 l60 (by omega) bok (by omega) pok (by omega) (by rw [pl']; exact sok) (by rw [← et]; exact ⟨Nat.zero_add _, fun j hj => by rw [Nat.zero_add]⟩)
    rw [this, hr, er]
  refine ev_Cv.mono ?_ (x_load (g := g) (S := z2) (b := ev_b g) (n := t.length) (u := u) (T := fun j => Int32.ofNat (t.getD j 0)) (A := fun _ => 0) (R := R) (Q := fun o z => o = .inl (some (ev_i 0)) ∧ z.1 (ev_b g) 11 = -1 ∧ LV g z a r R 0) (by omega) hx3 hT (q_sh_fr h52 (hq2 _ (by omega) (by omega)) (hq2 _ (by omega) (by omega))) (q_sh_fr h11 (hq2 _ (by omega) (by omega)) (hq2 _ (by omega) (by omega))) (w_his_fr (fun q q1 q2 => hq2 q (by omega) (by omega)) hh) (fun c p hp _ => ?_) (fun r' hp z zl zq z11 zh z8 z9 z10 zb => ?_))
  · rintro o z3 ⟨rfl, hz1, hz2⟩
    refine ⟨0, rfl, j_pos rfl (j_pos hz1 (hQ z3 hz2 (hi.2.2.1 2 (by omega)) hi.2.1.2.2))⟩
  · rw [hset] at hp
    cases hp
  · rw [hset] at hp
    have hrr : r = r' := Sum.inr.inj hp
    subst hrr
    refine ⟨rfl, zb, ?_⟩
    have ez : z.2 = z1.2 := zl.1.trans hx1
    have fo : ∀ x, x < 36 → z.1 (a + x) = S.1 (a + x) := fun x hx => by
      rw [zl.2.1 (a + x) (by omega) (by omega) (by omega) (by omega) (by omega), f2 _ (by omega) (by omega)]
      exact sb_ol_own f1 ha hx
    obtain ⟨n, lim', np', L, d, ρ, c1, c2, c3, c4, c5⟩ := zq
    obtain ⟨g1, g2, g3, g4⟩ := OP_gm hi hj (OP_fr fo hO)
    have hr4 : r 4 = 0 := hi.2.2.1 4 (by omega)
    have hL : L = 0 := by
      have e := c1.1.2.2.2.2.1
      rw [hr4, show (0 : Int32) = Int32.ofNat 0 from rfl, n_eq (by omega) (by omega)] at e
      omega
    subst hL
    have hn : n = N := by
      have e := c1.1.1.1
      have e8 := c1.1.1.2.1
      rw [hi.2.1.1, n_eq (by omega) (by omega)] at e
      omega
    subst hn
    have hnp' : np' = np := by
      have e := c1.1.2.2.1
      have e4 := c1.1.2.2.2.1
      rw [hi.2.1.2.2, n_eq (by omega) (by omega)] at e
      omega
    subst hnp'
    exact ⟨⟨by rw [ez]; exact f1.1.subset ha, by rw [ez]; exact f1.2.1⟩, ⟨g2, g3, g4⟩, ⟨_, _, _, 0, _, _, ⟨c1, by omega, c3, c4, c5⟩, g1, CX_new hi hj⟩, w_s2_new hi hj, zh, zl.2.2.2⟩
set_option maxHeartbeats 4000000 in
set_option maxRecDepth 100000 in
theorem w_begins {g : ev_G} {S : ev_S} {a k2 u : Nat} {R : Nat → Int32} {Q : ev_O → ev_S → Prop} (hsl : ev_sl g < 2147483648) (ha : (0, a) ∈ S.2.1) (hlw : ev_lw g S.2.1) (hR : ∀ x, x < 36 → S.1 (a + x) = ct_row ct_t11 x)
    (hc0 : S.1 (ev_b g + 1) 1 = 0) (h52 : q_sh S.1 (ev_b g + 52)) (h11 : q_sh S.1 (ev_b g + 11)) (hh : q_his S.1 (ev_b g + 93) R u)
    (hQ : ∀ z r np, LV g z a r R 0 → r 2 = 0 → r 3 = Int32.ofNat np → 0 < np → np ≤ 4 → Q (.inl (some (ev_i 1))) z) : ev_Cv g m_L_begins 9 18000 [ev_o 9 (ev_b g), ev_o 11 a, ev_x 0 k2] S Q := by
  have hab := hlw.1 (0, a) ha
  simp only at hab
  obtain ⟨m0, h0, hm0⟩ := n_pick (f_L_cell g k2 0) (n := 5) (by decide) (by decide)
  obtain ⟨m1, h1, hm1⟩ := n_pick (f_L_cell g k2 1) (n := 30) (by decide) (by decide)
  obtain ⟨m2, h2, hm2⟩ := n_pick (f_L_cell g k2 2) (n := 4) (by decide) (by decide)
  have h0' : ev_rem ((f_L_cell g k2 0) &&& 65535) 5 = Int32.ofNat m0 := h0
  have h1' : ev_rem ((f_L_cell g k2 1) &&& 65535) 30 = Int32.ofNat m1 := h1
  have h2' : ev_rem ((f_L_cell g k2 2) &&& 65535) 4 = Int32.ofNat m2 := h2
  have a0 : (4 : Int32) + Int32.ofNat m0 = Int32.ofNat (4 + m0) := n_add 4 m0
  have a1 : (2 : Int32) + Int32.ofNat m1 = Int32.ofNat (2 + m1) := n_add 2 m1
  have a2 : (1 : Int32) + Int32.ofNat m2 = Int32.ofNat (1 + m2) := n_add 1 m2
  refine sg_L_begins_0 (B := 17490) (ev_b g) a k2 ?_
  rw [h0', h1', h2', a0, a1, a2]
  refine ⟨id, w_cellc hsl 0 (by omega), by decide, ?_⟩
  intro S1 x1
  refine ⟨w_cellc hsl 1 (by omega), by decide, ?_⟩
  intro S2 x2
  refine ⟨w_cellc hsl 2 (by omega), by decide, ?_⟩
  intro S3 x3 q hq S4 x4
  have e3 : S3.2 = S.2 := by rw [x3, x2, x1]; rfl
  have fS : ∀ x, x ≠ a → S3.1 x = S.1 x := fun x hx => by rw [x3, m_r hx, x2, m_r hx, x1, m_r hx]
  have fa : ∀ j, j ≠ 0 → j ≠ 1 → j ≠ 3 → S3.1 a j = S.1 a j := fun j j0 j1 j3 => by rw [x3, m_k j3, x2, m_k j1, x1, m_k j0]
  have v0 : S3.1 a 0 = Int32.ofNat (4 + m0) := by rw [x3, m_k (by omega), x2, m_k (by omega), x1, m_s]
  have v1 : S3.1 a 1 = Int32.ofNat (2 + m1) := by rw [x3, m_k (by omega), x2, m_s]
  have v3 : S3.1 a 3 = Int32.ofNat (1 + m2) := by rw [x3, m_s]
  have hq' : ev_lw g ((4, q) :: S3.2.1) := hq
  have n4 := jb_nt2 (S := S3) (t := 4) (q := q) (R := fun _ _ => 0) (by decide)
  refine ev_Cv.mono ?_ (c_ini (a := q) (k := 10) (by rw [x4]; exact List.mem_cons_self) (by rw [x4, n4.1]) (by omega) (by omega))
  rintro o z0 ⟨rfl, f0, hs0⟩
  refine ⟨rfl, ?_⟩
  have ha3 : (0, a) ∈ S3.2.1 := by rw [e3]; exact ha
  have ha4 : (0, a) ∈ S4.2.1 := by
    rw [x4]
    exact List.mem_cons_of_mem _ ha3
  have nold : ∀ c k, ev_at g S3.2.1 k c → S4.1 c = S3.1 c := fun c k hk => by
    rw [x4]
    exact (jb_nt1 hq' hk).1
  have hBG : BG g S S3 z0 a q (jb_lit 10) := by
    refine ⟨⟨?_, f0.2.1, f0.1.subset ha4⟩, fun x hx => ?_, fun x hx => ?_, hs0⟩
    · have : S.2.1 <:+ S4.2.1 := by
        rw [x4, ← e3]
        exact List.suffix_cons _ _
      exact this.trans f0.1
    · rw [sb_fr_cls f0 hx, nold _ (ev_kd x) (ev_mem_al.mpr (Or.inl ⟨x, hx, rfl⟩)), fS _ (by omega)]
    · rw [sb_fr_own f0 ha4 hx, nold _ _ (ev_tree (g := g) (t := 0) (o := x) ha3 (bg_k0 x hx).1)]
  have l10 : (jb_lit 10).length = 5 := rfl
  have d1 := jb_dec_1 (4 + m0) (by omega)
  have d2 := (jb_dec_2 (2 + m1) (by omega)).1
  refine bg_I (x := 4 + m0) hBG (by rw [BG_0 hBG]; exact v0) (by omega) (by omega) (fun z1 k1 => ?_)
  refine bg_C (c := 32) k1 rfl (by omega) (by simp only [List.length_append, l10, d1]; omega) (fun z2 k2 => ?_)
  refine bg_I (x := 2 + m1) k2 (by rw [BG_0 k2]; exact v1) (by omega) (by simp only [List.length_append, List.length_cons, List.length_nil, l10, d1]; omega) (fun z3 k3 => ?_)
  refine bg_C (c := 59) k3 rfl (by omega) (by simp only [List.length_append, List.length_cons, List.length_nil, l10, d1]; omega) (fun z4 k4 => ?_)
  have k4' := BG_tx k4 tx_h_app
  have c0 : ct_row ct_t11 0 = S.1 a := (hR 0 (by omega)).symm
  have hOB : OB z4.1 a (4 + m0) (2 + m1) (1 + m2) 0 := by
    refine ⟨?_, fun x y1 y2 y3 y4 y5 y6 => ?_, fun p hp => absurd hp (by omega)⟩
    · rw [BG_0 k4]
      exact ⟨v0, v1, v3, fun j j0 j1 j3 => by rw [c0]; exact fa j j0 j1 j3⟩
    · rw [k4.2.2.1 x y2, fS _ (by omega)]
      exact hR x y2
  obtain ⟨hl, hc⟩ := tx_h_len (N := 4 + m0) (lim := 2 + m1) (by omega) (by omega)
  refine w_empty (S0 := S) (t := tx_h (4 + m0) (2 + m1)) (N := 4 + m0) (lim := 2 + m1) (np := 1 + m2) (fun z hz hO => ?_) 2 0 z4 (by omega) (BG_re k4') hOB
  have hi0 := i_su_gm0 (A := fun _ => 0) (N := 4 + m0) (lim := 2 + m1) (by omega) (by omega) (by omega)
  have hOP : OP z.1 a (o_gm0 (fun _ => 0) (4 + m0) (2 + m1)) (1 + m2) := by
    obtain ⟨⟨o1, o2, o3, o4⟩, o5, o6⟩ := hO
    have p0 := o6 0 (by omega)
    have p1 := o6 1 (by omega)
    refine ⟨⟨o1.trans hi0.2.1.1.symm, o2.trans hi0.2.1.2.1.symm, o3, fun j j0 j1 j3 _ _ => o4 j j0 j1 j3⟩, fun x y1 y2 y3 y4 y5 y6 _ _ _ => o5 x y1 y2 y3 y4 y5 y6, fun s hs => ⟨?_, ?_⟩, fun n hn => ⟨p0.2 n hn, p1.2 n hn⟩, fun q' hq' => ⟨?_, fun s hs => ?_, fun t ht => ?_⟩⟩
    · rw [g0_m (by omega)]
      exact p0.1 s hs
    · rw [g0_m (by omega)]
      exact p1.1 s hs
    · rw [g0_0 (by omega) (by omega) (by omega), o5 16 (by omega) (by omega) (by omega) (by omega) (by omega) (by omega)]
      rfl
    · rw [g0_0 (by omega) (by omega) (by omega), o5 17 (by omega) (by omega) (by omega) (by omega) (by omega) (by omega)]
      rfl
    · rw [g0_0 (by omega) (by omega) (by omega), o5 18 (by omega) (by omega) (by omega) (by omega) (by omega) (by omega)]
      rfl
  have hj0 := EJ_gm0 (A := fun _ => 0) (N := 4 + m0) (lim := 2 + m1) (by omega)
  have hn9 := sq_le (show 4 + m0 ≤ 8 by omega)
  have hb0 : ∀ x : Int32, ¬ (-1 : Int32) = x → o_bish (o_gm0 (fun _ => 0) (4 + m0) (2 + m1)) 0 (4 + m0) x = 0 := fun x hx => cnt_0 _ (fun s hs => by rw [g0_m (by omega)]; simp [hx])
  refine w_begB (S0 := S) (N := 4 + m0) (lim := 2 + m1) (np := 1 + m2) (B := 7777) hsl (by omega) (by omega) (fun y r t bs hy => ?_) 12 0 z _ (o_gm0 (fun _ => 0) (4 + m0) (2 + m1)) (tx_h (4 + m0) (2 + m1)) [] (by omega) (by omega) ⟨hz, ⟨(List.append_nil _).symm, rfl⟩, ⟨hOP, hi0, hj0⟩, trivial, ⟨Nat.le_refl _, by rw [hb0 0 (by decide)] <;> omega, by rw [hb0 1 (by decide)] <;> omega⟩, by omega, hc⟩
  obtain ⟨yB, ⟨rfl, yr⟩, ⟨yO, yi, yj⟩, yok, ⟨ybl, -, -⟩, yl, yc⟩ := hy
  refine w_begP (S0 := S) (N := 4 + m0) (lim := 2 + m1) (np := 1 + m2) (B := 4949) (r0 := r) (t0 := tx_h (4 + m0) (2 + m1) ++ tx_bs (4 + m0) bs) hsl (by omega) (by omega) (fun y2 r2 t2 ps m hm hy2 => ?_) (1 + m2) 0 y _ r _ [] (by omega) (by omega) ⟨yB, ⟨(List.append_nil _).symm, rfl⟩, ⟨yO, yi, yj⟩, trivial, rfl, by omega, yc⟩
  obtain ⟨wB, ⟨wt, wr⟩, ⟨wO, wi, wj⟩, wok, wpl, wl, wc⟩ := hy2
  refine w_begS (S0 := S) (N := 4 + m0) (lim := 2 + m1) (np := 1 + m2) (B := 0) (r1 := r2) (t1 := t2) hsl (by omega) (by omega) (by omega) (fun y3 r3 t3 ss hy3 => ?_) m 0 y2 _ r2 t2 [] (by omega) (by omega) ⟨wB, ⟨(List.append_nil _).symm, rfl⟩, ⟨wO, wi, wj⟩, trivial, Nat.le_refl _, by omega, wc⟩
  refine w_loads (by omega) (by omega) (by omega) (by omega) (by omega) (by omega) hc0 h52 h11 hh yok ybl wok wpl wt (by rw [wr, yr]) hy3 (fun z9 q1 q2 q3 => hQ z9 r3 (1 + m2) q1 q2 q3 (by omega) (by omega))
