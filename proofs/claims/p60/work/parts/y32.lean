/-! ===== the law: forty-two acts, then back ===== -/
/-- the history with a game more -/
theorem o_kp_new {R r : Nat → Int32} {u x : Nat} (hx : x < 2091) : o_kp R r u (2091 * (o_ku u - 1) + x) = r x := by
  unfold o_kp o_ku
  by_cases h : u = 8
  · rw [if_pos h, if_pos h]
    exact o_cpn_in hx
  · rw [if_neg h, if_neg h, Nat.add_sub_cancel]
    exact o_cpn_in hx
theorem o_kp_old {R r : Nat → Int32} {u i x : Nat} (hu : u ≤ 8) (hi : i + 1 < o_ku u) (hx : x < 2091) : o_kp R r u (2091 * (o_ku u - 1 - (i + 1)) + x) = R (2091 * (u - 1 - i) + x) := by
  unfold o_kp
  unfold o_ku at hi ⊢
  by_cases h : u = 8
  · subst h
    rw [if_pos rfl] at hi ⊢
    rw [if_pos rfl, o_cpn_out hx (by omega)]
    unfold o_sh
    rw [if_pos (by omega)]
    exact congrArg R (by omega)
  · rw [if_neg h] at hi ⊢
    rw [if_neg h, o_cpn_out hx (by omega)]
    exact congrArg R (by omega)
theorem o_un_self {R r : Nat → Int32} {u : Nat} (h : ∀ x, x < 2091 → R (2091 * u + x) = r x) : o_un r R u 0 = r := by
  funext j
  unfold o_un
  by_cases hj : 0 ≤ j ∧ j < 2091
  · rw [if_pos hj]
    exact h j hj.2
  · rw [if_neg hj]
/-- the j-th kept game is the i-th of the history -/
def PG (S : ev_S) (w j a : Nat) (R : Nat → Int32) (i : Nat) : Prop := ∃ p r n np L, S.2.2 w j = some p ∧ (0, p) ∈ S.2.1 ∧ p ≠ a ∧ (∀ x, x < 2091 → R (2091 * i + x) = r x) ∧ (r 0 = Int32.ofNat n ∧ n ≤ 8 ∧ r 3 = Int32.ofNat np ∧ np ≤ 4 ∧ r 4 = Int32.ofNat L ∧ L ≤ 80) ∧ w_gm S.1 p r L ∧ CX r n np L
def PS (S : ev_S) (w kept a : Nat) (R : Nat → Int32) (u : Nat) : Prop := (2, w) ∈ S.2.1 ∧ (u ≤ kept ∧ u ≤ 8) ∧ ∀ i, i < u → PG S w (kept - 1 - i) a R (u - 1 - i)
theorem PG_fr {S z : ev_S} {w j a b i : Nat} {R R' : Nat → Int32} {i' : Nat} (fm : ∀ t, t ∈ S.2.1 → t ∈ z.2.1) (fw : z.2.2 w j = S.2.2 w j) (fp : ∀ p, (0, p) ∈ S.2.1 → p ≠ a → p ≠ b ∧ ∀ x, p ≤ x → x < p + 36 → z.1 x = S.1 x) (fR : ∀ x, x < 2091 → R' (2091 * i' + x) = R (2091 * i + x)) (h : PG S w j a R i) : PG z w j b R' i' := by
  obtain ⟨p, r, n, np, L, h1, h2, h3, h4, h5, h6, h7⟩ := h
  obtain ⟨f1, f2⟩ := fp p h2 h3
  exact ⟨p, r, n, np, L, by rw [fw]; exact h1, fm _ h2, f1, fun x hx => (fR x hx).trans (h4 x hx), h5, w_gm_fr f2 h6, h7⟩
theorem PS_fr {S z : ev_S} {w kept a b u : Nat} {R : Nat → Int32} (fm : ∀ t, t ∈ S.2.1 → t ∈ z.2.1) (fw : z.2.2 w = S.2.2 w) (fp : ∀ p, (0, p) ∈ S.2.1 → p ≠ a → p ≠ b ∧ ∀ x, p ≤ x → x < p + 36 → z.1 x = S.1 x) (h : PS S w kept a R u) : PS z w kept b R u :=
  ⟨fm _ h.1, h.2.1, fun i hi => PG_fr fm (by rw [fw]) fp (fun _ _ => rfl) (h.2.2 i hi)⟩
theorem LV_cls {g : ev_G} {S z : ev_S} {a b u : Nat} {r R : Nat → Int32} (h : LV g S a r R u) (hb : (0, b) ∈ z.2.1) (hlw : ev_lw g z.2.1) (fc : ∀ x, x < ev_b g + 505 → z.1 x = S.1 x) (h1 : w_bo z.1 b) (h2 : z.1 b 32 = -1) (h3 : z.1 b 33 = 0) (hw : ∀ L, r 4 = Int32.ofNat L → L ≤ 80 → w_gm S.1 a r L → w_gm z.1 b r L) : LV g z b r R u := by
  obtain ⟨-, -, ⟨n, lim, np, L, d, ρ, ⟨c1, c2, c3, c4, c5⟩, c6, c7⟩, k1, k2, k3⟩ := h
  exact ⟨⟨hb, hlw⟩, ⟨h1, h2, h3⟩, ⟨n, lim, np, L, d, ρ, ⟨c1, c2, c3, q_gm_frame (fun q q1 q2 => fc q (by omega)) c4, c5⟩, hw L c1.1.2.2.2.2.1 c2 c6, c7⟩, k1, w_his_fr (fun q q1 q2 => fc q (by omega)) k2, q_sh_fr k3 (fc _ (by omega)) (fc _ (by omega))⟩
theorem n_mn8 {k : Nat} (hk : k < 1000) : ev_min 8 (Int32.ofNat k) = Int32.ofNat (if k < 8 then k else 8) := by
  unfold ev_min
  have e : (Int32.ofNat k < 8) = (k < 8) := n_lt (b := 8) (by omega) (by omega)
  by_cases h : k < 8
  · rw [if_pos h, if_pos (by rw [e]; exact h)]
  · rw [if_neg h, if_neg (by rw [e]; exact h)]
    rfl
set_option maxHeartbeats 4000000 in
set_option maxRecDepth 100000 in
/-- back: the latest changes are undone, each to the game that was kept -/
theorem w_back {g : ev_G} {a w k0 : Nat} {R : Nat → Int32} {Q : ev_O → ev_S → Prop} : ∀ (u kept : Nat) (v6 : Int32) (B' : Nat) (S : ev_S), 1301 * (u + 1) ≤ B' → (1 ≤ u → v6 = Int32.ofNat (kept - 1)) → kept ≤ 44 → q_his S.1 (ev_b g + 93) R u → q_sh S.1 (ev_b g + 11) → ev_lw g S.2.1 → PS S w kept a R u → (∀ z, Q (.inl (some (ev_i 1))) z) → ev_E g m_L_law 10 B' 195 [none, some (ev_o 9 (ev_b g)), none, some (ev_o 25 w), none, some (ev_i (Int32.ofNat u)), some (ev_i v6)] [] S Q := by
  intro u
  induction u with
  | zero =>
    intro kept v6 B' S hB hv hk hh hs hlw hP hQ
    obtain ⟨B, rfl⟩ : ∃ B, B' = B + 1301 := ⟨B' - 1301, by omega⟩
    refine sg_L_law_195 k0 (ev_b g) w _ _ (j_pos (by decide) (j_pos hh.1 (hQ S)))
  | succ u ih =>
    intro kept v6 B' S hB hv hk hh hs hlw hP hQ
    obtain ⟨B, rfl⟩ : ∃ B, B' = B + 1301 := ⟨B' - 1301, by omega⟩
    obtain ⟨h2, ⟨hu1, hu8⟩, hG⟩ := hP
    have hv := hv (by omega)
    subst hv
    obtain ⟨p, r, n, np, L, p1, p2, p3, p4, ⟨e0, en, e3, enp, e4, eL⟩, p6, p7⟩ := hG 0 (by omega)
    rw [Nat.sub_zero] at p1
    have hun : o_un r R (u + 1 - 1) 0 = r := o_un_self p4
    refine sg_L_law_195 k0 (ev_b g) w _ _ (j_neg (by rw [show (0 : Int32) = Int32.ofNat 0 from rfl, n_le (by omega) (by omega)] <;> omega) ?_)
    rw [n_pm u]
    refine x_undo (now := r) hh hs (fun h9 => absurd h9 (by omega)) (fun _ z z1 z2 z3 z4 z5 => ⟨_, rfl, j_pos rfl ⟨(n_vp (by omega) (by omega)).mpr trivial, p, ?_, ?_, ?_⟩⟩)
    · rw [z1.1, n_c (by omega)]
      exact p1
    · rw [z1.1]
      exact p2
    rw [hun] at z3
    have hlz : ev_lw g z.2.1 := by rw [z1.1]; exact hlw
    have fo : ∀ x, ev_b g + 505 ≤ x → z.1 x = S.1 x := fun x hx => z1.2 x (by omega)
    have hpb := hlw.1 (0, p) p2
    simp only at hpb
    obtain ⟨n', lim, np', L', d, ρ, c1, c2, c3, c4, c5⟩ := z3
    have hn : n' = n := by
      have e := c1.1.1.1
      have e8 := c1.1.1.2.1
      rw [e0, n_eq (by omega) (by omega)] at e
      omega
    subst hn
    have hnp : np' = np := by
      have e := c1.1.2.2.1
      have e8 := c1.1.2.2.2.1
      rw [e3, n_eq (by omega) (by omega)] at e
      omega
    subst hnp
    have hL : L' = L := by
      have e := c1.1.2.2.2.2.1
      rw [e4, n_eq (by omega) (by omega)] at e
      omega
    subst hL
    refine w_isAs ⟨⟨c1, c2, c3, c4, c5⟩, p7⟩ (w_gm_fr (fun x x1 x2 => fo x (by omega)) p6) ⟨true, rfl, j_pos rfl ?_⟩
    refine ih (kept - 1) _ B z (by omega) (fun h1 => ?_) (by omega) z4 z5 hlz ⟨by rw [z1.1]; exact h2, ⟨by omega, by omega⟩, fun i hi => ?_⟩ hQ
    · obtain ⟨k, rfl⟩ : ∃ k, kept = k + 2 := ⟨kept - 2, by omega⟩
      exact n_pm k
    · have := hG (i + 1) (by omega)
      rw [show kept - 1 - (i + 1) = kept - 1 - 1 - i by omega, show u + 1 - 1 - (i + 1) = u - 1 - i by omega] at this
      exact PG_fr (fun t ht => by rw [z1.1]; exact ht) (by rw [z1.1]) (fun q hq hqa => ⟨hqa, fun x x1 x2 => fo x (by have h9 := hlw.1 (0, q) hq; simp only at h9; omega)⟩) (fun _ _ => rfl) this
set_option maxHeartbeats 4000000 in
set_option maxRecDepth 100000 in
theorem w_loop {g : ev_G} {k0 : Nat} {Q : ev_O → ev_S → Prop} (hsl : ev_sl g < 2147483648) (hQ : ∀ z, Q (.inl (some (ev_i 1))) z) : ∀ (n t kept a w u B' : Nat) (S : ev_S) (r R : Nat → Int32), t + n = 42 → 12960 * n + 13100 ≤ B' → kept ≤ t → u = (if kept < 8 then kept else 8) → LV g S a r R u → PS S w kept a R u → (r 2).toInt ≤ 60 * (t : Int) → ¬ r 3 = 0 → ev_E g m_L_law 10 B' 39 [some (ev_x 0 k0), some (ev_o 9 (ev_b g)), some (ev_o 11 a), some (ev_o 25 w), some (ev_i (Int32.ofNat kept)), some (ev_i (Int32.ofNat t)), none] [] S Q := by
  have e42 : (42 : Int32) = Int32.ofNat 42 := rfl
  have l0 : (ev_tk 0).length = 36 := rfl
  have l2 : (ev_tk 2).length = 1 := rfl
  intro n
  induction n with
  | zero =>
    intro t kept a w u B' S r R ht hB hk hu hLV hP hd hn
    have : t = 42 := by omega
    subst this
    obtain ⟨B, rfl⟩ : ∃ B, B' = B + 12500 := ⟨B' - 12500, by omega⟩
    obtain ⟨⟨ha, hlw⟩, ⟨hbo, h32, h33⟩, ⟨n, lim, np, L, d, ρ, c1, c2, c3⟩, hs2, hh, hsh⟩ := hLV
    refine sg_L_law_39 k0 (ev_b g) a w _ _ (j_pos (by rw [e42, n_le (by omega) (by omega)] <;> omega) ?_)
    refine w_isAs ⟨c1, c3⟩ c2 ⟨true, rfl, j_pos rfl ?_⟩
    rw [n_mn8 (by omega), ← hu]
    have h8 := hP.2.1
    exact w_back (k0 := k0) u kept _ _ S (by omega) (fun h1 => n_dec kept (by omega)) (by omega) hh (q_sh_gm c1.2.2.2.1) hlw hP hQ
  | succ n ih =>
    intro t kept a w u B' S r R ht hB hk hu hLV hP hd hn
    obtain ⟨B, rfl⟩ : ∃ B, B' = B + 12500 := ⟨B' - 12500, by omega⟩
    -- an act
    have fin : ∀ (z : ev_S) (B1 : Nat), 12960 * n + 13560 ≤ B1 → LV g z a r R u → PS z w kept a R u → ev_E g m_L_law 10 B1 101 [some (ev_x 0 k0), some (ev_o 9 (ev_b g)), some (ev_o 11 a), some (ev_o 25 w), some (ev_i (Int32.ofNat kept)), some (ev_i (Int32.ofNat t)), none] [] z Q := by
      intro z B1 hB1 hLz hPz
      have hLz' := hLz
      obtain ⟨⟨ha, hlw⟩, ⟨hbo, h32, h33⟩, ⟨m, lim, np, L, d, ρ, c1, c2, c3⟩, hs2, hh, hsh⟩ := hLz'
      have hab := hlw.1 (0, a) ha
      simp only at hab
      obtain ⟨B2, rfl⟩ : ∃ B2, B1 = B2 + 460 := ⟨B1 - 460, by omega⟩
      have r0 := c1.1.1.1.1
      have r08 := c1.1.1.1.2.1
      have r3 := c1.1.1.2.2.1
      have r34 := c1.1.1.2.2.2.1
      have r4 := c1.1.1.2.2.2.2.1
      have r48 := c1.2.1
      refine sg_L_law_101 k0 (ev_b g) a w _ _ ?_
      have e4 : (4 : Int32) * Int32.ofNat t = Int32.ofNat (4 * t) := n_mul 4 t
      have e90 : (90 : Int32) + Int32.ofNat (4 * t) = Int32.ofNat (90 + 4 * t) := n_add 90 _
      rw [e4, e90]
      refine w_copy (B := 0) (by omega) r4 (IR_mad c1.1.1) ha c2 hbo (fun q y q1 q2 q3 q4 q5 q6 q7 q8 _ => ⟨q, rfl, ?_⟩)
      have hqb := q1.1 (0, q) List.mem_cons_self
      simp only at hqb
      have hdis : ∀ tt, tt ∈ z.2.1 → tt.2 + (ev_tk tt.1).length ≤ q ∨ q + 36 ≤ tt.2 := fun tt h9 => (List.pairwise_cons.mp q1.2).1 tt h9
      have hlwy : ev_lw g y.2.1 := by rw [q2]; exact q1
      have memy : ∀ tt, tt ∈ z.2.1 → tt ∈ y.2.1 := fun tt h9 => by rw [q2]; exact List.mem_cons_of_mem _ h9
      have haq := hdis (0, a) ha
      simp only [l0] at haq
      have hwq := hdis (2, w) hPz.1
      simp only [l2] at hwq
      have hLy : LV g y q r R u := LV_cls hLz (by rw [q2]; exact List.mem_cons_self) hlwy (fun x hx => q3 x (Or.inl (by omega))) q6 q7 q8 (fun L' hL' h80 _ => by
        rw [r4, n_eq (by omega) (by omega)] at hL'
        subst hL'
        exact q5)
      -- what an act leaves of what was there
      have old : ∀ (y2 : ev_S), w_uc g y y2 q → (∀ tt, tt ∈ z.2.1 → tt ∈ y2.2.1) ∧ y2.2.2 w = z.2.2 w ∧ ∀ p, (0, p) ∈ z.2.1 → p ≠ q ∧ ∀ x, p ≤ x → x < p + 36 → y2.1 x = z.1 x := fun y2 hu2 => by
        refine ⟨fun tt h9 => w_uc_mem hu2 (memy tt h9), ?_, fun p hp => ?_⟩
        · rw [(w_uc_old (x := w) hu2 hlwy (memy _ hPz.1) (by rw [l2]; exact hwq) (Nat.le_refl _) (by rw [l2]; omega)).2]
          exact q4 w (by omega)
        · have hpq := hdis (0, p) hp
          simp only [l0] at hpq
          refine ⟨by omega, fun x x1 x2 => ?_⟩
          rw [(w_uc_old (x := x) hu2 hlwy (memy _ hp) (by rw [l0]; exact hpq) x1 (by rw [l0]; exact x2)).1]
          exact q3 x (by omega)
      refine w_acts (B := 19) hsl (by omega) hLy (by omega) hn (fun y2 u1 u2 u3 => ⟨true, rfl, j_pos rfl (j_neg (by rw [u3]; decide) ?_)⟩) (fun y2 r' v1 v2 v3 v4 => ⟨true, rfl, j_pos rfl (j_pos v1.2.1.2.2 ?_)⟩)
      · obtain ⟨o1, o2, o3⟩ := old y2 u1
        have oa := (o3 a ha).2
        have oa0 : y2.1 a = z.1 a := oa a (by omega) (by omega)
        rw [n_inc]
        refine ih (t + 1) kept a w u B2 y2 r R (by omega) (by omega) (by omega) hu (LV_cls hLz (o1 _ ha) u1.2 (fun x hx => (u2 x hx).trans (q3 x (Or.inl (by omega)))) (w_bo_fr (fun x x1 x2 => oa x (by omega) (by omega)) hbo) (by rw [oa0]; exact h32) (by rw [oa0]; exact h33) (fun L' _ _ hw' => w_gm_fr (fun x x1 x2 => oa x x1 x2) hw')) (PS_fr o1 o2 (fun p hp hpa => ⟨hpa, (o3 p hp).2⟩) hPz) (by omega) hn
      · obtain ⟨o1, o2, o3⟩ := old y2 v2
        refine sg_L_law_137 k0 (ev_b g) a w _ _ q ⟨(n_vp (by omega) (by omega)).mpr trivial, fun S1 x1 => ?_⟩
        rw [n_c (by omega)] at x1
        rw [n_inc kept, n_inc t, n_mn8 (by omega)]
        subst x1
        have hku : o_ku u = if kept + 1 < 8 then kept + 1 else 8 := by
          unfold o_ku
          by_cases h9 : kept < 8
          · rw [if_pos h9] at hu
            subst hu
            rw [if_neg (by omega)]
            by_cases h10 : u + 1 < 8
            · rw [if_pos h10]
            · rw [if_neg h10]; omega
          · rw [if_neg h9] at hu
            subst hu
            rw [if_pos rfl, if_neg (by omega)]
        have h93 : y2.1 (ev_b g + 93) 1 = Int32.ofNat (o_ku u) := v1.2.2.2.2.1.1
        refine j_pos (h93.trans (by rw [hku])) ?_
        have hle : u ≤ kept ∧ u ≤ 8 := hPz.2.1
        have hko : o_ku u ≤ kept + 1 ∧ o_ku u ≤ 8 := by
          unfold o_ku
          split <;> omega
        refine ih (t + 1) (kept + 1) q w (o_ku u) B2 _ r' (o_kp R r u) (by omega) (by omega) (by omega) hku v1 ⟨o1 _ hPz.1, hko, fun i hi => ?_⟩ (by omega) (by rw [v4]; exact hn)
        cases i with
        | zero =>
          refine ⟨a, r, m, np, L, ?_, o1 _ ha, by omega, fun x hx => o_kp_new hx, ⟨r0, r08, r3, r34, r4, r48⟩, w_gm_fr (fun x x1 x2 => (o3 a ha).2 x x1 x2) c2, c3⟩
          show va_up y2.2.2 w (va_up (y2.2.2 w) kept (some a)) w (kept + 1 - 1 - 0) = some a
          rw [va_up_self]
          exact va_up_self _ _ _
        | succ i =>
          have hi' : i < u := by
            unfold o_ku at hi
            split at hi <;> omega
          have := hPz.2.2 i hi'
          rw [show kept + 1 - 1 - (i + 1) = kept - 1 - i by omega]
          refine PG_fr o1 ?_ (fun p hp hpa => ⟨(o3 p hp).1, (o3 p hp).2⟩) (fun x hx => o_kp_old hle.2 hi hx) this
          show va_up y2.2.2 w (va_up (y2.2.2 w) kept (some a)) w (kept - 1 - i) = _
          rw [va_up_self, va_up_ne _ _ (by omega), o2]
    obtain ⟨⟨ha, hlw⟩, ⟨hbo, h32, h33⟩, ⟨m, lim, np, L, d, ρ, c1, c2, c3⟩, hs2, hh, hsh⟩ := id hLV
    refine sg_L_law_39 k0 (ev_b g) a w _ _ (j_neg (by rw [e42, n_le (by omega) (by omega)] <;> omega) ?_)
    refine w_isAs ⟨c1, c3⟩ c2 ⟨true, rfl, j_pos rfl ⟨fun h9 => ?_, fun h9 => fin S _ (by omega) hLV hP⟩⟩
    rw [n_rem2 (by omega)]
    refine w_areMoves ⟨c1, c3⟩ c2 ha hlw (Nat.mod_lt _ (by decide)) (fun z hz => ⟨true, rfl, j_pos rfl ?_⟩)
    have hz2 := w_sc_up hz
    obtain ⟨d1, d2, d3, d4, d5, d6, d7⟩ := w_sc_st hz2 ⟨c1, c3⟩ c2 hbo h32 ha hlw hsh
    have e47 : (47 : Int32) + Int32.ofNat t = Int32.ofNat (47 + t) := n_add 47 t
    have ez : z.1 a 4 = Int32.ofNat L := (d2.1 4 (by omega)).trans c1.1.1.2.2.2.2.1
    have hL80 := c1.2.1
    obtain ⟨l, hl, hl2⟩ := n_pick (f_L_cell g k0 (Int32.ofNat (47 + t))) (n := L + 1) (by omega) (by omega)
    rw [e47, ez, n_inc, hl]
    refine ⟨id, w_cellc hsl _ (by omega), by rw [n_z (by omega)]; omega, ?_⟩
    refine w_isForetold d1 hs2 d2 d3 d4 d5 d6 d7 (by omega) (fun y hy => ⟨true, rfl, j_pos rfl ?_⟩)
    have hzy := w_sc_tr hz2 hy
    exact fin y _ (by omega) (LV_sc hLV hzy) (PS_fr (fun tt h9 => w_sc_mem hzy h9) ((w_sc_old (x := w) hzy hlw hP.1 (Nat.le_refl _) (by rw [l2]; omega)).2) (fun p hp hpa => ⟨hpa, fun x x1 x2 => (w_sc_old hzy hlw hp x1 (by rw [l0]; exact x2)).1⟩) hP)
set_option maxHeartbeats 4000000 in
set_option maxRecDepth 100000 in
/-- the law, from where the class's object is made -/
theorem w_law {g : ev_G} {S : ev_S} {k0 : Nat} {R : Nat → Int32} {Q : ev_O → ev_S → Prop} (hsl : ev_sl g < 2147483648) (hlw : ev_lw g S.2.1) (hc0 : S.1 (ev_b g + 1) 1 = 0) (h52 : q_sh S.1 (ev_b g + 52)) (h11 : q_sh S.1 (ev_b g + 11)) (hh : q_his S.1 (ev_b g + 93) R 0) (hQ : ∀ z, Q (.inl (some (ev_i 1))) z) : ev_E g m_L_law 10 575788 8 [some (ev_x 0 k0), some (ev_o 9 (ev_b g)), none, none, none, none, none] [] S Q := by
  have l0 : (ev_tk 0).length = 36 := rfl
  have l2 : (ev_tk 2).length = 1 := rfl
  refine sg_L_law_8 (B := 557420) k0 (ev_b g) ?_
  intro q hq S1 x1
  have hqb := hq.1 (0, q) List.mem_cons_self
  simp only at hqb
  have fS : ∀ x, x < q → S1.1 x = S.1 x := fun x hx => by
    rw [x1]
    exact if_neg (by rw [l0]; omega)
  refine w_begins hsl (by rw [x1]; exact List.mem_cons_self) (by rw [x1]; exact hq) (fun x hx => ?_) (by rw [fS _ (by omega)]; exact hc0) (q_sh_fr h52 (fS _ (by omega)) (fS _ (by omega))) (q_sh_fr h11 (fS _ (by omega)) (fS _ (by omega))) (w_his_fr (fun x h1 h2 => fS x (by omega)) hh) (fun z r np hLV r2 r3 n0 n4 => ⟨true, rfl, j_pos rfl ?_⟩)
  · rw [x1]
    refine (if_pos (by rw [l0]; omega)).trans ?_
    rw [Nat.add_sub_cancel_left]
  intro w hw S3 x3
  have hsc : w_sc g z S3 := w_sc_up (w_up_new (t := 2) (q := w) hw (by rw [x3]; rfl) (fun x hx => by rw [x3]; exact if_neg (by omega)) (fun x hx => by rw [x3]; exact if_neg (by omega)))
  refine w_loop hsl hQ 42 0 0 q w 0 _ S3 r R (by omega) (by omega) (by omega) rfl (LV_sc hLV hsc) ⟨by rw [x3]; exact List.mem_cons_self, ⟨by omega, by omega⟩, fun i hi => absurd hi (by omega)⟩ (by rw [r2]; decide) (by rw [r3, n_z (by omega)]; omega)
