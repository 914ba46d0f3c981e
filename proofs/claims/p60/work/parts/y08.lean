/-! ===== the law's own game: what it foretells of letters ===== -/
/-- only new trees were made and written -/
def w_up (g : ev_G) (S z : ev_S) : Prop := (∃ N : List (Nat × Nat), z.2.1 = N ++ S.2.1 ∧ ∀ x, (∀ t, t ∈ N → x < t.2 ∨ t.2 + (ev_tk t.1).length ≤ x) → z.1 x = S.1 x ∧ z.2.2 x = S.2.2 x) ∧ ev_lw g z.2.1
theorem w_up_rf {g : ev_G} {S : ev_S} (h : ev_lw g S.2.1) : w_up g S S := ⟨⟨[], rfl, fun _ _ => ⟨rfl, rfl⟩⟩, h⟩
theorem w_up_tr {g : ev_G} {S T z : ev_S} (h1 : w_up g S T) (h2 : w_up g T z) : w_up g S z := by
  obtain ⟨⟨N1, e1, f1⟩, -⟩ := h1
  obtain ⟨⟨N2, e2, f2⟩, hw⟩ := h2
  refine ⟨⟨N2 ++ N1, by rw [e2, e1, List.append_assoc], fun x hx => ?_⟩, hw⟩
  obtain ⟨a1, a2⟩ := f2 x (fun t ht => hx t (List.mem_append_left _ ht))
  obtain ⟨b1, b2⟩ := f1 x (fun t ht => hx t (List.mem_append_right _ ht))
  exact ⟨a1.trans b1, a2.trans b2⟩
theorem w_up_old {g : ev_G} {S z : ev_S} {t c x : Nat} (h : w_up g S z) (hm : (t, c) ∈ S.2.1) (h1 : c ≤ x) (h2 : x < c + (ev_tk t).length) : z.1 x = S.1 x ∧ z.2.2 x = S.2.2 x := by
  obtain ⟨⟨N, e, f⟩, hw⟩ := h
  refine f x (fun u hu => ?_)
  have hp := hw.2
  rw [e] at hp
  have := (List.pairwise_append.mp hp).2.2 u hu (t, c) hm
  simp only at this
  omega
theorem w_up_cls {g : ev_G} {S z : ev_S} {x : Nat} (h : w_up g S z) (hx : x < ev_b g + 505) : z.1 x = S.1 x ∧ z.2.2 x = S.2.2 x := by
  obtain ⟨⟨N, e, f⟩, hw⟩ := h
  refine f x (fun u hu => ?_)
  have := hw.1 u (by rw [e]; exact List.mem_append_left _ hu)
  omega
theorem w_up_mem {g : ev_G} {S z : ev_S} {t : Nat × Nat} (h : w_up g S z) (hm : t ∈ S.2.1) : t ∈ z.2.1 := by
  obtain ⟨⟨N, e, f⟩, hw⟩ := h
  rw [e]
  exact List.mem_append_right _ hm
theorem w_up_new {g : ev_G} {S z : ev_S} {t q : Nat} (hw : ev_lw g ((t, q) :: S.2.1)) (e : z.2.1 = (t, q) :: S.2.1) (f : ∀ x, (x < q ∨ q + (ev_tk t).length ≤ x) → z.1 x = S.1 x) (f2 : ∀ x, (x < q ∨ q + (ev_tk t).length ≤ x) → z.2.2 x = S.2.2 x) : w_up g S z :=
  ⟨⟨[(t, q)], e, fun x hx => ⟨f x (hx _ List.mem_cons_self), f2 x (hx _ List.mem_cons_self)⟩⟩, by rw [e]; exact hw⟩
theorem w_gm_up {g : ev_G} {S z : ev_S} {a L : Nat} {r : Nat → Int32} (h : w_up g S z) (hm : (0, a) ∈ S.2.1) (hg : w_gm S.1 a r L) : w_gm z.1 a r L := w_gm_fr (fun q q1 q2 => (w_up_old h hm q1 q2).1) hg
theorem w_bo_fr {M M' : Nat → Nat → Int32} {a : Nat} (f : ∀ q, a < q → q < a + 36 → M' q = M q) (h : w_bo M a) : w_bo M' a := by
  unfold w_bo at *
  rw [f _ (by omega) (by omega), f (a + 15) (by omega) (by omega), f (a + 29) (by omega) (by omega), f (a + 30) (by omega) (by omega), f (a + 31) (by omega) (by omega)]
  exact h
theorem w_bo_up {g : ev_G} {S z : ev_S} {a : Nat} (h : w_up g S z) (hm : (0, a) ∈ S.2.1) (hg : w_bo S.1 a) : w_bo z.1 a := w_bo_fr (fun q q1 q2 => (w_up_old h hm (Nat.le_of_lt q1) q2).1) hg
theorem w_gm_top {M M' : Nat → Nat → Int32} {a L : Nat} {r : Nat → Int32} (f : ∀ q, q ≠ a → M' q = M q) (f0 : ∀ k, k < 9 → M' a k = M a k) (h : w_gm M a r L) : w_gm M' a r L := by
  obtain ⟨h1, h2, h3, h4, h5, h6⟩ := h
  exact ⟨fun k hk => (f0 k hk).trans (h1 k hk), fun p hp => w_bd_fr (fun q q1 q2 => f q (by omega)) (h2 p hp), w_ps_fr (fun q q1 q2 => f q (by omega)) h3, fun l hl => w_lt_fr (fun q q1 q2 => f q (by omega)) (h4 l hl), fun k hk => w_pr_fr (fun q q1 q2 => f q (by omega)) (h5 k hk), h6⟩
theorem w_arr {g : ev_G} {q n lim np L l B : Nat} {blk : Int32} (hl : l < L) : ∀ (k j d : Nat) (T : ev_S) (r rp : Nat → Int32) (ρ : List Nat), j + k = 400 → d + k < 1000000 → IW r n lim np L d blk ρ → agP rp r → w_gm T.1 q r L → T.1 q 32 = blk → ∀ Q : ev_O → ev_S → Prop,
    (∀ z, w_kp T z q → Q (.inl (some (ev_i (o_pa l np L k d rp)))) z) → ev_E g m_X11_arrival 6 B 15 [none, some (ev_i (Int32.ofNat l)), some (ev_o 11 q), some (ev_i (Int32.ofNat j))] [] T Q := by
  intro k
  have e400 : (400 : Int32) = Int32.ofNat 400 := rfl
  have st2 : ∀ (d : Nat) (T : ev_S) (r rp : Nat → Int32) (ρ : List Nat), IW r n lim np L d blk ρ → agP rp r → w_gm T.1 q r L → (((2 : Int32) ≤ T.1 (q + 24) l) = (rp (1200 + 11 * l + 6) = 2)) ∧ (rp (1200 + 11 * l + 6) = 2 → T.1 (q + 28) l = rp (1200 + 11 * l + 10)) := fun d T r rp ρ hI ha h => by
    obtain ⟨w0, w1, w2, w3, w4, w5, w6, w7, w8, w9⟩ := h.2.2.2.1 l hl
    obtain ⟨-, -, -, -, hs, -⟩ := i_ps_bq hI.2.1.1 hl
    rw [w6, ← ha (1200 + 11 * l + 6) (by omega), ← ha (1200 + 11 * l + 10) (by omega)]
    refine ⟨?_, fun h2 => w9 h2⟩
    rcases hs with hs | hs | hs <;> rw [hs] <;> decide
  induction k with
  | zero =>
    intro j d T r rp ρ hjk hd hI ha h hs Q hQ
    have hL := hI.1.2.2.2.2.2.1
    obtain ⟨s1, s2⟩ := st2 d T r rp ρ hI ha h
    refine sg_X11_arrival_15 q _ _ _ (j_pos (by rw [e400, n_le (by omega) (by omega)]; omega) ⟨(n_vp (by omega) (by omega)).mpr trivial, ?_⟩)
    rw [n_c (by omega), s1]
    have hq := hQ T (w_kp_rf T q)
    refine ⟨fun h2 => ?_, fun h2 => ?_⟩
    · rw [o_pa_2 h2] at hq
      rw [s2 h2]
      exact hq
    · rw [o_pa_0 h2] at hq
      exact hq
  | succ k ih =>
    intro j d T r rp ρ hjk hd hI ha h hs Q hQ
    have hL := hI.1.2.2.2.2.2.1
    obtain ⟨s1, s2⟩ := st2 d T r rp ρ hI ha h
    refine sg_X11_arrival_15 q _ _ _ (j_neg (by rw [e400, n_le (by omega) (by omega)]; omega) ⟨(n_vp (by omega) (by omega)).mpr trivial, ?_⟩)
    rw [n_c (by omega), s1, n_inc]
    refine ⟨fun h2 => ?_, fun h2 => ?_⟩
    · have hq := hQ T (w_kp_rf T q)
      rw [o_pa_2 h2] at hq
      rw [s2 h2]
      exact hq
    · refine w_passes (by omega) hI h hs (fun z ρ' z1 z2 z3 => ⟨rfl, ?_⟩)
      refine ih (j + 1) (d + 1) z _ (o_dp rp np L d) ρ' (by omega) (by omega) z2 (IR_dayb (by omega) hI.1 hI.2.1 ha).2.2 z3 ((z1.2.1 32 (by omega)).trans hs) Q (fun y y1 => ?_)
      rw [← o_pa_s h2]
      exact hQ y (w_kp_tr z1 y1)
theorem w_arrival {g : ev_G} {S : ev_S} {a n lim np L d l B : Nat} {r : Nat → Int32} {blk : Int32} {ρ : List Nat} (hd : d + 400 < 1000000) (hI : IW r n lim np L d blk ρ) (ha : (0, a) ∈ S.2.1) (hl : l < L) (h : w_gm S.1 a r L) (hb : w_bo S.1 a) (hs : S.1 a 32 = blk) {Q : ev_O → ev_S → Prop}
    (hQ : ∀ z, w_up g S z → Q (.inl (some (ev_i (o_pa l np L 400 d r)))) z) : ev_Cv g m_X11_arrival 6 (B + 360) [ev_o 11 a, ev_i (Int32.ofNat l)] S Q := by
  have hL := hI.1.2.2.2.2.2.1
  refine sg_X11_arrival_0 a _ (w_copy hL hI.1.2.2.2.2.1 (IR_mad hI.1) ha h hb (fun q z hw e f f2 g1 g2 g3 g4 g5 => ⟨q, rfl, ?_⟩))
  intro S2 x2
  have hap : a + 36 ≤ q ∨ q + 36 ≤ a := (List.pairwise_cons.mp hw.2).1 (0, a) ha
  have e0 : (0 : Int32) = Int32.ofNat 0 := rfl
  rw [e0]
  refine w_arr hl 400 0 d S2 r r ρ rfl (by omega) hI (agP_refl r) (w_gm_top (fun x hx => by rw [x2, m_r hx]) (fun k hk => by rw [x2, m_k (by omega)]) g1) ?_ Q (fun y y1 => hQ y ?_)
  · rw [x2, m_s, f a (by omega)]
    exact hs
  · refine w_up_new hw ?_ (fun x hx => ?_) (fun x hx => ?_)
    · rw [y1.1.1, x2]
      exact e
    · have hx' : x < q ∨ q + 36 ≤ x := hx
      rw [y1.1.2 x hx', x2, m_r (by omega)]
      exact f x hx'
    · rw [y1.1.1, x2]
      exact f2 x hx
theorem sg_X11_fastest_z {g : ev_G} {S : ev_S} {Q : ev_O → ev_S → Prop} {B : Nat} (a : Nat) (u1 : Int32) (u2 : Int32) (u3 : Int32) (u4 : Int32) (h : u4 < 0) (hQ : Q (.inl (some (ev_i u2))) S) : ev_E g m_X11_fastest 7 B 12 [some (ev_o 11 a), some (ev_i u1), some (ev_i u2), some (ev_i u3), some (ev_i u4), none, none] [] S Q := by
  refine ev_iload (u4) dX11_fastest_12 rfl ?_
  refine ev_if_lt 82 dX11_fastest_14 (by decide) (fun c1 => ?_) (fun c1 => absurd h c1)
  refine ev_iload_n (u2) dX11_fastest_82 rfl ?_
  exact ev_ireturn .int dX11_fastest_83 rfl rfl hQ
theorem n_am1 (k : Nat) : Int32.ofNat k + (-1) = Int32.ofNat k - 1 := (Int32.sub_eq_add_neg (Int32.ofNat k) 1).symm
theorem n_ng0 {a : Nat} (ha : a < 2147483648) : ¬ Int32.ofNat a < 0 := by rw [n_neg ha]; exact id
theorem IW_blank {r : Nat → Int32} {n lim np L d b q : Nat} {ρ : List Nat} (h : IW r n lim np L d (-1) ρ) (hk : i_ok r n np L) (hL : L ≤ 80) (hb : b < 2) (hq : q < np) : IW (o_post r L (Int32.ofNat b) (Int32.ofNat q) 0 1 0 0) n lim np (L + 1) d (Int32.ofNat L) ρ := by
  obtain ⟨h1, h2, h3, h4, h5⟩ := h
  have er : ∀ j, j ≠ 4 → (j < 1200 + 11 * L ∨ 1200 + 11 * L + 7 < j) → o_post r L (Int32.ofNat b) (Int32.ofNat q) 0 1 0 0 j = r j := fun j j4 jl => by
    unfold o_post
    rw [u_k j4, u_k (by omega), u_k (by omega), u_k (by omega), u_k (by omega), u_k (by omega), u_k (by omega), u_k (by omega), u_k (by omega)]
  exact ⟨IR_blank h1 hL hb hq, i_pst_post h2 (by omega) hb hq, fun p hp => i_bd_same h1.1.2.1 (IR_mad h1 p hp) hp (fun j hj => er j (by omega) (by omega)) (h3 p hp), (i_ok_post hk).2.2, w_s2_same h5 (fun j hj => er j (by omega) (by omega))⟩
theorem w_fastest {g : ev_G} {S : ev_S} {a n lim np L d p B : Nat} {r : Nat → Int32} {ρ : List Nat} (hd : d < 10000) (hI : IW r n lim np L d (-1) ρ) (hk : i_ok r n np L) (hL : L ≤ 80) (hp : p < 2) (ha : (0, a) ∈ S.2.1) (hlw : ev_lw g S.2.1) (h : w_gm S.1 a r L) (hb : w_bo S.1 a) {Q : ev_O → ev_S → Prop}
    (hQ : ∀ v z, w_up g S z → FP np (PP r np L d p) v → Q (.inl (some (ev_i v))) z) : ev_Cv g m_X11_fastest 7 (B + 2880) [ev_o 11 a, ev_i (Int32.ofNat p)] S Q := by
  have hnp := hI.1.2.2.2.1
  have e3 : S.1 a 3 = Int32.ofNat np := (h.1 3 (by omega)).trans hI.1.2.2.1
  have h4 := hI.1.2.2.2.2.1
  have hmad := IR_mad hI.1
  refine sg_X11_fastest_0 a _ ?_
  rw [e3]
  have hPe : ∀ m q, PP r np L d p m q = PP r np L d p m q := fun _ _ => rfl
  generalize hP : PP r np L d p = P at hQ hPe
  have key : ∀ (i : Nat) (v w : Int32) (z : ev_S) (C : Nat), i ≤ np → w_up g S z → ((v = -1 ∧ ∀ q, i ≤ q → q < np → ∀ m, m ≤ 400 → ¬ P m q) ∨ ∃ q m, i ≤ q ∧ q < np ∧ v = Int32.ofNat q ∧ w = Int32.ofNat (d + m) ∧ m ≤ 400 ∧ P m q ∧ (∀ m' q', m' < m → i ≤ q' → q' < np → ¬ P m' q') ∧ ∀ q', i ≤ q' → q' < q → ¬ P m q') →
      ev_E g m_X11_fastest 7 (C + 720 * i) 12 [some (ev_o 11 a), some (ev_i (Int32.ofNat p)), some (ev_i v), some (ev_i w), some (ev_i (Int32.ofNat i - 1)), none, none] [] z Q := by
    intro i
    induction i with
    | zero =>
      intro v w z C _ hz hv
      -- nothing is left
      have fin : Q (.inl (some (ev_i v))) z := by
        refine hQ v z hz ?_
        rcases hv with ⟨h1, h2⟩ | ⟨q, m, h0, h1, h2, h3, h4, h5, h6, h7⟩
        · exact Or.inl ⟨h1, fun m hm q hq => h2 q (Nat.zero_le _) hq m hm⟩
        · exact Or.inr ⟨q, m, h2, h1, h4, h5, fun m' q' c1 c2 => h6 m' q' c1 (Nat.zero_le _) c2, fun q' c => h7 q' (Nat.zero_le _) c⟩
      have hneg : Int32.ofNat 0 - 1 < 0 := by decide
      exact sg_X11_fastest_z a _ _ _ _ hneg fin
    | succ i ih =>
      intro v w z C hin hz hv
      have hg := w_gm_up hz ha h
      have hbz := w_bo_up hz ha hb
      have hPz : ∀ m, P m i = PP r np L d p m i := fun m => by rw [hP]
      have hn0 : ¬ PP r np L d p 0 i := by
        show ¬ xps p r L np (1200 + 11 * (L + i) + 6) = 2
        rw [((xps_at (p := p) (L := L) (r := r) np).2 i (by omega)).2.2]
        decide
      rw [n_d1, show C + 720 * (i + 1) = C + 720 * i + 720 by omega]
      refine sg_X11_fastest_12 a _ _ _ _ (j_neg (n_ng0 (by omega)) ?_)
      refine w_copy (by omega) h4 hmad (w_up_mem hz ha) hg hbz (fun q S1 hw e f f2 g1 g2 g3 g4 g5 => ⟨q, rfl, ?_⟩)
      refine w_posts (by omega) h4 hmad (Or.inl rfl) (fun h9 => absurd h9 (by decide)) g1 (fun S2 t1 t2 => ⟨_, rfl, ?_⟩)
      intro S3 x3
      have e21 : S3.2.1 = (0, q) :: z.2.1 := by
        rw [x3]
        show S2.2.1 = _
        rw [t1.1.1, e]
      refine w_arrival (B := 0) (by omega) (IW_blank hI hk hL hp (show i < np by omega)) (by rw [e21]; exact List.mem_cons_self) (show L < L + 1 by omega) (w_gm_top (fun x hx => by rw [x3, m_r hx]) (fun k hk => by rw [x3, m_k (by omega)]) t2) (w_bo_fr (fun x x1 x2 => by rw [x3, m_r (by omega)]) (t1.2.2 g2)) (by rw [x3, m_s]) (fun S4 u1 => ⟨_, rfl, ?_⟩)
      have up1 : w_up g z S3 := by
        refine w_up_new hw e21 (fun x hx => ?_) (fun x hx => ?_)
        · have hx' : x < q ∨ q + 36 ≤ x := hx
          rw [x3, m_r (by omega), t1.1.2 x hx']
          exact f x hx'
        · rw [x3]
          show S2.2.2 x = _
          rw [t1.1.1]
          exact f2 x hx
      have hy := w_up_tr hz (w_up_tr up1 u1)
      have hS := pa_spec (p := p) hL (q := i) (by omega) hp hI.2.1 hd 400 0 _ ρ rfl (i_pst_post (q := i) (b := p) (x2 := 0) (x3 := 1) (x4 := 0) (x5 := 0) hI.2.1 (by omega) hp (by omega)) (pj_0 hL (by omega) hnp (fun j _ => rfl)) hn0
      rw [Nat.add_zero] at hS
      generalize o_pa L np (L + 1) 400 d (o_post r L (Int32.ofNat p) (Int32.ofNat i) 0 1 0 0) = V at *
      rw [n_am1]
      rcases hS with ⟨s1, s2⟩ | ⟨m1, s1, s2, s3, s4, s5⟩
      · refine j_pos (by rw [s1]; decide) (ih v w S4 C (by omega) hy ?_)
        have hnone : ∀ m, m ≤ 400 → ¬ P m i := fun m hm => by
          rw [hPz]
          by_cases h0 : m = 0
          · rw [h0]; exact hn0
          · exact s2 m (by omega) hm
        rcases hv with ⟨h1, h2⟩ | ⟨q', m, h0, h1, h2, h3, h4, h5, h6, h7⟩
        · refine Or.inl ⟨h1, fun q2 hq2 hq3 m hm => ?_⟩
          by_cases hqi : q2 = i
          · rw [hqi]; exact hnone m hm
          · exact h2 q2 (by omega) hq3 m hm
        · refine Or.inr ⟨q', m, by omega, h1, h2, h3, h4, h5, fun m' q2 c1 c2 c3 => ?_, fun q2 c1 c2 => ?_⟩
          · by_cases hqi : q2 = i
            · rw [hqi]; exact hnone m' (by omega)
            · exact h6 m' q2 c1 (by omega) c3
          · by_cases hqi : q2 = i
            · rw [hqi]; exact hnone m h4
            · exact h7 q2 (by omega) c2
      · rw [s3]
        have hfirst : ∀ m', m' < m1 → ¬ P m' i := fun m' hm => by
          rw [hPz]
          by_cases h0 : m' = 0
          · rw [h0]; exact hn0
          · exact s5 m' (by omega) hm
        rw [← hPz] at s4
        refine j_neg (n_ng0 (by omega)) ?_
        rcases hv with ⟨h1, h2⟩ | ⟨q', m, h0, h1, h2, h3, h4, h5, h6, h7⟩
        · refine j_pos (by rw [h1]; decide) (ih _ _ S4 C (by omega) hy (Or.inr ⟨i, m1, Nat.le_refl _, by omega, rfl, rfl, s2, s4, fun m' q2 c1 c2 c3 => ?_, fun q2 c1 c2 => by omega⟩))
          by_cases hqi : q2 = i
          · rw [hqi]; exact hfirst m' c1
          · exact h2 q2 (by omega) c3 m' (by omega)
        · rw [h2, h3]
          refine j_neg (n_ng0 (by omega)) ?_
          rw [n_le (by omega) (by omega)]
          refine ⟨fun hlt => ih _ _ S4 C (by omega) hy (Or.inr ⟨i, m1, Nat.le_refl _, by omega, rfl, rfl, s2, s4, fun m' q2 c1 c2 c3 => ?_, fun q2 c1 c2 => by omega⟩), fun hlt => ih _ _ S4 C (by omega) hy (Or.inr ⟨q', m, by omega, h1, rfl, rfl, h4, h5, fun m' q2 c1 c2 c3 => ?_, fun q2 c1 c2 => ?_⟩)⟩
          · by_cases hqi : q2 = i
            · rw [hqi]; exact hfirst m' c1
            · exact h6 m' q2 (by omega) (by omega) c3
          · by_cases hqi : q2 = i
            · rw [hqi]; exact hfirst m' (by omega)
            · exact h6 m' q2 c1 (by omega) c3
          · by_cases hqi : q2 = i
            · rw [hqi]; exact hfirst m (by omega)
            · exact h7 q2 (by omega) c2
  rw [show B + 2880 = (B + 720 * (4 - np)) + 720 * np by omega]
  exact key np (-1) 0 S _ (Nat.le_refl _) (w_up_rf hlw) (Or.inl ⟨rfl, fun q h1 h2 => by omega⟩)
