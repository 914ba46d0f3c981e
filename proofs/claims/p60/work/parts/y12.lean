/-! ===== the law: an act ===== -/
theorem n_and (X : Int32) : ∃ m, X &&& 65535 = Int32.ofNat m ∧ m < 65536 := by
  refine ⟨(X.toBitVec &&& 65535#32).toNat, ?_, ?_⟩
  · apply Int32.toBitVec_inj.mp
    show X.toBitVec &&& 65535#32 = BitVec.ofNat 32 (X.toBitVec &&& 65535#32).toNat
    rw [BitVec.ofNat_toNat, BitVec.setWidth_eq]
  · rw [BitVec.toNat_and]
    exact Nat.lt_of_le_of_lt Nat.and_le_right (by decide)
theorem n_add' (A : Nat) (k : Nat) : Int32.ofNat A + (OfNat.ofNat k : Int32) = Int32.ofNat (A + k) := (Int32.ofNat_add A k).symm
theorem n_pick (X : Int32) {n : Nat} (h0 : 0 < n) (h1 : n < 65536) : ∃ m, ev_rem (X &&& 65535) (Int32.ofNat n) = Int32.ofNat m ∧ m < n := by
  obtain ⟨m, e, hm⟩ := n_and X
  exact ⟨m % n, by rw [e, n_remc (by omega) h0 (by omega)], Nat.mod_lt _ h0⟩
theorem w_gm_mule {M M' : Nat → Nat → Int32} {a L q s : Nat} {r : Nat → Int32} (hq : q < 4) (hs : s < 2) (hmad : ∀ p, p < 2 → o_mad r p ≤ 60) (f : ∀ x, x ≠ a → x ≠ a + 17 → M' x = M x) (fa : ∀ k, k ≠ 10 → M' a k = M a k) (f17 : M' (a + 17) = upd (M (a + 17)) (2 * q + s) (M (a + 17) (2 * q + s) + 1)) (h : w_gm M a r L) : w_gm M' a (o_mule r q s) L := by
  obtain ⟨h1, h2, h3, h4, h5, ⟨⟨hd0, h6⟩, ⟨h7, h7'⟩, h8⟩⟩ := h
  have er : ∀ j, j ≠ 1140 + 15 * q + (1 + s) → j ≠ 11 → o_mule r q s j = r j := fun j j1 j2 => by unfold o_mule; rw [u_k j2, u_k j1]
  refine ⟨fun k hk => by rw [fa k (by omega), er k (by omega) (by omega)]; exact h1 k hk, w_bds hmad (fun q q1 q2 => f q (by omega) (by omega)) (fun j hj => er j (by omega) (by omega)) h2, fun q' hq' => ?_, fun l hl => w_lt_row (fun w hw => er _ (by omega) (by omega)) (w_lt_fr (fun q q1 q2 => f q (by omega) (by omega)) (h4 l hl)), fun k hk => w_pr_row (fun w hw => er _ (by omega) (by omega)) (w_pr_fr (fun q q1 q2 => f q (by omega) (by omega)) (h5 k hk)), ⟨⟨by rw [er 2 (by omega) (by omega)]; exact hd0, fun p hp => by rw [er _ (by omega) (by omega)]; exact h6 p hp⟩, ⟨by rw [er 772 (by omega) (by omega)]; exact h7, by rw [er 773 (by omega) (by omega)]; exact h7'⟩, fun l hl => by rw [er _ (by omega) (by omega), er (1200 + 11 * l + 3) (by omega) (by omega)]; exact h8 l hl⟩⟩
  obtain ⟨g1, g2, g3⟩ := h3 q' hq'
  refine ⟨by rw [f (a + 16) (by omega) (by omega), er _ (by omega) (by omega)]; exact g1, fun s' hs' => ?_, fun t ht => by rw [f (a + 18) (by omega) (by omega), er _ (by omega) (by omega)]; exact g3 t ht⟩
  rw [f17]
  by_cases hqs : 2 * q' + s' = 2 * q + s
  · have hq2 : q' = q := by omega
    have hs2 : s' = s := by omega
    subst hq2 hs2
    have vs : o_mule r q' s' (1140 + 15 * q' + (1 + s')) = r (1140 + 15 * q' + (1 + s')) + 1 := by unfold o_mule; rw [u_k (by omega), u_s]
    rw [u_s, vs, g2 _ hs]
  · rw [u_k hqs, er _ (by omega) (by omega)]
    exact g2 s' hs'
theorem w_gm_snow {M M' : Nat → Nat → Int32} {a L q t : Nat} {v : Int32} {r : Nat → Int32} (hq : q < 4) (ht : t < 12) (hmad : ∀ p, p < 2 → o_mad r p ≤ 60) (f : ∀ x, x ≠ a + 18 → M' x = M x) (f18 : M' (a + 18) = upd (M (a + 18)) (12 * q + t) v) (h : w_gm M a r L) : w_gm M' a (o_snow r q t v) L := by
  obtain ⟨h1, h2, h3, h4, h5, ⟨⟨hd0, h6⟩, ⟨h7, h7'⟩, h8⟩⟩ := h
  have er : ∀ j, j ≠ 1140 + 15 * q + (3 + t) → o_snow r q t v j = r j := fun j j1 => by unfold o_snow; rw [u_k j1]
  refine ⟨fun k hk => by rw [f a (by omega), er k (by omega)]; exact h1 k hk, w_bds hmad (fun q q1 q2 => f q (by omega)) (fun j hj => er j (by omega)) h2, fun q' hq' => ?_, fun l hl => w_lt_row (fun w hw => er _ (by omega)) (w_lt_fr (fun q q1 q2 => f q (by omega)) (h4 l hl)), fun k hk => w_pr_row (fun w hw => er _ (by omega)) (w_pr_fr (fun q q1 q2 => f q (by omega)) (h5 k hk)), ⟨⟨by rw [er 2 (by omega)]; exact hd0, fun p hp => by rw [er _ (by omega)]; exact h6 p hp⟩, ⟨by rw [er 772 (by omega)]; exact h7, by rw [er 773 (by omega)]; exact h7'⟩, fun l hl => by rw [er _ (by omega), er (1200 + 11 * l + 3) (by omega)]; exact h8 l hl⟩⟩
  obtain ⟨g1, g2, g3⟩ := h3 q' hq'
  refine ⟨by rw [f (a + 16) (by omega), er _ (by omega)]; exact g1, fun s' hs' => by rw [f (a + 17) (by omega), er _ (by omega)]; exact g2 s' hs', fun t' ht' => ?_⟩
  rw [f18]
  by_cases hqs : 12 * q' + t' = 12 * q + t
  · have hq2 : q' = q := by omega
    have hs2 : t' = t := by omega
    subst hq2 hs2
    unfold o_snow
    rw [u_s, u_s]
  · rw [u_k hqs, er _ (by omega)]
    exact g3 t' ht'
/-- days pass in the own game -/
theorem w_daysA {g : ev_G} {a n lim np L D B : Nat} {u8 : Int32} (hD : D ≤ 60) : ∀ (k d : Nat) (S : ev_S) (r : Nat → Int32) (ρ : List Nat), k ≤ D → d + k < 1000000 → IW r n lim np L d (-1) ρ → w_gm S.1 a r L → S.1 a 32 = -1 → ∀ Q : ev_O → ev_S → Prop,
    (∀ z ρ', w_kp S z a → IW (o_days n np L k d r) n lim np L (d + k) (-1) ρ' → w_gm z.1 a (o_days n np L k d r) L → ev_E g m_L_acts 8 (B + 1) 449 [some (ev_o 9 (ev_b g)), some (ev_o 11 a), none, none, none, none, none, none, some (ev_i u8), some (ev_i (Int32.ofNat D)), some (ev_i (Int32.ofNat D))] [] z Q) →
    ev_E g m_L_acts 8 (B + 1) 449 [some (ev_o 9 (ev_b g)), some (ev_o 11 a), none, none, none, none, none, none, some (ev_i u8), some (ev_i (Int32.ofNat D)), some (ev_i (Int32.ofNat (D - k)))] [] S Q := by
  intro k
  induction k with
  | zero =>
    intro d S r ρ hk hd hI h hs Q hQ
    exact hQ S ρ (w_kp_rf S a) hI h
  | succ k ih =>
    intro d S r ρ hk hd hI h hs Q hQ
    refine sg_L_acts_449 (ev_b g) a 0 _ _ _ (j_neg (by rw [n_le (by omega) (by omega)]; omega) ?_)
    refine w_passes (by omega) hI h hs (fun z ρ' z1 z2 z3 => ⟨rfl, ?_⟩)
    have hIG : IG r n lim np L d ρ := ⟨hI.1, hI.2.1, hI.2.2.1⟩
    have e : o_day r n np L d (-1) ρ = o_dayf r n np L d := by unfold o_dayf; rw [IG_rl hIG]
    rw [e] at z2 z3
    rw [n_inc, show D - (k + 1) + 1 = D - k by omega]
    refine ih (d + 1) z _ ρ' (by omega) (by omega) z2 z3 ((z1.2.1 32 (by omega)).trans hs) Q (fun y ρ2 y1 y2 y3 => hQ y ρ2 (w_kp_tr z1 y1) ?_ y3)
    rw [show d + (k + 1) = d + 1 + k by omega]
    exact y2
theorem w_acts {g : ev_G} {S : ev_S} {a A u B k2 : Nat} {r R : Nat → Int32} (hsl : ev_sl g < 2147483648) (hA : A < 1000000) (h : LV g S a r R u) (hday : (r 2).toInt ≤ 9000) (hn0 : ¬ r 3 = 0) {Q : ev_O → ev_S → Prop}
    (hQ1 : ∀ z, w_uc g S z a → (∀ x, x < ev_b g + 505 → z.1 x = S.1 x) → z.1 a 33 = 1 → Q (.inl (some (ev_i 1))) z) (hQ2 : ∀ z r', LV g z a r' (o_kp R r u) (o_ku u) → w_uc g S z a → (r' 2).toInt ≤ (r 2).toInt + 60 → r' 3 = r 3 → Q (.inl (some (ev_i 1))) z) :
    ev_Cv g m_L_acts 8 (B + 81) [ev_o 9 (ev_b g), ev_o 11 a, ev_x 0 k2, ev_i (Int32.ofNat A)] S Q := by
  have hLV := h
  obtain ⟨⟨ha, hlw⟩, ⟨hbo, h32, h33⟩, ⟨n, lim, np, L, d, ρ, ⟨hi, hL, hd, hg, hok⟩, hw, hcx⟩, hs2, hh, hsh⟩ := h
  have hIW := LV_IW hi hok hs2
  have hnp := hi.1.2.2.2.1
  have hnp0 : 0 < np := by
    rw [hi.1.2.2.1, n_z (by omega)] at hn0
    omega
  have hab := hlw.1 (0, a) ha
  simp only at hab
  have hmad := IR_mad hi.1
  have hdk : ∀ p, p < 2 → i_dk r p n lim := fun p hp => i_dk_p hi.1 hp
  have h8 := (hdk 0 (by omega)).2.1
  have hn9 := sq_le h8
  have e3 : S.1 a 3 = Int32.ofNat np := (hw.1 3 (by omega)).trans hi.1.2.2.1
  have e4 : S.1 a 4 = Int32.ofNat L := (hw.1 4 (by omega)).trans hi.1.2.2.2.2.1
  have e2 : S.1 a 2 = Int32.ofNat d := (hw.1 2 (by omega)).trans hi.1.2.2.2.2.2.2.1
  have hd9 : d ≤ 9000 := by
    rw [hi.1.2.2.2.2.2.2.1, n_i (by omega)] at hday
    omega
  have e0 : (0 : Int32) = Int32.ofNat 0 := rfl
  have cells : ∀ k : Nat, k < 2000000 → ¬ ((Int32.ofNat (ev_sl g)) = 0) → vp_in (ev_rem (Int32.ofNat k) (Int32.ofNat (ev_sl g))) (ev_sl g) := fun k hk hz => by
    rw [n_z hsl] at hz
    rw [n_remc (by omega) (by omega) hsl]
    have := Nat.mod_lt k (show ev_sl g > 0 by omega)
    rw [n_vp this (by omega)]
    trivial
  -- what comes next is the same for the three ways to a player
  have main : ∀ (T : ev_S) (u4 : Int32) (V q k : Nat), T = S → V < 10000 → q < np → k < 2 → ev_E g m_L_acts 8 (B + 81) 64 [some (ev_o 9 (ev_b g)), some (ev_o 11 a), some (ev_x 0 k2), some (ev_i (Int32.ofNat A)), some (ev_i u4), some (ev_i (Int32.ofNat V)), some (ev_i (Int32.ofNat q)), some (ev_i (Int32.ofNat k)), none, none, none] [] T Q := by
    rintro T u4 V q k rfl hV hq hk
    have hqn : ∀ np', r 3 = Int32.ofNat np' → np' ≤ 4 → q < np' := fun np' e h4 => by
      rw [hi.1.2.2.1, n_eq (by omega) (by omega)] at e
      omega
    have e1k : (1 : Int32) - Int32.ofNat k = Int32.ofNat (1 - k) := n_sub 1 k (by omega)
    have hv2 : ev_rem (Int32.ofNat V) 2 = Int32.ofNat (V % 2) := n_rem2 (by omega)
    have day2 : ∀ r' : Nat → Int32, r' 2 = r 2 → (r' 2).toInt ≤ (r 2).toInt + 60 := fun r' e => by rw [e]; omega
    have mv : ∀ k, k < 2 → ev_Cv g m_L_moves 7 1 [ev_o 9 (ev_b g), ev_o 11 a, ev_i (Int32.ofNat k), ev_i (Int32.ofNat V), ev_i (Int32.ofNat q)] T (fun o S6 => ∃ v6_ : Bool, o = .inl (some (ev_i (if v6_ = true then 1 else 0))) ∧ ((v6_ = true → Q (.inl (some (ev_i 1))) S6) ∧ (¬ (v6_ = true) → Q (.inl (some (ev_i 0))) S6))) := fun k hk => by
      refine w_moves (B := 0) hLV hk hqn (fun z hz => ⟨true, rfl, fun _ => hQ1 z ?_ ?_ ?_, fun c => absurd rfl c⟩) (fun z r' z1 z2 z3 => ⟨true, rfl, fun _ => hQ2 z r' z1 z2 (day2 r' z3.1) z3.2, fun c => absurd rfl c⟩)
      · exact w_uc_sm hlw (by rw [hz]; rfl) (fun x x1' x2 => by rw [hz, m_r (by omega)])
      · intro x hx
        rw [hz, m_r (by omega)]
      · rw [hz, m_s]
    have pm : ∀ (k : Nat) (w : Int32), k < 2 → ev_Cv g m_L_promises 7 81 [ev_o 9 (ev_b g), ev_o 11 a, ev_i (Int32.ofNat k), ev_i (Int32.ofNat V), ev_i w, ev_i (Int32.ofNat q)] T (fun o S6 => ∃ v6_ : Bool, o = .inl (some (ev_i (if v6_ = true then 1 else 0))) ∧ ((v6_ = true → Q (.inl (some (ev_i 1))) S6) ∧ (¬ (v6_ = true) → Q (.inl (some (ev_i 0))) S6))) := fun k w hk => by
      exact w_promises (B := 0) hLV hk hqn (fun z z1 z2 z3 => ⟨true, rfl, fun _ => hQ1 z z1 z2 z3, fun c => absurd rfl c⟩) (fun z r' z1 z2 z3 => ⟨true, rfl, fun _ => hQ2 z r' z1 z2 (day2 r' z3.1) z3.2, fun c => absurd rfl c⟩)
    -- mules, snow, days
    have rest : ∀ C : Nat, ev_E g m_L_acts 8 (C + 1) 233 [some (ev_o 9 (ev_b g)), some (ev_o 11 a), none, none, some (ev_i u4), some (ev_i (Int32.ofNat V)), some (ev_i (Int32.ofNat q)), none, none, none, none] [] T Q := fun C => by
      have hq4 : q < 4 := by omega
      obtain ⟨g1, g2, g3⟩ := hw.2.2.1 q hq4
      have snow : ∀ t, t < 12 → ev_E g m_L_acts 8 (C + 1) 351 [some (ev_o 9 (ev_b g)), some (ev_o 11 a), none, none, none, some (ev_i (Int32.ofNat V)), some (ev_i (Int32.ofNat q)), none, some (ev_i (Int32.ofNat t)), none, none] [] T Q := fun t ht => by
        have hval : ev_rem (Int32.ofNat V / 12) 10 = Int32.ofNat (V / 12 % 10) := by
          have h1 := n_divc (d := V) (c := 12) (by omega) (by decide) (by decide)
          have h2 := n_remc (d := V / 12) (c := 10) (by omega) (by decide) (by decide)
          have e12 : (12 : Int32) = Int32.ofNat 12 := rfl
          have e10 : (10 : Int32) = Int32.ofNat 10 := rfl
          rw [e12, e10, h1, h2]
        have hv9 : V / 12 % 10 < 10 := Nat.mod_lt _ (by decide)
        have hvr : (0 : Int32) ≤ Int32.ofNat (V / 12 % 10) ∧ Int32.ofNat (V / 12 % 10) ≤ 9 := by
          have e9 : (9 : Int32) = Int32.ofNat 9 := rfl
          rw [e9, n_nn (by omega), n_le (by omega) (by omega)]
          exact ⟨trivial, by omega⟩
        refine sg_L_acts_351 (ev_b g) a 0 _ _ _ ?_
        rw [lm_12, n_add, n_c (by omega), hval, g3 t ht]
        refine ⟨(n_vp (by omega) (by omega)).mpr trivial, ?_⟩
        intro S1 x1
        have k1 : ∀ x, x ≠ a + 18 → S1.1 x = T.1 x := fun x hx => by rw [x1, m_r hx]
        have kp : w_kp T S1 a := w_kp_mk (by rw [x1]; rfl) (fun x hx => k1 x (by omega)) (fun k _ => by rw [k1 a (by omega)]) (fun x hx => k1 x (by omega))
        have kc : ∀ x, x < ev_b g + 505 → S1.1 x = T.1 x := fun x hx => k1 x (by omega)
        have gw : w_gm S1.1 a (o_snow r q t (Int32.ofNat (V / 12 % 10))) L := w_gm_snow hq4 ht hmad k1 (by rw [x1, m_u, r_s]) hw
        have hIp := IG_snow hq ht hvr hi
        refine x_setSnow hi hL hd (q_gm_frame (fun x q1 q2 => kc x (by omega)) hg) hok (w_his_fr (fun x q1 q2 => kc x (by omega)) hh) ?_ ?_ ?_
        · intro hn
          exact absurd ⟨⟨q, rfl, hq⟩, t, rfl, ht⟩ hn
        · intro q' t' b1 b2 b3 b4 hno
          exact absurd hvr hno
        · intro q' t' b1 b2 b3 b4 _ z z1 z2 z3 z4
          have hq' := (ofi b1 (by omega) (by omega)).symm
          have ht' := (ofi b3 (by omega) (by omega)).symm
          subst hq' ht'
          refine ⟨_, rfl, fun _ => ?_, fun c => absurd rfl c⟩
          obtain ⟨f1, f2⟩ := LV_fin hLV kp z1 (fun x q1 q2 => z2 x (by omega) q2) z3 z4 gw hIp.1.2.2.2.2.1 (by omega) (fun q2 hq2 s2 hs2' => by unfold o_snow; rw [u_k (by omega), u_k (by omega)]; exact hs2 q2 hq2 s2 hs2') (CX_row hi (by unfold o_snow; rw [u_k (by omega)]) (by unfold o_snow; rw [u_k (by omega)]) (CX_snow hi hq ht hcx))
          exact hQ2 z _ f1 f2 (day2 _ (by unfold o_snow; rw [u_k (by omega)])) (by unfold o_snow; rw [u_k (by omega)])
      have days : ∀ D, 1 ≤ D → D ≤ 60 → ev_E g m_L_acts 8 (C + 1) 446 [some (ev_o 9 (ev_b g)), some (ev_o 11 a), none, none, none, none, none, none, some (ev_i (T.1 a 8)), some (ev_i (Int32.ofNat D)), none] [] T Q := fun D hD1 hD => by
        refine sg_L_acts_446 (ev_b g) a 0 _ _ ?_
        have := w_daysA (g := g) (a := a) (B := C) (u8 := T.1 a 8) hD D d T r ρ (Nat.le_refl _) (by omega) hIW hw h32 Q
        rw [Nat.sub_self, ← e0] at this
        refine this (fun z ρ' z1 z2 z3 => ?_)
        refine sg_L_acts_449 (ev_b g) a 0 _ _ _ (j_pos (by exact Int32.le_refl _) ?_)
        have kc : ∀ x, x < ev_b g + 505 → z.1 x = T.1 x := fun x hx => z1.1.2 x (by omega)
        refine x_advance hi hL hd (q_gm_frame (fun x q1 q2 => kc x (by omega)) hg) hok (w_his_fr (fun x q1 q2 => kc x (by omega)) hh) ?_ ?_ ?_
        · intro hn
          have e1 : (1 : Int32) = Int32.ofNat 1 := rfl
          have e60 : (60 : Int32) = Int32.ofNat 60 := rfl
          rw [e1, e60, n_le (by omega) (by omega), n_le (by omega) (by omega)] at hn
          exact absurd ⟨hD1, hD⟩ hn
        · intro D' b1 b2 b3 b4
          have := ofi b1 (by omega) (by omega)
          omega
        · intro D' b1 b2 b3 b4 y y1 y2 y3 y4
          have hD' := (ofi b1 (by omega) (by omega)).symm
          subst hD'
          have ey : y.1 a 8 = o_days n np L D' d r 8 := by rw [y1.2 a (by omega)]; exact z3.1 8 (by omega)
          have eT : T.1 a 8 = r 8 := hw.1 8 (by omega)
          refine ⟨_, rfl, fun _ => ?_, fun c => absurd (by rw [ey, eT]) c⟩
          obtain ⟨f1, f2⟩ := LV_fin hLV z1 y1 (fun x q1 q2 => y2 x (by omega) q2) y3 y4 z3 z2.1.2.2.2.2.1 (by omega) z2.2.2.2.2 (CX_row hi (z2.1.1.1.trans hi.1.1.1.symm) (z2.1.2.2.1.trans hi.1.2.2.1.symm) (CX_days D' d r ρ (by omega) hi hcx))
          refine hQ2 y _ f1 f2 ?_ (z2.1.2.2.1.trans hi.1.2.2.1.symm)
          rw [z2.1.2.2.2.2.2.2.1, hi.1.2.2.2.2.2.2.1, n_i (by omega), n_i (by omega)]
          omega
      have hT : d / 30 % 12 < 12 := Nat.mod_lt _ (by decide)
      refine sg_L_acts_233 (ev_b g) a 0 _ _ _ ?_
      rw [hv2, lm_2, n_add, n_c (by omega), g2 (V % 2) (by omega), e2, n_dv30 (by omega), n_rm12 (by omega), n_rm12 (by omega)]
      have m60 : (1 : Int32) + ev_rem (Int32.ofNat V) 60 = Int32.ofNat (1 + V % 60) := by
        have h2 := n_remc (d := V) (c := 60) (by omega) (by decide) (by decide)
        have e60 : (60 : Int32) = Int32.ofNat 60 := rfl
        rw [e60, h2, la_1]
      have m6 : (1 : Int32) + ev_rem (Int32.ofNat V) 6 = Int32.ofNat (1 + V % 6) := by
        have h2 := n_remc (d := V) (c := 6) (by omega) (by decide) (by decide)
        have e60 : (6 : Int32) = Int32.ofNat 6 := rfl
        rw [e60, h2, la_1]
      have l60 := Nat.mod_lt V (show 60 > 0 by decide)
      have l6 := Nat.mod_lt V (show 6 > 0 by decide)
      have l12 := Nat.mod_lt V (show 12 > 0 by decide)
      rw [m60, m6]
      refine ⟨fun _ => ⟨(n_vp (by omega) (by omega)).mpr trivial, fun c8 => ?_, fun _ S4 x4 => hQ1 S4 (w_uc_sm hlw (by rw [x4]; rfl) (fun x x1' x2 => by rw [x4, m_r (by omega)])) (fun x hx => by rw [x4, m_r (by omega)]) (by rw [x4, m_s])⟩, fun _ => ⟨fun _ => ⟨fun _ => snow _ hT, fun _ => snow _ l12⟩, fun _ => ⟨fun _ => days _ (by omega) (by omega), fun _ => days _ (by omega) (by omega)⟩⟩⟩
      -- a mule
      intro S1 x1 S2 x2
      have k1 : ∀ x, x ≠ a → x ≠ a + 17 → S2.1 x = T.1 x := fun x hx hx2 => by rw [x2, m_r hx, x1, m_r hx2]
      have k1a : ∀ k, k ≠ 10 → S2.1 a k = T.1 a k := fun k hk => by rw [x2, m_k hk, x1, m_r (by omega)]
      have k17 : S2.1 (a + 17) = upd (T.1 (a + 17)) (2 * q + V % 2) (r (1140 + 15 * q + (1 + V % 2)) + 1) := by rw [x2, m_r (by omega), x1, m_u, r_s]
      have kp : w_kp T S2 a := w_kp_mk (by rw [x2, x1]; rfl) (fun x hx => k1 x (by omega) (by omega)) (fun k hk => k1a k (by omega)) (fun x hx => k1 x (by omega) (by omega))
      have kc : ∀ x, x < ev_b g + 505 → S2.1 x = T.1 x := fun x hx => k1 x (by omega) (by omega)
      have hs1 : V % 2 < 2 := Nat.mod_lt _ (by decide)
      have gw : w_gm S2.1 a (o_mule r q (V % 2)) L := w_gm_mule hq4 hs1 hmad k1 k1a (by rw [k17, g2 _ hs1]) hw
      have hIp := IG_mule hq hs1 hi
      have h9n : ¬ (9 : Int32) ≤ r (1140 + 15 * q + (1 + V % 2)) := by
        have e9 : (9 : Int32).toInt = 9 := rfl
        have e8 : (8 : Int32).toInt = 8 := rfl
        rw [z_le, e8] at c8
        rw [z_le, e9]
        omega
      refine x_addMule hi hL hd (q_gm_frame (fun x q1 q2 => kc x (by omega)) hg) hok (w_his_fr (fun x q1 q2 => kc x (by omega)) hh) ?_ ?_ ?_
      · intro hn
        exact absurd ⟨⟨q, rfl, hq⟩, V % 2, rfl, hs1⟩ hn
      · intro q' s' b1 b2 b3 b4 h9
        have hq' := (ofi b1 (by omega) (by omega)).symm
        have hs' := (ofi b3 (by omega) (by omega)).symm
        rw [hq', hs'] at h9
        exact absurd h9 h9n
      · intro q' s' b1 b2 b3 b4 _ z z1 z2 z3 z4
        have hq' := (ofi b1 (by omega) (by omega)).symm
        have hs' := (ofi b3 (by omega) (by omega)).symm
        rw [hq', hs'] at z3 ⊢
        have ez : z.1 (a + 17) (2 * q + V % 2) = r (1140 + 15 * q + (1 + V % 2)) + 1 := by rw [z1.2 _ (by omega), k17, u_s]
        refine ⟨_, rfl, fun _ => ?_, fun c => absurd ez.symm c⟩
        have hst : w_s2 (o_mule r q (V % 2)) := by
          intro q2 hq2 s2 hs2'
          have e8 : o_mule r q (V % 2) 8 = r 8 := by unfold o_mule; rw [u_k (by omega), u_k (by omega)]
          have w0 := hs2 q2 hq2 s2 hs2'
          rw [e8]
          by_cases hqs : 1140 + 15 * q2 + (1 + s2) = 1140 + 15 * q + (1 + V % 2)
          · have vs : o_mule r q (V % 2) (1140 + 15 * q + (1 + V % 2)) = r (1140 + 15 * q + (1 + V % 2)) + 1 := by unfold o_mule; rw [u_k (by omega), u_s]
            have e1 : (1 : Int32).toInt = 1 := rfl
            have e88 : (8 : Int32).toInt = 8 := rfl
            have c8' := c8
            rw [z_le, e88] at c8'
            have h8c : 0 ≤ (r 8).toInt := by
              rw [hok.2.2.2, n_i (by have := cnt_le (o_st2 r) L; omega)]
              omega
            rw [hqs] at w0
            rw [hqs, vs, z_add (by rw [e1]; omega) (by rw [e1]; omega), e1]
            omega
          · unfold o_mule
            rw [u_k (by omega), u_k hqs]
            exact w0
        obtain ⟨f1, f2⟩ := LV_fin hLV kp z1 (fun x q1 q2 => z2 x (by omega) q2) z3 z4 gw hIp.1.2.2.2.2.1 (by omega) hst (CX_row hi (by unfold o_mule; rw [u_k (by omega), u_k (by omega)]) (by unfold o_mule; rw [u_k (by omega), u_k (by omega)]) (CX_mule hi hq hs1 hcx))
        exact hQ2 z _ f1 f2 (day2 _ (by unfold o_mule; rw [u_k (by omega), u_k (by omega)])) (by unfold o_mule; rw [u_k (by omega), u_k (by omega)])
    refine sg_L_acts_64 (ev_b g) a k2 _ _ _ _ _ ?_
    rw [e1k, e4, n_add' A 3]
    have hc3 := cells (A + 3) (by omega)
    have rs : ev_E g m_L_acts 8 (B + 81) 233 [some (ev_o 9 (ev_b g)), some (ev_o 11 a), none, none, some (ev_i u4), some (ev_i (Int32.ofNat V)), some (ev_i (Int32.ofNat q)), none, none, none, none] [] T Q := rest (B + 80)
    refine ⟨fun _ => ⟨fun _ => ⟨fun _ => ⟨fun _ => rs, fun hl0 => ⟨fun _ => rs, fun hl80 => ?_⟩⟩, fun _ => rs⟩, fun _ => ⟨fun _ => ⟨id, hc3, by decide, pm k _ hk⟩, fun _ => ⟨id, hc3, by decide, pm (1 - k) _ (by omega)⟩⟩⟩, fun _ => ⟨fun _ => mv (1 - k) (by omega), fun _ => mv k hk⟩⟩
    -- a letter again
    have e80 : (80 : Int32) = Int32.ofNat 80 := rfl
    rw [e80, n_le (by omega) (by omega)] at hl80
    rw [e0, n_le (by omega) (by omega)] at hl0
    have hl : V % L < L := Nat.mod_lt _ (by omega)
    rw [n_remc (by omega) (by omega) (by omega), n_c (by omega)]
    generalize V % L = l at *
    obtain ⟨w0, w1, w2, w3, w4, w5, w6, w7, w8, w9⟩ := hw.2.2.2.1 l hl
    rw [w0, w2, w3, w4, w5]
    refine ⟨by rw [n_z (by omega)]; omega, (n_vp (by omega) (by omega)).mpr trivial, ?_⟩
    obtain ⟨kk, hlet⟩ := IR_let hi.1 hl
    have hx2 : r (1200 + 11 * l + 2) = 0 ∨ r (1200 + 11 * l + 2) = 1 := by
      obtain ⟨-, -, -, -, -, -, -, _, _, -, -, -, -, -, h9⟩ := hlet
      rcases h9 with h9 | h9
      · exact Or.inl h9
      · exact Or.inr h9.1
    have hIp := IG_res hi (show L < 80 by omega) hl hq
    refine w_posts hL hi.1.2.2.2.2.1 hmad hx2 (hw.2.2.2.2.2.2.2 l hl) hw (fun S1 t1 t2 => ⟨_, rfl, ?_⟩)
    have kc : ∀ x, x < ev_b g + 505 → S1.1 x = T.1 x := fun x hx => t1.1.2 x (by omega)
    refine x_resend hi hL hd (q_gm_frame (fun x q1 q2 => kc x (by omega)) hg) hok (w_his_fr (fun x q1 q2 => kc x (by omega)) hh) ?_ ?_ ?_
    · intro hn
      exact absurd ⟨⟨l, rfl, hl⟩, q, rfl, hq⟩ hn
    · intro l' q' b1 b2 b3 b4 hno
      exact absurd (show L < 80 by omega) hno
    · intro l' q' b1 b2 b3 b4 _ z z1 z2 z3 z4
      have hl' := (ofi b1 (by omega) (by omega)).symm
      have hq' := (ofi b3 (by omega) (by omega)).symm
      rw [hl', hq'] at z3
      refine ⟨_, rfl, fun _ => ?_, fun c => absurd rfl c⟩
      have er : ∀ j, (j < 2 ∨ j = 2 ∨ j = 3 ∨ j = 8 ∨ (1140 ≤ j ∧ j < 1200)) → o_res r l q L j = r j := fun j hj => by
        unfold o_res o_post
        rw [u_k (by omega), u_k (by omega), u_k (by omega), u_k (by omega), u_k (by omega), u_k (by omega), u_k (by omega), u_k (by omega), u_k (by omega)]
      obtain ⟨f1, f2⟩ := LV_fin hLV t1 z1 (fun x q1 q2 => z2 x (by omega) q2) z3 z4 (L' := L + 1) t2 hIp.1.2.2.2.2.1 (by omega) (w_s2_same hs2 (fun j hj => er j (by omega))) (CX_row hi (er 0 (by omega)) (er 3 (by omega)) (CX_res hi hL hl hcx))
      exact hQ2 z _ f1 f2 (day2 _ (er 2 (by omega))) (er 3 (by omega))
  have hc0 := cells A (by omega)
  have hc1 := cells (A + 1) (by omega)
  have hc2 := cells (A + 2) (by omega)
  refine sg_L_acts_0 (ev_b g) a k2 _ ?_
  rw [e3, n_add' A 1, n_add' A 2]
  obtain ⟨V, hV, hV2⟩ := n_pick (f_L_cell g k2 (Int32.ofNat (A + 1))) (n := 10000) (by decide) (by decide)
  obtain ⟨q, hqe, hq⟩ := n_pick (f_L_cell g k2 (Int32.ofNat (A + 2))) (n := np) hnp0 (by omega)
  have hV' : ev_rem ((f_L_cell g k2 (Int32.ofNat (A + 1))) &&& 65535) 10000 = Int32.ofNat V := hV
  rw [hV', hqe, n_rem2 (by omega)]
  refine ⟨id, hc0, by decide, hc1, by decide, hc2, by rw [n_z (by omega)]; omega, ?_⟩
  obtain ⟨m0, hm0, hml0⟩ := (hdk 0 (by omega)).2.2.2.2.1
  obtain ⟨m1, hm1, hml1⟩ := (hdk 1 (by omega)).2.2.2.2.1
  have hl60 := (hdk 0 (by omega)).2.2.2.1
  have e1 : (1 : Int32) = Int32.ofNat 1 := rfl
  rw [e0, e1]
  refine w_isTurn (by omega) h8 (hi.2.2 0 (by omega)).1 hm0 (by omega) (hw.2.1 0 (by omega)) (hw.1 1 (by omega)) _ ⟨_, rfl, fun _ => main S _ V q 0 rfl hV2 hq (by omega), fun _ => ?_⟩
  refine w_isTurn (by omega) h8 (hi.2.2 1 (by omega)).1 hm1 (by omega) (hw.2.1 1 (by omega)) (hw.1 1 (by omega)) _ ⟨_, rfl, fun _ => main S _ V q 1 rfl hV2 hq (by omega), fun _ => main S _ V q (V % 2) rfl hV2 hq (Nat.mod_lt _ (by decide))⟩
