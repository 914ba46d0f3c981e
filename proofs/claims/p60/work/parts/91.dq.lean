/-! ===== both: a promise, as asked: the class ===== -/
theorem o_laid_sq {r : Nat → Int32} {p f t s : Nat} (hft : f ≠ t) : o_laid r p f t (26 + 64 * p + s) = if s = f then -1 else if s = t then r (26 + 64 * p + f) else r (26 + 64 * p + s) := by
  unfold o_laid
  by_cases h1 : s = f
  · rw [if_pos h1, h1, u_s]
  · rw [if_neg h1, u_k (by omega)]
    by_cases h2 : s = t
    · rw [if_pos h2, h2, u_s]
    · rw [if_neg h2, u_k (by omega)]
/-- what the class asks of an expected move is what the reference asks -/
theorem o_ams_eq {r : Nat → Int32} {p n lim m f t rf rt : Nat} (hp : p < 2) (h4 : 4 ≤ n) (hd : i_dk r p n lim) (hm : r (12 + 7 * p) = Int32.ofNat m) (hml : m < lim) (hf : f < n * n) (ht : t < n * n) (hrf : rf < n * n) (hrt : rt < n * n) (hO : ¬ o_over r p n = true) (hM : o_moves r p n (Int32.ofNat (1 - p)) f t = true) :
    o_ams r p n m f t rf rt = true ↔ (¬ o_over (o_apply r p m f t) p n = true ∧ o_moves (o_apply r p m f t) p n (Int32.ofNat p) rf rt = true) := by
  have h8 := hd.2.1
  have h60 := hd.2.2.2.1
  have hn9 := sq_le h8
  have hft := (o_moves_f hM).2
  have hto : r (26 + 64 * p + t) ≠ Int32.ofNat (1 - p) := by
    unfold o_moves at hM
    rw [Bool.and_eq_true, decide_eq_true_eq] at hM
    exact hM.1.2.2
  have ec : ∀ s, s < 64 → o_apply r p m f t (26 + 64 * p + s) = o_laid r p f t (26 + 64 * p + s) := fun s hs => by rw [o_apply_sq (by omega) hp (by omega) (by omega) hft hs, o_laid_sq hft]
  have em := o_moves_congr (its := Int32.ofNat p) (f := rf) (t := rt) h4 h8 (by omega) (by omega) ec
  have eb : ∀ q, o_bish (o_apply r p m f t) p n q = o_bish (o_laid r p f t) p n q := fun q => cnt_congr _ (fun s hs => by rw [ec s (by omega)])
  have e1 : o_apply r p m f t 1 = r 1 := o_apply_own (by omega) (by omega) (by omega) (fun hh => by unfold o_own at hh; omega)
  have eo := o_bish_apply (q := Int32.ofNat (1 - p)) (r := r) (m := m) (by omega) hp h8 hf ht hft (n_m1' (by omega))
  rw [if_neg hto] at eo
  have hov : ¬ (o_bish r p n 0 = 0 ∨ o_bish r p n 1 = 0 ∨ r (12 + 7 * p) = r 1) := by
    unfold o_over at hO
    rw [decide_eq_true_eq] at hO
    exact hO
  unfold o_ams o_over
  rw [hM, Bool.true_and, Bool.and_eq_true, Bool.and_eq_true, decide_eq_true_eq, decide_eq_true_eq, decide_eq_true_eq, o_apply_made, e1, em, ← eb]
  have : p = 0 ∨ p = 1 := by omega
  rcases this with rfl | rfl
  · have z0 : Int32.ofNat 0 = 0 := rfl
    have z1 : Int32.ofNat (1 - 0) = 1 := rfl
    rw [z1] at eo
    rw [z0]
    constructor
    · rintro ⟨a1, a2, a3⟩
      exact ⟨fun hh => by
        rcases hh with hh | hh | hh
        · omega
        · exact hov (Or.inr (Or.inl (by omega)))
        · exact a1 hh, a3⟩
    · rintro ⟨a1, a3⟩
      exact ⟨fun hh => a1 (Or.inr (Or.inr hh)), Nat.one_le_iff_ne_zero.mpr (fun hh => a1 (Or.inl hh)), a3⟩
  · have z0 : Int32.ofNat 1 = 1 := rfl
    have z1 : Int32.ofNat (1 - 1) = 0 := rfl
    rw [z1] at eo
    rw [z0]
    constructor
    · rintro ⟨a1, a2, a3⟩
      exact ⟨fun hh => by
        rcases hh with hh | hh | hh
        · exact hov (Or.inl (by omega))
        · omega
        · exact a1 hh, a3⟩
    · rintro ⟨a1, a3⟩
      exact ⟨fun hh => a1 (Or.inr (Or.inr hh)), Nat.one_le_iff_ne_zero.mpr (fun hh => a1 (Or.inr (Or.inl hh))), a3⟩
theorem b_promiseFault {g : ev_G} {S : ev_S} {e n lim np L d : Nat} {x0 x1 x2 x3 x4 x5 : Int32} {r : Nat → Int32} {ρ : List Nat} (hi : IG r n lim np L d ρ) (hL : L ≤ 80) (hk : i_ok r n np L) (hg : q_gm S.1 e r n L ρ) {Q : ev_O → ev_S → Prop}
    (q1 : (¬ ∃ p q f t rf rt, k_prm n np x0 x1 x2 x3 x4 x5 p q f t rf rt) → Q (.inl (some (ev_i 1))) S)
    (q2 : ∀ p q f t rf rt, k_prm n np x0 x1 x2 x3 x4 x5 p q f t rf rt → ¬ o_mayp r p n (o_mad r p) L → Q (.inl (some (ev_i 2))) S)
    (q3 : ∀ p q f t rf rt, k_prm n np x0 x1 x2 x3 x4 x5 p q f t rf rt → o_mayp r p n (o_mad r p) L → ¬ o_ams r p n (o_mad r p) f t rf rt = true → ∀ z, q_fr S z (e + 36) 5 → Q (.inl (some (ev_i 3))) z)
    (q4 : ∀ p q f t rf rt, k_prm n np x0 x1 x2 x3 x4 x5 p q f t rf rt → o_mayp r p n (o_mad r p) L → o_ams r p n (o_mad r p) f t rf rt = true → ∀ z, q_fr S z (e + 36) 5 → Q (.inl (some (ev_i 0))) z) :
    ev_Cv g m_X2_promiseFault 5 0 [ev_o 2 e, ev_i x0, ev_i x1, ev_i x2, ev_i x3, ev_i x4, ev_i x5] S Q := by
  have h8 := hi.1.1.2.1
  have hn9 := sq_le h8
  have h4 := hk.1
  have hnp := hi.1.2.2.2.1
  obtain ⟨es, e3, e13⟩ := q_gm_sz hi hg
  have e80 : (80 : Int32) = Int32.ofNat 80 := rfl
  refine sg_X2_promiseFault_0 e x0 x1 x2 x3 x4 x5 ?_
  rw [t_pl, t_sq es h8, t_sq es h8, t_sq es h8, t_sq es h8, t_ex e3 (by omega)]
  refine ⟨fun y0 => ⟨fun y1 => ⟨fun y2 => ⟨fun y3 => ⟨fun y4 => ⟨fun y5 => ?_, fun y => q1 (fun ⟨p, q, f, t, rf, rt, z⟩ => y ⟨_, z.2.2.2.2.2⟩)⟩, fun y => q1 (fun ⟨p, q, f, t, rf, rt, z⟩ => y ⟨_, z.2.2.2.2.1⟩)⟩, fun y => q1 (fun ⟨p, q, f, t, rf, rt, z⟩ => y ⟨_, z.2.2.2.1⟩)⟩, fun y => q1 (fun ⟨p, q, f, t, rf, rt, z⟩ => y ⟨_, z.2.2.1⟩)⟩, fun y => q1 (fun ⟨p, q, f, t, rf, rt, z⟩ => y ⟨_, z.2.1⟩)⟩, fun y => q1 (fun ⟨p, q, f, t, rf, rt, z⟩ => y ⟨_, z.1⟩)⟩
  obtain ⟨p, hp, hp2⟩ := y0
  obtain ⟨q, hq, hq2⟩ := y1
  obtain ⟨f, hf, hf2⟩ := y2
  obtain ⟨t, ht, ht2⟩ := y3
  obtain ⟨rf, hrf, hrf2⟩ := y4
  obtain ⟨rt, hrt, hrt2⟩ := y5
  have kk : k_prm n np x0 x1 x2 x3 x4 x5 p q f t rf rt := ⟨⟨hp, hp2⟩, ⟨hq, hq2⟩, ⟨hf, hf2⟩, ⟨ht, ht2⟩, ⟨hrf, hrf2⟩, ⟨hrt, hrt2⟩⟩
  have q2 := q2 p q f t rf rt kk
  have q3 := q3 p q f t rf rt kk
  have q4 := q4 p q f t rf rt kk
  clear q1 kk
  have hd := i_dk_of hi.1 hp2
  obtain ⟨hm, hml, h60⟩ := n_mad hd
  have hdk := hg.1 p hp2
  have hdk' := hdk
  unfold q_dk at hdk'
  generalize hmm : o_mad r p = m at *
  have eo : ∀ s, s < 64 → S.1 (e + 1 + 9 * p + 2) s = r (26 + 64 * p + s) := fun s hs => hdk'.2.1.1 s hs
  have e6 : S.1 (e + 1 + 9 * p + 1) 6 = Int32.ofNat m := by
    have := hdk'.2.1.2.2.2.2.2.1
    rw [hm] at this
    exact this
  rw [hp, hf, ht, hrf, hrt, a_desk hp2, b_fin h8 hdk'.2.1, t_may hp2 h8 hm (by omega) hdk, e13, e80, n_lt (by omega) (by omega), a_in (by omega) (by omega), eo f (by omega), e6, n_inc, n_inc, n_1s hp2]
  refine ⟨fun hO => q2 (fun q => q.1 hO), fun hO => ⟨fun hT => q2 (fun q => q.2.1 hT), fun hT => ?_⟩⟩
  have hlt := o_turn_lt hp2 hd hm hml hO
  have hmk : o_maker (m + 2) = p := by
    have hne : ¬ o_maker (m + 1) = p := fun q => hT (by
      unfold o_turn
      have h1 := hO
      rw [Bool.not_eq_true] at h1
      rw [h1, q]
      simp)
    unfold o_maker at *
    split at hne <;> split <;> omega
  have hfl : o_fl p (m + 2) = 4 := if_pos hmk
  have hpr : (j_at (S.1 (e + 1 + 9 * p + 8)) 61 (Int32.ofNat (m + 1 + 1)) = -1) ↔ r (762 + 6 * (m + 2) + 4) = 0 := by
    by_cases h61 : m + 2 ≤ 60
    · rw [a_in (by omega) (by omega)]
      have h3 := hdk'.2.2.2.1 (m + 2) h61
      rw [hfl] at h3
      constructor
      · intro h9
        by_cases hz : r (762 + 6 * (m + 2) + 4) = 0
        · exact hz
        · have h10 := (h3.2 hz).2
          rcases hd.2.2.2.2.2.2 (m + 2) (by omega) with z | z
          · exact z.1
          · obtain ⟨ef, et, rf', rt', z1, z2, z3, z4, z5, z6, z7, z8, z9, z10, z11, z12⟩ := z
            rw [z9, z10, n_mvn] at h10
            rw [show m + 1 + 1 = m + 2 from rfl, h10] at h9
            exact absurd h9 (n_m1' (by omega))
      · intro hz
        exact (h3.1 hz).2
    · have hm59 : m = 59 := by omega
      subst hm59
      exact ⟨fun _ => hk.2.1, fun _ => a_out (by omega) (by omega)⟩
  rw [hpr]
  refine ⟨fun h5 => ⟨fun h9 => ?_, fun h9 => q2 (fun q => h9 q.2.2.2)⟩, fun h5 => q2 (fun q => h5 q.2.2.1)⟩
  have may : o_mayp r p n m L := ⟨hO, hT, h5, h9⟩
  have q3 := q3 may
  have q4 := q4 may
  clear q2
  have hS : q_fr S S (e + 36) 5 := ⟨rfl, fun _ _ => rfl⟩
  have amn : ¬ o_moves r p n (Int32.ofNat (1 - p)) f t = true → Q (.inl (some (ev_i 3))) S := fun hn => q3 (fun hh => by
    unfold o_ams at hh
    rw [Bool.and_eq_true] at hh
    exact hn hh.1) S hS
  refine ⟨fun h10 => ?_, fun h10 => amn (fun hh => h10 (o_moves_f hh).1)⟩
  refine b_reach (b := e + 1 + 9 * p + 1) h4 h8 (by omega) (by omega) hi.1.1.1 hdk'.2.1 _ ⟨_, rfl, ?_⟩
  rw [h10]
  refine ⟨fun hM => ?_, amn⟩
  have hft := (o_moves_f hM).2
  have key := o_ams_eq hp2 h4 hd hm hlt hf2 ht2 hrf2 hrt2 hO hM
  rw [n_mvn]
  refine b_copy (a := e + 36) (b := e + 1 + 9 * p + 1) (by omega) (fun z zz => ⟨rfl, ?_⟩)
  have hb : q_board z.1 (e + 36) r p n m := b_shift (M := S.1) (a := e + 1 + 9 * p + 1) (by omega) (fun y y' c k h1 h2 h3 h4 => by rw [h1, h2]; exact zz.2 c k h3 h4) hdk'.2.1
  refine b_play (by omega) hp2 h8 hf2 ht2 hft (hi.2.2 p hp2).1 hm hb (fun w ww wb => ⟨rfl, ?_⟩)
  have fr : q_fr S w (e + 36) 5 := q_fr_trans zz.1 ww
  rw [b_fin h8 wb]
  refine ⟨fun c1 => q3 (fun hh => (key.mp hh).1 c1) w fr, fun c1 => ?_⟩
  have ew : w.1 (e + 37) rf = o_apply r p m f t (26 + 64 * p + rf) := wb.1 rf (by omega)
  rw [a_in (by omega) (by omega), ew]
  refine ⟨fun c2 => ?_, fun c2 => q3 (fun hh => c2 (o_moves_f (key.mp hh).2).1) w fr⟩
  have en : o_apply r p m f t 0 = Int32.ofNat n := by rw [o_apply_own (by omega) (by omega) (by omega) (fun hh => by unfold o_own at hh; omega)]; exact hi.1.1.1
  refine b_reach (b := e + 36) h4 h8 (by omega) (by omega) en wb _ ⟨_, rfl, ?_⟩
  rw [c2]
  exact ⟨fun c3 => q4 (key.mpr ⟨c1, c3⟩) w fr, fun c3 => q3 (fun hh => c3 (key.mp hh).2) w fr⟩
theorem x_promise {g : ev_G} {S : ev_S} {b n lim np L d u : Nat} {x0 x1 x2 x3 x4 x5 : Int32} {r R : Nat → Int32} {ρ : List Nat} (hi : IG r n lim np L d ρ) (hL : L ≤ 80) (hd : d < 10000) (hg : q_gm S.1 (b + 11) r n L ρ) (hk : i_ok r n np L) (hh : q_his S.1 (b + 93) R u) {Q : ev_O → ev_S → Prop}
    (q1 : (¬ ∃ p q f t rf rt, k_prm n np x0 x1 x2 x3 x4 x5 p q f t rf rt) → Q (.inr 0) S)
    (q2 : ∀ p q f t rf rt, k_prm n np x0 x1 x2 x3 x4 x5 p q f t rf rt → ¬ o_mayp r p n (o_mad r p) L → Q (.inr 1) S)
    (q3 : ∀ p q f t rf rt, k_prm n np x0 x1 x2 x3 x4 x5 p q f t rf rt → o_mayp r p n (o_mad r p) L → ¬ o_ams r p n (o_mad r p) f t rf rt = true → ∀ z, q_fr S z (b + 47) 5 → Q (.inr 2) z)
    (q4 : ∀ p q f t rf rt, k_prm n np x0 x1 x2 x3 x4 x5 p q f t rf rt → o_mayp r p n (o_mad r p) L → o_ams r p n (o_mad r p) f t rf rt = true → ∀ z, q_fr S z (b + 11) 412 → (∀ q, b + 52 ≤ q → q < b + 93 → z.1 q = S.1 q) → q_any z.1 (b + 11) (o_prom r p q (o_mad r p + 2) f t rf rt L) → q_his z.1 (b + 93) (o_kp R r u) (o_ku u) → Q (.inl (some (ev_i (Int32.ofNat (o_mad r p + 2))))) z) :
    ev_Cv g m_X9_promise 6 1 [ev_o 9 b, ev_i x0, ev_i x1, ev_i x2, ev_i x3, ev_i x4, ev_i x5] S Q := by
  refine sg_X9_promise_0 b x0 x1 x2 x3 x4 x5 ?_
  refine b_promiseFault (e := b + 11) hi hL hk hg (fun h => ⟨_, rfl, j_pos rfl (q1 h)⟩) (fun p q f t rf rt h0 h => ⟨_, rfl, j_neg (by decide) (j_pos rfl (q2 p q f t rf rt h0 h))⟩) (fun p q f t rf rt h0 h h' z zz => ⟨_, rfl, j_neg (by decide) (j_neg (by decide) (j_pos rfl (q3 p q f t rf rt h0 h h' z zz)))⟩) (fun p q f t rf rt h0 h h' z zz => ⟨_, rfl, j_neg (by decide) (j_neg (by decide) (j_neg (by decide) ?_))⟩)
  have q4 := q4 p q f t rf rt h0 h h'
  obtain ⟨⟨y0, p2⟩, ⟨y1, p3⟩, ⟨y2, p4⟩, ⟨y3, p5⟩, ⟨y4, p6⟩, ⟨y5, p7⟩⟩ := h0
  obtain ⟨hm, hml, h60⟩ := n_mad (i_dk_of hi.1 p2)
  obtain ⟨hlt, hk1, hk2⟩ := o_mayp_k p2 hi hm hml h
  obtain ⟨k1, k2, k3⟩ := o_ams_k (i_dk_of hi.1 p2) hlt h'
  have hgz := q_gm_frame (M := S.1) (M' := z.1) (fun q h1 h2 => zz.2 q (by omega)) hg
  have hhz : q_his z.1 (b + 93) R u := q_his_frame (fun y h1 => zz.2 y (by omega)) hh
  refine h_remember (a := b + 93) (b := b + 11) (by omega) hhz ⟨n, lim, np, L, d, ρ, hi, hL, hd, hgz, hk⟩ (fun y yy y2' => ⟨rfl, ?_⟩)
  have hgy := q_gm_frame (M := z.1) (M' := y.1) (fun q h1 h2 => yy.2 q (by omega)) hgz
  rw [y0, y1, y2, y3, y4, y5, n_mvn, n_mvn]
  refine g_promise p2 p3 p4 p5 p6 p7 hi hm hml h h' hgy (fun w w1 w2 => ⟨_, rfl, ?_⟩)
  exact q4 w ⟨w1.1.trans (yy.1.trans zz.1), fun x hx => by rw [w1.2 x (by omega), yy.2 x (by omega), zz.2 x (by omega)]⟩ (fun x h1 h2 => by rw [w1.2 x (by omega), yy.2 x (by omega), zz.2 x (by omega)]) ⟨n, lim, np, L + 1, d, ρ, IG_prom p2 p3 p4 p5 p6 p7 hi hm hml h h', by have := h.2.2.2; omega, hd, w2, i_ok_prom (by omega) hk⟩ (q_his_frame (fun x h1 => w1.2 x (by omega)) y2')
