/-! ===== the law begins: bishops, passes, snow ===== -/
theorem n_pm (a : Nat) : Int32.ofNat (a + 1) + (-1) = Int32.ofNat a := by
  have := n_dec (a + 1) (by omega)
  rw [Int32.sub_eq_add_neg] at this
  exact this
theorem BG_re {g : ev_G} {S0 T S : ev_S} {a w : Nat} {t : List Nat} (h : BG g S0 T S a w t) : BG g S0 S S a w t := ⟨h.1, h.2.1, fun _ _ => rfl, h.2.2.2⟩
theorem BG_tx {g : ev_G} {S0 T S : ev_S} {a w : Nat} {t t' : List Nat} (h : BG g S0 T S a w t) (e : t = t') : BG g S0 T S a w t' := e ▸ h
theorem OP_lay {M M' : Nat → Nat → Int32} {a np p q : Nat} {r : Nat → Int32} (hp : p < 2) (hq : q < 64) (f : ∀ x, x ≠ a → x ≠ a + 3 → x ≠ a + 10 → M' x = M x) (fa : ∀ j, j ≠ 9 → M' a j = M a j) (f3 : M' (a + 3) = upd (M (a + 3)) q (Int32.ofNat p)) (f10 : M' (a + 10) = upd (M (a + 10)) q (Int32.ofNat p)) (h : OP M a r np) : OP M' a (o_lay r p q) np := by
  obtain ⟨⟨h1, h2, h3, h4⟩, h5, h6, h7, h8⟩ := h
  have e : ∀ j, (j < 9 ∨ (11 ≤ j ∧ j < 26) ∨ 154 ≤ j) → o_lay r p q j = r j := fun j hj => o_lay_at (by omega) (by omega) (by omega)
  refine ⟨⟨by rw [fa 0 (by omega), e 0 (by omega)]; exact h1, by rw [fa 1 (by omega), e 1 (by omega)]; exact h2, by rw [fa 3 (by omega)]; exact h3, fun j j1 j2 j3 j4 j5 => by rw [fa j j4]; exact h4 j j1 j2 j3 j4 j5⟩, fun x x1 x2 x3 x4 x5 x6 x7 x8 x9 => by rw [f _ (by omega) (by omega) (by omega)]; exact h5 x x1 x2 x3 x4 x5 x6 x7 x8 x9, fun s hs => ?_, fun n hn => by rw [f _ (by omega) (by omega) (by omega), f (a + 13) (by omega) (by omega) (by omega)]; exact h7 n hn, ?_⟩
  · obtain ⟨a1, a2⟩ := h6 s hs
    rw [f3, f10]
    by_cases hsq : s = q
    · subst hsq
      rw [u_s, u_s]
      have k0 := o_lay_sq (r := r) (t := 0) hp hs (by omega)
      have k1 := o_lay_sq (r := r) (t := 1) hp hs (by omega)
      rw [show 26 + 64 * 0 + s = 26 + s by omega] at k0
      rw [show 26 + 64 * 1 + s = 90 + s by omega] at k1
      rw [k0, k1]
      exact ⟨rfl, rfl⟩
    · rw [u_k hsq, u_k hsq, o_lay_at (by omega) (by omega) (by omega), o_lay_at (by omega) (by omega) (by omega)]
      exact ⟨a1, a2⟩
  · exact w_ps_row (fun j j1 j2 => e j (by omega)) (w_ps_fr (fun x x1 x2 => f x (by omega) (by omega) (by omega)) h8)
theorem OP_open {M M' : Nat → Nat → Int32} {a np k : Nat} {v0 v1 v2 : Int32} {r : Nat → Int32} (hk : k < 4) (f : ∀ x, x ≠ a → x ≠ a + 16 → x ≠ a + 17 → M' x = M x) (fa : ∀ j, j ≠ 10 → M' a j = M a j) (f16 : M' (a + 16) = upd (M (a + 16)) k v0) (f17 : M' (a + 17) = upd (upd (M (a + 17)) (2 * k) v1) (2 * k + 1) v2) (h : OP M a r np) : OP M' a (o_open r k v0 v1 v2) np := by
  obtain ⟨⟨h1, h2, h3, h4⟩, h5, h6, h7, h8⟩ := h
  obtain ⟨g0, g1, g2, g11, g3⟩ := o_open_f (r := r) (np := k) (v0 := v0) (v1 := v1) (v2 := v2)
  have e : ∀ j, (j < 1140 + 15 * k ∨ 1140 + 15 * k + 2 < j) → j ≠ 11 → j ≠ 3 → o_open r k v0 v1 v2 j = r j := fun j h h1 h3 => o_open_at h h1 h3
  refine ⟨⟨by rw [fa 0 (by omega), e 0 (by omega) (by omega) (by omega)]; exact h1, by rw [fa 1 (by omega), e 1 (by omega) (by omega) (by omega)]; exact h2, by rw [fa 3 (by omega)]; exact h3, fun j j1 j2 j3 j4 j5 => by rw [fa j j5]; exact h4 j j1 j2 j3 j4 j5⟩, fun x x1 x2 x3 x4 x5 x6 x7 x8 x9 => by rw [f _ (by omega) (by omega) (by omega)]; exact h5 x x1 x2 x3 x4 x5 x6 x7 x8 x9, fun s hs => by rw [f _ (by omega) (by omega) (by omega), f (a + 10) (by omega) (by omega) (by omega), e _ (by omega) (by omega) (by omega), e (90 + s) (by omega) (by omega) (by omega)]; exact h6 s hs, fun n hn => by rw [f _ (by omega) (by omega) (by omega), f (a + 13) (by omega) (by omega) (by omega)]; exact h7 n hn, fun q hq => ?_⟩
  obtain ⟨b1, b2, b3⟩ := h8 q hq
  rw [f16, f17, f (a + 18) (by omega) (by omega) (by omega)]
  by_cases hqk : q = k
  · subst hqk
    refine ⟨by rw [u_s, g0], fun s hs => ?_, fun t ht => by rw [e _ (by omega) (by omega) (by omega)]; exact b3 t ht⟩
    have hs' : s = 0 ∨ s = 1 := by omega
    rcases hs' with rfl | rfl
    · rw [u_k (by omega)]
      show upd (M (a + 17)) (2 * q) v1 (2 * q) = _
      rw [u_s]
      exact g1.symm
    · rw [u_s]
      exact g2.symm
  · refine ⟨by rw [u_k hqk, e _ (by omega) (by omega) (by omega)]; exact b1, fun s hs => by rw [u_k (by omega), u_k (by omega), e _ (by omega) (by omega) (by omega)]; exact b2 s hs, fun t ht => by rw [e _ (by omega) (by omega) (by omega)]; exact b3 t ht⟩
theorem OP_snow {M M' : Nat → Nat → Int32} {a np q t : Nat} {v : Int32} {r : Nat → Int32} (hq : q < 4) (ht : t < 12) (f : ∀ x, x ≠ a + 18 → M' x = M x) (f18 : M' (a + 18) = upd (M (a + 18)) (12 * q + t) v) (h : OP M a r np) : OP M' a (o_snow r q t v) np := by
  obtain ⟨⟨h1, h2, h3, h4⟩, h5, h6, h7, h8⟩ := h
  have e : ∀ j, j ≠ 1140 + 15 * q + (3 + t) → o_snow r q t v j = r j := fun j hj => u_k hj
  have es : o_snow r q t v (1140 + 15 * q + (3 + t)) = v := u_s _ _ _
  refine ⟨⟨by rw [f a (by omega), e 0 (by omega)]; exact h1, by rw [f a (by omega), e 1 (by omega)]; exact h2, by rw [f a (by omega)]; exact h3, fun j j1 j2 j3 j4 j5 => by rw [f a (by omega)]; exact h4 j j1 j2 j3 j4 j5⟩, fun x x1 x2 x3 x4 x5 x6 x7 x8 x9 => by rw [f _ (by omega)]; exact h5 x x1 x2 x3 x4 x5 x6 x7 x8 x9, fun s hs => by rw [f _ (by omega), f (a + 10) (by omega), e _ (by omega), e (90 + s) (by omega)]; exact h6 s hs, fun n hn => by rw [f _ (by omega), f (a + 13) (by omega)]; exact h7 n hn, fun q' hq' => ?_⟩
  obtain ⟨b1, b2, b3⟩ := h8 q' hq'
  rw [f (a + 16) (by omega), f (a + 17) (by omega), f18]
  refine ⟨by rw [e _ (by omega)]; exact b1, fun s hs => by rw [e _ (by omega)]; exact b2 s hs, fun t' ht' => ?_⟩
  by_cases hc : 12 * q' + t' = 12 * q + t
  · have hc2 : 1140 + 15 * q' + (3 + t') = 1140 + 15 * q + (3 + t) := by omega
    rw [hc, u_s, hc2, es]
  · rw [u_k hc, e _ (by omega)]
    exact b3 t' ht'
/-- the bishops so far -/
def BC (g : ev_G) (S0 S : ev_S) (a w N lim np k : Nat) (r : Nat → Int32) (t : List Nat) (bs : List (Nat × Nat)) : Prop :=
  BG g S0 S S a w t ∧ (t = tx_h N lim ++ tx_bs N bs ∧ r = o_lays (o_gm0 (fun _ => 0) N lim) bs) ∧ (OP S.1 a r np ∧ i_su r N lim 0 ∧ EJ r N 0) ∧ tx_bok N (o_gm0 (fun _ => 0) N lim) bs ∧ (bs.length ≤ k ∧ o_bish r 0 N 0 ≤ (k + 1) / 2 ∧ o_bish r 0 N 1 ≤ k / 2) ∧ t.length ≤ 10 + 13 * k ∧ ∀ c, c ∈ t → 0 < c ∧ c < 128
set_option maxHeartbeats 4000000 in
set_option maxRecDepth 100000 in
theorem w_begB {g : ev_G} {S0 : ev_S} {a k2 w N lim np B : Nat} {Q : ev_O → ev_S → Prop} (hsl : ev_sl g < 2147483648) (h4 : 4 ≤ N) (h8 : N ≤ 8) (hQ : ∀ z r t bs, BC g S0 z a w N lim np 12 r t bs → ev_E g m_L_begins 9 (B + 707) 295 [some (ev_o 9 (ev_b g)), some (ev_o 11 a), some (ev_x 0 k2), some (ev_o 12 w), some (ev_i (Int32.ofNat 0)), none, none] [] z Q) : ∀ (n k : Nat) (S : ev_S) (B' : Nat) (r : Nat → Int32) (t : List Nat) (bs : List (Nat × Nat)), k + n = 12 → B + 707 * (n + 1) ≤ B' → BC g S0 S a w N lim np k r t bs → ev_E g m_L_begins 9 B' 150 [some (ev_o 9 (ev_b g)), some (ev_o 11 a), some (ev_x 0 k2), some (ev_o 12 w), some (ev_i (Int32.ofNat k)), none, none] [] S Q := by
  have e12 : (12 : Int32) = Int32.ofNat 12 := rfl
  have hNN : 16 ≤ N * N := Nat.mul_le_mul h4 h4
  have hn9 := sq_le h8
  intro n
  induction n with
  | zero =>
    intro k S B' r t bs hk hB' h
    have : k = 12 := by omega
    subst this
    obtain ⟨B2, rfl⟩ : ∃ B2, B' = B2 + 707 := ⟨B' - 707, by omega⟩
    exact sg_L_begins_150 (ev_b g) a k2 w _ (j_pos (by rw [e12, n_le (by omega) (by omega)] <;> omega) (ev_E.more (by omega) (hQ S r t bs h)))
  | succ n ih =>
    intro k S B' r t bs hk hB' h
    have hh := h
    obtain ⟨hB, ⟨rfl, hr⟩, ⟨hO, hi, hj⟩, hok, ⟨hbl, hb0, hb1⟩, hl, hc⟩ := h
    obtain ⟨B2, rfl⟩ : ∃ B2, B' = B2 + 707 := ⟨B' - 707, by omega⟩
    refine sg_L_begins_150 (ev_b g) a k2 w _ (j_neg (by rw [e12, n_le (by omega) (by omega)] <;> omega) ?_)
    have e3 : (3 : Int32) + Int32.ofNat k = Int32.ofNat (3 + k) := n_add 3 k
    have s0 : S.1 a 0 = Int32.ofNat N := hO.1.1.trans hi.2.1.1
    obtain ⟨q, hq, hqN⟩ := n_pick (f_L_cell g k2 (Int32.ofNat (3 + k))) (n := N * N) (by omega) (by omega)
    rw [e3, s0, n_mul, hq, n_rem2 (by omega), n_c (by omega), n_inc, (hO.2.2.1 q (by omega)).1]
    refine ⟨id, w_cellc hsl _ (by omega), by rw [n_z (by omega)]; omega, (n_vp (by omega) (by omega)).mpr trivial, ?_⟩
    have hb := hi.2.2.2.2.2.2 q (by omega)
    rcases hb.2 with hv | ⟨-, hv⟩
    rotate_left
    · refine j_neg (by rcases hv with hv | hv <;> rw [hv] <;> decide) (ih (k + 1) S _ r _ bs (by omega) (by omega) ⟨hB, ⟨rfl, hr⟩, ⟨hO, hi, hj⟩, hok, ⟨by omega, by omega, by omega⟩, by omega, hc⟩)
    refine j_pos (by rw [hv]; decide) ?_
    intro S1 x1 S2 x2 S3 x3
    have hp : k % 2 < 2 := Nat.mod_lt _ (by decide)
    have hd : q / N < N := Nat.div_lt_of_lt_mul hqN
    have hm : q % N < N := Nat.mod_lt _ (by omega)
    have l11 : (jb_lit 11).length = 7 := rfl
    have hl2 := hl
    rw [List.length_append] at hl2
    have l1 := jb_dec_1 (k % 2) (by omega)
    have l2 := jb_dec_1 (q / N) (by omega)
    have l3 := jb_dec_1 (q % N) (by omega)
    have fS : ∀ x, x ≠ a → x ≠ a + 3 → x ≠ a + 10 → S3.1 x = S.1 x := fun x c1 c2 c3 => by rw [x3, m_r c1, x2, m_r c3, x1, m_r c2]
    have fa : ∀ j, j ≠ 9 → S3.1 a j = S.1 a j := fun j hj => by rw [x3, m_k hj, x2, m_r (by omega), x1, m_r (by omega)]
    have f3 : S3.1 (a + 3) = upd (S.1 (a + 3)) q (Int32.ofNat (k % 2)) := by rw [x3, m_r (by omega), x2, m_r (by omega), x1, m_u, r_s]
    have f10 : S3.1 (a + 10) = upd (S.1 (a + 10)) q (Int32.ofNat (k % 2)) := by rw [x3, m_r (by omega), x2, m_u, r_s, x1, m_r (by omega)]
    have e0 : S3.1 a 0 = Int32.ofNat N := (fa 0 (by omega)).trans s0
    have hB3 : BG g S0 S3 S3 a w (tx_h N lim ++ tx_bs N bs) := BG_own hB (by rw [x3, x2, x1]; rfl) (fun c hc => fS c (by omega) (by omega) (by omega))
    refine bg_S hB3 (by omega) (by omega) (by omega) (fun z1 k1 => ?_)
    refine bg_I k1 rfl (by omega) (by simp only [List.length_append, l11, l1]; omega) (fun z2 k2 => ?_)
    refine bg_C (c := 32) k2 rfl (by omega) (by simp only [List.length_append, l11, l1]; omega) (fun z3 k3 => ?_)
    rw [BG_0 k3, e0, n_divc (by omega) (by omega) (by omega)]
    refine ⟨by rw [n_z (by omega)]; omega, ?_⟩
    refine bg_I k3 rfl (by omega) (by simp only [List.length_append, List.length_cons, List.length_nil, l11, l1, l2]; omega) (fun z4 k4 => ?_)
    refine bg_C (c := 32) k4 rfl (by omega) (by simp only [List.length_append, List.length_cons, List.length_nil, l11, l1, l2]; omega) (fun z5 k5 => ?_)
    rw [BG_0 k5, e0, n_remc (by omega) (by omega) (by omega)]
    refine ⟨by rw [n_z (by omega)]; omega, ?_⟩
    refine bg_I k5 rfl (by omega) (by simp only [List.length_append, List.length_cons, List.length_nil, l11, l1, l2, l3]; omega) (fun z6 k6 => ?_)
    refine bg_C (c := 59) k6 rfl (by omega) (by simp only [List.length_append, List.length_cons, List.length_nil, l11, l1, l2, l3]; omega) (fun z7 k7 => ?_)
    have et : tx_h N lim ++ tx_bs N (bs ++ [(k % 2, q)]) = (tx_h N lim ++ tx_bs N bs) ++ tx3 2 (k % 2) (q / N) (q % N) := by rw [tx_bs_app, List.append_assoc]
    have k7' := BG_tx k7 (tx3_app (k := 2))
    rw [← et] at k7'
    have er : o_lays (o_gm0 (fun _ => 0) N lim) (bs ++ [(k % 2, q)]) = o_lay r (k % 2) q := by rw [o_lays_app, ← hr]
    have he : ∀ t, t < 2 → r (26 + 64 * t + q) = -1 := fun t ht => by
      have ht' : t = 0 ∨ t = 1 := by omega
      rcases ht' with rfl | rfl
      · rw [show 26 + 64 * 0 + q = 26 + q by omega]; exact hv
      · rw [show 26 + 64 * 1 + q = 90 + q by omega, hb.1]; exact hv
    have he0 : r (26 + 64 * 0 + q) = -1 := he 0 (by omega)
    have c0 := o_bish_lay (r := r) (t := 0) 0 hp (by omega) h8 hqN he0 (by decide)
    have c1 := o_bish_lay (r := r) (t := 0) 1 hp (by omega) h8 hqN he0 (by decide)
    have hk2 : k % 2 = 0 ∨ k % 2 = 1 := by omega
    refine ih (k + 1) z7 B2 (o_lay r (k % 2) q) _ (bs ++ [(k % 2, q)]) (by omega) (by omega) ⟨BG_re k7', ⟨rfl, er.symm⟩, ⟨OP_fr k7.2.2.1 (OP_lay hp (by omega) fS fa f3 f10 hO), i_su_lay hp hqN hi, EJ_lay hp h8 (by omega) hqN he hj⟩, tx_bok_app bs _ hok ⟨hp, hqN, by rw [← hr]; exact hv, ?_⟩, ⟨by rw [List.length_append, List.length_cons, List.length_nil]; omega, ?_, ?_⟩, ?_, ?_⟩
    · rw [← hr]
      show o_bish r 0 N (Int32.ofNat (k % 2)) < 8
      rcases hk2 with h9 | h9
      · rw [h9]
        have : o_bish r 0 N (Int32.ofNat 0) ≤ (k + 1) / 2 := hb0
        omega
      · rw [h9]
        have : o_bish r 0 N (Int32.ofNat 1) ≤ k / 2 := hb1
        omega
    · rw [c0]
      rcases hk2 with h9 | h9
      · rw [h9, if_pos (show Int32.ofNat 0 = 0 from rfl)]; omega
      · rw [h9, if_neg (show ¬ Int32.ofNat 1 = 0 by decide)]; omega
    · rw [c1]
      rcases hk2 with h9 | h9
      · rw [h9, if_neg (show ¬ Int32.ofNat 0 = 1 by decide)]; omega
      · rw [h9, if_pos (show Int32.ofNat 1 = 1 from rfl)]; omega
    · rw [et, List.length_append, tx3_len (by omega) (by omega) (by omega)]
      show _ + (7 + 6) ≤ _
      omega
    · rw [et]
      intro c hc'
      rcases List.mem_append.mp hc' with h9 | h9
      · exact hc c h9
      · exact tx3_ch (by omega) (by omega) (by omega) (by omega) c h9
/-- the passes so far -/
def BD (g : ev_G) (S0 S : ev_S) (a w N lim np k : Nat) (r0 r : Nat → Int32) (t0 t : List Nat) (ps : List (Nat × (Nat × Nat))) : Prop :=
  BG g S0 S S a w t ∧ (t = t0 ++ tx_ps ps ∧ r = o_opens r0 ps) ∧ (OP S.1 a r np ∧ i_su r N lim k ∧ EJ r N k) ∧ tx_pok ps ∧ ps.length = k ∧ t.length ≤ 166 + 11 * k ∧ ∀ c, c ∈ t → 0 < c ∧ c < 128
set_option maxHeartbeats 4000000 in
set_option maxRecDepth 100000 in
theorem w_begP {g : ev_G} {S0 : ev_S} {a k2 w N lim np B : Nat} {r0 : Nat → Int32} {t0 : List Nat} {Q : ev_O → ev_S → Prop} (hsl : ev_sl g < 2147483648) (h8 : N ≤ 8) (hnp : np ≤ 4) (hQ : ∀ z r t ps m, m < 8 → BD g S0 z a w N lim np np r0 r t0 t ps → ev_E g m_L_begins 9 (B + 707) 474 [some (ev_o 9 (ev_b g)), some (ev_o 11 a), some (ev_x 0 k2), some (ev_o 12 w), some (ev_i (Int32.ofNat m)), none, none] [] z Q) : ∀ (n k : Nat) (S : ev_S) (B' : Nat) (r : Nat → Int32) (t : List Nat) (ps : List (Nat × (Nat × Nat))), k + n = np → B + 707 * (n + 1) ≤ B' → BD g S0 S a w N lim np k r0 r t0 t ps → ev_E g m_L_begins 9 B' 295 [some (ev_o 9 (ev_b g)), some (ev_o 11 a), some (ev_x 0 k2), some (ev_o 12 w), some (ev_i (Int32.ofNat k)), none, none] [] S Q := by
  intro n
  induction n with
  | zero =>
    intro k S B' r t ps hk hB' h
    have : k = np := by omega
    subst this
    obtain ⟨B2, rfl⟩ : ∃ B2, B' = B2 + 707 := ⟨B' - 707, by omega⟩
    have s3 : S.1 a 3 = Int32.ofNat k := h.2.2.1.1.1.2.2.1
    refine sg_L_begins_295 (ev_b g) a k2 w _ ?_
    rw [s3]
    obtain ⟨m, hm, hm8⟩ := n_pick (f_L_cell g k2 29) (n := 8) (by decide) (by decide)
    have hm' : ev_rem ((f_L_cell g k2 29) &&& 65535) 8 = Int32.ofNat m := hm
    refine j_pos (by rw [n_le (by omega) (by omega)] <;> omega) ⟨id, w_cellc hsl 29 (by omega), by decide, ?_⟩
    rw [hm']
    exact ev_E.more (by omega) (hQ S r t ps m hm8 h)
  | succ n ih =>
    intro k S B' r t ps hk hB' h
    obtain ⟨hB, ⟨rfl, hr⟩, ⟨hO, hi, hj⟩, hok, hpl, hl, hc⟩ := h
    obtain ⟨B2, rfl⟩ : ∃ B2, B' = B2 + 707 := ⟨B' - 707, by omega⟩
    have s3 : S.1 a 3 = Int32.ofNat np := hO.1.2.2.1
    refine sg_L_begins_295 (ev_b g) a k2 w _ ?_
    have e3 : (3 : Int32) * Int32.ofNat k = Int32.ofNat (3 * k) := n_mul 3 k
    have e2 : (2 : Int32) * Int32.ofNat k = Int32.ofNat (2 * k) := n_mul 2 k
    have e16 : (16 : Int32) + Int32.ofNat (3 * k) = Int32.ofNat (16 + 3 * k) := n_add 16 _
    have e17 : (17 : Int32) + Int32.ofNat (3 * k) = Int32.ofNat (17 + 3 * k) := n_add 17 _
    have e18 : (18 : Int32) + Int32.ofNat (3 * k) = Int32.ofNat (18 + 3 * k) := n_add 18 _
    obtain ⟨m1, h1, hm1⟩ := n_pick (f_L_cell g k2 (Int32.ofNat (16 + 3 * k))) (n := 5) (by decide) (by decide)
    obtain ⟨m2, h2, hm2⟩ := n_pick (f_L_cell g k2 (Int32.ofNat (17 + 3 * k))) (n := 3) (by decide) (by decide)
    obtain ⟨m3, h3, hm3⟩ := n_pick (f_L_cell g k2 (Int32.ofNat (18 + 3 * k))) (n := 3) (by decide) (by decide)
    have h1' : ev_rem ((f_L_cell g k2 (Int32.ofNat (16 + 3 * k))) &&& 65535) 5 = Int32.ofNat m1 := h1
    have h2' : ev_rem ((f_L_cell g k2 (Int32.ofNat (17 + 3 * k))) &&& 65535) 3 = Int32.ofNat m2 := h2
    have h3' : ev_rem ((f_L_cell g k2 (Int32.ofNat (18 + 3 * k))) &&& 65535) 3 = Int32.ofNat m3 := h3
    have ea : (1 : Int32) + Int32.ofNat m1 = Int32.ofNat (1 + m1) := n_add 1 m1
    have e21 : Int32.ofNat (2 * k) + 1 = Int32.ofNat (2 * k + 1) := n_inc _
    have ek : Int32.ofNat k + 1 = Int32.ofNat (k + 1) := n_inc k
    rw [s3]
    refine j_neg (by rw [n_le (by omega) (by omega)] <;> omega) ?_
    rw [e3, e2, e16, e17, e18, h1', h2', h3', ea, e21, n_c (n := k) (by omega), n_c (n := 2 * k) (by omega), n_c (n := 2 * k + 1) (by omega), ek]
    refine ⟨id, w_cellc hsl _ (by omega), by decide, (n_vp (by omega) (by omega)).mpr trivial, ?_⟩
    intro S1 x1
    refine ⟨w_cellc hsl _ (by omega), by decide, (n_vp (by omega) (by omega)).mpr trivial, ?_⟩
    intro S2 x2
    refine ⟨w_cellc hsl _ (by omega), (n_vp (by omega) (by omega)).mpr trivial, ?_⟩
    intro S3 x3 S4 x4
    have l12 : (jb_lit 12).length = 5 := rfl
    have hl2 := hl
    rw [List.length_append] at hl2
    have l1 := jb_dec_1 (1 + m1) (by omega)
    have l2 := jb_dec_1 m2 (by omega)
    have l3 := jb_dec_1 m3 (by omega)
    have fS : ∀ x, x ≠ a → x ≠ a + 16 → x ≠ a + 17 → S4.1 x = S.1 x := fun x c1 c2 c3 => by rw [x4, m_r c1, x3, m_r c3, x2, m_r c3, x1, m_r c2]
    have fa : ∀ j, j ≠ 10 → S4.1 a j = S.1 a j := fun j hj => by rw [x4, m_k hj, x3, m_r (by omega), x2, m_r (by omega), x1, m_r (by omega)]
    have f16 : S4.1 (a + 16) = upd (S.1 (a + 16)) k (Int32.ofNat (1 + m1)) := by rw [x4, m_r (by omega), x3, m_r (by omega), x2, m_r (by omega), x1, m_u, r_s]
    have f17 : S4.1 (a + 17) = upd (upd (S.1 (a + 17)) (2 * k) (Int32.ofNat m2)) (2 * k + 1) (Int32.ofNat m3) := by rw [x4, m_r (by omega), x3, m_u, r_s, x2, m_u, r_s, x1, m_r (by omega)]
    have hB4 : BG g S0 S4 S4 a w (t0 ++ tx_ps ps) := BG_own hB (by rw [x4, x3, x2, x1]; rfl) (fun c hc => fS c (by omega) (by omega) (by omega))
    refine bg_S hB4 (by omega) (by omega) (by omega) (fun z1 k1 => ?_)
    refine bg_I (x := 1 + m1) k1 (by rw [k1.2.2.1 16 (by omega), f16, u_s]) (by omega) (by simp only [List.length_append, l12, l1]; omega) (fun z2 k2 => ?_)
    refine bg_C (c := 32) k2 rfl (by omega) (by simp only [List.length_append, l12, l1]; omega) (fun z3 k3 => ?_)
    refine bg_I (x := m2) k3 (by rw [k3.2.2.1 17 (by omega), f17, u_k (by omega), u_s]) (by omega) (by simp only [List.length_append, List.length_cons, List.length_nil, l12, l1, l2]; omega) (fun z4 k4 => ?_)
    refine bg_C (c := 32) k4 rfl (by omega) (by simp only [List.length_append, List.length_cons, List.length_nil, l12, l1, l2]; omega) (fun z5 k5 => ?_)
    refine bg_I (x := m3) k5 (by rw [k5.2.2.1 17 (by omega), f17, u_s]) (by omega) (by simp only [List.length_append, List.length_cons, List.length_nil, l12, l1, l2, l3]; omega) (fun z6 k6 => ?_)
    refine bg_C (c := 59) k6 rfl (by omega) (by simp only [List.length_append, List.length_cons, List.length_nil, l12, l1, l2, l3]; omega) (fun z7 k7 => ?_)
    have et : t0 ++ tx_ps (ps ++ [(1 + m1, (m2, m3))]) = (t0 ++ tx_ps ps) ++ tx3 3 (1 + m1) m2 m3 := by rw [tx_ps_app, List.append_assoc]
    have k7' := BG_tx k7 (tx3_app (k := 3))
    rw [← et] at k7'
    have hnr : o_np r = k := by
      unfold o_np
      rw [hi.2.1.2.2, n_c (by omega)]
    have er : o_opens r0 (ps ++ [(1 + m1, (m2, m3))]) = o_open r k (Int32.ofNat (1 + m1)) (Int32.ofNat m2) (Int32.ofNat m3) := by rw [o_opens_app, ← hr, hnr]
    refine ih (k + 1) z7 B2 (o_open r k (Int32.ofNat (1 + m1)) (Int32.ofNat m2) (Int32.ofNat m3)) _ (ps ++ [(1 + m1, (m2, m3))]) (by omega) (by omega) ⟨BG_re k7', ⟨rfl, er.symm⟩, ⟨OP_fr k7.2.2.1 (OP_open (by omega) fS fa f16 f17 hO), i_su_open (by omega) ?_ ?_ hi, EJ_open h8 (by omega) (by omega) (by omega) hj⟩, tx_pok_app ps hok ⟨(by omega : 1 ≤ 1 + m1), (by omega : 1 + m1 ≤ 9), (by omega : m2 ≤ 9), (by omega : m3 ≤ 9)⟩, by rw [List.length_append, List.length_cons, List.length_nil]; omega, ?_, ?_⟩
    · rw [show (1 : Int32) = Int32.ofNat 1 from rfl, n_le (by omega) (by omega)]
      omega
    · rw [show (9 : Int32) = Int32.ofNat 9 from rfl, n_le (by omega) (by omega)]
      omega
    · rw [et, List.length_append, tx3_len (by omega) (by omega) (by omega)]
      show _ + (5 + 6) ≤ _
      omega
    · rw [et]
      intro c hc'
      rcases List.mem_append.mp hc' with h9 | h9
      · exact hc c h9
      · exact tx3_ch (by omega) (by omega) (by omega) (by omega) c h9
/-- the snow so far -/
def BE (g : ev_G) (S0 S : ev_S) (a w N lim np k : Nat) (r1 r : Nat → Int32) (t1 t : List Nat) (ss : List (Nat × (Nat × Nat))) : Prop :=
  BG g S0 S S a w t ∧ (t = t1 ++ tx_ss ss ∧ r = o_snows r1 ss) ∧ (OP S.1 a r np ∧ i_su r N lim np ∧ EJ r N np) ∧ tx_sok np ss ∧ ss.length ≤ k ∧ t.length ≤ 210 + 11 * k ∧ ∀ c, c ∈ t → 0 < c ∧ c < 128
set_option maxHeartbeats 4000000 in
set_option maxRecDepth 100000 in
theorem w_begS {g : ev_G} {S0 : ev_S} {a k2 w N lim np B : Nat} {r1 : Nat → Int32} {t1 : List Nat} {Q : ev_O → ev_S → Prop} (hsl : ev_sl g < 2147483648) (h8 : N ≤ 8) (hnp0 : 0 < np) (hnp : np ≤ 4) (hQ : ∀ z r t ss, BE g S0 z a w N lim np 7 r1 r t1 t ss → ev_E g m_L_begins 9 (B + 707) 474 [some (ev_o 9 (ev_b g)), some (ev_o 11 a), some (ev_x 0 k2), some (ev_o 12 w), some (ev_i (Int32.ofNat 0)), none, none] [] z Q) : ∀ (n k : Nat) (S : ev_S) (B' : Nat) (r : Nat → Int32) (t : List Nat) (ss : List (Nat × (Nat × Nat))), k + n ≤ 7 → B + 707 * (n + 1) ≤ B' → BE g S0 S a w N lim np k r1 r t1 t ss → ev_E g m_L_begins 9 B' 474 [some (ev_o 9 (ev_b g)), some (ev_o 11 a), some (ev_x 0 k2), some (ev_o 12 w), some (ev_i (Int32.ofNat n)), none, none] [] S Q := by
  intro n
  induction n with
  | zero =>
    intro k S B' r t ss hk hB' h
    obtain ⟨hB, hrt, h3, hok, hsl2, hl, hc⟩ := h
    exact ev_E.more (by omega) (hQ S r t ss ⟨hB, hrt, h3, hok, by omega, by omega, hc⟩)
  | succ n ih =>
    intro k S B' r t ss hk hB' h
    obtain ⟨hB, ⟨rfl, hr⟩, ⟨hO, hi, hj⟩, hok, hpl, hl, hc⟩ := h
    obtain ⟨B2, rfl⟩ : ∃ B2, B' = B2 + 707 := ⟨B' - 707, by omega⟩
    have s3 : S.1 a 3 = Int32.ofNat np := hO.1.2.2.1
    refine sg_L_begins_474 (ev_b g) a k2 w _ ?_
    have e2 : (2 : Int32) * Int32.ofNat (n + 1) = Int32.ofNat (2 * (n + 1)) := n_mul 2 _
    have e30 : (30 : Int32) + Int32.ofNat (2 * (n + 1)) = Int32.ofNat (30 + 2 * (n + 1)) := n_add 30 _
    have e31 : (31 : Int32) + Int32.ofNat (2 * (n + 1)) = Int32.ofNat (31 + 2 * (n + 1)) := n_add 31 _
    obtain ⟨m1, h1, hm1⟩ := n_pick (f_L_cell g k2 (Int32.ofNat (30 + 2 * (n + 1)))) (n := np) hnp0 (by omega)
    obtain ⟨m2, h2, hm2⟩ := n_pick (f_L_cell g k2 (Int32.ofNat (31 + 2 * (n + 1)))) (n := 5) (by decide) (by decide)
    obtain ⟨m3, h3, hm3⟩ := n_pick (f_L_cell g k2 (Int32.ofNat (31 + 2 * (n + 1)))) (n := 10) (by decide) (by decide)
    have h2' : ev_rem ((f_L_cell g k2 (Int32.ofNat (31 + 2 * (n + 1)))) &&& 65535) 5 = Int32.ofNat m2 := h2
    have h3' : ev_rem ((f_L_cell g k2 (Int32.ofNat (31 + 2 * (n + 1)))) &&& 65535) 10 = Int32.ofNat m3 := h3
    have e12 : (12 : Int32) * Int32.ofNat m1 = Int32.ofNat (12 * m1) := n_mul 12 m1
    have e9 : Int32.ofNat (12 * m1) + Int32.ofNat m2 = Int32.ofNat (12 * m1 + m2) := n_add _ _
    refine j_neg (by rw [show (0 : Int32) = Int32.ofNat 0 from rfl, n_le (by omega) (by omega)] <;> omega) ?_
    rw [e2, e30, e31, s3, h1, h2', h3', e12, e9, n_c (n := 12 * m1 + m2) (by omega), n_pm n]
    refine ⟨id, w_cellc hsl _ (by omega), by rw [n_z (by omega)]; omega, w_cellc hsl _ (by omega), by decide, by decide, (n_vp (by omega) (by omega)).mpr trivial, ?_⟩
    intro S4 x4
    have l13 : (jb_lit 13).length = 5 := rfl
    have hl2 := hl
    rw [List.length_append] at hl2
    have l1 := jb_dec_1 m1 (by omega)
    have l2 := jb_dec_1 m2 (by omega)
    have l3 := jb_dec_1 m3 (by omega)
    have fS : ∀ x, x ≠ a + 18 → S4.1 x = S.1 x := fun x c1 => by rw [x4, m_r c1]
    have f18 : S4.1 (a + 18) = upd (S.1 (a + 18)) (12 * m1 + m2) (Int32.ofNat m3) := by rw [x4, m_u, r_s]
    have hB4 : BG g S0 S4 S4 a w (t1 ++ tx_ss ss) := BG_own hB (by rw [x4]; rfl) (fun c hc => fS c (by omega))
    refine bg_S hB4 (by omega) (by omega) (by omega) (fun z1 k1 => ?_)
    refine bg_I (x := m1) k1 rfl (by omega) (by simp only [List.length_append, l13, l1]; omega) (fun z2 k2 => ?_)
    refine bg_C (c := 32) k2 rfl (by omega) (by simp only [List.length_append, l13, l1]; omega) (fun z3 k3 => ?_)
    refine bg_I (x := m2) k3 rfl (by omega) (by simp only [List.length_append, List.length_cons, List.length_nil, l13, l1, l2]; omega) (fun z4 k4 => ?_)
    refine bg_C (c := 32) k4 rfl (by omega) (by simp only [List.length_append, List.length_cons, List.length_nil, l13, l1, l2]; omega) (fun z5 k5 => ?_)
    refine bg_I (x := m3) k5 (by rw [k5.2.2.1 18 (by omega), f18, u_s]) (by omega) (by simp only [List.length_append, List.length_cons, List.length_nil, l13, l1, l2, l3]; omega) (fun z6 k6 => ?_)
    refine bg_C (c := 59) k6 rfl (by omega) (by simp only [List.length_append, List.length_cons, List.length_nil, l13, l1, l2, l3]; omega) (fun z7 k7 => ?_)
    have et : t1 ++ tx_ss (ss ++ [(m1, (m2, m3))]) = (t1 ++ tx_ss ss) ++ tx3 4 m1 m2 m3 := by rw [tx_ss_app, List.append_assoc]
    have k7' := BG_tx k7 (tx3_app (k := 4))
    rw [← et] at k7'
    have er : o_snows r1 (ss ++ [(m1, (m2, m3))]) = o_snow r m1 m2 (Int32.ofNat m3) := by rw [o_snows_app, ← hr]
    refine ih (k + 1) z7 B2 (o_snow r m1 m2 (Int32.ofNat m3)) _ (ss ++ [(m1, (m2, m3))]) (by omega) (by omega) ⟨BG_re k7', ⟨rfl, er.symm⟩, ⟨OP_fr k7.2.2.1 (OP_snow (by omega) (by omega) fS f18 hO), i_su_snow hm1 (by omega) ⟨?_, ?_⟩ hi, EJ_snow h8 hnp (by omega) (by omega) hj⟩, tx_sok_app ss hok ⟨hm1, (by omega : m2 ≤ 11), (by omega : m3 ≤ 9)⟩, by rw [List.length_append, List.length_cons, List.length_nil]; omega, ?_, ?_⟩
    · rw [n_nn (by omega)]
      trivial
    · rw [show (9 : Int32) = Int32.ofNat 9 from rfl, n_le (by omega) (by omega)]
      omega
    · rw [et, List.length_append, tx3_len (by omega) (by omega) (by omega)]
      show _ + (5 + 6) ≤ _
      omega
    · rw [et]
      intro c hc'
      rcases List.mem_append.mp hc' with h9 | h9
      · exact hc c h9
      · exact tx3_ch (by omega) (by omega) (by omega) (by omega) c h9
