/-! ===== the law's own game: moves are applied as long as possible ===== -/
theorem u_cg {r1 r2 : Nat → Int32} {k j : Nat} {w : Int32} (h : r1 j = r2 j) : upd r1 k w j = upd r2 k w j := by
  simp only [upd]
  split
  · rfl
  · exact h
theorem o_apply_up {r : Nat → Int32} {p m f t i : Nat} {v : Int32} (hi : i = 12 + 7 * p + 6) (hm : m < 60) (hp : p < 2) (hf : f < 64) (ht : t < 64) : o_apply (upd r i v) p m f t = upd (o_apply r p m f t) i v := by
  funext j
  have e1 : upd r i v (26 + 64 * p + f) = r (26 + 64 * p + f) := u_k (by omega)
  have e2 : upd r i v (26 + 64 * p + t) = r (26 + 64 * p + t) := u_k (by omega)
  have e3 : upd r i v (12 + 7 * p + 1) = r (12 + 7 * p + 1) := u_k (by omega)
  have e4 : upd r i v (12 + 7 * p + 2) = r (12 + 7 * p + 2) := u_k (by omega)
  have e5 : upd r i v 2 = r 2 := u_k (by omega)
  by_cases hj : j = i
  · subst hj
    rw [u_s, o_apply_at (by omega) (by omega) (by omega) (by omega), u_s]
  · rw [u_k hj]
    have base : upd r i v j = r j := u_k hj
    unfold o_apply
    simp only [e1, e2, e3, e4, e5]
    have chain : ∀ w : Int32, upd (upd (upd (upd (upd (upd (upd r i v) (154 + 180 * p + 3 * m) (Int32.ofNat f)) (154 + 180 * p + 3 * m + 1) (Int32.ofNat t)) (154 + 180 * p + 3 * m + 2) w) (26 + 64 * p + t) (r (26 + 64 * p + f))) (26 + 64 * p + f) (-1)) (12 + 7 * p) (Int32.ofNat (m + 1)) j = upd (upd (upd (upd (upd (upd r (154 + 180 * p + 3 * m) (Int32.ofNat f)) (154 + 180 * p + 3 * m + 1) (Int32.ofNat t)) (154 + 180 * p + 3 * m + 2) w) (26 + 64 * p + t) (r (26 + 64 * p + f))) (26 + 64 * p + f) (-1)) (12 + 7 * p) (Int32.ofNat (m + 1)) j := fun w => u_cg (u_cg (u_cg (u_cg (u_cg (u_cg base)))))
    have wt : ∀ (x y : Nat → Int32) (d : Int32), (∀ k, k ≠ i → x k = y k) → o_waits x p d j = o_waits y p d j := by
      intro x y d h
      unfold o_waits
      rw [h (12 + 7 * p + 3) (by omega), h (12 + 7 * p + 4) (by omega), h (12 + 7 * p + 5) (by omega)]
      exact u_cg (u_cg (u_cg (h j hj)))
    have chn : ∀ (w : Int32) (k : Nat), k ≠ i → upd (upd (upd (upd (upd (upd (upd r i v) (154 + 180 * p + 3 * m) (Int32.ofNat f)) (154 + 180 * p + 3 * m + 1) (Int32.ofNat t)) (154 + 180 * p + 3 * m + 2) w) (26 + 64 * p + t) (r (26 + 64 * p + f))) (26 + 64 * p + f) (-1)) (12 + 7 * p) (Int32.ofNat (m + 1)) k = upd (upd (upd (upd (upd (upd r (154 + 180 * p + 3 * m) (Int32.ofNat f)) (154 + 180 * p + 3 * m + 1) (Int32.ofNat t)) (154 + 180 * p + 3 * m + 2) w) (26 + 64 * p + t) (r (26 + 64 * p + f))) (26 + 64 * p + f) (-1)) (12 + 7 * p) (Int32.ofNat (m + 1)) k := fun w k hk => u_cg (u_cg (u_cg (u_cg (u_cg (u_cg (u_k hk))))))
    split
    · split
      · exact u_cg (u_cg (chain _))
      · exact u_cg (chain _)
    · split
      · split
        · exact u_cg (chain _)
        · exact chain _
      · split
        · exact wt _ _ _ (fun k hk => u_cg (chn _ k hk))
        · exact wt _ _ _ (chn _)
theorem o_apply_keep {r : Nat → Int32} {p m f t : Nat} (hm : m < 60) (hp : p < 2) (hf : f < 64) (ht : t < 64) : o_keep (o_apply r p m f t) p m = o_apply (o_keep r p m) p m f t := by
  unfold o_keep
  split
  · rw [o_apply_up rfl hm hp hf ht, o_apply_at (j := 12 + 7 * p + 6) (by omega) (by omega) (by omega) (by omega)]
  · rfl
theorem i_bd_keep2 {r : Nat → Int32} {p n m : Nat} {hp : p < 2} (h : i_bd r p n) : i_bd (o_keep r p m) p n := by
  obtain ⟨h1, h2⟩ := h
  refine ⟨fun s hs => by rw [o_keep_at (by omega)]; exact h1 s hs, fun k hk => ?_⟩
  have em : o_mad (o_keep r p m) p = o_mad r p := by unfold o_mad; rw [o_keep_at (by omega)]
  rw [em] at hk
  rw [o_keep_at (by omega), o_keep_at (j := 154 + 180 * p + 3 * k + 1) (by omega), o_keep_at (j := 154 + 180 * p + 3 * k + 2) (by omega)]
  exact h2 k hk
/-- rows that differ only in one desk's own cells -/
theorem w_gm_own {M M' : Nat → Nat → Int32} {a p L : Nat} {r r' : Nat → Int32} (hp : p < 2) (hmad : ∀ p, p < 2 → o_mad r p ≤ 60) (e : ∀ j, ¬ o_own p j → r' j = r j) (f : ∀ q, a ≤ q → q < a + 36 → (q < a + 2 + 7 * p ∨ a + 2 + 7 * p + 6 ≤ q) → M' q = M q)
    (hb : w_bd M' (a + 2 + 7 * p) r' p) (hl : r' (12 + 7 * p + 2) = -1 ∨ 0 ≤ (r' (12 + 7 * p + 2)).toInt) (h : w_gm M a r L) : w_gm M' a r' L := by
  obtain ⟨h1, h2, h3, h4, h5, ⟨⟨hd0, h6⟩, ⟨h7, h7'⟩, h8⟩⟩ := h
  refine ⟨fun k hk => ?_, fun p' hp' => ?_, w_ps_row (fun j j1 j2 => e j (by unfold o_own; omega)) (w_ps_fr (fun q q1 q2 => f q (by omega) (by omega) (by omega)) h3), fun l hl => w_lt_row (fun w hw => e _ (by unfold o_own; omega)) (w_lt_fr (fun q q1 q2 => f q (by omega) (by omega) (by omega)) (h4 l hl)), fun k hk => w_pr_row (fun w hw => e _ (by unfold o_own; omega)) (w_pr_fr (fun q q1 q2 => f q (by omega) (by omega) (by omega)) (h5 k hk)), ⟨⟨by rw [e 2 (by unfold o_own; omega)]; exact hd0, fun p' hp' => ?_⟩, ⟨by rw [e 772 (by unfold o_own; omega)]; exact h7, by rw [e 773 (by unfold o_own; omega)]; exact h7'⟩, fun l hl => ?_⟩⟩
  · rw [f a (by omega) (by omega) (by omega), e k (by unfold o_own; omega)]
    exact h1 k hk
  · by_cases hpp : p' = p
    · subst hpp
      exact hb
    · exact w_bd_row (hmad p' hp') hp' (fun j hj => e j (by unfold o_own at *; omega)) (w_bd_fr (fun q q1 q2 => f q (by omega) (by omega) (by omega)) (h2 p' hp'))
  · by_cases hpp : p' = p
    · subst hpp
      exact hl
    · rw [e _ (by unfold o_own; omega)]
      exact h6 p' hp'
  · rw [e _ (by unfold o_own; omega), e (1200 + 11 * l + 3) (by unfold o_own; omega)]
    exact h8 l hl
theorem w_gm_clr {M M' : Nat → Nat → Int32} {a p k0 L : Nat} {r : Nat → Int32} (hp : p < 2) (hk0 : k0 ≤ 61) (hmad : ∀ p, p < 2 → o_mad r p ≤ 60) (f : ∀ q, q ≠ a + 2 + 7 * p + 4 → M' q = M q) (f4 : ∀ k, k ≠ k0 → M' (a + 2 + 7 * p + 4) k = M (a + 2 + 7 * p + 4) k) (v : M' (a + 2 + 7 * p + 4) k0 = -1) (h : w_gm M a r L) : w_gm M' a (o_clr r p k0) L := by
  have e : ∀ j, j ≠ 514 + 124 * p + 2 * k0 → j ≠ 514 + 124 * p + 2 * k0 + 1 → o_clr r p k0 j = r j := fun j j1 j2 => by rw [o_clr, u_k j2, u_k j1]
  have em : o_mad (o_clr r p k0) p = o_mad r p := by unfold o_mad; rw [e _ (by omega) (by omega)]
  obtain ⟨b1, b2, b3, b4, b5, b6, b7, b8, b9⟩ := h.2.1 p hp
  refine w_gm_own hp hmad (fun j hj => e j (fun q => hj (by unfold o_own; omega)) (fun q => hj (by unfold o_own; omega))) (fun q q1 q2 q3 => f q (by omega)) ?_ (by rw [e _ (by omega) (by omega)]; exact h.2.2.2.2.2.1.2 p hp) h
  have hm60 := hmad p hp
  refine ⟨fun s hs => by rw [f _ (by omega), e _ (by omega) (by omega)]; exact b1 s hs, fun k hk => ?_, fun k hk => ?_, by rw [f _ (by omega), e _ (by omega) (by omega)]; exact b4, by rw [f _ (by omega), e _ (by omega) (by omega)]; exact b5, by rw [f _ (by omega), e _ (by omega) (by omega)]; exact b6, by rw [f _ (by omega), e _ (by omega) (by omega)]; exact b7, by rw [f _ (by omega), e _ (by omega) (by omega)]; exact b8, by rw [f _ (by omega), e _ (by omega) (by omega)]; exact b9⟩
  · rw [em] at hk
    rw [f _ (by omega), f _ (by omega), e _ (by omega) (by omega), e (154 + 180 * p + 3 * k + 1) (by omega) (by omega)]
    exact b2 k hk
  · by_cases hkk : k = k0
    · subst hkk
      have ev : o_clr r p k (514 + 124 * p + 2 * k) = -1 := by rw [o_clr, u_k (by omega), u_s]
      rw [ev]
      exact ⟨v, fun q => absurd rfl q⟩
    · rw [f4 k hkk, f _ (by omega), e _ (by omega) (by omega), e (514 + 124 * p + 2 * k + 1) (by omega) (by omega)]
      exact b3 k hk
/-- a reply is counted -/
theorem w_gm_kept {M M' : Nat → Nat → Int32} {a p m L : Nat} {r : Nat → Int32} (hp : p < 2) (hmad : ∀ p, p < 2 → o_mad r p ≤ 60) (hst : r (514 + 124 * p + 2 * (m + 1)) = -1) (f : ∀ q, q ≠ a + 2 + 7 * p → M' q = M q) (fb : ∀ k, k ≠ 11 → M' (a + 2 + 7 * p) k = M (a + 2 + 7 * p) k)
    (v : M' (a + 2 + 7 * p) 11 = if o_maker (m + 1) = p then r (12 + 7 * p + 6) + 1 else r (12 + 7 * p + 6)) (h : w_gm M a r L) (hm : m < 60) : w_gm M' a (o_keep (o_clr r p (m + 1)) p m) L := by
  have hc : w_gm M a (o_clr r p (m + 1)) L := w_gm_clr hp (by omega) hmad (fun q _ => rfl) (fun k _ => rfl) (by rw [((h.2.1 p hp).2.2.1 (m + 1) (by omega)).1, hst]) h
  have e6 : o_clr r p (m + 1) (12 + 7 * p + 6) = r (12 + 7 * p + 6) := by rw [o_clr, u_k (by omega), u_k (by omega)]
  have hmad2 : ∀ p', p' < 2 → o_mad (o_clr r p (m + 1)) p' ≤ 60 := fun p' hp' => by unfold o_mad; rw [o_clr, u_k (by omega), u_k (by omega)]; exact hmad p' hp'
  obtain ⟨b1, b2, b3, b4, b5, b6, b7, b8, b9⟩ := hc.2.1 p hp
  refine w_gm_own hp hmad2 (fun j hj => o_keep_at (fun q => hj (by unfold o_own; omega))) (fun q q1 q2 q3 => f q (by omega)) ?_ (by rw [o_keep_at (by omega)]; exact hc.2.2.2.2.2.1.2 p hp) hc
  have em : o_mad (o_keep (o_clr r p (m + 1)) p m) p = o_mad (o_clr r p (m + 1)) p := by unfold o_mad; rw [o_keep_at (by omega)]
  refine ⟨fun s hs => by rw [f _ (by omega), o_keep_at (by omega)]; exact b1 s hs, fun k hk => ?_, fun k hk => ?_, by rw [fb _ (by omega), o_keep_at (by omega)]; exact b4, by rw [fb _ (by omega), o_keep_at (by omega)]; exact b5, by rw [fb _ (by omega), o_keep_at (by omega)]; exact b6, by rw [fb _ (by omega), o_keep_at (by omega)]; exact b7, by rw [fb _ (by omega), o_keep_at (by omega)]; exact b8, ?_⟩
  · rw [em] at hk
    rw [f _ (by omega), f _ (by omega), o_keep_at (by omega), o_keep_at (j := 154 + 180 * p + 3 * k + 1) (by omega)]
    exact b2 k hk
  · rw [f _ (by omega), f _ (by omega), o_keep_at (by omega), o_keep_at (j := 514 + 124 * p + 2 * k + 1) (by omega)]
    exact b3 k hk
  · rw [v]
    unfold o_keep
    split
    · rw [u_s, e6]
    · rw [e6]
theorem w_goes {g : ev_G} {a p n lim L : Nat} (hp : p < 2) : ∀ (k : Nat) (S : ev_S) (r : Nat → Int32), i_dk r p n lim → i_bd r p n → (∀ p, p < 2 → o_mad r p ≤ 60) → lim < o_mad r p + k → w_gm S.1 a r L → ∀ Q : ev_O → ev_S → Prop,
    (∀ z, q_fb S z (a + 2 + 7 * p) → w_gm z.1 a (o_all p n k r) L → Q (.inl none) z) → ev_E g m_X11_goesOn 3 0 7 [some (ev_o 11 a), some (ev_i (Int32.ofNat p)), some (ev_o 10 (a + 2 + 7 * p)), none, none, none] [] S Q := by
  intro k
  induction k with
  | zero =>
    intro S r hdk _ _ hk
    obtain ⟨h0, h8, h1, h60, ⟨m, hm, hml⟩, hs, hpr⟩ := hdk
    unfold o_mad at hk
    rw [hm, n_c (by omega)] at hk
    omega
  | succ k ih =>
    intro S r hdk hbd hmad hk h Q hQ
    obtain ⟨h0, h8, h1, h60, ⟨m, hm, hml⟩, hs, hpr⟩ := id hdk
    have hn9 := sq_le h8
    have hmd : o_mad r p = m := by unfold o_mad; rw [hm, n_c (by omega)]
    rw [hmd] at hk
    rw [o_all, hmd] at hQ
    have hb := h.2.1 p hp
    have ha1 : S.1 a 1 = r 1 := h.1 1 (by omega)
    have hex := h.2.2.2.2.2
    refine sg_X11_goesOn_7 a _ _ (w_isOver hp h8 hbd.1 hb ha1 _ ⟨_, rfl, ?_⟩)
    by_cases ho : o_over r p n = true
    · refine j_pos ho ?_
      rw [if_pos ho] at hQ
      exact hQ S (q_fb_rf S _) h
    · refine j_neg ho ?_
      rw [if_neg ho] at hQ
      have hlt : m < lim := by
        have := o_over_not ho
        rw [hm, h1, Ne, n_eq (by omega) (by omega)] at this
        omega
      have hmk := o_maker_lt (m + 1)
      have hst0 := (hb.2.2.1 (m + 1) (by omega)).1
      have hsg : r (514 + 124 * p + 2 * (m + 1)) = -1 ∨ 0 ≤ (r (514 + 124 * p + 2 * (m + 1))).toInt := by
        rcases hs (m + 1) (by omega) with h9 | ⟨f, t, hf9, ht9, hft, ef, et⟩
        · exact Or.inl h9
        · right
          rw [ef, n_i (by omega)]
          omega
      have hprk := h.2.2.2.2.1 (m + 1) (by omega)
      rw [hb.2.2.2.1, hm, n_inc, n_rem2 (by omega), n_eq (by omega) (by omega)]
      have hpar : ((m + 1) % 2 = p) = ¬ (o_maker (m + 1) = p) := by
        unfold o_maker
        apply propext
        by_cases h9 : (m + 1) % 2 = 1
        · rw [if_pos h9]; omega
        · rw [if_neg h9]; omega
      rw [hpar]
      refine ⟨fun hown => ?_, fun hown => ?_⟩
      · -- the other's move
        refine ⟨(n_vp (by omega) (by omega)).mpr trivial, ?_⟩
        rw [n_c (by omega), hst0, n_neg1 hsg]
        refine ⟨fun hst => ?_, fun hst => ?_⟩
        · rw [if_pos hst] at hQ
          refine ⟨(n_vp (by omega) (by omega)).mpr trivial, ?_⟩
          rw [hprk.2.1]
          refine ⟨fun h0 => ?_, fun h0 => ?_⟩
          · have hnd : ¬ o_due r p m = true := by
              simp only [o_due, decide_eq_true_eq, if_neg hown]
              exact fun q => q.1 h0
            rw [if_neg hnd] at hQ
            exact hQ S (q_fb_rf S _) h
          · have hm1 : 1 ≤ m := by
              rcases Nat.eq_zero_or_pos m with h9 | h9
              · subst h9
                exact absurd hex.2.1.2 h0
              · exact h9
            refine ⟨by rw [n_d1]; exact (n_vp (by omega) (by omega)).mpr trivial, ?_⟩
            have hpr1 : i_pr r n (m + 1) := by
              rcases hpr (m + 1) (by omega) with ⟨h4, h5⟩ | h9
              · exact absurd h5 h0
              · exact h9
            obtain ⟨ef, et, rf, rt, -, -, -, hrf9, hrt9, hne, -, -, q2, q3, q4, -⟩ := hpr1
            obtain ⟨x32, x33, x34, x35⟩ := hprk.2.2 (by rw [q4]; decide)
            obtain ⟨b21, b22⟩ := hb.2.1 (m - 1) (by omega)
            rw [show m - 1 + 1 = m by omega] at b21 b22
            rw [n_d1, n_c (by omega), b21, b22, x32, x33]
            have hrf : rf < 64 := by omega
            have hrt : rt < 64 := by omega
            by_cases hd : o_due r p m = true
            · have hd2 := hd
              simp only [o_due, decide_eq_true_eq] at hd2
              rw [if_pos hd, q2, q3, n_c (by omega), n_c (by omega)] at hQ
              refine j_pos hd2.2.2.1 (j_pos hd2.2.2.2 ?_)
              intro T t1
              have e34 : T.1 (a + 34) (m + 1) = Int32.ofNat rf := by rw [t1, m_r (by omega), x34, q2]
              have e35 : T.1 (a + 35) (m + 1) = Int32.ofNat rt := by rw [t1, m_r (by omega), x35, q3]
              rw [e34, e35]
              have hg : w_gm T.1 a (o_keep (o_clr r p (m + 1)) p m) L := by
                refine w_gm_kept hp hmad hst (fun q hq => by rw [t1, m_r hq]) (fun k hk => by rw [t1, m_k hk]) ?_ h (by omega)
                rw [t1, m_s]
                rw [if_neg hown, hb.2.2.2.2.2.2.2.2, Int32.add_zero]
              have hcl : ∀ j, j ≠ 514 + 124 * p + 2 * (m + 1) → j ≠ 514 + 124 * p + 2 * (m + 1) + 1 → j ≠ 12 + 7 * p + 6 → o_keep (o_clr r p (m + 1)) p m j = r j := fun j j1 j2 j3 => by rw [o_keep_at j3, o_clr, u_k j2, u_k j1]
              refine w_apply hp (r := o_keep (o_clr r p (m + 1)) p m) (m := m) (by rw [hcl _ (by omega) (by omega) (by omega)]; exact hm) (by omega) (fun p' hp' => by unfold o_mad; rw [hcl _ (by omega) (by omega) (by omega)]; exact hmad p' hp') hrf hrt hne hg (fun z z1 z2 => ⟨rfl, ?_⟩)
              rw [← o_apply_keep (by omega) hp hrf hrt] at z2
              refine ih z _ (i_dk_keep hp (i_dk_step hp hm hlt hrf hrt hdk)) (i_bd_keep2 (hp := hp) (i_bd_step hp hm hlt hrf9 hrt9 hne hdk hbd)) (fun p' hp' => ?_) ?_ z2 Q (fun y y1 y2 => hQ y (q_fb_trans (q_fb_trans (q_fb_up (by omega) (by omega) t1) z1) y1) y2)
              · by_cases hpp : p' = p
                · subst hpp
                  unfold o_mad
                  rw [o_keep_at (by omega), o_apply_made, n_c (by omega)]
                  omega
                · unfold o_mad
                  rw [o_keep_at (by omega), o_apply_at (by omega) (by omega) (by omega) (by omega), o_clr, u_k (by omega), u_k (by omega)]
                  exact hmad p' hp'
              · unfold o_mad
                rw [o_keep_at (by omega), o_apply_made, n_c (by omega)]
                omega
            · rw [if_neg hd] at hQ
              have same := hQ S (q_fb_rf S _) h
              refine ⟨fun c1 => ⟨fun c2 => absurd ?_ hd, fun _ => same⟩, fun _ => same⟩
              simp only [o_due, decide_eq_true_eq, if_neg hown]
              exact ⟨h0, hm1, c1, c2⟩
        · rw [if_neg hst] at hQ
          rcases hs (m + 1) (by omega) with h9 | ⟨f, t, hf9, ht9, hft, ef, et⟩
          · exact absurd h9 hst
          · have hf : f < 64 := by omega
            have ht : t < 64 := by omega
            rw [ef, et, n_c (by omega), n_c (by omega)] at hQ
            intro T t1
            rw [(hb.2.2.1 (m + 1) (by omega)).2 hst, ef, et]
            have hg : w_gm T.1 a (o_clr r p (m + 1)) L := by
              refine w_gm_clr hp (by omega) hmad (fun q hq => by rw [t1, m_r hq]) (fun k hk => by rw [t1, m_k hk]) (by rw [t1, m_s]) h
            have hcl : ∀ j, j ≠ 514 + 124 * p + 2 * (m + 1) → j ≠ 514 + 124 * p + 2 * (m + 1) + 1 → o_clr r p (m + 1) j = r j := fun j j1 j2 => by rw [o_clr, u_k j2, u_k j1]
            refine w_apply hp (r := o_clr r p (m + 1)) (m := m) (by rw [hcl _ (by omega) (by omega)]; exact hm) (by omega) (fun p' hp' => by unfold o_mad; rw [hcl _ (by omega) (by omega)]; exact hmad p' hp') hf ht hft hg (fun z z1 z2 => ⟨rfl, ?_⟩)
            refine ih z _ (i_dk_step hp hm hlt hf ht hdk) (i_bd_step hp hm hlt hf9 ht9 hft hdk hbd) (fun p' hp' => ?_) ?_ z2 Q (fun y y1 y2 => hQ y (q_fb_trans (q_fb_trans (q_fb_up (by omega) (by omega) t1) z1) y1) y2)
            · by_cases hpp : p' = p
              · subst hpp
                unfold o_mad
                rw [o_apply_made, n_c (by omega)]
                omega
              · unfold o_mad
                rw [o_apply_at (by omega) (by omega) (by omega) (by omega), o_clr, u_k (by omega), u_k (by omega)]
                exact hmad p' hp'
            · unfold o_mad
              rw [o_apply_made, n_c (by omega)]
              omega
      · -- the own move
        have hown : o_maker (m + 1) = p := Classical.byContradiction hown
        refine ⟨(n_vp (by omega) (by omega)).mpr trivial, ?_⟩
        rw [n_c (by omega), hst0, n_neg1 hsg]
        refine ⟨fun hst => ?_, fun hst => ?_⟩
        · rw [if_pos hst] at hQ
          refine ⟨(n_vp (by omega) (by omega)).mpr trivial, ?_⟩
          rw [hprk.1]
          refine ⟨fun h0 => ?_, fun h0 => ?_⟩
          · have hnd : ¬ o_due r p m = true := by
              simp only [o_due, decide_eq_true_eq, if_pos hown]
              exact fun q => q.1 h0
            rw [if_neg hnd] at hQ
            exact hQ S (q_fb_rf S _) h
          · have hm1 : 1 ≤ m := by
              rcases Nat.eq_zero_or_pos m with h9 | h9
              · subst h9
                exact absurd hex.2.1.1 h0
              · exact h9
            refine ⟨by rw [n_d1]; exact (n_vp (by omega) (by omega)).mpr trivial, ?_⟩
            have hpr1 : i_pr r n (m + 1) := by
              rcases hpr (m + 1) (by omega) with ⟨h4, h5⟩ | h9
              · exact absurd h4 h0
              · exact h9
            obtain ⟨ef, et, rf, rt, -, -, -, hrf9, hrt9, hne, -, -, q2, q3, q4, -⟩ := hpr1
            obtain ⟨x32, x33, x34, x35⟩ := hprk.2.2 (by rw [q4]; decide)
            obtain ⟨b21, b22⟩ := hb.2.1 (m - 1) (by omega)
            rw [show m - 1 + 1 = m by omega] at b21 b22
            rw [n_d1, n_c (by omega), b21, b22, x32, x33]
            have hrf : rf < 64 := by omega
            have hrt : rt < 64 := by omega
            by_cases hd : o_due r p m = true
            · have hd2 := hd
              simp only [o_due, decide_eq_true_eq] at hd2
              rw [if_pos hd, q2, q3, n_c (by omega), n_c (by omega)] at hQ
              refine j_pos hd2.2.2.1 (j_pos hd2.2.2.2 ?_)
              intro T t1
              have e34 : T.1 (a + 34) (m + 1) = Int32.ofNat rf := by rw [t1, m_r (by omega), x34, q2]
              have e35 : T.1 (a + 35) (m + 1) = Int32.ofNat rt := by rw [t1, m_r (by omega), x35, q3]
              rw [e34, e35]
              have hg : w_gm T.1 a (o_keep (o_clr r p (m + 1)) p m) L := by
                refine w_gm_kept hp hmad hst (fun q hq => by rw [t1, m_r hq]) (fun k hk => by rw [t1, m_k hk]) ?_ h (by omega)
                rw [t1, m_s]
                rw [if_pos hown, hb.2.2.2.2.2.2.2.2]
              have hcl : ∀ j, j ≠ 514 + 124 * p + 2 * (m + 1) → j ≠ 514 + 124 * p + 2 * (m + 1) + 1 → j ≠ 12 + 7 * p + 6 → o_keep (o_clr r p (m + 1)) p m j = r j := fun j j1 j2 j3 => by rw [o_keep_at j3, o_clr, u_k j2, u_k j1]
              refine w_apply hp (r := o_keep (o_clr r p (m + 1)) p m) (m := m) (by rw [hcl _ (by omega) (by omega) (by omega)]; exact hm) (by omega) (fun p' hp' => by unfold o_mad; rw [hcl _ (by omega) (by omega) (by omega)]; exact hmad p' hp') hrf hrt hne hg (fun z z1 z2 => ⟨rfl, ?_⟩)
              rw [← o_apply_keep (by omega) hp hrf hrt] at z2
              refine ih z _ (i_dk_keep hp (i_dk_step hp hm hlt hrf hrt hdk)) (i_bd_keep2 (hp := hp) (i_bd_step hp hm hlt hrf9 hrt9 hne hdk hbd)) (fun p' hp' => ?_) ?_ z2 Q (fun y y1 y2 => hQ y (q_fb_trans (q_fb_trans (q_fb_up (by omega) (by omega) t1) z1) y1) y2)
              · by_cases hpp : p' = p
                · subst hpp
                  unfold o_mad
                  rw [o_keep_at (by omega), o_apply_made, n_c (by omega)]
                  omega
                · unfold o_mad
                  rw [o_keep_at (by omega), o_apply_at (by omega) (by omega) (by omega) (by omega), o_clr, u_k (by omega), u_k (by omega)]
                  exact hmad p' hp'
              · unfold o_mad
                rw [o_keep_at (by omega), o_apply_made, n_c (by omega)]
                omega
            · rw [if_neg hd] at hQ
              have same := hQ S (q_fb_rf S _) h
              refine ⟨fun c1 => ⟨fun c2 => absurd ?_ hd, fun _ => same⟩, fun _ => same⟩
              simp only [o_due, decide_eq_true_eq, if_pos hown]
              exact ⟨h0, hm1, c1, c2⟩
        · rw [if_neg hst] at hQ
          rcases hs (m + 1) (by omega) with h9 | ⟨f, t, hf9, ht9, hft, ef, et⟩
          · exact absurd h9 hst
          · have hf : f < 64 := by omega
            have ht : t < 64 := by omega
            rw [ef, et, n_c (by omega), n_c (by omega)] at hQ
            intro T t1
            rw [(hb.2.2.1 (m + 1) (by omega)).2 hst, ef, et]
            have hg : w_gm T.1 a (o_clr r p (m + 1)) L := by
              refine w_gm_clr hp (by omega) hmad (fun q hq => by rw [t1, m_r hq]) (fun k hk => by rw [t1, m_k hk]) (by rw [t1, m_s]) h
            have hcl : ∀ j, j ≠ 514 + 124 * p + 2 * (m + 1) → j ≠ 514 + 124 * p + 2 * (m + 1) + 1 → o_clr r p (m + 1) j = r j := fun j j1 j2 => by rw [o_clr, u_k j2, u_k j1]
            refine w_apply hp (r := o_clr r p (m + 1)) (m := m) (by rw [hcl _ (by omega) (by omega)]; exact hm) (by omega) (fun p' hp' => by unfold o_mad; rw [hcl _ (by omega) (by omega)]; exact hmad p' hp') hf ht hft hg (fun z z1 z2 => ⟨rfl, ?_⟩)
            refine ih z _ (i_dk_step hp hm hlt hf ht hdk) (i_bd_step hp hm hlt hf9 ht9 hft hdk hbd) (fun p' hp' => ?_) ?_ z2 Q (fun y y1 y2 => hQ y (q_fb_trans (q_fb_trans (q_fb_up (by omega) (by omega) t1) z1) y1) y2)
            · by_cases hpp : p' = p
              · subst hpp
                unfold o_mad
                rw [o_apply_made, n_c (by omega)]
                omega
              · unfold o_mad
                rw [o_apply_at (by omega) (by omega) (by omega) (by omega), o_clr, u_k (by omega), u_k (by omega)]
                exact hmad p' hp'
            · unfold o_mad
              rw [o_apply_made, n_c (by omega)]
              omega
theorem w_goesOn {g : ev_G} {S : ev_S} {a p n lim L : Nat} {r : Nat → Int32} (hp : p < 2) (hdk : i_dk r p n lim) (hbd : i_bd r p n) (hmad : ∀ p, p < 2 → o_mad r p ≤ 60) (h : w_gm S.1 a r L) {Q : ev_O → ev_S → Prop} (hQ : ∀ z, q_fb S z (a + 2 + 7 * p) → w_gm z.1 a (o_all p n 61 r) L → Q (.inl none) z) : ev_Cv g m_X11_goesOn 3 0 [ev_o 11 a, ev_i (Int32.ofNat p)] S Q := by
  refine sg_X11_goesOn_0 a _ ⟨(n_vp (by omega) (by omega)).mpr trivial, ?_⟩
  rw [w_bdA hp]
  have := hdk.2.2.2.1
  exact w_goes hp 61 S r hdk hbd hmad (by omega) h Q hQ
