/-! ===== the law: where all bishops can go ===== -/
theorem CF_up {g : ev_G} {S z : ev_S} {n lim np L d : Nat} {r : Nat → Int32} {ρ : List Nat} (h : w_up g S z) (c : CF S.1 (ev_b g) r n lim np L d ρ) : CF z.1 (ev_b g) r n lim np L d ρ := by
  obtain ⟨⟨hI, hL, hd, hg, hk⟩, hx⟩ := c
  exact ⟨⟨hI, hL, hd, q_gm_frame (fun q q1 q2 => (w_up_cls h (by omega)).1) hg, hk⟩, hx⟩
theorem w_can_o {r : Nat → Int32} {p n f t : Nat} : w_can (fun s => r (26 + 64 * p + s)) n f t = o_moves r p n (r (26 + 64 * p + f)) f t := by
  unfold w_can o_moves
  simp only [true_and, ne_eq]
theorem mob_step (r : Nat → Int32) (p n s : Nat) (w f : Nat) (h : f < w) : mob r p n s (w - f) f = (if r (26 + 64 * p + f) = Int32.ofNat s then cnt (fun t => o_moves r p n (Int32.ofNat s) f t) (n * n) else 0) + mob r p n s (w - (f + 1)) (f + 1) := by
  rw [show w - f = (w - (f + 1)) + 1 by omega, mob]
theorem w_areMoves {g : ev_G} {S : ev_S} {a k n lim np L d : Nat} {r : Nat → Int32} {ρ : List Nat} (c : CF S.1 (ev_b g) r n lim np L d ρ) (hw : w_gm S.1 a r L) (ha : (0, a) ∈ S.2.1) (hlw : ev_lw g S.2.1) (hk : k < 2) {Q : ev_O → ev_S → Prop} (hQ : ∀ z, w_up g S z → Q (.inl (some (ev_i 1))) z) : ev_Cv g m_L_areMoves 6 4200 [ev_o 9 (ev_b g), ev_o 11 a, ev_i (Int32.ofNat k)] S Q := by
  have hI := c.1.1
  have h8 := hI.1.1.2.1
  have h4n := c.1.2.2.2.2.1
  have hn9 := sq_le h8
  have hsq : i_sq r k n := (hI.2.2 k hk).1
  have z0 : (0 : Int32) = Int32.ofNat 0 := rfl
  rw [show (4200 : Nat) = 4199 + 1 by omega]
  refine sg_L_areMoves_0 (ev_b g) a _ ?_
  intro q hlc S1 x1
  have l1 : (ev_tk 3).length = 1 := rfl
  have up1 : w_up g S S1 := w_up_new hlc (by rw [x1]; rfl) (fun x hx => by rw [x1]; exact if_neg (by rw [l1] at *; omega)) (fun x hx => by rw [x1]; exact if_neg (by rw [l1] at *; omega))
  have q0 : ∀ j, S1.1 q j = 0 := fun j => by
    rw [x1]
    show (if q ≤ q ∧ q < q + (ev_tk 3).length then fun _ => (0 : Int32) else S.1 q) j = 0
    rw [if_pos (by rw [l1]; omega)]
  -- what a state holds
  have hqa : a + 36 ≤ q ∨ q + 1 ≤ a := by
    have := (List.pairwise_cons.mp hlc.2).1 (0, a) ha
    exact this
  have keep : ∀ T : ev_S, T.2 = S1.2 → (∀ x, x ≠ q → T.1 x = S1.1 x) → w_up g S T := fun T e f => by
    refine w_up_new hlc (by rw [e, x1]; rfl) (fun x hx => ?_) (fun x hx => ?_)
    · rw [l1] at hx
      rw [f x (by omega), x1]
      exact if_neg (by rw [l1]; omega)
    · rw [e, x1]
      exact if_neg (by rw [l1] at *; omega)
  have key := dn (n := n * n) (P := fun f => ∀ (T : ev_S) (X0 X1 : Nat), T.2 = S1.2 → (∀ x, x ≠ q → T.1 x = S1.1 x) → T.1 q 0 = Int32.ofNat X0 → T.1 q 1 = Int32.ofNat X1 → X0 + mob r k n 0 (n * n - f) f = mob r k n 0 (n * n) 0 → X1 + mob r k n 1 (n * n - f) f = mob r k n 1 (n * n) 0 →
      ev_E g m_L_areMoves 6 (64 * (64 - f) + 2) 7 [some (ev_o 9 (ev_b g)), some (ev_o 11 a), some (ev_i (Int32.ofNat k)), some (ev_y 2 q), some (ev_i (Int32.ofNat f)), none, none] [] T Q) ?_ ?_ 0 (Nat.zero_le _) S1 0 0 rfl (fun _ _ => rfl) (q0 0) (q0 1) (Nat.zero_add _) (Nat.zero_add _)
  · rw [z0]
    exact ev_E.more (by omega) key
  · intro T X0 X1 t1 t2 t3 t4 m0 m1
    have up := keep T t1 t2
    have hwT := w_gm_up up ha hw
    rw [Nat.sub_self] at m0 m1
    have m0' : X0 = mob r k n 0 (n * n) 0 := m0
    have m1' : X1 = mob r k n 1 (n * n) 0 := m1
    refine sg_L_areMoves_7 (ev_b g) a _ q _ ?_
    rw [hwT.1 0 (by omega), hI.1.1.1, n_mul, n_le (by omega) (by omega)]
    refine j_pos (Nat.le_refl _) (k_mobility (s := 0) (CF_up up c) hk (by omega) ⟨_, rfl, ?_⟩)
    rw [t3, m0']
    refine j_pos rfl (k_mobility (s := 1) (CF_up up c) hk (by omega) ⟨_, rfl, ?_⟩)
    rw [t4, m1']
    exact j_pos rfl (hQ T up)
  · intro f hf ih T X0 X1 t1 t2 t3 t4 m0 m1
    have hwT := w_gm_up (keep T t1 t2) ha hw
    refine sg_L_areMoves_7 (B := 64 * (64 - f)) (ev_b g) a _ q _ ?_
    rw [hwT.1 0 (by omega), hI.1.1.1, n_mul, n_le (by omega) (by omega)]
    refine j_neg (by omega) ?_
    rw [mob_step r k n 0 (n * n) f hf] at m0
    rw [mob_step r k n 1 (n * n) f hf] at m1
    rw [show 64 * (64 - f) + 2 = (64 * (64 - (f + 1)) + 2) + 64 by omega, z0]
    have inner := dn (n := n * n) (P := fun t => ∀ (U : ev_S), U.2 = S1.2 → (∀ x, x ≠ q → U.1 x = S1.1 x) → U.1 q 0 = Int32.ofNat (X0 + if r (26 + 64 * k + f) = Int32.ofNat 0 then cnt (fun t => o_moves r k n (Int32.ofNat 0) f t) t else 0) → U.1 q 1 = Int32.ofNat (X1 + if r (26 + 64 * k + f) = Int32.ofNat 1 then cnt (fun t => o_moves r k n (Int32.ofNat 1) f t) t else 0) →
        ev_E g m_L_areMoves 6 ((64 * (64 - (f + 1)) + 2) + (64 - t)) 24 [some (ev_o 9 (ev_b g)), some (ev_o 11 a), some (ev_i (Int32.ofNat k)), some (ev_y 2 q), some (ev_i (Int32.ofNat f)), some (ev_i (Int32.ofNat t)), none] [] U Q) ?_ ?_ 0 (Nat.zero_le _) T t1 t2 (by rw [t3]; split <;> rfl) (by rw [t4]; split <;> rfl)
    · exact inner
    · intro U u1 u2 u3 u4
      have hwU := w_gm_up (keep U u1 u2) ha hw
      rw [show (64 * (64 - (f + 1)) + 2) + (64 - n * n) = (64 * (64 - (f + 1)) + 1 + (64 - n * n)) + 1 by omega]
      refine sg_L_areMoves_24 (ev_b g) a _ q _ _ ?_
      rw [hwU.1 0 (by omega), hI.1.1.1, n_mul, n_le (by omega) (by omega), n_inc]
      refine j_pos (Nat.le_refl _) (ev_E.more (by omega) (ih U _ _ u1 u2 u3 u4 ?_ ?_))
      · rw [← m0, Nat.add_assoc]
      · rw [← m1, Nat.add_assoc]
    · intro t ht ih2 U u1 u2 u3 u4
      have up := keep U u1 u2
      have hwU := w_gm_up up ha hw
      have cU := CF_up up c
      have hb := hwU.2.1 k hk
      rw [show (64 * (64 - (f + 1)) + 2) + (64 - t) = ((64 * (64 - (f + 1)) + 2) + (64 - (t + 1))) + 1 by omega]
      refine sg_L_areMoves_24 (ev_b g) a _ q _ _ ?_
      rw [hwU.1 0 (by omega), hI.1.1.1, n_mul, n_le (by omega) (by omega), n_inc, n_inc, w_bdA hk]
      refine j_neg (by omega) ⟨(n_vp (by omega) (by omega)).mpr trivial, ?_⟩
      refine w_canGo h4n h8 (o := fun s => r (26 + 64 * k + s)) hf ht (fun s hs => hb.1 s (by omega)) (fun s hs => w_sqv hsq (by omega)) _ ⟨w_can (fun s => r (26 + 64 * k + s)) n f t, rfl, fun hc => ?_, fun hc => ?_⟩
      · refine k_can cU hk hf ht ⟨o_moves r k n (r (26 + 64 * k + f)) f t, rfl, fun hm => ⟨(n_vp (by omega) (by omega)).mpr trivial, ?_⟩, fun hm => absurd (by rw [← w_can_o]; exact hc) hm⟩
        rw [n_c (by omega), hb.1 f (by omega)]
        have hne : ¬ r (26 + 64 * k + f) = -1 := (w_can_iff.mp hc).1
        -- one more for the owner
        have one : ∀ s, s < 2 → r (26 + 64 * k + f) = Int32.ofNat s → vp_in (Int32.ofNat s) 2 ∧ ∀ S3 : ev_S, S3 = ev_up U q s (U.1 q s + 1) → ev_E g m_L_areMoves 6 ((64 * (64 - (f + 1)) + 2) + (64 - (t + 1))) 24 [some (ev_o 9 (ev_b g)), some (ev_o 11 a), some (ev_i (Int32.ofNat k)), some (ev_y 2 q), some (ev_i (Int32.ofNat f)), some (ev_i (Int32.ofNat (t + 1))), none] [] S3 Q := fun s hs hr => by
          refine ⟨(n_vp hs (by omega)).mpr trivial, fun S3 x3 => ?_⟩
          rw [hr] at hm u3 u4
          have ct := cnt_t (f := fun t => o_moves r k n (Int32.ofNat s) f t) (n := t) hm
          refine ih2 S3 (by rw [x3]; exact u1) (fun x hx => by rw [x3, m_r hx]; exact u2 x hx) ?_ ?_
          · rw [hr]
            have hs2 : s = 0 ∨ s = 1 := by omega
            rcases hs2 with rfl | rfl
            · rw [if_pos rfl] at u3 ⊢
              rw [x3, m_s, u3, n_inc, ct, Nat.add_assoc]
            · have h10 : ¬ Int32.ofNat 1 = Int32.ofNat 0 := by decide
              rw [if_neg h10] at u3 ⊢
              rw [x3, m_k (by omega), u3]
          · rw [hr]
            have hs2 : s = 0 ∨ s = 1 := by omega
            rcases hs2 with rfl | rfl
            · have h01 : ¬ Int32.ofNat 0 = Int32.ofNat 1 := by decide
              rw [if_neg h01] at u4 ⊢
              rw [x3, m_k (by omega), u4]
            · rw [if_pos rfl] at u4 ⊢
              rw [x3, m_s, u4, n_inc, ct, Nat.add_assoc]
        rcases hsq f (by omega) with h9 | ⟨-, h9 | h9⟩
        · exact absurd h9 hne
        · rw [h9]
          obtain ⟨o1, o2⟩ := one 0 (by omega) h9
          exact ⟨o1, o2⟩
        · rw [h9]
          obtain ⟨o1, o2⟩ := one 1 (by omega) h9
          exact ⟨o1, o2⟩
      · refine k_can cU hk hf ht ⟨o_moves r k n (r (26 + 64 * k + f)) f t, rfl, fun hm => absurd (by rw [w_can_o]; exact hm) hc, fun hm => ?_⟩
        have cf : ∀ s, r (26 + 64 * k + f) = Int32.ofNat s → cnt (fun t => o_moves r k n (Int32.ofNat s) f t) (t + 1) = cnt (fun t => o_moves r k n (Int32.ofNat s) f t) t := fun s hr => by
          rw [hr] at hm
          exact cnt_f hm
        refine ih2 U u1 u2 ?_ ?_
        · rw [u3]
          by_cases h9 : r (26 + 64 * k + f) = Int32.ofNat 0
          · rw [if_pos h9, if_pos h9, cf 0 h9]
          · rw [if_neg h9, if_neg h9]
        · rw [u4]
          by_cases h9 : r (26 + 64 * k + f) = Int32.ofNat 1
          · rw [if_pos h9, if_pos h9, cf 1 h9]
          · rw [if_neg h9, if_neg h9]
