/-! ===== constructors: the class's ===== -/
/-- the row of a game with no letters yet, and what else is new -/
def R9 (b : Nat) (r0 : Nat → Int32) (z : ev_S) : Prop := z.2 = (0, 0) ∧ q_any z.1 (b + 11) r0 ∧ q_sh z.1 (b + 52) ∧ (∀ R, q_his z.1 (b + 93) R 0) ∧ (∀ s, s < 2 → q_sh z.1 (b + 423 + 41 * s)) ∧ (z.1 b 8 = 0 ∧ z.1 b 9 = 0 ∧ z.1 b 10 = 0 ∧ z.1 b 11 = -1) ∧ z.1 (b + 1) 1 = 0 ∧ z.1 (b + 9) 1 = 0
theorem x9_len : j_ishr (Int32.ofNat (ev_le.getD 0 0)) 0 = Int32.ofNat 154 := by decide
theorem x9_feed {g : ev_G} {b : Nat} {Q : ev_O → ev_S → Prop} : ∀ (k i : Nat) (S : ev_S), i + k = 154 → S.1 (b + 1) 1 = Int32.ofNat i → (∀ j, j < i → S.1 (b + 2) j = tx_0 j) →
    (∀ z : ev_S, z.2 = S.2 → (∀ q, q ≠ b + 1 → q ≠ b + 2 → z.1 q = S.1 q) → z.1 (b + 1) 1 = Int32.ofNat 154 → (∀ j, j < 154 → z.1 (b + 2) j = tx_0 j) →
      ev_Cv g m_X9_readSetup 7 0 [ev_o 9 b] z (fun o S1 => o = .inl none ∧ (ev_Cv g m_X2_copyFrom 4 0 [ev_o 2 (b + 11), ev_o 2 (b + 52)] S1 (fun o S2 => o = .inl none ∧ (∀ S3 : ev_S, S3 = (ev_up S2 (b + 1) 1 0) → (Q (.inl none) S3)))))) →
    ev_E g m_X9_init 8 0 99 [some (ev_o 9 b), some (ev_i (Int32.ofNat i))] [] S Q := by
  intro k
  have e800 : (800 : Int32) = Int32.ofNat 800 := rfl
  have e0 : (0 : Int32) = Int32.ofNat 0 := rfl
  induction k with
  | zero =>
    intro i S hi h1 hT hk
    refine sg_X9_init_99 (B := 0) b _ (j_pos (by rw [x9_len, n_le (by omega) (by omega)]; omega) ?_)
    have : i = 154 := by omega
    subst this
    exact hk S rfl (fun q _ _ => rfl) h1 hT
  | succ k ih =>
    intro i S hi h1 hT hk
    have hb := tx_byte (k := 0) rfl (i := i) (by omega)
    refine sg_X9_init_99 (B := 0) b _ (j_neg (by rw [x9_len, n_le (by omega) (by omega)]; omega) ⟨fun h => ?_, fun _ h => ?_, (n_vp (show i < 154 by omega) (by omega)).mpr trivial, hb.2, ?_⟩)
    · rw [e0, n_lt (by omega) (by omega)] at h; omega
    · refine h ?_
      show Int32.ofNat i < Int32.ofNat 154
      rw [n_lt (by omega) (by omega)]; omega
    · rw [hb.1]
      refine sg_X8_add_0 (b + 1) _ (j_neg (by rw [h1, e800, n_le (by omega) (by omega)]; omega) (fun S1 e1 S2 e2 => ⟨rfl, ?_⟩))
      rw [h1, a_put (by omega) (by omega)] at e1
      have e1' : S1 = ev_up S (b + 2) i (tx_0 i) := e1
      have s1 : S1.1 (b + 1) 1 = Int32.ofNat i := by rw [e1', m_r (by omega)]; exact h1
      rw [s1, n_inc] at e2
      rw [n_inc]
      refine ih (i + 1) S2 (by omega) (by rw [e2, m_s]) (fun j hj => ?_) (fun z z1 z2 z3 z4 => hk z (by rw [z1, e2, e1']; rfl) (fun q q1 q2 => by rw [z2 q q1 q2, e2, m_r q1, e1', m_r q2]) z3 z4)
      rw [e2, m_r (by omega), e1']
      by_cases hji : j = i
      · rw [hji, m_s]
      · rw [m_k hji]
        exact hT j (by omega)
theorem x9_end {g : ev_G} {S : ev_S} {b : Nat} {r0 : Nat → Int32} (hp : p_set (ct_r []) tx_0 154 = .inr r0) (h2 : S.2 = (0, 0)) (h1 : S.1 (b + 1) 1 = 0) (hs : q_sh S.1 (b + 52)) (hg : q_sh S.1 (b + 11)) (hh : ∀ R, q_his S.1 (b + 93) R 0) (hl : ∀ s, s < 2 → q_sh S.1 (b + 423 + 41 * s)) (hf : S.1 b 8 = 0 ∧ S.1 b 9 = 0 ∧ S.1 b 10 = 0 ∧ S.1 b 11 = -1) (ho : S.1 (b + 9) 1 = 0) :
    ev_E g m_X9_init 8 0 97 [some (ev_o 9 b), none] [] S (fun o z => o = .inl none ∧ R9 b r0 z) := by
  refine ev_iconst 0 dX9_init_97 (by decide) ?_
  refine ev_istore_n (k := 1) dX9_init_98 (show 1 < 2 from by decide) (ev_hw rfl) ?_
  refine x9_feed 154 0 S rfl h1 (fun j hj => absurd hj (Nat.not_lt_zero j)) (fun z z2 zq z1 zT => ?_)
  refine x_rset (A := ct_r []) (T := tx_0) (n := 154) (by omega) z1 zT ⟨by rw [zq _ (by omega) (by omega)]; exact hs.1, by rw [zq _ (by omega) (by omega)]; exact hs.2⟩ ⟨fun c p hc => ?_, fun r hr N lim np hi hnp y hy y7 y8 yg => ⟨rfl, ?_⟩⟩
  · rw [hp] at hc; cases hc
  rw [hp] at hr
  cases hr
  obtain ⟨hI, hk⟩ := i_su_IG hi
  have y11 : ∀ q, q ≠ b + 1 → q ≠ b + 2 → (q < b + 52 ∨ b + 88 ≤ q) → y.1 q = S.1 q := fun q q1 q2 q3 => (hy.2 q q1 q3).trans (zq q q1 q2)
  refine g_copied (a := b + 11) (b := b + 52) (by omega) hI (by rw [y11 _ (by omega) (by omega) (by omega)]; exact hg.1) (by rw [y11 _ (by omega) (by omega) (by omega)]; exact hg.2) yg (fun w w1 w2 w3 w4 => ⟨rfl, fun S3 e3 => ⟨rfl, ?_⟩⟩)
  have wq : ∀ q, q ≠ b + 1 → S3.1 q = w.1 q := fun q q1 => by rw [e3, m_r q1]
  have far : ∀ q, q ≠ b + 1 → q ≠ b + 2 → (q < b + 11 ∨ b + 88 ≤ q) → S3.1 q = S.1 q := fun q q1 q2 q3 => (wq q q1).trans ((w1.2 q (by omega)).trans (y11 q q1 q2 (by omega)))
  have hs52 := q_sh_gm yg
  refine ⟨by rw [e3]; exact w1.1.trans (hy.1.trans (z2.trans h2)), ⟨N, lim, np, 0, 0, [], hI, by omega, by omega, q_gm_frame (M := w.1) (fun q h1 h2 => wq q (by omega)) w4, hk⟩, ⟨?_, ?_⟩, fun R => q_his_fr (M := S.1) (fun q q1 q2 => far q (by omega) (by omega) (by omega)) (hh R), fun s hs => ?_, ⟨?_, ?_, ?_, ?_⟩, by rw [e3, m_s], ?_⟩
  · rw [wq _ (by omega), w1.2 _ (by omega)]; exact hs52.1
  · rw [wq _ (by omega), w1.2 _ (by omega)]; exact hs52.2
  · have := hl s hs
    exact ⟨by rw [far _ (by omega) (by omega) (by omega)]; exact this.1, by rw [far _ (by omega) (by omega) (by omega)]; exact this.2⟩
  · rw [far _ (by omega) (by omega) (by omega)]; exact hf.1
  · rw [far _ (by omega) (by omega) (by omega)]; exact hf.2.1
  · rw [far _ (by omega) (by omega) (by omega)]; exact hf.2.2.1
  · rw [far _ (by omega) (by omega) (by omega)]; exact hf.2.2.2
  · rw [far _ (by omega) (by omega) (by omega)]; exact ho
/-! what is new -/
theorem ct_sh9 : ∀ i, i < 8 → ct_row ct_t9 (93 + 2 + 41 * i + 1) 0 = 0 ∧ ct_row ct_t9 (93 + 2 + 41 * i + 10) 0 = 1 := by decide +kernel
theorem ct_shs : ∀ s, s < 2 → ct_row ct_t9 (423 + 41 * s + 1) 0 = 0 ∧ ct_row ct_t9 (423 + 41 * s + 10) 0 = 1 := by decide +kernel
theorem ct_sh0 : (ct_row ct_t9 (11 + 1) 0 = 0 ∧ ct_row ct_t9 (11 + 10) 0 = 1) ∧ (ct_row ct_t9 (52 + 1) 0 = 0 ∧ ct_row ct_t9 (52 + 10) 0 = 1) := by decide +kernel
theorem ct_r9 : (ct_row ct_t9 0 8 = 0 ∧ ct_row ct_t9 0 9 = 0 ∧ ct_row ct_t9 0 10 = 0 ∧ ct_row ct_t9 0 11 = -1) ∧ ct_row ct_t9 1 1 = 0 ∧ ct_row ct_t9 9 1 = 0 ∧ ct_row ct_t9 93 1 = 0 ∧ ct_row ct_t9 93 2 = 0 := by decide +kernel
theorem x9_new {g : ev_G} {S : ev_S} {b : Nat} {r0 : Nat → Int32} (hp : p_set (ct_r []) tx_0 154 = .inr r0) (h2 : S.2 = (0, 0)) (hM : ∀ i, S.1 (b + i) = ct_row ct_t9 i) : ev_E g m_X9_init 8 0 97 [some (ev_o 9 b), none] [] S (fun o z => o = .inl none ∧ R9 b r0 z) := by
  have hM0 : S.1 b = ct_row ct_t9 0 := hM 0
  refine x9_end hp h2 (by rw [hM]; exact ct_r9.2.1) ⟨by rw [Nat.add_assoc, hM]; exact ct_sh0.2.1, by rw [Nat.add_assoc, hM]; exact ct_sh0.2.2⟩ ⟨by rw [Nat.add_assoc, hM]; exact ct_sh0.1.1, by rw [Nat.add_assoc, hM]; exact ct_sh0.1.2⟩ (fun R => ⟨?_, by omega, 0, by omega, ?_, fun i hi => ⟨?_, ?_⟩, fun i hi => absurd hi (Nat.not_lt_zero i)⟩) (fun s hs => ⟨?_, ?_⟩) ⟨?_, ?_, ?_, ?_⟩ (by rw [hM]; exact ct_r9.2.2.1)
  · rw [hM]; exact ct_r9.2.2.2.1
  · rw [hM]; exact ct_r9.2.2.2.2
  · rw [show b + 93 + 2 + 41 * i + 1 = b + (93 + 2 + 41 * i + 1) by omega, hM]; exact (ct_sh9 i hi).1
  · rw [show b + 93 + 2 + 41 * i + 10 = b + (93 + 2 + 41 * i + 10) by omega, hM]; exact (ct_sh9 i hi).2
  · rw [show b + 423 + 41 * s + 1 = b + (423 + 41 * s + 1) by omega, hM]; exact (ct_shs s hs).1
  · rw [show b + 423 + 41 * s + 10 = b + (423 + 41 * s + 10) by omega, hM]; exact (ct_shs s hs).2
  · rw [hM0]; exact ct_r9.1.1
  · rw [hM0]; exact ct_r9.1.2.1
  · rw [hM0]; exact ct_r9.1.2.2.1
  · rw [hM0]; exact ct_r9.1.2.2.2
theorem c_ct9 {g : ev_G} {a : Nat} {r0 : Nat → Int32} (hn : ev_n g = 505) (ha : a = ev_b g) (hp : p_set (ct_r []) tx_0 154 = .inr r0) : ct_Met g m_X9_init 9 a 8 504 25772 (fun _ => True) ct_f9 [] (ct_Qw g (R9 a r0)) (ev_A g) := by
  refine ct_enter (L := [(0, .ref a)]) (by decide) rfl rfl rfl rfl rfl (Nat.le_of_ble_eq_true rfl) (fun q h => by rw [ha] at h; exact h) ?_
  refine ct_aload0 dX9_init_0 ?_
  refine ct_super dX9_init_1 kz_139 kz_140 kz_141 ?_
  refine ct_aload0 dX9_init_4 ?_
  refine ct_child0 ci_8 8 0 1 800 1 ct_f8 ct_t8 tyX8 dX9_init_5 dX9_init_8 dX9_init_9 rfl in_8 tyX8_ok ct_d8 kz_142 kz_143 kz_110 (Or.inl ⟨"MulePostBishops", List.mem_of_getElem? (i := 0) (by decide +kernel)⟩) c_ct8 (by simp only [List.length_append, List.length_cons, List.length_nil, ct_l0, ct_l1, ct_l5, ct_l6, ct_l2, ct_l7, ct_l4, ct_l8, ct_l3]) (Nat.le_of_ble_eq_true rfl) (Nat.le_of_ble_eq_true rfl) ct_l8 (Nat.le_of_ble_eq_true rfl) (Nat.le_of_ble_eq_true rfl) ?_
  refine ct_putF 0 tyX9 [.ref (a + 1), .null, .null, .null, .null, .null, .null, .null, .int 0, .int 0, .int 0, .int 0] dX9_init_12 rfl in_9 tyX9_ok nmX9 (by decide) kz_687 rfl rfl rfl rfl (Nat.le_of_ble_eq_true rfl) rfl ?_
  refine ct_aload0 dX9_init_15 ?_
  refine ct_child0 ci_7 7 0 5 542 3 ct_f7 ct_t7 tyX7 dX9_init_16 dX9_init_19 dX9_init_20 rfl in_7 tyX7_ok ct_d7 kz_177 kz_178 kz_111 (Or.inl ⟨"MulePostBishops", List.mem_of_getElem? (i := 1) (by decide +kernel)⟩) c_ct7 (by simp only [List.length_append, List.length_cons, List.length_nil, ct_l0, ct_l1, ct_l5, ct_l6, ct_l2, ct_l7, ct_l4, ct_l8, ct_l3]) (Nat.le_of_ble_eq_true rfl) (Nat.le_of_ble_eq_true rfl) ct_l7 (Nat.le_of_ble_eq_true rfl) (Nat.le_of_ble_eq_true rfl) ?_
  refine ct_putF 1 tyX9 [.ref (a + 1), .ref (a + 3), .null, .null, .null, .null, .null, .null, .int 0, .int 0, .int 0, .int 0] dX9_init_23 rfl in_9 tyX9_ok nmX9 (by decide) kz_688 rfl rfl rfl rfl (Nat.le_of_ble_eq_true rfl) rfl ?_
  refine ct_aload0 dX9_init_26 ?_
  refine ct_child0 ci_4 4 0 1 400 9 ct_f4 ct_t4 tyX4 dX9_init_27 dX9_init_30 dX9_init_31 rfl in_4 tyX4_ok ct_d4 kz_208 kz_209 kz_112 (Or.inl ⟨"MulePostBishops", List.mem_of_getElem? (i := 2) (by decide +kernel)⟩) c_ct4 (by simp only [List.length_append, List.length_cons, List.length_nil, ct_l0, ct_l1, ct_l5, ct_l6, ct_l2, ct_l7, ct_l4, ct_l8, ct_l3]) (Nat.le_of_ble_eq_true rfl) (Nat.le_of_ble_eq_true rfl) ct_l4 (Nat.le_of_ble_eq_true rfl) (Nat.le_of_ble_eq_true rfl) ?_
  refine ct_putF 2 tyX9 [.ref (a + 1), .ref (a + 3), .ref (a + 9), .null, .null, .null, .null, .null, .int 0, .int 0, .int 0, .int 0] dX9_init_34 rfl in_9 tyX9_ok nmX9 (by decide) kz_689 rfl rfl rfl rfl (Nat.le_of_ble_eq_true rfl) rfl ?_
  refine ct_aload0 dX9_init_37 ?_
  refine ct_child0 ci_2 2 2 40 1994 11 ct_f2 ct_t2 tyX2 dX9_init_38 dX9_init_41 dX9_init_42 rfl in_2 tyX2_ok ct_d2 kz_221 kz_222 kz_113 (Or.inl ⟨"MulePostBishops", List.mem_of_getElem? (i := 3) (by decide +kernel)⟩) c_ct2 (by simp only [List.length_append, List.length_cons, List.length_nil, ct_l0, ct_l1, ct_l5, ct_l6, ct_l2, ct_l7, ct_l4, ct_l8, ct_l3]) (Nat.le_of_ble_eq_true rfl) (Nat.le_of_ble_eq_true rfl) ct_l2 (Nat.le_of_ble_eq_true rfl) (Nat.le_of_ble_eq_true rfl) ?_
  refine ct_putF 3 tyX9 [.ref (a + 1), .ref (a + 3), .ref (a + 9), .ref (a + 11), .null, .null, .null, .null, .int 0, .int 0, .int 0, .int 0] dX9_init_45 rfl in_9 tyX9_ok nmX9 (by decide) kz_690 rfl rfl rfl rfl (Nat.le_of_ble_eq_true rfl) rfl ?_
  refine ct_aload0 dX9_init_48 ?_
  refine ct_child0 ci_2 2 2 40 1994 52 ct_f2 ct_t2 tyX2 dX9_init_49 dX9_init_52 dX9_init_53 rfl in_2 tyX2_ok ct_d2 kz_221 kz_222 kz_113 (Or.inl ⟨"MulePostBishops", List.mem_of_getElem? (i := 3) (by decide +kernel)⟩) c_ct2 (by simp only [List.length_append, List.length_cons, List.length_nil, ct_l0, ct_l1, ct_l5, ct_l6, ct_l2, ct_l7, ct_l4, ct_l8, ct_l3]) (Nat.le_of_ble_eq_true rfl) (Nat.le_of_ble_eq_true rfl) ct_l2 (Nat.le_of_ble_eq_true rfl) (Nat.le_of_ble_eq_true rfl) ?_
  refine ct_putF 4 tyX9 [.ref (a + 1), .ref (a + 3), .ref (a + 9), .ref (a + 11), .ref (a + 52), .null, .null, .null, .int 0, .int 0, .int 0, .int 0] dX9_init_56 rfl in_9 tyX9_ok nmX9 (by decide) kz_691 rfl rfl rfl rfl (Nat.le_of_ble_eq_true rfl) rfl ?_
  refine ct_aload0 dX9_init_59 ?_
  refine ct_child0 ci_3 3 3 329 16008 93 ct_f3 ct_t3 tyX3 dX9_init_60 dX9_init_63 dX9_init_64 rfl in_3 tyX3_ok ct_d3 kz_405 kz_406 kz_118 (Or.inr kz_407) c_ct3 (by simp only [List.length_append, List.length_cons, List.length_nil, ct_l0, ct_l1, ct_l5, ct_l6, ct_l2, ct_l7, ct_l4, ct_l8, ct_l3]) (Nat.le_of_ble_eq_true rfl) (Nat.le_of_ble_eq_true rfl) ct_l3 (Nat.le_of_ble_eq_true rfl) (Nat.le_of_ble_eq_true rfl) ?_
  refine ct_putF 5 tyX9 [.ref (a + 1), .ref (a + 3), .ref (a + 9), .ref (a + 11), .ref (a + 52), .ref (a + 93), .null, .null, .int 0, .int 0, .int 0, .int 0] dX9_init_67 rfl in_9 tyX9_ok nmX9 (by decide) kz_692 rfl rfl rfl rfl (Nat.le_of_ble_eq_true rfl) rfl ?_
  refine ct_aload0 dX9_init_70 ?_
  refine ct_child0 ci_2 2 2 40 1994 423 ct_f2 ct_t2 tyX2 dX9_init_71 dX9_init_74 dX9_init_75 rfl in_2 tyX2_ok ct_d2 kz_221 kz_222 kz_113 (Or.inl ⟨"MulePostBishops", List.mem_of_getElem? (i := 3) (by decide +kernel)⟩) c_ct2 (by simp only [List.length_append, List.length_cons, List.length_nil, ct_l0, ct_l1, ct_l5, ct_l6, ct_l2, ct_l7, ct_l4, ct_l8, ct_l3]) (Nat.le_of_ble_eq_true rfl) (Nat.le_of_ble_eq_true rfl) ct_l2 (Nat.le_of_ble_eq_true rfl) (Nat.le_of_ble_eq_true rfl) ?_
  refine ct_putF 6 tyX9 [.ref (a + 1), .ref (a + 3), .ref (a + 9), .ref (a + 11), .ref (a + 52), .ref (a + 93), .ref (a + 423), .null, .int 0, .int 0, .int 0, .int 0] dX9_init_78 rfl in_9 tyX9_ok nmX9 (by decide) kz_693 rfl rfl rfl rfl (Nat.le_of_ble_eq_true rfl) rfl ?_
  refine ct_aload0 dX9_init_81 ?_
  refine ct_child0 ci_2 2 2 40 1994 464 ct_f2 ct_t2 tyX2 dX9_init_82 dX9_init_85 dX9_init_86 rfl in_2 tyX2_ok ct_d2 kz_221 kz_222 kz_113 (Or.inl ⟨"MulePostBishops", List.mem_of_getElem? (i := 3) (by decide +kernel)⟩) c_ct2 (by simp only [List.length_append, List.length_cons, List.length_nil, ct_l0, ct_l1, ct_l5, ct_l6, ct_l2, ct_l7, ct_l4, ct_l8, ct_l3]) (Nat.le_of_ble_eq_true rfl) (Nat.le_of_ble_eq_true rfl) ct_l2 (Nat.le_of_ble_eq_true rfl) (Nat.le_of_ble_eq_true rfl) ?_
  refine ct_putF 7 tyX9 [.ref (a + 1), .ref (a + 3), .ref (a + 9), .ref (a + 11), .ref (a + 52), .ref (a + 93), .ref (a + 423), .ref (a + 464), .int 0, .int 0, .int 0, .int 0] dX9_init_89 rfl in_9 tyX9_ok nmX9 (by decide) kz_694 rfl rfl rfl rfl (Nat.le_of_ble_eq_true rfl) rfl ?_
  refine ct_aload0 dX9_init_92 ?_
  refine ct_iconst (-1) dX9_init_93 (by decide) ?_
  refine ct_putI 11 tyX9 [.ref (a + 1), .ref (a + 3), .ref (a + 9), .ref (a + 11), .ref (a + 52), .ref (a + 93), .ref (a + 423), .ref (a + 464), .int 0, .int 0, .int 0, .int (-1)] dX9_init_94 rfl in_9 tyX9_ok nmX9 (by decide) kz_698 rfl rfl rfl (Nat.le_of_ble_eq_true rfl) rfl ?_
  refine ct_toE (S := (fun q => ct_row ct_t9 (q - a), (0, 0))) (Lv := [some (ev_o 9 a), none]) (Nat.le_of_ble_eq_true rfl) (Nat.le_of_ble_eq_true rfl) rfl rfl (fun ls hl => ct_has hl rfl (fun i v hi => ?_)) (fun H0 H locs _ _ _ o t => ct_ws_P (fun i hi => ?_)) ?_
  · match i, hi with
    | 0, hi => cases hi; exact ⟨List.mem_cons_self, Or.inl hn, 0, ha, by omega, by omega, rfl⟩
    | 1, hi => cases hi
    | i + 2, hi => simp at hi
  · have hP : ct_P g ct_t9 (ev_b g + 0) H := by
      rw [Nat.add_zero, ← ha]
      exact ct_P.cons o t
    have h9 := ct_ent (g := g) (S := (fun q => ct_row ct_t9 (q - a), (0, 0))) (tl := ct_t9) (n0 := 0) (by rw [List.drop_zero, ct_l9]; exact ct_k9) (fun i _ => by
      show ct_row ct_t9 (ev_b g + 0 + i - a) = _
      rw [Nat.add_zero, ha, Nat.add_sub_cancel_left]) rfl hP i (by rw [ct_l9]; omega)
    rwa [Nat.zero_add] at h9
  · refine x9_new hp rfl (fun i => ?_)
    show ct_row ct_t9 (a + i - a) = _
    rw [Nat.add_sub_cancel_left]
