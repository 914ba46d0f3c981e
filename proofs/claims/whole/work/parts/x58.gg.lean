/-! ===== constructors: the reference's ===== -/
/-- the same, with n things -/
def ev_gn (g : ev_G) (n : Nat) : ev_G := ((ev_b g, n), g.2)
theorem ev_ent_n {g : ev_G} {n : Nat} {S : ev_S} {a : Nat} : ev_ent (ev_gn g n) S a = ev_en g (ev_kd (a - ev_b g)) (S.1 a) S.2 a := rfl
def R10 (m : Nat) (r0 : Nat → Int32) (z z' : ev_S) : Prop := z'.2 = z.2 ∧ (∀ q, q < m → z'.1 q = z.1 q) ∧ z'.1 (m + 1) = r0 ∧ (z'.1 m 6 = 0 ∧ z'.1 m 8 = -1 ∧ z'.1 m 10 = 0 ∧ z'.1 m 11 = 0 ∧ z'.1 m 12 = -1 ∧ z'.1 m 23 = 0 ∧ z'.1 m 27 = 0) ∧ ∀ s, s < 2 → z'.1 (m + 6) s = 0
theorem x10_len : j_ishr (Int32.ofNat (ev_le.getD 27 0)) 0 = Int32.ofNat 154 := by decide
theorem x10_feed {g : ev_G} {a : Nat} {Q : ev_O → ev_S → Prop} : ∀ (k i : Nat) (S : ev_S), i + k = 154 → (∀ j, j < i → S.1 (a + 7) j = tx_0 j) →
    (∀ z : ev_S, z.2 = S.2 → (∀ q, q ≠ a + 7 → z.1 q = S.1 q) → (∀ j, j < 154 → z.1 (a + 7) j = tx_0 j) →
      ev_Cv g m_X10_begins 2 0 [ev_o 10 a] (ev_up z a 10 (Int32.ofNat 154)) (fun o S2 => o = .inl none ∧ (ev_Cv g m_X10_starts 3 0 [ev_o 10 a] S2 (fun o S3 => o = .inl none ∧ (ev_Cv g m_X10_readsSetup 7 0 [ev_o 10 a] S3 (fun o S4 => o = .inl none ∧ (∀ S5 : ev_S, S5 = (ev_up S4 a 10 0) → (Q (.inl none) S5)))))))) →
    ev_E g m_X10_takesText 8 0 2 [some (ev_o 10 a), some (ev_x 1 27), some (ev_i (Int32.ofNat i))] [] S Q := by
  intro k
  have e0 : (0 : Int32) = Int32.ofNat 0 := rfl
  induction k with
  | zero =>
    intro i S hi hT hk
    refine sg_X10_takesText_2 a 27 _ (j_pos (by rw [x10_len, n_le (by omega) (by omega)]; omega) (fun S1 e1 => ?_))
    have : i = 154 := by omega
    subst this
    rw [x10_len] at e1
    rw [e1]
    exact hk S rfl (fun q _ => rfl) hT
  | succ k ih =>
    intro i S hi hT hk
    have hb := tx_byte (k := 27) tx_27 (i := i) (by omega)
    refine sg_X10_takesText_2 a 27 _ (j_neg (by rw [x10_len, n_le (by omega) (by omega)]; omega) ⟨fun h => ?_, fun _ h => ?_, (n_vp (show i < 154 by omega) (by omega)).mpr trivial, hb.2, (n_vp (show i < 800 by omega) (by omega)).mpr trivial, fun S1 e1 => ?_⟩)
    · rw [e0, n_lt (by omega) (by omega)] at h; omega
    · refine h ?_
      show Int32.ofNat i < Int32.ofNat 154
      rw [n_lt (by omega) (by omega)]; omega
    · rw [hb.1, n_c (by omega)] at e1
      rw [n_inc]
      refine ih (i + 1) S1 (by omega) (fun j hj => ?_) (fun z z1 z2 z4 => hk z (by rw [z1, e1]; rfl) (fun q q1 => by rw [z2 q q1, e1, m_r q1]) z4)
      rw [e1]
      by_cases hji : j = i
      · rw [hji, m_s]
      · rw [m_k hji]
        exact hT j (by omega)
theorem x10_end {g : ev_G} {S z : ev_S} {a : Nat} {r0 : Nat → Int32} (hp : p_set (ct_r []) tx_0 154 = .inr r0) (h2 : S.2 = z.2) (hz : ∀ q, q < a → S.1 q = z.1 q) (h1 : S.1 (a + 1) = ct_r []) (h6 : ∀ s, s < 2 → S.1 (a + 6) s = 0) (hf : S.1 a 6 = 0 ∧ S.1 a 8 = -1 ∧ S.1 a 11 = 0 ∧ S.1 a 12 = -1 ∧ S.1 a 23 = 0 ∧ S.1 a 27 = 0) :
    ev_E g m_X10_init 9 0 101 [some (ev_o 10 a)] [] S (fun o z' => o = .inl none ∧ R10 a r0 z z') := by
  refine sg_X10_init_101 (B := 0) a ?_
  refine sg_X10_takesText_0 a 27 ?_
  refine x10_feed 154 0 S rfl (fun j hj => absurd hj (Nat.not_lt_zero j)) (fun y y2 yq yT => ?_)
  refine c_begins a _ ⟨rfl, ?_⟩
  have e1 : (ev_up y a 10 (Int32.ofNat 154)).1 (a + 1) = ct_r [] := by rw [m_r (by omega), yq _ (by omega)]; exact h1
  rw [e1]
  generalize hB : ev_ur (ev_up y a 10 (Int32.ofNat 154)) (a + 1) (o_beg (ct_r [])) = B
  have bq : ∀ q, q ≠ a → q ≠ a + 1 → q ≠ a + 7 → B.1 q = S.1 q := fun q q0 q1 q7 => by rw [← hB, r_r q1, m_r q0, yq q q7]
  have b7 : B.1 (a + 7) = y.1 (a + 7) := by rw [← hB, r_r (by omega), m_r (by omega)]
  have b1 : B.1 (a + 1) = o_beg (ct_r []) := by rw [← hB, r_s]
  have bk : ∀ i, i ≠ 10 → B.1 a i = S.1 a i := fun i hi => by rw [← hB, r_r (by omega), m_k hi, yq a (by omega)]
  have b10 : B.1 a 10 = Int32.ofNat 154 := by rw [← hB, r_r (by omega), m_s]
  have b2 : B.2 = S.2 := by rw [← hB]; exact y2
  refine c_start (T := tx_0) (n := 154) (by omega) (fun j hj => tx_no hj) b10 (fun j hj => by rw [b7]; exact yT j hj) (fun x x1 x2 => ⟨rfl, ?_⟩)
  refine c_rset (A := ct_r []) (by omega) (fun j hj => tx_no hj) x2 (by rw [x1.2.1 _ (by omega)]; exact b1) ⟨fun c p hc => ?_, fun r hr N lim np hi hnp w hw w17 w18 wr => ⟨rfl, fun S5 e5 => ⟨rfl, ⟨rfl, ?_⟩⟩⟩⟩
  · rw [hp] at hc; cases hc
  rw [hp] at hr
  cases hr
  have far : ∀ q, q ≠ a → q ≠ a + 1 → q ≠ a + 7 → S5.1 q = S.1 q := fun q q0 q1 q7 => by rw [e5, m_r q0, hw.2.1 q q0 q1, x1.2.1 q q0, bq q q0 q1 q7]
  have fa : ∀ i, i ≠ 10 → (i < 13 ∨ 18 < i) → S5.1 a i = S.1 a i := fun i h10 hi => by rw [e5, m_k h10, hw.2.2 i hi, x1.2.2 i hi, bk i h10]
  refine ⟨by rw [e5]; exact hw.1.trans (x1.1.trans (b2.trans h2)), fun q hq => (far q (by omega) (by omega) (by omega)).trans (hz q hq), by rw [e5, m_r (by omega)]; exact wr, ⟨?_, ?_, ?_, ?_, ?_, ?_, ?_⟩, fun s hs => by rw [far _ (by omega) (by omega) (by omega)]; exact h6 s hs⟩
  · rw [fa _ (by omega) (by omega)]; exact hf.1
  · rw [fa _ (by omega) (by omega)]; exact hf.2.1
  · rw [e5, m_s]
  · rw [fa _ (by omega) (by omega)]; exact hf.2.2.1
  · rw [fa _ (by omega) (by omega)]; exact hf.2.2.2.1
  · rw [fa _ (by omega) (by omega)]; exact hf.2.2.2.2.1
  · rw [fa _ (by omega) (by omega)]; exact hf.2.2.2.2.2
theorem ct_r10 : (ct_row ct_t10 0 6 = 0 ∧ ct_row ct_t10 0 8 = -1 ∧ ct_row ct_t10 0 11 = 0 ∧ ct_row ct_t10 0 12 = -1 ∧ ct_row ct_t10 0 23 = 0 ∧ ct_row ct_t10 0 27 = 0) ∧ ∀ s, s < 2 → ct_row ct_t10 6 s = 0 := by decide +kernel
theorem c_ct10 {g : ev_G} {a : Nat} {r0 : Nat → Int32} {z : ev_S} (ha : a = ev_b g + 505) (hp : p_set (ct_r []) tx_0 154 = .inr r0) (hz2 : z.2 = (0, 0)) :
    ct_Met (ev_gn g 516) m_X10_init 10 a 9 10 28695 (fun H0 => va_P (ev_D g) ev_cl (ev_ws (ev_gn g 505) z) H0) ct_f10 [] (ct_Qw (ev_gn g 516) (R10 a r0 z)) (ev_A g) := by
  refine ct_enter (L := [(0, .ref a)]) (by decide) rfl rfl rfl rfl rfl (Nat.le_of_ble_eq_true rfl) (fun q h => by rw [ha] at h; show ev_b g ≤ q; omega) ?_
  refine ct_aload0 dX10_init_0 ?_
  refine ct_super dX10_init_1 kz_1753 kz_140 kz_141 ?_
  refine ct_aload0 dX10_init_4 ?_
  refine ct_sipush (2091) dX10_init_5 (by decide) ?_
  refine ct_newarr 2091 1 dX10_init_8 kz_176 (by decide) (by decide) (by decide) (by simp only [List.length_append, List.length_cons, List.length_nil, ct_l0, ct_l1, ct_l5, ct_l6, ct_l2, ct_l7, ct_l4, ct_l8, ct_l3]) (Nat.le_of_ble_eq_true rfl) (Nat.le_of_ble_eq_true rfl) ?_
  refine ct_putF 0 tyX10 [.ref (a + 1), .null, .null, .null, .null, .null, .int 0, .int 0, .int 0, .null, .int 0, .int 0, .int 0, .int 0, .int 0, .int 0, .int 0, .int 0, .int 0, .null, .null, .int 0, .int 0, .int 0, .int 0, .int 0, .null, .int 0] dX10_init_10 rfl in_10 tyX10_ok nmX10 (by decide) kz_1853 rfl rfl rfl rfl (Nat.le_of_ble_eq_true rfl) rfl ?_
  refine ct_aload0 dX10_init_13 ?_
  refine ct_sipush (2091) dX10_init_14 (by decide) ?_
  refine ct_newarr 2091 2 dX10_init_17 kz_176 (by decide) (by decide) (by decide) (by simp only [List.length_append, List.length_cons, List.length_nil, ct_l0, ct_l1, ct_l5, ct_l6, ct_l2, ct_l7, ct_l4, ct_l8, ct_l3]) (Nat.le_of_ble_eq_true rfl) (Nat.le_of_ble_eq_true rfl) ?_
  refine ct_putF 1 tyX10 [.ref (a + 1), .ref (a + 2), .null, .null, .null, .null, .int 0, .int 0, .int 0, .null, .int 0, .int 0, .int 0, .int 0, .int 0, .int 0, .int 0, .int 0, .int 0, .null, .null, .int 0, .int 0, .int 0, .int 0, .int 0, .null, .int 0] dX10_init_19 rfl in_10 tyX10_ok nmX10 (by decide) kz_1854 rfl rfl rfl rfl (Nat.le_of_ble_eq_true rfl) rfl ?_
  refine ct_aload0 dX10_init_22 ?_
  refine ct_sipush (2091) dX10_init_23 (by decide) ?_
  refine ct_newarr 2091 3 dX10_init_26 kz_176 (by decide) (by decide) (by decide) (by simp only [List.length_append, List.length_cons, List.length_nil, ct_l0, ct_l1, ct_l5, ct_l6, ct_l2, ct_l7, ct_l4, ct_l8, ct_l3]) (Nat.le_of_ble_eq_true rfl) (Nat.le_of_ble_eq_true rfl) ?_
  refine ct_putF 2 tyX10 [.ref (a + 1), .ref (a + 2), .ref (a + 3), .null, .null, .null, .int 0, .int 0, .int 0, .null, .int 0, .int 0, .int 0, .int 0, .int 0, .int 0, .int 0, .int 0, .int 0, .null, .null, .int 0, .int 0, .int 0, .int 0, .int 0, .null, .int 0] dX10_init_28 rfl in_10 tyX10_ok nmX10 (by decide) kz_1855 rfl rfl rfl rfl (Nat.le_of_ble_eq_true rfl) rfl ?_
  refine ct_aload0 dX10_init_31 ?_
  refine ct_sipush (16728) dX10_init_32 (by decide) ?_
  refine ct_newarr 16728 4 dX10_init_35 kz_176 (by decide) (by decide) (by decide) (by simp only [List.length_append, List.length_cons, List.length_nil, ct_l0, ct_l1, ct_l5, ct_l6, ct_l2, ct_l7, ct_l4, ct_l8, ct_l3]) (Nat.le_of_ble_eq_true rfl) (Nat.le_of_ble_eq_true rfl) ?_
  refine ct_putF 3 tyX10 [.ref (a + 1), .ref (a + 2), .ref (a + 3), .ref (a + 4), .null, .null, .int 0, .int 0, .int 0, .null, .int 0, .int 0, .int 0, .int 0, .int 0, .int 0, .int 0, .int 0, .int 0, .null, .null, .int 0, .int 0, .int 0, .int 0, .int 0, .null, .int 0] dX10_init_37 rfl in_10 tyX10_ok nmX10 (by decide) kz_1856 rfl rfl rfl rfl (Nat.le_of_ble_eq_true rfl) rfl ?_
  refine ct_aload0 dX10_init_40 ?_
  refine ct_sipush (4182) dX10_init_41 (by decide) ?_
  refine ct_newarr 4182 5 dX10_init_44 kz_176 (by decide) (by decide) (by decide) (by simp only [List.length_append, List.length_cons, List.length_nil, ct_l0, ct_l1, ct_l5, ct_l6, ct_l2, ct_l7, ct_l4, ct_l8, ct_l3]) (Nat.le_of_ble_eq_true rfl) (Nat.le_of_ble_eq_true rfl) ?_
  refine ct_putF 4 tyX10 [.ref (a + 1), .ref (a + 2), .ref (a + 3), .ref (a + 4), .ref (a + 5), .null, .int 0, .int 0, .int 0, .null, .int 0, .int 0, .int 0, .int 0, .int 0, .int 0, .int 0, .int 0, .int 0, .null, .null, .int 0, .int 0, .int 0, .int 0, .int 0, .null, .int 0] dX10_init_46 rfl in_10 tyX10_ok nmX10 (by decide) kz_1857 rfl rfl rfl rfl (Nat.le_of_ble_eq_true rfl) rfl ?_
  refine ct_aload0 dX10_init_49 ?_
  refine ct_iconst (2) dX10_init_50 (by decide) ?_
  refine ct_newarrZ 2 6 dX10_init_51 kz_1938 (by decide) (by decide) (by decide) (by simp only [List.length_append, List.length_cons, List.length_nil, ct_l0, ct_l1, ct_l5, ct_l6, ct_l2, ct_l7, ct_l4, ct_l8, ct_l3]) (Nat.le_of_ble_eq_true rfl) (Nat.le_of_ble_eq_true rfl) ?_
  refine ct_putF 5 tyX10 [.ref (a + 1), .ref (a + 2), .ref (a + 3), .ref (a + 4), .ref (a + 5), .ref (a + 6), .int 0, .int 0, .int 0, .null, .int 0, .int 0, .int 0, .int 0, .int 0, .int 0, .int 0, .int 0, .int 0, .null, .null, .int 0, .int 0, .int 0, .int 0, .int 0, .null, .int 0] dX10_init_53 rfl in_10 tyX10_ok nmX10 (by decide) kz_1858 rfl rfl rfl rfl (Nat.le_of_ble_eq_true rfl) rfl ?_
  refine ct_aload0 dX10_init_56 ?_
  refine ct_iconst (-1) dX10_init_57 (by decide) ?_
  refine ct_putI 8 tyX10 [.ref (a + 1), .ref (a + 2), .ref (a + 3), .ref (a + 4), .ref (a + 5), .ref (a + 6), .int 0, .int 0, .int (-1), .null, .int 0, .int 0, .int 0, .int 0, .int 0, .int 0, .int 0, .int 0, .int 0, .null, .null, .int 0, .int 0, .int 0, .int 0, .int 0, .null, .int 0] dX10_init_58 rfl in_10 tyX10_ok nmX10 (by decide) kz_1861 rfl rfl rfl (Nat.le_of_ble_eq_true rfl) rfl ?_
  refine ct_aload0 dX10_init_61 ?_
  refine ct_sipush (800) dX10_init_62 (by decide) ?_
  refine ct_newarr 800 7 dX10_init_65 kz_176 (by decide) (by decide) (by decide) (by simp only [List.length_append, List.length_cons, List.length_nil, ct_l0, ct_l1, ct_l5, ct_l6, ct_l2, ct_l7, ct_l4, ct_l8, ct_l3]) (Nat.le_of_ble_eq_true rfl) (Nat.le_of_ble_eq_true rfl) ?_
  refine ct_putF 9 tyX10 [.ref (a + 1), .ref (a + 2), .ref (a + 3), .ref (a + 4), .ref (a + 5), .ref (a + 6), .int 0, .int 0, .int (-1), .ref (a + 7), .int 0, .int 0, .int 0, .int 0, .int 0, .int 0, .int 0, .int 0, .int 0, .null, .null, .int 0, .int 0, .int 0, .int 0, .int 0, .null, .int 0] dX10_init_67 rfl in_10 tyX10_ok nmX10 (by decide) kz_1862 rfl rfl rfl rfl (Nat.le_of_ble_eq_true rfl) rfl ?_
  refine ct_aload0 dX10_init_70 ?_
  refine ct_iconst (-1) dX10_init_71 (by decide) ?_
  refine ct_putI 12 tyX10 [.ref (a + 1), .ref (a + 2), .ref (a + 3), .ref (a + 4), .ref (a + 5), .ref (a + 6), .int 0, .int 0, .int (-1), .ref (a + 7), .int 0, .int 0, .int (-1), .int 0, .int 0, .int 0, .int 0, .int 0, .int 0, .null, .null, .int 0, .int 0, .int 0, .int 0, .int 0, .null, .int 0] dX10_init_72 rfl in_10 tyX10_ok nmX10 (by decide) kz_1865 rfl rfl rfl (Nat.le_of_ble_eq_true rfl) rfl ?_
  refine ct_aload0 dX10_init_75 ?_
  refine ct_bipush (30) dX10_init_76 (by decide) ?_
  refine ct_newarr 30 8 dX10_init_78 kz_176 (by decide) (by decide) (by decide) (by simp only [List.length_append, List.length_cons, List.length_nil, ct_l0, ct_l1, ct_l5, ct_l6, ct_l2, ct_l7, ct_l4, ct_l8, ct_l3]) (Nat.le_of_ble_eq_true rfl) (Nat.le_of_ble_eq_true rfl) ?_
  refine ct_putF 19 tyX10 [.ref (a + 1), .ref (a + 2), .ref (a + 3), .ref (a + 4), .ref (a + 5), .ref (a + 6), .int 0, .int 0, .int (-1), .ref (a + 7), .int 0, .int 0, .int (-1), .int 0, .int 0, .int 0, .int 0, .int 0, .int 0, .ref (a + 8), .null, .int 0, .int 0, .int 0, .int 0, .int 0, .null, .int 0] dX10_init_80 rfl in_10 tyX10_ok nmX10 (by decide) kz_1872 rfl rfl rfl rfl (Nat.le_of_ble_eq_true rfl) rfl ?_
  refine ct_aload0 dX10_init_83 ?_
  refine ct_sipush (180) dX10_init_84 (by decide) ?_
  refine ct_newarr 180 9 dX10_init_87 kz_176 (by decide) (by decide) (by decide) (by simp only [List.length_append, List.length_cons, List.length_nil, ct_l0, ct_l1, ct_l5, ct_l6, ct_l2, ct_l7, ct_l4, ct_l8, ct_l3]) (Nat.le_of_ble_eq_true rfl) (Nat.le_of_ble_eq_true rfl) ?_
  refine ct_putF 20 tyX10 [.ref (a + 1), .ref (a + 2), .ref (a + 3), .ref (a + 4), .ref (a + 5), .ref (a + 6), .int 0, .int 0, .int (-1), .ref (a + 7), .int 0, .int 0, .int (-1), .int 0, .int 0, .int 0, .int 0, .int 0, .int 0, .ref (a + 8), .ref (a + 9), .int 0, .int 0, .int 0, .int 0, .int 0, .null, .int 0] dX10_init_89 rfl in_10 tyX10_ok nmX10 (by decide) kz_1873 rfl rfl rfl rfl (Nat.le_of_ble_eq_true rfl) rfl ?_
  refine ct_aload0 dX10_init_92 ?_
  refine ct_sipush (500) dX10_init_93 (by decide) ?_
  refine ct_newarr 500 10 dX10_init_96 kz_176 (by decide) (by decide) (by decide) (by simp only [List.length_append, List.length_cons, List.length_nil, ct_l0, ct_l1, ct_l5, ct_l6, ct_l2, ct_l7, ct_l4, ct_l8, ct_l3]) (Nat.le_of_ble_eq_true rfl) (Nat.le_of_ble_eq_true rfl) ?_
  refine ct_putF 26 tyX10 [.ref (a + 1), .ref (a + 2), .ref (a + 3), .ref (a + 4), .ref (a + 5), .ref (a + 6), .int 0, .int 0, .int (-1), .ref (a + 7), .int 0, .int 0, .int (-1), .int 0, .int 0, .int 0, .int 0, .int 0, .int 0, .ref (a + 8), .ref (a + 9), .int 0, .int 0, .int 0, .int 0, .int 0, .ref (a + 10), .int 0] dX10_init_98 rfl in_10 tyX10_ok nmX10 (by decide) kz_1879 rfl rfl rfl rfl (Nat.le_of_ble_eq_true rfl) rfl ?_
  refine ct_toE (g := ev_gn g 516) (S := (fun q => if q < a then z.1 q else ct_row ct_t10 (q - a), (0, 0))) (Lv := [some (ev_o 10 a)]) (Nat.le_of_ble_eq_true rfl) (Nat.le_of_ble_eq_true rfl) rfl rfl (fun ls hl => ct_has hl rfl (fun i v hi => ?_)) (fun H0 H locs hEx hsz hS o t => ct_ws_P (fun i hi => ?_)) ?_
  · match i, hi with
    | 0, hi => cases hi; exact ⟨List.mem_cons_self, Or.inr (Or.inl rfl), 505, ha, by show 505 < 516; omega, by omega, (show ev_kd 505 = (10, 0) from by decide +kernel)⟩
    | i + 1, hi => simp at hi
  · have hi : i < 516 := hi
    by_cases h505 : i < 505
    · have h9 := ct_ws_at (g := ev_gn g 505) hEx i h505
      have h8 : va_at (ev_D g) ev_cl (ev_b g + i, ev_ent (ev_gn g 505) z (ev_b g + i)) H := va_at.kept h9 (hS.2.1 (ev_b g + i) (by omega) (by show ¬ a ≤ ev_b g + i; omega))
      have e : ev_ent (ev_gn g 516) (fun q => if q < a then z.1 q else ct_row ct_t10 (q - a), (0, 0)) (ev_b g + i) = ev_ent (ev_gn g 505) z (ev_b g + i) := by
        rw [ev_ent_n, ev_ent_n]
        show ev_en g _ (if ev_b g + i < a then z.1 (ev_b g + i) else _) (0, 0) _ = ev_en g _ (z.1 (ev_b g + i)) z.2 _
        rw [if_pos (by omega), hz2]
      show va_at (ev_D g) ev_cl (ev_b g + i, ev_ent (ev_gn g 516) _ (ev_b g + i)) H
      rw [e]
      exact h8
    · have hP : ct_P (ev_gn g 516) ct_t10 (ev_b (ev_gn g 516) + 505) H := by
        show ct_P (ev_gn g 516) ct_t10 (ev_b g + 505) H
        rw [← ha]
        exact ct_P.cons o t
      have h9 := ct_ent (g := ev_gn g 516) (S := (fun q => if q < a then z.1 q else ct_row ct_t10 (q - a), (0, 0))) (tl := ct_t10) (n0 := 505) ct_k10 (fun i _ => by
        show (if ev_b g + 505 + i < a then _ else ct_row ct_t10 (ev_b g + 505 + i - a)) = _
        rw [if_neg (by omega), ha, Nat.add_sub_cancel_left]) rfl hP (i - 505) (by show i - 505 < 11; omega)
      rw [show 505 + (i - 505) = i by omega] at h9
      exact h9
  · refine x10_end hp hz2.symm (fun q hq => if_pos hq) ?_ (fun s hs => ?_) ?_
    · show (if a + 1 < a then z.1 (a + 1) else ct_row ct_t10 (a + 1 - a)) = _
      rw [if_neg (by omega), Nat.add_sub_cancel_left]
      rfl
    · show (if a + 6 < a then z.1 (a + 6) else ct_row ct_t10 (a + 6 - a)) s = _
      rw [if_neg (by omega), Nat.add_sub_cancel_left]
      exact ct_r10.2 s hs
    · have e : (if a < a then z.1 a else ct_row ct_t10 (a - a)) = ct_row ct_t10 0 := by rw [if_neg (by omega), Nat.sub_self]
      show (if a < a then z.1 a else ct_row ct_t10 (a - a)) 6 = 0 ∧ (if a < a then z.1 a else ct_row ct_t10 (a - a)) 8 = -1 ∧ (if a < a then z.1 a else ct_row ct_t10 (a - a)) 11 = 0 ∧ (if a < a then z.1 a else ct_row ct_t10 (a - a)) 12 = -1 ∧ (if a < a then z.1 a else ct_row ct_t10 (a - a)) 23 = 0 ∧ (if a < a then z.1 a else ct_row ct_t10 (a - a)) 27 = 0
      rw [e]
      exact ct_r10.1
